/-! RELATION: keepRow, openRows (the store tells what was forgotten) -/
def F255 : Uf := ⟨[], [(113, 7), (113, 8)], [(113, 4)], [], [], false⟩
section Forget
variable {H : mu_H} {U V : Ud} {m d N us M : Nat} {C : Nat → Nat} {z : Nat → Nat} {S : Nat → Nat → Bool} {p : Nat → Bool}
theorem FRK.forget (hM : U.2.1 113 5 = nI M) (hM2 : M < 4096) : FRK (upF U 113 4 0 (fun _ => (-1 : Int32)) (M + 1 - 0)) N N := by
  refine ⟨fun k M' e5 hM' hk => Or.inl ?_, fun id st fc h1 h2 => absurd h1 (by omega)⟩
  have e5 : U.2.1 113 5 = nI M' := e5
  have eM : M = M' := nI_inj (by omega) (by omega) (hM.symm.trans e5)
  show (if 0 ≤ k ∧ k < 0 + (M + 1 - 0) then (-1 : Int32) else (U.2.2.1 113 4).2 k) = -1
  rw [if_pos ⟨Nat.zero_le _, by omega⟩]
theorem st_forgetN (h : um m H) (e : ud m H = U) (hM : U.2.1 113 5 = nI M) (hM2 : M < 4096) (hS : SOK U N us S z p) : mu_TV (mu_D (d + 3)) 255 [.inr (.inr (some 113))] H (fun H1 => um m H1 ∧ ur m C H H1 ∧ uq F255 U (ud m H1) ∧ SOK (ud m H1) N us S z p ∧ FRK (ud m H1) N N ∧ (ud m H1).2.1 113 7 = nI us ∧ (ud m H1).2.1 113 8 = nI N) := by
  refine (st_forget (d := d) (C := C) h e hM hM2).imp (fun H1 q => ?_)
  obtain ⟨q1, q2, q3⟩ := q
  rw [q3]
  exact ⟨q1, q2, (((uq.refl F255 U).F rfl).I rfl).I rfl, (SOK.forget hS hM (by omega)).eq rfl rfl rfl rfl rfl rfl, (FRK.forget hM hM2).same rfl rfl rfl rfl, hS.1.1, hS.1.2.2.1⟩
end Forget
section KeepRow
variable {H : mu_H} {U V : Ud} {m d s c n N us fb : Nat} {C : Nat → Nat} {ls z : Nat → Nat} {S : Nat → Nat → Bool} {p : Nat → Bool}
/-- PathProver$Relation.keepRow(I)V -/
abbrev mu_m296 : ev_M := (2, none, [], ev_b296)
theorem mu_g296 : mu_good mu_m296 := mu_goodk ev_k296
theorem rl_keepRow (h : um m H) (e : ud m H = U) (h11 : U.2.1 129 11 = nI n) (hls : ∀ i, i < n → (U.2.2.1 129 10).2 i = nI (ls i)) (hlr : ∀ i j, i < j → j < n → ls i < ls j) (hlb : ∀ i, i < n → ls i < 16384) (hnl : n ≤ (U.2.2.1 129 10).1) (hnl2 : (U.2.2.1 129 10).1 < 2147483648) (hSO : SOK U N us S z p) (hN5 : N < 524288) (hFK : FRK U N fb) (hfN : fb ≤ N) (h22 : U.2.1 113 8 = nI fb) (hs6 : s < (U.2.2.1 129 6).1) (hs6b : (U.2.2.1 129 6).1 ≤ 16777216) (hs7 : s < (U.2.2.1 129 7).1) (hs7b : (U.2.2.1 129 7).1 ≤ 16777216) (hcl : (U.2.2.1 129 7).2 s = nI c) (hc8 : c < (U.2.2.1 129 8).1) (hc8b : (U.2.2.1 129 8).1 ≤ 16777216) : mu_TV (mu_D (d + 5)) 296 [.inr (.inr (some 129)), .inl (nI s)] H (fun H1 => um m H1 ∧ ur m C H H1 ∧ ∃ W id, ADD U W N us S z p ls n id ∧ fb ≤ id ∧ (∃ N1, W.2.1 113 2 = nI N1 ∧ (N ≤ N1 ∧ N1 ≤ N + 1) ∧ FRK W N1 fb) ∧ ud m H1 = upA (upA W 129 6 s (nI (id - fb))) 129 8 c (nI (id - fb))) := by
  refine mu_meth (M := mu_m296) rfl rfl ?_
  refine mw_ht (mu_fn_of (show [0, 1].Nodup by decide)) ?_
  refine mw_go mu_g296 (k := 2) (f1 := (4, [(0, .inr (.inr (some 129))), (1, .inl (nI s))], [.inr (.inr (mu_r H 129 6))], H)) (C := [mu_is H (some 129) 9]) rfl (show mu_is H (some 129) 9 from (h.1.1.is rfl)) ?_
  rw [(show mu_r H 129 6 = (U.2.2.2.1 129 6) from (ud_q (U := U) (m := m) (P := 129) (j := 6) e rfl))]
  refine mw_go mu_g296 (k := 3) (f1 := (9, [(0, .inr (.inr (some 129))), (1, .inl (nI s))], [.inr (.inr (mu_r H 129 0)), .inl (nI s), .inr (.inr (U.2.2.2.1 129 6))], H)) (C := [mu_is H (some 129) 9]) rfl (show mu_is H (some 129) 9 from (h.1.1.is rfl)) ?_
  rw [(h.1.1.r (p := 129) (j := 0) (q := 99) rfl)]
  refine mw_go mu_g296 (k := 1) (f1 := (12, [(0, .inr (.inr (some 129))), (1, .inl (nI s))], [.inr (.inr (mu_r H 99 2)), .inl (nI s), .inr (.inr (U.2.2.2.1 129 6))], H)) (C := [mu_is H (some 99) 13]) rfl (show mu_is H (some 99) 13 from (h.1.1.is rfl)) ?_
  rw [(h.1.1.r (p := 99) (j := 2) (q := 113) rfl)]
  refine mw_go mu_g296 (k := 2) (f1 := (16, [(0, .inr (.inr (some 129))), (1, .inl (nI s))], [.inr (.inr (mu_r H 129 10)), .inr (.inr (some 113)), .inl (nI s), .inr (.inr (U.2.2.2.1 129 6))], H)) (C := [mu_is H (some 129) 9]) rfl (show mu_is H (some 129) 9 from (h.1.1.is rfl)) ?_
  rw [(show mu_r H 129 10 = (U.2.2.2.1 129 10) from (ud_q (U := U) (m := m) (P := 129) (j := 10) e rfl))]
  refine mw_go mu_g296 (k := 2) (f1 := (20, [(0, .inr (.inr (some 129))), (1, .inl (nI s))], [.inl (mu_i H 129 11), .inr (.inr (U.2.2.2.1 129 10)), .inr (.inr (some 113)), .inl (nI s), .inr (.inr (U.2.2.2.1 129 6))], H)) (C := [mu_is H (some 129) 9]) rfl (show mu_is H (some 129) 9 from (h.1.1.is rfl)) ?_
  rw [(show mu_i H 129 11 = (nI n) from (ud_i (U := U) (m := m) (P := 129) (j := 11) e rfl).trans h11)]
  refine mw_cI (fun _ => rfl) (show mu_is H (some 113) 11 from (h.1.1.is rfl)) (st_addK_129 (d := d) (C := C) (n := n) (ls := ls) h e hls (by omega) (by omega) hlb hlr hSO hN5 hFK hfN) (fun x1 Q1 q1 => ?_)
  obtain ⟨id, rfl, u1, r1, ⟨z1, hAo, hAr⟩, hfi, hN1⟩ := q1
  have ht1 : ur m C H Q1 := (ur.refl m C H).trans r1
  obtain ⟨V1, d1⟩ : ∃ V, ud m Q1 = V := ⟨_, rfl⟩
  rw [d1] at z1 hAo hAr hN1
  have hAD : ADD U V1 N us S z p ls n id := ⟨z1, hAo, hAr⟩
  have hidb : id ≤ 524289 := by obtain ⟨y1, y2, y3, y4, y5, y6, y7, y8, y9⟩ := hAr; have y10 := y7.1.2.2.2; omega
  refine mw_go mu_g296 (k := 2) (f1 := (27, [(0, .inr (.inr (some 129))), (1, .inl (nI s))], [.inr (.inr (mu_r Q1 129 0)), .inl (nI id), .inl (nI s), .inr (.inr (U.2.2.2.1 129 6))], Q1)) (C := [mu_is Q1 (some 129) 9]) rfl (show mu_is Q1 (some 129) 9 from (u1.1.1.is rfl)) ?_
  rw [(u1.1.1.r (p := 129) (j := 0) (q := 99) rfl)]
  refine mw_go mu_g296 (k := 1) (f1 := (30, [(0, .inr (.inr (some 129))), (1, .inl (nI s))], [.inr (.inr (mu_r Q1 99 2)), .inl (nI id), .inl (nI s), .inr (.inr (U.2.2.2.1 129 6))], Q1)) (C := [mu_is Q1 (some 99) 13]) rfl (show mu_is Q1 (some 99) 13 from (u1.1.1.is rfl)) ?_
  rw [(u1.1.1.r (p := 99) (j := 2) (q := 113) rfl)]
  refine mw_go mu_g296 (k := 1) (f1 := (33, [(0, .inr (.inr (some 129))), (1, .inl (nI s))], [.inl (mu_i Q1 113 8), .inl (nI id), .inl (nI s), .inr (.inr (U.2.2.2.1 129 6))], Q1)) (C := [mu_is Q1 (some 113) 11]) rfl (show mu_is Q1 (some 113) 11 from (u1.1.1.is rfl)) ?_
  rw [(show mu_i Q1 113 8 = (nI fb) from (ud_i (U := V1) (m := m) (P := 113) (j := 8) d1 rfl).trans ((z1.i 113 8 rfl).trans h22))]
  refine mw_go mu_g296 (k := 1) (f1 := (34, [(0, .inr (.inr (some 129))), (1, .inl (nI s))], [.inl ((nI id) - (nI fb)), .inl (nI s), .inr (.inr (U.2.2.2.1 129 6))], Q1)) (C := []) rfl trivial ?_
  rw [(show ((nI id) - (nI fb)) = (nI (id - fb)) from (nI_sub (a := id) (b := fb) (by omega)))]
  refine mw_go mu_g296 (k := 1) (f1 := (35, [(0, .inr (.inr (some 129))), (1, .inl (nI s))], [], (mu_si Q1 (mu_p (U.2.2.2.1 129 6)) (nI s).toNatClampNeg (nI (id - fb))))) (C := [mu_is Q1 (U.2.2.2.1 129 6) 100, vp_in (nI s) (mu_n Q1 (mu_p (U.2.2.2.1 129 6)))]) rfl (show (mu_is Q1 (U.2.2.2.1 129 6) 100) ∧ (vp_in (nI s) (mu_n Q1 (mu_p (U.2.2.2.1 129 6)))) from ⟨(u1.iA d1 rfl rfl (show V1.2.2.2.1 129 6 = (U.2.2.2.1 129 6) from (z1.r 129 6 rfl))), (u1.vA (i := s) d1 rfl rfl (show V1.2.2.2.1 129 6 = (U.2.2.2.1 129 6) from (z1.r 129 6 rfl)) (show (V1.2.2.1 129 6).1 = (U.2.2.1 129 6).1 from (z1.n 129 6 rfl)) (by omega) (by omega))⟩) ?_
  rw [(show (nI s).toNatClampNeg = s from nI_clamp (by omega))]
  obtain ⟨u2, r2, d2⟩ : um m (mu_si Q1 (mu_p (U.2.2.2.1 129 6)) s (nI (id - fb))) ∧ ur m C Q1 (mu_si Q1 (mu_p (U.2.2.2.1 129 6)) s (nI (id - fb))) ∧ ud m (mu_si Q1 (mu_p (U.2.2.2.1 129 6)) s (nI (id - fb))) = (upA V1 129 6 s (nI (id - fb))) := u1.sA (C := C) d1 rfl rfl (show V1.2.2.2.1 129 6 = (U.2.2.2.1 129 6) from (z1.r 129 6 rfl))
  generalize (mu_si Q1 (mu_p (U.2.2.2.1 129 6)) s (nI (id - fb))) = Q2 at u2 r2 d2 ⊢
  have ht2 : ur m C H Q2 := ht1.trans r2
  refine mw_go mu_g296 (k := 2) (f1 := (39, [(0, .inr (.inr (some 129))), (1, .inl (nI s))], [.inr (.inr (mu_r Q2 129 8))], Q2)) (C := [mu_is Q2 (some 129) 9]) rfl (show mu_is Q2 (some 129) 9 from (u2.1.1.is rfl)) ?_
  rw [(show mu_r Q2 129 8 = (U.2.2.2.1 129 8) from (ud_q (U := (upA V1 129 6 s (nI (id - fb)))) (m := m) (P := 129) (j := 8) d2 rfl).trans (z1.r 129 8 rfl))]
  refine mw_go mu_g296 (k := 2) (f1 := (43, [(0, .inr (.inr (some 129))), (1, .inl (nI s))], [.inr (.inr (mu_r Q2 129 7)), .inr (.inr (U.2.2.2.1 129 8))], Q2)) (C := [mu_is Q2 (some 129) 9]) rfl (show mu_is Q2 (some 129) 9 from (u2.1.1.is rfl)) ?_
  rw [(show mu_r Q2 129 7 = (U.2.2.2.1 129 7) from (ud_q (U := (upA V1 129 6 s (nI (id - fb)))) (m := m) (P := 129) (j := 7) d2 rfl).trans (z1.r 129 7 rfl))]
  refine mw_go mu_g296 (k := 2) (f1 := (45, [(0, .inr (.inr (some 129))), (1, .inl (nI s))], [.inl (mu_i Q2 (mu_p (U.2.2.2.1 129 7)) (nI s).toNatClampNeg), .inr (.inr (U.2.2.2.1 129 8))], Q2)) (C := [mu_isr Q2 (U.2.2.2.1 129 7) 100, vp_in (nI s) (mu_n Q2 (mu_p (U.2.2.2.1 129 7)))]) rfl (show (mu_isr Q2 (U.2.2.2.1 129 7) 100) ∧ (vp_in (nI s) (mu_n Q2 (mu_p (U.2.2.2.1 129 7)))) from ⟨((u2.iA d2 rfl rfl (show (upA V1 129 6 s (nI (id - fb))).2.2.2.1 129 7 = (U.2.2.2.1 129 7) from (z1.r 129 7 rfl)))).r, (u2.vA (i := s) d2 rfl rfl (show (upA V1 129 6 s (nI (id - fb))).2.2.2.1 129 7 = (U.2.2.2.1 129 7) from (z1.r 129 7 rfl)) (show ((upA V1 129 6 s (nI (id - fb))).2.2.1 129 7).1 = (U.2.2.1 129 7).1 from (z1.n 129 7 rfl)) (by omega) (by omega))⟩) ?_
  rw [(show (mu_i Q2 (mu_p (U.2.2.2.1 129 7)) (nI s).toNatClampNeg) = (nI c) from ((congrArg (mu_i Q2 (mu_p (U.2.2.2.1 129 7))) (show (nI s).toNatClampNeg = s from nI_clamp (by omega))).trans (u2.gA d2 rfl rfl (show (upA V1 129 6 s (nI (id - fb))).2.2.2.1 129 7 = (U.2.2.2.1 129 7) from (z1.r 129 7 rfl)))).trans ((congrArg (fun z => z.2 s) (show (upA V1 129 6 s (nI (id - fb))).2.2.1 129 7 = (U.2.2.1 129 7) from (z1.a 129 7 rfl))).trans hcl))]
  refine mw_go mu_g296 (k := 2) (f1 := (49, [(0, .inr (.inr (some 129))), (1, .inl (nI s))], [.inr (.inr (mu_r Q2 129 6)), .inl (nI c), .inr (.inr (U.2.2.2.1 129 8))], Q2)) (C := [mu_is Q2 (some 129) 9]) rfl (show mu_is Q2 (some 129) 9 from (u2.1.1.is rfl)) ?_
  rw [(show mu_r Q2 129 6 = (U.2.2.2.1 129 6) from (ud_q (U := (upA V1 129 6 s (nI (id - fb)))) (m := m) (P := 129) (j := 6) d2 rfl).trans (z1.r 129 6 rfl))]
  refine mw_go mu_g296 (k := 2) (f1 := (51, [(0, .inr (.inr (some 129))), (1, .inl (nI s))], [.inl (mu_i Q2 (mu_p (U.2.2.2.1 129 6)) (nI s).toNatClampNeg), .inl (nI c), .inr (.inr (U.2.2.2.1 129 8))], Q2)) (C := [mu_isr Q2 (U.2.2.2.1 129 6) 100, vp_in (nI s) (mu_n Q2 (mu_p (U.2.2.2.1 129 6)))]) rfl (show (mu_isr Q2 (U.2.2.2.1 129 6) 100) ∧ (vp_in (nI s) (mu_n Q2 (mu_p (U.2.2.2.1 129 6)))) from ⟨((u2.iA d2 rfl rfl (show (upA V1 129 6 s (nI (id - fb))).2.2.2.1 129 6 = (U.2.2.2.1 129 6) from (z1.r 129 6 rfl)))).r, (u2.vA (i := s) d2 rfl rfl (show (upA V1 129 6 s (nI (id - fb))).2.2.2.1 129 6 = (U.2.2.2.1 129 6) from (z1.r 129 6 rfl)) (show ((upA V1 129 6 s (nI (id - fb))).2.2.1 129 6).1 = (U.2.2.1 129 6).1 from (z1.n 129 6 rfl)) (by omega) (by omega))⟩) ?_
  rw [(show (mu_i Q2 (mu_p (U.2.2.2.1 129 6)) (nI s).toNatClampNeg) = (nI (id - fb)) from ((congrArg (mu_i Q2 (mu_p (U.2.2.2.1 129 6))) (show (nI s).toNatClampNeg = s from nI_clamp (by omega))).trans (u2.gA d2 rfl rfl (show (upA V1 129 6 s (nI (id - fb))).2.2.2.1 129 6 = (U.2.2.2.1 129 6) from (z1.r 129 6 rfl)))).trans ((congrArg (fun z => z.2 s) (show (upA V1 129 6 s (nI (id - fb))).2.2.1 129 6 = ((upA V1 129 6 s (nI (id - fb))).2.2.1 129 6) from rfl)).trans (if_pos rfl)))]
  refine mw_go mu_g296 (k := 1) (f1 := (52, [(0, .inr (.inr (some 129))), (1, .inl (nI s))], [], (mu_si Q2 (mu_p (U.2.2.2.1 129 8)) (nI c).toNatClampNeg (nI (id - fb))))) (C := [mu_is Q2 (U.2.2.2.1 129 8) 100, vp_in (nI c) (mu_n Q2 (mu_p (U.2.2.2.1 129 8)))]) rfl (show (mu_is Q2 (U.2.2.2.1 129 8) 100) ∧ (vp_in (nI c) (mu_n Q2 (mu_p (U.2.2.2.1 129 8)))) from ⟨(u2.iA d2 rfl rfl (show (upA V1 129 6 s (nI (id - fb))).2.2.2.1 129 8 = (U.2.2.2.1 129 8) from (z1.r 129 8 rfl))), (u2.vA (i := c) d2 rfl rfl (show (upA V1 129 6 s (nI (id - fb))).2.2.2.1 129 8 = (U.2.2.2.1 129 8) from (z1.r 129 8 rfl)) (show ((upA V1 129 6 s (nI (id - fb))).2.2.1 129 8).1 = (U.2.2.1 129 8).1 from (z1.n 129 8 rfl)) (by omega) (by omega))⟩) ?_
  rw [(show (nI c).toNatClampNeg = c from nI_clamp (by omega))]
  obtain ⟨u3, r3, d3⟩ : um m (mu_si Q2 (mu_p (U.2.2.2.1 129 8)) c (nI (id - fb))) ∧ ur m C Q2 (mu_si Q2 (mu_p (U.2.2.2.1 129 8)) c (nI (id - fb))) ∧ ud m (mu_si Q2 (mu_p (U.2.2.2.1 129 8)) c (nI (id - fb))) = (upA (upA V1 129 6 s (nI (id - fb))) 129 8 c (nI (id - fb))) := u2.sA (C := C) d2 rfl rfl (show (upA V1 129 6 s (nI (id - fb))).2.2.2.1 129 8 = (U.2.2.2.1 129 8) from (z1.r 129 8 rfl))
  generalize (mu_si Q2 (mu_p (U.2.2.2.1 129 8)) c (nI (id - fb))) = Q3 at u3 r3 d3 ⊢
  have ht3 : ur m C H Q3 := ht2.trans r3
  exact mw_of (fun _ => mu_ret rfl trivial ⟨Q3, rfl, u3, ht3, _, id, hAD, hfi, hN1, d3⟩)
end KeepRow
/-- the level in whose chain a factor is, or none: P -/
def lcz (tm : Nat → Int32) (lv : Nat → Nat) (P q : Nat) : Nat := if tm q = 0 ∨ ¬ one1 (tm q) = 0 then P else lv q
section OpenRows
variable {H : mu_H} {U V : Ud} {m d P N us M nf T : Nat} {C : Nat → Nat} {f lv z : Nat → Nat} {tm : Nat → Int32} {S : Nat → Nat → Bool} {p : Nat → Bool}
theorem chain_set {t : Tb} {r c q : Nat} {v : Int32} (hr : r < t.1) (hr2 : t.1 ≤ 67108864) : (tset 6 t (nI r) 5 v).1 = t.1 ∧ (tset 6 t (nI r) 5 v).2 q c = if q = r ∧ c = 5 then v else t.2 q c := by
  unfold tset
  rw [if_neg (nI_pos (by omega)), nI_clamp (by omega), if_pos ⟨hr, by decide⟩]
  exact ⟨rfl, rfl⟩
theorem lcz_out {q : Nat} (h : tm q = 0 ∨ ¬ one1 (tm q) = 0) : lcz tm lv P q = P := if_pos h
theorem lcz_in {q : Nat} (h : ¬ tm q = 0) (h1 : one1 (tm q) = 0) : lcz tm lv P q = lv q := if_neg (fun y => y.elim h (fun y => y h1))
theorem lsf_mis {k r : Nat} {lc : Nat → Nat} (h : ¬ lc r = k) : lsf lc k (r + 1) = lsf lc k r := if_neg h
theorem lsf_hit {k r : Nat} {lc : Nat → Nat} (h : lc r = k) : lsf lc k (r + 1) = nI r := if_pos h
def F294 : Uf := ⟨[24], [(113, 1), (113, 2), (113, 7), (113, 8)], [(113, 3), (113, 4), (129, 8), (129, 15)], [(113, 3)], [117], true⟩
theorem TMK_in {t : Int32} {l : Nat} (h : TMK t l P) (h0 : ¬ t = 0) : l < P ∧ l < 14 := by
  obtain ⟨n, e, hn, hl, y | y⟩ := h
  · exact absurd (by rw [e, y]; rfl) h0
  · exact ⟨y.1, hl⟩
def F294a : Uf := ⟨[24], [], [(129, 15)], [], [], false⟩
/-- PathProver$Relation.openRows()V -/
abbrev mu_m294 : ev_M := (3, none, [], ev_b294)
theorem mu_g294 : mu_good mu_m294 := mu_goodk ev_k294
theorem rl_openRows (h : um m H) (e : ud m H = U) (hSO : SOK U N us S z p) (hN5 : N < 524288) (hM5 : U.2.1 113 5 = nI M) (hM4 : M < 4096) (hT : U.2.1 99 11 = nI T) (hTb : T ≤ 16384) (h8 : T + 1 ≤ (U.2.2.1 129 8).1) (h8b : (U.2.2.1 129 8).1 ≤ 16777216) (h10b : (U.2.2.1 129 10).1 ≤ 16777216) (hP : P ≤ 14) (hnf : (U.1 24).1 = nf) (hnfb : nf ≤ 67108864) (hlv : ∀ r, r < nf → ((U.1 24).2 r 1 = tm r ∧ (U.1 24).2 r 4 = lvz (tm r) (lv r)) ∧ TMK (tm r) (lv r) P) : mu_TV (mu_D (d + 5)) 294 [.inr (.inr (some 129))] H (fun H1 => um m H1 ∧ ur m C H H1 ∧ uq F294 U (ud m H1) ∧ (∃ X W id0, SOK X N us S z p ∧ ADD X W N us S z p (fun _ => 0) 0 id0 ∧ N ≤ id0 ∧ (∃ N1, W.2.1 113 2 = nI N1 ∧ (N ≤ N1 ∧ N1 ≤ N + 1) ∧ FRK W N1 N) ∧ (ud m H1).2.1 113 1 = W.2.1 113 1 ∧ (ud m H1).2.1 113 2 = W.2.1 113 2 ∧ (ud m H1).2.1 113 5 = W.2.1 113 5 ∧ (ud m H1).2.2.1 113 3 = W.2.2.1 113 3 ∧ (ud m H1).2.2.1 113 4 = W.2.2.1 113 4 ∧ (ud m H1).2.2.2.2.2 = W.2.2.2.2.2) ∧ ((ud m H1).2.1 113 7 = nI us ∧ (ud m H1).2.1 113 8 = nI N) ∧ (((ud m H1).1 24).1 = nf ∧ ∀ q c, ¬ c = 5 → ((ud m H1).1 24).2 q c = (U.1 24).2 q c) ∧ CHN (ud m H1) P nf (lcz tm lv P) ∧ ∀ j, j ≤ T → ((ud m H1).2.2.1 129 8).2 j = -1) := by
  refine mu_meth (M := mu_m294) rfl rfl ?_
  refine mw_ht (mu_fn_of (show [0].Nodup by decide)) ?_
  refine mw_go mu_g294 (k := 2) (f1 := (4, [(0, .inr (.inr (some 129)))], [.inr (.inr (mu_r H 129 0))], H)) (C := [mu_is H (some 129) 9]) rfl (show mu_is H (some 129) 9 from (h.1.1.is rfl)) ?_
  rw [(h.1.1.r (p := 129) (j := 0) (q := 99) rfl)]
  refine mw_go mu_g294 (k := 1) (f1 := (7, [(0, .inr (.inr (some 129)))], [.inr (.inr (mu_r H 99 2))], H)) (C := [mu_is H (some 99) 13]) rfl (show mu_is H (some 99) 13 from (h.1.1.is rfl)) ?_
  rw [(h.1.1.r (p := 99) (j := 2) (q := 113) rfl)]
  refine mw_cV (fun _ => rfl) (show mu_is H (some 113) 11 from (h.1.1.is rfl)) (st_forgetN (d := (d + 1)) (C := C) (M := M) h e hM5 hM4 hSO) (fun Q1 q1 => ?_)
  obtain ⟨u1, r1, z1, hSf, hFf, hf7, hf8⟩ := q1
  have ht1 : ur m C H Q1 := (ur.refl m C H).trans r1
  obtain ⟨V1, d1⟩ : ∃ V, ud m Q1 = V := ⟨_, rfl⟩
  rw [d1] at z1 hSf hFf hf7 hf8
  have qf1 : uq F294 U V1 := (uq.refl F294 U).tr z1 rfl
  refine mw_go mu_g294 (k := 2) (f1 := (14, [(0, .inr (.inr (some 129)))], [.inr (.inr (mu_r Q1 129 0))], Q1)) (C := [mu_is Q1 (some 129) 9]) rfl (show mu_is Q1 (some 129) 9 from (u1.1.1.is rfl)) ?_
  rw [(u1.1.1.r (p := 129) (j := 0) (q := 99) rfl)]
  refine mw_go mu_g294 (k := 1) (f1 := (17, [(0, .inr (.inr (some 129)))], [.inr (.inr (mu_r Q1 99 2))], Q1)) (C := [mu_is Q1 (some 99) 13]) rfl (show mu_is Q1 (some 99) 13 from (u1.1.1.is rfl)) ?_
  rw [(u1.1.1.r (p := 99) (j := 2) (q := 113) rfl)]
  refine mw_go mu_g294 (k := 2) (f1 := (21, [(0, .inr (.inr (some 129)))], [.inr (.inr (mu_r Q1 129 10)), .inr (.inr (some 113))], Q1)) (C := [mu_is Q1 (some 129) 9]) rfl (show mu_is Q1 (some 129) 9 from (u1.1.1.is rfl)) ?_
  rw [(show mu_r Q1 129 10 = (U.2.2.2.1 129 10) from (ud_q (U := V1) (m := m) (P := 129) (j := 10) d1 rfl).trans (z1.r 129 10 rfl))]
  refine mw_go mu_g294 (k := 1) (f1 := (22, [(0, .inr (.inr (some 129)))], [.inl (0 : Int32), .inr (.inr (U.2.2.2.1 129 10)), .inr (.inr (some 113))], Q1)) (C := []) rfl trivial ?_
  refine mw_cI (fun _ => rfl) (show mu_is Q1 (some 113) 11 from (u1.1.1.is rfl)) (by have y := st_addK_129 (d := d) (C := C) (U := V1) (n := 0) (ls := fun _ => 0) (N := N) (us := us) (S := S) (z := z) (p := p) (fb := N) u1 d1 (fun i y => absurd y (Nat.not_lt_zero i)) (Nat.zero_le _) (by rw [(show (V1.2.2.1 129 10).1 = (U.2.2.1 129 10).1 from (z1.n 129 10 rfl))]; omega) (fun i y => absurd y (Nat.not_lt_zero i)) (fun i j _ y => absurd y (Nat.not_lt_zero j)) hSf hN5 hFf (Nat.le_refl _); rw [show V1.2.2.2.1 129 10 = U.2.2.2.1 129 10 from (z1.r 129 10 rfl)] at y; exact y) (fun x2 Q2 q2 => ?_)
  obtain ⟨id0, rfl, u2, r2, ⟨z2, hAo, hAr⟩, hfi, hN1⟩ := q2
  have ht2 : ur m C H Q2 := ht1.trans r2
  obtain ⟨V2, d2⟩ : ∃ V, ud m Q2 = V := ⟨_, rfl⟩
  rw [d2] at z2 hAo hAr hN1
  have qf2 : uq F294 U V2 := qf1.tr z2 rfl
  have hAD : ADD V1 V2 N us S z p (fun _ => 0) 0 id0 := ⟨z2, hAo, hAr⟩
  refine mw_go mu_g294 (k := 3) (f1 := (30, [(0, .inr (.inr (some 129)))], [.inr (.inr (mu_r Q2 129 8))], Q2)) (C := [mu_is Q2 (some 129) 9]) rfl (show mu_is Q2 (some 129) 9 from (u2.1.1.is rfl)) ?_
  rw [(show mu_r Q2 129 8 = (U.2.2.2.1 129 8) from (ud_q (U := V2) (m := m) (P := 129) (j := 8) d2 rfl).trans ((z2.r 129 8 rfl).trans (z1.r 129 8 rfl)))]
  refine mw_go mu_g294 (k := 3) (f1 := (35, [(0, .inr (.inr (some 129)))], [.inr (.inr (mu_r Q2 129 0)), .inl (0 : Int32), .inr (.inr (U.2.2.2.1 129 8))], Q2)) (C := [mu_is Q2 (some 129) 9]) rfl (show mu_is Q2 (some 129) 9 from (u2.1.1.is rfl)) ?_
  rw [(u2.1.1.r (p := 129) (j := 0) (q := 99) rfl)]
  refine mw_go mu_g294 (k := 1) (f1 := (38, [(0, .inr (.inr (some 129)))], [.inl (mu_i Q2 99 11), .inl (0 : Int32), .inr (.inr (U.2.2.2.1 129 8))], Q2)) (C := [mu_is Q2 (some 99) 13]) rfl (show mu_is Q2 (some 99) 13 from (u2.1.1.is rfl)) ?_
  rw [(show mu_i Q2 99 11 = (nI T) from (ud_i (U := V2) (m := m) (P := 99) (j := 11) d2 rfl).trans ((z2.i 99 11 rfl).trans ((z1.i 99 11 rfl).trans hT)))]
  refine mw_go mu_g294 (k := 2) (f1 := (40, [(0, .inr (.inr (some 129)))], [.inl ((nI T) + (1 : Int32)), .inl (0 : Int32), .inr (.inr (U.2.2.2.1 129 8))], Q2)) (C := []) rfl trivial ?_
  rw [(show ((nI T) + (1 : Int32)) = (nI (T + 1)) from (nI_add T 1))]
  refine mw_go mu_g294 (k := 1) (f1 := (41, [(0, .inr (.inr (some 129)))], [.inl (-1 : Int32), .inl (nI (T + 1)), .inl (0 : Int32), .inr (.inr (U.2.2.2.1 129 8))], Q2)) (C := []) rfl trivial ?_
  refine mw_cV (fun _ => rfl) trivial ((ar_fillR_ok (d := (d + 2)) (v := (-1 : Int32)) (u2.iA d2 rfl rfl (show V2.2.2.2.1 129 8 = (U.2.2.2.1 129 8) from ((z2.r 129 8 rfl).trans (z1.r 129 8 rfl)))) (show 0 ≤ T + 1 by omega) (by rw [show mu_n Q2 (mu_p (U.2.2.2.1 129 8)) = (U.2.2.1 129 8).1 from (u2.nA d2 rfl rfl (show V2.2.2.2.1 129 8 = (U.2.2.2.1 129 8) from ((z2.r 129 8 rfl).trans (z1.r 129 8 rfl))) (show (V2.2.2.1 129 8).1 = (U.2.2.1 129 8).1 from ((z2.n 129 8 rfl).trans (z1.n 129 8 rfl))))]; omega) (by rw [show mu_n Q2 (mu_p (U.2.2.2.1 129 8)) = (U.2.2.1 129 8).1 from (u2.nA d2 rfl rfl (show V2.2.2.2.1 129 8 = (U.2.2.2.1 129 8) from ((z2.r 129 8 rfl).trans (z1.r 129 8 rfl))) (show (V2.2.2.1 129 8).1 = (U.2.2.1 129 8).1 from ((z2.n 129 8 rfl).trans (z1.n 129 8 rfl))))]; omega)).imp (fun Hx qx => show um m Hx ∧ ur m C Q2 Hx ∧ ud m Hx = (upF V2 129 8 0 (fun _ => (-1 : Int32)) ((T + 1) - 0)) by rw [qx]; exact u2.fA (C := C) d2 rfl rfl (show V2.2.2.2.1 129 8 = (U.2.2.2.1 129 8) from ((z2.r 129 8 rfl).trans (z1.r 129 8 rfl))))) (fun Q3 q3 => ?_)
  obtain ⟨u3, r3, d3⟩ := q3
  have ht3 : ur m C H Q3 := ht2.trans r3
  have qf3 : uq F294 U (upF V2 129 8 0 (fun _ => (-1 : Int32)) ((T + 1) - 0)) := qf2.F rfl
  refine mw_go mu_g294 (k := 2) (f1 := (48, [(0, .inr (.inr (some 129)))], [.inr (.inr (mu_r Q3 129 15))], Q3)) (C := [mu_is Q3 (some 129) 9]) rfl (show mu_is Q3 (some 129) 9 from (u3.1.1.is rfl)) ?_
  rw [(u3.1.1.r (p := 129) (j := 15) (q := 143) rfl)]
  refine mw_go mu_g294 (k := 1) (f1 := (49, [(0, .inr (.inr (some 129)))], [.inl (-1 : Int32), .inr (.inr (some 143))], Q3)) (C := []) rfl trivial ?_
  refine mw_cV (fun _ => rfl) trivial ((ar_fill_ok (d := (d + 3)) (v := (-1 : Int32)) (n := 14) (u3.iA d3 rfl rfl ((ud_q (m := m) (P := 129) (j := 15) d3 rfl).symm.trans (u3.1.1.r (p := 129) (j := 15) (q := 143) rfl))) (show mu_n Q3 (mu_p (some 143)) = 14 from (u3.1.1.a (p := 143) (x := (100, 14)) rfl).2) (by decide)).imp (fun Hx qx => show um m Hx ∧ ur m C Q3 Hx ∧ ud m Hx = (upF (upF V2 129 8 0 (fun _ => (-1 : Int32)) ((T + 1) - 0)) 129 15 0 (fun _ => (-1 : Int32)) 14) by rw [qx]; exact u3.fA (C := C) d3 rfl rfl ((ud_q (m := m) (P := 129) (j := 15) d3 rfl).symm.trans (u3.1.1.r (p := 129) (j := 15) (q := 143) rfl)))) (fun Q4 q4 => ?_)
  obtain ⟨u4, r4, d4⟩ := q4
  have ht4 : ur m C H Q4 := ht3.trans r4
  have qf4 : uq F294 U (upF (upF V2 129 8 0 (fun _ => (-1 : Int32)) ((T + 1) - 0)) 129 15 0 (fun _ => (-1 : Int32)) 14) := qf3.F rfl
  refine mw_go mu_g294 (k := 2) (f1 := (54, [(1, .inl (0 : Int32)), (0, .inr (.inr (some 129)))], [], Q4)) (C := []) rfl trivial ?_
  show mu_W _ _ (54, [(1, .inl (nI 0)), (0, .inr (.inr (some 129)))], [], Q4) _
  refine mw_sub (L' := [(1, .inl (nI 0)), (0, .inr (.inr (some 129)))]) (by simp) ?_
  refine mw_down (α := Nat × mu_H) (fun zs => (54, [(1, .inl (nI zs.1)), (0, .inr (.inr (some 129)))], [], zs.2)) (fun zs => nf - zs.1) (fun zs => um m zs.2 ∧ ur m C H zs.2 ∧ (uq F294a (upF (upF V2 129 8 0 (fun _ => (-1 : Int32)) ((T + 1) - 0)) 129 15 0 (fun _ => (-1 : Int32)) 14) (ud m zs.2)) ∧ (zs.1 ≤ nf) ∧ (∀ k, k < P → ((ud m zs.2).2.2.1 129 15).2 k = lsf (lcz tm lv P) k zs.1) ∧ (((ud m zs.2).1 24).1 = nf ∧ (∀ q c, ¬ (q < zs.1 ∧ c = 5) → ((ud m zs.2).1 24).2 q c = (U.1 24).2 q c) ∧ ∀ q, q < zs.1 → lcz tm lv P q < P → ((ud m zs.2).1 24).2 q 5 = lsf (lcz tm lv P) (lcz tm lv P q) q)) (fun zs hza iha => ?_) (0, Q4) ⟨u4, ht4, (show uq F294a (upF (upF V2 129 8 0 (fun _ => (-1 : Int32)) ((T + 1) - 0)) 129 15 0 (fun _ => (-1 : Int32)) 14) (ud m Q4) from by rw [d4]; exact uq.refl _ _), (show 0 ≤ nf from (by omega)), (show ∀ k, k < P → ((ud m Q4).2.2.1 129 15).2 k = lsf (lcz tm lv P) k 0 from by rw [d4]; exact (fun k hk => by show (if 0 ≤ k ∧ k < 0 + 14 then (-1 : Int32) else _) = -1; rw [if_pos ⟨Nat.zero_le _, by omega⟩])), (show ((ud m Q4).1 24).1 = nf ∧ (∀ q c, ¬ (q < 0 ∧ c = 5) → ((ud m Q4).1 24).2 q c = (U.1 24).2 q c) ∧ ∀ q, q < 0 → lcz tm lv P q < P → ((ud m Q4).1 24).2 q 5 = lsf (lcz tm lv P) (lcz tm lv P q) q from by rw [d4]; exact (by rw [show ((upF (upF V2 129 8 0 (fun _ => (-1 : Int32)) ((T + 1) - 0)) 129 15 0 (fun _ => (-1 : Int32)) 14).1 24) = U.1 24 from ((z2.t 24 rfl).trans (z1.t 24 rfl))]; exact ⟨hnf, fun _ _ _ => rfl, fun q hq => absurd hq (Nat.not_lt_zero q)⟩))⟩
  obtain ⟨r, Hsa⟩ := zs
  obtain ⟨ua, hta, da, hr, hlev, htab⟩ := hza
  have ua : um m Hsa := ua
  have hta : ur m C H Hsa := hta
  have zza : uq F294a (upF (upF V2 129 8 0 (fun _ => (-1 : Int32)) ((T + 1) - 0)) 129 15 0 (fun _ => (-1 : Int32)) 14) (ud m Hsa) := da
  have hr : r ≤ nf := hr
  have hlev : ∀ k, k < P → ((ud m Hsa).2.2.1 129 15).2 k = lsf (lcz tm lv P) k r := hlev
  have htab : ((ud m Hsa).1 24).1 = nf ∧ (∀ q c, ¬ (q < r ∧ c = 5) → ((ud m Hsa).1 24).2 q c = (U.1 24).2 q c) ∧ ∀ q, q < r → lcz tm lv P q < P → ((ud m Hsa).1 24).2 q 5 = lsf (lcz tm lv P) (lcz tm lv P q) q := htab
  obtain ⟨Va, da⟩ : ∃ V, ud m Hsa = V := ⟨_, rfl⟩
  rw [da] at zza hlev htab
  have qfa : uq F294 U Va := qf4.tr zza rfl
  show mu_W _ _ (54, [(1, .inl (nI r)), (0, .inr (.inr (some 129)))], [], Hsa) _
  refine mw_go mu_g294 (k := 3) (f1 := (59, [(1, .inl (nI r)), (0, .inr (.inr (some 129)))], [.inr (.inr (mu_r Hsa 129 1)), .inl (nI r)], Hsa)) (C := [mu_is Hsa (some 129) 9]) rfl (show mu_is Hsa (some 129) 9 from (ua.1.1.is rfl)) ?_
  rw [(ua.1.1.r (p := 129) (j := 1) (q := 130) rfl)]
  refine mw_go mu_g294 (k := 1) (f1 := (62, [(1, .inl (nI r)), (0, .inr (.inr (some 129)))], [.inl (mu_i Hsa 130 2), .inl (nI r)], Hsa)) (C := [mu_is Hsa (some 130) 10]) rfl (show mu_is Hsa (some 130) 10 from (ua.1.1.is rfl)) ?_
  rw [(show mu_i Hsa 130 2 = (nI nf) from (ua.size da (j := 24) (by decide) rfl).trans (congrArg nI ((congrArg Prod.fst (show Va.1 24 = (Va.1 24) from rfl)).trans htab.1)))]
  refine mw_if (P := (nI r) < (nI nf)) (a := 65) (b := 122) (fun _ => rfl) trivial (fun h5 => ?_) (fun h5 => ?_)
  · -- 65: (nI r) < (nI nf)
    have nh5 : r < nf := (nI_ltI (by omega) (by omega)).mp (show nI r < nI nf from h5)
    have hrn : r < nf := by omega
    obtain ⟨⟨n1, n4⟩, nT⟩ := hlv r hrn
    refine mw_go mu_g294 (k := 2) (f1 := (69, [(1, .inl (nI r)), (0, .inr (.inr (some 129)))], [.inr (.inr (mu_r Hsa 129 1))], Hsa)) (C := [mu_is Hsa (some 129) 9]) rfl (show mu_is Hsa (some 129) 9 from (ua.1.1.is rfl)) ?_
    rw [(ua.1.1.r (p := 129) (j := 1) (q := 130) rfl)]
    refine mw_go mu_g294 (k := 2) (f1 := (71, [(1, .inl (nI r)), (0, .inr (.inr (some 129)))], [.inl (4 : Int32), .inl (nI r), .inr (.inr (some 130))], Hsa)) (C := []) rfl trivial ?_
    refine mw_cIe (fun _ => rfl) (show mu_is Hsa (some 130) 10 from (ua.1.1.is rfl)) (ua.getr (d := (d + 3)) da (j := 24) (by decide) rfl (nI r) (c := 4) (by decide)) ?_
    rw [show (tget (Va.1 24) (nI r) 4) = (lvz (tm r) (lv r)) from ((congrArg (fun z => tget z (nI r) 4) (show Va.1 24 = (Va.1 24) from rfl)).trans (tget_nI (by omega))).trans ((htab.2.1 r 4 (fun y => absurd y.2 (by decide))).trans n4)]
    refine mw_go mu_g294 (k := 2) (f1 := (76, [(2, .inl (lvz (tm r) (lv r))), (1, .inl (nI r)), (0, .inr (.inr (some 129)))], [.inl (lvz (tm r) (lv r))], Hsa)) (C := []) rfl trivial ?_
    refine mw_if (P := (lvz (tm r) (lv r)) < 0) (a := 116) (b := 79) (fun _ => rfl) trivial (fun h7 => ?_) (fun h7 => ?_)
    · -- 116: (lvz (tm r) (lv r)) < 0
      have hlc : lcz tm lv P r = P := lcz_out (Or.inl (Decidable.byContradiction (fun y => by rw [lvz, if_neg y] at h7; exact absurd h7 (nI_pos (by have := (TMK_in nT y).2; omega)))))
      refine mw_go mu_g294 (k := 1) (f1 := (119, [(1, .inl ((nI r) + 1)), (2, .inl (lvz (tm r) (lv r))), (0, .inr (.inr (some 129)))], [], Hsa)) (C := []) rfl trivial ?_
      rw [(show ((nI r) + 1) = (nI (r + 1)) from (nI_add r 1))]
      refine mw_go mu_g294 (k := 1) (f1 := (54, [(1, .inl (nI (r + 1))), (2, .inl (lvz (tm r) (lv r))), (0, .inr (.inr (some 129)))], [], Hsa)) (C := []) rfl trivial ?_
      exact mw_sub (by simp) (iha (r + 1, Hsa) ⟨ua, hta, (show uq F294a (upF (upF V2 129 8 0 (fun _ => (-1 : Int32)) ((T + 1) - 0)) 129 15 0 (fun _ => (-1 : Int32)) 14) (ud m Hsa) from by rw [da]; exact zza), (show (r + 1) ≤ nf from (by omega)), (show ∀ k, k < P → ((ud m Hsa).2.2.1 129 15).2 k = lsf (lcz tm lv P) k (r + 1) from by rw [da]; exact (fun k hk => (hlev k hk).trans (lsf_mis (by rw [hlc]; omega)).symm)), (show ((ud m Hsa).1 24).1 = nf ∧ (∀ q c, ¬ (q < (r + 1) ∧ c = 5) → ((ud m Hsa).1 24).2 q c = (U.1 24).2 q c) ∧ ∀ q, q < (r + 1) → lcz tm lv P q < P → ((ud m Hsa).1 24).2 q 5 = lsf (lcz tm lv P) (lcz tm lv P q) q from by rw [da]; exact ⟨htab.1, fun q c hq => htab.2.1 q c (fun y => hq ⟨by omega, y.2⟩), fun q hq hc => by by_cases y : q = r; (rw [y, hlc] at hc; omega); (exact htab.2.2 q (by omega) hc)⟩)⟩ (by show nf - (r + 1) < nf - r; omega))
    · -- 79: not (lvz (tm r) (lv r)) < 0
      have ht0 : ¬ tm r = 0 := fun y => by rw [lvz, if_pos y] at h7; exact absurd h7 (by decide)
      obtain ⟨hlP, hlvr⟩ := TMK_in nT ht0
      rw [show lvz (tm r) (lv r) = nI (lv r) from if_neg ht0]
      refine mw_go mu_g294 (k := 2) (f1 := (83, [(2, .inl (nI (lv r))), (1, .inl (nI r)), (0, .inr (.inr (some 129)))], [.inr (.inr (mu_r Hsa 129 1))], Hsa)) (C := [mu_is Hsa (some 129) 9]) rfl (show mu_is Hsa (some 129) 9 from (ua.1.1.is rfl)) ?_
      rw [(ua.1.1.r (p := 129) (j := 1) (q := 130) rfl)]
      refine mw_go mu_g294 (k := 2) (f1 := (85, [(2, .inl (nI (lv r))), (1, .inl (nI r)), (0, .inr (.inr (some 129)))], [.inl (1 : Int32), .inl (nI r), .inr (.inr (some 130))], Hsa)) (C := []) rfl trivial ?_
      refine mw_cIe (fun _ => rfl) (show mu_is Hsa (some 130) 10 from (ua.1.1.is rfl)) (ua.getr (d := (d + 3)) da (j := 24) (by decide) rfl (nI r) (c := 1) (by decide)) ?_
      rw [show (tget (Va.1 24) (nI r) 1) = (tm r) from ((congrArg (fun z => tget z (nI r) 1) (show Va.1 24 = (Va.1 24) from rfl)).trans (tget_nI (by omega))).trans ((htab.2.1 r 1 (fun y => absurd y.2 (by decide))).trans n1)]
      refine mw_cIe (fun _ => rfl) trivial (rl_one (d := (d + 3))) ?_
      refine mw_if (P := (one1 (tm r)) = 0) (a := 94) (b := 116) (fun _ => rfl) trivial (fun h10 => ?_) (fun h10 => ?_)
      · -- 94: (one1 (tm r)) = 0
        have hlc : lcz tm lv P r = lv r := lcz_in ht0 h10
        refine mw_go mu_g294 (k := 2) (f1 := (98, [(2, .inl (nI (lv r))), (1, .inl (nI r)), (0, .inr (.inr (some 129)))], [.inr (.inr (mu_r Hsa 129 1))], Hsa)) (C := [mu_is Hsa (some 129) 9]) rfl (show mu_is Hsa (some 129) 9 from (ua.1.1.is rfl)) ?_
        rw [(ua.1.1.r (p := 129) (j := 1) (q := 130) rfl)]
        refine mw_go mu_g294 (k := 4) (f1 := (104, [(2, .inl (nI (lv r))), (1, .inl (nI r)), (0, .inr (.inr (some 129)))], [.inr (.inr (mu_r Hsa 129 15)), .inl (5 : Int32), .inl (nI r), .inr (.inr (some 130))], Hsa)) (C := [mu_is Hsa (some 129) 9]) rfl (show mu_is Hsa (some 129) 9 from (ua.1.1.is rfl)) ?_
        rw [(ua.1.1.r (p := 129) (j := 15) (q := 143) rfl)]
        refine mw_go mu_g294 (k := 2) (f1 := (106, [(2, .inl (nI (lv r))), (1, .inl (nI r)), (0, .inr (.inr (some 129)))], [.inl (mu_i Hsa 143 (nI (lv r)).toNatClampNeg), .inl (5 : Int32), .inl (nI r), .inr (.inr (some 130))], Hsa)) (C := [mu_isr Hsa (some 143) 100, vp_in (nI (lv r)) (mu_n Hsa 143)]) rfl (show (mu_isr Hsa (some 143) 100) ∧ (vp_in (nI (lv r)) (mu_n Hsa 143)) from ⟨((ua.iA da rfl rfl ((ud_q (m := m) (P := 129) (j := 15) da rfl).symm.trans (ua.1.1.r (p := 129) (j := 15) (q := 143) rfl)))).r, (by rw [show mu_n Hsa 143 = 14 from (ua.1.1.a (p := 143) (x := (100, 14)) rfl).2]; exact vp_in_nI (n := lv r) (by omega) (by decide))⟩) ?_
        rw [(show (mu_i Hsa 143 (nI (lv r)).toNatClampNeg) = (lsf (lcz tm lv P) (lv r) r) from ((congrArg (mu_i Hsa 143) (show (nI (lv r)).toNatClampNeg = lv r from nI_clamp (by omega))).trans (ua.gA da rfl rfl ((ud_q (m := m) (P := 129) (j := 15) da rfl).symm.trans (ua.1.1.r (p := 129) (j := 15) (q := 143) rfl)))).trans ((congrArg (fun z => z.2 (lv r)) (show Va.2.2.1 129 15 = (Va.2.2.1 129 15) from rfl)).trans (hlev (lv r) (by omega))))]
        refine mw_cV (fun _ => rfl) (show mu_is Hsa (some 130) 10 from (ua.1.1.is rfl)) (ua.setr (C := C) (d := (d + 3)) da (j := 24) (Or.inr ⟨by decide, by decide⟩) rfl (nI r) (lsf (lcz tm lv P) (lv r) r) (c := 5) (by decide)) (fun Q11 q11 => ?_)
        obtain ⟨u11, r11, d11⟩ := q11
        have ht11 : ur m C H Q11 := hta.trans r11
        have qf11 : uq F294 U (upT Va (ax 24 Va.1 (nI r) 5 (lsf (lcz tm lv P) (lv r) r))) := qfa.ax rfl
        refine mw_go mu_g294 (k := 2) (f1 := (113, [(2, .inl (nI (lv r))), (1, .inl (nI r)), (0, .inr (.inr (some 129)))], [.inr (.inr (mu_r Q11 129 15))], Q11)) (C := [mu_is Q11 (some 129) 9]) rfl (show mu_is Q11 (some 129) 9 from (u11.1.1.is rfl)) ?_
        rw [(u11.1.1.r (p := 129) (j := 15) (q := 143) rfl)]
        refine mw_go mu_g294 (k := 3) (f1 := (116, [(2, .inl (nI (lv r))), (1, .inl (nI r)), (0, .inr (.inr (some 129)))], [], (mu_si Q11 143 (nI (lv r)).toNatClampNeg (nI r)))) (C := [mu_is Q11 (some 143) 100, vp_in (nI (lv r)) (mu_n Q11 143)]) rfl (show (mu_is Q11 (some 143) 100) ∧ (vp_in (nI (lv r)) (mu_n Q11 143)) from ⟨(u11.iA d11 rfl rfl ((ud_q (m := m) (P := 129) (j := 15) d11 rfl).symm.trans (u11.1.1.r (p := 129) (j := 15) (q := 143) rfl))), (by rw [show mu_n Q11 143 = 14 from (u11.1.1.a (p := 143) (x := (100, 14)) rfl).2]; exact vp_in_nI (n := lv r) (by omega) (by decide))⟩) ?_
        rw [(show (nI (lv r)).toNatClampNeg = lv r from nI_clamp (by omega))]
        obtain ⟨u12, r12, d12⟩ : um m (mu_si Q11 143 (lv r) (nI r)) ∧ ur m C Q11 (mu_si Q11 143 (lv r) (nI r)) ∧ ud m (mu_si Q11 143 (lv r) (nI r)) = (upA (upT Va (ax 24 Va.1 (nI r) 5 (lsf (lcz tm lv P) (lv r) r))) 129 15 (lv r) (nI r)) := u11.sA (C := C) d11 rfl rfl ((ud_q (m := m) (P := 129) (j := 15) d11 rfl).symm.trans (u11.1.1.r (p := 129) (j := 15) (q := 143) rfl))
        generalize (mu_si Q11 143 (lv r) (nI r)) = Q12 at u12 r12 d12 ⊢
        have qf12 : uq F294 U (upA (upT Va (ax 24 Va.1 (nI r) 5 (lsf (lcz tm lv P) (lv r) r))) 129 15 (lv r) (nI r)) := qf11.A rfl
        have ht12 : ur m C H Q12 := ht11.trans r12
        refine mw_go mu_g294 (k := 1) (f1 := (119, [(1, .inl ((nI r) + 1)), (2, .inl (nI (lv r))), (0, .inr (.inr (some 129)))], [], Q12)) (C := []) rfl trivial ?_
        rw [(show ((nI r) + 1) = (nI (r + 1)) from (nI_add r 1))]
        refine mw_go mu_g294 (k := 1) (f1 := (54, [(1, .inl (nI (r + 1))), (2, .inl (nI (lv r))), (0, .inr (.inr (some 129)))], [], Q12)) (C := []) rfl trivial ?_
        exact mw_sub (by simp) (iha (r + 1, Q12) ⟨u12, ht12, (show uq F294a (upF (upF V2 129 8 0 (fun _ => (-1 : Int32)) ((T + 1) - 0)) 129 15 0 (fun _ => (-1 : Int32)) 14) (ud m Q12) from by rw [d12]; exact ((zza.T (fun q hq => by first | exact ax_ne (in1_ne rfl hq) | exact ap_ne (in1_ne rfl hq) | exact fu_ne _ _ (in1_ne rfl hq))).A rfl)), (show (r + 1) ≤ nf from (by omega)), (show ∀ k, k < P → ((ud m Q12).2.2.1 129 15).2 k = lsf (lcz tm lv P) k (r + 1) from by rw [d12]; exact (fun k hk => by show (if k = lv r then nI r else (Va.2.2.1 129 15).2 k) = lsf (lcz tm lv P) k (r + 1); by_cases y : k = lv r; (rw [if_pos y, lsf_hit (by rw [hlc]; exact y.symm)]); (rw [if_neg y, lsf_mis (by rw [hlc]; exact fun y2 => y y2.symm)]; exact hlev k hk))), (show ((ud m Q12).1 24).1 = nf ∧ (∀ q c, ¬ (q < (r + 1) ∧ c = 5) → ((ud m Q12).1 24).2 q c = (U.1 24).2 q c) ∧ ∀ q, q < (r + 1) → lcz tm lv P q < P → ((ud m Q12).1 24).2 q 5 = lsf (lcz tm lv P) (lcz tm lv P q) q from by rw [d12]; exact (by have y : ∀ q c, (tset 6 (Va.1 24) (nI r) 5 (lsf (lcz tm lv P) (lv r) r)).1 = (Va.1 24).1 ∧ (tset 6 (Va.1 24) (nI r) 5 (lsf (lcz tm lv P) (lv r) r)).2 q c = if q = r ∧ c = 5 then lsf (lcz tm lv P) (lv r) r else (Va.1 24).2 q c := fun q c => chain_set (by rw [htab.1]; exact hrn) (by rw [htab.1]; omega); exact ⟨((y 0 0).1).trans htab.1, fun q c hq => ((y q c).2).trans ((if_neg (fun y2 => hq ⟨by omega, y2.2⟩)).trans (htab.2.1 q c (fun y2 => hq ⟨by omega, y2.2⟩))), fun q hq hc => ((y q 5).2).trans (by by_cases y2 : q = r; (rw [if_pos ⟨y2, rfl⟩, y2, hlc]); (rw [if_neg (fun y3 => y2 y3.1)]; exact htab.2.2 q (by omega) hc))⟩))⟩ (by show nf - (r + 1) < nf - r; omega))
      · -- 116: not (one1 (tm r)) = 0
        have hlc : lcz tm lv P r = P := lcz_out (Or.inr h10)
        refine mw_go mu_g294 (k := 1) (f1 := (119, [(1, .inl ((nI r) + 1)), (2, .inl (nI (lv r))), (0, .inr (.inr (some 129)))], [], Hsa)) (C := []) rfl trivial ?_
        rw [(show ((nI r) + 1) = (nI (r + 1)) from (nI_add r 1))]
        refine mw_go mu_g294 (k := 1) (f1 := (54, [(1, .inl (nI (r + 1))), (2, .inl (nI (lv r))), (0, .inr (.inr (some 129)))], [], Hsa)) (C := []) rfl trivial ?_
        exact mw_sub (by simp) (iha (r + 1, Hsa) ⟨ua, hta, (show uq F294a (upF (upF V2 129 8 0 (fun _ => (-1 : Int32)) ((T + 1) - 0)) 129 15 0 (fun _ => (-1 : Int32)) 14) (ud m Hsa) from by rw [da]; exact zza), (show (r + 1) ≤ nf from (by omega)), (show ∀ k, k < P → ((ud m Hsa).2.2.1 129 15).2 k = lsf (lcz tm lv P) k (r + 1) from by rw [da]; exact (fun k hk => (hlev k hk).trans (lsf_mis (by rw [hlc]; omega)).symm)), (show ((ud m Hsa).1 24).1 = nf ∧ (∀ q c, ¬ (q < (r + 1) ∧ c = 5) → ((ud m Hsa).1 24).2 q c = (U.1 24).2 q c) ∧ ∀ q, q < (r + 1) → lcz tm lv P q < P → ((ud m Hsa).1 24).2 q 5 = lsf (lcz tm lv P) (lcz tm lv P q) q from by rw [da]; exact ⟨htab.1, fun q c hq => htab.2.1 q c (fun y => hq ⟨by omega, y.2⟩), fun q hq hc => by by_cases y : q = r; (rw [y, hlc] at hc; omega); (exact htab.2.2 q (by omega) hc)⟩)⟩ (by show nf - (r + 1) < nf - r; omega))
  · -- 122: not (nI r) < (nI nf)
    have nh5 : ¬ r < nf := fun z => h5 (show nI r < nI nf from (nI_ltI (by omega) (by omega)).mpr z)
    refine mw_of (fun _ => mu_ret rfl trivial ⟨Hsa, rfl, ua, hta, (by rw [da]; exact qfa), ?_⟩)
    rw [da]
    refine ⟨⟨V1, V2, id0, hSf, hAD, hfi, hN1, (show (Va.2.1 113 1) = (V2.2.1 113 1) from (zza.i 113 1 rfl)), (show (Va.2.1 113 2) = (V2.2.1 113 2) from (zza.i 113 2 rfl)), (show (Va.2.1 113 5) = (V2.2.1 113 5) from (zza.i 113 5 rfl)), (show (Va.2.2.1 113 3) = (V2.2.2.1 113 3) from (zza.a 113 3 rfl)), (show (Va.2.2.1 113 4) = (V2.2.2.1 113 4) from (zza.a 113 4 rfl)), (zza.2.2.2.2.2 rfl)⟩, ⟨(show (Va.2.1 113 7) = (V1.2.1 113 7) from ((zza.i 113 7 rfl).trans (z2.i 113 7 rfl))).trans hf7, (show (Va.2.1 113 8) = (V1.2.1 113 8) from ((zza.i 113 8 rfl).trans (z2.i 113 8 rfl))).trans hf8⟩, ⟨by rw [(show (Va.1 24) = (Va.1 24) from rfl)]; exact htab.1, fun q c hq => by rw [(show (Va.1 24) = (Va.1 24) from rfl)]; exact htab.2.1 q c (fun y => hq y.2)⟩, ⟨fun k hk => by rw [(show (Va.2.2.1 129 15) = (Va.2.2.1 129 15) from rfl), hlev k hk, show r = nf by omega], fun q hq hc => by rw [(show (Va.1 24) = (Va.1 24) from rfl)]; exact htab.2.2 q (by omega) hc⟩, fun j hj => ?_⟩
    rw [show Va.2.2.1 129 8 = (upF V2 129 8 0 (fun _ => (-1 : Int32)) ((T + 1) - 0)).2.2.1 129 8 from (zza.a 129 8 rfl)]
    show (if 0 ≤ j ∧ j < 0 + (T + 1 - 0) then (-1 : Int32) else _) = -1
    rw [if_pos ⟨Nat.zero_le _, by omega⟩]
end OpenRows
