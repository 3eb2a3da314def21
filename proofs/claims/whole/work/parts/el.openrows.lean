/-! RELATION: keepRow, openRows -/
section KeepRow
variable {H : mu_H} {U V : Ud} {m d s c n N us fb : Nat} {C : Nat → Nat} {ls z : Nat → Nat} {S : Nat → Nat → Bool} {p : Nat → Bool}
/-- PathProver$Relation.keepRow(I)V -/
abbrev mu_m296 : ev_M := (2, none, [], ev_b296)
theorem mu_g296 : mu_good mu_m296 := mu_goodk ev_k296
theorem rl_keepRow (h : um m H) (e : ud m H = U) (h11 : U.2.1 129 11 = nI n) (hls : ∀ i, i < n → (U.2.2.1 129 10).2 i = nI (ls i)) (hlr : ∀ i j, i < j → j < n → ls i < ls j) (hlb : ∀ i, i < n → ls i < 16384) (hnl : n ≤ (U.2.2.1 129 10).1) (hnl2 : (U.2.2.1 129 10).1 < 2147483648) (hSO : SOK U N us S z p) (hN5 : N < 524288) (hFK : FRK U N fb) (hfN : fb ≤ N) (h22 : U.2.1 129 22 = nI fb) (hs6 : s < (U.2.2.1 129 6).1) (hs6b : (U.2.2.1 129 6).1 ≤ 16777216) (hs7 : s < (U.2.2.1 129 7).1) (hs7b : (U.2.2.1 129 7).1 ≤ 16777216) (hcl : (U.2.2.1 129 7).2 s = nI c) (hc8 : c < (U.2.2.1 129 8).1) (hc8b : (U.2.2.1 129 8).1 ≤ 16777216) : mu_TV (mu_D (d + 5)) 296 [.inr (.inr (some 129)), .inl (nI s)] H (fun H1 => um m H1 ∧ ur m C H H1 ∧ ∃ W id, ADD U W N us S z p ls n id ∧ fb ≤ id ∧ (∃ N1, W.2.1 113 2 = nI N1 ∧ (N ≤ N1 ∧ N1 ≤ N + 1) ∧ FRK W N1 fb) ∧ ud m H1 = upA (upA W 129 6 s (nI (id - fb))) 129 8 c (nI (id - fb))) := by
  refine mu_meth (M := mu_m296) rfl rfl ?_
  refine mw_ht (mu_fn_of (show [0, 1].Nodup by decide)) ?_
  refine mw_go mu_g296 (k := 2) (f1 := (4, [(0, .inr (.inr (some 129))), (1, .inl (nI s))], [.inr (.inr (mu_r H 129 6))], H)) (C := [mu_is H (some 129) 9]) rfl (show mu_is H (some 129) 9 from (h.1.1.is rfl)) ?_
  rw [(show mu_r H 129 6 = (U.2.2.2.1 129 6) from (ud_q (U := U) (m := m) (P := 129) (j := 6) e rfl))]
  refine mw_go mu_g296 (k := 3) (f1 := (9, [(0, .inr (.inr (some 129))), (1, .inl (nI s))], [.inr (.inr (mu_r H 129 0)), .inl (nI s), .inr (.inr (U.2.2.2.1 129 6))], H)) (C := [mu_is H (some 129) 9]) rfl (show mu_is H (some 129) 9 from (h.1.1.is rfl)) ?_
  rw [(h.1.1.r (p := 129) (j := 0) (q := 99) rfl)]
  refine mw_go mu_g296 (k := 1) (f1 := (12, [(0, .inr (.inr (some 129))), (1, .inl (nI s))], [.inr (.inr (mu_r H 99 2)), .inl (nI s), .inr (.inr (U.2.2.2.1 129 6))], H)) (C := [mu_is H (some 99) 13]) rfl (show mu_is H (some 99) 13 from (h.1.1.is rfl)) ?_
  rw [(h.1.1.r (p := 99) (j := 2) (q := 113) rfl)]
  refine mw_go mu_g296 (k := 2) (f1 := (16, [(0, .inr (.inr (some 129))), (1, .inl (nI s))], [.inr (.inr (mu_r H 129 10)), .inr (.inr (some 113)), .inl (nI s), .inr (.inr (U.2.2.2.1 129 6))], H)) (C := [mu_is H (some 129) 9]) rfl (show mu_is H (some 129) 9 from (h.1.1.is rfl)) ?_
  rw [(show mu_r H 129 10 = (U.2.2.2.1 129 10) from (ud_q (U := U) (m := m) (P := 129) (j := 10) e rfl))]
  refine mw_go mu_g296 (k := 2) (f1 := (20, [(0, .inr (.inr (some 129))), (1, .inl (nI s))], [.inl (mu_i H 129 11), .inr (.inr (U.2.2.2.1 129 10)), .inr (.inr (some 113)), .inl (nI s), .inr (.inr (U.2.2.2.1 129 6))], H)) (C := [mu_is H (some 129) 9]) rfl (show mu_is H (some 129) 9 from (h.1.1.is rfl)) ?_
  rw [(show mu_i H 129 11 = (nI n) from (ud_i (U := U) (m := m) (P := 129) (j := 11) e rfl).trans h11)]
  refine mw_cI (fun _ => rfl) (show mu_is H (some 113) 11 from (h.1.1.is rfl)) (st_addK_129 (d := d) (C := C) (n := n) (ls := ls) h e hls (by omega) (by omega) hlb hlr hSO hN5 hFK hfN) (fun x1 Q1 q1 => ?_)
  obtain ⟨id, rfl, u1, r1, ⟨z1, hAo, hAr⟩, hfi, hN1⟩ := q1
  have ht1 : ur m C H Q1 := (ur.refl m C H).trans r1
  obtain ⟨V1, d1⟩ : ∃ V, ud m Q1 = V := ⟨_, rfl⟩
  rw [d1] at z1 hAo hAr hN1
  have hAD : ADD U V1 N us S z p ls n id := ⟨z1, hAo, hAr⟩
  have hidb : id ≤ 524289 := by obtain ⟨y1, y2, y3, y4, y5, y6, y7, y8, y9⟩ := hAr; have y10 := y7.1.2.2.2; omega
  refine mw_go mu_g296 (k := 2) (f1 := (27, [(0, .inr (.inr (some 129))), (1, .inl (nI s))], [.inl (mu_i Q1 129 22), .inl (nI id), .inl (nI s), .inr (.inr (U.2.2.2.1 129 6))], Q1)) (C := [mu_is Q1 (some 129) 9]) rfl (show mu_is Q1 (some 129) 9 from (u1.1.1.is rfl)) ?_
  rw [(show mu_i Q1 129 22 = (nI fb) from (ud_i (U := V1) (m := m) (P := 129) (j := 22) d1 rfl).trans ((z1.i 129 22 rfl).trans h22))]
  refine mw_go mu_g296 (k := 1) (f1 := (28, [(0, .inr (.inr (some 129))), (1, .inl (nI s))], [.inl ((nI id) - (nI fb)), .inl (nI s), .inr (.inr (U.2.2.2.1 129 6))], Q1)) (C := []) rfl trivial ?_
  rw [(show ((nI id) - (nI fb)) = (nI (id - fb)) from (nI_sub (a := id) (b := fb) (by omega)))]
  refine mw_go mu_g296 (k := 1) (f1 := (29, [(0, .inr (.inr (some 129))), (1, .inl (nI s))], [], (mu_si Q1 (mu_p (U.2.2.2.1 129 6)) (nI s).toNatClampNeg (nI (id - fb))))) (C := [mu_is Q1 (U.2.2.2.1 129 6) 100, vp_in (nI s) (mu_n Q1 (mu_p (U.2.2.2.1 129 6)))]) rfl (show (mu_is Q1 (U.2.2.2.1 129 6) 100) ∧ (vp_in (nI s) (mu_n Q1 (mu_p (U.2.2.2.1 129 6)))) from ⟨(u1.iA d1 rfl rfl (show V1.2.2.2.1 129 6 = (U.2.2.2.1 129 6) from (z1.r 129 6 rfl))), (u1.vA (i := s) d1 rfl rfl (show V1.2.2.2.1 129 6 = (U.2.2.2.1 129 6) from (z1.r 129 6 rfl)) (show (V1.2.2.1 129 6).1 = (U.2.2.1 129 6).1 from (z1.n 129 6 rfl)) (by omega) (by omega))⟩) ?_
  rw [(show (nI s).toNatClampNeg = s from nI_clamp (by omega))]
  obtain ⟨u2, r2, d2⟩ : um m (mu_si Q1 (mu_p (U.2.2.2.1 129 6)) s (nI (id - fb))) ∧ ur m C Q1 (mu_si Q1 (mu_p (U.2.2.2.1 129 6)) s (nI (id - fb))) ∧ ud m (mu_si Q1 (mu_p (U.2.2.2.1 129 6)) s (nI (id - fb))) = (upA V1 129 6 s (nI (id - fb))) := u1.sA (C := C) d1 rfl rfl (show V1.2.2.2.1 129 6 = (U.2.2.2.1 129 6) from (z1.r 129 6 rfl))
  generalize (mu_si Q1 (mu_p (U.2.2.2.1 129 6)) s (nI (id - fb))) = Q2 at u2 r2 d2 ⊢
  have ht2 : ur m C H Q2 := ht1.trans r2
  refine mw_go mu_g296 (k := 2) (f1 := (33, [(0, .inr (.inr (some 129))), (1, .inl (nI s))], [.inr (.inr (mu_r Q2 129 8))], Q2)) (C := [mu_is Q2 (some 129) 9]) rfl (show mu_is Q2 (some 129) 9 from (u2.1.1.is rfl)) ?_
  rw [(show mu_r Q2 129 8 = (U.2.2.2.1 129 8) from (ud_q (U := (upA V1 129 6 s (nI (id - fb)))) (m := m) (P := 129) (j := 8) d2 rfl).trans (z1.r 129 8 rfl))]
  refine mw_go mu_g296 (k := 2) (f1 := (37, [(0, .inr (.inr (some 129))), (1, .inl (nI s))], [.inr (.inr (mu_r Q2 129 7)), .inr (.inr (U.2.2.2.1 129 8))], Q2)) (C := [mu_is Q2 (some 129) 9]) rfl (show mu_is Q2 (some 129) 9 from (u2.1.1.is rfl)) ?_
  rw [(show mu_r Q2 129 7 = (U.2.2.2.1 129 7) from (ud_q (U := (upA V1 129 6 s (nI (id - fb)))) (m := m) (P := 129) (j := 7) d2 rfl).trans (z1.r 129 7 rfl))]
  refine mw_go mu_g296 (k := 2) (f1 := (39, [(0, .inr (.inr (some 129))), (1, .inl (nI s))], [.inl (mu_i Q2 (mu_p (U.2.2.2.1 129 7)) (nI s).toNatClampNeg), .inr (.inr (U.2.2.2.1 129 8))], Q2)) (C := [mu_isr Q2 (U.2.2.2.1 129 7) 100, vp_in (nI s) (mu_n Q2 (mu_p (U.2.2.2.1 129 7)))]) rfl (show (mu_isr Q2 (U.2.2.2.1 129 7) 100) ∧ (vp_in (nI s) (mu_n Q2 (mu_p (U.2.2.2.1 129 7)))) from ⟨((u2.iA d2 rfl rfl (show (upA V1 129 6 s (nI (id - fb))).2.2.2.1 129 7 = (U.2.2.2.1 129 7) from (z1.r 129 7 rfl)))).r, (u2.vA (i := s) d2 rfl rfl (show (upA V1 129 6 s (nI (id - fb))).2.2.2.1 129 7 = (U.2.2.2.1 129 7) from (z1.r 129 7 rfl)) (show ((upA V1 129 6 s (nI (id - fb))).2.2.1 129 7).1 = (U.2.2.1 129 7).1 from (z1.n 129 7 rfl)) (by omega) (by omega))⟩) ?_
  rw [(show (mu_i Q2 (mu_p (U.2.2.2.1 129 7)) (nI s).toNatClampNeg) = (nI c) from ((congrArg (mu_i Q2 (mu_p (U.2.2.2.1 129 7))) (show (nI s).toNatClampNeg = s from nI_clamp (by omega))).trans (u2.gA d2 rfl rfl (show (upA V1 129 6 s (nI (id - fb))).2.2.2.1 129 7 = (U.2.2.2.1 129 7) from (z1.r 129 7 rfl)))).trans ((congrArg (fun z => z.2 s) (show (upA V1 129 6 s (nI (id - fb))).2.2.1 129 7 = (U.2.2.1 129 7) from (z1.a 129 7 rfl))).trans hcl))]
  refine mw_go mu_g296 (k := 2) (f1 := (43, [(0, .inr (.inr (some 129))), (1, .inl (nI s))], [.inr (.inr (mu_r Q2 129 6)), .inl (nI c), .inr (.inr (U.2.2.2.1 129 8))], Q2)) (C := [mu_is Q2 (some 129) 9]) rfl (show mu_is Q2 (some 129) 9 from (u2.1.1.is rfl)) ?_
  rw [(show mu_r Q2 129 6 = (U.2.2.2.1 129 6) from (ud_q (U := (upA V1 129 6 s (nI (id - fb)))) (m := m) (P := 129) (j := 6) d2 rfl).trans (z1.r 129 6 rfl))]
  refine mw_go mu_g296 (k := 2) (f1 := (45, [(0, .inr (.inr (some 129))), (1, .inl (nI s))], [.inl (mu_i Q2 (mu_p (U.2.2.2.1 129 6)) (nI s).toNatClampNeg), .inl (nI c), .inr (.inr (U.2.2.2.1 129 8))], Q2)) (C := [mu_isr Q2 (U.2.2.2.1 129 6) 100, vp_in (nI s) (mu_n Q2 (mu_p (U.2.2.2.1 129 6)))]) rfl (show (mu_isr Q2 (U.2.2.2.1 129 6) 100) ∧ (vp_in (nI s) (mu_n Q2 (mu_p (U.2.2.2.1 129 6)))) from ⟨((u2.iA d2 rfl rfl (show (upA V1 129 6 s (nI (id - fb))).2.2.2.1 129 6 = (U.2.2.2.1 129 6) from (z1.r 129 6 rfl)))).r, (u2.vA (i := s) d2 rfl rfl (show (upA V1 129 6 s (nI (id - fb))).2.2.2.1 129 6 = (U.2.2.2.1 129 6) from (z1.r 129 6 rfl)) (show ((upA V1 129 6 s (nI (id - fb))).2.2.1 129 6).1 = (U.2.2.1 129 6).1 from (z1.n 129 6 rfl)) (by omega) (by omega))⟩) ?_
  rw [(show (mu_i Q2 (mu_p (U.2.2.2.1 129 6)) (nI s).toNatClampNeg) = (nI (id - fb)) from ((congrArg (mu_i Q2 (mu_p (U.2.2.2.1 129 6))) (show (nI s).toNatClampNeg = s from nI_clamp (by omega))).trans (u2.gA d2 rfl rfl (show (upA V1 129 6 s (nI (id - fb))).2.2.2.1 129 6 = (U.2.2.2.1 129 6) from (z1.r 129 6 rfl)))).trans ((congrArg (fun z => z.2 s) (show (upA V1 129 6 s (nI (id - fb))).2.2.1 129 6 = ((upA V1 129 6 s (nI (id - fb))).2.2.1 129 6) from rfl)).trans (if_pos rfl)))]
  refine mw_go mu_g296 (k := 1) (f1 := (46, [(0, .inr (.inr (some 129))), (1, .inl (nI s))], [], (mu_si Q2 (mu_p (U.2.2.2.1 129 8)) (nI c).toNatClampNeg (nI (id - fb))))) (C := [mu_is Q2 (U.2.2.2.1 129 8) 100, vp_in (nI c) (mu_n Q2 (mu_p (U.2.2.2.1 129 8)))]) rfl (show (mu_is Q2 (U.2.2.2.1 129 8) 100) ∧ (vp_in (nI c) (mu_n Q2 (mu_p (U.2.2.2.1 129 8)))) from ⟨(u2.iA d2 rfl rfl (show (upA V1 129 6 s (nI (id - fb))).2.2.2.1 129 8 = (U.2.2.2.1 129 8) from (z1.r 129 8 rfl))), (u2.vA (i := c) d2 rfl rfl (show (upA V1 129 6 s (nI (id - fb))).2.2.2.1 129 8 = (U.2.2.2.1 129 8) from (z1.r 129 8 rfl)) (show ((upA V1 129 6 s (nI (id - fb))).2.2.1 129 8).1 = (U.2.2.1 129 8).1 from (z1.n 129 8 rfl)) (by omega) (by omega))⟩) ?_
  rw [(show (nI c).toNatClampNeg = c from nI_clamp (by omega))]
  obtain ⟨u3, r3, d3⟩ : um m (mu_si Q2 (mu_p (U.2.2.2.1 129 8)) c (nI (id - fb))) ∧ ur m C Q2 (mu_si Q2 (mu_p (U.2.2.2.1 129 8)) c (nI (id - fb))) ∧ ud m (mu_si Q2 (mu_p (U.2.2.2.1 129 8)) c (nI (id - fb))) = (upA (upA V1 129 6 s (nI (id - fb))) 129 8 c (nI (id - fb))) := u2.sA (C := C) d2 rfl rfl (show (upA V1 129 6 s (nI (id - fb))).2.2.2.1 129 8 = (U.2.2.2.1 129 8) from (z1.r 129 8 rfl))
  generalize (mu_si Q2 (mu_p (U.2.2.2.1 129 8)) c (nI (id - fb))) = Q3 at u3 r3 d3 ⊢
  have ht3 : ur m C H Q3 := ht2.trans r3
  exact mw_of (fun _ => mu_ret rfl trivial ⟨Q3, rfl, u3, ht3, _, id, hAD, hfi, hN1, d3⟩)
end KeepRow
section OpenRows
variable {H : mu_H} {U V : Ud} {m d P N us M nf nw T : Nat} {C : Nat → Nat} {f lv z wp : Nat → Nat} {S : Nat → Nat → Bool} {p : Nat → Bool}
theorem FRK.forget (hM : U.2.1 113 5 = nI M) (hM2 : M < 4096) : FRK (upF U 113 4 0 (fun _ => (-1 : Int32)) (M + 1 - 0)) N N := by
  refine ⟨fun k M' e5 hM' hk => Or.inl ?_, fun id st fc h1 h2 => absurd h1 (by omega)⟩
  have e5 : U.2.1 113 5 = nI M' := e5
  have eM : M = M' := nI_inj (by omega) (by omega) (hM.symm.trans e5)
  show (if 0 ≤ k ∧ k < 0 + (M + 1 - 0) then (-1 : Int32) else (U.2.2.1 113 4).2 k) = -1
  rw [if_pos ⟨Nat.zero_le _, by omega⟩]
theorem chain_set {t : Tb} {r c q : Nat} {v : Int32} (hr : r < t.1) (hr2 : t.1 ≤ 67108864) : (tset 6 t (nI r) 5 v).1 = t.1 ∧ (tset 6 t (nI r) 5 v).2 q c = if q = r ∧ c = 5 then v else t.2 q c := by
  unfold tset
  rw [if_neg (nI_pos (by omega)), nI_clamp (by omega), if_pos ⟨hr, by decide⟩]
  exact ⟨rfl, rfl⟩
def F294 : Uf := ⟨[24], [(113, 1), (113, 2), (129, 22), (129, 23)], [(113, 3), (113, 4), (129, 8), (129, 15)], [(113, 3)], [117], true⟩
def F294a : Uf := ⟨[24], [(129, 23)], [(129, 15)], [], [], false⟩
def F294b : Uf := ⟨[], [(129, 23)], [], [], [], false⟩
/-- PathProver$Relation.openRows()V -/
abbrev mu_m294 : ev_M := (3, none, [], ev_b294)
theorem mu_g294 : mu_good mu_m294 := mu_goodk ev_k294
theorem rl_openRows (h : um m H) (e : ud m H = U) (hSO : SOK U N us S z p) (hN5 : N < 524288) (hM5 : U.2.1 113 5 = nI M) (hM4 : M < 4096) (hT : U.2.1 99 11 = nI T) (hTb : T ≤ 16384) (h8 : T + 1 ≤ (U.2.2.1 129 8).1) (h8b : (U.2.2.1 129 8).1 ≤ 16777216) (h10b : (U.2.2.1 129 10).1 ≤ 16777216) (hP : P ≤ 14) (hnf : (U.1 24).1 = nf) (hnfb : nf ≤ 67108864) (hlv : ∀ r, r < nf → (U.1 24).2 r 4 = nI (lv r) ∧ lv r < P) (hnw : (U.1 25).1 = nw) (hnwb : nw ≤ 16777216) (hwd : ∀ q, q < nw → (U.1 25).2 q 3 + 1 = nI (wp q) ∧ wp q ≤ P) : mu_TV (mu_D (d + 5)) 294 [.inr (.inr (some 129))] H (fun H1 => um m H1 ∧ ur m C H H1 ∧ uq F294 U (ud m H1) ∧ (∃ W id0, ADD (upI (upF U 113 4 0 (fun _ => (-1 : Int32)) (M + 1 - 0)) 129 22 (nI N)) W N us S z p (fun _ => 0) 0 id0 ∧ N ≤ id0 ∧ (∃ N1, W.2.1 113 2 = nI N1 ∧ (N ≤ N1 ∧ N1 ≤ N + 1) ∧ FRK W N1 N) ∧ (ud m H1).2.1 113 1 = W.2.1 113 1 ∧ (ud m H1).2.1 113 2 = W.2.1 113 2 ∧ (ud m H1).2.1 113 5 = W.2.1 113 5 ∧ (ud m H1).2.2.1 113 3 = W.2.2.1 113 3 ∧ (ud m H1).2.2.1 113 4 = W.2.2.1 113 4 ∧ (ud m H1).2.2.2.2.2 = W.2.2.2.2.2) ∧ ((ud m H1).2.1 129 22 = nI N ∧ ((ud m H1).1 24).1 = nf ∧ ∀ q c, ¬ c = 5 → ((ud m H1).1 24).2 q c = (U.1 24).2 q c) ∧ ((∀ k, k < P → ((ud m H1).2.2.1 129 15).2 k = lsf lv k nf) ∧ ∀ q, q < nf → ((ud m H1).1 24).2 q 5 = lsf lv (lv q) q) ∧ (∃ fre, (ud m H1).2.1 129 23 = nI fre ∧ fre ≤ P ∧ (∀ q, q < nf → lv q < fre) ∧ ∀ q, q < nw → wp q ≤ fre) ∧ ∀ j, j ≤ T → ((ud m H1).2.2.1 129 8).2 j = -1) := by
  refine mu_meth (M := mu_m294) rfl rfl ?_
  refine mw_ht (mu_fn_of (show [0].Nodup by decide)) ?_
  refine mw_go mu_g294 (k := 2) (f1 := (4, [(0, .inr (.inr (some 129)))], [.inr (.inr (mu_r H 129 0))], H)) (C := [mu_is H (some 129) 9]) rfl (show mu_is H (some 129) 9 from (h.1.1.is rfl)) ?_
  rw [(h.1.1.r (p := 129) (j := 0) (q := 99) rfl)]
  refine mw_go mu_g294 (k := 1) (f1 := (7, [(0, .inr (.inr (some 129)))], [.inr (.inr (mu_r H 99 2))], H)) (C := [mu_is H (some 99) 13]) rfl (show mu_is H (some 99) 13 from (h.1.1.is rfl)) ?_
  rw [(h.1.1.r (p := 99) (j := 2) (q := 113) rfl)]
  refine mw_cV (fun _ => rfl) (show mu_is H (some 113) 11 from (h.1.1.is rfl)) (st_forget (d := (d + 1)) (C := C) (M := M) h e hM5 hM4) (fun Q1 q1 => ?_)
  obtain ⟨u1, r1, d1⟩ := q1
  have ht1 : ur m C H Q1 := (ur.refl m C H).trans r1
  have qf1 : uq F294 U (upF U 113 4 0 (fun _ => (-1 : Int32)) (M + 1 - 0)) := (uq.refl F294 U).F rfl
  refine mw_go mu_g294 (k := 3) (f1 := (15, [(0, .inr (.inr (some 129)))], [.inr (.inr (mu_r Q1 129 0)), .inr (.inr (some 129))], Q1)) (C := [mu_is Q1 (some 129) 9]) rfl (show mu_is Q1 (some 129) 9 from (u1.1.1.is rfl)) ?_
  rw [(u1.1.1.r (p := 129) (j := 0) (q := 99) rfl)]
  refine mw_go mu_g294 (k := 1) (f1 := (18, [(0, .inr (.inr (some 129)))], [.inr (.inr (mu_r Q1 99 2)), .inr (.inr (some 129))], Q1)) (C := [mu_is Q1 (some 99) 13]) rfl (show mu_is Q1 (some 99) 13 from (u1.1.1.is rfl)) ?_
  rw [(u1.1.1.r (p := 99) (j := 2) (q := 113) rfl)]
  refine mw_go mu_g294 (k := 1) (f1 := (21, [(0, .inr (.inr (some 129)))], [.inl (mu_i Q1 113 2), .inr (.inr (some 129))], Q1)) (C := [mu_is Q1 (some 113) 11]) rfl (show mu_is Q1 (some 113) 11 from (u1.1.1.is rfl)) ?_
  rw [(show mu_i Q1 113 2 = (nI N) from (ud_i (U := (upF U 113 4 0 (fun _ => (-1 : Int32)) (M + 1 - 0))) (m := m) (P := 113) (j := 2) d1 rfl).trans hSO.1.2.2.1)]
  refine mw_go mu_g294 (k := 1) (f1 := (24, [(0, .inr (.inr (some 129)))], [], (mu_si Q1 129 22 (nI N)))) (C := [mu_is Q1 (some 129) 9]) rfl (show mu_is Q1 (some 129) 9 from (u1.1.1.is rfl)) ?_
  obtain ⟨u2, r2, d2⟩ : um m (mu_si Q1 129 22 (nI N)) ∧ ur m C Q1 (mu_si Q1 129 22 (nI N)) ∧ ud m (mu_si Q1 129 22 (nI N)) = (upI (upF U 113 4 0 (fun _ => (-1 : Int32)) (M + 1 - 0)) 129 22 (nI N)) := u1.sI (C := C) d1 rfl
  generalize (mu_si Q1 129 22 (nI N)) = Q2 at u2 r2 d2 ⊢
  have qf2 : uq F294 U (upI (upF U 113 4 0 (fun _ => (-1 : Int32)) (M + 1 - 0)) 129 22 (nI N)) := qf1.I rfl
  have ht2 : ur m C H Q2 := ht1.trans r2
  refine mw_go mu_g294 (k := 2) (f1 := (28, [(0, .inr (.inr (some 129)))], [.inr (.inr (mu_r Q2 129 0))], Q2)) (C := [mu_is Q2 (some 129) 9]) rfl (show mu_is Q2 (some 129) 9 from (u2.1.1.is rfl)) ?_
  rw [(u2.1.1.r (p := 129) (j := 0) (q := 99) rfl)]
  refine mw_go mu_g294 (k := 1) (f1 := (31, [(0, .inr (.inr (some 129)))], [.inr (.inr (mu_r Q2 99 2))], Q2)) (C := [mu_is Q2 (some 99) 13]) rfl (show mu_is Q2 (some 99) 13 from (u2.1.1.is rfl)) ?_
  rw [(u2.1.1.r (p := 99) (j := 2) (q := 113) rfl)]
  refine mw_go mu_g294 (k := 2) (f1 := (35, [(0, .inr (.inr (some 129)))], [.inr (.inr (mu_r Q2 129 10)), .inr (.inr (some 113))], Q2)) (C := [mu_is Q2 (some 129) 9]) rfl (show mu_is Q2 (some 129) 9 from (u2.1.1.is rfl)) ?_
  rw [(show mu_r Q2 129 10 = (U.2.2.2.1 129 10) from (ud_q (U := (upI (upF U 113 4 0 (fun _ => (-1 : Int32)) (M + 1 - 0)) 129 22 (nI N))) (m := m) (P := 129) (j := 10) d2 rfl))]
  refine mw_go mu_g294 (k := 1) (f1 := (36, [(0, .inr (.inr (some 129)))], [.inl (0 : Int32), .inr (.inr (U.2.2.2.1 129 10)), .inr (.inr (some 113))], Q2)) (C := []) rfl trivial ?_
  refine mw_cI (fun _ => rfl) (show mu_is Q2 (some 113) 11 from (u2.1.1.is rfl)) (by have y := st_addK_129 (d := d) (C := C) (U := (upI (upF U 113 4 0 (fun _ => (-1 : Int32)) (M + 1 - 0)) 129 22 (nI N))) (n := 0) (ls := fun _ => 0) (N := N) (us := us) (S := S) (z := z) (p := p) (fb := N) u2 d2 (fun i y => absurd y (Nat.not_lt_zero i)) (Nat.zero_le _) (show (U.2.2.1 129 10).1 < 2147483648 by omega) (fun i y => absurd y (Nat.not_lt_zero i)) (fun i j _ y => absurd y (Nat.not_lt_zero j)) ((SOK.forget hSO hM5 (by omega)).eq rfl rfl rfl rfl rfl rfl) hN5 ((FRK.forget hM5 hM4).same rfl rfl rfl rfl) (Nat.le_refl _); exact y) (fun x3 Q3 q3 => ?_)
  obtain ⟨id0, rfl, u3, r3, ⟨z3, hAo, hAr⟩, hfi, hN1⟩ := q3
  have ht3 : ur m C H Q3 := ht2.trans r3
  obtain ⟨V3, d3⟩ : ∃ V, ud m Q3 = V := ⟨_, rfl⟩
  rw [d3] at z3 hAo hAr hN1
  have qf3 : uq F294 U V3 := qf2.tr z3 rfl
  have hAD : ADD (upI (upF U 113 4 0 (fun _ => (-1 : Int32)) (M + 1 - 0)) 129 22 (nI N)) V3 N us S z p (fun _ => 0) 0 id0 := ⟨z3, hAo, hAr⟩
  refine mw_go mu_g294 (k := 3) (f1 := (44, [(0, .inr (.inr (some 129)))], [.inr (.inr (mu_r Q3 129 8))], Q3)) (C := [mu_is Q3 (some 129) 9]) rfl (show mu_is Q3 (some 129) 9 from (u3.1.1.is rfl)) ?_
  rw [(show mu_r Q3 129 8 = (U.2.2.2.1 129 8) from (ud_q (U := V3) (m := m) (P := 129) (j := 8) d3 rfl).trans (z3.r 129 8 rfl))]
  refine mw_go mu_g294 (k := 3) (f1 := (49, [(0, .inr (.inr (some 129)))], [.inr (.inr (mu_r Q3 129 0)), .inl (0 : Int32), .inr (.inr (U.2.2.2.1 129 8))], Q3)) (C := [mu_is Q3 (some 129) 9]) rfl (show mu_is Q3 (some 129) 9 from (u3.1.1.is rfl)) ?_
  rw [(u3.1.1.r (p := 129) (j := 0) (q := 99) rfl)]
  refine mw_go mu_g294 (k := 1) (f1 := (52, [(0, .inr (.inr (some 129)))], [.inl (mu_i Q3 99 11), .inl (0 : Int32), .inr (.inr (U.2.2.2.1 129 8))], Q3)) (C := [mu_is Q3 (some 99) 13]) rfl (show mu_is Q3 (some 99) 13 from (u3.1.1.is rfl)) ?_
  rw [(show mu_i Q3 99 11 = (nI T) from (ud_i (U := V3) (m := m) (P := 99) (j := 11) d3 rfl).trans ((z3.i 99 11 rfl).trans hT))]
  refine mw_go mu_g294 (k := 2) (f1 := (54, [(0, .inr (.inr (some 129)))], [.inl ((nI T) + (1 : Int32)), .inl (0 : Int32), .inr (.inr (U.2.2.2.1 129 8))], Q3)) (C := []) rfl trivial ?_
  rw [(show ((nI T) + (1 : Int32)) = (nI (T + 1)) from (nI_add T 1))]
  refine mw_go mu_g294 (k := 1) (f1 := (55, [(0, .inr (.inr (some 129)))], [.inl (-1 : Int32), .inl (nI (T + 1)), .inl (0 : Int32), .inr (.inr (U.2.2.2.1 129 8))], Q3)) (C := []) rfl trivial ?_
  refine mw_cV (fun _ => rfl) trivial ((ar_fillR_ok (d := (d + 2)) (v := (-1 : Int32)) (u3.iA d3 rfl rfl (show V3.2.2.2.1 129 8 = (U.2.2.2.1 129 8) from (z3.r 129 8 rfl))) (show 0 ≤ T + 1 by omega) (by rw [show mu_n Q3 (mu_p (U.2.2.2.1 129 8)) = (U.2.2.1 129 8).1 from (u3.nA d3 rfl rfl (show V3.2.2.2.1 129 8 = (U.2.2.2.1 129 8) from (z3.r 129 8 rfl)) (show (V3.2.2.1 129 8).1 = (U.2.2.1 129 8).1 from (z3.n 129 8 rfl)))]; omega) (by rw [show mu_n Q3 (mu_p (U.2.2.2.1 129 8)) = (U.2.2.1 129 8).1 from (u3.nA d3 rfl rfl (show V3.2.2.2.1 129 8 = (U.2.2.2.1 129 8) from (z3.r 129 8 rfl)) (show (V3.2.2.1 129 8).1 = (U.2.2.1 129 8).1 from (z3.n 129 8 rfl)))]; omega)).imp (fun Hx qx => show um m Hx ∧ ur m C Q3 Hx ∧ ud m Hx = (upF V3 129 8 0 (fun _ => (-1 : Int32)) ((T + 1) - 0)) by rw [qx]; exact u3.fA (C := C) d3 rfl rfl (show V3.2.2.2.1 129 8 = (U.2.2.2.1 129 8) from (z3.r 129 8 rfl)))) (fun Q4 q4 => ?_)
  obtain ⟨u4, r4, d4⟩ := q4
  have ht4 : ur m C H Q4 := ht3.trans r4
  have qf4 : uq F294 U (upF V3 129 8 0 (fun _ => (-1 : Int32)) ((T + 1) - 0)) := qf3.F rfl
  refine mw_go mu_g294 (k := 2) (f1 := (62, [(0, .inr (.inr (some 129)))], [.inr (.inr (mu_r Q4 129 15))], Q4)) (C := [mu_is Q4 (some 129) 9]) rfl (show mu_is Q4 (some 129) 9 from (u4.1.1.is rfl)) ?_
  rw [(u4.1.1.r (p := 129) (j := 15) (q := 143) rfl)]
  refine mw_go mu_g294 (k := 1) (f1 := (63, [(0, .inr (.inr (some 129)))], [.inl (-1 : Int32), .inr (.inr (some 143))], Q4)) (C := []) rfl trivial ?_
  refine mw_cV (fun _ => rfl) trivial ((ar_fill_ok (d := (d + 3)) (v := (-1 : Int32)) (n := 14) (u4.iA d4 rfl rfl ((ud_q (m := m) (P := 129) (j := 15) d4 rfl).symm.trans (u4.1.1.r (p := 129) (j := 15) (q := 143) rfl))) (show mu_n Q4 (mu_p (some 143)) = 14 from (u4.1.1.a (p := 143) (x := (100, 14)) rfl).2) (by decide)).imp (fun Hx qx => show um m Hx ∧ ur m C Q4 Hx ∧ ud m Hx = (upF (upF V3 129 8 0 (fun _ => (-1 : Int32)) ((T + 1) - 0)) 129 15 0 (fun _ => (-1 : Int32)) 14) by rw [qx]; exact u4.fA (C := C) d4 rfl rfl ((ud_q (m := m) (P := 129) (j := 15) d4 rfl).symm.trans (u4.1.1.r (p := 129) (j := 15) (q := 143) rfl)))) (fun Q5 q5 => ?_)
  obtain ⟨u5, r5, d5⟩ := q5
  have ht5 : ur m C H Q5 := ht4.trans r5
  have qf5 : uq F294 U (upF (upF V3 129 8 0 (fun _ => (-1 : Int32)) ((T + 1) - 0)) 129 15 0 (fun _ => (-1 : Int32)) 14) := qf4.F rfl
  refine mw_go mu_g294 (k := 3) (f1 := (71, [(0, .inr (.inr (some 129)))], [], (mu_si Q5 129 23 (0 : Int32)))) (C := [mu_is Q5 (some 129) 9]) rfl (show mu_is Q5 (some 129) 9 from (u5.1.1.is rfl)) ?_
  obtain ⟨u6, r6, d6⟩ : um m (mu_si Q5 129 23 (0 : Int32)) ∧ ur m C Q5 (mu_si Q5 129 23 (0 : Int32)) ∧ ud m (mu_si Q5 129 23 (0 : Int32)) = (upI (upF (upF V3 129 8 0 (fun _ => (-1 : Int32)) ((T + 1) - 0)) 129 15 0 (fun _ => (-1 : Int32)) 14) 129 23 (0 : Int32)) := u5.sI (C := C) d5 rfl
  generalize (mu_si Q5 129 23 (0 : Int32)) = Q6 at u6 r6 d6 ⊢
  have qf6 : uq F294 U (upI (upF (upF V3 129 8 0 (fun _ => (-1 : Int32)) ((T + 1) - 0)) 129 15 0 (fun _ => (-1 : Int32)) 14) 129 23 (0 : Int32)) := qf5.I rfl
  have ht6 : ur m C H Q6 := ht5.trans r6
  refine mw_go mu_g294 (k := 2) (f1 := (73, [(1, .inl (0 : Int32)), (0, .inr (.inr (some 129)))], [], Q6)) (C := []) rfl trivial ?_
  show mu_W _ _ (73, [(1, .inl (nI 0)), (0, .inr (.inr (some 129)))], [], Q6) _
  refine mw_sub (L' := [(1, .inl (nI 0)), (0, .inr (.inr (some 129)))]) (by simp) ?_
  refine mw_down (α := Nat × mu_H) (fun zs => (73, [(1, .inl (nI zs.1)), (0, .inr (.inr (some 129)))], [], zs.2)) (fun zs => nf - zs.1) (fun zs => um m zs.2 ∧ ur m C H zs.2 ∧ (uq F294a (upI (upF (upF V3 129 8 0 (fun _ => (-1 : Int32)) ((T + 1) - 0)) 129 15 0 (fun _ => (-1 : Int32)) 14) 129 23 (0 : Int32)) (ud m zs.2)) ∧ (zs.1 ≤ nf) ∧ (∃ fre, (ud m zs.2).2.1 129 23 = nI fre ∧ fre ≤ P ∧ ∀ q, q < zs.1 → lv q < fre) ∧ (∀ k, k < P → ((ud m zs.2).2.2.1 129 15).2 k = lsf lv k zs.1) ∧ (((ud m zs.2).1 24).1 = nf ∧ (∀ q c, ¬ (q < zs.1 ∧ c = 5) → ((ud m zs.2).1 24).2 q c = (U.1 24).2 q c) ∧ ∀ q, q < zs.1 → ((ud m zs.2).1 24).2 q 5 = lsf lv (lv q) q)) (fun zs hza iha => ?_) (0, Q6) ⟨u6, ht6, (show uq F294a (upI (upF (upF V3 129 8 0 (fun _ => (-1 : Int32)) ((T + 1) - 0)) 129 15 0 (fun _ => (-1 : Int32)) 14) 129 23 (0 : Int32)) (ud m Q6) from by rw [d6]; exact uq.refl _ _), (show 0 ≤ nf from (by omega)), (show ∃ fre, (ud m Q6).2.1 129 23 = nI fre ∧ fre ≤ P ∧ ∀ q, q < 0 → lv q < fre from by rw [d6]; exact (⟨0, rfl, by omega, fun q hq => absurd hq (Nat.not_lt_zero q)⟩)), (show ∀ k, k < P → ((ud m Q6).2.2.1 129 15).2 k = lsf lv k 0 from by rw [d6]; exact (fun k hk => by show (if 0 ≤ k ∧ k < 0 + 14 then (-1 : Int32) else _) = -1; rw [if_pos ⟨Nat.zero_le _, by omega⟩])), (show ((ud m Q6).1 24).1 = nf ∧ (∀ q c, ¬ (q < 0 ∧ c = 5) → ((ud m Q6).1 24).2 q c = (U.1 24).2 q c) ∧ ∀ q, q < 0 → ((ud m Q6).1 24).2 q 5 = lsf lv (lv q) q from by rw [d6]; exact (by rw [show ((upI (upF (upF V3 129 8 0 (fun _ => (-1 : Int32)) ((T + 1) - 0)) 129 15 0 (fun _ => (-1 : Int32)) 14) 129 23 (0 : Int32)).1 24) = U.1 24 from (z3.t 24 rfl)]; exact ⟨hnf, fun _ _ _ => rfl, fun q hq => absurd hq (Nat.not_lt_zero q)⟩))⟩
  obtain ⟨r, Hsa⟩ := zs
  obtain ⟨ua, hta, da, hr, hfre, hlev, htab⟩ := hza
  have ua : um m Hsa := ua
  have hta : ur m C H Hsa := hta
  have zza : uq F294a (upI (upF (upF V3 129 8 0 (fun _ => (-1 : Int32)) ((T + 1) - 0)) 129 15 0 (fun _ => (-1 : Int32)) 14) 129 23 (0 : Int32)) (ud m Hsa) := da
  have hr : r ≤ nf := hr
  have hfre : ∃ fre, (ud m Hsa).2.1 129 23 = nI fre ∧ fre ≤ P ∧ ∀ q, q < r → lv q < fre := hfre
  have hlev : ∀ k, k < P → ((ud m Hsa).2.2.1 129 15).2 k = lsf lv k r := hlev
  have htab : ((ud m Hsa).1 24).1 = nf ∧ (∀ q c, ¬ (q < r ∧ c = 5) → ((ud m Hsa).1 24).2 q c = (U.1 24).2 q c) ∧ ∀ q, q < r → ((ud m Hsa).1 24).2 q 5 = lsf lv (lv q) q := htab
  obtain ⟨Va, da⟩ : ∃ V, ud m Hsa = V := ⟨_, rfl⟩
  rw [da] at zza hfre hlev htab
  have qfa : uq F294 U Va := qf6.tr zza rfl
  show mu_W _ _ (73, [(1, .inl (nI r)), (0, .inr (.inr (some 129)))], [], Hsa) _
  refine mw_go mu_g294 (k := 3) (f1 := (78, [(1, .inl (nI r)), (0, .inr (.inr (some 129)))], [.inr (.inr (mu_r Hsa 129 1)), .inl (nI r)], Hsa)) (C := [mu_is Hsa (some 129) 9]) rfl (show mu_is Hsa (some 129) 9 from (ua.1.1.is rfl)) ?_
  rw [(ua.1.1.r (p := 129) (j := 1) (q := 130) rfl)]
  refine mw_go mu_g294 (k := 1) (f1 := (81, [(1, .inl (nI r)), (0, .inr (.inr (some 129)))], [.inl (mu_i Hsa 130 2), .inl (nI r)], Hsa)) (C := [mu_is Hsa (some 130) 10]) rfl (show mu_is Hsa (some 130) 10 from (ua.1.1.is rfl)) ?_
  rw [(show mu_i Hsa 130 2 = (nI nf) from (ua.size da (j := 24) (by decide) rfl).trans (congrArg nI ((congrArg Prod.fst (show Va.1 24 = (Va.1 24) from rfl)).trans htab.1)))]
  refine mw_if (P := (nI r) < (nI nf)) (a := 84) (b := 140) (fun _ => rfl) trivial (fun h7 => ?_) (fun h7 => ?_)
  · -- 84: (nI r) < (nI nf)
    have nh7 : r < nf := (nI_ltI (by omega) (by omega)).mp (show nI r < nI nf from h7)
    have hrn : r < nf := by omega
    obtain ⟨fre, hf23, hfP, hfl⟩ := hfre
    have hlvr := (hlv r hrn).2
    refine mw_go mu_g294 (k := 2) (f1 := (88, [(1, .inl (nI r)), (0, .inr (.inr (some 129)))], [.inr (.inr (mu_r Hsa 129 1))], Hsa)) (C := [mu_is Hsa (some 129) 9]) rfl (show mu_is Hsa (some 129) 9 from (ua.1.1.is rfl)) ?_
    rw [(ua.1.1.r (p := 129) (j := 1) (q := 130) rfl)]
    refine mw_go mu_g294 (k := 2) (f1 := (90, [(1, .inl (nI r)), (0, .inr (.inr (some 129)))], [.inl (4 : Int32), .inl (nI r), .inr (.inr (some 130))], Hsa)) (C := []) rfl trivial ?_
    refine mw_cIe (fun _ => rfl) (show mu_is Hsa (some 130) 10 from (ua.1.1.is rfl)) (ua.getr (d := (d + 3)) da (j := 24) (by decide) rfl (nI r) (c := 4) (by decide)) ?_
    rw [show (tget (Va.1 24) (nI r) 4) = (nI (lv r)) from ((congrArg (fun z => tget z (nI r) 4) (show Va.1 24 = (Va.1 24) from rfl)).trans (tget_nI (by omega))).trans ((htab.2.1 r 4 (fun y => absurd y.2 (by decide))).trans (hlv r hrn).1)]
    refine mw_go mu_g294 (k := 2) (f1 := (95, [(2, .inl (nI (lv r))), (1, .inl (nI r)), (0, .inr (.inr (some 129)))], [.inl (nI (lv r))], Hsa)) (C := []) rfl trivial ?_
    refine mw_if (P := (nI (lv r)) < 0) (a := 134) (b := 98) (fun _ => rfl) trivial (fun h9 => absurd h9 (nI_pos (by omega))) (fun h9 => ?_)
    refine mw_go mu_g294 (k := 3) (f1 := (103, [(2, .inl (nI (lv r))), (1, .inl (nI r)), (0, .inr (.inr (some 129)))], [.inl (mu_i Hsa 129 23), .inr (.inr (some 129))], Hsa)) (C := [mu_is Hsa (some 129) 9]) rfl (show mu_is Hsa (some 129) 9 from (ua.1.1.is rfl)) ?_
    rw [(show mu_i Hsa 129 23 = (nI fre) from (ud_i (U := Va) (m := m) (P := 129) (j := 23) da rfl).trans hf23)]
    refine mw_go mu_g294 (k := 3) (f1 := (106, [(2, .inl (nI (lv r))), (1, .inl (nI r)), (0, .inr (.inr (some 129)))], [.inl ((nI (lv r)) + (1 : Int32)), .inl (nI fre), .inr (.inr (some 129))], Hsa)) (C := []) rfl trivial ?_
    rw [(show ((nI (lv r)) + (1 : Int32)) = (nI ((lv r) + 1)) from (nI_add (lv r) 1))]
    refine mw_cIe (fun _ => rfl) trivial (mu_max_ok (d := (d + 3)) (nI fre) (nI ((lv r) + 1))) ?_
    rw [show (mu_max (nI fre) (nI ((lv r) + 1))) = nI (max fre ((lv r) + 1)) from mu_max_n (a := fre) (b := (lv r) + 1) (by omega) (by omega)]
    refine mw_go mu_g294 (k := 1) (f1 := (112, [(2, .inl (nI (lv r))), (1, .inl (nI r)), (0, .inr (.inr (some 129)))], [], (mu_si Hsa 129 23 (nI (max fre ((lv r) + 1)))))) (C := [mu_is Hsa (some 129) 9]) rfl (show mu_is Hsa (some 129) 9 from (ua.1.1.is rfl)) ?_
    obtain ⟨u11, r11, d11⟩ : um m (mu_si Hsa 129 23 (nI (max fre ((lv r) + 1)))) ∧ ur m C Hsa (mu_si Hsa 129 23 (nI (max fre ((lv r) + 1)))) ∧ ud m (mu_si Hsa 129 23 (nI (max fre ((lv r) + 1)))) = (upI Va 129 23 (nI (max fre ((lv r) + 1)))) := ua.sI (C := C) da rfl
    generalize (mu_si Hsa 129 23 (nI (max fre ((lv r) + 1)))) = Q11 at u11 r11 d11 ⊢
    have qf11 : uq F294 U (upI Va 129 23 (nI (max fre ((lv r) + 1)))) := qfa.I rfl
    have ht11 : ur m C H Q11 := hta.trans r11
    refine mw_go mu_g294 (k := 2) (f1 := (116, [(2, .inl (nI (lv r))), (1, .inl (nI r)), (0, .inr (.inr (some 129)))], [.inr (.inr (mu_r Q11 129 1))], Q11)) (C := [mu_is Q11 (some 129) 9]) rfl (show mu_is Q11 (some 129) 9 from (u11.1.1.is rfl)) ?_
    rw [(u11.1.1.r (p := 129) (j := 1) (q := 130) rfl)]
    refine mw_go mu_g294 (k := 4) (f1 := (122, [(2, .inl (nI (lv r))), (1, .inl (nI r)), (0, .inr (.inr (some 129)))], [.inr (.inr (mu_r Q11 129 15)), .inl (5 : Int32), .inl (nI r), .inr (.inr (some 130))], Q11)) (C := [mu_is Q11 (some 129) 9]) rfl (show mu_is Q11 (some 129) 9 from (u11.1.1.is rfl)) ?_
    rw [(u11.1.1.r (p := 129) (j := 15) (q := 143) rfl)]
    refine mw_go mu_g294 (k := 2) (f1 := (124, [(2, .inl (nI (lv r))), (1, .inl (nI r)), (0, .inr (.inr (some 129)))], [.inl (mu_i Q11 143 (nI (lv r)).toNatClampNeg), .inl (5 : Int32), .inl (nI r), .inr (.inr (some 130))], Q11)) (C := [mu_isr Q11 (some 143) 100, vp_in (nI (lv r)) (mu_n Q11 143)]) rfl (show (mu_isr Q11 (some 143) 100) ∧ (vp_in (nI (lv r)) (mu_n Q11 143)) from ⟨((u11.iA d11 rfl rfl ((ud_q (m := m) (P := 129) (j := 15) d11 rfl).symm.trans (u11.1.1.r (p := 129) (j := 15) (q := 143) rfl)))).r, (by rw [show mu_n Q11 143 = 14 from (u11.1.1.a (p := 143) (x := (100, 14)) rfl).2]; exact vp_in_nI (n := lv r) (by omega) (by decide))⟩) ?_
    rw [(show (mu_i Q11 143 (nI (lv r)).toNatClampNeg) = (lsf lv (lv r) r) from ((congrArg (mu_i Q11 143) (show (nI (lv r)).toNatClampNeg = lv r from nI_clamp (by omega))).trans (u11.gA d11 rfl rfl ((ud_q (m := m) (P := 129) (j := 15) d11 rfl).symm.trans (u11.1.1.r (p := 129) (j := 15) (q := 143) rfl)))).trans ((congrArg (fun z => z.2 (lv r)) (show (upI Va 129 23 (nI (max fre ((lv r) + 1)))).2.2.1 129 15 = (Va.2.2.1 129 15) from rfl)).trans (hlev (lv r) (by omega))))]
    refine mw_cV (fun _ => rfl) (show mu_is Q11 (some 130) 10 from (u11.1.1.is rfl)) (u11.setr (C := C) (d := (d + 3)) d11 (j := 24) (Or.inr ⟨by decide, by decide⟩) rfl (nI r) (lsf lv (lv r) r) (c := 5) (by decide)) (fun Q12 q12 => ?_)
    obtain ⟨u12, r12, d12⟩ := q12
    have ht12 : ur m C H Q12 := ht11.trans r12
    have qf12 : uq F294 U (upT (upI Va 129 23 (nI (max fre ((lv r) + 1)))) (ax 24 (upI Va 129 23 (nI (max fre ((lv r) + 1)))).1 (nI r) 5 (lsf lv (lv r) r))) := qf11.ax rfl
    refine mw_go mu_g294 (k := 2) (f1 := (131, [(2, .inl (nI (lv r))), (1, .inl (nI r)), (0, .inr (.inr (some 129)))], [.inr (.inr (mu_r Q12 129 15))], Q12)) (C := [mu_is Q12 (some 129) 9]) rfl (show mu_is Q12 (some 129) 9 from (u12.1.1.is rfl)) ?_
    rw [(u12.1.1.r (p := 129) (j := 15) (q := 143) rfl)]
    refine mw_go mu_g294 (k := 3) (f1 := (134, [(2, .inl (nI (lv r))), (1, .inl (nI r)), (0, .inr (.inr (some 129)))], [], (mu_si Q12 143 (nI (lv r)).toNatClampNeg (nI r)))) (C := [mu_is Q12 (some 143) 100, vp_in (nI (lv r)) (mu_n Q12 143)]) rfl (show (mu_is Q12 (some 143) 100) ∧ (vp_in (nI (lv r)) (mu_n Q12 143)) from ⟨(u12.iA d12 rfl rfl ((ud_q (m := m) (P := 129) (j := 15) d12 rfl).symm.trans (u12.1.1.r (p := 129) (j := 15) (q := 143) rfl))), (by rw [show mu_n Q12 143 = 14 from (u12.1.1.a (p := 143) (x := (100, 14)) rfl).2]; exact vp_in_nI (n := lv r) (by omega) (by decide))⟩) ?_
    rw [(show (nI (lv r)).toNatClampNeg = lv r from nI_clamp (by omega))]
    obtain ⟨u13, r13, d13⟩ : um m (mu_si Q12 143 (lv r) (nI r)) ∧ ur m C Q12 (mu_si Q12 143 (lv r) (nI r)) ∧ ud m (mu_si Q12 143 (lv r) (nI r)) = (upA (upT (upI Va 129 23 (nI (max fre ((lv r) + 1)))) (ax 24 (upI Va 129 23 (nI (max fre ((lv r) + 1)))).1 (nI r) 5 (lsf lv (lv r) r))) 129 15 (lv r) (nI r)) := u12.sA (C := C) d12 rfl rfl ((ud_q (m := m) (P := 129) (j := 15) d12 rfl).symm.trans (u12.1.1.r (p := 129) (j := 15) (q := 143) rfl))
    generalize (mu_si Q12 143 (lv r) (nI r)) = Q13 at u13 r13 d13 ⊢
    have qf13 : uq F294 U (upA (upT (upI Va 129 23 (nI (max fre ((lv r) + 1)))) (ax 24 (upI Va 129 23 (nI (max fre ((lv r) + 1)))).1 (nI r) 5 (lsf lv (lv r) r))) 129 15 (lv r) (nI r)) := qf12.A rfl
    have ht13 : ur m C H Q13 := ht12.trans r13
    refine mw_go mu_g294 (k := 1) (f1 := (137, [(1, .inl ((nI r) + 1)), (2, .inl (nI (lv r))), (0, .inr (.inr (some 129)))], [], Q13)) (C := []) rfl trivial ?_
    rw [(show ((nI r) + 1) = (nI (r + 1)) from (nI_add r 1))]
    refine mw_go mu_g294 (k := 1) (f1 := (73, [(1, .inl (nI (r + 1))), (2, .inl (nI (lv r))), (0, .inr (.inr (some 129)))], [], Q13)) (C := []) rfl trivial ?_
    exact mw_sub (by simp) (iha (r + 1, Q13) ⟨u13, ht13, (show uq F294a (upI (upF (upF V3 129 8 0 (fun _ => (-1 : Int32)) ((T + 1) - 0)) 129 15 0 (fun _ => (-1 : Int32)) 14) 129 23 (0 : Int32)) (ud m Q13) from by rw [d13]; exact (((zza.I rfl).T (fun q hq => by first | exact ax_ne (in1_ne rfl hq) | exact ap_ne (in1_ne rfl hq) | exact fu_ne _ _ (in1_ne rfl hq))).A rfl)), (show (r + 1) ≤ nf from (by omega)), (show ∃ fre, (ud m Q13).2.1 129 23 = nI fre ∧ fre ≤ P ∧ ∀ q, q < (r + 1) → lv q < fre from by rw [d13]; exact (⟨max fre (lv r + 1), rfl, by omega, fun q hq => by by_cases y : q = r; (rw [y]; omega); (have y2 := hfl q (by omega); omega)⟩)), (show ∀ k, k < P → ((ud m Q13).2.2.1 129 15).2 k = lsf lv k (r + 1) from by rw [d13]; exact (fun k hk => by show (if k = lv r then nI r else (Va.2.2.1 129 15).2 k) = (if lv r = k then nI r else lsf lv k r); by_cases y : k = lv r; (rw [if_pos y, if_pos y.symm]); (rw [if_neg y, if_neg (fun y2 => y y2.symm)]; exact hlev k hk))), (show ((ud m Q13).1 24).1 = nf ∧ (∀ q c, ¬ (q < (r + 1) ∧ c = 5) → ((ud m Q13).1 24).2 q c = (U.1 24).2 q c) ∧ ∀ q, q < (r + 1) → ((ud m Q13).1 24).2 q 5 = lsf lv (lv q) q from by rw [d13]; exact (by have y : ∀ q c, (tset 6 (Va.1 24) (nI r) 5 (lsf lv (lv r) r)).1 = (Va.1 24).1 ∧ (tset 6 (Va.1 24) (nI r) 5 (lsf lv (lv r) r)).2 q c = if q = r ∧ c = 5 then lsf lv (lv r) r else (Va.1 24).2 q c := fun q c => chain_set (by rw [htab.1]; exact hrn) (by rw [htab.1]; omega); exact ⟨((y 0 0).1).trans htab.1, fun q c hq => ((y q c).2).trans ((if_neg (fun y2 => hq ⟨by omega, y2.2⟩)).trans (htab.2.1 q c (fun y2 => hq ⟨by omega, y2.2⟩))), fun q hq => ((y q 5).2).trans (by by_cases y2 : q = r; (rw [if_pos ⟨y2, rfl⟩, y2]); (rw [if_neg (fun y3 => y2 y3.1)]; exact htab.2.2 q (by omega)))⟩))⟩ (by show nf - (r + 1) < nf - r; omega))
  · -- 140: not (nI r) < (nI nf)
    have nh7 : ¬ r < nf := fun z => h7 (show nI r < nI nf from (nI_ltI (by omega) (by omega)).mpr z)
    refine mw_go mu_g294 (k := 2) (f1 := (142, [(1, .inl (0 : Int32)), (0, .inr (.inr (some 129)))], [], Hsa)) (C := []) rfl trivial ?_
    show mu_W _ _ (142, [(1, .inl (nI 0)), (0, .inr (.inr (some 129)))], [], Hsa) _
    refine mw_sub (L' := [(1, .inl (nI 0)), (0, .inr (.inr (some 129)))]) (by simp) ?_
    refine mw_down (α := Nat × mu_H) (fun zs => (142, [(1, .inl (nI zs.1)), (0, .inr (.inr (some 129)))], [], zs.2)) (fun zs => nw - zs.1) (fun zs => um m zs.2 ∧ ur m C H zs.2 ∧ (uq F294b Va (ud m zs.2)) ∧ (zs.1 ≤ nw) ∧ (∃ fre, (ud m zs.2).2.1 129 23 = nI fre ∧ fre ≤ P ∧ (∀ q, q < nf → lv q < fre) ∧ ∀ q, q < zs.1 → wp q ≤ fre)) (fun zs hzb ihb => ?_) (0, Hsa) ⟨ua, hta, (show uq F294b Va (ud m Hsa) from by rw [da]; exact uq.refl _ _), (show 0 ≤ nw from (by omega)), (show ∃ fre, (ud m Hsa).2.1 129 23 = nI fre ∧ fre ≤ P ∧ (∀ q, q < nf → lv q < fre) ∧ ∀ q, q < 0 → wp q ≤ fre from by rw [da]; exact (by obtain ⟨fre, y1, y2, y3⟩ := hfre; exact ⟨fre, (show (Va.2.1 129 23) = (Va.2.1 129 23) from rfl).trans y1, y2, fun q hq => y3 q (by omega), fun q hq => absurd hq (Nat.not_lt_zero q)⟩))⟩
    obtain ⟨k, Hsb⟩ := zs
    obtain ⟨ub, htb, db, hk, hfre2⟩ := hzb
    have ub : um m Hsb := ub
    have htb : ur m C H Hsb := htb
    have zzb : uq F294b Va (ud m Hsb) := db
    have hk : k ≤ nw := hk
    have hfre2 : ∃ fre, (ud m Hsb).2.1 129 23 = nI fre ∧ fre ≤ P ∧ (∀ q, q < nf → lv q < fre) ∧ ∀ q, q < k → wp q ≤ fre := hfre2
    obtain ⟨Vb, db⟩ : ∃ V, ud m Hsb = V := ⟨_, rfl⟩
    rw [db] at zzb hfre2
    have qfb : uq F294 U Vb := qfa.tr zzb rfl
    show mu_W _ _ (142, [(1, .inl (nI k)), (0, .inr (.inr (some 129)))], [], Hsb) _
    refine mw_go mu_g294 (k := 3) (f1 := (147, [(1, .inl (nI k)), (0, .inr (.inr (some 129)))], [.inr (.inr (mu_r Hsb 129 3)), .inl (nI k)], Hsb)) (C := [mu_is Hsb (some 129) 9]) rfl (show mu_is Hsb (some 129) 9 from (ub.1.1.is rfl)) ?_
    rw [(ub.1.1.r (p := 129) (j := 3) (q := 132) rfl)]
    refine mw_go mu_g294 (k := 1) (f1 := (150, [(1, .inl (nI k)), (0, .inr (.inr (some 129)))], [.inl (mu_i Hsb 132 2), .inl (nI k)], Hsb)) (C := [mu_is Hsb (some 132) 10]) rfl (show mu_is Hsb (some 132) 10 from (ub.1.1.is rfl)) ?_
    rw [(show mu_i Hsb 132 2 = (nI nw) from (ub.size db (j := 25) (by decide) rfl).trans (congrArg nI ((congrArg Prod.fst (show Vb.1 25 = (U.1 25) from ((zzb.t 25 rfl).trans ((zza.t 25 rfl).trans (z3.t 25 rfl))))).trans hnw)))]
    refine mw_if (P := (nI k) < (nI nw)) (a := 153) (b := 181) (fun _ => rfl) trivial (fun h14 => ?_) (fun h14 => ?_)
    · -- 153: (nI k) < (nI nw)
      have nh14 : k < nw := (nI_ltI (by omega) (by omega)).mp (show nI k < nI nw from h14)
      have hkn : k < nw := by omega
      obtain ⟨fre, hf23, hfP, hfl2, hflw⟩ := hfre2
      refine mw_go mu_g294 (k := 3) (f1 := (158, [(1, .inl (nI k)), (0, .inr (.inr (some 129)))], [.inl (mu_i Hsb 129 23), .inr (.inr (some 129))], Hsb)) (C := [mu_is Hsb (some 129) 9]) rfl (show mu_is Hsb (some 129) 9 from (ub.1.1.is rfl)) ?_
      rw [(show mu_i Hsb 129 23 = (nI fre) from (ud_i (U := Vb) (m := m) (P := 129) (j := 23) db rfl).trans hf23)]
      refine mw_go mu_g294 (k := 2) (f1 := (162, [(1, .inl (nI k)), (0, .inr (.inr (some 129)))], [.inr (.inr (mu_r Hsb 129 3)), .inl (nI fre), .inr (.inr (some 129))], Hsb)) (C := [mu_is Hsb (some 129) 9]) rfl (show mu_is Hsb (some 129) 9 from (ub.1.1.is rfl)) ?_
      rw [(ub.1.1.r (p := 129) (j := 3) (q := 132) rfl)]
      refine mw_go mu_g294 (k := 2) (f1 := (164, [(1, .inl (nI k)), (0, .inr (.inr (some 129)))], [.inl (3 : Int32), .inl (nI k), .inr (.inr (some 132)), .inl (nI fre), .inr (.inr (some 129))], Hsb)) (C := []) rfl trivial ?_
      refine mw_cIe (fun _ => rfl) (show mu_is Hsb (some 132) 10 from (ub.1.1.is rfl)) (ub.getr (d := (d + 3)) db (j := 25) (by decide) rfl (nI k) (c := 3) (by decide)) ?_
      rw [show (tget (Vb.1 25) (nI k) 3) = ((U.1 25).2 k 3) from (congrArg (fun z => tget z (nI k) 3) (show Vb.1 25 = (U.1 25) from ((zzb.t 25 rfl).trans ((zza.t 25 rfl).trans (z3.t 25 rfl))))).trans (tget_nI (by omega))]
      refine mw_go mu_g294 (k := 2) (f1 := (169, [(1, .inl (nI k)), (0, .inr (.inr (some 129)))], [.inl (((U.1 25).2 k 3) + (1 : Int32)), .inl (nI fre), .inr (.inr (some 129))], Hsb)) (C := []) rfl trivial ?_
      rw [show (((U.1 25).2 k 3) + (1 : Int32)) = nI (wp k) from (hwd k hkn).1]
      have hwk := (hwd k hkn).2
      refine mw_cIe (fun _ => rfl) trivial (mu_max_ok (d := (d + 3)) (nI fre) (nI (wp k))) ?_
      rw [show (mu_max (nI fre) (nI (wp k))) = nI (max fre (wp k)) from mu_max_n (a := fre) (b := wp k) (by omega) (by omega)]
      refine mw_go mu_g294 (k := 1) (f1 := (175, [(1, .inl (nI k)), (0, .inr (.inr (some 129)))], [], (mu_si Hsb 129 23 (nI (max fre (wp k)))))) (C := [mu_is Hsb (some 129) 9]) rfl (show mu_is Hsb (some 129) 9 from (ub.1.1.is rfl)) ?_
      obtain ⟨u17, r17, d17⟩ : um m (mu_si Hsb 129 23 (nI (max fre (wp k)))) ∧ ur m C Hsb (mu_si Hsb 129 23 (nI (max fre (wp k)))) ∧ ud m (mu_si Hsb 129 23 (nI (max fre (wp k)))) = (upI Vb 129 23 (nI (max fre (wp k)))) := ub.sI (C := C) db rfl
      generalize (mu_si Hsb 129 23 (nI (max fre (wp k)))) = Q17 at u17 r17 d17 ⊢
      have qf17 : uq F294 U (upI Vb 129 23 (nI (max fre (wp k)))) := qfb.I rfl
      have ht17 : ur m C H Q17 := htb.trans r17
      refine mw_go mu_g294 (k := 1) (f1 := (178, [(1, .inl ((nI k) + 1)), (0, .inr (.inr (some 129)))], [], Q17)) (C := []) rfl trivial ?_
      rw [(show ((nI k) + 1) = (nI (k + 1)) from (nI_add k 1))]
      refine mw_go mu_g294 (k := 1) (f1 := (142, [(1, .inl (nI (k + 1))), (0, .inr (.inr (some 129)))], [], Q17)) (C := []) rfl trivial ?_
      exact mw_sub (by simp) (ihb (k + 1, Q17) ⟨u17, ht17, (show uq F294b Va (ud m Q17) from by rw [d17]; exact (zzb.I rfl)), (show (k + 1) ≤ nw from (by omega)), (show ∃ fre, (ud m Q17).2.1 129 23 = nI fre ∧ fre ≤ P ∧ (∀ q, q < nf → lv q < fre) ∧ ∀ q, q < (k + 1) → wp q ≤ fre from by rw [d17]; exact (⟨max fre (wp k), rfl, by omega, fun q hq => by have y := hfl2 q hq; omega, fun q hq => by by_cases y : q = k; (rw [y]; omega); (have y2 := hflw q (by omega); omega)⟩))⟩ (by show nw - (k + 1) < nw - k; omega))
    · -- 181: not (nI k) < (nI nw)
      have nh14 : ¬ k < nw := fun z => h14 (show nI k < nI nw from (nI_ltI (by omega) (by omega)).mpr z)
      obtain ⟨fre, hf23, hfP, hfl2, hflw⟩ := hfre2
      refine mw_of (fun _ => mu_ret rfl trivial ⟨Hsb, rfl, ub, htb, (by rw [db]; exact qfb), ?_⟩)
      rw [db]
      refine ⟨⟨V3, id0, hAD, hfi, hN1, (show (Vb.2.1 113 1) = (V3.2.1 113 1) from ((zzb.i 113 1 rfl).trans (zza.i 113 1 rfl))), (show (Vb.2.1 113 2) = (V3.2.1 113 2) from ((zzb.i 113 2 rfl).trans (zza.i 113 2 rfl))), (show (Vb.2.1 113 5) = (V3.2.1 113 5) from ((zzb.i 113 5 rfl).trans (zza.i 113 5 rfl))), (show (Vb.2.2.1 113 3) = (V3.2.2.1 113 3) from ((zzb.a 113 3 rfl).trans (zza.a 113 3 rfl))), (show (Vb.2.2.1 113 4) = (V3.2.2.1 113 4) from ((zzb.a 113 4 rfl).trans (zza.a 113 4 rfl))), ((zzb.2.2.2.2.2 rfl).trans (zza.2.2.2.2.2 rfl))⟩, ⟨(show (Vb.2.1 129 22) = nI N from ((zzb.i 129 22 rfl).trans ((zza.i 129 22 rfl).trans (z3.i 129 22 rfl)))), by rw [(show (Vb.1 24) = (Va.1 24) from (zzb.t 24 rfl))]; exact htab.1, fun q c hq => by rw [(show (Vb.1 24) = (Va.1 24) from (zzb.t 24 rfl))]; exact htab.2.1 q c (fun y => hq y.2)⟩, ⟨fun k hk => by rw [(show (Vb.2.2.1 129 15) = (Va.2.2.1 129 15) from (zzb.a 129 15 rfl)), hlev k hk, show r = nf by omega], fun q hq => by rw [(show (Vb.1 24) = (Va.1 24) from (zzb.t 24 rfl))]; exact htab.2.2 q (by omega)⟩, ⟨fre, hf23, hfP, hfl2, fun q hq => hflw q (by omega)⟩, fun j hj => ?_⟩
      rw [show Vb.2.2.1 129 8 = (upF V3 129 8 0 (fun _ => (-1 : Int32)) ((T + 1) - 0)).2.2.1 129 8 from ((zzb.a 129 8 rfl).trans (zza.a 129 8 rfl))]
      show (if 0 ≤ j ∧ j < 0 + (T + 1 - 0) then (-1 : Int32) else _) = -1
      rw [if_pos ⟨Nat.zero_le _, by omega⟩]
end OpenRows
