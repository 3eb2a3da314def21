/-! THE STORE OF SETS: a set written as a list -/
section Lists3
variable {H : mu_H} {U : Ud} {m d id st n : Nat} {C : Nat → Nat} {fc : Nat → Int64} {S : Nat → Bool}
theorem lg_eq {x y : Int64} : lg_cmp x y = 0 ↔ x = y := by
  unfold lg_cmp
  by_cases h : x = y
  · subst h
    rw [if_neg (Int64.lt_irrefl), if_pos rfl]
    exact ⟨fun _ => rfl, fun _ => rfl⟩
  · by_cases h2 : x > y
    · rw [if_pos h2]
      exact ⟨fun z => absurd z (by decide), fun z => absurd z h⟩
    · rw [if_neg h2, if_neg h]
      exact ⟨fun z => absurd z (by decide), fun z => absurd z h⟩
def F247a : Uf := ⟨[], [], [(129, 12)], [], [], false⟩
/-- PathProver$Sets.list(I[II)I -/
abbrev mu_m247 : ev_M := (6, (some .int), [], ev_b247)
theorem mu_g247 : mu_good mu_m247 := mu_goodk ev_k247
def F247 : Uf := ⟨[], [], [(129, 12)], [], [], false⟩
theorem st_list {fr : Nat} (h : um m H) (e : ud m H = U) (hs : sat U id st fc) (hz : stz fc st S) (hf : hfm fc st = 0) (hfr : fr + hsz fc st ≤ (U.2.2.1 129 12).1 ∧ (U.2.2.1 129 12).1 < 2147483648) : mu_TI (mu_D (d + 2)) 247 [.inr (.inr (some 113)), .inl (nI id), .inr (.inr (U.2.2.2.1 129 12)), .inl (nI fr)] H (fun x H1 => x = nI (hsz fc st) ∧ um m H1 ∧ ur m C H H1 ∧ uq F247 U (ud m H1) ∧ (∀ i, i < hsz fc st → ((ud m H1).2.2.1 129 12).2 (fr + i) = nI (nmzU fc st i)) ∧ ∀ k, (k < fr ∨ fr + hsz fc st ≤ k) → ((ud m H1).2.2.1 129 12).2 k = (U.2.2.1 129 12).2 k) := by
  obtain ⟨⟨hi1, hi2⟩, hst, hst2, hch⟩ := (show sat U id st fc from hs)
  obtain ⟨hz1, hz2, hz3, hz4, hz5⟩ := hz
  obtain ⟨hm1, hm2, hm3⟩ := hz3 hf
  refine mu_meth (M := mu_m247) rfl rfl ?_
  refine mw_ht (mu_fn_of (show [0, 1, 2, 3].Nodup by decide)) ?_
  refine mw_go mu_g247 (k := 2) (f1 := (2, [(0, .inr (.inr (some 113))), (1, .inl (nI id)), (2, .inr (.inr (U.2.2.2.1 129 12))), (3, .inl (nI fr))], [.inl (nI id), .inr (.inr (some 113))], H)) (C := []) rfl trivial ?_
  refine mw_cIe (fun _ => rfl) (show mu_is H (some 113) 11 from (h.1.1.is rfl)) (st_parts (d := d) h e hs) ?_
  rw [show nI (hpt fc st) = nI (hsz fc st) from congrArg nI (by unfold hpt; rw [hf]; rfl)]
  have kl := hln_lt (fc := fc) (st := st)
  have kz := hsz_lt (fc := fc) (st := st)
  refine mw_go mu_g247 (k := 3) (f1 := (10, [(5, .inl (0 : Int32)), (4, .inl (nI (hsz fc st))), (0, .inr (.inr (some 113))), (1, .inl (nI id)), (2, .inr (.inr (U.2.2.2.1 129 12))), (3, .inl (nI fr))], [], H)) (C := []) rfl trivial ?_
  show mu_W _ _ (10, [(5, .inl (nI 0)), (4, .inl (nI (hsz fc st))), (0, .inr (.inr (some 113))), (1, .inl (nI id)), (2, .inr (.inr (U.2.2.2.1 129 12))), (3, .inl (nI fr))], [], H) _
  refine mw_sub (L' := [(5, .inl (nI 0)), (0, .inr (.inr (some 113))), (1, .inl (nI id)), (2, .inr (.inr (U.2.2.2.1 129 12))), (3, .inl (nI fr)), (4, .inl (nI (hsz fc st)))]) (by simp) ?_
  refine mw_down (α := Nat × mu_H) (fun zs => (10, [(5, .inl (nI zs.1)), (0, .inr (.inr (some 113))), (1, .inl (nI id)), (2, .inr (.inr (U.2.2.2.1 129 12))), (3, .inl (nI fr)), (4, .inl (nI (hsz fc st)))], [], zs.2)) (fun zs => hsz fc st - zs.1) (fun zs => um m zs.2 ∧ ur m C H zs.2 ∧ (uq F247a U (ud m zs.2)) ∧ (zs.1 ≤ hsz fc st) ∧ (∀ i, i < zs.1 → ((ud m zs.2).2.2.1 129 12).2 (fr + i) = nI (nmzU fc st i)) ∧ (∀ k, (k < fr ∨ fr + zs.1 ≤ k) → ((ud m zs.2).2.2.1 129 12).2 k = (U.2.2.1 129 12).2 k)) (fun zs hza iha => ?_) (0, H) ⟨h, (ur.refl m C H), (show uq F247a U (ud m H) from by rw [e]; exact uq.refl _ _), (show 0 ≤ hsz fc st from (by omega)), (show ∀ i, i < 0 → ((ud m H).2.2.1 129 12).2 (fr + i) = nI (nmzU fc st i) from by rw [e]; exact (fun i hi => absurd hi (Nat.not_lt_zero _))), (show ∀ k, (k < fr ∨ fr + 0 ≤ k) → ((ud m H).2.2.1 129 12).2 k = (U.2.2.1 129 12).2 k from by rw [e]; exact (fun k _ => rfl))⟩
  obtain ⟨y, Hsa⟩ := zs
  obtain ⟨ua, hta, da, hw, hV, hO⟩ := hza
  have ua : um m Hsa := ua
  have hta : ur m C H Hsa := hta
  have zza : uq F247a U (ud m Hsa) := da
  have hw : y ≤ hsz fc st := hw
  have hV : ∀ i, i < y → ((ud m Hsa).2.2.1 129 12).2 (fr + i) = nI (nmzU fc st i) := hV
  have hO : ∀ k, (k < fr ∨ fr + y ≤ k) → ((ud m Hsa).2.2.1 129 12).2 k = (U.2.2.1 129 12).2 k := hO
  obtain ⟨Va, da⟩ : ∃ V, ud m Hsa = V := ⟨_, rfl⟩
  rw [da] at zza hV hO
  have qfa : uq F247 U Va := (uq.refl F247 U).tr zza rfl
  show mu_W _ _ (10, [(5, .inl (nI y)), (0, .inr (.inr (some 113))), (1, .inl (nI id)), (2, .inr (.inr (U.2.2.2.1 129 12))), (3, .inl (nI fr)), (4, .inl (nI (hsz fc st)))], [], Hsa) _
  refine mw_go mu_g247 (k := 2) (f1 := (14, [(5, .inl (nI y)), (0, .inr (.inr (some 113))), (1, .inl (nI id)), (2, .inr (.inr (U.2.2.2.1 129 12))), (3, .inl (nI fr)), (4, .inl (nI (hsz fc st)))], [.inl (nI (hsz fc st)), .inl (nI y)], Hsa)) (C := []) rfl trivial ?_
  refine mw_if (P := (nI y) < (nI (hsz fc st))) (a := 17) (b := 36) (fun _ => rfl) trivial (fun h2 => ?_) (fun h2 => ?_)
  · -- 17: (nI y) < (nI (hsz fc st))
    have nh2 : y < (hsz fc st) := (nI_ltI (by omega) (by omega)).mp (show nI y < nI (hsz fc st) from h2)
    refine mw_go mu_g247 (k := 4) (f1 := (22, [(5, .inl (nI y)), (0, .inr (.inr (some 113))), (1, .inl (nI id)), (2, .inr (.inr (U.2.2.2.1 129 12))), (3, .inl (nI fr)), (4, .inl (nI (hsz fc st)))], [.inl ((nI fr) + (nI y)), .inr (.inr (U.2.2.2.1 129 12))], Hsa)) (C := []) rfl trivial ?_
    rw [(show ((nI fr) + (nI y)) = (nI (fr + y)) from (nI_add fr y))]
    refine mw_go mu_g247 (k := 3) (f1 := (26, [(5, .inl (nI y)), (0, .inr (.inr (some 113))), (1, .inl (nI id)), (2, .inr (.inr (U.2.2.2.1 129 12))), (3, .inl (nI fr)), (4, .inl (nI (hsz fc st)))], [.inl (nI y), .inl (nI id), .inr (.inr (some 113)), .inl (nI (fr + y)), .inr (.inr (U.2.2.2.1 129 12))], Hsa)) (C := []) rfl trivial ?_
    refine mw_cIe (fun _ => rfl) (show mu_is Hsa (some 113) 11 from (ua.1.1.is rfl)) (st_num (d := d) (p := y) ua da (hs.q zza rfl rfl) (by omega) (by omega)) ?_
    refine mw_go mu_g247 (k := 1) (f1 := (30, [(5, .inl (nI y)), (0, .inr (.inr (some 113))), (1, .inl (nI id)), (2, .inr (.inr (U.2.2.2.1 129 12))), (3, .inl (nI fr)), (4, .inl (nI (hsz fc st)))], [], (mu_si Hsa (mu_p (U.2.2.2.1 129 12)) (nI (fr + y)).toNatClampNeg (nI (nmzU fc st y))))) (C := [mu_is Hsa (U.2.2.2.1 129 12) 100, vp_in (nI (fr + y)) (mu_n Hsa (mu_p (U.2.2.2.1 129 12)))]) rfl (show (mu_is Hsa (U.2.2.2.1 129 12) 100) ∧ (vp_in (nI (fr + y)) (mu_n Hsa (mu_p (U.2.2.2.1 129 12)))) from ⟨(ua.iA da rfl rfl (show Va.2.2.2.1 129 12 = (U.2.2.2.1 129 12) from (zza.r 129 12 rfl))), (ua.vA (i := fr + y) da rfl rfl (show Va.2.2.2.1 129 12 = (U.2.2.2.1 129 12) from (zza.r 129 12 rfl)) (show (Va.2.2.1 129 12).1 = (U.2.2.1 129 12).1 from (zza.n 129 12 rfl)) (by omega) (by omega))⟩) ?_
    rw [(show (nI (fr + y)).toNatClampNeg = fr + y from nI_clamp (by omega))]
    obtain ⟨u4, r4, d4⟩ : um m (mu_si Hsa (mu_p (U.2.2.2.1 129 12)) (fr + y) (nI (nmzU fc st y))) ∧ ur m C Hsa (mu_si Hsa (mu_p (U.2.2.2.1 129 12)) (fr + y) (nI (nmzU fc st y))) ∧ ud m (mu_si Hsa (mu_p (U.2.2.2.1 129 12)) (fr + y) (nI (nmzU fc st y))) = (upA Va 129 12 (fr + y) (nI (nmzU fc st y))) := ua.sA (C := C) da rfl rfl (show Va.2.2.2.1 129 12 = (U.2.2.2.1 129 12) from (zza.r 129 12 rfl))
    generalize (mu_si Hsa (mu_p (U.2.2.2.1 129 12)) (fr + y) (nI (nmzU fc st y))) = Q4 at u4 r4 d4 ⊢
    have qf4 : uq F247 U (upA Va 129 12 (fr + y) (nI (nmzU fc st y))) := qfa.A rfl
    have ht4 : ur m C H Q4 := hta.trans r4
    refine mw_go mu_g247 (k := 1) (f1 := (33, [(5, .inl ((nI y) + 1)), (0, .inr (.inr (some 113))), (1, .inl (nI id)), (2, .inr (.inr (U.2.2.2.1 129 12))), (3, .inl (nI fr)), (4, .inl (nI (hsz fc st)))], [], Q4)) (C := []) rfl trivial ?_
    rw [(show ((nI y) + 1) = (nI (y + 1)) from (nI_add y 1))]
    refine mw_go mu_g247 (k := 1) (f1 := (10, [(5, .inl (nI (y + 1))), (0, .inr (.inr (some 113))), (1, .inl (nI id)), (2, .inr (.inr (U.2.2.2.1 129 12))), (3, .inl (nI fr)), (4, .inl (nI (hsz fc st)))], [], Q4)) (C := []) rfl trivial ?_
    exact mw_sub (by simp) (iha (y + 1, Q4) ⟨u4, ht4, (show uq F247a U (ud m Q4) from by rw [d4]; exact (zza.A rfl)), (show (y + 1) ≤ hsz fc st from (by omega)), (show ∀ i, i < (y + 1) → ((ud m Q4).2.2.1 129 12).2 (fr + i) = nI (nmzU fc st i) from by rw [d4]; exact (fun i hi => (by show (if fr + i = fr + y then nI (nmzU fc st y) else (Va.2.2.1 129 12).2 (fr + i)) = nI (nmzU fc st i); by_cases ei : i = y; (rw [if_pos (by omega), ei]); (rw [if_neg (by omega)]; exact hV i (by omega))))), (show ∀ k, (k < fr ∨ fr + (y + 1) ≤ k) → ((ud m Q4).2.2.1 129 12).2 k = (U.2.2.1 129 12).2 k from by rw [d4]; exact (fun k hk => (by show (if k = fr + y then nI (nmzU fc st y) else (Va.2.2.1 129 12).2 k) = (U.2.2.1 129 12).2 k; rw [if_neg (by omega)]; exact hO k (by omega))))⟩ (by show hsz fc st - (y + 1) < hsz fc st - y; omega))
  · -- 36: not (nI y) < (nI (hsz fc st))
    have nh2 : ¬ y < (hsz fc st) := fun z => h2 (show nI y < nI (hsz fc st) from (nI_ltI (by omega) (by omega)).mpr z)
    refine mw_go mu_g247 (k := 1) (f1 := (38, [(5, .inl (nI y)), (0, .inr (.inr (some 113))), (1, .inl (nI id)), (2, .inr (.inr (U.2.2.2.1 129 12))), (3, .inl (nI fr)), (4, .inl (nI (hsz fc st)))], [.inl (nI (hsz fc st))], Hsa)) (C := []) rfl trivial ?_
    have hye : y = hsz fc st := by omega
    rw [hye] at hV hO
    exact mw_of (fun _ => mu_ret rfl trivial ⟨(nI (hsz fc st)), Hsa, rfl, rfl, ua, hta, (by rw [da]; exact qfa), (by rw [da]; exact hV), (by rw [da]; exact hO)⟩)
/-- PathProver$Sets.isWork(II)Z -/
abbrev mu_m253 : ev_M := (6, (some .boolean), [], ev_b253)
theorem mu_g253 : mu_good mu_m253 := mu_goodk ev_k253
theorem st_same {ln : Nat} (h : um m H) (e : ud m H = U) (hs : sat U id st fc) (hl : st % 8192 + ln < 8192) (hl2 : ln ≤ 256) : mu_TI (mu_D (d + 1)) 253 [.inr (.inr (some 113)), .inl (nI id), .inl (nI ln)] H (fun x H1 => (x = 1 ∧ (∀ i, 1 ≤ i → i ≤ ln → fc (st % 8192 + i) = U.2.2.2.2.1 117 i) ∧ H1 = H) ∨ (x = 0 ∧ (∃ i, 1 ≤ i ∧ i ≤ ln ∧ ¬ fc (st % 8192 + i) = U.2.2.2.2.1 117 i) ∧ H1 = H)) := by
  obtain ⟨⟨hi1, hi2⟩, hst, hst2, hch⟩ := (show sat U id st fc from hs)
  refine mu_meth (M := mu_m253) rfl rfl ?_
  refine mw_ht (mu_fn_of (show [0, 1, 2].Nodup by decide)) ?_
  refine mw_go mu_g253 (k := 2) (f1 := (4, [(0, .inr (.inr (some 113))), (1, .inl (nI id)), (2, .inl (nI ln))], [.inr (.inr (mu_r H 113 0))], H)) (C := [mu_is H (some 113) 11]) rfl (show mu_is H (some 113) 11 from (h.1.1.is rfl)) ?_
  rw [(h.1.1.r (p := 113) (j := 0) (q := 114) rfl)]
  refine mw_go mu_g253 (k := 2) (f1 := (8, [(0, .inr (.inr (some 113))), (1, .inl (nI id)), (2, .inl (nI ln))], [.inr (.inr (mu_r H 113 3)), .inr (.inr (some 114))], H)) (C := [mu_is H (some 113) 11]) rfl (show mu_is H (some 113) 11 from (h.1.1.is rfl)) ?_
  rw [(show mu_r H 113 3 = (U.2.2.2.1 113 3) from (ud_q (U := U) (m := m) (P := 113) (j := 3) e rfl))]
  refine mw_go mu_g253 (k := 2) (f1 := (10, [(0, .inr (.inr (some 113))), (1, .inl (nI id)), (2, .inl (nI ln))], [.inl (mu_i H (mu_p (U.2.2.2.1 113 3)) (nI id).toNatClampNeg), .inr (.inr (some 114))], H)) (C := [mu_isr H (U.2.2.2.1 113 3) 100, vp_in (nI id) (mu_n H (mu_p (U.2.2.2.1 113 3)))]) rfl (show (mu_isr H (U.2.2.2.1 113 3) 100) ∧ (vp_in (nI id) (mu_n H (mu_p (U.2.2.2.1 113 3)))) from ⟨((h.iA e rfl rfl (show U.2.2.2.1 113 3 = (U.2.2.2.1 113 3) from rfl))).r, (h.vA (i := id) e rfl rfl (show U.2.2.2.1 113 3 = (U.2.2.2.1 113 3) from rfl) (show (U.2.2.1 113 3).1 = (U.2.2.1 113 3).1 from rfl) (by omega) (by omega))⟩) ?_
  rw [(show (mu_i H (mu_p (U.2.2.2.1 113 3)) (nI id).toNatClampNeg) = (nI st) from ((congrArg (mu_i H (mu_p (U.2.2.2.1 113 3))) (show (nI id).toNatClampNeg = id from nI_clamp (by omega))).trans (h.gA e rfl rfl (show U.2.2.2.1 113 3 = (U.2.2.2.1 113 3) from rfl))).trans ((congrArg (fun z => z.2 id) (show U.2.2.1 113 3 = (U.2.2.1 113 3) from rfl)).trans hst))]
  refine mw_go mu_g253 (k := 2) (f1 := (14, [(0, .inr (.inr (some 113))), (1, .inl (nI id)), (2, .inl (nI ln))], [.inl ((nI st) / (8192 : Int32)), .inr (.inr (some 114))], H)) (C := [¬ (8192 : Int32) = 0]) rfl (show ¬ (8192 : Int32) = 0 from (by decide)) ?_
  rw [(show ((nI st) / (8192 : Int32)) = (nI (st / 8192)) from (nI_div (a := st) (b := 8192) (by omega) (by omega)))]
  obtain ⟨cq1, ka1, kb1, kc1, kd1⟩ := um.gP h e (plp114 (show st / 8192 < 184 by omega)) (show U.2.2.2.2.2 114 (st / 8192) = some (8192, fc) from hch)
  refine mw_go mu_g253 (k := 1) (f1 := (15, [(0, .inr (.inr (some 113))), (1, .inl (nI id)), (2, .inl (nI ln))], [.inr (.inr (mu_r H 114 (nI (st / 8192)).toNatClampNeg))], H)) (C := [mu_is H (some 114) (mu_k H 114), 103 ≤ mu_k H 114 ∧ mu_k H 114 ≤ 110 ∧ mu_k H 114 ≠ 108, vp_in (nI (st / 8192)) (mu_n H 114)]) rfl (show (mu_is H (some 114) (mu_k H 114)) ∧ (103 ≤ mu_k H 114 ∧ mu_k H 114 ≤ 110 ∧ mu_k H 114 ≠ 108) ∧ (vp_in (nI (st / 8192)) (mu_n H 114)) from ⟨(by have z := (h.1.1.a (p := 114) (x := (104, 184)) rfl).1; rw [show mu_k H 114 = 104 from z.2.2]; exact z), (by have z := (h.1.1.a (p := 114) (x := (104, 184)) rfl).1; rw [show mu_k H 114 = 104 from z.2.2]; decide), (by rw [show mu_n H 114 = 184 from (h.1.1.a (p := 114) (x := (104, 184)) rfl).2]; exact vp_in_nI (n := st / 8192) (by omega) (by decide))⟩) ?_
  rw [(show (mu_r H 114 (nI (st / 8192)).toNatClampNeg) = some cq1 from (congrArg (mu_r H 114) (show (nI (st / 8192)).toNatClampNeg = st / 8192 from nI_clamp (by omega))).trans ka1)]
  refine mw_go mu_g253 (k := 3) (f1 := (20, [(3, .inr (.inr (some cq1))), (0, .inr (.inr (some 113))), (1, .inl (nI id)), (2, .inl (nI ln))], [.inr (.inr (mu_r H 113 3))], H)) (C := [mu_is H (some 113) 11]) rfl (show mu_is H (some 113) 11 from (h.1.1.is rfl)) ?_
  rw [(show mu_r H 113 3 = (U.2.2.2.1 113 3) from (ud_q (U := U) (m := m) (P := 113) (j := 3) e rfl))]
  refine mw_go mu_g253 (k := 2) (f1 := (22, [(3, .inr (.inr (some cq1))), (0, .inr (.inr (some 113))), (1, .inl (nI id)), (2, .inl (nI ln))], [.inl (mu_i H (mu_p (U.2.2.2.1 113 3)) (nI id).toNatClampNeg)], H)) (C := [mu_isr H (U.2.2.2.1 113 3) 100, vp_in (nI id) (mu_n H (mu_p (U.2.2.2.1 113 3)))]) rfl (show (mu_isr H (U.2.2.2.1 113 3) 100) ∧ (vp_in (nI id) (mu_n H (mu_p (U.2.2.2.1 113 3)))) from ⟨((h.iA e rfl rfl (show U.2.2.2.1 113 3 = (U.2.2.2.1 113 3) from rfl))).r, (h.vA (i := id) e rfl rfl (show U.2.2.2.1 113 3 = (U.2.2.2.1 113 3) from rfl) (show (U.2.2.1 113 3).1 = (U.2.2.1 113 3).1 from rfl) (by omega) (by omega))⟩) ?_
  rw [(show (mu_i H (mu_p (U.2.2.2.1 113 3)) (nI id).toNatClampNeg) = (nI st) from ((congrArg (mu_i H (mu_p (U.2.2.2.1 113 3))) (show (nI id).toNatClampNeg = id from nI_clamp (by omega))).trans (h.gA e rfl rfl (show U.2.2.2.1 113 3 = (U.2.2.2.1 113 3) from rfl))).trans ((congrArg (fun z => z.2 id) (show U.2.2.1 113 3 = (U.2.2.1 113 3) from rfl)).trans hst))]
  refine mw_go mu_g253 (k := 2) (f1 := (26, [(3, .inr (.inr (some cq1))), (0, .inr (.inr (some 113))), (1, .inl (nI id)), (2, .inl (nI ln))], [.inl ((nI st) - (nI st) / (8192 : Int32) * (8192 : Int32))], H)) (C := [¬ (8192 : Int32) = 0]) rfl (show ¬ (8192 : Int32) = 0 from (by decide)) ?_
  rw [(show ((nI st) - (nI st) / (8192 : Int32) * (8192 : Int32)) = (nI (st % 8192)) from (nI_mod (a := st) (b := 8192) (by omega) (by omega)))]
  refine mw_go mu_g253 (k := 3) (f1 := (31, [(5, .inl (1 : Int32)), (4, .inl (nI (st % 8192))), (3, .inr (.inr (some cq1))), (0, .inr (.inr (some 113))), (1, .inl (nI id)), (2, .inl (nI ln))], [], H)) (C := []) rfl trivial ?_
  show mu_W _ _ (31, [(5, .inl (nI 1)), (4, .inl (nI (st % 8192))), (3, .inr (.inr (some cq1))), (0, .inr (.inr (some 113))), (1, .inl (nI id)), (2, .inl (nI ln))], [], H) _
  refine mw_sub (L' := [(5, .inl (nI 1)), (0, .inr (.inr (some 113))), (1, .inl (nI id)), (2, .inl (nI ln)), (3, .inr (.inr (some cq1))), (4, .inl (nI (st % 8192)))]) (by simp) ?_
  refine mw_down (α := Nat) (fun zs => (31, [(5, .inl (nI zs)), (0, .inr (.inr (some 113))), (1, .inl (nI id)), (2, .inl (nI ln)), (3, .inr (.inr (some cq1))), (4, .inl (nI (st % 8192)))], [], H)) (fun zs => ln + 1 - zs) (fun zs => (1 ≤ zs ∧ zs ≤ ln + 1) ∧ (∀ i, 1 ≤ i → i < zs → fc (st % 8192 + i) = U.2.2.2.2.1 117 i)) (fun zs hza iha => ?_) 1 ⟨(show 1 ≤ 1 ∧ 1 ≤ ln + 1 from (by omega)), (show ∀ i, 1 ≤ i → i < 1 → fc (st % 8192 + i) = U.2.2.2.2.1 117 i from (fun i h1 h2 => absurd h1 (by omega)))⟩
  obtain ⟨y, rfl⟩ : ∃ y, y = zs := ⟨zs, rfl⟩
  obtain ⟨hw, hW⟩ := hza
  have hw : 1 ≤ y ∧ y ≤ ln + 1 := hw
  have hW : ∀ i, 1 ≤ i → i < y → fc (st % 8192 + i) = U.2.2.2.2.1 117 i := hW
  show mu_W _ _ (31, [(5, .inl (nI y)), (0, .inr (.inr (some 113))), (1, .inl (nI id)), (2, .inl (nI ln)), (3, .inr (.inr (some cq1))), (4, .inl (nI (st % 8192)))], [], H) _
  refine mw_go mu_g253 (k := 2) (f1 := (34, [(5, .inl (nI y)), (0, .inr (.inr (some 113))), (1, .inl (nI id)), (2, .inl (nI ln)), (3, .inr (.inr (some cq1))), (4, .inl (nI (st % 8192)))], [.inl (nI ln), .inl (nI y)], H)) (C := []) rfl trivial ?_
  refine mw_if (P := (nI ln) < (nI y)) (a := 63) (b := 37) (fun _ => rfl) trivial (fun h2 => ?_) (fun h2 => ?_)
  · -- 63: (nI ln) < (nI y)
    have nh2 : ln < y := (nI_ltI (by omega) (by omega)).mp (show nI ln < nI y from h2)
    refine mw_go mu_g253 (k := 1) (f1 := (64, [(5, .inl (nI y)), (0, .inr (.inr (some 113))), (1, .inl (nI id)), (2, .inl (nI ln)), (3, .inr (.inr (some cq1))), (4, .inl (nI (st % 8192)))], [.inl (1 : Int32)], H)) (C := []) rfl trivial ?_
    exact mw_of (fun _ => mu_ret rfl (Or.inr rfl) ⟨(1 : Int32), H, rfl, Or.inl ⟨rfl, (fun i h1 h2 => hW i h1 (by omega)), rfl⟩⟩)
  · -- 37: not (nI ln) < (nI y)
    have nh2 : ¬ ln < y := fun z => h2 (show nI ln < nI y from (nI_ltI (by omega) (by omega)).mpr z)
    refine mw_go mu_g253 (k := 4) (f1 := (43, [(5, .inl (nI y)), (0, .inr (.inr (some 113))), (1, .inl (nI id)), (2, .inl (nI ln)), (3, .inr (.inr (some cq1))), (4, .inl (nI (st % 8192)))], [.inl ((nI (st % 8192)) + (nI y)), .inr (.inr (some cq1))], H)) (C := []) rfl trivial ?_
    rw [(show ((nI (st % 8192)) + (nI y)) = (nI ((st % 8192) + y)) from (nI_add (st % 8192) y))]
    refine mw_go mu_g253 (k := 1) (f1 := (44, [(5, .inl (nI y)), (0, .inr (.inr (some 113))), (1, .inl (nI id)), (2, .inl (nI ln)), (3, .inr (.inr (some cq1))), (4, .inl (nI (st % 8192)))], [.inr (.inl (mu_l H cq1 (nI ((st % 8192) + y)).toNatClampNeg))], H)) (C := [mu_isr H (some cq1) 102, vp_in (nI ((st % 8192) + y)) (mu_n H cq1)]) rfl (show (mu_isr H (some cq1) 102) ∧ (vp_in (nI ((st % 8192) + y)) (mu_n H cq1)) from ⟨kb1.r, (by rw [kc1]; exact vp_in_nI (n := (st % 8192) + y) (by omega) (by decide))⟩) ?_
    rw [(show (mu_l H cq1 (nI ((st % 8192) + y)).toNatClampNeg) = (fc ((st % 8192) + y)) from (congrArg (mu_l H cq1) (show (nI ((st % 8192) + y)).toNatClampNeg = (st % 8192) + y from nI_clamp (by omega))).trans (kd1 ((st % 8192) + y)))]
    refine mw_go mu_g253 (k := 2) (f1 := (48, [(5, .inl (nI y)), (0, .inr (.inr (some 113))), (1, .inl (nI id)), (2, .inl (nI ln)), (3, .inr (.inr (some cq1))), (4, .inl (nI (st % 8192)))], [.inr (.inr (mu_r H 113 6)), .inr (.inl (fc ((st % 8192) + y)))], H)) (C := [mu_is H (some 113) 11]) rfl (show mu_is H (some 113) 11 from (h.1.1.is rfl)) ?_
    rw [(h.1.1.r (p := 113) (j := 6) (q := 117) rfl)]
    refine mw_go mu_g253 (k := 2) (f1 := (51, [(5, .inl (nI y)), (0, .inr (.inr (some 113))), (1, .inl (nI id)), (2, .inl (nI ln)), (3, .inr (.inr (some cq1))), (4, .inl (nI (st % 8192)))], [.inr (.inl (mu_l H 117 (nI y).toNatClampNeg)), .inr (.inl (fc ((st % 8192) + y)))], H)) (C := [mu_isr H (some 117) 102, vp_in (nI y) (mu_n H 117)]) rfl (show (mu_isr H (some 117) 102) ∧ (vp_in (nI y) (mu_n H 117)) from ⟨((h.1.1.a (p := 117) (x := (102, 257)) rfl).1).r, (by rw [show mu_n H 117 = 257 from (h.1.1.a (p := 117) (x := (102, 257)) rfl).2]; exact vp_in_nI (n := y) (by omega) (by decide))⟩) ?_
    rw [(show (mu_l H 117 (nI y).toNatClampNeg) = (U.2.2.2.2.1 117) y from (congrArg (mu_l H 117) (show (nI y).toNatClampNeg = y from nI_clamp (by omega))).trans ((ud_l (m := m) (p := 117) (i := y) e rfl).trans (congrFun (show U.2.2.2.2.1 117 = (U.2.2.2.2.1 117) from rfl) y)))]
    refine mw_go mu_g253 (k := 1) (f1 := (52, [(5, .inl (nI y)), (0, .inr (.inr (some 113))), (1, .inl (nI id)), (2, .inl (nI ln)), (3, .inr (.inr (some cq1))), (4, .inl (nI (st % 8192)))], [.inl (lg_cmp (fc ((st % 8192) + y)) ((U.2.2.2.2.1 117) y))], H)) (C := []) rfl trivial ?_
    refine mw_if (P := (lg_cmp (fc ((st % 8192) + y)) ((U.2.2.2.2.1 117) y)) = 0) (a := 57) (b := 55) (fun _ => rfl) trivial (fun h3 => ?_) (fun h3 => ?_)
    · -- 57: (lg_cmp (fc ((st % 8192) + y)) ((U.2.2.2.2.1 117) y)) = 0
      refine mw_go mu_g253 (k := 1) (f1 := (60, [(5, .inl ((nI y) + 1)), (0, .inr (.inr (some 113))), (1, .inl (nI id)), (2, .inl (nI ln)), (3, .inr (.inr (some cq1))), (4, .inl (nI (st % 8192)))], [], H)) (C := []) rfl trivial ?_
      rw [(show ((nI y) + 1) = (nI (y + 1)) from (nI_add y 1))]
      refine mw_go mu_g253 (k := 1) (f1 := (31, [(5, .inl (nI (y + 1))), (0, .inr (.inr (some 113))), (1, .inl (nI id)), (2, .inl (nI ln)), (3, .inr (.inr (some cq1))), (4, .inl (nI (st % 8192)))], [], H)) (C := []) rfl trivial ?_
      exact mw_sub (by simp) (iha (y + 1) ⟨(show 1 ≤ (y + 1) ∧ (y + 1) ≤ ln + 1 from (by omega)), (show ∀ i, 1 ≤ i → i < (y + 1) → fc (st % 8192 + i) = U.2.2.2.2.1 117 i from (fun i h1 h2 => (by by_cases ei : i = y; (rw [ei]; exact lg_eq.mp h3); exact hW i h1 (by omega))))⟩ (by show ln + 1 - (y + 1) < ln + 1 - y; omega))
    · -- 55: not (lg_cmp (fc ((st % 8192) + y)) ((U.2.2.2.2.1 117) y)) = 0
      refine mw_go mu_g253 (k := 1) (f1 := (56, [(5, .inl (nI y)), (0, .inr (.inr (some 113))), (1, .inl (nI id)), (2, .inl (nI ln)), (3, .inr (.inr (some cq1))), (4, .inl (nI (st % 8192)))], [.inl (0 : Int32)], H)) (C := []) rfl trivial ?_
      exact mw_of (fun _ => mu_ret rfl (Or.inl rfl) ⟨(0 : Int32), H, rfl, Or.inr ⟨rfl, ⟨y, by omega, by omega, fun z => h3 (lg_eq.mpr z)⟩, rfl⟩⟩)
end Lists3
