/-! RELATION: the digits for which what was reckoned is true -/
section ListTruths
variable {H : mu_H} {U V : Ud} {m d a0 N0 l n t at0 : Nat} {C : Nat → Nat} {Y : Ts} {lv : Nat → Nat → Int32} {qq : Nat → Bool}
theorem LSO.bool (h : LSO V n t (fun x => qq x = true)) : LSO (upA V 129 10 n (nI t)) (n + if qq t = true then 1 else 0) (t + 1) (fun x => qq x = true) := by
  by_cases e : qq t = true
  · rw [if_pos e]
    exact h.put e
  · rw [if_neg e]
    exact h.skip e
def F403 : Uf := ⟨[], [(129, 11)], [(100, 9), (129, 10)], [], [], false⟩
def F403a : Uf := ⟨[], [(129, 11)], [(129, 10)], [], [], false⟩
/-- PathProver$Relation.listTruths()V -/
abbrev mu_m403 : ev_M := (3, none, [], ev_b403)
theorem mu_g403 : mu_good mu_m403 := mu_goodk ev_k403
theorem rl_truths (h : um m H) (e : ud m H = U) (hR : RSL U Y a0 N0 l lv) (h1 : tpz Y a0 N0 = 1) (hlan : U.2.1 100 18 = nI l) (hat : U.2.1 100 19 = nI at0) (hl24 : l ≤ 1024) (hq : ∀ k, k < l → svz Y (lv k) a0 N0 0 = nI (if qq (at0 + k) = true then 1 else 0)) {n0 : Nat} (hn0 : U.2.1 129 11 = nI n0) (hl0 : LSO U n0 at0 (fun x => qq x = true)) (hl10 : at0 + l ≤ (U.2.2.1 129 10).1) (hl10b : (U.2.2.1 129 10).1 < 2147483648) : mu_TV (mu_D (d + 5)) 403 [.inr (.inr (some 129))] H (fun H1 => um m H1 ∧ ur m C H H1 ∧ uq F403 U (ud m H1) ∧ ∃ n, (ud m H1).2.1 129 11 = nI n ∧ LSO (ud m H1) n (at0 + l) (fun x => qq x = true)) := by
  refine mu_meth (M := mu_m403) rfl rfl ?_
  refine mw_ht (mu_fn_of (show [0].Nodup by decide)) ?_
  refine mw_go mu_g403 (k := 2) (f1 := (4, [(0, .inr (.inr (some 129)))], [.inr (.inr (mu_r H 129 0))], H)) (C := [mu_is H (some 129) 9]) rfl (show mu_is H (some 129) 9 from (h.1.1.is rfl)) ?_
  rw [(h.1.1.r (p := 129) (j := 0) (q := 99) rfl)]
  refine mw_go mu_g403 (k := 1) (f1 := (7, [(0, .inr (.inr (some 129)))], [.inr (.inr (mu_r H 99 1))], H)) (C := [mu_is H (some 99) 13]) rfl (show mu_is H (some 99) 13 from (h.1.1.is rfl)) ?_
  rw [(h.1.1.r (p := 99) (j := 1) (q := 100) rfl)]
  refine mw_cA (fun _ => rfl) (show mu_is H (some 100) 5 from (h.1.1.is rfl)) (mc_results2 (d := d) (C := C) h e hR h1) (fun x1 Q1 q1 => ?_)
  obtain ⟨rfl, u1, r1, z1, hres⟩ := q1
  have ht1 : ur m C H Q1 := (ur.refl m C H).trans r1
  obtain ⟨V1, d1⟩ : ∃ V, ud m Q1 = V := ⟨_, rfl⟩
  rw [d1] at z1 hres
  have qf1 : uq F403 U V1 := (uq.refl F403 U).tr z1 rfl
  have hres2 : ∀ k, k < l → (V1.2.2.1 100 9).2 k = nI (if qq (at0 + k) = true then 1 else 0) := fun k hk => (hres k hk).trans (hq k hk)
  refine mw_go mu_g403 (k := 3) (f1 := (13, [(2, .inl (0 : Int32)), (1, .inr (.inr (some 107))), (0, .inr (.inr (some 129)))], [], Q1)) (C := []) rfl trivial ?_
  show mu_W _ _ (13, [(2, .inl (nI 0)), (1, .inr (.inr (some 107))), (0, .inr (.inr (some 129)))], [], Q1) _
  refine mw_sub (L' := [(2, .inl (nI 0)), (0, .inr (.inr (some 129))), (1, .inr (.inr (some 107)))]) (by simp) ?_
  refine mw_down (α := Nat × mu_H) (fun zs => (13, [(2, .inl (nI zs.1)), (0, .inr (.inr (some 129))), (1, .inr (.inr (some 107)))], [], zs.2)) (fun zs => l - zs.1) (fun zs => um m zs.2 ∧ ur m C H zs.2 ∧ (uq F403a V1 (ud m zs.2)) ∧ (zs.1 ≤ l) ∧ (∃ n, (ud m zs.2).2.1 129 11 = nI n ∧ LSO (ud m zs.2) n (at0 + zs.1) (fun x => qq x = true))) (fun zs hza iha => ?_) (0, Q1) ⟨u1, ht1, (show uq F403a V1 (ud m Q1) from by rw [d1]; exact uq.refl _ _), (show 0 ≤ l from (by omega)), (show ∃ n, (ud m Q1).2.1 129 11 = nI n ∧ LSO (ud m Q1) n (at0 + 0) (fun x => qq x = true) from by rw [d1]; exact ⟨n0, (show (V1.2.1 129 11) = (U.2.1 129 11) from (z1.i 129 11 rfl)).trans hn0, (show LSO V1 n0 (at0 + 0) _ from LSO.eq (by rw [Nat.add_zero]; exact hl0) (show (V1.2.2.1 129 10) = (U.2.2.1 129 10) from (z1.a 129 10 rfl)))⟩)⟩
  obtain ⟨k, Hsa⟩ := zs
  obtain ⟨ua, hta, da, hk, hn⟩ := hza
  have ua : um m Hsa := ua
  have hta : ur m C H Hsa := hta
  have zza : uq F403a V1 (ud m Hsa) := da
  have hk : k ≤ l := hk
  have hn : ∃ n, (ud m Hsa).2.1 129 11 = nI n ∧ LSO (ud m Hsa) n (at0 + k) (fun x => qq x = true) := hn
  obtain ⟨Va, da⟩ : ∃ V, ud m Hsa = V := ⟨_, rfl⟩
  rw [da] at zza hn
  have qfa : uq F403 U Va := qf1.tr zza rfl
  show mu_W _ _ (13, [(2, .inl (nI k)), (0, .inr (.inr (some 129))), (1, .inr (.inr (some 107)))], [], Hsa) _
  obtain ⟨n, hn11, hls⟩ := hn
  have hnt := hls.le
  refine mw_go mu_g403 (k := 3) (f1 := (18, [(2, .inl (nI k)), (0, .inr (.inr (some 129))), (1, .inr (.inr (some 107)))], [.inr (.inr (mu_r Hsa 129 0)), .inl (nI k)], Hsa)) (C := [mu_is Hsa (some 129) 9]) rfl (show mu_is Hsa (some 129) 9 from (ua.1.1.is rfl)) ?_
  rw [(ua.1.1.r (p := 129) (j := 0) (q := 99) rfl)]
  refine mw_go mu_g403 (k := 1) (f1 := (21, [(2, .inl (nI k)), (0, .inr (.inr (some 129))), (1, .inr (.inr (some 107)))], [.inr (.inr (mu_r Hsa 99 1)), .inl (nI k)], Hsa)) (C := [mu_is Hsa (some 99) 13]) rfl (show mu_is Hsa (some 99) 13 from (ua.1.1.is rfl)) ?_
  rw [(ua.1.1.r (p := 99) (j := 1) (q := 100) rfl)]
  refine mw_go mu_g403 (k := 1) (f1 := (24, [(2, .inl (nI k)), (0, .inr (.inr (some 129))), (1, .inr (.inr (some 107)))], [.inl (mu_i Hsa 100 18), .inl (nI k)], Hsa)) (C := [mu_is Hsa (some 100) 5]) rfl (show mu_is Hsa (some 100) 5 from (ua.1.1.is rfl)) ?_
  rw [(show mu_i Hsa 100 18 = (nI l) from (ud_i (U := Va) (m := m) (P := 100) (j := 18) da rfl).trans ((zza.i 100 18 rfl).trans ((z1.i 100 18 rfl).trans hlan)))]
  refine mw_if (P := (nI k) < (nI l)) (a := 27) (b := 66) (fun _ => rfl) trivial (fun h2 => ?_) (fun h2 => ?_)
  · -- 27: (nI k) < (nI l)
    have nh2 : k < l := (nI_ltI (by omega) (by omega)).mp (show nI k < nI l from h2)
    refine mw_go mu_g403 (k := 2) (f1 := (31, [(2, .inl (nI k)), (0, .inr (.inr (some 129))), (1, .inr (.inr (some 107)))], [.inr (.inr (mu_r Hsa 129 10))], Hsa)) (C := [mu_is Hsa (some 129) 9]) rfl (show mu_is Hsa (some 129) 9 from (ua.1.1.is rfl)) ?_
    rw [(show mu_r Hsa 129 10 = (U.2.2.2.1 129 10) from (ud_q (U := Va) (m := m) (P := 129) (j := 10) da rfl).trans ((zza.r 129 10 rfl).trans (z1.r 129 10 rfl)))]
    refine mw_go mu_g403 (k := 2) (f1 := (35, [(2, .inl (nI k)), (0, .inr (.inr (some 129))), (1, .inr (.inr (some 107)))], [.inl (mu_i Hsa 129 11), .inr (.inr (U.2.2.2.1 129 10))], Hsa)) (C := [mu_is Hsa (some 129) 9]) rfl (show mu_is Hsa (some 129) 9 from (ua.1.1.is rfl)) ?_
    rw [(show mu_i Hsa 129 11 = (nI n) from (ud_i (U := Va) (m := m) (P := 129) (j := 11) da rfl).trans hn11)]
    refine mw_go mu_g403 (k := 2) (f1 := (39, [(2, .inl (nI k)), (0, .inr (.inr (some 129))), (1, .inr (.inr (some 107)))], [.inr (.inr (mu_r Hsa 129 0)), .inl (nI n), .inr (.inr (U.2.2.2.1 129 10))], Hsa)) (C := [mu_is Hsa (some 129) 9]) rfl (show mu_is Hsa (some 129) 9 from (ua.1.1.is rfl)) ?_
    rw [(ua.1.1.r (p := 129) (j := 0) (q := 99) rfl)]
    refine mw_go mu_g403 (k := 1) (f1 := (42, [(2, .inl (nI k)), (0, .inr (.inr (some 129))), (1, .inr (.inr (some 107)))], [.inr (.inr (mu_r Hsa 99 1)), .inl (nI n), .inr (.inr (U.2.2.2.1 129 10))], Hsa)) (C := [mu_is Hsa (some 99) 13]) rfl (show mu_is Hsa (some 99) 13 from (ua.1.1.is rfl)) ?_
    rw [(ua.1.1.r (p := 99) (j := 1) (q := 100) rfl)]
    refine mw_go mu_g403 (k := 1) (f1 := (45, [(2, .inl (nI k)), (0, .inr (.inr (some 129))), (1, .inr (.inr (some 107)))], [.inl (mu_i Hsa 100 19), .inl (nI n), .inr (.inr (U.2.2.2.1 129 10))], Hsa)) (C := [mu_is Hsa (some 100) 5]) rfl (show mu_is Hsa (some 100) 5 from (ua.1.1.is rfl)) ?_
    rw [(show mu_i Hsa 100 19 = (nI at0) from (ud_i (U := Va) (m := m) (P := 100) (j := 19) da rfl).trans ((zza.i 100 19 rfl).trans ((z1.i 100 19 rfl).trans hat)))]
    refine mw_go mu_g403 (k := 2) (f1 := (47, [(2, .inl (nI k)), (0, .inr (.inr (some 129))), (1, .inr (.inr (some 107)))], [.inl ((nI at0) + (nI k)), .inl (nI n), .inr (.inr (U.2.2.2.1 129 10))], Hsa)) (C := []) rfl trivial ?_
    rw [(show ((nI at0) + (nI k)) = (nI (at0 + k)) from (nI_add at0 k))]
    refine mw_go mu_g403 (k := 1) (f1 := (48, [(2, .inl (nI k)), (0, .inr (.inr (some 129))), (1, .inr (.inr (some 107)))], [], (mu_si Hsa (mu_p (U.2.2.2.1 129 10)) (nI n).toNatClampNeg (nI (at0 + k))))) (C := [mu_is Hsa (U.2.2.2.1 129 10) 100, vp_in (nI n) (mu_n Hsa (mu_p (U.2.2.2.1 129 10)))]) rfl (show (mu_is Hsa (U.2.2.2.1 129 10) 100) ∧ (vp_in (nI n) (mu_n Hsa (mu_p (U.2.2.2.1 129 10)))) from ⟨(ua.iA da rfl rfl (show Va.2.2.2.1 129 10 = (U.2.2.2.1 129 10) from ((zza.r 129 10 rfl).trans (z1.r 129 10 rfl)))), (ua.vA (i := n) da rfl rfl (show Va.2.2.2.1 129 10 = (U.2.2.2.1 129 10) from ((zza.r 129 10 rfl).trans (z1.r 129 10 rfl))) (show (Va.2.2.1 129 10).1 = (U.2.2.1 129 10).1 from ((zza.n 129 10 rfl).trans (z1.n 129 10 rfl))) (by omega) (by omega))⟩) ?_
    rw [(show (nI n).toNatClampNeg = n from nI_clamp (by omega))]
    obtain ⟨u3, r3, d3⟩ : um m (mu_si Hsa (mu_p (U.2.2.2.1 129 10)) n (nI (at0 + k))) ∧ ur m C Hsa (mu_si Hsa (mu_p (U.2.2.2.1 129 10)) n (nI (at0 + k))) ∧ ud m (mu_si Hsa (mu_p (U.2.2.2.1 129 10)) n (nI (at0 + k))) = (upA Va 129 10 n (nI (at0 + k))) := ua.sA (C := C) da rfl rfl (show Va.2.2.2.1 129 10 = (U.2.2.2.1 129 10) from ((zza.r 129 10 rfl).trans (z1.r 129 10 rfl)))
    generalize (mu_si Hsa (mu_p (U.2.2.2.1 129 10)) n (nI (at0 + k))) = Q3 at u3 r3 d3 ⊢
    have qf3 : uq F403 U (upA Va 129 10 n (nI (at0 + k))) := qfa.A rfl
    have ht3 : ur m C H Q3 := hta.trans r3
    refine mw_go mu_g403 (k := 3) (f1 := (53, [(2, .inl (nI k)), (0, .inr (.inr (some 129))), (1, .inr (.inr (some 107)))], [.inl (mu_i Q3 129 11), .inr (.inr (some 129))], Q3)) (C := [mu_is Q3 (some 129) 9]) rfl (show mu_is Q3 (some 129) 9 from (u3.1.1.is rfl)) ?_
    rw [(show mu_i Q3 129 11 = (nI n) from (ud_i (U := (upA Va 129 10 n (nI (at0 + k)))) (m := m) (P := 129) (j := 11) d3 rfl).trans hn11)]
    refine mw_go mu_g403 (k := 3) (f1 := (56, [(2, .inl (nI k)), (0, .inr (.inr (some 129))), (1, .inr (.inr (some 107)))], [.inl (mu_i Q3 107 (nI k).toNatClampNeg), .inl (nI n), .inr (.inr (some 129))], Q3)) (C := [mu_isr Q3 (some 107) 100, vp_in (nI k) (mu_n Q3 107)]) rfl (show (mu_isr Q3 (some 107) 100) ∧ (vp_in (nI k) (mu_n Q3 107)) from ⟨((u3.iA d3 rfl rfl ((ud_q (m := m) (P := 100) (j := 9) d3 rfl).symm.trans (u3.1.1.r (p := 100) (j := 9) (q := 107) rfl)))).r, (by rw [show mu_n Q3 107 = 1024 from (u3.1.1.a (p := 107) (x := (100, 1024)) rfl).2]; exact vp_in_nI (n := k) (by omega) (by decide))⟩) ?_
    rw [(show (mu_i Q3 107 (nI k).toNatClampNeg) = (nI (if qq (at0 + k) = true then 1 else 0)) from ((congrArg (mu_i Q3 107) (show (nI k).toNatClampNeg = k from nI_clamp (by omega))).trans (u3.gA d3 rfl rfl ((ud_q (m := m) (P := 100) (j := 9) d3 rfl).symm.trans (u3.1.1.r (p := 100) (j := 9) (q := 107) rfl)))).trans ((congrArg (fun z => z.2 k) (show (upA Va 129 10 n (nI (at0 + k))).2.2.1 100 9 = (V1.2.2.1 100 9) from (zza.a 100 9 rfl))).trans (hres2 k (by omega))))]
    refine mw_go mu_g403 (k := 1) (f1 := (57, [(2, .inl (nI k)), (0, .inr (.inr (some 129))), (1, .inr (.inr (some 107)))], [.inl ((nI n) + (nI (if qq (at0 + k) = true then 1 else 0))), .inr (.inr (some 129))], Q3)) (C := []) rfl trivial ?_
    rw [(show ((nI n) + (nI (if qq (at0 + k) = true then 1 else 0))) = (nI (n + (if qq (at0 + k) = true then 1 else 0))) from (nI_add n (if qq (at0 + k) = true then 1 else 0)))]
    refine mw_go mu_g403 (k := 1) (f1 := (60, [(2, .inl (nI k)), (0, .inr (.inr (some 129))), (1, .inr (.inr (some 107)))], [], (mu_si Q3 129 11 (nI (n + (if qq (at0 + k) = true then 1 else 0)))))) (C := [mu_is Q3 (some 129) 9]) rfl (show mu_is Q3 (some 129) 9 from (u3.1.1.is rfl)) ?_
    obtain ⟨u4, r4, d4⟩ : um m (mu_si Q3 129 11 (nI (n + (if qq (at0 + k) = true then 1 else 0)))) ∧ ur m C Q3 (mu_si Q3 129 11 (nI (n + (if qq (at0 + k) = true then 1 else 0)))) ∧ ud m (mu_si Q3 129 11 (nI (n + (if qq (at0 + k) = true then 1 else 0)))) = (upI (upA Va 129 10 n (nI (at0 + k))) 129 11 (nI (n + (if qq (at0 + k) = true then 1 else 0)))) := u3.sI (C := C) d3 rfl
    generalize (mu_si Q3 129 11 (nI (n + (if qq (at0 + k) = true then 1 else 0)))) = Q4 at u4 r4 d4 ⊢
    have qf4 : uq F403 U (upI (upA Va 129 10 n (nI (at0 + k))) 129 11 (nI (n + (if qq (at0 + k) = true then 1 else 0)))) := qf3.I rfl
    have ht4 : ur m C H Q4 := ht3.trans r4
    refine mw_go mu_g403 (k := 1) (f1 := (63, [(2, .inl ((nI k) + 1)), (0, .inr (.inr (some 129))), (1, .inr (.inr (some 107)))], [], Q4)) (C := []) rfl trivial ?_
    rw [(show ((nI k) + 1) = (nI (k + 1)) from (nI_add k 1))]
    refine mw_go mu_g403 (k := 1) (f1 := (13, [(2, .inl (nI (k + 1))), (0, .inr (.inr (some 129))), (1, .inr (.inr (some 107)))], [], Q4)) (C := []) rfl trivial ?_
    exact mw_sub (by simp) (iha (k + 1, Q4) ⟨u4, ht4, (show uq F403a V1 (ud m Q4) from by rw [d4]; exact ((zza.A rfl).I rfl)), (show (k + 1) ≤ l from (by omega)), (show ∃ n, (ud m Q4).2.1 129 11 = nI n ∧ LSO (ud m Q4) n (at0 + (k + 1)) (fun x => qq x = true) from by rw [d4]; exact ⟨n + (if qq (at0 + k) = true then 1 else 0), rfl, (show LSO (upI (upA Va 129 10 n (nI (at0 + k))) 129 11 (nI (n + (if qq (at0 + k) = true then 1 else 0)))) _ (at0 + (k + 1)) _ from LSO.eq (U := upA Va 129 10 n (nI (at0 + k))) (by rw [← Nat.add_assoc]; exact LSO.bool hls) rfl)⟩)⟩ (by show l - (k + 1) < l - k; omega))
  · -- 66: not (nI k) < (nI l)
    have nh2 : ¬ k < l := fun z => h2 (show nI k < nI l from (nI_ltI (by omega) (by omega)).mpr z)
    have hke : k = l := by omega
    rw [hke] at hls
    exact mw_of (fun _ => mu_ret rfl trivial ⟨Hsa, rfl, ua, hta, (by rw [da]; exact qfa), n, (by rw [da]; exact hn11), (by rw [da]; exact hls)⟩)
end ListTruths
