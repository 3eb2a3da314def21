/-! RELATION: extend, spell -/
section Extend2
variable {H : mu_H} {U V : Ud} {m d dep P n k st fre N us nf nb b : Nat} {C : Nat → Nat} {bo : Nat → Nat → Nat} {f dg lc on : Nat → Nat} {tm : Nat → Int32} {oc : Nat → Nat} {ol : Nat → Nat → Nat} {S : Nat → Nat → Bool} {z : Nat → Nat} {p : Nat → Bool} {L : Nat → Int64}
def F280a : Uf := ⟨[], [], [(129, 10)], [], [], false⟩
/-- PathProver$Relation.extend(IIII)I -/
abbrev mu_m280 : ev_M := (9, (some .int), [], ev_b280)
theorem mu_g280 : mu_good mu_m280 := mu_goodk ev_k280
theorem rl_ext0 (hA : EXA m P f fre N us S z p nf tm lc oc on ol L nb bo b H U k st n dg) (hk : k = fre) : mu_TI (mu_D (d + 1)) 280 [.inr (.inr (some 129)), .inl (nI k), .inl (nI st), .inl (nI n), .inl (nI fre)] H (EXP C m P f H U k st dg (QQ P f fre S nf tm lc oc on ol L nb bo b)) := by
  obtain ⟨h, e, hE, hdg, hdst, ⟨a, hsta⟩, hT, hpre, hls⟩ := hA
  obtain ⟨hS, hSK, h24, hch, hpm, hoc, hopt, ⟨⟨hl12, hl12b⟩, hl10, hl10b⟩, ⟨⟨hbr, hBI, hBO, hB⟩, hfP⟩, hLL⟩ := (show EXS U m P f fre N us S z p nf tm lc oc on ol L nb bo b from hE)
  obtain ⟨⟨s4, s10, s11, s12⟩, hk5, ⟨g8, g8b, g18, g18b⟩, ⟨gP, gpd, gsm⟩, hsp, hmo⟩ := (show spx m U P f from hS)
  have hn0 := hls.le
  refine mu_meth (M := mu_m280) rfl rfl ?_
  refine mw_ht (mu_fn_of (show [0, 1, 2, 3, 4].Nodup by decide)) ?_
  refine mw_go mu_g280 (k := 4) (f1 := (6, [(5, .inl (nI n)), (0, .inr (.inr (some 129))), (1, .inl (nI k)), (2, .inl (nI st)), (3, .inl (nI n)), (4, .inl (nI fre))], [.inl (nI fre), .inl (nI k)], H)) (C := []) rfl trivial ?_
  refine mw_if (P := (nI k) < (nI fre)) (a := 9) (b := 15) (fun _ => rfl) trivial (fun h1 => absurd h1 (fun y => absurd ((nI_ltI (by omega) (by omega)).mp y) (by omega))) (fun h1 => ?_)
  refine mw_go mu_g280 (k := 2) (f1 := (17, [(5, .inl (nI n)), (0, .inr (.inr (some 129))), (1, .inl (nI k)), (2, .inl (nI st)), (3, .inl (nI n)), (4, .inl (nI fre))], [.inl (nI k), .inl (nI st)], H)) (C := []) rfl trivial ?_
  refine mw_if (P := (nI k) = 0) (a := 20) (b := 30) (fun _ => rfl) trivial (fun h2 => ?_) (fun h2 => ?_)
  · -- 20: (nI k) = 0
    have nh2 : k = 0 := (nI_eq (by omega) (by omega)).mp (show nI k = nI 0 from h2)
    refine mw_go mu_g280 (k := 2) (f1 := (24, [(5, .inl (nI n)), (0, .inr (.inr (some 129))), (1, .inl (nI k)), (2, .inl (nI st)), (3, .inl (nI n)), (4, .inl (nI fre))], [.inr (.inr (mu_r H 129 0)), .inl (nI st)], H)) (C := [mu_is H (some 129) 9]) rfl (show mu_is H (some 129) 9 from (h.1.1.is rfl)) ?_
    rw [(h.1.1.r (p := 129) (j := 0) (q := 99) rfl)]
    refine mw_go mu_g280 (k := 1) (f1 := (27, [(5, .inl (nI n)), (0, .inr (.inr (some 129))), (1, .inl (nI k)), (2, .inl (nI st)), (3, .inl (nI n)), (4, .inl (nI fre))], [.inl (mu_i H 99 11), .inl (nI st)], H)) (C := [mu_is H (some 99) 13]) rfl (show mu_is H (some 99) 13 from (h.1.1.is rfl)) ?_
    rw [(show mu_i H 99 11 = (nI (pd f 0 P)) from (ud_i (U := U) (m := m) (P := 99) (j := 11) e rfl).trans s11)]
    refine mw_go mu_g280 (k := 1) (f1 := (41, [(5, .inl (nI n)), (0, .inr (.inr (some 129))), (1, .inl (nI k)), (2, .inl (nI st)), (3, .inl (nI n)), (4, .inl (nI fre))], [.inl (nI (pd f 0 P)), .inl (nI st)], H)) (C := []) rfl trivial ?_
    rw [show nI (pd f 0 P) = nI (Bk f P k) from congrArg nI (by unfold Bk; rw [nh2]; rfl)]
    refine mw_go mu_g280 (k := 1) (f1 := (42, [(5, .inl (nI n)), (0, .inr (.inr (some 129))), (1, .inl (nI k)), (2, .inl (nI st)), (3, .inl (nI n)), (4, .inl (nI fre))], [.inl ((nI st) + (nI (Bk f P k)))], H)) (C := []) rfl trivial ?_
    rw [(show ((nI st) + (nI (Bk f P k))) = (nI (st + (Bk f P k))) from (nI_add st (Bk f P k)))]
    refine mw_go mu_g280 (k := 3) (f1 := (47, [(7, .inl (nI st)), (6, .inl (nI (st + (Bk f P k)))), (5, .inl (nI n)), (0, .inr (.inr (some 129))), (1, .inl (nI k)), (2, .inl (nI st)), (3, .inl (nI n)), (4, .inl (nI fre))], [], H)) (C := []) rfl trivial ?_
    refine mw_sub (L' := [(7, .inl (nI st)), (5, .inl (nI n)), (0, .inr (.inr (some 129))), (6, .inl (nI (st + (Bk f P k))))]) (by simp) ?_
    refine mw_down (α := Nat × Nat × mu_H) (fun zs => (47, [(7, .inl (nI zs.1)), (5, .inl (nI zs.2.1)), (0, .inr (.inr (some 129))), (6, .inl (nI (st + (Bk f P k))))], [], zs.2.2)) (fun zs => st + Bk f P k - zs.1) (fun zs => um m zs.2.2 ∧ ur m C H zs.2.2 ∧ (uq F280a U (ud m zs.2.2)) ∧ (st ≤ zs.1 ∧ zs.1 ≤ st + Bk f P k) ∧ (LSO (ud m zs.2.2) zs.2.1 zs.1 (QQ P f fre S nf tm lc oc on ol L nb bo b))) (fun zs hza iha => ?_) (st, n, H) ⟨h, (ur.refl m C H), (show uq F280a U (ud m H) from by rw [e]; exact uq.refl _ _), (show st ≤ st ∧ st ≤ st + Bk f P k from (by omega)), (show LSO (ud m H) n st (QQ P f fre S nf tm lc oc on ol L nb bo b) from by rw [e]; exact hls)⟩
    obtain ⟨t, n, Hsa⟩ := zs
    obtain ⟨ua, hta, da, ht, hlt⟩ := hza
    have ua : um m Hsa := ua
    have hta : ur m C H Hsa := hta
    have zza : uq F280a U (ud m Hsa) := da
    have ht : st ≤ t ∧ t ≤ st + Bk f P k := ht
    have hlt : LSO (ud m Hsa) n t (QQ P f fre S nf tm lc oc on ol L nb bo b) := hlt
    obtain ⟨Va, da⟩ : ∃ V, ud m Hsa = V := ⟨_, rfl⟩
    rw [da] at zza hlt
    have qfa : uq F280 U Va := (uq.refl F280 U).tr zza rfl
    show mu_W _ _ (47, [(7, .inl (nI t)), (5, .inl (nI n)), (0, .inr (.inr (some 129))), (6, .inl (nI (st + (Bk f P k))))], [], Hsa) _
    have hnt := hlt.le
    refine mw_go mu_g280 (k := 2) (f1 := (51, [(7, .inl (nI t)), (5, .inl (nI n)), (0, .inr (.inr (some 129))), (6, .inl (nI (st + (Bk f P k))))], [.inl (nI (st + (Bk f P k))), .inl (nI t)], Hsa)) (C := []) rfl trivial ?_
    refine mw_if (P := (nI t) < (nI (st + (Bk f P k)))) (a := 54) (b := 93) (fun _ => rfl) trivial (fun h3 => ?_) (fun h3 => ?_)
    · -- 54: (nI t) < (nI (st + (Bk f P k)))
      have nh3 : t < (st + (Bk f P k)) := (nI_ltI (by omega) (by omega)).mp (show nI t < nI (st + (Bk f P k)) from h3)
      refine mw_go mu_g280 (k := 2) (f1 := (58, [(7, .inl (nI t)), (5, .inl (nI n)), (0, .inr (.inr (some 129))), (6, .inl (nI (st + (Bk f P k))))], [.inr (.inr (mu_r Hsa 129 10))], Hsa)) (C := [mu_is Hsa (some 129) 9]) rfl (show mu_is Hsa (some 129) 9 from (ua.1.1.is rfl)) ?_
      rw [(show mu_r Hsa 129 10 = (U.2.2.2.1 129 10) from (ud_q (U := Va) (m := m) (P := 129) (j := 10) da rfl).trans (zza.r 129 10 rfl))]
      refine mw_go mu_g280 (k := 3) (f1 := (63, [(7, .inl (nI t)), (5, .inl (nI n)), (0, .inr (.inr (some 129))), (6, .inl (nI (st + (Bk f P k))))], [], (mu_si Hsa (mu_p (U.2.2.2.1 129 10)) (nI n).toNatClampNeg (nI t)))) (C := [mu_is Hsa (U.2.2.2.1 129 10) 100, vp_in (nI n) (mu_n Hsa (mu_p (U.2.2.2.1 129 10)))]) rfl (show (mu_is Hsa (U.2.2.2.1 129 10) 100) ∧ (vp_in (nI n) (mu_n Hsa (mu_p (U.2.2.2.1 129 10)))) from ⟨(ua.iA da rfl rfl (show Va.2.2.2.1 129 10 = (U.2.2.2.1 129 10) from (zza.r 129 10 rfl))), (ua.vA (i := n) da rfl rfl (show Va.2.2.2.1 129 10 = (U.2.2.2.1 129 10) from (zza.r 129 10 rfl)) (show (Va.2.2.1 129 10).1 = (U.2.2.1 129 10).1 from (zza.n 129 10 rfl)) (by omega) (by omega))⟩) ?_
      rw [(show (nI n).toNatClampNeg = n from nI_clamp (by omega))]
      obtain ⟨u4, r4, d4⟩ : um m (mu_si Hsa (mu_p (U.2.2.2.1 129 10)) n (nI t)) ∧ ur m C Hsa (mu_si Hsa (mu_p (U.2.2.2.1 129 10)) n (nI t)) ∧ ud m (mu_si Hsa (mu_p (U.2.2.2.1 129 10)) n (nI t)) = (upA Va 129 10 n (nI t)) := ua.sA (C := C) da rfl rfl (show Va.2.2.2.1 129 10 = (U.2.2.2.1 129 10) from (zza.r 129 10 rfl))
      generalize (mu_si Hsa (mu_p (U.2.2.2.1 129 10)) n (nI t)) = Q4 at u4 r4 d4 ⊢
      have qf4 : uq F280 U (upA Va 129 10 n (nI t)) := qfa.A rfl
      have ht4 : ur m C H Q4 := hta.trans r4
      refine mw_go mu_g280 (k := 3) (f1 := (69, [(7, .inl (nI t)), (5, .inl (nI n)), (0, .inr (.inr (some 129))), (6, .inl (nI (st + (Bk f P k))))], [.inr (.inr (mu_r Q4 129 0)), .inl (nI n)], Q4)) (C := [mu_is Q4 (some 129) 9]) rfl (show mu_is Q4 (some 129) 9 from (u4.1.1.is rfl)) ?_
      rw [(u4.1.1.r (p := 129) (j := 0) (q := 99) rfl)]
      refine mw_go mu_g280 (k := 1) (f1 := (72, [(7, .inl (nI t)), (5, .inl (nI n)), (0, .inr (.inr (some 129))), (6, .inl (nI (st + (Bk f P k))))], [.inr (.inr (mu_r Q4 99 14)), .inl (nI n)], Q4)) (C := [mu_is Q4 (some 99) 13]) rfl (show mu_is Q4 (some 99) 13 from (u4.1.1.is rfl)) ?_
      rw [(u4.1.1.r (p := 99) (j := 14) (q := 124) rfl)]
      refine mw_go mu_g280 (k := 3) (f1 := (77, [(7, .inl (nI t)), (5, .inl (nI n)), (0, .inr (.inr (some 129))), (6, .inl (nI (st + (Bk f P k))))], [.inl ((nI t) >>> ((6 : Int32) &&& 31)), .inr (.inr (some 124)), .inl (nI n)], Q4)) (C := []) rfl trivial ?_
      rw [(show ((nI t) >>> ((6 : Int32) &&& 31)) = (nI (t / 64)) from (nI_shr6 (a := t) (by omega)))]
      refine mw_go mu_g280 (k := 1) (f1 := (78, [(7, .inl (nI t)), (5, .inl (nI n)), (0, .inr (.inr (some 129))), (6, .inl (nI (st + (Bk f P k))))], [.inr (.inl (mu_l Q4 124 (nI (t / 64)).toNatClampNeg)), .inl (nI n)], Q4)) (C := [mu_isr Q4 (some 124) 102, vp_in (nI (t / 64)) (mu_n Q4 124)]) rfl (show (mu_isr Q4 (some 124) 102) ∧ (vp_in (nI (t / 64)) (mu_n Q4 124)) from ⟨((u4.1.1.a (p := 124) (x := (102, 256)) rfl).1).r, (by rw [show mu_n Q4 124 = 256 from (u4.1.1.a (p := 124) (x := (102, 256)) rfl).2]; exact vp_in_nI (n := t / 64) (by omega) (by decide))⟩) ?_
      rw [(show (mu_l Q4 124 (nI (t / 64)).toNatClampNeg) = (U.2.2.2.2.1 124) (t / 64) from (congrArg (mu_l Q4 124) (show (nI (t / 64)).toNatClampNeg = t / 64 from nI_clamp (by omega))).trans ((ud_l (m := m) (p := 124) (i := (t / 64)) d4 rfl).trans (congrFun (show (upA Va 129 10 n (nI t)).2.2.2.2.1 124 = (U.2.2.2.2.1 124) from (zza.l 124 rfl)) (t / 64))))]
      refine mw_go mu_g280 (k := 5) (f1 := (84, [(7, .inl (nI t)), (5, .inl (nI n)), (0, .inr (.inr (some 129))), (6, .inl (nI (st + (Bk f P k))))], [.inl ((((((U.2.2.2.2.1 124) (t / 64)).toUInt64 >>> ((nI t).toInt64.toUInt64 &&& Int64.toUInt64 63)).toInt64) &&& (1 : Int64)).toInt32), .inl (nI n)], Q4)) (C := []) rfl trivial ?_
      rw [show ((((((U.2.2.2.2.1 124) (t / 64)).toUInt64 >>> ((nI t).toInt64.toUInt64 &&& Int64.toUInt64 63)).toInt64) &&& (1 : Int64)).toInt32) = nI (if bts L t = true then 1 else 0) from (bit_n (by omega)).trans (by unfold bts; rw [← hLL])]
      refine mw_go mu_g280 (k := 1) (f1 := (85, [(7, .inl (nI t)), (5, .inl (nI n)), (0, .inr (.inr (some 129))), (6, .inl (nI (st + (Bk f P k))))], [.inl ((nI n) + (nI (if bts L t = true then 1 else 0)))], Q4)) (C := []) rfl trivial ?_
      rw [(show ((nI n) + (nI (if bts L t = true then 1 else 0))) = (nI (n + (if bts L t = true then 1 else 0))) from (nI_add n (if bts L t = true then 1 else 0)))]
      refine mw_go mu_g280 (k := 2) (f1 := (90, [(7, .inl ((nI t) + 1)), (5, .inl (nI (n + (if bts L t = true then 1 else 0)))), (0, .inr (.inr (some 129))), (6, .inl (nI (st + (Bk f P k))))], [], Q4)) (C := []) rfl trivial ?_
      rw [(show ((nI t) + 1) = (nI (t + 1)) from (nI_add t 1))]
      refine mw_go mu_g280 (k := 1) (f1 := (47, [(7, .inl (nI (t + 1))), (5, .inl (nI (n + (if bts L t = true then 1 else 0)))), (0, .inr (.inr (some 129))), (6, .inl (nI (st + (Bk f P k))))], [], Q4)) (C := []) rfl trivial ?_
      exact mw_sub (by simp) (iha (t + 1, n + (if bts L t = true then 1 else 0), Q4) ⟨u4, ht4, (show uq F280a U (ud m Q4) from by rw [d4]; exact (zza.A rfl)), (show st ≤ (t + 1) ∧ (t + 1) ≤ st + Bk f P k from (by omega)), (show LSO (ud m Q4) (n + (if bts L t = true then 1 else 0)) (t + 1) (QQ P f fre S nf tm lc oc on ol L nb bo b) from by rw [d4]; exact (hlt.bit ⟨fun y => ⟨y, fun j hj => hpre t (by omega) (by omega) j (by omega)⟩, fun y => y.1⟩))⟩ (by show st + Bk f P k - (t + 1) < st + Bk f P k - t; omega))
    · -- 93: not (nI t) < (nI (st + (Bk f P k)))
      have nh3 : ¬ t < (st + (Bk f P k)) := fun z => h3 (show nI t < nI (st + (Bk f P k)) from (nI_ltI (by omega) (by omega)).mpr z)
      refine mw_go mu_g280 (k := 1) (f1 := (95, [(7, .inl (nI t)), (5, .inl (nI n)), (0, .inr (.inr (some 129))), (6, .inl (nI (st + (Bk f P k))))], [.inl (nI n)], Hsa)) (C := []) rfl trivial ?_
      have hte : t = st + Bk f P k := by omega
      rw [hte] at hlt
      exact mw_of (fun _ => mu_ret rfl trivial ⟨(nI n), Hsa, rfl, n, rfl, ua, hta, (by rw [da]; exact qfa), (by rw [da]; exact hlt), dg, (by rw [da]; exact fun j hj => by rw [show Va.2.2.1 129 16 = U.2.2.1 129 16 from zza.a 129 16 rfl]; exact hdg j hj), fun _ _ => rfl⟩)
  · -- 30: not (nI k) = 0
    have nh2 : ¬ k = 0 := fun z => h2 (show nI k = nI 0 from (nI_eq (by omega) (by omega)).mpr z)
    refine mw_go mu_g280 (k := 2) (f1 := (34, [(5, .inl (nI n)), (0, .inr (.inr (some 129))), (1, .inl (nI k)), (2, .inl (nI st)), (3, .inl (nI n)), (4, .inl (nI fre))], [.inr (.inr (mu_r H 129 0)), .inl (nI st)], H)) (C := [mu_is H (some 129) 9]) rfl (show mu_is H (some 129) 9 from (h.1.1.is rfl)) ?_
    rw [(h.1.1.r (p := 129) (j := 0) (q := 99) rfl)]
    refine mw_go mu_g280 (k := 1) (f1 := (37, [(5, .inl (nI n)), (0, .inr (.inr (some 129))), (1, .inl (nI k)), (2, .inl (nI st)), (3, .inl (nI n)), (4, .inl (nI fre))], [.inr (.inr (mu_r H 99 6)), .inl (nI st)], H)) (C := [mu_is H (some 99) 13]) rfl (show mu_is H (some 99) 13 from (h.1.1.is rfl)) ?_
    rw [(h.1.1.r (p := 99) (j := 6) (q := 121) rfl)]
    refine mw_go mu_g280 (k := 3) (f1 := (40, [(5, .inl (nI n)), (0, .inr (.inr (some 129))), (1, .inl (nI k)), (2, .inl (nI st)), (3, .inl (nI n)), (4, .inl (nI fre))], [.inl ((nI k) - (1 : Int32)), .inr (.inr (some 121)), .inl (nI st)], H)) (C := []) rfl trivial ?_
    rw [(show ((nI k) - (1 : Int32)) = (nI (k - 1)) from (nI_sub (a := k) (b := 1) (by omega)))]
    refine mw_go mu_g280 (k := 1) (f1 := (41, [(5, .inl (nI n)), (0, .inr (.inr (some 129))), (1, .inl (nI k)), (2, .inl (nI st)), (3, .inl (nI n)), (4, .inl (nI fre))], [.inl (mu_i H 121 (nI (k - 1)).toNatClampNeg), .inl (nI st)], H)) (C := [mu_isr H (some 121) 100, vp_in (nI (k - 1)) (mu_n H 121)]) rfl (show (mu_isr H (some 121) 100) ∧ (vp_in (nI (k - 1)) (mu_n H 121)) from ⟨((h.iA e rfl rfl ((ud_q (m := m) (P := 99) (j := 6) e rfl).symm.trans (h.1.1.r (p := 99) (j := 6) (q := 121) rfl)))).r, (by rw [show mu_n H 121 = 14 from (h.1.1.a (p := 121) (x := (100, 14)) rfl).2]; exact vp_in_nI (n := k - 1) (by omega) (by decide))⟩) ?_
    rw [(show (mu_i H 121 (nI (k - 1)).toNatClampNeg) = (nI (pd f ((k - 1) + 1) (P - 1 - (k - 1)))) from ((congrArg (mu_i H 121) (show (nI (k - 1)).toNatClampNeg = k - 1 from nI_clamp (by omega))).trans (h.gA e rfl rfl ((ud_q (m := m) (P := 99) (j := 6) e rfl).symm.trans (h.1.1.r (p := 99) (j := 6) (q := 121) rfl)))).trans ((congrArg (fun z => z.2 (k - 1)) (show U.2.2.1 99 6 = (U.2.2.1 99 6) from rfl)).trans (hk5 (k - 1) (by omega)).2.2.1))]
    rw [show nI (pd f ((k - 1) + 1) (P - 1 - (k - 1))) = nI (Bk f P k) from congrArg nI (by unfold Bk; rw [show k - 1 + 1 = k by omega, show P - 1 - (k - 1) = P - k by omega])]
    refine mw_go mu_g280 (k := 1) (f1 := (42, [(5, .inl (nI n)), (0, .inr (.inr (some 129))), (1, .inl (nI k)), (2, .inl (nI st)), (3, .inl (nI n)), (4, .inl (nI fre))], [.inl ((nI st) + (nI (Bk f P k)))], H)) (C := []) rfl trivial ?_
    rw [(show ((nI st) + (nI (Bk f P k))) = (nI (st + (Bk f P k))) from (nI_add st (Bk f P k)))]
    refine mw_go mu_g280 (k := 3) (f1 := (47, [(7, .inl (nI st)), (6, .inl (nI (st + (Bk f P k)))), (5, .inl (nI n)), (0, .inr (.inr (some 129))), (1, .inl (nI k)), (2, .inl (nI st)), (3, .inl (nI n)), (4, .inl (nI fre))], [], H)) (C := []) rfl trivial ?_
    refine mw_sub (L' := [(7, .inl (nI st)), (5, .inl (nI n)), (0, .inr (.inr (some 129))), (6, .inl (nI (st + (Bk f P k))))]) (by simp) ?_
    refine mw_down (α := Nat × Nat × mu_H) (fun zs => (47, [(7, .inl (nI zs.1)), (5, .inl (nI zs.2.1)), (0, .inr (.inr (some 129))), (6, .inl (nI (st + (Bk f P k))))], [], zs.2.2)) (fun zs => st + Bk f P k - zs.1) (fun zs => um m zs.2.2 ∧ ur m C H zs.2.2 ∧ (uq F280a U (ud m zs.2.2)) ∧ (st ≤ zs.1 ∧ zs.1 ≤ st + Bk f P k) ∧ (LSO (ud m zs.2.2) zs.2.1 zs.1 (QQ P f fre S nf tm lc oc on ol L nb bo b))) (fun zs hza iha => ?_) (st, n, H) ⟨h, (ur.refl m C H), (show uq F280a U (ud m H) from by rw [e]; exact uq.refl _ _), (show st ≤ st ∧ st ≤ st + Bk f P k from (by omega)), (show LSO (ud m H) n st (QQ P f fre S nf tm lc oc on ol L nb bo b) from by rw [e]; exact hls)⟩
    obtain ⟨t, n, Hsa⟩ := zs
    obtain ⟨ua, hta, da, ht, hlt⟩ := hza
    have ua : um m Hsa := ua
    have hta : ur m C H Hsa := hta
    have zza : uq F280a U (ud m Hsa) := da
    have ht : st ≤ t ∧ t ≤ st + Bk f P k := ht
    have hlt : LSO (ud m Hsa) n t (QQ P f fre S nf tm lc oc on ol L nb bo b) := hlt
    obtain ⟨Va, da⟩ : ∃ V, ud m Hsa = V := ⟨_, rfl⟩
    rw [da] at zza hlt
    have qfa : uq F280 U Va := (uq.refl F280 U).tr zza rfl
    show mu_W _ _ (47, [(7, .inl (nI t)), (5, .inl (nI n)), (0, .inr (.inr (some 129))), (6, .inl (nI (st + (Bk f P k))))], [], Hsa) _
    have hnt := hlt.le
    refine mw_go mu_g280 (k := 2) (f1 := (51, [(7, .inl (nI t)), (5, .inl (nI n)), (0, .inr (.inr (some 129))), (6, .inl (nI (st + (Bk f P k))))], [.inl (nI (st + (Bk f P k))), .inl (nI t)], Hsa)) (C := []) rfl trivial ?_
    refine mw_if (P := (nI t) < (nI (st + (Bk f P k)))) (a := 54) (b := 93) (fun _ => rfl) trivial (fun h5 => ?_) (fun h5 => ?_)
    · -- 54: (nI t) < (nI (st + (Bk f P k)))
      have nh5 : t < (st + (Bk f P k)) := (nI_ltI (by omega) (by omega)).mp (show nI t < nI (st + (Bk f P k)) from h5)
      refine mw_go mu_g280 (k := 2) (f1 := (58, [(7, .inl (nI t)), (5, .inl (nI n)), (0, .inr (.inr (some 129))), (6, .inl (nI (st + (Bk f P k))))], [.inr (.inr (mu_r Hsa 129 10))], Hsa)) (C := [mu_is Hsa (some 129) 9]) rfl (show mu_is Hsa (some 129) 9 from (ua.1.1.is rfl)) ?_
      rw [(show mu_r Hsa 129 10 = (U.2.2.2.1 129 10) from (ud_q (U := Va) (m := m) (P := 129) (j := 10) da rfl).trans (zza.r 129 10 rfl))]
      refine mw_go mu_g280 (k := 3) (f1 := (63, [(7, .inl (nI t)), (5, .inl (nI n)), (0, .inr (.inr (some 129))), (6, .inl (nI (st + (Bk f P k))))], [], (mu_si Hsa (mu_p (U.2.2.2.1 129 10)) (nI n).toNatClampNeg (nI t)))) (C := [mu_is Hsa (U.2.2.2.1 129 10) 100, vp_in (nI n) (mu_n Hsa (mu_p (U.2.2.2.1 129 10)))]) rfl (show (mu_is Hsa (U.2.2.2.1 129 10) 100) ∧ (vp_in (nI n) (mu_n Hsa (mu_p (U.2.2.2.1 129 10)))) from ⟨(ua.iA da rfl rfl (show Va.2.2.2.1 129 10 = (U.2.2.2.1 129 10) from (zza.r 129 10 rfl))), (ua.vA (i := n) da rfl rfl (show Va.2.2.2.1 129 10 = (U.2.2.2.1 129 10) from (zza.r 129 10 rfl)) (show (Va.2.2.1 129 10).1 = (U.2.2.1 129 10).1 from (zza.n 129 10 rfl)) (by omega) (by omega))⟩) ?_
      rw [(show (nI n).toNatClampNeg = n from nI_clamp (by omega))]
      obtain ⟨u6, r6, d6⟩ : um m (mu_si Hsa (mu_p (U.2.2.2.1 129 10)) n (nI t)) ∧ ur m C Hsa (mu_si Hsa (mu_p (U.2.2.2.1 129 10)) n (nI t)) ∧ ud m (mu_si Hsa (mu_p (U.2.2.2.1 129 10)) n (nI t)) = (upA Va 129 10 n (nI t)) := ua.sA (C := C) da rfl rfl (show Va.2.2.2.1 129 10 = (U.2.2.2.1 129 10) from (zza.r 129 10 rfl))
      generalize (mu_si Hsa (mu_p (U.2.2.2.1 129 10)) n (nI t)) = Q6 at u6 r6 d6 ⊢
      have qf6 : uq F280 U (upA Va 129 10 n (nI t)) := qfa.A rfl
      have ht6 : ur m C H Q6 := hta.trans r6
      refine mw_go mu_g280 (k := 3) (f1 := (69, [(7, .inl (nI t)), (5, .inl (nI n)), (0, .inr (.inr (some 129))), (6, .inl (nI (st + (Bk f P k))))], [.inr (.inr (mu_r Q6 129 0)), .inl (nI n)], Q6)) (C := [mu_is Q6 (some 129) 9]) rfl (show mu_is Q6 (some 129) 9 from (u6.1.1.is rfl)) ?_
      rw [(u6.1.1.r (p := 129) (j := 0) (q := 99) rfl)]
      refine mw_go mu_g280 (k := 1) (f1 := (72, [(7, .inl (nI t)), (5, .inl (nI n)), (0, .inr (.inr (some 129))), (6, .inl (nI (st + (Bk f P k))))], [.inr (.inr (mu_r Q6 99 14)), .inl (nI n)], Q6)) (C := [mu_is Q6 (some 99) 13]) rfl (show mu_is Q6 (some 99) 13 from (u6.1.1.is rfl)) ?_
      rw [(u6.1.1.r (p := 99) (j := 14) (q := 124) rfl)]
      refine mw_go mu_g280 (k := 3) (f1 := (77, [(7, .inl (nI t)), (5, .inl (nI n)), (0, .inr (.inr (some 129))), (6, .inl (nI (st + (Bk f P k))))], [.inl ((nI t) >>> ((6 : Int32) &&& 31)), .inr (.inr (some 124)), .inl (nI n)], Q6)) (C := []) rfl trivial ?_
      rw [(show ((nI t) >>> ((6 : Int32) &&& 31)) = (nI (t / 64)) from (nI_shr6 (a := t) (by omega)))]
      refine mw_go mu_g280 (k := 1) (f1 := (78, [(7, .inl (nI t)), (5, .inl (nI n)), (0, .inr (.inr (some 129))), (6, .inl (nI (st + (Bk f P k))))], [.inr (.inl (mu_l Q6 124 (nI (t / 64)).toNatClampNeg)), .inl (nI n)], Q6)) (C := [mu_isr Q6 (some 124) 102, vp_in (nI (t / 64)) (mu_n Q6 124)]) rfl (show (mu_isr Q6 (some 124) 102) ∧ (vp_in (nI (t / 64)) (mu_n Q6 124)) from ⟨((u6.1.1.a (p := 124) (x := (102, 256)) rfl).1).r, (by rw [show mu_n Q6 124 = 256 from (u6.1.1.a (p := 124) (x := (102, 256)) rfl).2]; exact vp_in_nI (n := t / 64) (by omega) (by decide))⟩) ?_
      rw [(show (mu_l Q6 124 (nI (t / 64)).toNatClampNeg) = (U.2.2.2.2.1 124) (t / 64) from (congrArg (mu_l Q6 124) (show (nI (t / 64)).toNatClampNeg = t / 64 from nI_clamp (by omega))).trans ((ud_l (m := m) (p := 124) (i := (t / 64)) d6 rfl).trans (congrFun (show (upA Va 129 10 n (nI t)).2.2.2.2.1 124 = (U.2.2.2.2.1 124) from (zza.l 124 rfl)) (t / 64))))]
      refine mw_go mu_g280 (k := 5) (f1 := (84, [(7, .inl (nI t)), (5, .inl (nI n)), (0, .inr (.inr (some 129))), (6, .inl (nI (st + (Bk f P k))))], [.inl ((((((U.2.2.2.2.1 124) (t / 64)).toUInt64 >>> ((nI t).toInt64.toUInt64 &&& Int64.toUInt64 63)).toInt64) &&& (1 : Int64)).toInt32), .inl (nI n)], Q6)) (C := []) rfl trivial ?_
      rw [show ((((((U.2.2.2.2.1 124) (t / 64)).toUInt64 >>> ((nI t).toInt64.toUInt64 &&& Int64.toUInt64 63)).toInt64) &&& (1 : Int64)).toInt32) = nI (if bts L t = true then 1 else 0) from (bit_n (by omega)).trans (by unfold bts; rw [← hLL])]
      refine mw_go mu_g280 (k := 1) (f1 := (85, [(7, .inl (nI t)), (5, .inl (nI n)), (0, .inr (.inr (some 129))), (6, .inl (nI (st + (Bk f P k))))], [.inl ((nI n) + (nI (if bts L t = true then 1 else 0)))], Q6)) (C := []) rfl trivial ?_
      rw [(show ((nI n) + (nI (if bts L t = true then 1 else 0))) = (nI (n + (if bts L t = true then 1 else 0))) from (nI_add n (if bts L t = true then 1 else 0)))]
      refine mw_go mu_g280 (k := 2) (f1 := (90, [(7, .inl ((nI t) + 1)), (5, .inl (nI (n + (if bts L t = true then 1 else 0)))), (0, .inr (.inr (some 129))), (6, .inl (nI (st + (Bk f P k))))], [], Q6)) (C := []) rfl trivial ?_
      rw [(show ((nI t) + 1) = (nI (t + 1)) from (nI_add t 1))]
      refine mw_go mu_g280 (k := 1) (f1 := (47, [(7, .inl (nI (t + 1))), (5, .inl (nI (n + (if bts L t = true then 1 else 0)))), (0, .inr (.inr (some 129))), (6, .inl (nI (st + (Bk f P k))))], [], Q6)) (C := []) rfl trivial ?_
      exact mw_sub (by simp) (iha (t + 1, n + (if bts L t = true then 1 else 0), Q6) ⟨u6, ht6, (show uq F280a U (ud m Q6) from by rw [d6]; exact (zza.A rfl)), (show st ≤ (t + 1) ∧ (t + 1) ≤ st + Bk f P k from (by omega)), (show LSO (ud m Q6) (n + (if bts L t = true then 1 else 0)) (t + 1) (QQ P f fre S nf tm lc oc on ol L nb bo b) from by rw [d6]; exact (hlt.bit ⟨fun y => ⟨y, fun j hj => hpre t (by omega) (by omega) j (by omega)⟩, fun y => y.1⟩))⟩ (by show st + Bk f P k - (t + 1) < st + Bk f P k - t; omega))
    · -- 93: not (nI t) < (nI (st + (Bk f P k)))
      have nh5 : ¬ t < (st + (Bk f P k)) := fun z => h5 (show nI t < nI (st + (Bk f P k)) from (nI_ltI (by omega) (by omega)).mpr z)
      refine mw_go mu_g280 (k := 1) (f1 := (95, [(7, .inl (nI t)), (5, .inl (nI n)), (0, .inr (.inr (some 129))), (6, .inl (nI (st + (Bk f P k))))], [.inl (nI n)], Hsa)) (C := []) rfl trivial ?_
      have hte : t = st + Bk f P k := by omega
      rw [hte] at hlt
      exact mw_of (fun _ => mu_ret rfl trivial ⟨(nI n), Hsa, rfl, n, rfl, ua, hta, (by rw [da]; exact qfa), (by rw [da]; exact hlt), dg, (by rw [da]; exact fun j hj => by rw [show Va.2.2.1 129 16 = U.2.2.1 129 16 from zza.a 129 16 rfl]; exact hdg j hj), fun _ _ => rfl⟩)
theorem dig_gap {a i x0 lm : Nat} {on1 : Nat} {o1 : Nat → Nat} {t : Nat} (hf : ∀ k, 1 ≤ f k) (hk : k < P) (hs : st = Bk f P k * a) (hr : ∀ i i', i < i' → i' < on1 → o1 i < o1 i') (hl : ∀ q, q < i → o1 q < lm) (hx : x0 < f k) (t1 : st + lm * Bk f P (k + 1) ≤ t) (t2 : i < on1 → t < st + x0 * Bk f P (k + 1)) (hxo : o1 i = x0) (hin : i < on1) : ¬ lmz o1 on1 (dgzU f P t k) = true := by
  have hp := Bk_pos (P := P) (k := k + 1) hf
  have t2 := t2 hin
  have q1 : lm ≤ (t - st) / Bk f P (k + 1) := (Nat.le_div_iff_mul_le hp).mpr (by omega)
  have q2 : (t - st) / Bk f P (k + 1) < x0 := (Nat.div_lt_iff_lt_mul hp).mpr (by omega)
  have q3 := Nat.div_add_mod (t - st) (Bk f P (k + 1))
  have q4 := Nat.mod_lt (t - st) hp
  rw [Nat.mul_comm] at q3
  have e : dgzU f P t k = (t - st) / Bk f P (k + 1) := blk_k hf hk hs (by omega) (by omega) (by omega)
  rw [e]
  exact opt_gap hr hl q1 (fun _ => by rw [hxo]; exact q2)
theorem dig_gap2 {a i lm : Nat} {on1 : Nat} {o1 : Nat → Nat} {t : Nat} (hf : ∀ k, 1 ≤ f k) (hk : k < P) (hs : st = Bk f P k * a) (hr : ∀ i i', i < i' → i' < on1 → o1 i < o1 i') (hl : ∀ q, q < i → o1 q < lm) (hi : i = on1) (t1 : st + lm * Bk f P (k + 1) ≤ t) (t2 : t < st + f k * Bk f P (k + 1)) : ¬ lmz o1 on1 (dgzU f P t k) = true := by
  have hp := Bk_pos (P := P) (k := k + 1) hf
  have q1 : lm ≤ (t - st) / Bk f P (k + 1) := (Nat.le_div_iff_mul_le hp).mpr (by omega)
  have q2 : (t - st) / Bk f P (k + 1) < f k := (Nat.div_lt_iff_lt_mul hp).mpr (by omega)
  have q3 := Nat.div_add_mod (t - st) (Bk f P (k + 1))
  have q4 := Nat.mod_lt (t - st) hp
  rw [Nat.mul_comm] at q3
  have e : dgzU f P t k = (t - st) / Bk f P (k + 1) := blk_k hf hk hs q2 (by omega) (by omega)
  rw [e]
  exact opt_gap hr hl q1 (fun h => absurd h (by omega))
def F280b : Uf := ⟨[], [], [(129, 10), (129, 16)], [], [], false⟩
theorem rl_extS (hf1 : ∀ k, 1 ≤ f k) (ih : ∀ {H : mu_H} {U : Ud} {st n : Nat} {dg : Nat → Nat}, EXA m P f fre N us S z p nf tm lc oc on ol L nb bo b H U (k + 1) st n dg → mu_TI (mu_D (d + dep + 4)) 280 [.inr (.inr (some 129)), .inl (nI (k + 1)), .inl (nI st), .inl (nI n), .inl (nI fre)] H (EXP C m P f H U (k + 1) st dg (QQ P f fre S nf tm lc oc on ol L nb bo b))) (hA : EXA m P f fre N us S z p nf tm lc oc on ol L nb bo b H U k st n dg) (hkf : k < fre) : mu_TI (mu_D (d + (dep + 1) + 4)) 280 [.inr (.inr (some 129)), .inl (nI k), .inl (nI st), .inl (nI n), .inl (nI fre)] H (EXP C m P f H U k st dg (QQ P f fre S nf tm lc oc on ol L nb bo b)) := by
  obtain ⟨h, e, hE, hdg, hdst, ⟨a, hsta⟩, hT, hpre, hls⟩ := hA
  obtain ⟨hS, hSK, h24, hch, hpm, hoc, hopt, ⟨⟨hl12, hl12b⟩, hl10, hl10b⟩, ⟨⟨hbr, hBI, hBO, hB⟩, hfP⟩, hLL⟩ := (show EXS U m P f fre N us S z p nf tm lc oc on ol L nb bo b from hE)
  obtain ⟨⟨s4, s10, s11, s12⟩, hk5, ⟨g8, g8b, g18, g18b⟩, ⟨gP, gpd, gsm⟩, hsp, hmo⟩ := (show spx m U P f from hS)
  have hn0 := hls.le
  have hkP : k < P := by omega
  have hBs := Bk_step (f := f) hkP
  have hBp := Bk_pos (P := P) (k := k + 1) hf1
  have hsk := sm_seg (f := f) hkP
  have honk : on k ≤ f k := by
    by_cases h0 : on k = 0
    · omega
    · have z1 := rise_le (hopt k hkf).2.2.1 (on k - 1) (by omega)
      have z2 := (hopt k hkf).2.2.2 (on k - 1) (by omega)
      omega
  refine mu_meth (M := mu_m280) rfl rfl ?_
  refine mw_ht (mu_fn_of (show [0, 1, 2, 3, 4].Nodup by decide)) ?_
  refine mw_go mu_g280 (k := 4) (f1 := (6, [(5, .inl (nI n)), (0, .inr (.inr (some 129))), (1, .inl (nI k)), (2, .inl (nI st)), (3, .inl (nI n)), (4, .inl (nI fre))], [.inl (nI fre), .inl (nI k)], H)) (C := []) rfl trivial ?_
  refine mw_if (P := (nI k) < (nI fre)) (a := 9) (b := 15) (fun _ => rfl) trivial (fun h1 => ?_) (fun h1 => absurd ((nI_ltI (by omega) (by omega)).mpr (by omega)) h1)
  refine mw_go mu_g280 (k := 2) (f1 := (12, [(5, .inl (nI n)), (0, .inr (.inr (some 129))), (1, .inl (nI k)), (2, .inl (nI st)), (3, .inl (nI n)), (4, .inl (nI fre))], [.inl (14 : Int32), .inl (nI k)], H)) (C := []) rfl trivial ?_
  refine mw_if (P := (nI k) < (14 : Int32)) (a := 96) (b := 15) (fun _ => rfl) trivial (fun h2 => ?_) (fun h2 => absurd ((nI_ltI (b := 14) (by omega) (by decide)).mpr (by omega)) h2)
  refine mw_go mu_g280 (k := 2) (f1 := (100, [(5, .inl (nI n)), (0, .inr (.inr (some 129))), (1, .inl (nI k)), (2, .inl (nI st)), (3, .inl (nI n)), (4, .inl (nI fre))], [.inr (.inr (mu_r H 129 0))], H)) (C := [mu_is H (some 129) 9]) rfl (show mu_is H (some 129) 9 from (h.1.1.is rfl)) ?_
  rw [(h.1.1.r (p := 129) (j := 0) (q := 99) rfl)]
  refine mw_go mu_g280 (k := 1) (f1 := (103, [(5, .inl (nI n)), (0, .inr (.inr (some 129))), (1, .inl (nI k)), (2, .inl (nI st)), (3, .inl (nI n)), (4, .inl (nI fre))], [.inr (.inr (mu_r H 99 7))], H)) (C := [mu_is H (some 99) 13]) rfl (show mu_is H (some 99) 13 from (h.1.1.is rfl)) ?_
  rw [(h.1.1.r (p := 99) (j := 7) (q := 122) rfl)]
  refine mw_go mu_g280 (k := 2) (f1 := (105, [(5, .inl (nI n)), (0, .inr (.inr (some 129))), (1, .inl (nI k)), (2, .inl (nI st)), (3, .inl (nI n)), (4, .inl (nI fre))], [.inl (mu_i H 122 (nI k).toNatClampNeg)], H)) (C := [mu_isr H (some 122) 100, vp_in (nI k) (mu_n H 122)]) rfl (show (mu_isr H (some 122) 100) ∧ (vp_in (nI k) (mu_n H 122)) from ⟨((h.iA e rfl rfl ((ud_q (m := m) (P := 99) (j := 7) e rfl).symm.trans (h.1.1.r (p := 99) (j := 7) (q := 122) rfl)))).r, (by rw [show mu_n H 122 = 14 from (h.1.1.a (p := 122) (x := (100, 14)) rfl).2]; exact vp_in_nI (n := k) (by omega) (by decide))⟩) ?_
  rw [(show (mu_i H 122 (nI k).toNatClampNeg) = (nI (sm f 0 k)) from ((congrArg (mu_i H 122) (show (nI k).toNatClampNeg = k from nI_clamp (by omega))).trans (h.gA e rfl rfl ((ud_q (m := m) (P := 99) (j := 7) e rfl).symm.trans (h.1.1.r (p := 99) (j := 7) (q := 122) rfl)))).trans ((congrArg (fun z => z.2 k) (show U.2.2.1 99 7 = (U.2.2.1 99 7) from rfl)).trans (hk5 k hkP).2.1))]
  refine mw_go mu_g280 (k := 3) (f1 := (110, [(7, .inl (0 : Int32)), (6, .inl (nI (sm f 0 k))), (5, .inl (nI n)), (0, .inr (.inr (some 129))), (1, .inl (nI k)), (2, .inl (nI st)), (3, .inl (nI n)), (4, .inl (nI fre))], [], H)) (C := []) rfl trivial ?_
  show mu_W _ _ (110, [(7, .inl (nI 0)), (6, .inl (nI (sm f 0 k))), (5, .inl (nI n)), (0, .inr (.inr (some 129))), (1, .inl (nI k)), (2, .inl (nI st)), (3, .inl (nI n)), (4, .inl (nI fre))], [], H) _
  refine mw_sub (L' := [(7, .inl (nI 0)), (5, .inl (nI n)), (0, .inr (.inr (some 129))), (1, .inl (nI k)), (2, .inl (nI st)), (4, .inl (nI fre)), (6, .inl (nI (sm f 0 k)))]) (by simp) ?_
  refine mw_down (α := Nat × Nat × mu_H) (fun zs => (110, [(7, .inl (nI zs.1)), (5, .inl (nI zs.2.1)), (0, .inr (.inr (some 129))), (1, .inl (nI k)), (2, .inl (nI st)), (4, .inl (nI fre)), (6, .inl (nI (sm f 0 k)))], [], zs.2.2)) (fun zs => on k - zs.1) (fun zs => um m zs.2.2 ∧ ur m C H zs.2.2 ∧ (uq F280b U (ud m zs.2.2)) ∧ (zs.1 ≤ on k) ∧ (LSO (ud m zs.2.2) zs.2.1 (st + (if zs.1 = 0 then 0 else ol k (zs.1 - 1) + 1) * Bk f P (k + 1)) (QQ P f fre S nf tm lc oc on ol L nb bo b)) ∧ (∃ dgc : Nat → Nat, (∀ j, j < P → ((ud m zs.2.2).2.2.1 129 16).2 j = nI (dgc j) ∧ dgc j < f j) ∧ ∀ j, j < k → dgc j = dg j)) (fun zs hza iha => ?_) (0, n, H) ⟨h, (ur.refl m C H), (show uq F280b U (ud m H) from by rw [e]; exact uq.refl _ _), (show 0 ≤ on k from (by omega)), (show LSO (ud m H) n (st + (if 0 = 0 then 0 else ol k (0 - 1) + 1) * Bk f P (k + 1)) (QQ P f fre S nf tm lc oc on ol L nb bo b) from by rw [e]; exact (by rw [if_pos rfl, Nat.zero_mul]; exact hls)), (show ∃ dgc : Nat → Nat, (∀ j, j < P → ((ud m H).2.2.1 129 16).2 j = nI (dgc j) ∧ dgc j < f j) ∧ ∀ j, j < k → dgc j = dg j from by rw [e]; exact ⟨dg, hdg, fun _ _ => rfl⟩)⟩
  obtain ⟨i, n, Hsa⟩ := zs
  obtain ⟨ua, hta, da, hi, hlt, hdx⟩ := hza
  have ua : um m Hsa := ua
  have hta : ur m C H Hsa := hta
  have zza : uq F280b U (ud m Hsa) := da
  have hi : i ≤ on k := hi
  have hlt : LSO (ud m Hsa) n (st + (if i = 0 then 0 else ol k (i - 1) + 1) * Bk f P (k + 1)) (QQ P f fre S nf tm lc oc on ol L nb bo b) := hlt
  have hdx : ∃ dgc : Nat → Nat, (∀ j, j < P → ((ud m Hsa).2.2.1 129 16).2 j = nI (dgc j) ∧ dgc j < f j) ∧ ∀ j, j < k → dgc j = dg j := hdx
  obtain ⟨Va, da⟩ : ∃ V, ud m Hsa = V := ⟨_, rfl⟩
  rw [da] at zza hlt hdx
  have qfa : uq F280 U Va := (uq.refl F280 U).tr zza rfl
  show mu_W _ _ (110, [(7, .inl (nI i)), (5, .inl (nI n)), (0, .inr (.inr (some 129))), (1, .inl (nI k)), (2, .inl (nI st)), (4, .inl (nI fre)), (6, .inl (nI (sm f 0 k)))], [], Hsa) _
  obtain ⟨dgc, hdgc, hdgk⟩ := hdx
  refine mw_go mu_g280 (k := 3) (f1 := (116, [(7, .inl (nI i)), (5, .inl (nI n)), (0, .inr (.inr (some 129))), (1, .inl (nI k)), (2, .inl (nI st)), (4, .inl (nI fre)), (6, .inl (nI (sm f 0 k)))], [.inr (.inr (mu_r Hsa 129 13)), .inl (nI i)], Hsa)) (C := [mu_is Hsa (some 129) 9]) rfl (show mu_is Hsa (some 129) 9 from (ua.1.1.is rfl)) ?_
  rw [(ua.1.1.r (p := 129) (j := 13) (q := 141) rfl)]
  refine mw_go mu_g280 (k := 2) (f1 := (118, [(7, .inl (nI i)), (5, .inl (nI n)), (0, .inr (.inr (some 129))), (1, .inl (nI k)), (2, .inl (nI st)), (4, .inl (nI fre)), (6, .inl (nI (sm f 0 k)))], [.inl (mu_i Hsa 141 (nI k).toNatClampNeg), .inl (nI i)], Hsa)) (C := [mu_isr Hsa (some 141) 100, vp_in (nI k) (mu_n Hsa 141)]) rfl (show (mu_isr Hsa (some 141) 100) ∧ (vp_in (nI k) (mu_n Hsa 141)) from ⟨((ua.iA da rfl rfl ((ud_q (m := m) (P := 129) (j := 13) da rfl).symm.trans (ua.1.1.r (p := 129) (j := 13) (q := 141) rfl)))).r, (by rw [show mu_n Hsa 141 = 14 from (ua.1.1.a (p := 141) (x := (100, 14)) rfl).2]; exact vp_in_nI (n := k) (by omega) (by decide))⟩) ?_
  rw [(show (mu_i Hsa 141 (nI k).toNatClampNeg) = (nI (on k)) from ((congrArg (mu_i Hsa 141) (show (nI k).toNatClampNeg = k from nI_clamp (by omega))).trans (ua.gA da rfl rfl ((ud_q (m := m) (P := 129) (j := 13) da rfl).symm.trans (ua.1.1.r (p := 129) (j := 13) (q := 141) rfl)))).trans ((congrArg (fun z => z.2 k) (show Va.2.2.1 129 13 = (U.2.2.1 129 13) from (zza.a 129 13 rfl))).trans (hopt k hkf).1))]
  refine mw_if (P := (nI i) < (nI (on k))) (a := 121) (b := 191) (fun _ => rfl) trivial (fun h3 => ?_) (fun h3 => ?_)
  · -- 121: (nI i) < (nI (on k))
    have nh3 : i < (on k) := (nI_ltI (by omega) (by omega)).mp (show nI i < nI (on k) from h3)
    have hoi := (hopt k hkf).2.2.2 i (by omega)
    have hlmi : (if i = 0 then 0 else ol k (i - 1) + 1) ≤ ol k i := (by by_cases e0 : i = 0; (rw [if_pos e0]; exact Nat.zero_le _); (rw [if_neg e0]; exact (hopt k hkf).2.2.1 (i - 1) i (by omega) (by omega)))
    have hbb : ol k i * Bk f P (k + 1) + Bk f P (k + 1) ≤ f k * Bk f P (k + 1) := (by rw [← Nat.succ_mul]; exact Nat.mul_le_mul_right _ hoi)
    have hlq : ∀ q, q < i → ol k q < (if i = 0 then 0 else ol k (i - 1) + 1) := fun q hq => (by rw [if_neg (show ¬ i = 0 by omega)]; by_cases e0 : q = i - 1; (rw [e0]; exact Nat.lt_succ_self _); exact Nat.lt_succ_of_lt ((hopt k hkf).2.2.1 q (i - 1) (by omega) (by omega)))
    have hlg : LSO Va n (st + ol k i * Bk f P (k + 1)) (QQ P f fre S nf tm lc oc on ol L nb bo b) := hlt.gap (Nat.add_le_add_left (Nat.mul_le_mul_right _ hlmi) _) (fun t t1 t2 hq => absurd (hq.2 k hkf).1 (dig_gap hf1 hkP hsta (hopt k hkf).2.2.1 hlq hoi t1 (fun _ => t2) rfl (by omega)))
    have hng := hlg.le
    refine mw_go mu_g280 (k := 2) (f1 := (125, [(7, .inl (nI i)), (5, .inl (nI n)), (0, .inr (.inr (some 129))), (1, .inl (nI k)), (2, .inl (nI st)), (4, .inl (nI fre)), (6, .inl (nI (sm f 0 k)))], [.inr (.inr (mu_r Hsa 129 12))], Hsa)) (C := [mu_is Hsa (some 129) 9]) rfl (show mu_is Hsa (some 129) 9 from (ua.1.1.is rfl)) ?_
    rw [(show mu_r Hsa 129 12 = (U.2.2.2.1 129 12) from (ud_q (U := Va) (m := m) (P := 129) (j := 12) da rfl).trans (zza.r 129 12 rfl))]
    refine mw_go mu_g280 (k := 3) (f1 := (130, [(7, .inl (nI i)), (5, .inl (nI n)), (0, .inr (.inr (some 129))), (1, .inl (nI k)), (2, .inl (nI st)), (4, .inl (nI fre)), (6, .inl (nI (sm f 0 k)))], [.inl ((nI (sm f 0 k)) + (nI i)), .inr (.inr (U.2.2.2.1 129 12))], Hsa)) (C := []) rfl trivial ?_
    rw [(show ((nI (sm f 0 k)) + (nI i)) = (nI ((sm f 0 k) + i)) from (nI_add (sm f 0 k) i))]
    refine mw_go mu_g280 (k := 1) (f1 := (131, [(7, .inl (nI i)), (5, .inl (nI n)), (0, .inr (.inr (some 129))), (1, .inl (nI k)), (2, .inl (nI st)), (4, .inl (nI fre)), (6, .inl (nI (sm f 0 k)))], [.inl (mu_i Hsa (mu_p (U.2.2.2.1 129 12)) (nI ((sm f 0 k) + i)).toNatClampNeg)], Hsa)) (C := [mu_isr Hsa (U.2.2.2.1 129 12) 100, vp_in (nI ((sm f 0 k) + i)) (mu_n Hsa (mu_p (U.2.2.2.1 129 12)))]) rfl (show (mu_isr Hsa (U.2.2.2.1 129 12) 100) ∧ (vp_in (nI ((sm f 0 k) + i)) (mu_n Hsa (mu_p (U.2.2.2.1 129 12)))) from ⟨((ua.iA da rfl rfl (show Va.2.2.2.1 129 12 = (U.2.2.2.1 129 12) from (zza.r 129 12 rfl)))).r, (ua.vA (i := (sm f 0 k) + i) da rfl rfl (show Va.2.2.2.1 129 12 = (U.2.2.2.1 129 12) from (zza.r 129 12 rfl)) (show (Va.2.2.1 129 12).1 = (U.2.2.1 129 12).1 from (zza.n 129 12 rfl)) (by omega) (by omega))⟩) ?_
    rw [(show (mu_i Hsa (mu_p (U.2.2.2.1 129 12)) (nI ((sm f 0 k) + i)).toNatClampNeg) = (nI (ol k i)) from ((congrArg (mu_i Hsa (mu_p (U.2.2.2.1 129 12))) (show (nI ((sm f 0 k) + i)).toNatClampNeg = (sm f 0 k) + i from nI_clamp (by omega))).trans (ua.gA da rfl rfl (show Va.2.2.2.1 129 12 = (U.2.2.2.1 129 12) from (zza.r 129 12 rfl)))).trans ((congrArg (fun z => z.2 ((sm f 0 k) + i)) (show Va.2.2.1 129 12 = (U.2.2.1 129 12) from (zza.a 129 12 rfl))).trans ((hopt k hkf).2.1 i (by omega))))]
    refine mw_go mu_g280 (k := 3) (f1 := (137, [(8, .inl (nI (ol k i))), (7, .inl (nI i)), (5, .inl (nI n)), (0, .inr (.inr (some 129))), (1, .inl (nI k)), (2, .inl (nI st)), (4, .inl (nI fre)), (6, .inl (nI (sm f 0 k)))], [.inr (.inr (mu_r Hsa 129 16))], Hsa)) (C := [mu_is Hsa (some 129) 9]) rfl (show mu_is Hsa (some 129) 9 from (ua.1.1.is rfl)) ?_
    rw [(ua.1.1.r (p := 129) (j := 16) (q := 144) rfl)]
    refine mw_go mu_g280 (k := 3) (f1 := (141, [(8, .inl (nI (ol k i))), (7, .inl (nI i)), (5, .inl (nI n)), (0, .inr (.inr (some 129))), (1, .inl (nI k)), (2, .inl (nI st)), (4, .inl (nI fre)), (6, .inl (nI (sm f 0 k)))], [], (mu_si Hsa 144 (nI k).toNatClampNeg (nI (ol k i))))) (C := [mu_is Hsa (some 144) 100, vp_in (nI k) (mu_n Hsa 144)]) rfl (show (mu_is Hsa (some 144) 100) ∧ (vp_in (nI k) (mu_n Hsa 144)) from ⟨(ua.iA da rfl rfl ((ud_q (m := m) (P := 129) (j := 16) da rfl).symm.trans (ua.1.1.r (p := 129) (j := 16) (q := 144) rfl))), (by rw [show mu_n Hsa 144 = 14 from (ua.1.1.a (p := 144) (x := (100, 14)) rfl).2]; exact vp_in_nI (n := k) (by omega) (by decide))⟩) ?_
    rw [(show (nI k).toNatClampNeg = k from nI_clamp (by omega))]
    obtain ⟨u4, r4, d4⟩ : um m (mu_si Hsa 144 k (nI (ol k i))) ∧ ur m C Hsa (mu_si Hsa 144 k (nI (ol k i))) ∧ ud m (mu_si Hsa 144 k (nI (ol k i))) = (upA Va 129 16 k (nI (ol k i))) := ua.sA (C := C) da rfl rfl ((ud_q (m := m) (P := 129) (j := 16) da rfl).symm.trans (ua.1.1.r (p := 129) (j := 16) (q := 144) rfl))
    generalize (mu_si Hsa 144 k (nI (ol k i))) = Q4 at u4 r4 d4 ⊢
    have qf4 : uq F280 U (upA Va 129 16 k (nI (ol k i))) := qfa.A rfl
    have ht4 : ur m C H Q4 := hta.trans r4
    have hE2 : EXS (upA Va 129 16 k (nI (ol k i))) m P f fre N us S z p nf tm lc oc on ol L nb bo b := hE.fr qf4
    have hdg2 : ∀ j, j < P → ((upA Va 129 16 k (nI (ol k i))).2.2.1 129 16).2 j = nI (if j = k then ol k i else dgc j) := fun j hj => (by show (if j = k then nI (ol k i) else (Va.2.2.1 129 16).2 j) = _; by_cases e0 : j = k; (rw [if_pos e0, if_pos e0]); (rw [if_neg e0, if_neg e0]; exact (hdgc j hj).1))
    have hdl2 : ∀ j, j < P → (if j = k then ol k i else dgc j) < f j := fun j hj => (by by_cases e0 : j = k; (rw [if_pos e0, e0]; exact hoi); (rw [if_neg e0]; exact (hdgc j hj).2))
    refine mw_go mu_g280 (k := 2) (f1 := (145, [(8, .inl (nI (ol k i))), (7, .inl (nI i)), (5, .inl (nI n)), (0, .inr (.inr (some 129))), (1, .inl (nI k)), (2, .inl (nI st)), (4, .inl (nI fre)), (6, .inl (nI (sm f 0 k)))], [.inr (.inr (mu_r Q4 129 15))], Q4)) (C := [mu_is Q4 (some 129) 9]) rfl (show mu_is Q4 (some 129) 9 from (u4.1.1.is rfl)) ?_
    rw [(u4.1.1.r (p := 129) (j := 15) (q := 143) rfl)]
    refine mw_go mu_g280 (k := 2) (f1 := (147, [(8, .inl (nI (ol k i))), (7, .inl (nI i)), (5, .inl (nI n)), (0, .inr (.inr (some 129))), (1, .inl (nI k)), (2, .inl (nI st)), (4, .inl (nI fre)), (6, .inl (nI (sm f 0 k)))], [.inl (mu_i Q4 143 (nI k).toNatClampNeg)], Q4)) (C := [mu_isr Q4 (some 143) 100, vp_in (nI k) (mu_n Q4 143)]) rfl (show (mu_isr Q4 (some 143) 100) ∧ (vp_in (nI k) (mu_n Q4 143)) from ⟨((u4.iA d4 rfl rfl ((ud_q (m := m) (P := 129) (j := 15) d4 rfl).symm.trans (u4.1.1.r (p := 129) (j := 15) (q := 143) rfl)))).r, (by rw [show mu_n Q4 143 = 14 from (u4.1.1.a (p := 143) (x := (100, 14)) rfl).2]; exact vp_in_nI (n := k) (by omega) (by decide))⟩) ?_
    rw [(show (mu_i Q4 143 (nI k).toNatClampNeg) = (lsf lc k nf) from ((congrArg (mu_i Q4 143) (show (nI k).toNatClampNeg = k from nI_clamp (by omega))).trans (u4.gA d4 rfl rfl ((ud_q (m := m) (P := 129) (j := 15) d4 rfl).symm.trans (u4.1.1.r (p := 129) (j := 15) (q := 143) rfl)))).trans ((congrArg (fun z => z.2 k) (show (upA Va 129 16 k (nI (ol k i))).2.2.1 129 15 = (U.2.2.1 129 15) from (zza.a 129 15 rfl))).trans (hch.1 k hkP)))]
    refine mw_if (P := (lsf lc k nf) < 0) (a := 158) (b := 150) (fun _ => rfl) trivial (fun h5 => ?_) (fun h5 => ?_)
    · -- 158: (lsf lc k nf) < 0
      have hgood : ∀ r, r < nf → lc r = k → fin nb bo b 0 nf r → S (oc r) (ixz (tm r) f (fun j => if j = k then ol k i else dgc j) P) = true := fun r hr g1 _ => absurd g1 (lsf_none h24.2 h5 hr)
      refine mw_go mu_g280 (k := 4) (f1 := (162, [(8, .inl (nI (ol k i))), (7, .inl (nI i)), (5, .inl (nI n)), (0, .inr (.inr (some 129))), (1, .inl (nI k)), (2, .inl (nI st)), (4, .inl (nI fre)), (6, .inl (nI (sm f 0 k)))], [.inl ((nI k) + (1 : Int32)), .inr (.inr (some 129))], Q4)) (C := []) rfl trivial ?_
      rw [(show ((nI k) + (1 : Int32)) = (nI (k + 1)) from (nI_add k 1))]
      refine mw_go mu_g280 (k := 4) (f1 := (169, [(8, .inl (nI (ol k i))), (7, .inl (nI i)), (5, .inl (nI n)), (0, .inr (.inr (some 129))), (1, .inl (nI k)), (2, .inl (nI st)), (4, .inl (nI fre)), (6, .inl (nI (sm f 0 k)))], [.inr (.inr (mu_r Q4 129 0)), .inl (nI (ol k i)), .inl (nI st), .inl (nI (k + 1)), .inr (.inr (some 129))], Q4)) (C := [mu_is Q4 (some 129) 9]) rfl (show mu_is Q4 (some 129) 9 from (u4.1.1.is rfl)) ?_
      rw [(u4.1.1.r (p := 129) (j := 0) (q := 99) rfl)]
      refine mw_go mu_g280 (k := 1) (f1 := (172, [(8, .inl (nI (ol k i))), (7, .inl (nI i)), (5, .inl (nI n)), (0, .inr (.inr (some 129))), (1, .inl (nI k)), (2, .inl (nI st)), (4, .inl (nI fre)), (6, .inl (nI (sm f 0 k)))], [.inr (.inr (mu_r Q4 99 6)), .inl (nI (ol k i)), .inl (nI st), .inl (nI (k + 1)), .inr (.inr (some 129))], Q4)) (C := [mu_is Q4 (some 99) 13]) rfl (show mu_is Q4 (some 99) 13 from (u4.1.1.is rfl)) ?_
      rw [(u4.1.1.r (p := 99) (j := 6) (q := 121) rfl)]
      refine mw_go mu_g280 (k := 2) (f1 := (174, [(8, .inl (nI (ol k i))), (7, .inl (nI i)), (5, .inl (nI n)), (0, .inr (.inr (some 129))), (1, .inl (nI k)), (2, .inl (nI st)), (4, .inl (nI fre)), (6, .inl (nI (sm f 0 k)))], [.inl (mu_i Q4 121 (nI k).toNatClampNeg), .inl (nI (ol k i)), .inl (nI st), .inl (nI (k + 1)), .inr (.inr (some 129))], Q4)) (C := [mu_isr Q4 (some 121) 100, vp_in (nI k) (mu_n Q4 121)]) rfl (show (mu_isr Q4 (some 121) 100) ∧ (vp_in (nI k) (mu_n Q4 121)) from ⟨((u4.iA d4 rfl rfl ((ud_q (m := m) (P := 99) (j := 6) d4 rfl).symm.trans (u4.1.1.r (p := 99) (j := 6) (q := 121) rfl)))).r, (by rw [show mu_n Q4 121 = 14 from (u4.1.1.a (p := 121) (x := (100, 14)) rfl).2]; exact vp_in_nI (n := k) (by omega) (by decide))⟩) ?_
      rw [(show (mu_i Q4 121 (nI k).toNatClampNeg) = (nI (Bk f P (k + 1))) from ((congrArg (mu_i Q4 121) (show (nI k).toNatClampNeg = k from nI_clamp (by omega))).trans (u4.gA d4 rfl rfl ((ud_q (m := m) (P := 99) (j := 6) d4 rfl).symm.trans (u4.1.1.r (p := 99) (j := 6) (q := 121) rfl)))).trans ((congrArg (fun z => z.2 k) (show (upA Va 129 16 k (nI (ol k i))).2.2.1 99 6 = (U.2.2.1 99 6) from (zza.a 99 6 rfl))).trans ((hk5 k hkP).2.2.1.trans (congrArg nI (by unfold Bk; rw [show P - (k + 1) = P - 1 - k by omega])))))]
      refine mw_go mu_g280 (k := 1) (f1 := (175, [(8, .inl (nI (ol k i))), (7, .inl (nI i)), (5, .inl (nI n)), (0, .inr (.inr (some 129))), (1, .inl (nI k)), (2, .inl (nI st)), (4, .inl (nI fre)), (6, .inl (nI (sm f 0 k)))], [.inl ((nI (ol k i)) * (nI (Bk f P (k + 1)))), .inl (nI st), .inl (nI (k + 1)), .inr (.inr (some 129))], Q4)) (C := []) rfl trivial ?_
      rw [(show ((nI (ol k i)) * (nI (Bk f P (k + 1)))) = (nI ((ol k i) * (Bk f P (k + 1)))) from (nI_mul (a := ol k i) (b := Bk f P (k + 1))))]
      refine mw_go mu_g280 (k := 1) (f1 := (176, [(8, .inl (nI (ol k i))), (7, .inl (nI i)), (5, .inl (nI n)), (0, .inr (.inr (some 129))), (1, .inl (nI k)), (2, .inl (nI st)), (4, .inl (nI fre)), (6, .inl (nI (sm f 0 k)))], [.inl ((nI st) + (nI ((ol k i) * (Bk f P (k + 1))))), .inl (nI (k + 1)), .inr (.inr (some 129))], Q4)) (C := []) rfl trivial ?_
      rw [(show ((nI st) + (nI ((ol k i) * (Bk f P (k + 1))))) = (nI (st + ((ol k i) * (Bk f P (k + 1))))) from (nI_add st ((ol k i) * (Bk f P (k + 1)))))]
      refine mw_go mu_g280 (k := 2) (f1 := (180, [(8, .inl (nI (ol k i))), (7, .inl (nI i)), (5, .inl (nI n)), (0, .inr (.inr (some 129))), (1, .inl (nI k)), (2, .inl (nI st)), (4, .inl (nI fre)), (6, .inl (nI (sm f 0 k)))], [.inl (nI fre), .inl (nI n), .inl (nI (st + ((ol k i) * (Bk f P (k + 1))))), .inl (nI (k + 1)), .inr (.inr (some 129))], Q4)) (C := []) rfl trivial ?_
      have hblk : ∀ t, st + ol k i * Bk f P (k + 1) ≤ t → t < st + ol k i * Bk f P (k + 1) + Bk f P (k + 1) → dgzU f P t k = ol k i := fun t t1 t2 => blk_k hf1 hkP hsta hoi t1 t2
      have hagr : ∀ t, st + ol k i * Bk f P (k + 1) ≤ t → t < st + ol k i * Bk f P (k + 1) + Bk f P (k + 1) → ∀ j, j < k + 1 → (if j = k then ol k i else dgc j) = dgzU f P t j := fun t t1 t2 j hj => (by by_cases e0 : j = k; (rw [if_pos e0, e0]; exact (hblk t t1 t2).symm); (rw [if_neg e0, hdgk j (by omega), hdst j (by omega)]; exact (blk_dg hf1 (by omega) (by omega) hsta (by omega) (by omega)).symm))
      refine mw_cI (fun _ => rfl) (show mu_is Q4 (some 129) 9 from (u4.1.1.is rfl)) (ih (dg := fun j => if j = k then ol k i else dgc j) ⟨u4, d4, hE2, fun j hj => ⟨hdg2 j hj, hdl2 j hj⟩, fun j hj => hagr _ (Nat.le_refl _) (by omega) j hj, ⟨f k * a + ol k i, (by rw [hsta, Bk_step hkP, Nat.mul_add, Nat.mul_comm (ol k i), ← Nat.mul_assoc, Nat.mul_comm (f k)])⟩, (by omega), (fun t t1 t2 j hj => (by by_cases e0 : j = k; (rw [e0]; refine ⟨(by rw [hblk t t1 t2]; exact (lmz_iff _).mpr ⟨i, by omega, rfl⟩), fun r hr g1 g2 => ?_⟩; rw [← ixz_agree (dg := fun j => if j = k then ol k i else dgc j) (fun j2 j3 j4 => hagr t t1 t2 j2 (by by_cases e1 : j2 < k + 1; exact e1; exact absurd ((hpm r hr).2 (by omega) j2 (by omega) j3) j4))]; exact hgood r hr g1 g2); exact hpre t (by omega) (by omega) j (by omega))), hlg⟩) (fun x6 Q6 q6 => ?_)
      obtain ⟨n9, rfl, u6, r6, z6, hl9, dg9, hdg9, hdk9⟩ := q6
      have ht6 : ur m C H Q6 := ht4.trans r6
      obtain ⟨V6, d6⟩ : ∃ V, ud m Q6 = V := ⟨_, rfl⟩
      rw [d6] at z6 hl9 hdg9
      have qf6 : uq F280 U V6 := qf4.tr z6 rfl
      refine mw_go mu_g280 (k := 2) (f1 := (188, [(7, .inl ((nI i) + 1)), (5, .inl (nI n9)), (8, .inl (nI (ol k i))), (0, .inr (.inr (some 129))), (1, .inl (nI k)), (2, .inl (nI st)), (4, .inl (nI fre)), (6, .inl (nI (sm f 0 k)))], [], Q6)) (C := []) rfl trivial ?_
      rw [(show ((nI i) + 1) = (nI (i + 1)) from (nI_add i 1))]
      refine mw_go mu_g280 (k := 1) (f1 := (110, [(7, .inl (nI (i + 1))), (5, .inl (nI n9)), (8, .inl (nI (ol k i))), (0, .inr (.inr (some 129))), (1, .inl (nI k)), (2, .inl (nI st)), (4, .inl (nI fre)), (6, .inl (nI (sm f 0 k)))], [], Q6)) (C := []) rfl trivial ?_
      exact mw_sub (by simp) (iha (i + 1, n9, Q6) ⟨u6, ht6, (show uq F280b U (ud m Q6) from by rw [d6]; exact ((zza.A rfl).tr z6 rfl)), (show (i + 1) ≤ on k from (by omega)), (show LSO (ud m Q6) n9 (st + (if (i + 1) = 0 then 0 else ol k ((i + 1) - 1) + 1) * Bk f P (k + 1)) (QQ P f fre S nf tm lc oc on ol L nb bo b) from by rw [d6]; exact (by rw [if_neg (Nat.succ_ne_zero i), Nat.add_sub_cancel, Nat.succ_mul, ← Nat.add_assoc]; exact hl9)), (show ∃ dgc : Nat → Nat, (∀ j, j < P → ((ud m Q6).2.2.1 129 16).2 j = nI (dgc j) ∧ dgc j < f j) ∧ ∀ j, j < k → dgc j = dg j from by rw [d6]; exact ⟨dg9, hdg9, fun j hj => (hdk9 j (by omega)).trans ((if_neg (by omega)).trans (hdgk j hj))⟩)⟩ (by show on k - (i + 1) < on k - i; omega))
    · -- 150: not (lsf lc k nf) < 0
      refine mw_go mu_g280 (k := 2) (f1 := (152, [(8, .inl (nI (ol k i))), (7, .inl (nI i)), (5, .inl (nI n)), (0, .inr (.inr (some 129))), (1, .inl (nI k)), (2, .inl (nI st)), (4, .inl (nI fre)), (6, .inl (nI (sm f 0 k)))], [.inl (nI k), .inr (.inr (some 129))], Q4)) (C := []) rfl trivial ?_
      refine mw_cI (fun _ => rfl) (show mu_is Q4 (some 129) 9 from (u4.1.1.is rfl)) (rl_left (d := d + dep + 1) (dg := fun j => if j = k then ol k i else dgc j) (nf := nf) (lc := lc) (tm := tm) (oc := oc) u4 d4 hE2.1 (by omega) hdg2 hdl2 hE2.2.1 hE2.2.2.1.1 h24.2 hE2.2.2.2.1 (fun r hr => (hpm r hr).1) (fun r hr => (hE2.2.2.2.2.2.1 r hr).1) (fun r hr => (hE2.2.2.2.2.2.1 r hr).2) hE2.2.2.2.2.2.2.2.2.1.1.2.2.2 hBI hBO hE2.2.2.2.2.2.2.2.2.1.1.1) (fun x7 H7 q7 => ?_)
      rcases q7 with ⟨hx1, hgood, hQe⟩ | ⟨hx1, hbad, hQe⟩
      · -- (1 : Int32)
        rw [hx1, hQe]
        refine mw_if (P := (1 : Int32) = 0) (a := 185) (b := 158) (fun _ => rfl) trivial (fun h8 => absurd h8 (by decide)) (fun h8 => ?_)
        refine mw_go mu_g280 (k := 4) (f1 := (162, [(8, .inl (nI (ol k i))), (7, .inl (nI i)), (5, .inl (nI n)), (0, .inr (.inr (some 129))), (1, .inl (nI k)), (2, .inl (nI st)), (4, .inl (nI fre)), (6, .inl (nI (sm f 0 k)))], [.inl ((nI k) + (1 : Int32)), .inr (.inr (some 129))], Q4)) (C := []) rfl trivial ?_
        rw [(show ((nI k) + (1 : Int32)) = (nI (k + 1)) from (nI_add k 1))]
        refine mw_go mu_g280 (k := 4) (f1 := (169, [(8, .inl (nI (ol k i))), (7, .inl (nI i)), (5, .inl (nI n)), (0, .inr (.inr (some 129))), (1, .inl (nI k)), (2, .inl (nI st)), (4, .inl (nI fre)), (6, .inl (nI (sm f 0 k)))], [.inr (.inr (mu_r Q4 129 0)), .inl (nI (ol k i)), .inl (nI st), .inl (nI (k + 1)), .inr (.inr (some 129))], Q4)) (C := [mu_is Q4 (some 129) 9]) rfl (show mu_is Q4 (some 129) 9 from (u4.1.1.is rfl)) ?_
        rw [(u4.1.1.r (p := 129) (j := 0) (q := 99) rfl)]
        refine mw_go mu_g280 (k := 1) (f1 := (172, [(8, .inl (nI (ol k i))), (7, .inl (nI i)), (5, .inl (nI n)), (0, .inr (.inr (some 129))), (1, .inl (nI k)), (2, .inl (nI st)), (4, .inl (nI fre)), (6, .inl (nI (sm f 0 k)))], [.inr (.inr (mu_r Q4 99 6)), .inl (nI (ol k i)), .inl (nI st), .inl (nI (k + 1)), .inr (.inr (some 129))], Q4)) (C := [mu_is Q4 (some 99) 13]) rfl (show mu_is Q4 (some 99) 13 from (u4.1.1.is rfl)) ?_
        rw [(u4.1.1.r (p := 99) (j := 6) (q := 121) rfl)]
        refine mw_go mu_g280 (k := 2) (f1 := (174, [(8, .inl (nI (ol k i))), (7, .inl (nI i)), (5, .inl (nI n)), (0, .inr (.inr (some 129))), (1, .inl (nI k)), (2, .inl (nI st)), (4, .inl (nI fre)), (6, .inl (nI (sm f 0 k)))], [.inl (mu_i Q4 121 (nI k).toNatClampNeg), .inl (nI (ol k i)), .inl (nI st), .inl (nI (k + 1)), .inr (.inr (some 129))], Q4)) (C := [mu_isr Q4 (some 121) 100, vp_in (nI k) (mu_n Q4 121)]) rfl (show (mu_isr Q4 (some 121) 100) ∧ (vp_in (nI k) (mu_n Q4 121)) from ⟨((u4.iA d4 rfl rfl ((ud_q (m := m) (P := 99) (j := 6) d4 rfl).symm.trans (u4.1.1.r (p := 99) (j := 6) (q := 121) rfl)))).r, (by rw [show mu_n Q4 121 = 14 from (u4.1.1.a (p := 121) (x := (100, 14)) rfl).2]; exact vp_in_nI (n := k) (by omega) (by decide))⟩) ?_
        rw [(show (mu_i Q4 121 (nI k).toNatClampNeg) = (nI (Bk f P (k + 1))) from ((congrArg (mu_i Q4 121) (show (nI k).toNatClampNeg = k from nI_clamp (by omega))).trans (u4.gA d4 rfl rfl ((ud_q (m := m) (P := 99) (j := 6) d4 rfl).symm.trans (u4.1.1.r (p := 99) (j := 6) (q := 121) rfl)))).trans ((congrArg (fun z => z.2 k) (show (upA Va 129 16 k (nI (ol k i))).2.2.1 99 6 = (U.2.2.1 99 6) from (zza.a 99 6 rfl))).trans ((hk5 k hkP).2.2.1.trans (congrArg nI (by unfold Bk; rw [show P - (k + 1) = P - 1 - k by omega])))))]
        refine mw_go mu_g280 (k := 1) (f1 := (175, [(8, .inl (nI (ol k i))), (7, .inl (nI i)), (5, .inl (nI n)), (0, .inr (.inr (some 129))), (1, .inl (nI k)), (2, .inl (nI st)), (4, .inl (nI fre)), (6, .inl (nI (sm f 0 k)))], [.inl ((nI (ol k i)) * (nI (Bk f P (k + 1)))), .inl (nI st), .inl (nI (k + 1)), .inr (.inr (some 129))], Q4)) (C := []) rfl trivial ?_
        rw [(show ((nI (ol k i)) * (nI (Bk f P (k + 1)))) = (nI ((ol k i) * (Bk f P (k + 1)))) from (nI_mul (a := ol k i) (b := Bk f P (k + 1))))]
        refine mw_go mu_g280 (k := 1) (f1 := (176, [(8, .inl (nI (ol k i))), (7, .inl (nI i)), (5, .inl (nI n)), (0, .inr (.inr (some 129))), (1, .inl (nI k)), (2, .inl (nI st)), (4, .inl (nI fre)), (6, .inl (nI (sm f 0 k)))], [.inl ((nI st) + (nI ((ol k i) * (Bk f P (k + 1))))), .inl (nI (k + 1)), .inr (.inr (some 129))], Q4)) (C := []) rfl trivial ?_
        rw [(show ((nI st) + (nI ((ol k i) * (Bk f P (k + 1))))) = (nI (st + ((ol k i) * (Bk f P (k + 1))))) from (nI_add st ((ol k i) * (Bk f P (k + 1)))))]
        refine mw_go mu_g280 (k := 2) (f1 := (180, [(8, .inl (nI (ol k i))), (7, .inl (nI i)), (5, .inl (nI n)), (0, .inr (.inr (some 129))), (1, .inl (nI k)), (2, .inl (nI st)), (4, .inl (nI fre)), (6, .inl (nI (sm f 0 k)))], [.inl (nI fre), .inl (nI n), .inl (nI (st + ((ol k i) * (Bk f P (k + 1))))), .inl (nI (k + 1)), .inr (.inr (some 129))], Q4)) (C := []) rfl trivial ?_
        have hblk : ∀ t, st + ol k i * Bk f P (k + 1) ≤ t → t < st + ol k i * Bk f P (k + 1) + Bk f P (k + 1) → dgzU f P t k = ol k i := fun t t1 t2 => blk_k hf1 hkP hsta hoi t1 t2
        have hagr : ∀ t, st + ol k i * Bk f P (k + 1) ≤ t → t < st + ol k i * Bk f P (k + 1) + Bk f P (k + 1) → ∀ j, j < k + 1 → (if j = k then ol k i else dgc j) = dgzU f P t j := fun t t1 t2 j hj => (by by_cases e0 : j = k; (rw [if_pos e0, e0]; exact (hblk t t1 t2).symm); (rw [if_neg e0, hdgk j (by omega), hdst j (by omega)]; exact (blk_dg hf1 (by omega) (by omega) hsta (by omega) (by omega)).symm))
        refine mw_cI (fun _ => rfl) (show mu_is Q4 (some 129) 9 from (u4.1.1.is rfl)) (ih (dg := fun j => if j = k then ol k i else dgc j) ⟨u4, d4, hE2, fun j hj => ⟨hdg2 j hj, hdl2 j hj⟩, fun j hj => hagr _ (Nat.le_refl _) (by omega) j hj, ⟨f k * a + ol k i, (by rw [hsta, Bk_step hkP, Nat.mul_add, Nat.mul_comm (ol k i), ← Nat.mul_assoc, Nat.mul_comm (f k)])⟩, (by omega), (fun t t1 t2 j hj => (by by_cases e0 : j = k; (rw [e0]; refine ⟨(by rw [hblk t t1 t2]; exact (lmz_iff _).mpr ⟨i, by omega, rfl⟩), fun r hr g1 g2 => ?_⟩; rw [← ixz_agree (dg := fun j => if j = k then ol k i else dgc j) (fun j2 j3 j4 => hagr t t1 t2 j2 (by by_cases e1 : j2 < k + 1; exact e1; exact absurd ((hpm r hr).2 (by omega) j2 (by omega) j3) j4))]; exact hgood r hr g1 g2); exact hpre t (by omega) (by omega) j (by omega))), hlg⟩) (fun x9 Q9 q9 => ?_)
        obtain ⟨n9, rfl, u9, r9, z9, hl9, dg9, hdg9, hdk9⟩ := q9
        have ht9 : ur m C H Q9 := ht4.trans r9
        obtain ⟨V9, d9⟩ : ∃ V, ud m Q9 = V := ⟨_, rfl⟩
        rw [d9] at z9 hl9 hdg9
        have qf9 : uq F280 U V9 := qf4.tr z9 rfl
        refine mw_go mu_g280 (k := 2) (f1 := (188, [(7, .inl ((nI i) + 1)), (5, .inl (nI n9)), (8, .inl (nI (ol k i))), (0, .inr (.inr (some 129))), (1, .inl (nI k)), (2, .inl (nI st)), (4, .inl (nI fre)), (6, .inl (nI (sm f 0 k)))], [], Q9)) (C := []) rfl trivial ?_
        rw [(show ((nI i) + 1) = (nI (i + 1)) from (nI_add i 1))]
        refine mw_go mu_g280 (k := 1) (f1 := (110, [(7, .inl (nI (i + 1))), (5, .inl (nI n9)), (8, .inl (nI (ol k i))), (0, .inr (.inr (some 129))), (1, .inl (nI k)), (2, .inl (nI st)), (4, .inl (nI fre)), (6, .inl (nI (sm f 0 k)))], [], Q9)) (C := []) rfl trivial ?_
        exact mw_sub (by simp) (iha (i + 1, n9, Q9) ⟨u9, ht9, (show uq F280b U (ud m Q9) from by rw [d9]; exact ((zza.A rfl).tr z9 rfl)), (show (i + 1) ≤ on k from (by omega)), (show LSO (ud m Q9) n9 (st + (if (i + 1) = 0 then 0 else ol k ((i + 1) - 1) + 1) * Bk f P (k + 1)) (QQ P f fre S nf tm lc oc on ol L nb bo b) from by rw [d9]; exact (by rw [if_neg (Nat.succ_ne_zero i), Nat.add_sub_cancel, Nat.succ_mul, ← Nat.add_assoc]; exact hl9)), (show ∃ dgc : Nat → Nat, (∀ j, j < P → ((ud m Q9).2.2.1 129 16).2 j = nI (dgc j) ∧ dgc j < f j) ∧ ∀ j, j < k → dgc j = dg j from by rw [d9]; exact ⟨dg9, hdg9, fun j hj => (hdk9 j (by omega)).trans ((if_neg (by omega)).trans (hdgk j hj))⟩)⟩ (by show on k - (i + 1) < on k - i; omega))
      · -- (0 : Int32)
        rw [hx1, hQe]
        refine mw_if (P := (0 : Int32) = 0) (a := 185) (b := 158) (fun _ => rfl) trivial (fun h10 => ?_) (fun h10 => absurd (by decide) h10)
        refine mw_go mu_g280 (k := 1) (f1 := (188, [(7, .inl ((nI i) + 1)), (8, .inl (nI (ol k i))), (5, .inl (nI n)), (0, .inr (.inr (some 129))), (1, .inl (nI k)), (2, .inl (nI st)), (4, .inl (nI fre)), (6, .inl (nI (sm f 0 k)))], [], Q4)) (C := []) rfl trivial ?_
        rw [(show ((nI i) + 1) = (nI (i + 1)) from (nI_add i 1))]
        refine mw_go mu_g280 (k := 1) (f1 := (110, [(7, .inl (nI (i + 1))), (8, .inl (nI (ol k i))), (5, .inl (nI n)), (0, .inr (.inr (some 129))), (1, .inl (nI k)), (2, .inl (nI st)), (4, .inl (nI fre)), (6, .inl (nI (sm f 0 k)))], [], Q4)) (C := []) rfl trivial ?_
        exact mw_sub (by simp) (iha (i + 1, n, Q4) ⟨u4, ht4, (show uq F280b U (ud m Q4) from by rw [d4]; exact (zza.A rfl)), (show (i + 1) ≤ on k from (by omega)), (show LSO (ud m Q4) n (st + (if (i + 1) = 0 then 0 else ol k ((i + 1) - 1) + 1) * Bk f P (k + 1)) (QQ P f fre S nf tm lc oc on ol L nb bo b) from by rw [d4]; exact (by rw [if_neg (Nat.succ_ne_zero i), Nat.add_sub_cancel, Nat.succ_mul, ← Nat.add_assoc]; exact (show LSO (upA Va 129 16 k (nI (ol k i))) n _ _ from hlg).gap (by omega) (fun t t1 t2 hq => hbad (fun r hr g1 g2 => (by have y := (hq.2 k hkf).2 r hr g1 g2; rw [← ixz_agree (dg := fun j => if j = k then ol k i else dgc j) (fun j2 j3 j4 => (by by_cases e1 : j2 < k + 1; (by_cases e0 : j2 = k; (rw [if_pos e0, e0]; exact (blk_k hf1 hkP hsta hoi t1 t2).symm); (rw [if_neg e0, hdgk j2 (by omega), hdst j2 (by omega)]; exact (blk_dg hf1 (by omega) (by omega) hsta (by omega) (by omega)).symm)); exact absurd ((hpm r hr).2 (by omega) j2 (by omega) j3) j4))] at y; exact y))))), (show ∃ dgc : Nat → Nat, (∀ j, j < P → ((ud m Q4).2.2.1 129 16).2 j = nI (dgc j) ∧ dgc j < f j) ∧ ∀ j, j < k → dgc j = dg j from by rw [d4]; exact ⟨fun j => if j = k then ol k i else dgc j, fun j hj => ⟨hdg2 j hj, hdl2 j hj⟩, fun j hj => (if_neg (by omega)).trans (hdgk j hj)⟩)⟩ (by show on k - (i + 1) < on k - i; omega))
  · -- 191: not (nI i) < (nI (on k))
    have nh3 : ¬ i < (on k) := fun z => h3 (show nI i < nI (on k) from (nI_ltI (by omega) (by omega)).mpr z)
    refine mw_go mu_g280 (k := 1) (f1 := (193, [(7, .inl (nI i)), (5, .inl (nI n)), (0, .inr (.inr (some 129))), (1, .inl (nI k)), (2, .inl (nI st)), (4, .inl (nI fre)), (6, .inl (nI (sm f 0 k)))], [.inl (nI n)], Hsa)) (C := []) rfl trivial ?_
    have hie : i = on k := by omega
    have hlq : ∀ q, q < i → ol k q < (if i = 0 then 0 else ol k (i - 1) + 1) := fun q hq => (by rw [if_neg (show ¬ i = 0 by omega)]; by_cases e0 : q = i - 1; (rw [e0]; exact Nat.lt_succ_self _); exact Nat.lt_succ_of_lt ((hopt k hkf).2.2.1 q (i - 1) (by omega) (by omega)))
    have hlmf : (if i = 0 then 0 else ol k (i - 1) + 1) ≤ f k := (by by_cases e0 : i = 0; (rw [if_pos e0]; exact Nat.zero_le _); (rw [if_neg e0]; exact (hopt k hkf).2.2.2 (i - 1) (by omega)))
    have hfin : LSO Va n (st + Bk f P k) (QQ P f fre S nf tm lc oc on ol L nb bo b) := hlt.gap (by rw [hBs]; exact Nat.add_le_add_left (Nat.mul_le_mul_right _ hlmf) _) (fun t t1 t2 hq => absurd (hq.2 k hkf).1 (dig_gap2 hf1 hkP hsta (hopt k hkf).2.2.1 hlq hie t1 (by rw [hBs] at t2; exact t2)))
    exact mw_of (fun _ => mu_ret rfl trivial ⟨(nI n), Hsa, rfl, n, rfl, ua, hta, (by rw [da]; exact qfa), (by rw [da]; exact hfin), dgc, (by rw [da]; exact hdgc), hdgk⟩)
theorem rl_ext (hf1 : ∀ k, 1 ≤ f k) : ∀ dep {H : mu_H} {U : Ud} {k st n : Nat} {dg : Nat → Nat}, k + dep = fre → EXA m P f fre N us S z p nf tm lc oc on ol L nb bo b H U k st n dg → mu_TI (mu_D (d + dep + 4)) 280 [.inr (.inr (some 129)), .inl (nI k), .inl (nI st), .inl (nI n), .inl (nI fre)] H (EXP C m P f H U k st dg (QQ P f fre S nf tm lc oc on ol L nb bo b))
  | 0, _, _, _, _, _, _, hk, hA => rl_ext0 (d := d + 3) hA (by omega)
  | dep + 1, _, _, _, _, _, _, hk, hA => rl_extS hf1 (fun hA2 => rl_ext hf1 dep (by omega) hA2) hA (by omega)
end Extend2
