/-! SPACE: what two sets by name have in common -/
section Common2
variable {H : mu_H} {U V : Ud} {m d wn jo qo jb qb : Nat} {C : Nat → Nat}
theorem sp_common2 (h : um m H) (e : ud m H = U) (hw12 : U.2.1 99 12 = nI wn) (hwn : wn ≤ 256) (hlo0 : LSN U 161 jo qo 256) (hlb0 : LSN U 161 jb qb 256) (hne : ¬ jb = jo) : mu_TV (mu_D (d + 1)) 258 [.inr (.inr (some 99)), .inr (.inr (some qo)), .inr (.inr (some qb))] H (fun H1 => um m H1 ∧ ur m C H H1 ∧ uq F258ga U (ud m H1) ∧ LSN (ud m H1) 161 jo qo 256 ∧ GKP 161 jo U (ud m H1) ∧ ∀ i, i < wn → lgf (ud m H1) 161 jo i = lgf U 161 jo i &&& lgf U 161 jb i) := by
  refine mu_meth (M := mu_m258) rfl rfl ?_
  refine mw_ht (mu_fn_of (show [0, 1, 2].Nodup by decide)) ?_
  refine mw_go mu_g258 (k := 2) (f1 := (2, [(3, .inl (0 : Int32)), (0, .inr (.inr (some 99))), (1, .inr (.inr (some qo))), (2, .inr (.inr (some qb)))], [], H)) (C := []) rfl trivial ?_
  show mu_W _ _ (2, [(3, .inl (nI 0)), (0, .inr (.inr (some 99))), (1, .inr (.inr (some qo))), (2, .inr (.inr (some qb)))], [], H) _
  refine mw_sub (L' := [(3, .inl (nI 0)), (0, .inr (.inr (some 99))), (1, .inr (.inr (some qo))), (2, .inr (.inr (some qb)))]) (by simp) ?_
  refine mw_down (α := Nat × mu_H) (fun zs => (2, [(3, .inl (nI zs.1)), (0, .inr (.inr (some 99))), (1, .inr (.inr (some qo))), (2, .inr (.inr (some qb)))], [], zs.2)) (fun zs => wn - zs.1) (fun zs => um m zs.2 ∧ ur m C H zs.2 ∧ (uq F258ga U (ud m zs.2)) ∧ (zs.1 ≤ wn) ∧ (LSN (ud m zs.2) 161 jo qo 256) ∧ (LSN (ud m zs.2) 161 jb qb 256) ∧ (GKP 161 jo U (ud m zs.2)) ∧ (∀ i, i < zs.1 → lgf (ud m zs.2) 161 jo i = lgf U 161 jo i &&& lgf U 161 jb i) ∧ (∀ i, zs.1 ≤ i → lgf (ud m zs.2) 161 jo i = lgf U 161 jo i)) (fun zs hza iha => ?_) (0, H) ⟨h, (ur.refl m C H), (show uq F258ga U (ud m H) from by rw [e]; exact uq.refl _ _), (show 0 ≤ wn from (Nat.zero_le _)), (show LSN (ud m H) 161 jo qo 256 from by rw [e]; exact hlo0), (show LSN (ud m H) 161 jb qb 256 from by rw [e]; exact hlb0), (show GKP 161 jo U (ud m H) from by rw [e]; exact (GKP.refl _ _ _)), (show ∀ i, i < 0 → lgf (ud m H) 161 jo i = lgf U 161 jo i &&& lgf U 161 jb i from by rw [e]; exact (fun i hi => absurd hi (Nat.not_lt_zero i))), (show ∀ i, 0 ≤ i → lgf (ud m H) 161 jo i = lgf U 161 jo i from by rw [e]; exact (fun i _ => rfl))⟩
  obtain ⟨w, Hsa⟩ := zs
  obtain ⟨ua, hta, da, hww, hlo, hlb, hka, hva, hvb⟩ := hza
  have ua : um m Hsa := ua
  have hta : ur m C H Hsa := hta
  have zza : uq F258ga U (ud m Hsa) := da
  have hww : w ≤ wn := hww
  have hlo : LSN (ud m Hsa) 161 jo qo 256 := hlo
  have hlb : LSN (ud m Hsa) 161 jb qb 256 := hlb
  have hka : GKP 161 jo U (ud m Hsa) := hka
  have hva : ∀ i, i < w → lgf (ud m Hsa) 161 jo i = lgf U 161 jo i &&& lgf U 161 jb i := hva
  have hvb : ∀ i, w ≤ i → lgf (ud m Hsa) 161 jo i = lgf U 161 jo i := hvb
  obtain ⟨Va, da⟩ : ∃ V, ud m Hsa = V := ⟨_, rfl⟩
  rw [da] at zza hlo hlb hka hva hvb
  show mu_W _ _ (2, [(3, .inl (nI w)), (0, .inr (.inr (some 99))), (1, .inr (.inr (some qo))), (2, .inr (.inr (some qb)))], [], Hsa) _
  refine mw_go mu_g258 (k := 3) (f1 := (7, [(3, .inl (nI w)), (0, .inr (.inr (some 99))), (1, .inr (.inr (some qo))), (2, .inr (.inr (some qb)))], [.inl (mu_i Hsa 99 12), .inl (nI w)], Hsa)) (C := [mu_is Hsa (some 99) 13]) rfl (show mu_is Hsa (some 99) 13 from (ua.1.1.is rfl)) ?_
  rw [(show mu_i Hsa 99 12 = (nI wn) from (ud_i (U := Va) (m := m) (P := 99) (j := 12) da rfl).trans ((zza.i 99 12 rfl).trans hw12))]
  refine mw_if (P := (nI w) < (nI wn)) (a := 10) (b := 25) (fun _ => rfl) trivial (fun h1 => ?_) (fun h1 => ?_)
  · -- 10: (nI w) < (nI wn)
    have nh1 : w < wn := (nI_ltI (by omega) (by omega)).mp (show nI w < nI wn from h1)
    refine mw_go mu_g258 (k := 3) (f1 := (13, [(3, .inl (nI w)), (0, .inr (.inr (some 99))), (1, .inr (.inr (some qo))), (2, .inr (.inr (some qb)))], [.inl (nI w), .inr (.inr (some qo)), .inl (nI w), .inr (.inr (some qo))], Hsa)) (C := []) rfl trivial ?_
    obtain ⟨kb2, kc2, kd2⟩ := LSN.read ua da (show LSN Va 161 jo qo 256 from hlo)
    refine mw_go mu_g258 (k := 1) (f1 := (14, [(3, .inl (nI w)), (0, .inr (.inr (some 99))), (1, .inr (.inr (some qo))), (2, .inr (.inr (some qb)))], [.inr (.inl (mu_l Hsa qo (nI w).toNatClampNeg)), .inl (nI w), .inr (.inr (some qo))], Hsa)) (C := [mu_isr Hsa (some qo) 102, vp_in (nI w) (mu_n Hsa qo)]) rfl (show (mu_isr Hsa (some qo) 102) ∧ (vp_in (nI w) (mu_n Hsa qo)) from ⟨kb2.r, (by rw [kc2]; exact vp_in_nI (n := w) (by omega) (by omega))⟩) ?_
    rw [show (mu_l Hsa qo (nI w).toNatClampNeg) = (lgf U 161 jo w) from ((congrArg (mu_l Hsa qo) (show (nI w).toNatClampNeg = w from nI_clamp (by omega))).trans (kd2 w)).trans (hvb w (Nat.le_refl _))]
    refine mw_go mu_g258 (k := 2) (f1 := (16, [(3, .inl (nI w)), (0, .inr (.inr (some 99))), (1, .inr (.inr (some qo))), (2, .inr (.inr (some qb)))], [.inl (nI w), .inr (.inr (some qb)), .inr (.inl (lgf U 161 jo w)), .inl (nI w), .inr (.inr (some qo))], Hsa)) (C := []) rfl trivial ?_
    obtain ⟨kb3, kc3, kd3⟩ := LSN.read ua da (show LSN Va 161 jb qb 256 from hlb)
    refine mw_go mu_g258 (k := 1) (f1 := (17, [(3, .inl (nI w)), (0, .inr (.inr (some 99))), (1, .inr (.inr (some qo))), (2, .inr (.inr (some qb)))], [.inr (.inl (mu_l Hsa qb (nI w).toNatClampNeg)), .inr (.inl (lgf U 161 jo w)), .inl (nI w), .inr (.inr (some qo))], Hsa)) (C := [mu_isr Hsa (some qb) 102, vp_in (nI w) (mu_n Hsa qb)]) rfl (show (mu_isr Hsa (some qb) 102) ∧ (vp_in (nI w) (mu_n Hsa qb)) from ⟨kb3.r, (by rw [kc3]; exact vp_in_nI (n := w) (by omega) (by omega))⟩) ?_
    rw [show (mu_l Hsa qb (nI w).toNatClampNeg) = (lgf U 161 jb w) from ((congrArg (mu_l Hsa qb) (show (nI w).toNatClampNeg = w from nI_clamp (by omega))).trans (kd3 w)).trans (congrFun (lgf_ne hka.toQ ⟨by decide, fun z => hne z.2⟩) w)]
    refine mw_go mu_g258 (k := 1) (f1 := (18, [(3, .inl (nI w)), (0, .inr (.inr (some 99))), (1, .inr (.inr (some qo))), (2, .inr (.inr (some qb)))], [.inr (.inl ((lgf U 161 jo w) &&& (lgf U 161 jb w))), .inl (nI w), .inr (.inr (some qo))], Hsa)) (C := []) rfl trivial ?_
    obtain ⟨kb4, kc4, -⟩ := LSN.read ua da (show LSN Va 161 jo qo 256 from hlo)
    refine mw_go mu_g258 (k := 1) (f1 := (19, [(3, .inl (nI w)), (0, .inr (.inr (some 99))), (1, .inr (.inr (some qo))), (2, .inr (.inr (some qb)))], [], (mu_sl Hsa qo (nI w).toNatClampNeg ((lgf U 161 jo w) &&& (lgf U 161 jb w))))) (C := [mu_is Hsa (some qo) 102, vp_in (nI w) (mu_n Hsa qo)]) rfl (show (mu_is Hsa (some qo) 102) ∧ (vp_in (nI w) (mu_n Hsa qo)) from ⟨kb4, (by rw [kc4]; exact vp_in_nI (n := w) (by omega) (by decide))⟩) ?_
    rw [(show (nI w).toNatClampNeg = w from nI_clamp (by omega))]
    obtain ⟨u4, r4, z4, gk4, gl4, gf4⟩ := LSN.write (C := C) (k := w) (v := ((lgf U 161 jo w) &&& (lgf U 161 jb w))) ua da (show LSN Va 161 jo qo 256 from hlo)
    generalize (mu_sl Hsa qo w ((lgf U 161 jo w) &&& (lgf U 161 jb w))) = Q4 at u4 r4 z4 gk4 gl4 gf4 ⊢
    obtain ⟨V4, d4⟩ : ∃ V, ud m Q4 = V := ⟨_, rfl⟩
    rw [d4] at z4 gk4 gl4 gf4
    have ht4 : ur m C H Q4 := hta.trans r4
    refine mw_go mu_g258 (k := 1) (f1 := (22, [(3, .inl ((nI w) + 1)), (0, .inr (.inr (some 99))), (1, .inr (.inr (some qo))), (2, .inr (.inr (some qb)))], [], Q4)) (C := []) rfl trivial ?_
    rw [(show ((nI w) + 1) = (nI (w + 1)) from (nI_add w 1))]
    refine mw_go mu_g258 (k := 1) (f1 := (2, [(3, .inl (nI (w + 1))), (0, .inr (.inr (some 99))), (1, .inr (.inr (some qo))), (2, .inr (.inr (some qb)))], [], Q4)) (C := []) rfl trivial ?_
    exact mw_sub (by simp) (iha (w + 1, Q4) ⟨u4, ht4, (show uq F258ga U (ud m Q4) from by rw [d4]; exact (zza.tr z4 rfl)), (show (w + 1) ≤ wn from (by omega)), (show LSN (ud m Q4) 161 jo qo 256 from by rw [d4]; exact gl4), (show LSN (ud m Q4) 161 jb qb 256 from by rw [d4]; exact (hlb.gk z4 (fun _ => rfl) (fun _ => rfl) gk4.toQ)), (show GKP 161 jo U (ud m Q4) from by rw [d4]; exact (hka.trans gk4)), (show ∀ i, i < (w + 1) → lgf (ud m Q4) 161 jo i = lgf U 161 jo i &&& lgf U 161 jb i from by rw [d4]; exact (fun i hi => by rw [gf4]; by_cases y : i = w; (rw [if_pos y, y]); (rw [if_neg y]; exact hva i (by omega)))), (show ∀ i, (w + 1) ≤ i → lgf (ud m Q4) 161 jo i = lgf U 161 jo i from by rw [d4]; exact (fun i hi => by rw [gf4, if_neg (by omega)]; exact hvb i (by omega)))⟩ (by show wn - (w + 1) < wn - w; omega))
  · -- 25: not (nI w) < (nI wn)
    have nh1 : ¬ w < wn := fun z => h1 (show nI w < nI wn from (nI_ltI (by omega) (by omega)).mpr z)
    exact mw_of (fun _ => mu_ret rfl trivial ⟨Hsa, rfl, ua, hta, (by rw [da]; exact zza), (by rw [da]; exact hlo), (by rw [da]; exact hka), (by rw [da]; exact fun i hi => hva i (by omega))⟩)
end Common2
