/-! THE STORE OF SETS: a set laid out in a set by name -/
section LayName
variable {H : mu_H} {U V : Ud} {m d a b w ga gi gq : Nat} {C : Nat → Nat}
def F239c : Uf := ⟨[], [], [], [], [148, 162], true⟩
theorem st_layN (h : um m H) (e : ud m H = U) (hgl : LSN U ga gi gq 256) (hab : a ≤ b) (hb : b < 16384) : mu_TV (mu_D (d + 2)) 239 [.inr (.inr (some gq)), .inl (nI a), .inl (nI b)] H (fun H1 => um m H1 ∧ ur m C H H1 ∧ uq F239c U (ud m H1) ∧ GKP ga gi U (ud m H1) ∧ LSN (ud m H1) ga gi gq 256 ∧ ∀ t, bts (lgf (ud m H1) ga gi) t = (bts (lgf U ga gi) t || decide (a ≤ t ∧ t ≤ b))) := by
  refine mu_meth (M := mu_m239) rfl rfl ?_
  refine mw_ht (mu_fn_of (show [0, 1, 2].Nodup by decide)) ?_
  refine mw_go mu_g239 (k := 3) (f1 := (4, [(0, .inr (.inr (some gq))), (1, .inl (nI a)), (2, .inl (nI b))], [.inl ((nI a) >>> ((6 : Int32) &&& 31))], H)) (C := []) rfl trivial ?_
  rw [(show ((nI a) >>> ((6 : Int32) &&& 31)) = (nI (a / 64)) from (nI_shr6 (a := a) (by omega)))]
  refine mw_go mu_g239 (k := 1) (f1 := (5, [(3, .inl (nI (a / 64))), (0, .inr (.inr (some gq))), (1, .inl (nI a)), (2, .inl (nI b))], [], H)) (C := []) rfl trivial ?_
  refine mw_sub (L' := [(3, .inl (nI (a / 64))), (0, .inr (.inr (some gq))), (1, .inl (nI a)), (2, .inl (nI b))]) (by simp) ?_
  refine mw_down (α := Nat × mu_H) (fun zs => (5, [(3, .inl (nI zs.1)), (0, .inr (.inr (some gq))), (1, .inl (nI a)), (2, .inl (nI b))], [], zs.2)) (fun zs => b / 64 + 1 - zs.1) (fun zs => um m zs.2 ∧ ur m C H zs.2 ∧ (uq F239c U (ud m zs.2)) ∧ (a / 64 ≤ zs.1 ∧ zs.1 ≤ b / 64 + 1) ∧ (LSN (ud m zs.2) ga gi gq 256) ∧ (GKP ga gi U (ud m zs.2)) ∧ (∀ t, bts (lgf (ud m zs.2) ga gi) t = (bts (lgf U ga gi) t || decide (t / 64 < zs.1 ∧ a ≤ t ∧ t ≤ b)))) (fun zs hza iha => ?_) (a / 64, H) ⟨h, (ur.refl m C H), (show uq F239c U (ud m H) from by rw [e]; exact uq.refl _ _), (show a / 64 ≤ (a / 64) ∧ (a / 64) ≤ b / 64 + 1 from (by omega)), (show LSN (ud m H) ga gi gq 256 from by rw [e]; exact hgl), (show GKP ga gi U (ud m H) from by rw [e]; exact (GKP.refl _ _ _)), (show ∀ t, bts (lgf (ud m H) ga gi) t = (bts (lgf U ga gi) t || decide (t / 64 < (a / 64) ∧ a ≤ t ∧ t ≤ b)) from by rw [e]; exact (bts_in (fun t => rfl)))⟩
  obtain ⟨w, Hsa⟩ := zs
  obtain ⟨ua, hta, da, hw, hlg, hka, hB⟩ := hza
  have ua : um m Hsa := ua
  have hta : ur m C H Hsa := hta
  have zza : uq F239c U (ud m Hsa) := da
  have hw : a / 64 ≤ w ∧ w ≤ b / 64 + 1 := hw
  have hlg : LSN (ud m Hsa) ga gi gq 256 := hlg
  have hka : GKP ga gi U (ud m Hsa) := hka
  have hB : ∀ t, bts (lgf (ud m Hsa) ga gi) t = (bts (lgf U ga gi) t || decide (t / 64 < w ∧ a ≤ t ∧ t ≤ b)) := hB
  obtain ⟨Va, da⟩ : ∃ V, ud m Hsa = V := ⟨_, rfl⟩
  rw [da] at zza hlg hka hB
  show mu_W _ _ (5, [(3, .inl (nI w)), (0, .inr (.inr (some gq))), (1, .inl (nI a)), (2, .inl (nI b))], [], Hsa) _
  refine mw_go mu_g239 (k := 4) (f1 := (10, [(3, .inl (nI w)), (0, .inr (.inr (some gq))), (1, .inl (nI a)), (2, .inl (nI b))], [.inl ((nI b) >>> ((6 : Int32) &&& 31)), .inl (nI w)], Hsa)) (C := []) rfl trivial ?_
  rw [(show ((nI b) >>> ((6 : Int32) &&& 31)) = (nI (b / 64)) from (nI_shr6 (a := b) (by omega)))]
  refine mw_if (P := (nI (b / 64)) < (nI w)) (a := 31) (b := 13) (fun _ => rfl) trivial (fun h1 => ?_) (fun h1 => ?_)
  · -- 31: (nI (b / 64)) < (nI w)
    have nh1 : (b / 64) < w := (nI_ltI (by omega) (by omega)).mp (show nI (b / 64) < nI w from h1)
    exact mw_of (fun _ => mu_ret rfl trivial ⟨Hsa, rfl, ua, hta, (by rw [da]; exact zza), (by rw [da]; exact hka), (by rw [da]; exact hlg), (by rw [da]; exact bts_end (by omega) hB)⟩)
  · -- 13: not (nI (b / 64)) < (nI w)
    have nh1 : ¬ (b / 64) < w := fun z => h1 (show nI (b / 64) < nI w from (nI_ltI (by omega) (by omega)).mpr z)
    refine mw_go mu_g239 (k := 3) (f1 := (16, [(3, .inl (nI w)), (0, .inr (.inr (some gq))), (1, .inl (nI a)), (2, .inl (nI b))], [.inl (nI w), .inr (.inr (some gq)), .inl (nI w), .inr (.inr (some gq))], Hsa)) (C := []) rfl trivial ?_
    obtain ⟨kb2, kc2, kd2⟩ := LSN.read ua da (show LSN Va ga gi gq 256 from hlg)
    refine mw_go mu_g239 (k := 1) (f1 := (17, [(3, .inl (nI w)), (0, .inr (.inr (some gq))), (1, .inl (nI a)), (2, .inl (nI b))], [.inr (.inl (mu_l Hsa gq (nI w).toNatClampNeg)), .inl (nI w), .inr (.inr (some gq))], Hsa)) (C := [mu_isr Hsa (some gq) 102, vp_in (nI w) (mu_n Hsa gq)]) rfl (show (mu_isr Hsa (some gq) 102) ∧ (vp_in (nI w) (mu_n Hsa gq)) from ⟨kb2.r, (by rw [kc2]; exact vp_in_nI (n := w) (by omega) (by omega))⟩) ?_
    rw [show (mu_l Hsa gq (nI w).toNatClampNeg) = (lgf Va ga gi w) from (congrArg (mu_l Hsa gq) (show (nI w).toNatClampNeg = w from nI_clamp (by omega))).trans (kd2 w)]
    refine mw_go mu_g239 (k := 3) (f1 := (20, [(3, .inl (nI w)), (0, .inr (.inr (some gq))), (1, .inl (nI a)), (2, .inl (nI b))], [.inl (nI b), .inl (nI a), .inl (nI w), .inr (.inl (lgf Va ga gi w)), .inl (nI w), .inr (.inr (some gq))], Hsa)) (C := []) rfl trivial ?_
    refine mw_cL (fun _ => rfl) trivial (rn_in (d := d) (w := w) (a := a) (b := b) ua da (by omega) (by omega) (by omega) (by omega)) (fun x3 H3 q3 => ?_)
    obtain ⟨hr, hQe⟩ := q3
    rw [hQe]
    refine mw_go mu_g239 (k := 1) (f1 := (24, [(3, .inl (nI w)), (0, .inr (.inr (some gq))), (1, .inl (nI a)), (2, .inl (nI b))], [.inr (.inl ((lgf Va ga gi w) ||| x3)), .inl (nI w), .inr (.inr (some gq))], Hsa)) (C := []) rfl trivial ?_
    obtain ⟨kb4, kc4, -⟩ := LSN.read ua da (show LSN Va ga gi gq 256 from hlg)
    refine mw_go mu_g239 (k := 1) (f1 := (25, [(3, .inl (nI w)), (0, .inr (.inr (some gq))), (1, .inl (nI a)), (2, .inl (nI b))], [], (mu_sl Hsa gq (nI w).toNatClampNeg ((lgf Va ga gi w) ||| x3)))) (C := [mu_is Hsa (some gq) 102, vp_in (nI w) (mu_n Hsa gq)]) rfl (show (mu_is Hsa (some gq) 102) ∧ (vp_in (nI w) (mu_n Hsa gq)) from ⟨kb4, (by rw [kc4]; exact vp_in_nI (n := w) (by omega) (by decide))⟩) ?_
    rw [(show (nI w).toNatClampNeg = w from nI_clamp (by omega))]
    obtain ⟨u4, r4, z4, gk4, gl4, gf4⟩ := LSN.write (C := C) (k := w) (v := ((lgf Va ga gi w) ||| x3)) ua da (show LSN Va ga gi gq 256 from hlg)
    generalize (mu_sl Hsa gq w ((lgf Va ga gi w) ||| x3)) = Q4 at u4 r4 z4 gk4 gl4 gf4 ⊢
    obtain ⟨V4, d4⟩ : ∃ V, ud m Q4 = V := ⟨_, rfl⟩
    rw [d4] at z4 gk4 gl4 gf4
    have ht4 : ur m C H Q4 := hta.trans r4
    refine mw_go mu_g239 (k := 1) (f1 := (28, [(3, .inl ((nI w) + 1)), (0, .inr (.inr (some gq))), (1, .inl (nI a)), (2, .inl (nI b))], [], Q4)) (C := []) rfl trivial ?_
    rw [(show ((nI w) + 1) = (nI (w + 1)) from (nI_add w 1))]
    refine mw_go mu_g239 (k := 1) (f1 := (5, [(3, .inl (nI (w + 1))), (0, .inr (.inr (some gq))), (1, .inl (nI a)), (2, .inl (nI b))], [], Q4)) (C := []) rfl trivial ?_
    exact mw_sub (by simp) (iha (w + 1, Q4) ⟨u4, ht4, (show uq F239c U (ud m Q4) from by rw [d4]; exact (zza.tr z4 rfl)), (show a / 64 ≤ (w + 1) ∧ (w + 1) ≤ b / 64 + 1 from (by omega)), (show LSN (ud m Q4) ga gi gq 256 from by rw [d4]; exact gl4), (show GKP ga gi U (ud m Q4) from by rw [d4]; exact (hka.trans gk4)), (show ∀ t, bts (lgf (ud m Q4) ga gi) t = (bts (lgf U ga gi) t || decide (t / 64 < (w + 1) ∧ a ≤ t ∧ t ≤ b)) from by rw [d4]; exact (fun t => by rw [show lgf V4 ga gi = _ from funext gf4]; exact bts_step hB hr t))⟩ (by show b / 64 + 1 - (w + 1) < b / 64 + 1 - w; omega))
end LayName
