/-! GRAPH: lead -/
section Lead
variable {H : mu_H} {U V : Ud} {m d wn T R N fb st ga gi gq gb gj gp : Nat} {C : Nat → Nat} {rx mb me : Nat → Nat} {G : Nat → Nat → Prop}
theorem bts_or {L A B : Nat → Int64} {s : Nat} (h : L (s / 64) = A (s / 64) ||| B (s / 64)) : bts L s = (bts A s || bts B s) := by
  unfold bts
  rw [h, btz_or]
def F314 : Uf := ⟨[], [(147, 14), (147, 15), (147, 16), (147, 17), (147, 18), (147, 19)], [(147, 10), (147, 12)], [(147, 8)], [150], false⟩
def F314a : Uf := ⟨[], [], [], [], [150], false⟩
/-- PathProver$Graph.lead(I[J[J)V -/
abbrev mu_m314 : ev_M := (5, none, [], ev_b314)
theorem mu_g314 : mu_good mu_m314 := mu_goodk ev_k314
theorem gr_lead (h : um m H) (e : ud m H = U) (hG : GRB U T R wn rx mb me) (hN : U.2.1 113 2 = nI N) (hfb : U.2.1 113 8 = nI fb) (hfN : fb ≤ N) (hR : R = N - fb) (hgl : LSN U ga gi gq 256) (hgp : LSN U gb gj gp 256) (hst : st < T) (hT1 : ∀ s, s < 64 * wn → bts (lgf U gb gj) s = true ∨ bts (lgf U ga gi) s = true → s < T) : mu_TV (mu_D (d + 3)) 314 [.inr (.inr (some 147)), .inl (nI st), .inr (.inr (some gp)), .inr (.inr (some gq))] H (fun H1 => um m H1 ∧ ur m C H H1 ∧ uq F314 U (ud m H1) ∧ NK U (ud m H1) ∧ ∃ hh, LPQ (ud m H1) G (fun t => t < T ∧ bts (lgf U gb gj) t = true) (fun t => t < T ∧ bts (lgf U ga gi) t = true) st rx (fun _ => st) (fun _ => 0) (fun _ => 0) T R wn ga gi gq 1 hh) := by
  obtain ⟨⟨⟨hg12, hg11⟩, hgwn, hTb⟩, ⟨⟨g6a, g6b⟩, hrx⟩, ⟨hRT, g10a, g10b⟩, ⟨g11a, g11b⟩, ⟨g12a, g12b⟩, ⟨g13a, g13b⟩, hmb, hme, hmp1, hmp2, hmp3, hmp4⟩ := id hG
  have hwnb : wn ≤ 256 := by omega
  have hgq := LSN.ltz h e hgl
  refine mu_meth (M := mu_m314) rfl rfl ?_
  refine mw_ht (mu_fn_of (show [0, 1, 2, 3].Nodup by decide)) ?_
  refine mw_go mu_g314 (k := 2) (f1 := (3, [(4, .inl (0 : Int32)), (0, .inr (.inr (some 147))), (1, .inl (nI st)), (2, .inr (.inr (some gp))), (3, .inr (.inr (some gq)))], [], H)) (C := []) rfl trivial ?_
  show mu_W _ _ (3, [(4, .inl (nI 0)), (0, .inr (.inr (some 147))), (1, .inl (nI st)), (2, .inr (.inr (some gp))), (3, .inr (.inr (some gq)))], [], H) _
  refine mw_sub (L' := [(4, .inl (nI 0)), (0, .inr (.inr (some 147))), (1, .inl (nI st)), (2, .inr (.inr (some gp))), (3, .inr (.inr (some gq)))]) (by simp) ?_
  refine mw_down (α := Nat × mu_H) (fun zs => (3, [(4, .inl (nI zs.1)), (0, .inr (.inr (some 147))), (1, .inl (nI st)), (2, .inr (.inr (some gp))), (3, .inr (.inr (some gq)))], [], zs.2)) (fun zs => wn - zs.1) (fun zs => um m zs.2 ∧ ur m C H zs.2 ∧ (uq F314a U (ud m zs.2)) ∧ (zs.1 ≤ wn) ∧ (∀ i, i < zs.1 → (ud m zs.2).2.2.2.2.1 150 i = lgf U gb gj i ||| lgf U ga gi i)) (fun zs hza iha => ?_) (0, H) ⟨h, (ur.refl m C H), (show uq F314a U (ud m H) from by rw [e]; exact uq.refl _ _), (show 0 ≤ wn from (by omega)), (show ∀ i, i < 0 → (ud m H).2.2.2.2.1 150 i = lgf U gb gj i ||| lgf U ga gi i from by rw [e]; exact (fun i hi => absurd hi (Nat.not_lt_zero i)))⟩
  obtain ⟨w, Hsa⟩ := zs
  obtain ⟨ua, hta, da, hv, h150⟩ := hza
  have ua : um m Hsa := ua
  have hta : ur m C H Hsa := hta
  have zza : uq F314a U (ud m Hsa) := da
  have hv : w ≤ wn := hv
  have h150 : ∀ i, i < w → (ud m Hsa).2.2.2.2.1 150 i = lgf U gb gj i ||| lgf U ga gi i := h150
  obtain ⟨Va, da⟩ : ∃ V, ud m Hsa = V := ⟨_, rfl⟩
  rw [da] at zza h150
  have qfa : uq F314 U Va := (uq.refl F314 U).tr zza rfl
  show mu_W _ _ (3, [(4, .inl (nI w)), (0, .inr (.inr (some 147))), (1, .inl (nI st)), (2, .inr (.inr (some gp))), (3, .inr (.inr (some gq)))], [], Hsa) _
  refine mw_go mu_g314 (k := 3) (f1 := (9, [(4, .inl (nI w)), (0, .inr (.inr (some 147))), (1, .inl (nI st)), (2, .inr (.inr (some gp))), (3, .inr (.inr (some gq)))], [.inr (.inr (mu_r Hsa 147 0)), .inl (nI w)], Hsa)) (C := [mu_is Hsa (some 147) 2]) rfl (show mu_is Hsa (some 147) 2 from (ua.1.1.is rfl)) ?_
  rw [(ua.1.1.r (p := 147) (j := 0) (q := 99) rfl)]
  refine mw_go mu_g314 (k := 1) (f1 := (12, [(4, .inl (nI w)), (0, .inr (.inr (some 147))), (1, .inl (nI st)), (2, .inr (.inr (some gp))), (3, .inr (.inr (some gq)))], [.inl (mu_i Hsa 99 12), .inl (nI w)], Hsa)) (C := [mu_is Hsa (some 99) 13]) rfl (show mu_is Hsa (some 99) 13 from (ua.1.1.is rfl)) ?_
  rw [(show mu_i Hsa 99 12 = (nI wn) from (ud_i (U := Va) (m := m) (P := 99) (j := 12) da rfl).trans ((zza.i 99 12 rfl).trans hg12))]
  refine mw_if (P := (nI w) < (nI wn)) (a := 15) (b := 37) (fun _ => rfl) trivial (fun h1 => ?_) (fun h1 => ?_)
  · -- 15: (nI w) < (nI wn)
    have nh1 : w < wn := (nI_ltI (by omega) (by omega)).mp (show nI w < nI wn from h1)
    refine mw_go mu_g314 (k := 2) (f1 := (19, [(4, .inl (nI w)), (0, .inr (.inr (some 147))), (1, .inl (nI st)), (2, .inr (.inr (some gp))), (3, .inr (.inr (some gq)))], [.inr (.inr (mu_r Hsa 147 4))], Hsa)) (C := [mu_is Hsa (some 147) 2]) rfl (show mu_is Hsa (some 147) 2 from (ua.1.1.is rfl)) ?_
    rw [(ua.1.1.r (p := 147) (j := 4) (q := 150) rfl)]
    refine mw_go mu_g314 (k := 3) (f1 := (24, [(4, .inl (nI w)), (0, .inr (.inr (some 147))), (1, .inl (nI st)), (2, .inr (.inr (some gp))), (3, .inr (.inr (some gq)))], [.inl (nI w), .inr (.inr (some gp)), .inl (nI w), .inr (.inr (some 150))], Hsa)) (C := []) rfl trivial ?_
    obtain ⟨kb2, kc2, kd2⟩ := LSN.read ua da (hgp.q qfa (fun _ => rfl) (fun _ => rfl) rfl)
    refine mw_go mu_g314 (k := 1) (f1 := (25, [(4, .inl (nI w)), (0, .inr (.inr (some 147))), (1, .inl (nI st)), (2, .inr (.inr (some gp))), (3, .inr (.inr (some gq)))], [.inr (.inl (mu_l Hsa gp (nI w).toNatClampNeg)), .inl (nI w), .inr (.inr (some 150))], Hsa)) (C := [mu_isr Hsa (some gp) 102, vp_in (nI w) (mu_n Hsa gp)]) rfl (show (mu_isr Hsa (some gp) 102) ∧ (vp_in (nI w) (mu_n Hsa gp)) from ⟨kb2.r, (by rw [kc2]; exact vp_in_nI (n := w) (by omega) (by decide))⟩) ?_
    rw [(show (mu_l Hsa gp (nI w).toNatClampNeg) = ((lgf Va gb gj) w) from (congrArg (mu_l Hsa gp) (show (nI w).toNatClampNeg = w from nI_clamp (by omega))).trans (kd2 w))]
    refine mw_go mu_g314 (k := 2) (f1 := (28, [(4, .inl (nI w)), (0, .inr (.inr (some 147))), (1, .inl (nI st)), (2, .inr (.inr (some gp))), (3, .inr (.inr (some gq)))], [.inl (nI w), .inr (.inr (some gq)), .inr (.inl ((lgf Va gb gj) w)), .inl (nI w), .inr (.inr (some 150))], Hsa)) (C := []) rfl trivial ?_
    obtain ⟨kb3, kc3, kd3⟩ := LSN.read ua da (hgl.q qfa (fun _ => rfl) (fun _ => rfl) rfl)
    refine mw_go mu_g314 (k := 1) (f1 := (29, [(4, .inl (nI w)), (0, .inr (.inr (some 147))), (1, .inl (nI st)), (2, .inr (.inr (some gp))), (3, .inr (.inr (some gq)))], [.inr (.inl (mu_l Hsa gq (nI w).toNatClampNeg)), .inr (.inl ((lgf Va gb gj) w)), .inl (nI w), .inr (.inr (some 150))], Hsa)) (C := [mu_isr Hsa (some gq) 102, vp_in (nI w) (mu_n Hsa gq)]) rfl (show (mu_isr Hsa (some gq) 102) ∧ (vp_in (nI w) (mu_n Hsa gq)) from ⟨kb3.r, (by rw [kc3]; exact vp_in_nI (n := w) (by omega) (by decide))⟩) ?_
    rw [(show (mu_l Hsa gq (nI w).toNatClampNeg) = ((lgf Va ga gi) w) from (congrArg (mu_l Hsa gq) (show (nI w).toNatClampNeg = w from nI_clamp (by omega))).trans (kd3 w))]
    refine mw_go mu_g314 (k := 2) (f1 := (31, [(4, .inl (nI w)), (0, .inr (.inr (some 147))), (1, .inl (nI st)), (2, .inr (.inr (some gp))), (3, .inr (.inr (some gq)))], [], (mu_sl Hsa 150 (nI w).toNatClampNeg (((lgf Va gb gj) w) ||| ((lgf Va ga gi) w))))) (C := [mu_is Hsa (some 150) 102, vp_in (nI w) (mu_n Hsa 150)]) rfl (show (mu_is Hsa (some 150) 102) ∧ (vp_in (nI w) (mu_n Hsa 150)) from ⟨((ua.1.1.a (p := 150) (x := (102, 256)) rfl).1), (by rw [show mu_n Hsa 150 = 256 from (ua.1.1.a (p := 150) (x := (102, 256)) rfl).2]; exact vp_in_nI (n := w) (by omega) (by decide))⟩) ?_
    rw [(show (nI w).toNatClampNeg = w from nI_clamp (by omega))]
    obtain ⟨u4, r4, d4⟩ : um m (mu_sl Hsa 150 w (((lgf Va gb gj) w) ||| ((lgf Va ga gi) w))) ∧ ur m C Hsa (mu_sl Hsa 150 w (((lgf Va gb gj) w) ||| ((lgf Va ga gi) w))) ∧ ud m (mu_sl Hsa 150 w (((lgf Va gb gj) w) ||| ((lgf Va ga gi) w))) = (upL Va 150 w (((lgf Va gb gj) w) ||| ((lgf Va ga gi) w))) := ua.sL (C := C) da rfl
    generalize (mu_sl Hsa 150 w (((lgf Va gb gj) w) ||| ((lgf Va ga gi) w))) = Q4 at u4 r4 d4 ⊢
    have qf4 : uq F314 U (upL Va 150 w (((lgf Va gb gj) w) ||| ((lgf Va ga gi) w))) := qfa.L rfl
    have ht4 : ur m C H Q4 := hta.trans r4
    refine mw_go mu_g314 (k := 1) (f1 := (34, [(4, .inl ((nI w) + 1)), (0, .inr (.inr (some 147))), (1, .inl (nI st)), (2, .inr (.inr (some gp))), (3, .inr (.inr (some gq)))], [], Q4)) (C := []) rfl trivial ?_
    rw [(show ((nI w) + 1) = (nI (w + 1)) from (nI_add w 1))]
    refine mw_go mu_g314 (k := 1) (f1 := (3, [(4, .inl (nI (w + 1))), (0, .inr (.inr (some 147))), (1, .inl (nI st)), (2, .inr (.inr (some gp))), (3, .inr (.inr (some gq)))], [], Q4)) (C := []) rfl trivial ?_
    exact mw_sub (by simp) (iha (w + 1, Q4) ⟨u4, ht4, (show uq F314a U (ud m Q4) from by rw [d4]; exact (zza.L rfl)), (show (w + 1) ≤ wn from (by omega)), (show ∀ i, i < (w + 1) → (ud m Q4).2.2.2.2.1 150 i = lgf U gb gj i ||| lgf U ga gi i from by rw [d4]; exact (fun i hi => by show (if (150 = 150 ∧ i = w) then _ else Va.2.2.2.2.1 150 i) = _; by_cases y : i = w; (rw [if_pos ⟨rfl, y⟩, y, lsf_q hgl qfa rfl rfl rfl, lsf_q hgp qfa rfl rfl rfl]); (rw [if_neg (fun z => y z.2)]; exact h150 i (by omega))))⟩ (by show wn - (w + 1) < wn - w; omega))
  · -- 37: not (nI w) < (nI wn)
    have nh1 : ¬ w < wn := fun z => h1 (show nI w < nI wn from (nI_ltI (by omega) (by omega)).mpr z)
    have hwe : w = wn := by omega
    rw [hwe] at h150
    have hua : ∀ s, s < 64 * wn → bts (Va.2.2.2.2.1 150) s = (bts (lgf U gb gj) s || bts (lgf U ga gi) s) := fun s hs => bts_or (h150 (s / 64) (by omega))
    refine mw_go mu_g314 (k := 2) (f1 := (39, [(4, .inl (nI w)), (0, .inr (.inr (some 147))), (1, .inl (nI st)), (2, .inr (.inr (some gp))), (3, .inr (.inr (some gq)))], [.inl (nI st), .inr (.inr (some gq))], Hsa)) (C := []) rfl trivial ?_
    refine mw_cI (fun _ => rfl) trivial ((pv_hasG (d := (d + 1)) (k := st) ua da (hgl.q qfa (fun _ => rfl) (fun _ => rfl) rfl) (by omega)).imp (fun _ _ z => has_alt (b := bts (lgf Va ga gi) st) z)) (fun x5 H5 q5 => ?_)
    rcases q5 with ⟨rfl, hb5, rfl⟩ | ⟨rfl, hb5, rfl⟩
    · -- (1 : Int32)
      have khb : bts (lgf U ga gi) st = true := by rw [← lsf_q hgl qfa rfl rfl rfl]; exact hb5
      refine mw_if (P := (1 : Int32) = 0) (a := 45) (b := 64) (fun _ => rfl) trivial (fun h6 => absurd h6 (by decide)) (fun h6 => ?_)
      have hu64 : ∀ s, s < 64 * wn → (bts (Va.2.2.2.2.1 150) s = true ↔ ((s < T ∧ bts (lgf U gb gj) s = true) ∨ (s < T ∧ bts (lgf U ga gi) s = true)) ∧ ¬ (s = st ∧ ¬ (st < T ∧ bts (lgf U ga gi) st = true))) := fun s hs => by
        rw [hua s hs, Bool.or_eq_true]
        exact ⟨fun y => ⟨y.imp (fun z => ⟨hT1 s hs (Or.inl z), z⟩) (fun z => ⟨hT1 s hs (Or.inr z), z⟩), fun z => z.2 ⟨hst, khb⟩⟩, fun y => y.1.imp (fun z => z.2) (fun z => z.2)⟩
      refine mw_go mu_g314 (k := 2) (f1 := (66, [(4, .inl (nI w)), (0, .inr (.inr (some 147))), (1, .inl (nI st)), (2, .inr (.inr (some gp))), (3, .inr (.inr (some gq)))], [.inr (.inr (some gq)), .inr (.inr (some 147))], Hsa)) (C := []) rfl trivial ?_
      refine mw_go mu_g314 (k := 1) (f1 := (69, [(4, .inl (nI w)), (0, .inr (.inr (some 147))), (1, .inl (nI st)), (2, .inr (.inr (some gp))), (3, .inr (.inr (some gq)))], [], (mu_sr Hsa 147 8 (some gq)))) (C := [mu_is Hsa (some 147) 2]) rfl (show mu_is Hsa (some 147) 2 from (ua.1.1.is rfl)) ?_
      obtain ⟨u7, r7, d7⟩ : um m (mu_sr Hsa 147 8 (some gq)) ∧ ur m C Hsa (mu_sr Hsa 147 8 (some gq)) ∧ ud m (mu_sr Hsa 147 8 (some gq)) = (upR Va 147 8 (some gq)) := (by have z := ua.putR (C := C) (P := 147) (k := 8) (v := (some gq)) rfl rfl rfl (by decide) (fun q hq => by cases hq; exact LSN.cd da (hgl.q qfa (fun _ => rfl) (fun _ => rfl) rfl)); rw [da] at z; exact z)
      generalize (mu_sr Hsa 147 8 (some gq)) = Q7 at u7 r7 d7 ⊢
      have qf7 : uq F314 U (upR Va 147 8 (some gq)) := qfa.R rfl
      have ht7 : ur m C H Q7 := hta.trans r7
      refine mw_go mu_g314 (k := 3) (f1 := (74, [(4, .inl (nI w)), (0, .inr (.inr (some 147))), (1, .inl (nI st)), (2, .inr (.inr (some gp))), (3, .inr (.inr (some gq)))], [], (mu_si Q7 147 16 (0 : Int32)))) (C := [mu_is Q7 (some 147) 2]) rfl (show mu_is Q7 (some 147) 2 from (u7.1.1.is rfl)) ?_
      obtain ⟨u8, r8, d8⟩ : um m (mu_si Q7 147 16 (0 : Int32)) ∧ ur m C Q7 (mu_si Q7 147 16 (0 : Int32)) ∧ ud m (mu_si Q7 147 16 (0 : Int32)) = (upI (upR Va 147 8 (some gq)) 147 16 (0 : Int32)) := u7.sI (C := C) d7 rfl
      generalize (mu_si Q7 147 16 (0 : Int32)) = Q8 at u8 r8 d8 ⊢
      have qf8 : uq F314 U (upI (upR Va 147 8 (some gq)) 147 16 (0 : Int32)) := qf7.I rfl
      have ht8 : ur m C H Q8 := ht7.trans r8
      refine mw_go mu_g314 (k := 1) (f1 := (75, [(4, .inl (nI w)), (0, .inr (.inr (some 147))), (1, .inl (nI st)), (2, .inr (.inr (some gp))), (3, .inr (.inr (some gq)))], [.inr (.inr (some 147))], Q8)) (C := []) rfl trivial ?_
      refine mw_cV (fun _ => rfl) (show mu_is Q8 (some 147) 2 from (u8.1.1.is rfl)) (gr_clear (d := d) (C := C) (N := N) (fb := fb) (R := R) u8 d8 ((show ((upI (upR Va 147 8 (some gq)) 147 16 (0 : Int32)).2.1 113 2) = (U.2.1 113 2) from (zza.i 113 2 rfl)).trans hN) ((show ((upI (upR Va 147 8 (some gq)) 147 16 (0 : Int32)).2.1 113 8) = (U.2.1 113 8) from (zza.i 113 8 rfl)).trans hfb) hfN hR (by rw [(show ((upI (upR Va 147 8 (some gq)) 147 16 (0 : Int32)).2.2.1 147 10).1 = (U.2.2.1 147 10).1 from (zza.n 147 10 rfl))]; omega) (by rw [(show ((upI (upR Va 147 8 (some gq)) 147 16 (0 : Int32)).2.2.1 147 10).1 = (U.2.2.1 147 10).1 from (zza.n 147 10 rfl))]; exact g10b)) (fun Q9 q9 => ?_)
      obtain ⟨u9, r9, z9, hcl⟩ := q9
      have ht9 : ur m C H Q9 := ht8.trans r9
      obtain ⟨V9, d9⟩ : ∃ V, ud m Q9 = V := ⟨_, rfl⟩
      rw [d9] at z9 hcl
      have qf9 : uq F314 U V9 := qf8.tr z9 rfl
      refine mw_go mu_g314 (k := 2) (f1 := (82, [(4, .inl (nI w)), (0, .inr (.inr (some 147))), (1, .inl (nI st)), (2, .inr (.inr (some gp))), (3, .inr (.inr (some gq)))], [.inr (.inr (mu_r Q9 147 12))], Q9)) (C := [mu_is Q9 (some 147) 2]) rfl (show mu_is Q9 (some 147) 2 from (u9.1.1.is rfl)) ?_
      rw [(show mu_r Q9 147 12 = (U.2.2.2.1 147 12) from (ud_q (U := V9) (m := m) (P := 147) (j := 12) d9 rfl).trans ((z9.r 147 12 rfl).trans (zza.r 147 12 rfl)))]
      refine mw_go mu_g314 (k := 3) (f1 := (85, [(4, .inl (nI w)), (0, .inr (.inr (some 147))), (1, .inl (nI st)), (2, .inr (.inr (some gp))), (3, .inr (.inr (some gq)))], [], (mu_si Q9 (mu_p (U.2.2.2.1 147 12)) (0 : Int32).toNatClampNeg (nI st)))) (C := [mu_is Q9 (U.2.2.2.1 147 12) 100, vp_in (0 : Int32) (mu_n Q9 (mu_p (U.2.2.2.1 147 12)))]) rfl (show (mu_is Q9 (U.2.2.2.1 147 12) 100) ∧ (vp_in (0 : Int32) (mu_n Q9 (mu_p (U.2.2.2.1 147 12)))) from ⟨(u9.iA d9 rfl rfl (show V9.2.2.2.1 147 12 = (U.2.2.2.1 147 12) from ((z9.r 147 12 rfl).trans (zza.r 147 12 rfl)))), (u9.vA (i := 0) d9 rfl rfl (show V9.2.2.2.1 147 12 = (U.2.2.2.1 147 12) from ((z9.r 147 12 rfl).trans (zza.r 147 12 rfl))) (show (V9.2.2.1 147 12).1 = (U.2.2.1 147 12).1 from ((z9.n 147 12 rfl).trans (zza.n 147 12 rfl))) (by omega) (by omega))⟩) ?_
      rw [(show (0 : Int32).toNatClampNeg = 0 from by decide)]
      obtain ⟨u10, r10, d10⟩ : um m (mu_si Q9 (mu_p (U.2.2.2.1 147 12)) 0 (nI st)) ∧ ur m C Q9 (mu_si Q9 (mu_p (U.2.2.2.1 147 12)) 0 (nI st)) ∧ ud m (mu_si Q9 (mu_p (U.2.2.2.1 147 12)) 0 (nI st)) = (upA V9 147 12 0 (nI st)) := u9.sA (C := C) d9 rfl rfl (show V9.2.2.2.1 147 12 = (U.2.2.2.1 147 12) from ((z9.r 147 12 rfl).trans (zza.r 147 12 rfl)))
      generalize (mu_si Q9 (mu_p (U.2.2.2.1 147 12)) 0 (nI st)) = Q10 at u10 r10 d10 ⊢
      have qf10 : uq F314 U (upA V9 147 12 0 (nI st)) := qf9.A rfl
      have ht10 : ur m C H Q10 := ht9.trans r10
      refine mw_go mu_g314 (k := 3) (f1 := (90, [(4, .inl (nI w)), (0, .inr (.inr (some 147))), (1, .inl (nI st)), (2, .inr (.inr (some gp))), (3, .inr (.inr (some gq)))], [], (mu_si Q10 147 17 (0 : Int32)))) (C := [mu_is Q10 (some 147) 2]) rfl (show mu_is Q10 (some 147) 2 from (u10.1.1.is rfl)) ?_
      obtain ⟨u11, r11, d11⟩ : um m (mu_si Q10 147 17 (0 : Int32)) ∧ ur m C Q10 (mu_si Q10 147 17 (0 : Int32)) ∧ ud m (mu_si Q10 147 17 (0 : Int32)) = (upI (upA V9 147 12 0 (nI st)) 147 17 (0 : Int32)) := u10.sI (C := C) d10 rfl
      generalize (mu_si Q10 147 17 (0 : Int32)) = Q11 at u11 r11 d11 ⊢
      have qf11 : uq F314 U (upI (upA V9 147 12 0 (nI st)) 147 17 (0 : Int32)) := qf10.I rfl
      have ht11 : ur m C H Q11 := ht10.trans r11
      refine mw_go mu_g314 (k := 3) (f1 := (95, [(4, .inl (nI w)), (0, .inr (.inr (some 147))), (1, .inl (nI st)), (2, .inr (.inr (some gp))), (3, .inr (.inr (some gq)))], [], (mu_si Q11 147 18 (1 : Int32)))) (C := [mu_is Q11 (some 147) 2]) rfl (show mu_is Q11 (some 147) 2 from (u11.1.1.is rfl)) ?_
      obtain ⟨u12, r12, d12⟩ : um m (mu_si Q11 147 18 (1 : Int32)) ∧ ur m C Q11 (mu_si Q11 147 18 (1 : Int32)) ∧ ud m (mu_si Q11 147 18 (1 : Int32)) = (upI (upI (upA V9 147 12 0 (nI st)) 147 17 (0 : Int32)) 147 18 (1 : Int32)) := u11.sI (C := C) d11 rfl
      generalize (mu_si Q11 147 18 (1 : Int32)) = Q12 at u12 r12 d12 ⊢
      have qf12 : uq F314 U (upI (upI (upA V9 147 12 0 (nI st)) 147 17 (0 : Int32)) 147 18 (1 : Int32)) := qf11.I rfl
      have ht12 : ur m C H Q12 := ht11.trans r12
      refine mw_go mu_g314 (k := 1) (f1 := (96, [(4, .inl (nI w)), (0, .inr (.inr (some 147))), (1, .inl (nI st)), (2, .inr (.inr (some gp))), (3, .inr (.inr (some gq)))], [.inr (.inr (some 147))], Q12)) (C := []) rfl trivial ?_
      have hix : ∀ r, r < R → ((upI (upI (upA V9 147 12 0 (nI st)) 147 17 (0 : Int32)) 147 18 (1 : Int32)).2.2.1 147 10).2 (r * 7 + 1) = nI 0 ∧ (0 : Nat) < 2147483648 := fun r hr => by
        refine ⟨?_, by decide⟩
        show (V9.2.2.1 147 10).2 (r * 7 + 1) = nI 0
        rw [hcl, if_pos ⟨by omega, by omega⟩]
        rfl
      refine mw_cV (fun _ => rfl) (show mu_is Q12 (some 147) 2 from (u12.1.1.is rfl)) (gr_open1 (d := d) (C := C) (wn := wn) (c := 0) (hd := 0) (tl := 1) (T := T) (R := R) (rx := rx) (qu := fun _ => st) (ix := fun _ => 0) u12 d12 ((show ((upI (upI (upA V9 147 12 0 (nI st)) 147 17 (0 : Int32)) 147 18 (1 : Int32)).2.1 99 12) = (U.2.1 99 12) from ((z9.i 99 12 rfl).trans (zza.i 99 12 rfl))).trans hg12) hwnb (z9.i 147 16 rfl) (Nat.zero_le _) (fun i hi => absurd hi (Nat.not_lt_zero i)) rfl rfl (Nat.zero_le _) (by rw [(show ((upI (upI (upA V9 147 12 0 (nI st)) 147 17 (0 : Int32)) 147 18 (1 : Int32)).2.2.1 147 12).1 = (U.2.2.1 147 12).1 from ((z9.n 147 12 rfl).trans (zza.n 147 12 rfl)))]; omega) (by rw [(show ((upI (upI (upA V9 147 12 0 (nI st)) 147 17 (0 : Int32)) 147 18 (1 : Int32)).2.2.1 147 12).1 = (U.2.2.1 147 12).1 from ((z9.n 147 12 rfl).trans (zza.n 147 12 rfl)))]; exact g12b) (fun i hi => ⟨(by rw [show i = 0 by omega]; exact rfl), hst⟩) hTb (by rw [(show ((upI (upI (upA V9 147 12 0 (nI st)) 147 17 (0 : Int32)) 147 18 (1 : Int32)).2.2.1 129 6).1 = (U.2.2.1 129 6).1 from ((z9.n 129 6 rfl).trans (zza.n 129 6 rfl)))]; exact g6a) (by rw [(show ((upI (upI (upA V9 147 12 0 (nI st)) 147 17 (0 : Int32)) 147 18 (1 : Int32)).2.2.1 129 6).1 = (U.2.2.1 129 6).1 from ((z9.n 129 6 rfl).trans (zza.n 129 6 rfl)))]; exact g6b) (by rw [(show ((upI (upI (upA V9 147 12 0 (nI st)) 147 17 (0 : Int32)) 147 18 (1 : Int32)).2.2.1 129 6) = (U.2.2.1 129 6) from ((z9.a 129 6 rfl).trans (zza.a 129 6 rfl)))]; exact hrx) (by rw [(show ((upI (upI (upA V9 147 12 0 (nI st)) 147 17 (0 : Int32)) 147 18 (1 : Int32)).2.2.1 147 10).1 = (U.2.2.1 147 10).1 from ((z9.n 147 10 rfl).trans (zza.n 147 10 rfl)))]; omega) (by rw [(show ((upI (upI (upA V9 147 12 0 (nI st)) 147 17 (0 : Int32)) 147 18 (1 : Int32)).2.2.1 147 10).1 = (U.2.2.1 147 10).1 from ((z9.n 147 10 rfl).trans (zza.n 147 10 rfl)))]; exact g10b) hix (z9.r 147 8 rfl) (by omega)) (fun Q13 q13 => ?_)
      obtain ⟨u13, r13, z13, hres⟩ := q13
      have ht13 : ur m C H Q13 := ht12.trans r13
      obtain ⟨V13, d13⟩ : ∃ V, ud m Q13 = V := ⟨_, rfl⟩
      rw [d13] at z13 hres
      have qf13 : uq F314 U V13 := qf12.tr z13 rfl
      obtain ⟨hj14, hh, hhb, hj17, hc, hOP, hwhy⟩ := hres
      have hnk : NK U V13 := fun j hj => by
        have e1 : (V9.2.2.1 147 10).2 j = (U.2.2.1 147 10).2 j := by
          rw [hcl j, if_neg (fun y => by omega)]
          exact congrArg (fun y => y.2 j) (zza.a 147 10 rfl)
        refine Eq.trans ?_ e1
        rcases hOP with ⟨-, -, y⟩ | ⟨k, -, -, -, -, -, y⟩
        · exact congrArg (fun w => w.2 j) y
        · rw [y]
          show (if j = rx st * 7 + 1 then (1 : Int32) else (V9.2.2.1 147 10).2 j) = _
          rw [if_neg (fun w => by omega)]
      refine mw_of (fun _ => mu_ret rfl trivial ⟨Q13, rfl, u13, ht13, (by rw [d13]; exact qf13), (by rw [d13]; exact hnk), ?_⟩)
      rw [d13]
      have el : lgf V13 ga gi = lgf U ga gi := lsf_q hgl qf13 rfl rfl rfl
      refine ⟨hh, LPQ.begin (X := (upI (upI (upA V9 147 12 0 (nI st)) 147 17 (0 : Int32)) 147 18 (1 : Int32))) hst (z13.i 147 18 rfl) hhb.2 hj17 hj14 ?_ (fun s hs => ?_) ?_ (fun r hr => (hix r hr).1) hOP ?_ ((z13.r 147 8 rfl).trans (z9.r 147 8 rfl)) (hgl.q qf13 (fun _ => rfl) (fun _ => rfl) rfl) (fun t ht => ?_) (fun t y => ?_)⟩
      · exact (congrArg (fun z => z.2 0) (z13.a 147 12 rfl)).trans rfl
      · rw [(show V13.2.2.2.2.1 150 = (upI (upI (upA V9 147 12 0 (nI st)) 147 17 (0 : Int32)) 147 18 (1 : Int32)).2.2.2.2.1 150 from z13.l 150 rfl), (show (upI (upI (upA V9 147 12 0 (nI st)) 147 17 (0 : Int32)) 147 18 (1 : Int32)).2.2.2.2.1 150 = Va.2.2.2.2.1 150 from (z9.l 150 rfl))]; exact hu64 s hs
      · obtain ⟨c, c1, c2, c3⟩ := hc; exact ⟨c, c1, c2, by rw [(show V13.2.2.2.2.1 150 = (upI (upI (upA V9 147 12 0 (nI st)) 147 17 (0 : Int32)) 147 18 (1 : Int32)).2.2.2.2.1 150 from z13.l 150 rfl)]; exact c3⟩
      · rw [(show V13.2.2.2.2.1 150 = (upI (upI (upA V9 147 12 0 (nI st)) 147 17 (0 : Int32)) 147 18 (1 : Int32)).2.2.2.2.1 150 from z13.l 150 rfl)]; exact hwhy
      · rw [el]; exact ⟨fun y => ⟨ht, y⟩, fun y => y.2⟩
      · rcases y with y | y <;> exact y.1
    · -- (0 : Int32)
      have khb : bts (lgf U ga gi) st = false := by rw [← lsf_q hgl qfa rfl rfl rfl]; exact hb5
      refine mw_if (P := (0 : Int32) = 0) (a := 45) (b := 64) (fun _ => rfl) trivial (fun h14 => ?_) (fun h14 => absurd (by decide) h14)
      refine mw_go mu_g314 (k := 2) (f1 := (49, [(4, .inl (nI w)), (0, .inr (.inr (some 147))), (1, .inl (nI st)), (2, .inr (.inr (some gp))), (3, .inr (.inr (some gq)))], [.inr (.inr (mu_r Hsa 147 4))], Hsa)) (C := [mu_is Hsa (some 147) 2]) rfl (show mu_is Hsa (some 147) 2 from (ua.1.1.is rfl)) ?_
      rw [(ua.1.1.r (p := 147) (j := 4) (q := 150) rfl)]
      refine mw_go mu_g314 (k := 3) (f1 := (53, [(4, .inl (nI w)), (0, .inr (.inr (some 147))), (1, .inl (nI st)), (2, .inr (.inr (some gp))), (3, .inr (.inr (some gq)))], [.inl ((nI st) >>> ((6 : Int32) &&& 31)), .inr (.inr (some 150))], Hsa)) (C := []) rfl trivial ?_
      rw [(show ((nI st) >>> ((6 : Int32) &&& 31)) = (nI (st / 64)) from (nI_shr6 (a := st) (by omega)))]
      refine mw_go mu_g314 (k := 2) (f1 := (55, [(4, .inl (nI w)), (0, .inr (.inr (some 147))), (1, .inl (nI st)), (2, .inr (.inr (some gp))), (3, .inr (.inr (some gq)))], [.inr (.inl (mu_l Hsa 150 (nI (st / 64)).toNatClampNeg)), .inl (nI (st / 64)), .inr (.inr (some 150))], Hsa)) (C := [mu_isr Hsa (some 150) 102, vp_in (nI (st / 64)) (mu_n Hsa 150)]) rfl (show (mu_isr Hsa (some 150) 102) ∧ (vp_in (nI (st / 64)) (mu_n Hsa 150)) from ⟨((ua.1.1.a (p := 150) (x := (102, 256)) rfl).1).r, (by rw [show mu_n Hsa 150 = 256 from (ua.1.1.a (p := 150) (x := (102, 256)) rfl).2]; exact vp_in_nI (n := st / 64) (by omega) (by decide))⟩) ?_
      rw [(show (mu_l Hsa 150 (nI (st / 64)).toNatClampNeg) = (Va.2.2.2.2.1 150) (st / 64) from (congrArg (mu_l Hsa 150) (show (nI (st / 64)).toNatClampNeg = st / 64 from nI_clamp (by omega))).trans ((ud_l (m := m) (p := 150) (i := (st / 64)) da rfl).trans (congrFun (show Va.2.2.2.2.1 150 = (Va.2.2.2.2.1 150) from rfl) (st / 64))))]
      refine mw_go mu_g314 (k := 7) (f1 := (64, [(4, .inl (nI w)), (0, .inr (.inr (some 147))), (1, .inl (nI st)), (2, .inr (.inr (some gp))), (3, .inr (.inr (some gq)))], [], (mu_sl Hsa 150 (nI (st / 64)).toNatClampNeg (((Va.2.2.2.2.1 150) (st / 64)) &&& (((1 : Int64) <<< ((nI st).toInt64 &&& 63)) ^^^ (-1 : Int64)))))) (C := [mu_is Hsa (some 150) 102, vp_in (nI (st / 64)) (mu_n Hsa 150)]) rfl (show (mu_is Hsa (some 150) 102) ∧ (vp_in (nI (st / 64)) (mu_n Hsa 150)) from ⟨((ua.1.1.a (p := 150) (x := (102, 256)) rfl).1), (by rw [show mu_n Hsa 150 = 256 from (ua.1.1.a (p := 150) (x := (102, 256)) rfl).2]; exact vp_in_nI (n := st / 64) (by omega) (by decide))⟩) ?_
      rw [(show (nI (st / 64)).toNatClampNeg = st / 64 from nI_clamp (by omega))]
      obtain ⟨u15, r15, d15⟩ : um m (mu_sl Hsa 150 (st / 64) (((Va.2.2.2.2.1 150) (st / 64)) &&& (((1 : Int64) <<< ((nI st).toInt64 &&& 63)) ^^^ (-1 : Int64)))) ∧ ur m C Hsa (mu_sl Hsa 150 (st / 64) (((Va.2.2.2.2.1 150) (st / 64)) &&& (((1 : Int64) <<< ((nI st).toInt64 &&& 63)) ^^^ (-1 : Int64)))) ∧ ud m (mu_sl Hsa 150 (st / 64) (((Va.2.2.2.2.1 150) (st / 64)) &&& (((1 : Int64) <<< ((nI st).toInt64 &&& 63)) ^^^ (-1 : Int64)))) = (upL Va 150 (st / 64) (((Va.2.2.2.2.1 150) (st / 64)) &&& (((1 : Int64) <<< ((nI st).toInt64 &&& 63)) ^^^ (-1 : Int64)))) := ua.sL (C := C) da rfl
      generalize (mu_sl Hsa 150 (st / 64) (((Va.2.2.2.2.1 150) (st / 64)) &&& (((1 : Int64) <<< ((nI st).toInt64 &&& 63)) ^^^ (-1 : Int64)))) = Q15 at u15 r15 d15 ⊢
      have qf15 : uq F314 U (upL Va 150 (st / 64) (((Va.2.2.2.2.1 150) (st / 64)) &&& (((1 : Int64) <<< ((nI st).toInt64 &&& 63)) ^^^ (-1 : Int64)))) := qfa.L rfl
      have ht15 : ur m C H Q15 := hta.trans r15
      have hu64 : ∀ s, s < 64 * wn → (bts ((upL Va 150 (st / 64) (((Va.2.2.2.2.1 150) (st / 64)) &&& (((1 : Int64) <<< ((nI st).toInt64 &&& 63)) ^^^ (-1 : Int64)))).2.2.2.2.1 150) s = true ↔ ((s < T ∧ bts (lgf U gb gj) s = true) ∨ (s < T ∧ bts (lgf U ga gi) s = true)) ∧ ¬ (s = st ∧ ¬ (st < T ∧ bts (lgf U ga gi) st = true))) := fun s hs => by
        have y0 : bts ((upL Va 150 (st / 64) (((Va.2.2.2.2.1 150) (st / 64)) &&& (((1 : Int64) <<< ((nI st).toInt64 &&& 63)) ^^^ (-1 : Int64)))).2.2.2.2.1 150) s = true ↔ bts (Va.2.2.2.2.1 150) s = true ∧ ¬ s = st := by
          have z := bts_setoff (La := Va.2.2.2.2.1 150) (x := st) (t := s) (by omega)
          rw [← z]
          have z2 : ((upL Va 150 (st / 64) (((Va.2.2.2.2.1 150) (st / 64)) &&& (((1 : Int64) <<< ((nI st).toInt64 &&& 63)) ^^^ (-1 : Int64)))).2.2.2.2.1 150) = (fun k => if k = st / 64 then Va.2.2.2.2.1 150 (st / 64) &&& (((1 : Int64) <<< ((nI st).toInt64 &&& 63)) ^^^ (-1 : Int64)) else Va.2.2.2.2.1 150 k) := funext fun k => by
            show (if (150 = 150 ∧ k = st / 64) then _ else Va.2.2.2.2.1 150 k) = _
            by_cases y : k = st / 64
            · rw [if_pos ⟨rfl, y⟩, if_pos y]
            · rw [if_neg (fun z => y z.2), if_neg y]
          rw [z2]
        rw [y0, hua s hs, Bool.or_eq_true]
        refine ⟨fun y => ⟨y.1.imp (fun z => ⟨hT1 s hs (Or.inl z), z⟩) (fun z => ⟨hT1 s hs (Or.inr z), z⟩), fun z => y.2 z.1⟩, fun y => ⟨y.1.imp (fun z => z.2) (fun z => z.2), fun z => y.2 ⟨z, fun z2 => ?_⟩⟩⟩
        rw [khb] at z2; cases z2.2
      refine mw_go mu_g314 (k := 2) (f1 := (66, [(4, .inl (nI w)), (0, .inr (.inr (some 147))), (1, .inl (nI st)), (2, .inr (.inr (some gp))), (3, .inr (.inr (some gq)))], [.inr (.inr (some gq)), .inr (.inr (some 147))], Q15)) (C := []) rfl trivial ?_
      refine mw_go mu_g314 (k := 1) (f1 := (69, [(4, .inl (nI w)), (0, .inr (.inr (some 147))), (1, .inl (nI st)), (2, .inr (.inr (some gp))), (3, .inr (.inr (some gq)))], [], (mu_sr Q15 147 8 (some gq)))) (C := [mu_is Q15 (some 147) 2]) rfl (show mu_is Q15 (some 147) 2 from (u15.1.1.is rfl)) ?_
      obtain ⟨u16, r16, d16⟩ : um m (mu_sr Q15 147 8 (some gq)) ∧ ur m C Q15 (mu_sr Q15 147 8 (some gq)) ∧ ud m (mu_sr Q15 147 8 (some gq)) = (upR (upL Va 150 (st / 64) (((Va.2.2.2.2.1 150) (st / 64)) &&& (((1 : Int64) <<< ((nI st).toInt64 &&& 63)) ^^^ (-1 : Int64)))) 147 8 (some gq)) := (by have z := u15.putR (C := C) (P := 147) (k := 8) (v := (some gq)) rfl rfl rfl (by decide) (fun q hq => by cases hq; exact LSN.cd d15 (hgl.q qf15 (fun _ => rfl) (fun _ => rfl) rfl)); rw [d15] at z; exact z)
      generalize (mu_sr Q15 147 8 (some gq)) = Q16 at u16 r16 d16 ⊢
      have qf16 : uq F314 U (upR (upL Va 150 (st / 64) (((Va.2.2.2.2.1 150) (st / 64)) &&& (((1 : Int64) <<< ((nI st).toInt64 &&& 63)) ^^^ (-1 : Int64)))) 147 8 (some gq)) := qf15.R rfl
      have ht16 : ur m C H Q16 := ht15.trans r16
      refine mw_go mu_g314 (k := 3) (f1 := (74, [(4, .inl (nI w)), (0, .inr (.inr (some 147))), (1, .inl (nI st)), (2, .inr (.inr (some gp))), (3, .inr (.inr (some gq)))], [], (mu_si Q16 147 16 (0 : Int32)))) (C := [mu_is Q16 (some 147) 2]) rfl (show mu_is Q16 (some 147) 2 from (u16.1.1.is rfl)) ?_
      obtain ⟨u17, r17, d17⟩ : um m (mu_si Q16 147 16 (0 : Int32)) ∧ ur m C Q16 (mu_si Q16 147 16 (0 : Int32)) ∧ ud m (mu_si Q16 147 16 (0 : Int32)) = (upI (upR (upL Va 150 (st / 64) (((Va.2.2.2.2.1 150) (st / 64)) &&& (((1 : Int64) <<< ((nI st).toInt64 &&& 63)) ^^^ (-1 : Int64)))) 147 8 (some gq)) 147 16 (0 : Int32)) := u16.sI (C := C) d16 rfl
      generalize (mu_si Q16 147 16 (0 : Int32)) = Q17 at u17 r17 d17 ⊢
      have qf17 : uq F314 U (upI (upR (upL Va 150 (st / 64) (((Va.2.2.2.2.1 150) (st / 64)) &&& (((1 : Int64) <<< ((nI st).toInt64 &&& 63)) ^^^ (-1 : Int64)))) 147 8 (some gq)) 147 16 (0 : Int32)) := qf16.I rfl
      have ht17 : ur m C H Q17 := ht16.trans r17
      refine mw_go mu_g314 (k := 1) (f1 := (75, [(4, .inl (nI w)), (0, .inr (.inr (some 147))), (1, .inl (nI st)), (2, .inr (.inr (some gp))), (3, .inr (.inr (some gq)))], [.inr (.inr (some 147))], Q17)) (C := []) rfl trivial ?_
      refine mw_cV (fun _ => rfl) (show mu_is Q17 (some 147) 2 from (u17.1.1.is rfl)) (gr_clear (d := d) (C := C) (N := N) (fb := fb) (R := R) u17 d17 ((show ((upI (upR (upL Va 150 (st / 64) (((Va.2.2.2.2.1 150) (st / 64)) &&& (((1 : Int64) <<< ((nI st).toInt64 &&& 63)) ^^^ (-1 : Int64)))) 147 8 (some gq)) 147 16 (0 : Int32)).2.1 113 2) = (U.2.1 113 2) from (zza.i 113 2 rfl)).trans hN) ((show ((upI (upR (upL Va 150 (st / 64) (((Va.2.2.2.2.1 150) (st / 64)) &&& (((1 : Int64) <<< ((nI st).toInt64 &&& 63)) ^^^ (-1 : Int64)))) 147 8 (some gq)) 147 16 (0 : Int32)).2.1 113 8) = (U.2.1 113 8) from (zza.i 113 8 rfl)).trans hfb) hfN hR (by rw [(show ((upI (upR (upL Va 150 (st / 64) (((Va.2.2.2.2.1 150) (st / 64)) &&& (((1 : Int64) <<< ((nI st).toInt64 &&& 63)) ^^^ (-1 : Int64)))) 147 8 (some gq)) 147 16 (0 : Int32)).2.2.1 147 10).1 = (U.2.2.1 147 10).1 from (zza.n 147 10 rfl))]; omega) (by rw [(show ((upI (upR (upL Va 150 (st / 64) (((Va.2.2.2.2.1 150) (st / 64)) &&& (((1 : Int64) <<< ((nI st).toInt64 &&& 63)) ^^^ (-1 : Int64)))) 147 8 (some gq)) 147 16 (0 : Int32)).2.2.1 147 10).1 = (U.2.2.1 147 10).1 from (zza.n 147 10 rfl))]; exact g10b)) (fun Q18 q18 => ?_)
      obtain ⟨u18, r18, z18, hcl⟩ := q18
      have ht18 : ur m C H Q18 := ht17.trans r18
      obtain ⟨V18, d18⟩ : ∃ V, ud m Q18 = V := ⟨_, rfl⟩
      rw [d18] at z18 hcl
      have qf18 : uq F314 U V18 := qf17.tr z18 rfl
      refine mw_go mu_g314 (k := 2) (f1 := (82, [(4, .inl (nI w)), (0, .inr (.inr (some 147))), (1, .inl (nI st)), (2, .inr (.inr (some gp))), (3, .inr (.inr (some gq)))], [.inr (.inr (mu_r Q18 147 12))], Q18)) (C := [mu_is Q18 (some 147) 2]) rfl (show mu_is Q18 (some 147) 2 from (u18.1.1.is rfl)) ?_
      rw [(show mu_r Q18 147 12 = (U.2.2.2.1 147 12) from (ud_q (U := V18) (m := m) (P := 147) (j := 12) d18 rfl).trans ((z18.r 147 12 rfl).trans (zza.r 147 12 rfl)))]
      refine mw_go mu_g314 (k := 3) (f1 := (85, [(4, .inl (nI w)), (0, .inr (.inr (some 147))), (1, .inl (nI st)), (2, .inr (.inr (some gp))), (3, .inr (.inr (some gq)))], [], (mu_si Q18 (mu_p (U.2.2.2.1 147 12)) (0 : Int32).toNatClampNeg (nI st)))) (C := [mu_is Q18 (U.2.2.2.1 147 12) 100, vp_in (0 : Int32) (mu_n Q18 (mu_p (U.2.2.2.1 147 12)))]) rfl (show (mu_is Q18 (U.2.2.2.1 147 12) 100) ∧ (vp_in (0 : Int32) (mu_n Q18 (mu_p (U.2.2.2.1 147 12)))) from ⟨(u18.iA d18 rfl rfl (show V18.2.2.2.1 147 12 = (U.2.2.2.1 147 12) from ((z18.r 147 12 rfl).trans (zza.r 147 12 rfl)))), (u18.vA (i := 0) d18 rfl rfl (show V18.2.2.2.1 147 12 = (U.2.2.2.1 147 12) from ((z18.r 147 12 rfl).trans (zza.r 147 12 rfl))) (show (V18.2.2.1 147 12).1 = (U.2.2.1 147 12).1 from ((z18.n 147 12 rfl).trans (zza.n 147 12 rfl))) (by omega) (by omega))⟩) ?_
      rw [(show (0 : Int32).toNatClampNeg = 0 from by decide)]
      obtain ⟨u19, r19, d19⟩ : um m (mu_si Q18 (mu_p (U.2.2.2.1 147 12)) 0 (nI st)) ∧ ur m C Q18 (mu_si Q18 (mu_p (U.2.2.2.1 147 12)) 0 (nI st)) ∧ ud m (mu_si Q18 (mu_p (U.2.2.2.1 147 12)) 0 (nI st)) = (upA V18 147 12 0 (nI st)) := u18.sA (C := C) d18 rfl rfl (show V18.2.2.2.1 147 12 = (U.2.2.2.1 147 12) from ((z18.r 147 12 rfl).trans (zza.r 147 12 rfl)))
      generalize (mu_si Q18 (mu_p (U.2.2.2.1 147 12)) 0 (nI st)) = Q19 at u19 r19 d19 ⊢
      have qf19 : uq F314 U (upA V18 147 12 0 (nI st)) := qf18.A rfl
      have ht19 : ur m C H Q19 := ht18.trans r19
      refine mw_go mu_g314 (k := 3) (f1 := (90, [(4, .inl (nI w)), (0, .inr (.inr (some 147))), (1, .inl (nI st)), (2, .inr (.inr (some gp))), (3, .inr (.inr (some gq)))], [], (mu_si Q19 147 17 (0 : Int32)))) (C := [mu_is Q19 (some 147) 2]) rfl (show mu_is Q19 (some 147) 2 from (u19.1.1.is rfl)) ?_
      obtain ⟨u20, r20, d20⟩ : um m (mu_si Q19 147 17 (0 : Int32)) ∧ ur m C Q19 (mu_si Q19 147 17 (0 : Int32)) ∧ ud m (mu_si Q19 147 17 (0 : Int32)) = (upI (upA V18 147 12 0 (nI st)) 147 17 (0 : Int32)) := u19.sI (C := C) d19 rfl
      generalize (mu_si Q19 147 17 (0 : Int32)) = Q20 at u20 r20 d20 ⊢
      have qf20 : uq F314 U (upI (upA V18 147 12 0 (nI st)) 147 17 (0 : Int32)) := qf19.I rfl
      have ht20 : ur m C H Q20 := ht19.trans r20
      refine mw_go mu_g314 (k := 3) (f1 := (95, [(4, .inl (nI w)), (0, .inr (.inr (some 147))), (1, .inl (nI st)), (2, .inr (.inr (some gp))), (3, .inr (.inr (some gq)))], [], (mu_si Q20 147 18 (1 : Int32)))) (C := [mu_is Q20 (some 147) 2]) rfl (show mu_is Q20 (some 147) 2 from (u20.1.1.is rfl)) ?_
      obtain ⟨u21, r21, d21⟩ : um m (mu_si Q20 147 18 (1 : Int32)) ∧ ur m C Q20 (mu_si Q20 147 18 (1 : Int32)) ∧ ud m (mu_si Q20 147 18 (1 : Int32)) = (upI (upI (upA V18 147 12 0 (nI st)) 147 17 (0 : Int32)) 147 18 (1 : Int32)) := u20.sI (C := C) d20 rfl
      generalize (mu_si Q20 147 18 (1 : Int32)) = Q21 at u21 r21 d21 ⊢
      have qf21 : uq F314 U (upI (upI (upA V18 147 12 0 (nI st)) 147 17 (0 : Int32)) 147 18 (1 : Int32)) := qf20.I rfl
      have ht21 : ur m C H Q21 := ht20.trans r21
      refine mw_go mu_g314 (k := 1) (f1 := (96, [(4, .inl (nI w)), (0, .inr (.inr (some 147))), (1, .inl (nI st)), (2, .inr (.inr (some gp))), (3, .inr (.inr (some gq)))], [.inr (.inr (some 147))], Q21)) (C := []) rfl trivial ?_
      have hix : ∀ r, r < R → ((upI (upI (upA V18 147 12 0 (nI st)) 147 17 (0 : Int32)) 147 18 (1 : Int32)).2.2.1 147 10).2 (r * 7 + 1) = nI 0 ∧ (0 : Nat) < 2147483648 := fun r hr => by
        refine ⟨?_, by decide⟩
        show (V18.2.2.1 147 10).2 (r * 7 + 1) = nI 0
        rw [hcl, if_pos ⟨by omega, by omega⟩]
        rfl
      refine mw_cV (fun _ => rfl) (show mu_is Q21 (some 147) 2 from (u21.1.1.is rfl)) (gr_open1 (d := d) (C := C) (wn := wn) (c := 0) (hd := 0) (tl := 1) (T := T) (R := R) (rx := rx) (qu := fun _ => st) (ix := fun _ => 0) u21 d21 ((show ((upI (upI (upA V18 147 12 0 (nI st)) 147 17 (0 : Int32)) 147 18 (1 : Int32)).2.1 99 12) = (U.2.1 99 12) from ((z18.i 99 12 rfl).trans (zza.i 99 12 rfl))).trans hg12) hwnb (z18.i 147 16 rfl) (Nat.zero_le _) (fun i hi => absurd hi (Nat.not_lt_zero i)) rfl rfl (Nat.zero_le _) (by rw [(show ((upI (upI (upA V18 147 12 0 (nI st)) 147 17 (0 : Int32)) 147 18 (1 : Int32)).2.2.1 147 12).1 = (U.2.2.1 147 12).1 from ((z18.n 147 12 rfl).trans (zza.n 147 12 rfl)))]; omega) (by rw [(show ((upI (upI (upA V18 147 12 0 (nI st)) 147 17 (0 : Int32)) 147 18 (1 : Int32)).2.2.1 147 12).1 = (U.2.2.1 147 12).1 from ((z18.n 147 12 rfl).trans (zza.n 147 12 rfl)))]; exact g12b) (fun i hi => ⟨(by rw [show i = 0 by omega]; exact rfl), hst⟩) hTb (by rw [(show ((upI (upI (upA V18 147 12 0 (nI st)) 147 17 (0 : Int32)) 147 18 (1 : Int32)).2.2.1 129 6).1 = (U.2.2.1 129 6).1 from ((z18.n 129 6 rfl).trans (zza.n 129 6 rfl)))]; exact g6a) (by rw [(show ((upI (upI (upA V18 147 12 0 (nI st)) 147 17 (0 : Int32)) 147 18 (1 : Int32)).2.2.1 129 6).1 = (U.2.2.1 129 6).1 from ((z18.n 129 6 rfl).trans (zza.n 129 6 rfl)))]; exact g6b) (by rw [(show ((upI (upI (upA V18 147 12 0 (nI st)) 147 17 (0 : Int32)) 147 18 (1 : Int32)).2.2.1 129 6) = (U.2.2.1 129 6) from ((z18.a 129 6 rfl).trans (zza.a 129 6 rfl)))]; exact hrx) (by rw [(show ((upI (upI (upA V18 147 12 0 (nI st)) 147 17 (0 : Int32)) 147 18 (1 : Int32)).2.2.1 147 10).1 = (U.2.2.1 147 10).1 from ((z18.n 147 10 rfl).trans (zza.n 147 10 rfl)))]; omega) (by rw [(show ((upI (upI (upA V18 147 12 0 (nI st)) 147 17 (0 : Int32)) 147 18 (1 : Int32)).2.2.1 147 10).1 = (U.2.2.1 147 10).1 from ((z18.n 147 10 rfl).trans (zza.n 147 10 rfl)))]; exact g10b) hix (z18.r 147 8 rfl) (by omega)) (fun Q22 q22 => ?_)
      obtain ⟨u22, r22, z22, hres⟩ := q22
      have ht22 : ur m C H Q22 := ht21.trans r22
      obtain ⟨V22, d22⟩ : ∃ V, ud m Q22 = V := ⟨_, rfl⟩
      rw [d22] at z22 hres
      have qf22 : uq F314 U V22 := qf21.tr z22 rfl
      obtain ⟨hj14, hh, hhb, hj17, hc, hOP, hwhy⟩ := hres
      have hnk : NK U V22 := fun j hj => by
        have e1 : (V18.2.2.1 147 10).2 j = (U.2.2.1 147 10).2 j := by
          rw [hcl j, if_neg (fun y => by omega)]
          exact congrArg (fun y => y.2 j) (zza.a 147 10 rfl)
        refine Eq.trans ?_ e1
        rcases hOP with ⟨-, -, y⟩ | ⟨k, -, -, -, -, -, y⟩
        · exact congrArg (fun w => w.2 j) y
        · rw [y]
          show (if j = rx st * 7 + 1 then (1 : Int32) else (V18.2.2.1 147 10).2 j) = _
          rw [if_neg (fun w => by omega)]
      refine mw_of (fun _ => mu_ret rfl trivial ⟨Q22, rfl, u22, ht22, (by rw [d22]; exact qf22), (by rw [d22]; exact hnk), ?_⟩)
      rw [d22]
      have el : lgf V22 ga gi = lgf U ga gi := lsf_q hgl qf22 rfl rfl rfl
      refine ⟨hh, LPQ.begin (X := (upI (upI (upA V18 147 12 0 (nI st)) 147 17 (0 : Int32)) 147 18 (1 : Int32))) hst (z22.i 147 18 rfl) hhb.2 hj17 hj14 ?_ (fun s hs => ?_) ?_ (fun r hr => (hix r hr).1) hOP ?_ ((z22.r 147 8 rfl).trans (z18.r 147 8 rfl)) (hgl.q qf22 (fun _ => rfl) (fun _ => rfl) rfl) (fun t ht => ?_) (fun t y => ?_)⟩
      · exact (congrArg (fun z => z.2 0) (z22.a 147 12 rfl)).trans rfl
      · rw [(show V22.2.2.2.2.1 150 = (upI (upI (upA V18 147 12 0 (nI st)) 147 17 (0 : Int32)) 147 18 (1 : Int32)).2.2.2.2.1 150 from z22.l 150 rfl), (show (upI (upI (upA V18 147 12 0 (nI st)) 147 17 (0 : Int32)) 147 18 (1 : Int32)).2.2.2.2.1 150 = (upL Va 150 (st / 64) (((Va.2.2.2.2.1 150) (st / 64)) &&& (((1 : Int64) <<< ((nI st).toInt64 &&& 63)) ^^^ (-1 : Int64)))).2.2.2.2.1 150 from (z18.l 150 rfl))]; exact hu64 s hs
      · obtain ⟨c, c1, c2, c3⟩ := hc; exact ⟨c, c1, c2, by rw [(show V22.2.2.2.2.1 150 = (upI (upI (upA V18 147 12 0 (nI st)) 147 17 (0 : Int32)) 147 18 (1 : Int32)).2.2.2.2.1 150 from z22.l 150 rfl)]; exact c3⟩
      · rw [(show V22.2.2.2.2.1 150 = (upI (upI (upA V18 147 12 0 (nI st)) 147 17 (0 : Int32)) 147 18 (1 : Int32)).2.2.2.2.1 150 from z22.l 150 rfl)]; exact hwhy
      · rw [el]; exact ⟨fun y => ⟨ht, y⟩, fun y => y.2⟩
      · rcases y with y | y <;> exact y.1
end Lead
