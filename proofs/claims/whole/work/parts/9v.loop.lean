/-! THE MODEL GROWS: the loop -/
section Grow4
variable {Y s s' s1 : Ts} {T r0 i u k c a0 : Nat} {x y z : Int32} {H : mu_H} {m d j : Nat} {C : Nat → Nat} {X : Ts}
theorem fz.refl (s : Ts) : fz s s := ⟨fun _ _ _ => rfl, rfl, fun _ _ _ => rfl⟩
theorem GI.kid (h : GI Y s T) (hF : FY Y) (hT : T ≤ 5000) (hr0 : r0 + 1 = (s 18).1) (hi : i = oi s r0) (hu : u = ou s r0) (hk : k = im s i) (hlt : u < sp Y (k + 1) 2) (ht : (Y 3).2 u 1 = 3) (hcM : c < (Y 1).1) (h4 : (Y 3).2 u 4 = nI c) (h3 : (Y 3).2 u 3 = nI (np Y c)) : np Y c + ndU Y c ≤ T ∧ nv Y c ≤ T := by
  obtain ⟨z11, z12, z13, z15, z16, z17, z18, zq⟩ := h.sz
  have b1 := hF.2.2.2.2 1 (by decide)
  obtain ⟨⟨ee, ee1, ee2, ee3⟩, -, -⟩ := (hF.2.2.1 c hcM).resolve_left (hF.2.2.2.1 c hcM)
  obtain ⟨lp1, lp2, lp3⟩ := hF.le hcM (c := 1) (j := 2) (by decide) (by decide) rfl
  have hnp : np Y c ≤ 67108864 := by unfold np; omega
  have ewv : wv Y u = 1 + (np Y c + ee) := wv_mod ht h3 h4 ee1 (by omega) (by omega) (by omega)
  have q2 : sm (rq Y s) 0 (r0 + 1) = sm (rq Y s) 0 r0 + rq Y s r0 := sm_last (fun r hr => rfl)
  have q3 : 1 + (np Y c + ee) ≤ rq Y s r0 := by
    unfold rq
    rw [← hi, ← hk, ← hu, show sp Y (k + 1) 2 - u = (sp Y (k + 1) 2 - (u + 1)) + 1 by omega, sm_head, ewv]
    omega
  rw [← hr0, q2] at zq
  have q5 : tot Y c ≤ ee := by omega
  have q6 : ndU Y c + ws Y (sp Y c 2) (sp Y (c + 1) 2 - sp Y c 2) ≤ tot Y c := by unfold tot ndU; omega
  have q7 : nv Y c ≤ ws Y (sp Y c 2) (sp Y (c + 1) 2 - sp Y c 2) := sm_one (fun v => wv_pos) _
  exact ⟨by omega, by omega⟩
theorem GI.nck (h : GI Y s T) (hr0 : r0 + 1 = (s 18).1) (hk : k = im s (oi s r0)) : (s 16).1 + (s 17).1 + nc Y k ≤ T := by
  have g7 := h.2.2.2.2.2.2.1
  have q2 : sm (rq Y s) 0 (r0 + 1) = sm (rq Y s) 0 r0 + rq Y s r0 := sm_last (fun r hr => rfl)
  have q3 : nc Y k ≤ rq Y s r0 := by unfold rq; rw [← hk]; exact Nat.le_add_right _ _
  rw [← hr0, q2] at g7
  omega
theorem FY.inst (hF : FY Y) (hkM : k < (Y 1).1) (h1 : sp Y k 2 ≤ u) (h2 : u < sp Y (k + 1) 2) : ∃ c a0, (Y 3).2 u 1 = 3 → c < (Y 1).1 ∧ (Y 3).2 u 4 = nI c ∧ (Y 3).2 u 3 = nI (np Y c) ∧ (Y 3).2 u 2 = nI a0 ∧ a0 + np Y c ≤ (Y 5).1 ∧ ∀ p, p < np Y c → rgr Y k false (Y 5) (a0 + p) 0 1 := by
  by_cases ty : (Y 3).2 u 1 = 3
  · obtain ⟨c, c1, c2, c3⟩ := hF.2.1 k hkM u h1 h2 ty
    obtain ⟨yy, y1, y2, -, y4⟩ := hF.1.2.2.2.1 k hkM u h1 h2
    have hy : yy = 3 := by
      rw [ty] at y2
      have e := congrArg Int32.toNatClampNeg y2
      rw [nI_clamp (by omega)] at e
      exact e.symm
    obtain ⟨a, b, f1, f2, f3, f4⟩ := y4 hy
    have b5 := hF.2.2.2.2 5 (by decide)
    obtain ⟨l1, l2, l3⟩ := hF.le c1 (c := 1) (j := 2) (by decide) (by decide) rfl
    have hb : b = np Y c := by
      rw [c3] at f2
      have e := nI_inj (by omega) (by omega) f2
      unfold np
      omega
    subst hb
    exact ⟨c, a, fun _ => ⟨c1, c2, c3, f1, f3, fun p hp => f4 (a + p) (by omega) (by omega)⟩⟩
  · exact ⟨0, 0, fun z => absurd z ty⟩
theorem GI.var2 (h : GI Y s T) (hF : FY Y) (hT : T ≤ 5000) (hr0 : r0 + 1 = (s 18).1) (hi : i = oi s r0) (hu : u = ou s r0) (hk : k = im s i) (hlt : u < sp Y (k + 1) 2) (ht : ¬ (Y 3).2 u 1 = 3) (e : s' = ax 12 (ap 15 (ax 18 s (nI r0) 1 (nI (u + 1))) (nI u) x (-1) z) (nI (ia s i + (u - sp Y k 2))) 0 (nI (s 15).1)) : GI Y s' T ∧ sm (rq Y s') 0 (s' 18).1 + 1 ≤ sm (rq Y s) 0 (s 18).1 := by
  obtain ⟨z11, z12, z13, z15, z16, z17, z18, zq⟩ := h.sz
  obtain ⟨-, o3, o4, -⟩ := h.2.2.2.2.2.1 r0 (by omega)
  rw [← hi] at o3 o4
  rw [← hk, ← hu] at o4
  obtain ⟨-, -, w5, -, -⟩ := h.2.1 i o3
  rw [← hk] at w5
  unfold nv at w5
  have e15 : ax 18 s (nI r0) 1 (nI (u + 1)) 15 = s 15 := ax_ne (by decide)
  refine h.var hF hr0 hi hu hk hlt ht (fun j h1 h2 h3 => ?_) ?_ (fun r hr => ?_) ?_ ?_ (fun r hr => ?_) ?_ (fun r hr => ?_) ?_ ?_ (fun r q hr => ?_) ?_
  · rw [e, ax_ne h1, ap_ne h2, ax_ne h3]
  · rw [e, ax_n, ap_ne (by decide), ax_ne (by decide)]
  · rw [e, ax_c (fun _ z => absurd (z.trans (nI_clamp (by omega))) hr), ap_ne (by decide), ax_ne (by decide)]
  · rw [e]
    exact ax_hit (by rw [ap_ne (by decide), ax_ne (by decide)]; omega) (by decide) (by omega)
  · rw [e, ax_ne (by decide), ap_n, e15]
  · rw [e, ax_ne (by decide), ap_lt (by rw [e15]; exact hr), e15]
  · rw [e, ax_ne (by decide)]
    have := ap_new (s := ax 18 s (nI r0) 1 (nI (u + 1))) (j := 15) (a := nI u) (b := x) (d := (-1)) (e := z) (q := 0) (by decide)
    rw [e15] at this
    exact this
  · rw [e, ax_ne (by decide), ap_lt (by rw [e15]; exact hr), e15]
  · rw [e, ax_ne (by decide)]
    have := ap_new (s := ax 18 s (nI r0) 1 (nI (u + 1))) (j := 15) (a := nI u) (b := x) (d := (-1)) (e := z) (q := 2) (by decide)
    rw [e15] at this
    exact this
  · rw [e, ax_ne (by decide), ap_ne (by decide), ax_n]
  · rw [e, ax_ne (by decide), ap_ne (by decide), ax_c (fun _ z => fun zz => by
      rcases hr with hr | hr
      · exact hr (z.trans (nI_clamp (by omega)))
      · exact hr zz)]
  · rw [e, ax_ne (by decide), ap_ne (by decide)]
    exact ax_hit (by omega) (by decide) (by omega)
theorem GI.mod2 (h : GI Y s T) (hF : FY Y) (hT : T ≤ 5000) (hr0 : r0 + 1 = (s 18).1) (hi : i = oi s r0) (hu : u = ou s r0) (hk : k = im s i) (hlt : u < sp Y (k + 1) 2) (ht : (Y 3).2 u 1 = 3)
    (hcM : c < (Y 1).1) (h4 : (Y 3).2 u 4 = nI c) (h3 : (Y 3).2 u 3 = nI (np Y c)) (hgv : ∀ p, p < np Y c → rgr Y k false (Y 5) (a0 + p) 0 1)
    (hA : AI Y (ax 12 (ax 18 s (nI r0) 1 (nI (u + 1))) (nI (ia s i + (u - sp Y k 2))) 0 (nI (s 11).1)) s' c (nI i) a0) : GI Y s' T ∧ sm (rq Y s') 0 (s' 18).1 + 1 ≤ sm (rq Y s) 0 (s 18).1 := by
  obtain ⟨z11, z12, z13, z15, z16, z17, z18, zq⟩ := h.sz
  obtain ⟨-, o3, o4, -⟩ := h.2.2.2.2.2.1 r0 (by omega)
  rw [← hi] at o3 o4
  rw [← hk, ← hu] at o4
  obtain ⟨-, -, w5, -, -⟩ := h.2.1 i o3
  rw [← hk] at w5
  unfold nv at w5
  refine h.mod hF hT hr0 hi hu hk hlt ht hcM h4 h3 hgv (fun j h1 h2 => ?_) ?_ (fun r hr => ?_) ?_ ?_ (fun r q hr => ?_) ?_ hA
  · rw [ax_ne h1, ax_ne h2]
  · rw [ax_n, ax_n]
  · rw [ax_c (fun _ z => absurd (z.trans (nI_clamp (by omega))) hr), ax_ne (by decide)]
  · exact ax_hit (by rw [ax_n]; omega) (by decide) (by omega)
  · rw [ax_n, ax_n]
  · rw [ax_ne (by decide), ax_c (fun _ z => fun zz => by
      rcases hr with hr | hr
      · exact hr (z.trans (nI_clamp (by omega)))
      · exact hr zz)]
  · rw [ax_ne (by decide)]
    exact ax_hit (by omega) (by decide) (by omega)
theorem GI.pop2 (h : GI Y s T) (hr0 : r0 + 1 = (s 18).1) (hi : i = oi s r0) (hu : u = ou s r0) (hk : k = im s i) (hge : ¬ u < sp Y (k + 1) 2)
    (e : ∀ j, j ≠ 16 → j ≠ 17 → s1 j = s j) (n16 : (s1 16).1 + (s1 17).1 ≤ (s 16).1 + (s 17).1 + nc Y k) (hc6 : Gc Y s1 16) (hc7 : Gc Y s1 17) (es : s' = ac 18 s1 r0) : GI Y s' T ∧ sm (rq Y s') 0 (s' 18).1 ≤ sm (rq Y s) 0 (s 18).1 := by
  have ea : ∀ j, j ≠ 18 → s' j = s1 j := fun j hj => by rw [es]; exact fu_ne _ _ hj
  have e11 := ea 11 (by decide)
  have cg : ∀ j, j ≠ 18 → Gc Y s1 j → Gc Y s' j := fun j hj hg r hr => by
    rw [ea j hj] at hr ⊢
    obtain ⟨x1, x2, q, y1, y2, y3, y4, y5⟩ := hg r hr
    exact ⟨x1, x2, q, y1, y2, y3, by rw [e11]; exact y4, by unfold im at y5 ⊢; rw [e11]; exact y5⟩
  refine h.pop (k := k) hr0 (by rw [← hi]; exact hk) (by rw [← hu]; exact hge) (fun j h1 h2 h3 => (ea j h3).trans (e j h1 h2)) (by rw [ea 16 (by decide), ea 17 (by decide)]; exact n16) (cg 16 (by decide) hc6) (cg 17 (by decide) hc7) (by rw [es]; unfold ac; rw [fu_at]; rfl) (fun r q hr => ?_)
  rw [es]
  unfold ac
  rw [fu_at, e 18 (by decide) (by decide)]
  exact if_pos hr
theorem dm.cutr (h : dm m H) (e : ak m H = X) (hj : j < 21) {r : Nat} (hr : r = ra m j) {k : Nat} (hk : k ≤ (X j).1) : mu_TV (mu_D (d + 2)) 115 [.inr (.inr (some r)), .inl (nI k)] H (fun H1 => dm m H1 ∧ rl m C H H1 ∧ ak m H1 = ac j X k ∧ ∀ i, mu_i H1 95 i = mu_i H 95 i) := by
  rw [hr]
  have hw := h.w (show j < 28 by omega)
  have hz : gi_sz H (ra m j) = (X j).1 := by rw [← e, ak_n (by omega)]
  refine (rw_cut_ok (h.1.w hw) (nI k)).imp (fun H1 q => ?_)
  obtain ⟨k', hk', ek', hk2⟩ := h.1.cutn hw (nI k)
  have : k' = k := hk2 k rfl (by omega)
  subst this
  obtain ⟨a, b, c⟩ := h.cut (C := C) hj hk'
  rw [q, ek']
  rw [e] at c
  exact ⟨a, b, c, fun i => (gk.si (S := fun p => Nat.beq p (ra m j)) h.1 (gi_w_ok hw).2.2.2.1 (Nat.beq_refl _)).h95 (beq_f (ra_91 h.2.1 (show j < 28 by omega)).2.1.symm) h.1 i⟩
end Grow4
section Grow5
variable {H : mu_H} {d m c : Nat} {C : Nat → Nat}
/-- PathProver$Model.grow(I)V -/
abbrev mu_m132 : ev_M := (7, none, [], ev_b132)
theorem mu_g132 : mu_good mu_m132 := mu_goodk ev_k132
theorem gr_grow (h : dm m H) (hF : FY (ak m H)) (hcM : c < (ak m H 1).1) (hnp : np (ak m H) c = 0) {ee ii : Nat} (he : (ak m H 1).2 c 10 = nI ee) (hee : ee ≤ 4000) (hi2 : (ak m H 1).2 c 9 = nI ii) (hii : ii ≤ 200) (z11 : (ak m H 11).1 = 0) (z12 : (ak m H 12).1 = 0) (z13 : (ak m H 13).1 = 0) (z15 : (ak m H 15).1 = 0) (z16 : (ak m H 16).1 = 0) (z17 : (ak m H 17).1 = 0) (hC : ∀ j, 11 ≤ j → j < 19 → 120000 ≤ C j ∧ C j ≤ 8388608) : mu_TV (mu_D (d + 6)) 132 [.inr (.inr (some m)), .inl (nI c)] H (fun H1 => dm m H1 ∧ rl m C H H1 ∧ (∀ q, mu_i H1 95 q = mu_i H 95 q) ∧ GI (ak m H) (ak m H1) 4001 ∧ (ak m H1 18).1 = 0) := by
  obtain ⟨⟨ee', e1, e2, e3⟩, -, -⟩ := (hF.2.2.1 c hcM).resolve_left (hF.2.2.2.1 c hcM)
  have hee' : ee' = ee := nI_inj (by omega) (by omega) (e1.symm.trans he)
  subst hee'
  have q6 : ndU (ak m H) c + ws (ak m H) (sp (ak m H) c 2) (sp (ak m H) (c + 1) 2 - sp (ak m H) c 2) ≤ tot (ak m H) c := by unfold tot ndU; omega
  have q7 : nv (ak m H) c ≤ ws (ak m H) (sp (ak m H) c 2) (sp (ak m H) (c + 1) 2 - sp (ak m H) c 2) := sm_one (fun v => wv_pos) _
  refine mu_meth (M := mu_m132) rfl rfl ?_
  refine mw_ht (mu_fn_of (show [0, 1].Nodup by decide)) ?_
  refine mw_go mu_g132 (k := 2) (f1 := (4, [(0, .inr (.inr (some m))), (1, .inl (nI c))], [.inr (.inr (mu_r H m 18))], H)) (C := [mu_is H (some m) 6]) rfl (show mu_is H (some m) 6 from (show mu_is H (some m) 6 from gi_im h.1 h.2.1)) ?_
  rw [(show mu_r H m 18 = some (m + 37) from (gi_mr h.1 h.2.1 (j := 18) (by decide)).trans (congrArg some (by omega)))]
  refine mw_cV (fun _ => rfl) (show mu_is H (some (m + 37)) 10 from (h.1.w (md_w18 h.2.1)).1) (dm.clearr (C := C) (d := (d + 4)) h rfl (j := 18) (by decide) rfl) (fun H1 q1 => ?_)
  obtain ⟨hp1, qt1, ha1, qh1⟩ := q1
  have ht1 := (rl.refl m C H).trans qt1
  refine mw_go mu_g132 (k := 4) (f1 := (11, [(0, .inr (.inr (some m))), (1, .inl (nI c))], [.inl (-1 : Int32), .inl (-1 : Int32), .inl (nI c), .inr (.inr (some m))], H1)) (C := []) rfl trivial ?_
  refine mw_cV (fun _ => rfl) (show mu_is H1 (some m) 6 from (show mu_is H1 (some m) 6 from gi_im hp1.1 hp1.2.1)) (gr_inst (Y := (ak m H)) (C := C) (d := (d + 1)) (a0 := 0) hp1 (by rw [ha1]; exact ((fz.refl (ak m H)).cut (j := 18) (by decide) (by decide))) hF hcM (-1 : Int32) (-1 : Int32) (Or.inl hnp) (by rw [ha1]; exact ⟨by rw [show (ac 18 (ak m H) 0 11).1 = 0 from z11]; decide, by rw [show (ac 18 (ak m H) 0 12).1 = 0 from z12]; omega, by rw [show (ac 18 (ak m H) 0 13).1 = 0 from z13]; omega, Nat.zero_le _⟩) hC) (fun H2 q2 => ?_)
  obtain ⟨hp2, qt2, qh2, hA2⟩ := q2
  have ht2 := ht1.trans qt2
  rw [ha1] at hA2
  have hG2 : GI (ak m H) (ak m H2) 4001 := GI.first hF (fz.cut (j := 18) (fz.refl (ak m H)) (by decide) (by decide)) z11 z12 z13 z15 z16 z17 rfl hcM hnp he hee hi2 hii hA2
  refine mw_go mu_g132 (k := 2) (f1 := (16, [(2, .inl (0 : Int32)), (0, .inr (.inr (some m))), (1, .inl (nI c))], [], H2)) (C := []) rfl trivial ?_
  show mu_W _ _ (16, [(2, .inl (nI 0)), (0, .inr (.inr (some m))), (1, .inl (nI c))], [], H2) _
  refine mw_sub (L' := [(2, .inl (nI 0)), (0, .inr (.inr (some m)))]) (by simp) ?_
  refine mw_down (α := Nat × mu_H) (fun zs => (16, [(2, .inl (nI zs.1)), (0, .inr (.inr (some m)))], [], zs.2)) (fun zs => 8000 - zs.1) (fun zs => dm m zs.2 ∧ rl m C H zs.2 ∧ (GI (ak m H) (ak m zs.2) 4001) ∧ (∀ q, mu_i zs.2 95 q = mu_i H 95 q) ∧ (zs.1 + (sm (rq (ak m H) (ak m zs.2)) 0 (ak m zs.2 18).1 + ((ak m zs.2 18).1 + (200 - (ak m zs.2 11).1))) ≤ 8000)) (fun zs hza iha => ?_) (0, H2) ⟨hp2, ht2, (show GI (ak m H) (ak m H2) 4001 from hG2), (show ∀ q, mu_i H2 95 q = mu_i H 95 q from (fun q => (qh2 q).trans (qh1 q))), (show 0 + (sm (rq (ak m H) (ak m H2)) 0 (ak m H2 18).1 + ((ak m H2 18).1 + (200 - (ak m H2 11).1))) ≤ 8000 from (by have z := hG2.sz; have z2 := hA2.2.2.1.1; have z3 : (ac 18 (ak m H) 0 11).1 = 0 := z11; omega))⟩
  obtain ⟨y, Hsa⟩ := zs
  obtain ⟨hpa, hta, hG, h95, hps⟩ := hza
  have hpa : dm m Hsa := hpa
  have hta : rl m C H Hsa := hta
  have hG : GI (ak m H) (ak m Hsa) 4001 := hG
  have h95 : ∀ q, mu_i Hsa 95 q = mu_i H 95 q := h95
  have hps : y + (sm (rq (ak m H) (ak m Hsa)) 0 (ak m Hsa 18).1 + ((ak m Hsa 18).1 + (200 - (ak m Hsa 11).1))) ≤ 8000 := hps
  show mu_W _ _ (16, [(2, .inl (nI y)), (0, .inr (.inr (some m)))], [], Hsa) _
  refine mw_go mu_g132 (k := 2) (f1 := (20, [(2, .inl (nI y)), (0, .inr (.inr (some m)))], [.inl (8000 : Int32), .inl (nI y)], Hsa)) (C := []) rfl trivial ?_
  refine mw_if (P := (nI y) < (8000 : Int32)) (a := 23) (b := 141) (fun _ => rfl) trivial (fun h3 => ?_) (fun h3 => ?_)
  · -- 23: (nI y) < (8000 : Int32)
    have hy8 : y < 8000 := (nI_ltI (b := 8000) (by omega) (by decide)).mp h3
    refine mw_go mu_g132 (k := 2) (f1 := (27, [(2, .inl (nI y)), (0, .inr (.inr (some m)))], [.inr (.inr (mu_r Hsa m 18))], Hsa)) (C := [mu_is Hsa (some m) 6]) rfl (show mu_is Hsa (some m) 6 from (show mu_is Hsa (some m) 6 from gi_im hpa.1 hpa.2.1)) ?_
    rw [(show mu_r Hsa m 18 = some (m + 37) from (gi_mr hpa.1 hpa.2.1 (j := 18) (by decide)).trans (congrArg some (by omega)))]
    refine mw_go mu_g132 (k := 1) (f1 := (30, [(2, .inl (nI y)), (0, .inr (.inr (some m)))], [.inl (mu_i Hsa (m + 37) 2)], Hsa)) (C := [mu_is Hsa (some (m + 37)) 10]) rfl (show mu_is Hsa (some (m + 37)) 10 from (hpa.1.w (md_w18 hpa.2.1)).1) ?_
    rw [(show mu_i Hsa (m + 37) 2 = nI ((ak m Hsa) 18).1 from hpa.size rfl (j := 18) (by decide))]
    refine mw_if (P := 0 < (nI ((ak m Hsa) 18).1)) (a := 33) (b := 141) (fun _ => rfl) trivial (fun h4 => ?_) (fun h4 => ?_)
    · -- 33: 0 < (nI ((ak m Hsa) 18).1)
      obtain ⟨z11, z12, z13, z15, z16, z17, z18, zq⟩ := hG.sz
      have h018 : 0 < ((ak m Hsa) 18).1 := (nI_ltI (a := 0) (by decide) (by omega)).mp h4
      obtain ⟨r0, hr0⟩ : ∃ r0, r0 + 1 = ((ak m Hsa) 18).1 := ⟨((ak m Hsa) 18).1 - 1, by omega⟩
      obtain ⟨⟨o1, o2⟩, o3, o4, o5⟩ := hG.2.2.2.2.2.1 r0 (by omega)
      obtain ⟨i, hi⟩ : ∃ i, i = oi (ak m Hsa) r0 := ⟨_, rfl⟩
      rw [← hi] at o1 o3 o4 o5
      obtain ⟨u, hu⟩ : ∃ u, u = ou (ak m Hsa) r0 := ⟨_, rfl⟩
      rw [← hu] at o2 o4 o5
      obtain ⟨k, hk⟩ : ∃ k, k = im (ak m Hsa) i := ⟨_, rfl⟩
      rw [← hk] at o4 o5
      obtain ⟨⟨w0, w1, w2, w3⟩, hkM, w5, w6, w7⟩ := hG.2.1 i o3
      rw [← hk] at w0 hkM w5 w6 w7
      obtain ⟨l1, l2, l3⟩ := hF.le hkM (c := 2) (j := 3) (by decide) (by decide) rfl
      refine mw_go mu_g132 (k := 2) (f1 := (37, [(2, .inl (nI y)), (0, .inr (.inr (some m)))], [.inr (.inr (mu_r Hsa m 18))], Hsa)) (C := [mu_is Hsa (some m) 6]) rfl (show mu_is Hsa (some m) 6 from (show mu_is Hsa (some m) 6 from gi_im hpa.1 hpa.2.1)) ?_
      rw [(show mu_r Hsa m 18 = some (m + 37) from (gi_mr hpa.1 hpa.2.1 (j := 18) (by decide)).trans (congrArg some (by omega)))]
      refine mw_go mu_g132 (k := 1) (f1 := (40, [(2, .inl (nI y)), (0, .inr (.inr (some m)))], [.inl (mu_i Hsa (m + 37) 2)], Hsa)) (C := [mu_is Hsa (some (m + 37)) 10]) rfl (show mu_is Hsa (some (m + 37)) 10 from (hpa.1.w (md_w18 hpa.2.1)).1) ?_
      rw [(show mu_i Hsa (m + 37) 2 = nI ((ak m Hsa) 18).1 from hpa.size rfl (j := 18) (by decide))]
      refine mw_go mu_g132 (k := 3) (f1 := (43, [(3, .inl ((nI ((ak m Hsa) 18).1) - (1 : Int32))), (2, .inl (nI y)), (0, .inr (.inr (some m)))], [], Hsa)) (C := []) rfl trivial ?_
      rw [show ((nI ((ak m Hsa) 18).1) - (1 : Int32)) = nI r0 from by rw [← hr0]; exact nI_pred r0]
      refine mw_go mu_g132 (k := 2) (f1 := (47, [(3, .inl (nI r0)), (2, .inl (nI y)), (0, .inr (.inr (some m)))], [.inr (.inr (mu_r Hsa m 18))], Hsa)) (C := [mu_is Hsa (some m) 6]) rfl (show mu_is Hsa (some m) 6 from (show mu_is Hsa (some m) 6 from gi_im hpa.1 hpa.2.1)) ?_
      rw [(show mu_r Hsa m 18 = some (m + 37) from (gi_mr hpa.1 hpa.2.1 (j := 18) (by decide)).trans (congrArg some (by omega)))]
      refine mw_go mu_g132 (k := 2) (f1 := (49, [(3, .inl (nI r0)), (2, .inl (nI y)), (0, .inr (.inr (some m)))], [.inl (0 : Int32), .inl (nI r0), .inr (.inr (some (m + 37)))], Hsa)) (C := []) rfl trivial ?_
      refine mw_cIe (fun _ => rfl) (show mu_is Hsa (some (m + 37)) 10 from (hpa.1.w (md_w18 hpa.2.1)).1) (dm.getr (d := (d + 4)) hpa rfl (j := 18) (by decide) rfl (nI r0) (c := 0) (by decide)) ?_
      rw [show (tget ((ak m Hsa) 18) (nI r0) 0) = (nI i) from (tget_nI (by omega)).trans o1]
      refine mw_go mu_g132 (k := 3) (f1 := (58, [(4, .inl (nI i)), (3, .inl (nI r0)), (2, .inl (nI y)), (0, .inr (.inr (some m)))], [.inr (.inr (mu_r Hsa m 18))], Hsa)) (C := [mu_is Hsa (some m) 6]) rfl (show mu_is Hsa (some m) 6 from (show mu_is Hsa (some m) 6 from gi_im hpa.1 hpa.2.1)) ?_
      rw [(show mu_r Hsa m 18 = some (m + 37) from (gi_mr hpa.1 hpa.2.1 (j := 18) (by decide)).trans (congrArg some (by omega)))]
      refine mw_go mu_g132 (k := 2) (f1 := (60, [(4, .inl (nI i)), (3, .inl (nI r0)), (2, .inl (nI y)), (0, .inr (.inr (some m)))], [.inl (1 : Int32), .inl (nI r0), .inr (.inr (some (m + 37)))], Hsa)) (C := []) rfl trivial ?_
      refine mw_cIe (fun _ => rfl) (show mu_is Hsa (some (m + 37)) 10 from (hpa.1.w (md_w18 hpa.2.1)).1) (dm.getr (d := (d + 4)) hpa rfl (j := 18) (by decide) rfl (nI r0) (c := 1) (by decide)) ?_
      rw [show (tget ((ak m Hsa) 18) (nI r0) 1) = (nI u) from (tget_nI (by omega)).trans o2]
      refine mw_go mu_g132 (k := 3) (f1 := (69, [(5, .inl (nI u)), (4, .inl (nI i)), (3, .inl (nI r0)), (2, .inl (nI y)), (0, .inr (.inr (some m)))], [.inr (.inr (mu_r Hsa m 11))], Hsa)) (C := [mu_is Hsa (some m) 6]) rfl (show mu_is Hsa (some m) 6 from (show mu_is Hsa (some m) 6 from gi_im hpa.1 hpa.2.1)) ?_
      rw [(show mu_r Hsa m 11 = some (m + 23) from (gi_mr hpa.1 hpa.2.1 (j := 11) (by decide)).trans (congrArg some (by omega)))]
      refine mw_go mu_g132 (k := 2) (f1 := (72, [(5, .inl (nI u)), (4, .inl (nI i)), (3, .inl (nI r0)), (2, .inl (nI y)), (0, .inr (.inr (some m)))], [.inl (0 : Int32), .inl (nI i), .inr (.inr (some (m + 23)))], Hsa)) (C := []) rfl trivial ?_
      refine mw_cIe (fun _ => rfl) (show mu_is Hsa (some (m + 23)) 10 from (hpa.1.w (md_w11 hpa.2.1)).1) (dm.getr (d := (d + 4)) hpa rfl (j := 11) (by decide) rfl (nI i) (c := 0) (by decide)) ?_
      rw [show (tget ((ak m Hsa) 11) (nI i) 0) = (nI k) from (tget_nI (by omega)).trans w0]
      refine mw_go mu_g132 (k := 7) (f1 := (87, [(6, .inl (nI k)), (5, .inl (nI u)), (4, .inl (nI i)), (3, .inl (nI r0)), (2, .inl (nI y)), (0, .inr (.inr (some m)))], [.inr (.inr (mu_r Hsa m 3)), .inl (2 : Int32), .inl (nI k), .inr (.inr (some m)), .inl (nI u)], Hsa)) (C := [mu_is Hsa (some m) 6]) rfl (show mu_is Hsa (some m) 6 from (show mu_is Hsa (some m) 6 from gi_im hpa.1 hpa.2.1)) ?_
      rw [(show mu_r Hsa m 3 = some (m + 7) from (gi_mr hpa.1 hpa.2.1 (j := 3) (by decide)).trans (congrArg some (by omega)))]
      refine mw_cIe (fun _ => rfl) (show mu_is Hsa (some m) 6 from (show mu_is Hsa (some m) 6 from gi_im hpa.1 hpa.2.1)) (dm.stopr (d := (d + 3)) hpa rfl (j := 3) (by decide) rfl (c := 2) (by decide) (nI k)) ?_
      rw [show (stp (ak m Hsa) (nI k) 2 3) = (nI (sp (ak m H) (k + 1) 2)) from fz.stop hG.1 hF hkM (by decide) (by decide) rfl]
      refine mw_if (P := (nI u) < (nI (sp (ak m H) (k + 1) 2))) (a := 93) (b := 119) (fun _ => rfl) trivial (fun h9 => ?_) (fun h9 => ?_)
      · -- 93: (nI u) < (nI (sp (ak m H) (k + 1) 2))
        have hlt : u < sp (ak m H) (k + 1) 2 := (nI_ltI (by omega) (by omega)).mp h9
        refine mw_go mu_g132 (k := 2) (f1 := (97, [(6, .inl (nI k)), (5, .inl (nI u)), (4, .inl (nI i)), (3, .inl (nI r0)), (2, .inl (nI y)), (0, .inr (.inr (some m)))], [.inr (.inr (mu_r Hsa m 18))], Hsa)) (C := [mu_is Hsa (some m) 6]) rfl (show mu_is Hsa (some m) 6 from (show mu_is Hsa (some m) 6 from gi_im hpa.1 hpa.2.1)) ?_
        rw [(show mu_r Hsa m 18 = some (m + 37) from (gi_mr hpa.1 hpa.2.1 (j := 18) (by decide)).trans (congrArg some (by omega)))]
        refine mw_go mu_g132 (k := 5) (f1 := (103, [(6, .inl (nI k)), (5, .inl (nI u)), (4, .inl (nI i)), (3, .inl (nI r0)), (2, .inl (nI y)), (0, .inr (.inr (some m)))], [.inl ((nI u) + (1 : Int32)), .inl (1 : Int32), .inl (nI r0), .inr (.inr (some (m + 37)))], Hsa)) (C := []) rfl trivial ?_
        rw [nI_1 u]
        refine mw_cV (fun _ => rfl) (show mu_is Hsa (some (m + 37)) 10 from (hpa.1.w (md_w18 hpa.2.1)).1) (dm.setr (C := C) (d := (d + 4)) hpa rfl (j := 18) (by decide) rfl (nI r0) (nI (u + 1)) (c := 1) (by decide)) (fun H10 q10 => ?_)
        obtain ⟨hp10, qt10, ha10, qh10⟩ := q10
        have ht10 := hta.trans qt10
        refine mw_go mu_g132 (k := 4) (f1 := (113, [(6, .inl (nI k)), (5, .inl (nI u)), (4, .inl (nI i)), (3, .inl (nI r0)), (2, .inl (nI y)), (0, .inr (.inr (some m)))], [.inl (nI u), .inl (nI k), .inl (nI i), .inr (.inr (some m))], H10)) (C := []) rfl trivial ?_
        obtain ⟨cc, a0, hcc⟩ := hF.inst hkM o4 hlt
        have s2 : ∀ j, j ≠ 18 → ak m H10 j = ak m Hsa j := fun j hj => by rw [ha10]; exact ax_ne hj
        have hia : (ak m H10 11).2 i 1 = nI (ia (ak m Hsa) i) := by rw [s2 11 (by decide)]; exact w1
        have hty : ((ak m H) 3).2 u 1 = 3 → cc < ((ak m H) 1).1 ∧ ((ak m H) 3).2 u 4 = nI cc ∧ (np (ak m H) cc = 0 ∨ ∃ v, nI u = nI v ∧ ((ak m H) 3).2 v 2 = nI a0 ∧ v < ((ak m H) 3).1 ∧ a0 + np (ak m H) cc ≤ ((ak m H) 5).1) ∧ ((ax 12 (ak m H10) (nI (ia (ak m Hsa) i + (u - sp (ak m H) k 2))) 0 (nI (ak m H10 11).1) 11).1 ≤ 9000 ∧ (ax 12 (ak m H10) (nI (ia (ak m Hsa) i + (u - sp (ak m H) k 2))) 0 (nI (ak m H10 11).1) 12).1 + nv (ak m H) cc ≤ 9000 ∧ (ax 12 (ak m H10) (nI (ia (ak m Hsa) i + (u - sp (ak m H) k 2))) 0 (nI (ak m H10 11).1) 13).1 + np (ak m H) cc + ndU (ak m H) cc ≤ 9000 ∧ (ax 12 (ak m H10) (nI (ia (ak m Hsa) i + (u - sp (ak m H) k 2))) 0 (nI (ak m H10 11).1) 18).1 ≤ 9000) := fun ty => by
          obtain ⟨t1, t2, t3, t4, t5, t6⟩ := hcc ty
          obtain ⟨k1, k2⟩ := hG.kid hF (by decide) hr0 hi hu hk hlt ty t1 t2 t3
          refine ⟨t1, t2, Or.inr ⟨u, rfl, t4, by omega, t5⟩, ?_, ?_, ?_, ?_⟩
          · rw [ax_n, s2 11 (by decide)]; omega
          · rw [ax_n, s2 12 (by decide)]; omega
          · rw [ax_n, s2 13 (by decide)]; omega
          · rw [ax_n, ha10, ax_n]; omega
        refine mw_cV (fun _ => rfl) (show mu_is H10 (some m) 6 from (show mu_is H10 (some m) 6 from gi_im hp10.1 hp10.2.1)) (gr_var (C := C) (d := d) (c := cc) (a0 := a0) (a := ia (ak m Hsa) i) (i := i) (k := k) (u := u) hp10 (by rw [ha10]; exact (hG.1.axo (j := 18) (by decide) (by decide))) hF hkM (by omega) hia o4 (by omega) hty (by rw [s2 15 (by decide)]; omega) hC) (fun H11 q11 => ?_)
        obtain ⟨hp11, qt11, qh11, hV11⟩ := q11
        have ht11 := ht10.trans qt11
        have hN11 : GI (ak m H) (ak m H11) 4001 ∧ sm (rq (ak m H) (ak m H11)) 0 (ak m H11 18).1 + 1 ≤ sm (rq (ak m H) (ak m Hsa)) 0 ((ak m Hsa) 18).1 ∧ (ak m H11 18).1 + (200 - (ak m H11 11).1) ≤ ((ak m Hsa) 18).1 + (200 - ((ak m Hsa) 11).1) := by
          rcases hV11 with ⟨ty, x, y, hA⟩ | ⟨ty, hA⟩
          · have hE : ak m H11 = ax 12 (ap 15 (ax 18 (ak m Hsa) (nI r0) 1 (nI (u + 1))) (nI u) x (-1) y) (nI (ia (ak m Hsa) i + (u - sp (ak m H) k 2))) 0 (nI ((ak m Hsa) 15).1) := by rw [hA, ha10, ax_ne (j := 18) (by decide)]
            obtain ⟨v1, v2⟩ := hG.var2 hF (by decide) hr0 hi hu hk hlt ty hE
            refine ⟨v1, v2, ?_⟩
            rw [hE, ax_n, ap_ne (by decide), ax_n, ax_n, ap_ne (by decide), ax_n]; exact Nat.le_refl _
          · obtain ⟨t1, t2, t3, t4, t5, t6⟩ := hcc ty
            rw [ha10, ax_ne (j := 18) (i := 11) (by decide)] at hA
            obtain ⟨v1, v2⟩ := hG.mod2 hF (by decide) hr0 hi hu hk hlt ty t1 t2 t3 t6 hA
            refine ⟨v1, v2, ?_⟩
            have n1 := hA.2.2.1.1
            have n2 := hA.2.2.2.2.2.1
            rw [ax_ne (by decide), ax_ne (by decide)] at n1
            rw [ax_ne (by decide), ax_n] at n2
            have n3 := v1.sz.1
            omega
        obtain ⟨hG11, hq11, hw11⟩ := hN11
        refine mw_go mu_g132 (k := 3) (f1 := (16, [(2, .inl ((nI y) + 1)), (6, .inl (nI k)), (5, .inl (nI u)), (4, .inl (nI i)), (3, .inl (nI r0)), (0, .inr (.inr (some m)))], [], H11)) (C := []) rfl trivial ?_
        rw [nI_1 y]
        exact mw_sub (by simp) (iha (y + 1, H11) ⟨hp11, ht11, (show GI (ak m H) (ak m H11) 4001 from hG11), (show ∀ q, mu_i H11 95 q = mu_i H 95 q from (fun q => (qh11 q).trans ((qh10 q).trans (h95 q)))), (show (y + 1) + (sm (rq (ak m H) (ak m H11)) 0 (ak m H11 18).1 + ((ak m H11 18).1 + (200 - (ak m H11 11).1))) ≤ 8000 from by omega)⟩ (by show 8000 - (y + 1) < 8000 - y; omega))
      · -- 119: not (nI u) < (nI (sp (ak m H) (k + 1) 2))
        have hge : ¬ u < sp (ak m H) (k + 1) 2 := fun z => h9 (nI_lt z (by omega))
        refine mw_go mu_g132 (k := 3) (f1 := (124, [(6, .inl (nI k)), (5, .inl (nI u)), (4, .inl (nI i)), (3, .inl (nI r0)), (2, .inl (nI y)), (0, .inr (.inr (some m)))], [.inl (nI k), .inl (nI i), .inr (.inr (some m))], Hsa)) (C := []) rfl trivial ?_
        refine mw_cV (fun _ => rfl) (show mu_is Hsa (some m) 6 from (show mu_is Hsa (some m) 6 from gi_im hpa.1 hpa.2.1)) (gr_claims (C := C) (d := (d + 1)) (i := i) (k := k) hpa hG.1 hF hkM o3 hk.symm hG.2.2.2.2.1.1 hG.2.2.2.2.1.2.1 (by have z := hG.nck (k := k) hr0 (by rw [← hi]; exact hk); omega) hC) (fun H12 q12 => ?_)
        obtain ⟨hp12, qt12, qh12, he12, hn12, hg612, hg712⟩ := q12
        have ht12 := hta.trans qt12
        have e18 : (ak m H12 18).1 = ((ak m Hsa) 18).1 := by rw [he12 18 (by decide) (by decide)]
        refine mw_go mu_g132 (k := 2) (f1 := (131, [(6, .inl (nI k)), (5, .inl (nI u)), (4, .inl (nI i)), (3, .inl (nI r0)), (2, .inl (nI y)), (0, .inr (.inr (some m)))], [.inr (.inr (mu_r H12 m 18))], H12)) (C := [mu_is H12 (some m) 6]) rfl (show mu_is H12 (some m) 6 from (show mu_is H12 (some m) 6 from gi_im hp12.1 hp12.2.1)) ?_
        rw [(show mu_r H12 m 18 = some (m + 37) from (gi_mr hp12.1 hp12.2.1 (j := 18) (by decide)).trans (congrArg some (by omega)))]
        refine mw_go mu_g132 (k := 1) (f1 := (132, [(6, .inl (nI k)), (5, .inl (nI u)), (4, .inl (nI i)), (3, .inl (nI r0)), (2, .inl (nI y)), (0, .inr (.inr (some m)))], [.inl (nI r0), .inr (.inr (some (m + 37)))], H12)) (C := []) rfl trivial ?_
        refine mw_cV (fun _ => rfl) (show mu_is H12 (some (m + 37)) 10 from (hp12.1.w (md_w18 hp12.2.1)).1) (dm.cutr (C := C) (d := (d + 3)) hp12 rfl (j := 18) (by decide) rfl (k := r0) (by rw [e18]; omega)) (fun H13 q13 => ?_)
        obtain ⟨hp13, qt13, ha13, qh13⟩ := q13
        have ht13 := ht12.trans qt13
        refine mw_go mu_g132 (k := 2) (f1 := (16, [(2, .inl ((nI y) + 1)), (6, .inl (nI k)), (5, .inl (nI u)), (4, .inl (nI i)), (3, .inl (nI r0)), (0, .inr (.inr (some m)))], [], H13)) (C := []) rfl trivial ?_
        rw [nI_1 y]
        exact mw_sub (by simp) (iha (y + 1, H13) ⟨hp13, ht13, (show GI (ak m H) (ak m H13) 4001 from (hG.pop2 hr0 hi hu hk hge he12 hn12 hg612 hg712 ha13).1), (show ∀ q, mu_i H13 95 q = mu_i H 95 q from (fun q => (qh13 q).trans ((qh12 q).trans (h95 q)))), (show (y + 1) + (sm (rq (ak m H) (ak m H13)) 0 (ak m H13 18).1 + ((ak m H13 18).1 + (200 - (ak m H13 11).1))) ≤ 8000 from (by have z := (hG.pop2 hr0 hi hu hk hge he12 hn12 hg612 hg712 ha13).2; have z1 : (ak m H13 18).1 = r0 := (by rw [ha13]; rfl); have z2 : (ak m H13 11).1 = ((ak m Hsa) 11).1 := (by rw [ha13]; show (ak m H12 11).1 = _; rw [he12 11 (by decide) (by decide)]); omega))⟩ (by show 8000 - (y + 1) < 8000 - y; omega))
    · -- 141: not 0 < (nI ((ak m Hsa) 18).1)
      have h018 : ((ak m Hsa) 18).1 = 0 := by have z18 := hG.sz.2.2.2.2.2.2.1; exact Nat.eq_zero_of_not_pos (fun z => h4 (nI_lt (a := 0) z (by omega)))
      exact mw_of (fun _ => mu_ret rfl trivial ⟨Hsa, rfl, hpa, hta, h95, hG, h018⟩)
  · -- 141: not (nI y) < (8000 : Int32)
    have hy8 : ¬ y < 8000 := fun z => h3 ((nI_ltI (b := 8000) (by omega) (by decide)).mpr z)
    exact mw_of (fun _ => mu_ret rfl trivial ⟨Hsa, rfl, hpa, hta, h95, hG, (by omega)⟩)
end Grow5
