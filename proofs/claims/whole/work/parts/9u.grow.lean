/-! THE MODEL GROWS: its methods -/
/-- n rows more in a table -/
def app (j : Nat) (s s' : Ts) (n : Nat) : Prop := (∀ i, i ≠ j → s' i = s i) ∧ (s' j).1 = (s j).1 + n ∧ ∀ r q, r < (s j).1 → (s' j).2 r q = (s j).2 r q
section Grow2
variable {Y s s' s1 s2 s3 s4 s5 : Ts} {j n c a0 : Nat} {a b d e y row : Int32} {H : mu_H} {m dd : Nat}
theorem app.refl (j : Nat) (s : Ts) : app j s s 0 := ⟨fun _ _ => rfl, rfl, fun _ _ _ => rfl⟩
theorem ap_lt {r q : Nat} (h : r < (s j).1) : (ap j s a b d e j).2 r q = (s j).2 r q := by
  unfold ap
  rw [fu_at]
  exact if_neg (by omega)
theorem ap_new {q : Nat} (h : q < wa j) : (ap j s a b d e j).2 (s j).1 q = rw_col a b d e q := by
  unfold ap
  rw [fu_at]
  show (if (s j).1 = (s j).1 then (if q < wa j then rw_col a b d e q else 0) else _) = _
  rw [if_pos rfl, if_pos h]
theorem app.more (h : app j s s' n) : app j s (ap j s' a b d e) (n + 1) := ⟨fun i hi => (ap_ne hi).trans (h.1 i hi), by rw [ap_n, h.2.1]; omega, fun r q hr => (ap_lt (by rw [h.2.1]; omega)).trans (h.2.2 r q hr)⟩
theorem fz.ap (h : fz Y s) (h1 : j ≠ 1) (h2 : ¬ (j < 11 ∨ j = 14 ∨ 19 ≤ j)) : fz Y (ap j s a b d e) := ⟨fun i hi hj => (ap_ne (fun z => h2 (by rw [← z]; exact hj))).trans (h.1 i hi hj), by rw [ap_ne (Ne.symm h1)]; exact h.2.1, by rw [ap_ne (Ne.symm h1)]; exact h.2.2⟩
theorem fz.axo (h : fz Y s) {q : Nat} (h1 : j ≠ 1) (h2 : ¬ (j < 11 ∨ j = 14 ∨ 19 ≤ j)) : fz Y (ax j s row q y) := ⟨fun i hi hj => (ax_ne (fun z => h2 (by rw [← z]; exact hj))).trans (h.1 i hi hj), by rw [ax_ne (Ne.symm h1)]; exact h.2.1, by rw [ax_ne (Ne.symm h1)]; exact h.2.2⟩
theorem fz.used (h : fz Y s) : fz Y (ax 1 s row 7 y) := ⟨fun i hi hj => (ax_ne hi).trans (h.1 i hi hj), by rw [ax_n]; exact h.2.1, fun i q hq => (ax_c (fun _ _ => hq)).trans (h.2.2 i q hq)⟩
theorem fz.cut (h : fz Y s) {k : Nat} (h1 : j ≠ 1) (h2 : ¬ (j < 11 ∨ j = 14 ∨ 19 ≤ j)) : fz Y (ac j s k) := ⟨fun i hi hj => (fu_ne _ _ (fun z => h2 (by rw [← z]; exact hj))).trans (h.1 i hi hj), by unfold ac; rw [fu_ne _ _ (Ne.symm h1)]; exact h.2.1, by unfold ac; rw [fu_ne _ _ (Ne.symm h1)]; exact h.2.2⟩
theorem fz.g (h : fz Y s) {k q : Nat} (hk : k < 2147483648) (h1 : j ≠ 1) (hj : j < 11) : tget (s j) (nI k) q = (Y j).2 k q := by rw [tget_nI hk, h.1 j h1 (Or.inl hj)]
theorem AI.mk {par : Int32} (hcm : c < (s 1).1) (hcb : c < 2147483648) (e1 : s1 = ax 1 (ap 11 s (nI c) (nI (s 12).1) (nI (s 13).1) (nI (np Y c))) (nI c) 7 1) (a2 : app 12 s1 s2 (nv Y c)) (a3 : app 13 s2 s3 (np Y c))
    (r3 : ∀ p, p < np Y c → (s3 13).2 ((s2 13).1 + p) 0 = (Y 5).2 (a0 + p) 0 ∧ (s3 13).2 ((s2 13).1 + p) 1 = (Y 5).2 (a0 + p) 1 ∧ (s3 13).2 ((s2 13).1 + p) 2 = par ∧ (s3 13).2 ((s2 13).1 + p) 5 = 0)
    (a4 : app 13 s3 s4 (ndU Y c)) (r4 : ∀ p, p < ndU Y c → (s4 13).2 ((s3 13).1 + p) 0 = (Y 6).2 (sp Y c 3 + p) 1 ∧ (s4 13).2 ((s3 13).1 + p) 1 = (Y 6).2 (sp Y c 3 + p) 2 ∧ (s4 13).2 ((s3 13).1 + p) 2 = nI (s 11).1 ∧ (s4 13).2 ((s3 13).1 + p) 5 = 0)
    (e5 : s5 = ap 18 s4 (nI (s 11).1) (nI (sp Y c 2)) 0 0) : AI Y s s5 c par a0 := by
  have t1 : ∀ j, j ≠ 1 → j ≠ 11 → s1 j = s j := fun j h1 h2 => by rw [e1, ax_ne h1, ap_ne h2]
  have t11 : s1 11 = ap 11 s (nI c) (nI (s 12).1) (nI (s 13).1) (nI (np Y c)) 11 := by rw [e1, ax_ne (by decide)]
  have u11 : s5 11 = s1 11 := by rw [e5, ap_ne (by decide), a4.1 11 (by decide), a3.1 11 (by decide), a2.1 11 (by decide)]
  have u13 : s5 13 = s4 13 := by rw [e5, ap_ne (by decide)]
  have n2 : (s2 13).1 = (s 13).1 := by rw [a2.1 13 (by decide), t1 13 (by decide) (by decide)]
  have u18 : s4 18 = s 18 := by rw [a4.1 18 (by decide), a3.1 18 (by decide), a2.1 18 (by decide), t1 18 (by decide) (by decide)]
  have t12 : s1 12 = s 12 := t1 12 (by decide) (by decide)
  refine ⟨fun j h1 h2 h3 h4 h5 => ?_, ⟨?_, fun q f hf => ?_, ?_, fun q hq => ?_⟩, ⟨?_, fun r q hr => ?_, ?_, ?_, ?_, ?_⟩, ⟨?_, fun r q hr => ?_⟩, ⟨?_, fun r q hr => ?_, fun p hp => ?_, fun p hp => ?_⟩, ?_, fun r q hr => ?_, ?_, ?_⟩
  · rw [e5, ap_ne h5, a4.1 j h4, a3.1 j h4, a2.1 j h3, t1 j h1 h2]
  · rw [e5, ap_ne (by decide), a4.1 1 (by decide), a3.1 1 (by decide), a2.1 1 (by decide), e1, ax_n, ap_ne (by decide)]
  · rw [e5, ap_ne (by decide), a4.1 1 (by decide), a3.1 1 (by decide), a2.1 1 (by decide), e1, ax_c (fun _ _ => hf), ap_ne (by decide)]
  · rw [e5, ap_ne (by decide), a4.1 1 (by decide), a3.1 1 (by decide), a2.1 1 (by decide), e1]
    exact ax_hit (by rw [ap_ne (by decide)]; exact hcm) (by decide) hcb
  · rw [e5, ap_ne (by decide), a4.1 1 (by decide), a3.1 1 (by decide), a2.1 1 (by decide), e1, ax_c (fun _ z => absurd (z.trans (nI_clamp hcb)) hq), ap_ne (by decide)]
  · rw [u11, t11, ap_n]
  · rw [u11, t11, ap_lt hr]
  · rw [u11, t11, ap_new (by decide)]; rfl
  · rw [u11, t11, ap_new (by decide)]; rfl
  · rw [u11, t11, ap_new (by decide)]; rfl
  · rw [u11, t11, ap_new (by decide)]; rfl
  · rw [e5, ap_ne (by decide), a4.1 12 (by decide), a3.1 12 (by decide), a2.2.1, t12]
  · rw [e5, ap_ne (by decide), a4.1 12 (by decide), a3.1 12 (by decide), a2.2.2 r q (by rw [t12]; exact hr), t12]
  · rw [u13, a4.2.1, a3.2.1, n2]
  · rw [u13, a4.2.2 r q (by rw [a3.2.1, n2]; omega), a3.2.2 r q (by rw [n2]; exact hr), a2.1 13 (by decide), t1 13 (by decide) (by decide)]
  · have hx := r3 p hp
    rw [n2] at hx
    have hlt : (s 13).1 + p < (s3 13).1 := by rw [a3.2.1, n2]; omega
    rw [u13, a4.2.2 _ 0 hlt, a4.2.2 _ 1 hlt, a4.2.2 _ 2 hlt, a4.2.2 _ 5 hlt]
    exact hx
  · have hx := r4 p hp
    rw [a3.2.1, n2] at hx
    rw [u13]
    exact hx
  · rw [e5, ap_n, u18]
  · rw [e5, ap_lt (by rw [u18]; exact hr), u18]
  · rw [e5]
    have := ap_new (s := s4) (j := 18) (a := nI (s 11).1) (b := nI (sp Y c 2)) (d := 0) (e := 0) (q := 0) (by decide)
    rw [u18] at this
    exact this
  · rw [e5]
    have := ap_new (s := s4) (j := 18) (a := nI (s 11).1) (b := nI (sp Y c 2)) (d := 0) (e := 0) (q := 1) (by decide)
    rw [u18] at this
    exact this
theorem md_vals2 (h : dm m H) (x : Int32) : mu_TI (mu_D (dd + 2)) 136 [.inr (.inr (some m)), .inl x] H (fun r H1 => H = H1) := by
  have hg := h.1
  have hm := h.2.1
  have r3 : mu_r H m 3 = some (m + 7) := (gi_mr hg hm (j := 3) (by decide)).trans (congrArg some (by omega))
  exact (md_valuesOf_ok (gi_im hg hm) ⟨by rw [r3]; rfl, _, _, by rw [r3]; exact hg.w (md_w3 hm)⟩ x).imp (fun x H1 q => q.2.symm)
theorem Gc.put {i ra rb : Nat} (h : Gc Y s j) (hi : i < (s 11).1) (hk : im s i = n) (h1 : a = nI ra) (h2 : b = nI rb) (h3 : rg Y n false ra rb) (hj : j ≠ 11 := by decide) (hw : 2 < wa j := by decide) : Gc Y (ap j s a b (nI i) 0) j := fun r hr => by
  rw [ap_n] at hr
  rw [ap_ne (Ne.symm hj)]
  by_cases hr2 : r < (s j).1
  · rw [ap_lt hr2, ap_lt hr2, ap_lt hr2]
    obtain ⟨x1, x2, q, y1, y2, y3, y4, y5⟩ := h r hr2
    exact ⟨x1, x2, q, y1, y2, y3, y4, by unfold im at y5 ⊢; rw [ap_ne (Ne.symm hj)]; exact y5⟩
  · have : r = (s j).1 := by omega
    subst this
    refine ⟨ra, rb, i, by rw [ap_new (by omega)]; exact h1, by rw [ap_new (by omega)]; exact h2, by rw [ap_new hw]; rfl, hi, ?_⟩
    have e : im (ap j s a b (nI i) 0) i = n := by unfold im at hk ⊢; rw [ap_ne (Ne.symm hj)]; exact hk
    rw [e]
    exact h3
theorem Gc.oth {j' : Nat} (h : Gc Y s j) (h1 : j ≠ j') (h2 : j' ≠ 11) : Gc Y (ap j' s a b d e) j := fun r hr => by
  rw [ap_ne h1] at hr ⊢
  obtain ⟨x1, x2, q, y1, y2, y3, y4, y5⟩ := h r hr
  exact ⟨x1, x2, q, y1, y2, y3, by rw [ap_ne (Ne.symm h2)]; exact y4, by unfold im at y5 ⊢; rw [ap_ne (Ne.symm h2)]; exact y5⟩
theorem slot_eq {a u w : Nat} (h : w ≤ u) : nI a + nI u - nI w = nI (a + (u - w)) := by
  rw [nI_add, pk_sub (by omega)]
  exact congrArg nI (by omega)
end Grow2
section Grow3
variable {H : mu_H} {d m c a0 i k u a : Nat} {Y : Ts} {C : Nat → Nat}
/-- PathProver$Model.addInstance(III)V -/
abbrev mu_m133 : ev_M := (8, none, [], ev_b133)
theorem mu_g133 : mu_good mu_m133 := mu_goodk ev_k133
theorem gr_inst (h : dm m H) (hf : fz Y (ak m H)) (hF : FY Y) (hcM : c < (Y 1).1) (par vr : Int32) (hv : np Y c = 0 ∨ ∃ v, vr = nI v ∧ (Y 3).2 v 2 = nI a0 ∧ v < (Y 3).1 ∧ a0 + np Y c ≤ (Y 5).1) (hS : (ak m H 11).1 ≤ 9000 ∧ (ak m H 12).1 + nv Y c ≤ 9000 ∧ (ak m H 13).1 + np Y c + ndU Y c ≤ 9000 ∧ (ak m H 18).1 ≤ 9000) (hC : ∀ j, 11 ≤ j → j < 19 → 120000 ≤ C j ∧ C j ≤ 8388608) : mu_TV (mu_D (d + 4)) 133 [.inr (.inr (some m)), .inl (nI c), .inl par, .inl vr] H (fun H1 => dm m H1 ∧ rl m C H H1 ∧ (∀ q, mu_i H1 95 q = mu_i H 95 q) ∧ AI Y (ak m H) (ak m H1) c par a0) := by
  obtain ⟨le1, lf1, lg1⟩ := hF.le hcM (c := 1) (j := 2) (by decide) (by decide) rfl
  obtain ⟨le2, lf2, lg2⟩ := hF.le hcM (c := 2) (j := 3) (by decide) (by decide) rfl
  obtain ⟨le3, lf3, lg3⟩ := hF.le hcM (c := 3) (j := 6) (by decide) (by decide) rfl
  have b1 := hF.2.2.2.2 1 (by decide)
  have b3 := hF.2.2.2.2 3 (by decide)
  have b5 := hF.2.2.2.2 5 (by decide)
  have en1 : np Y c = sp Y (c + 1) 1 - sp Y c 1 := rfl
  have en2 : nv Y c = sp Y (c + 1) 2 - sp Y c 2 := rfl
  have en3 : ndU Y c = sp Y (c + 1) 3 - sp Y c 3 := rfl
  obtain ⟨hS1, hS2, hS3, hS4⟩ := hS
  refine mu_meth (M := mu_m133) rfl rfl ?_
  refine mw_ht (mu_fn_of (show [0, 1, 2, 3].Nodup by decide)) ?_
  refine mw_go mu_g133 (k := 5) (f1 := (7, [(0, .inr (.inr (some m))), (1, .inl (nI c)), (2, .inl par), (3, .inl vr)], [.inr (.inr (mu_r H m 2)), .inl (1 : Int32), .inl (nI c), .inr (.inr (some m))], H)) (C := [mu_is H (some m) 6]) rfl (show mu_is H (some m) 6 from (show mu_is H (some m) 6 from gi_im h.1 h.2.1)) ?_
  rw [(show mu_r H m 2 = some (m + 5) from (gi_mr h.1 h.2.1 (j := 2) (by decide)).trans (congrArg some (by omega)))]
  refine mw_cIe (fun _ => rfl) (show mu_is H (some m) 6 from (show mu_is H (some m) 6 from gi_im h.1 h.2.1)) (dm.stopr (d := (d + 1)) h rfl (j := 2) (by decide) rfl (c := 1) (by decide) (nI c)) ?_
  rw [show (stp (ak m H) (nI c) 1 2) = (nI (sp Y (c + 1) 1)) from fz.stop hf hF hcM (by decide) (by decide) rfl]
  refine mw_go mu_g133 (k := 2) (f1 := (14, [(0, .inr (.inr (some m))), (1, .inl (nI c)), (2, .inl par), (3, .inl vr)], [.inr (.inr (mu_r H m 1)), .inl (nI (sp Y (c + 1) 1))], H)) (C := [mu_is H (some m) 6]) rfl (show mu_is H (some m) 6 from (show mu_is H (some m) 6 from gi_im h.1 h.2.1)) ?_
  rw [(show mu_r H m 1 = some (m + 3) from (gi_mr h.1 h.2.1 (j := 1) (by decide)).trans (congrArg some (by omega)))]
  refine mw_go mu_g133 (k := 2) (f1 := (16, [(0, .inr (.inr (some m))), (1, .inl (nI c)), (2, .inl par), (3, .inl vr)], [.inl (1 : Int32), .inl (nI c), .inr (.inr (some (m + 3))), .inl (nI (sp Y (c + 1) 1))], H)) (C := []) rfl trivial ?_
  refine mw_cIe (fun _ => rfl) (show mu_is H (some (m + 3)) 10 from (h.1.w (md_w1 h.2.1)).1) (dm.getr (d := (d + 2)) h rfl (j := 1) (by decide) rfl (nI c) (c := 1) (by decide)) ?_
  rw [show (tget ((ak m H) 1) (nI c) 1) = (nI (sp Y c 1)) from fz.start hf hF hcM (by decide) (by decide)]
  refine mw_go mu_g133 (k := 2) (f1 := (22, [(4, .inl ((nI (sp Y (c + 1) 1)) - (nI (sp Y c 1)))), (0, .inr (.inr (some m))), (1, .inl (nI c)), (2, .inl par), (3, .inl vr)], [], H)) (C := []) rfl trivial ?_
  rw [show ((nI (sp Y (c + 1) 1)) - (nI (sp Y c 1))) = nI (np Y c) from pk_sub le1]
  refine mw_go mu_g133 (k := 2) (f1 := (26, [(4, .inl (nI (np Y c))), (0, .inr (.inr (some m))), (1, .inl (nI c)), (2, .inl par), (3, .inl vr)], [.inr (.inr (mu_r H m 11))], H)) (C := [mu_is H (some m) 6]) rfl (show mu_is H (some m) 6 from (show mu_is H (some m) 6 from gi_im h.1 h.2.1)) ?_
  rw [(show mu_r H m 11 = some (m + 23) from (gi_mr h.1 h.2.1 (j := 11) (by decide)).trans (congrArg some (by omega)))]
  refine mw_go mu_g133 (k := 3) (f1 := (31, [(4, .inl (nI (np Y c))), (0, .inr (.inr (some m))), (1, .inl (nI c)), (2, .inl par), (3, .inl vr)], [.inr (.inr (mu_r H m 12)), .inl (nI c), .inr (.inr (some (m + 23)))], H)) (C := [mu_is H (some m) 6]) rfl (show mu_is H (some m) 6 from (show mu_is H (some m) 6 from gi_im h.1 h.2.1)) ?_
  rw [(show mu_r H m 12 = some (m + 25) from (gi_mr h.1 h.2.1 (j := 12) (by decide)).trans (congrArg some (by omega)))]
  refine mw_go mu_g133 (k := 1) (f1 := (34, [(4, .inl (nI (np Y c))), (0, .inr (.inr (some m))), (1, .inl (nI c)), (2, .inl par), (3, .inl vr)], [.inl (mu_i H (m + 25) 2), .inl (nI c), .inr (.inr (some (m + 23)))], H)) (C := [mu_is H (some (m + 25)) 10]) rfl (show mu_is H (some (m + 25)) 10 from (h.1.w (md_w12 h.2.1)).1) ?_
  rw [(show mu_i H (m + 25) 2 = nI ((ak m H) 12).1 from h.size rfl (j := 12) (by decide))]
  refine mw_go mu_g133 (k := 2) (f1 := (38, [(4, .inl (nI (np Y c))), (0, .inr (.inr (some m))), (1, .inl (nI c)), (2, .inl par), (3, .inl vr)], [.inr (.inr (mu_r H m 13)), .inl (nI ((ak m H) 12).1), .inl (nI c), .inr (.inr (some (m + 23)))], H)) (C := [mu_is H (some m) 6]) rfl (show mu_is H (some m) 6 from (show mu_is H (some m) 6 from gi_im h.1 h.2.1)) ?_
  rw [(show mu_r H m 13 = some (m + 27) from (gi_mr h.1 h.2.1 (j := 13) (by decide)).trans (congrArg some (by omega)))]
  refine mw_go mu_g133 (k := 1) (f1 := (41, [(4, .inl (nI (np Y c))), (0, .inr (.inr (some m))), (1, .inl (nI c)), (2, .inl par), (3, .inl vr)], [.inl (mu_i H (m + 27) 2), .inl (nI ((ak m H) 12).1), .inl (nI c), .inr (.inr (some (m + 23)))], H)) (C := [mu_is H (some (m + 27)) 10]) rfl (show mu_is H (some (m + 27)) 10 from (h.1.w (md_w13 h.2.1)).1) ?_
  rw [(show mu_i H (m + 27) 2 = nI ((ak m H) 13).1 from h.size rfl (j := 13) (by decide))]
  refine mw_go mu_g133 (k := 1) (f1 := (43, [(4, .inl (nI (np Y c))), (0, .inr (.inr (some m))), (1, .inl (nI c)), (2, .inl par), (3, .inl vr)], [.inl (nI (np Y c)), .inl (nI ((ak m H) 13).1), .inl (nI ((ak m H) 12).1), .inl (nI c), .inr (.inr (some (m + 23)))], H)) (C := []) rfl trivial ?_
  refine mw_cI (fun _ => rfl) (show mu_is H (some (m + 23)) 10 from (h.1.w (md_w11 h.2.1)).1) (dm.putr (C := C) (d := d) h rfl (j := 11) (by decide) rfl (nI c) (nI ((ak m H) 12).1) (nI ((ak m H) 13).1) (nI (np Y c)) (by have z := hC 11 (by decide) (by decide); show 2 * ((((ak m H) 11).1 + 1) * 4) + 4 ≤ C 11; skip; omega) (hC 11 (by decide) (by decide)).2) (fun x3 H3 q3 => ?_)
  obtain ⟨rfl, hp3, qt3, ha3, qh3⟩ := q3
  have ht3 := (rl.refl m C H).trans qt3
  refine mw_go mu_g133 (k := 3) (f1 := (52, [(5, .inl (nI ((ak m H) 11).1)), (4, .inl (nI (np Y c))), (0, .inr (.inr (some m))), (1, .inl (nI c)), (2, .inl par), (3, .inl vr)], [.inr (.inr (mu_r H3 m 1))], H3)) (C := [mu_is H3 (some m) 6]) rfl (show mu_is H3 (some m) 6 from (show mu_is H3 (some m) 6 from gi_im hp3.1 hp3.2.1)) ?_
  rw [(show mu_r H3 m 1 = some (m + 3) from (gi_mr hp3.1 hp3.2.1 (j := 1) (by decide)).trans (congrArg some (by omega)))]
  refine mw_go mu_g133 (k := 3) (f1 := (56, [(5, .inl (nI ((ak m H) 11).1)), (4, .inl (nI (np Y c))), (0, .inr (.inr (some m))), (1, .inl (nI c)), (2, .inl par), (3, .inl vr)], [.inl (1 : Int32), .inl (7 : Int32), .inl (nI c), .inr (.inr (some (m + 3)))], H3)) (C := []) rfl trivial ?_
  refine mw_cV (fun _ => rfl) (show mu_is H3 (some (m + 3)) 10 from (hp3.1.w (md_w1 hp3.2.1)).1) (dm.setr (C := C) (d := (d + 2)) hp3 ha3 (j := 1) (by decide) rfl (nI c) (1 : Int32) (c := 7) (by decide)) (fun H4 q4 => ?_)
  obtain ⟨hp4, qt4, ha4, qh4⟩ := q4
  have ht4 := ht3.trans qt4
  refine mw_go mu_g133 (k := 2) (f1 := (63, [(5, .inl (nI ((ak m H) 11).1)), (4, .inl (nI (np Y c))), (0, .inr (.inr (some m))), (1, .inl (nI c)), (2, .inl par), (3, .inl vr)], [.inr (.inr (mu_r H4 m 1))], H4)) (C := [mu_is H4 (some m) 6]) rfl (show mu_is H4 (some m) 6 from (show mu_is H4 (some m) 6 from gi_im hp4.1 hp4.2.1)) ?_
  rw [(show mu_r H4 m 1 = some (m + 3) from (gi_mr hp4.1 hp4.2.1 (j := 1) (by decide)).trans (congrArg some (by omega)))]
  refine mw_go mu_g133 (k := 2) (f1 := (65, [(5, .inl (nI ((ak m H) 11).1)), (4, .inl (nI (np Y c))), (0, .inr (.inr (some m))), (1, .inl (nI c)), (2, .inl par), (3, .inl vr)], [.inl (2 : Int32), .inl (nI c), .inr (.inr (some (m + 3)))], H4)) (C := []) rfl trivial ?_
  refine mw_cIe (fun _ => rfl) (show mu_is H4 (some (m + 3)) 10 from (hp4.1.w (md_w1 hp4.2.1)).1) (dm.getr (d := (d + 2)) hp4 ha4 (j := 1) (by decide) rfl (nI c) (c := 2) (by decide)) ?_
  rw [show (tget ((ax 1 (ap 11 (ak m H) (nI c) (nI ((ak m H) 12).1) (nI ((ak m H) 13).1) (nI (np Y c))) (nI c) 7 (1 : Int32)) 1) (nI c) 2) = (nI (sp Y c 2)) from fz.start (hf.ap (j := 11) (by decide) (by decide)).used hF hcM (by decide) (by decide)]
  refine mw_go mu_g133 (k := 1) (f1 := (70, [(6, .inl (nI (sp Y c 2))), (5, .inl (nI ((ak m H) 11).1)), (4, .inl (nI (np Y c))), (0, .inr (.inr (some m))), (1, .inl (nI c)), (2, .inl par), (3, .inl vr)], [], H4)) (C := []) rfl trivial ?_
  refine mw_sub (L' := [(6, .inl (nI (sp Y c 2))), (0, .inr (.inr (some m))), (1, .inl (nI c)), (2, .inl par), (3, .inl vr), (4, .inl (nI (np Y c))), (5, .inl (nI ((ak m H) 11).1))]) (by simp) ?_
  refine mw_down (α := Nat × mu_H) (fun zs => (70, [(6, .inl (nI zs.1)), (0, .inr (.inr (some m))), (1, .inl (nI c)), (2, .inl par), (3, .inl vr), (4, .inl (nI (np Y c))), (5, .inl (nI ((ak m H) 11).1))], [], zs.2)) (fun zs => sp Y (c + 1) 2 - zs.1) (fun zs => dm m zs.2 ∧ rl m C H zs.2 ∧ (sp Y c 2 ≤ zs.1) ∧ (zs.1 ≤ sp Y (c + 1) 2) ∧ (app 12 (ak m H4) (ak m zs.2) (zs.1 - sp Y c 2)) ∧ (fz Y (ak m zs.2)) ∧ (∀ q, mu_i zs.2 95 q = mu_i H 95 q)) (fun zs hza iha => ?_) (sp Y c 2, H4) ⟨hp4, ht4, (show sp Y c 2 ≤ (sp Y c 2) from by omega), (show (sp Y c 2) ≤ sp Y (c + 1) 2 from by omega), (show app 12 (ak m H4) (ak m H4) ((sp Y c 2) - sp Y c 2) from (by rw [Nat.sub_self]; exact app.refl 12 _)), (show fz Y (ak m H4) from (by rw [ha4]; exact (hf.ap (j := 11) (by decide) (by decide)).used)), (show ∀ q, mu_i H4 95 q = mu_i H 95 q from (fun q => (qh4 q).trans ((qh3 q).trans (rfl))))⟩
  obtain ⟨k, Hsa⟩ := zs
  obtain ⟨hpa, hta, hk1, hk2, hap, hfz, h95⟩ := hza
  have hpa : dm m Hsa := hpa
  have hta : rl m C H Hsa := hta
  have hk1 : sp Y c 2 ≤ k := hk1
  have hk2 : k ≤ sp Y (c + 1) 2 := hk2
  have hap : app 12 (ak m H4) (ak m Hsa) (k - sp Y c 2) := hap
  have hfz : fz Y (ak m Hsa) := hfz
  have h95 : ∀ q, mu_i Hsa 95 q = mu_i H 95 q := h95
  show mu_W _ _ (70, [(6, .inl (nI k)), (0, .inr (.inr (some m))), (1, .inl (nI c)), (2, .inl par), (3, .inl vr), (4, .inl (nI (np Y c))), (5, .inl (nI ((ak m H) 11).1))], [], Hsa) _
  refine mw_go mu_g133 (k := 6) (f1 := (79, [(6, .inl (nI k)), (0, .inr (.inr (some m))), (1, .inl (nI c)), (2, .inl par), (3, .inl vr), (4, .inl (nI (np Y c))), (5, .inl (nI ((ak m H) 11).1))], [.inr (.inr (mu_r Hsa m 3)), .inl (2 : Int32), .inl (nI c), .inr (.inr (some m)), .inl (nI k)], Hsa)) (C := [mu_is Hsa (some m) 6]) rfl (show mu_is Hsa (some m) 6 from (show mu_is Hsa (some m) 6 from gi_im hpa.1 hpa.2.1)) ?_
  rw [(show mu_r Hsa m 3 = some (m + 7) from (gi_mr hpa.1 hpa.2.1 (j := 3) (by decide)).trans (congrArg some (by omega)))]
  refine mw_cIe (fun _ => rfl) (show mu_is Hsa (some m) 6 from (show mu_is Hsa (some m) 6 from gi_im hpa.1 hpa.2.1)) (dm.stopr (d := (d + 1)) hpa rfl (j := 3) (by decide) rfl (c := 2) (by decide) (nI c)) ?_
  rw [show (stp (ak m Hsa) (nI c) 2 3) = (nI (sp Y (c + 1) 2)) from fz.stop hfz hF hcM (by decide) (by decide) rfl]
  refine mw_if (P := (nI k) < (nI (sp Y (c + 1) 2))) (a := 85) (b := 103) (fun _ => rfl) trivial (fun h7 => ?_) (fun h7 => ?_)
  · -- 85: (nI k) < (nI (sp Y (c + 1) 2))
    have hkb : k < sp Y (c + 1) 2 := (nI_ltI (by omega) (by omega)).mp h7
    refine mw_go mu_g133 (k := 2) (f1 := (89, [(6, .inl (nI k)), (0, .inr (.inr (some m))), (1, .inl (nI c)), (2, .inl par), (3, .inl vr), (4, .inl (nI (np Y c))), (5, .inl (nI ((ak m H) 11).1))], [.inr (.inr (mu_r Hsa m 12))], Hsa)) (C := [mu_is Hsa (some m) 6]) rfl (show mu_is Hsa (some m) 6 from (show mu_is Hsa (some m) 6 from gi_im hpa.1 hpa.2.1)) ?_
    rw [(show mu_r Hsa m 12 = some (m + 25) from (gi_mr hpa.1 hpa.2.1 (j := 12) (by decide)).trans (congrArg some (by omega)))]
    refine mw_go mu_g133 (k := 4) (f1 := (93, [(6, .inl (nI k)), (0, .inr (.inr (some m))), (1, .inl (nI c)), (2, .inl par), (3, .inl vr), (4, .inl (nI (np Y c))), (5, .inl (nI ((ak m H) 11).1))], [.inl (0 : Int32), .inl (0 : Int32), .inl (0 : Int32), .inl (-1 : Int32), .inr (.inr (some (m + 25)))], Hsa)) (C := []) rfl trivial ?_
    refine mw_cI (fun _ => rfl) (show mu_is Hsa (some (m + 25)) 10 from (hpa.1.w (md_w12 hpa.2.1)).1) (dm.putr (C := C) (d := d) hpa rfl (j := 12) (by decide) rfl (-1 : Int32) (0 : Int32) (0 : Int32) (0 : Int32) (by have z := hC 12 (by decide) (by decide); show 2 * ((((ak m Hsa) 12).1 + 1) * 1) + 1 ≤ C 12; have z2 := hap.2.1; have z3 : (ak m H4 12).1 = (ak m H 12).1 := (by rw [ha4]; rfl); omega) (hC 12 (by decide) (by decide)).2) (fun x8 H8 q8 => ?_)
    obtain ⟨rfl, hp8, qt8, ha8, qh8⟩ := q8
    have ht8 := hta.trans qt8
    refine mw_go mu_g133 (k := 3) (f1 := (70, [(6, .inl ((nI k) + 1)), (0, .inr (.inr (some m))), (1, .inl (nI c)), (2, .inl par), (3, .inl vr), (4, .inl (nI (np Y c))), (5, .inl (nI ((ak m H) 11).1))], [], H8)) (C := []) rfl trivial ?_
    rw [nI_1 k]
    exact mw_sub (by simp) (iha (k + 1, H8) ⟨hp8, ht8, (show sp Y c 2 ≤ (k + 1) from by omega), (show (k + 1) ≤ sp Y (c + 1) 2 from by omega), (show app 12 (ak m H4) (ak m H8) ((k + 1) - sp Y c 2) from (by rw [ha8, show k + 1 - sp Y c 2 = k - sp Y c 2 + 1 by omega]; exact hap.more)), (show fz Y (ak m H8) from (by rw [ha8]; exact (hfz.ap (j := 12) (by decide) (by decide)))), (show ∀ q, mu_i H8 95 q = mu_i H 95 q from (fun q => (qh8 q).trans (h95 q)))⟩ (by show sp Y (c + 1) 2 - (k + 1) < sp Y (c + 1) 2 - k; omega))
  · -- 103: not (nI k) < (nI (sp Y (c + 1) 2))
    have hkb : ¬ k < sp Y (c + 1) 2 := fun z => h7 (nI_lt z (by omega))
    have hke : k = sp Y (c + 1) 2 := by omega
    rw [hke] at hap
    have hA2 : app 12 (ak m H4) (ak m Hsa) (nv Y c) := hap
    refine mw_go mu_g133 (k := 2) (f1 := (106, [(6, .inl (0 : Int32)), (0, .inr (.inr (some m))), (1, .inl (nI c)), (2, .inl par), (3, .inl vr), (4, .inl (nI (np Y c))), (5, .inl (nI ((ak m H) 11).1))], [], Hsa)) (C := []) rfl trivial ?_
    show mu_W _ _ (106, [(6, .inl (nI 0)), (0, .inr (.inr (some m))), (1, .inl (nI c)), (2, .inl par), (3, .inl vr), (4, .inl (nI (np Y c))), (5, .inl (nI ((ak m H) 11).1))], [], Hsa) _
    refine mw_sub (L' := [(6, .inl (nI 0)), (0, .inr (.inr (some m))), (1, .inl (nI c)), (2, .inl par), (3, .inl vr), (4, .inl (nI (np Y c))), (5, .inl (nI ((ak m H) 11).1))]) (by simp) ?_
    refine mw_down (α := Nat × mu_H) (fun zs => (106, [(6, .inl (nI zs.1)), (0, .inr (.inr (some m))), (1, .inl (nI c)), (2, .inl par), (3, .inl vr), (4, .inl (nI (np Y c))), (5, .inl (nI ((ak m H) 11).1))], [], zs.2)) (fun zs => np Y c - zs.1) (fun zs => dm m zs.2 ∧ rl m C H zs.2 ∧ (zs.1 ≤ np Y c) ∧ (app 13 (ak m Hsa) (ak m zs.2) zs.1) ∧ (∀ q, q < zs.1 → (ak m zs.2 13).2 ((ak m Hsa 13).1 + q) 0 = (Y 5).2 (a0 + q) 0 ∧ (ak m zs.2 13).2 ((ak m Hsa 13).1 + q) 1 = (Y 5).2 (a0 + q) 1 ∧ (ak m zs.2 13).2 ((ak m Hsa 13).1 + q) 2 = par ∧ (ak m zs.2 13).2 ((ak m Hsa 13).1 + q) 5 = 0) ∧ (fz Y (ak m zs.2)) ∧ (∀ q, mu_i zs.2 95 q = mu_i H 95 q)) (fun zs hzb ihb => ?_) (0, Hsa) ⟨hpa, hta, (show 0 ≤ np Y c from by omega), (show app 13 (ak m Hsa) (ak m Hsa) 0 from (app.refl 13 _)), (show ∀ q, q < 0 → (ak m Hsa 13).2 ((ak m Hsa 13).1 + q) 0 = (Y 5).2 (a0 + q) 0 ∧ (ak m Hsa 13).2 ((ak m Hsa 13).1 + q) 1 = (Y 5).2 (a0 + q) 1 ∧ (ak m Hsa 13).2 ((ak m Hsa 13).1 + q) 2 = par ∧ (ak m Hsa 13).2 ((ak m Hsa 13).1 + q) 5 = 0 from (fun q hq => absurd hq (Nat.not_lt_zero q))), (show fz Y (ak m Hsa) from hfz), (show ∀ q, mu_i Hsa 95 q = mu_i H 95 q from h95)⟩
    obtain ⟨p, Hsb⟩ := zs
    obtain ⟨hpb, htb, hp1, hap, hrw, hfz, h95⟩ := hzb
    have hpb : dm m Hsb := hpb
    have htb : rl m C H Hsb := htb
    have hp1 : p ≤ np Y c := hp1
    have hap : app 13 (ak m Hsa) (ak m Hsb) p := hap
    have hrw : ∀ q, q < p → (ak m Hsb 13).2 ((ak m Hsa 13).1 + q) 0 = (Y 5).2 (a0 + q) 0 ∧ (ak m Hsb 13).2 ((ak m Hsa 13).1 + q) 1 = (Y 5).2 (a0 + q) 1 ∧ (ak m Hsb 13).2 ((ak m Hsa 13).1 + q) 2 = par ∧ (ak m Hsb 13).2 ((ak m Hsa 13).1 + q) 5 = 0 := hrw
    have hfz : fz Y (ak m Hsb) := hfz
    have h95 : ∀ q, mu_i Hsb 95 q = mu_i H 95 q := h95
    show mu_W _ _ (106, [(6, .inl (nI p)), (0, .inr (.inr (some m))), (1, .inl (nI c)), (2, .inl par), (3, .inl vr), (4, .inl (nI (np Y c))), (5, .inl (nI ((ak m H) 11).1))], [], Hsb) _
    refine mw_go mu_g133 (k := 2) (f1 := (110, [(6, .inl (nI p)), (0, .inr (.inr (some m))), (1, .inl (nI c)), (2, .inl par), (3, .inl vr), (4, .inl (nI (np Y c))), (5, .inl (nI ((ak m H) 11).1))], [.inl (nI (np Y c)), .inl (nI p)], Hsb)) (C := []) rfl trivial ?_
    refine mw_if (P := (nI p) < (nI (np Y c))) (a := 113) (b := 163) (fun _ => rfl) trivial (fun h9 => ?_) (fun h9 => ?_)
    · -- 113: (nI p) < (nI (np Y c))
      have hpx : p < np Y c := (nI_ltI (by omega) (by omega)).mp h9
      obtain ⟨v, ev, ea0, hv3, ha05⟩ := hv.resolve_left (by omega)
      refine mw_go mu_g133 (k := 2) (f1 := (117, [(6, .inl (nI p)), (0, .inr (.inr (some m))), (1, .inl (nI c)), (2, .inl par), (3, .inl vr), (4, .inl (nI (np Y c))), (5, .inl (nI ((ak m H) 11).1))], [.inr (.inr (mu_r Hsb m 3))], Hsb)) (C := [mu_is Hsb (some m) 6]) rfl (show mu_is Hsb (some m) 6 from (show mu_is Hsb (some m) 6 from gi_im hpb.1 hpb.2.1)) ?_
      rw [(show mu_r Hsb m 3 = some (m + 7) from (gi_mr hpb.1 hpb.2.1 (j := 3) (by decide)).trans (congrArg some (by omega)))]
      refine mw_go mu_g133 (k := 2) (f1 := (119, [(6, .inl (nI p)), (0, .inr (.inr (some m))), (1, .inl (nI c)), (2, .inl par), (3, .inl vr), (4, .inl (nI (np Y c))), (5, .inl (nI ((ak m H) 11).1))], [.inl (2 : Int32), .inl vr, .inr (.inr (some (m + 7)))], Hsb)) (C := []) rfl trivial ?_
      refine mw_cIe (fun _ => rfl) (show mu_is Hsb (some (m + 7)) 10 from (hpb.1.w (md_w3 hpb.2.1)).1) (dm.getr (d := (d + 2)) hpb rfl (j := 3) (by decide) rfl vr (c := 2) (by decide)) ?_
      rw [show (tget ((ak m Hsb) 3) vr 2) = (nI a0) from (by rw [ev]; exact (fz.g hfz (by omega) (by decide) (by decide)).trans ea0)]
      refine mw_go mu_g133 (k := 5) (f1 := (131, [(7, .inl ((nI a0) + (nI p))), (6, .inl (nI p)), (0, .inr (.inr (some m))), (1, .inl (nI c)), (2, .inl par), (3, .inl vr), (4, .inl (nI (np Y c))), (5, .inl (nI ((ak m H) 11).1))], [.inr (.inr (mu_r Hsb m 13))], Hsb)) (C := [mu_is Hsb (some m) 6]) rfl (show mu_is Hsb (some m) 6 from (show mu_is Hsb (some m) 6 from gi_im hpb.1 hpb.2.1)) ?_
      rw [(show mu_r Hsb m 13 = some (m + 27) from (gi_mr hpb.1 hpb.2.1 (j := 13) (by decide)).trans (congrArg some (by omega)))]
      refine mw_go mu_g133 (k := 2) (f1 := (135, [(7, .inl ((nI a0) + (nI p))), (6, .inl (nI p)), (0, .inr (.inr (some m))), (1, .inl (nI c)), (2, .inl par), (3, .inl vr), (4, .inl (nI (np Y c))), (5, .inl (nI ((ak m H) 11).1))], [.inr (.inr (mu_r Hsb m 5)), .inr (.inr (some (m + 27)))], Hsb)) (C := [mu_is Hsb (some m) 6]) rfl (show mu_is Hsb (some m) 6 from (show mu_is Hsb (some m) 6 from gi_im hpb.1 hpb.2.1)) ?_
      rw [(show mu_r Hsb m 5 = some (m + 11) from (gi_mr hpb.1 hpb.2.1 (j := 5) (by decide)).trans (congrArg some (by omega)))]
      refine mw_go mu_g133 (k := 2) (f1 := (138, [(7, .inl ((nI a0) + (nI p))), (6, .inl (nI p)), (0, .inr (.inr (some m))), (1, .inl (nI c)), (2, .inl par), (3, .inl vr), (4, .inl (nI (np Y c))), (5, .inl (nI ((ak m H) 11).1))], [.inl (0 : Int32), .inl ((nI a0) + (nI p)), .inr (.inr (some (m + 11))), .inr (.inr (some (m + 27)))], Hsb)) (C := []) rfl trivial ?_
      refine mw_cIe (fun _ => rfl) (show mu_is Hsb (some (m + 11)) 10 from (hpb.1.w (md_w5 hpb.2.1)).1) (dm.getr (d := (d + 2)) hpb rfl (j := 5) (by decide) rfl ((nI a0) + (nI p)) (c := 0) (by decide)) ?_
      rw [show (tget ((ak m Hsb) 5) ((nI a0) + (nI p)) 0) = ((Y 5).2 (a0 + p) 0) from (by rw [nI_add]; exact fz.g hfz (by omega) (by decide) (by decide))]
      refine mw_go mu_g133 (k := 2) (f1 := (145, [(7, .inl ((nI a0) + (nI p))), (6, .inl (nI p)), (0, .inr (.inr (some m))), (1, .inl (nI c)), (2, .inl par), (3, .inl vr), (4, .inl (nI (np Y c))), (5, .inl (nI ((ak m H) 11).1))], [.inr (.inr (mu_r Hsb m 5)), .inl ((Y 5).2 (a0 + p) 0), .inr (.inr (some (m + 27)))], Hsb)) (C := [mu_is Hsb (some m) 6]) rfl (show mu_is Hsb (some m) 6 from (show mu_is Hsb (some m) 6 from gi_im hpb.1 hpb.2.1)) ?_
      rw [(show mu_r Hsb m 5 = some (m + 11) from (gi_mr hpb.1 hpb.2.1 (j := 5) (by decide)).trans (congrArg some (by omega)))]
      refine mw_go mu_g133 (k := 2) (f1 := (148, [(7, .inl ((nI a0) + (nI p))), (6, .inl (nI p)), (0, .inr (.inr (some m))), (1, .inl (nI c)), (2, .inl par), (3, .inl vr), (4, .inl (nI (np Y c))), (5, .inl (nI ((ak m H) 11).1))], [.inl (1 : Int32), .inl ((nI a0) + (nI p)), .inr (.inr (some (m + 11))), .inl ((Y 5).2 (a0 + p) 0), .inr (.inr (some (m + 27)))], Hsb)) (C := []) rfl trivial ?_
      refine mw_cIe (fun _ => rfl) (show mu_is Hsb (some (m + 11)) 10 from (hpb.1.w (md_w5 hpb.2.1)).1) (dm.getr (d := (d + 2)) hpb rfl (j := 5) (by decide) rfl ((nI a0) + (nI p)) (c := 1) (by decide)) ?_
      rw [show (tget ((ak m Hsb) 5) ((nI a0) + (nI p)) 1) = ((Y 5).2 (a0 + p) 1) from (by rw [nI_add]; exact fz.g hfz (by omega) (by decide) (by decide))]
      refine mw_go mu_g133 (k := 2) (f1 := (153, [(7, .inl ((nI a0) + (nI p))), (6, .inl (nI p)), (0, .inr (.inr (some m))), (1, .inl (nI c)), (2, .inl par), (3, .inl vr), (4, .inl (nI (np Y c))), (5, .inl (nI ((ak m H) 11).1))], [.inl (0 : Int32), .inl par, .inl ((Y 5).2 (a0 + p) 1), .inl ((Y 5).2 (a0 + p) 0), .inr (.inr (some (m + 27)))], Hsb)) (C := []) rfl trivial ?_
      refine mw_cI (fun _ => rfl) (show mu_is Hsb (some (m + 27)) 10 from (hpb.1.w (md_w13 hpb.2.1)).1) (dm.putr (C := C) (d := d) hpb rfl (j := 13) (by decide) rfl ((Y 5).2 (a0 + p) 0) ((Y 5).2 (a0 + p) 1) par (0 : Int32) (by have z := hC 13 (by decide) (by decide); show 2 * ((((ak m Hsb) 13).1 + 1) * 6) + 6 ≤ C 13; have z2 := hap.2.1; have z4 : (ak m Hsa 13).1 = (ak m H 13).1 := (by rw [hA2.1 13 (by decide), ha4]; rfl); omega) (hC 13 (by decide) (by decide)).2) (fun x13 H13 q13 => ?_)
      obtain ⟨rfl, hp13, qt13, ha13, qh13⟩ := q13
      have ht13 := htb.trans qt13
      refine mw_go mu_g133 (k := 3) (f1 := (106, [(6, .inl ((nI p) + 1)), (7, .inl ((nI a0) + (nI p))), (0, .inr (.inr (some m))), (1, .inl (nI c)), (2, .inl par), (3, .inl vr), (4, .inl (nI (np Y c))), (5, .inl (nI ((ak m H) 11).1))], [], H13)) (C := []) rfl trivial ?_
      rw [nI_1 p]
      exact mw_sub (by simp) (ihb (p + 1, H13) ⟨hp13, ht13, (show (p + 1) ≤ np Y c from by omega), (show app 13 (ak m Hsa) (ak m H13) (p + 1) from (by rw [ha13]; exact hap.more)), (show ∀ q, q < (p + 1) → (ak m H13 13).2 ((ak m Hsa 13).1 + q) 0 = (Y 5).2 (a0 + q) 0 ∧ (ak m H13 13).2 ((ak m Hsa 13).1 + q) 1 = (Y 5).2 (a0 + q) 1 ∧ (ak m H13 13).2 ((ak m Hsa 13).1 + q) 2 = par ∧ (ak m H13 13).2 ((ak m Hsa 13).1 + q) 5 = 0 from (fun q hq => by rw [ha13]; by_cases hq2 : q < p; exact (hrw q hq2).imp (fun z => (ap_lt (by rw [hap.2.1]; omega)).trans z) (fun z => z.imp (fun z => (ap_lt (by rw [hap.2.1]; omega)).trans z) (fun z => z.imp (fun z => (ap_lt (by rw [hap.2.1]; omega)).trans z) (fun z => (ap_lt (by rw [hap.2.1]; omega)).trans z))); have hqe : q = p := (by omega); subst hqe; rw [← hap.2.1]; exact ⟨ap_new (by decide), ap_new (by decide), ap_new (by decide), ap_new (by decide)⟩)), (show fz Y (ak m H13) from (by rw [ha13]; exact (hfz.ap (j := 13) (by decide) (by decide)))), (show ∀ q, mu_i H13 95 q = mu_i H 95 q from (fun q => (qh13 q).trans (h95 q)))⟩ (by show np Y c - (p + 1) < np Y c - p; omega))
    · -- 163: not (nI p) < (nI (np Y c))
      have hpx : ¬ p < np Y c := fun z => h9 (nI_lt z (by omega))
      have hpe : p = np Y c := by omega
      rw [hpe] at hap hrw
      have hA3 : app 13 (ak m Hsa) (ak m Hsb) (np Y c) := hap
      have hR3 := hrw
      refine mw_go mu_g133 (k := 2) (f1 := (167, [(6, .inl (nI p)), (0, .inr (.inr (some m))), (1, .inl (nI c)), (2, .inl par), (3, .inl vr), (4, .inl (nI (np Y c))), (5, .inl (nI ((ak m H) 11).1))], [.inr (.inr (mu_r Hsb m 1))], Hsb)) (C := [mu_is Hsb (some m) 6]) rfl (show mu_is Hsb (some m) 6 from (show mu_is Hsb (some m) 6 from gi_im hpb.1 hpb.2.1)) ?_
      rw [(show mu_r Hsb m 1 = some (m + 3) from (gi_mr hpb.1 hpb.2.1 (j := 1) (by decide)).trans (congrArg some (by omega)))]
      refine mw_go mu_g133 (k := 2) (f1 := (169, [(6, .inl (nI p)), (0, .inr (.inr (some m))), (1, .inl (nI c)), (2, .inl par), (3, .inl vr), (4, .inl (nI (np Y c))), (5, .inl (nI ((ak m H) 11).1))], [.inl (3 : Int32), .inl (nI c), .inr (.inr (some (m + 3)))], Hsb)) (C := []) rfl trivial ?_
      refine mw_cIe (fun _ => rfl) (show mu_is Hsb (some (m + 3)) 10 from (hpb.1.w (md_w1 hpb.2.1)).1) (dm.getr (d := (d + 2)) hpb rfl (j := 1) (by decide) rfl (nI c) (c := 3) (by decide)) ?_
      rw [show (tget ((ak m Hsb) 1) (nI c) 3) = (nI (sp Y c 3)) from fz.start hfz hF hcM (by decide) (by decide)]
      refine mw_go mu_g133 (k := 1) (f1 := (174, [(6, .inl (nI (sp Y c 3))), (0, .inr (.inr (some m))), (1, .inl (nI c)), (2, .inl par), (3, .inl vr), (4, .inl (nI (np Y c))), (5, .inl (nI ((ak m H) 11).1))], [], Hsb)) (C := []) rfl trivial ?_
      refine mw_sub (L' := [(6, .inl (nI (sp Y c 3))), (0, .inr (.inr (some m))), (1, .inl (nI c)), (2, .inl par), (3, .inl vr), (4, .inl (nI (np Y c))), (5, .inl (nI ((ak m H) 11).1))]) (by simp) ?_
      refine mw_down (α := Nat × mu_H) (fun zs => (174, [(6, .inl (nI zs.1)), (0, .inr (.inr (some m))), (1, .inl (nI c)), (2, .inl par), (3, .inl vr), (4, .inl (nI (np Y c))), (5, .inl (nI ((ak m H) 11).1))], [], zs.2)) (fun zs => sp Y (c + 1) 3 - zs.1) (fun zs => dm m zs.2 ∧ rl m C H zs.2 ∧ (sp Y c 3 ≤ zs.1) ∧ (zs.1 ≤ sp Y (c + 1) 3) ∧ (app 13 (ak m Hsb) (ak m zs.2) (zs.1 - sp Y c 3)) ∧ (∀ q, q < zs.1 - sp Y c 3 → (ak m zs.2 13).2 ((ak m Hsb 13).1 + q) 0 = (Y 6).2 (sp Y c 3 + q) 1 ∧ (ak m zs.2 13).2 ((ak m Hsb 13).1 + q) 1 = (Y 6).2 (sp Y c 3 + q) 2 ∧ (ak m zs.2 13).2 ((ak m Hsb 13).1 + q) 2 = nI (ak m H 11).1 ∧ (ak m zs.2 13).2 ((ak m Hsb 13).1 + q) 5 = 0) ∧ (fz Y (ak m zs.2)) ∧ (∀ q, mu_i zs.2 95 q = mu_i H 95 q)) (fun zs hzc ihc => ?_) (sp Y c 3, Hsb) ⟨hpb, htb, (show sp Y c 3 ≤ (sp Y c 3) from by omega), (show (sp Y c 3) ≤ sp Y (c + 1) 3 from by omega), (show app 13 (ak m Hsb) (ak m Hsb) ((sp Y c 3) - sp Y c 3) from (by rw [Nat.sub_self]; exact app.refl 13 _)), (show ∀ q, q < (sp Y c 3) - sp Y c 3 → (ak m Hsb 13).2 ((ak m Hsb 13).1 + q) 0 = (Y 6).2 (sp Y c 3 + q) 1 ∧ (ak m Hsb 13).2 ((ak m Hsb 13).1 + q) 1 = (Y 6).2 (sp Y c 3 + q) 2 ∧ (ak m Hsb 13).2 ((ak m Hsb 13).1 + q) 2 = nI (ak m H 11).1 ∧ (ak m Hsb 13).2 ((ak m Hsb 13).1 + q) 5 = 0 from (fun q hq => absurd hq (by rw [Nat.sub_self]; exact Nat.not_lt_zero q))), (show fz Y (ak m Hsb) from hfz), (show ∀ q, mu_i Hsb 95 q = mu_i H 95 q from h95)⟩
      obtain ⟨k, Hsc⟩ := zs
      obtain ⟨hpc, htc, hk1, hk2, hap, hrw, hfz, h95⟩ := hzc
      have hpc : dm m Hsc := hpc
      have htc : rl m C H Hsc := htc
      have hk1 : sp Y c 3 ≤ k := hk1
      have hk2 : k ≤ sp Y (c + 1) 3 := hk2
      have hap : app 13 (ak m Hsb) (ak m Hsc) (k - sp Y c 3) := hap
      have hrw : ∀ q, q < k - sp Y c 3 → (ak m Hsc 13).2 ((ak m Hsb 13).1 + q) 0 = (Y 6).2 (sp Y c 3 + q) 1 ∧ (ak m Hsc 13).2 ((ak m Hsb 13).1 + q) 1 = (Y 6).2 (sp Y c 3 + q) 2 ∧ (ak m Hsc 13).2 ((ak m Hsb 13).1 + q) 2 = nI (ak m H 11).1 ∧ (ak m Hsc 13).2 ((ak m Hsb 13).1 + q) 5 = 0 := hrw
      have hfz : fz Y (ak m Hsc) := hfz
      have h95 : ∀ q, mu_i Hsc 95 q = mu_i H 95 q := h95
      show mu_W _ _ (174, [(6, .inl (nI k)), (0, .inr (.inr (some m))), (1, .inl (nI c)), (2, .inl par), (3, .inl vr), (4, .inl (nI (np Y c))), (5, .inl (nI ((ak m H) 11).1))], [], Hsc) _
      refine mw_go mu_g133 (k := 6) (f1 := (183, [(6, .inl (nI k)), (0, .inr (.inr (some m))), (1, .inl (nI c)), (2, .inl par), (3, .inl vr), (4, .inl (nI (np Y c))), (5, .inl (nI ((ak m H) 11).1))], [.inr (.inr (mu_r Hsc m 6)), .inl (3 : Int32), .inl (nI c), .inr (.inr (some m)), .inl (nI k)], Hsc)) (C := [mu_is Hsc (some m) 6]) rfl (show mu_is Hsc (some m) 6 from (show mu_is Hsc (some m) 6 from gi_im hpc.1 hpc.2.1)) ?_
      rw [(show mu_r Hsc m 6 = some (m + 13) from (gi_mr hpc.1 hpc.2.1 (j := 6) (by decide)).trans (congrArg some (by omega)))]
      refine mw_cIe (fun _ => rfl) (show mu_is Hsc (some m) 6 from (show mu_is Hsc (some m) 6 from gi_im hpc.1 hpc.2.1)) (dm.stopr (d := (d + 1)) hpc rfl (j := 6) (by decide) rfl (c := 3) (by decide) (nI c)) ?_
      rw [show (stp (ak m Hsc) (nI c) 3 6) = (nI (sp Y (c + 1) 3)) from fz.stop hfz hF hcM (by decide) (by decide) rfl]
      refine mw_if (P := (nI k) < (nI (sp Y (c + 1) 3))) (a := 189) (b := 226) (fun _ => rfl) trivial (fun h16 => ?_) (fun h16 => ?_)
      · -- 189: (nI k) < (nI (sp Y (c + 1) 3))
        have hkb : k < sp Y (c + 1) 3 := (nI_ltI (by omega) (by omega)).mp h16
        refine mw_go mu_g133 (k := 2) (f1 := (193, [(6, .inl (nI k)), (0, .inr (.inr (some m))), (1, .inl (nI c)), (2, .inl par), (3, .inl vr), (4, .inl (nI (np Y c))), (5, .inl (nI ((ak m H) 11).1))], [.inr (.inr (mu_r Hsc m 13))], Hsc)) (C := [mu_is Hsc (some m) 6]) rfl (show mu_is Hsc (some m) 6 from (show mu_is Hsc (some m) 6 from gi_im hpc.1 hpc.2.1)) ?_
        rw [(show mu_r Hsc m 13 = some (m + 27) from (gi_mr hpc.1 hpc.2.1 (j := 13) (by decide)).trans (congrArg some (by omega)))]
        refine mw_go mu_g133 (k := 2) (f1 := (197, [(6, .inl (nI k)), (0, .inr (.inr (some m))), (1, .inl (nI c)), (2, .inl par), (3, .inl vr), (4, .inl (nI (np Y c))), (5, .inl (nI ((ak m H) 11).1))], [.inr (.inr (mu_r Hsc m 6)), .inr (.inr (some (m + 27)))], Hsc)) (C := [mu_is Hsc (some m) 6]) rfl (show mu_is Hsc (some m) 6 from (show mu_is Hsc (some m) 6 from gi_im hpc.1 hpc.2.1)) ?_
        rw [(show mu_r Hsc m 6 = some (m + 13) from (gi_mr hpc.1 hpc.2.1 (j := 6) (by decide)).trans (congrArg some (by omega)))]
        refine mw_go mu_g133 (k := 2) (f1 := (200, [(6, .inl (nI k)), (0, .inr (.inr (some m))), (1, .inl (nI c)), (2, .inl par), (3, .inl vr), (4, .inl (nI (np Y c))), (5, .inl (nI ((ak m H) 11).1))], [.inl (1 : Int32), .inl (nI k), .inr (.inr (some (m + 13))), .inr (.inr (some (m + 27)))], Hsc)) (C := []) rfl trivial ?_
        refine mw_cIe (fun _ => rfl) (show mu_is Hsc (some (m + 13)) 10 from (hpc.1.w (md_w6 hpc.2.1)).1) (dm.getr (d := (d + 2)) hpc rfl (j := 6) (by decide) rfl (nI k) (c := 1) (by decide)) ?_
        rw [show (tget ((ak m Hsc) 6) (nI k) 1) = ((Y 6).2 k 1) from fz.g hfz (by omega) (by decide) (by decide)]
        refine mw_go mu_g133 (k := 2) (f1 := (207, [(6, .inl (nI k)), (0, .inr (.inr (some m))), (1, .inl (nI c)), (2, .inl par), (3, .inl vr), (4, .inl (nI (np Y c))), (5, .inl (nI ((ak m H) 11).1))], [.inr (.inr (mu_r Hsc m 6)), .inl ((Y 6).2 k 1), .inr (.inr (some (m + 27)))], Hsc)) (C := [mu_is Hsc (some m) 6]) rfl (show mu_is Hsc (some m) 6 from (show mu_is Hsc (some m) 6 from gi_im hpc.1 hpc.2.1)) ?_
        rw [(show mu_r Hsc m 6 = some (m + 13) from (gi_mr hpc.1 hpc.2.1 (j := 6) (by decide)).trans (congrArg some (by omega)))]
        refine mw_go mu_g133 (k := 2) (f1 := (210, [(6, .inl (nI k)), (0, .inr (.inr (some m))), (1, .inl (nI c)), (2, .inl par), (3, .inl vr), (4, .inl (nI (np Y c))), (5, .inl (nI ((ak m H) 11).1))], [.inl (2 : Int32), .inl (nI k), .inr (.inr (some (m + 13))), .inl ((Y 6).2 k 1), .inr (.inr (some (m + 27)))], Hsc)) (C := []) rfl trivial ?_
        refine mw_cIe (fun _ => rfl) (show mu_is Hsc (some (m + 13)) 10 from (hpc.1.w (md_w6 hpc.2.1)).1) (dm.getr (d := (d + 2)) hpc rfl (j := 6) (by decide) rfl (nI k) (c := 2) (by decide)) ?_
        rw [show (tget ((ak m Hsc) 6) (nI k) 2) = ((Y 6).2 k 2) from fz.g hfz (by omega) (by decide) (by decide)]
        refine mw_go mu_g133 (k := 2) (f1 := (216, [(6, .inl (nI k)), (0, .inr (.inr (some m))), (1, .inl (nI c)), (2, .inl par), (3, .inl vr), (4, .inl (nI (np Y c))), (5, .inl (nI ((ak m H) 11).1))], [.inl (0 : Int32), .inl (nI ((ak m H) 11).1), .inl ((Y 6).2 k 2), .inl ((Y 6).2 k 1), .inr (.inr (some (m + 27)))], Hsc)) (C := []) rfl trivial ?_
        refine mw_cI (fun _ => rfl) (show mu_is Hsc (some (m + 27)) 10 from (hpc.1.w (md_w13 hpc.2.1)).1) (dm.putr (C := C) (d := d) hpc rfl (j := 13) (by decide) rfl ((Y 6).2 k 1) ((Y 6).2 k 2) (nI ((ak m H) 11).1) (0 : Int32) (by have z := hC 13 (by decide) (by decide); show 2 * ((((ak m Hsc) 13).1 + 1) * 6) + 6 ≤ C 13; have z2 := hap.2.1; have z5 := hA3.2.1; have z4 : (ak m Hsa 13).1 = (ak m H 13).1 := (by rw [hA2.1 13 (by decide), ha4]; rfl); omega) (hC 13 (by decide) (by decide)).2) (fun x19 H19 q19 => ?_)
        obtain ⟨rfl, hp19, qt19, ha19, qh19⟩ := q19
        have ht19 := htc.trans qt19
        refine mw_go mu_g133 (k := 3) (f1 := (174, [(6, .inl ((nI k) + 1)), (0, .inr (.inr (some m))), (1, .inl (nI c)), (2, .inl par), (3, .inl vr), (4, .inl (nI (np Y c))), (5, .inl (nI ((ak m H) 11).1))], [], H19)) (C := []) rfl trivial ?_
        rw [nI_1 k]
        exact mw_sub (by simp) (ihc (k + 1, H19) ⟨hp19, ht19, (show sp Y c 3 ≤ (k + 1) from by omega), (show (k + 1) ≤ sp Y (c + 1) 3 from by omega), (show app 13 (ak m Hsb) (ak m H19) ((k + 1) - sp Y c 3) from (by rw [ha19, show k + 1 - sp Y c 3 = k - sp Y c 3 + 1 by omega]; exact hap.more)), (show ∀ q, q < (k + 1) - sp Y c 3 → (ak m H19 13).2 ((ak m Hsb 13).1 + q) 0 = (Y 6).2 (sp Y c 3 + q) 1 ∧ (ak m H19 13).2 ((ak m Hsb 13).1 + q) 1 = (Y 6).2 (sp Y c 3 + q) 2 ∧ (ak m H19 13).2 ((ak m Hsb 13).1 + q) 2 = nI (ak m H 11).1 ∧ (ak m H19 13).2 ((ak m Hsb 13).1 + q) 5 = 0 from (fun q hq => by rw [ha19]; by_cases hq2 : q < k - sp Y c 3; exact (hrw q hq2).imp (fun z => (ap_lt (by rw [hap.2.1]; omega)).trans z) (fun z => z.imp (fun z => (ap_lt (by rw [hap.2.1]; omega)).trans z) (fun z => z.imp (fun z => (ap_lt (by rw [hap.2.1]; omega)).trans z) (fun z => (ap_lt (by rw [hap.2.1]; omega)).trans z))); have hqe : q = k - sp Y c 3 := (by omega); subst hqe; rw [← hap.2.1, show sp Y c 3 + (k - sp Y c 3) = k by omega]; exact ⟨ap_new (by decide), ap_new (by decide), ap_new (by decide), ap_new (by decide)⟩)), (show fz Y (ak m H19) from (by rw [ha19]; exact (hfz.ap (j := 13) (by decide) (by decide)))), (show ∀ q, mu_i H19 95 q = mu_i H 95 q from (fun q => (qh19 q).trans (h95 q)))⟩ (by show sp Y (c + 1) 3 - (k + 1) < sp Y (c + 1) 3 - k; omega))
      · -- 226: not (nI k) < (nI (sp Y (c + 1) 3))
        have hkb : ¬ k < sp Y (c + 1) 3 := fun z => h16 (nI_lt z (by omega))
        have hke : k = sp Y (c + 1) 3 := by omega
        rw [hke] at hap hrw
        have hA4 : app 13 (ak m Hsb) (ak m Hsc) (ndU Y c) := hap
        have hR4 := hrw
        refine mw_go mu_g133 (k := 2) (f1 := (230, [(6, .inl (nI k)), (0, .inr (.inr (some m))), (1, .inl (nI c)), (2, .inl par), (3, .inl vr), (4, .inl (nI (np Y c))), (5, .inl (nI ((ak m H) 11).1))], [.inr (.inr (mu_r Hsc m 18))], Hsc)) (C := [mu_is Hsc (some m) 6]) rfl (show mu_is Hsc (some m) 6 from (show mu_is Hsc (some m) 6 from gi_im hpc.1 hpc.2.1)) ?_
        rw [(show mu_r Hsc m 18 = some (m + 37) from (gi_mr hpc.1 hpc.2.1 (j := 18) (by decide)).trans (congrArg some (by omega)))]
        refine mw_go mu_g133 (k := 3) (f1 := (236, [(6, .inl (nI k)), (0, .inr (.inr (some m))), (1, .inl (nI c)), (2, .inl par), (3, .inl vr), (4, .inl (nI (np Y c))), (5, .inl (nI ((ak m H) 11).1))], [.inr (.inr (mu_r Hsc m 1)), .inl (nI ((ak m H) 11).1), .inr (.inr (some (m + 37)))], Hsc)) (C := [mu_is Hsc (some m) 6]) rfl (show mu_is Hsc (some m) 6 from (show mu_is Hsc (some m) 6 from gi_im hpc.1 hpc.2.1)) ?_
        rw [(show mu_r Hsc m 1 = some (m + 3) from (gi_mr hpc.1 hpc.2.1 (j := 1) (by decide)).trans (congrArg some (by omega)))]
        refine mw_go mu_g133 (k := 2) (f1 := (238, [(6, .inl (nI k)), (0, .inr (.inr (some m))), (1, .inl (nI c)), (2, .inl par), (3, .inl vr), (4, .inl (nI (np Y c))), (5, .inl (nI ((ak m H) 11).1))], [.inl (2 : Int32), .inl (nI c), .inr (.inr (some (m + 3))), .inl (nI ((ak m H) 11).1), .inr (.inr (some (m + 37)))], Hsc)) (C := []) rfl trivial ?_
        refine mw_cIe (fun _ => rfl) (show mu_is Hsc (some (m + 3)) 10 from (hpc.1.w (md_w1 hpc.2.1)).1) (dm.getr (d := (d + 2)) hpc rfl (j := 1) (by decide) rfl (nI c) (c := 2) (by decide)) ?_
        rw [show (tget ((ak m Hsc) 1) (nI c) 2) = (nI (sp Y c 2)) from fz.start hfz hF hcM (by decide) (by decide)]
        refine mw_go mu_g133 (k := 2) (f1 := (243, [(6, .inl (nI k)), (0, .inr (.inr (some m))), (1, .inl (nI c)), (2, .inl par), (3, .inl vr), (4, .inl (nI (np Y c))), (5, .inl (nI ((ak m H) 11).1))], [.inl (0 : Int32), .inl (0 : Int32), .inl (nI (sp Y c 2)), .inl (nI ((ak m H) 11).1), .inr (.inr (some (m + 37)))], Hsc)) (C := []) rfl trivial ?_
        refine mw_cI (fun _ => rfl) (show mu_is Hsc (some (m + 37)) 10 from (hpc.1.w (md_w18 hpc.2.1)).1) (dm.putr (C := C) (d := d) hpc rfl (j := 18) (by decide) rfl (nI ((ak m H) 11).1) (nI (sp Y c 2)) (0 : Int32) (0 : Int32) (by have z := hC 18 (by decide) (by decide); show 2 * ((((ak m Hsc) 18).1 + 1) * 2) + 2 ≤ C 18; have z4 : (ak m Hsc 18).1 = (ak m H 18).1 := (by rw [hA4.1 18 (by decide), hA3.1 18 (by decide), hA2.1 18 (by decide), ha4]; rfl); omega) (hC 18 (by decide) (by decide)).2) (fun x21 H21 q21 => ?_)
        obtain ⟨rfl, hp21, qt21, ha21, qh21⟩ := q21
        have ht21 := htc.trans qt21
        refine mw_go mu_g133 (k := 1) (f1 := (247, [(6, .inl (nI k)), (0, .inr (.inr (some m))), (1, .inl (nI c)), (2, .inl par), (3, .inl vr), (4, .inl (nI (np Y c))), (5, .inl (nI ((ak m H) 11).1))], [], H21)) (C := []) rfl trivial ?_
        have hfin : AI Y (ak m H) (ak m H21) c par a0 := AI.mk (by rw [hf.2.1]; exact hcM) (by omega) ha4 hA2 hA3 hR3 hA4 hR4 ha21
        exact mw_of (fun _ => mu_ret rfl trivial ⟨H21, rfl, hp21, ht21, fun q => (qh21 q).trans (h95 q), hfin⟩)
/-- PathProver$Model.addVar(III)V -/
abbrev mu_m134 : ev_M := (5, none, [], ev_b134)
theorem mu_g134 : mu_good mu_m134 := mu_goodk ev_k134
theorem gr_var (h : dm m H) (hf : fz Y (ak m H)) (hF : FY Y) (hkM : k < (Y 1).1) (hi : i < 9000) (hia : (ak m H 11).2 i 1 = nI a) (hu1 : sp Y k 2 ≤ u) (hu2 : u < (Y 3).1) (hty : (Y 3).2 u 1 = 3 → c < (Y 1).1 ∧ (Y 3).2 u 4 = nI c ∧ (np Y c = 0 ∨ ∃ v, nI u = nI v ∧ (Y 3).2 v 2 = nI a0 ∧ v < (Y 3).1 ∧ a0 + np Y c ≤ (Y 5).1) ∧ (((ax 12 (ak m H) (nI (a + (u - sp Y k 2))) 0 (nI (ak m H 11).1)) 11).1 ≤ 9000 ∧ ((ax 12 (ak m H) (nI (a + (u - sp Y k 2))) 0 (nI (ak m H 11).1)) 12).1 + nv Y c ≤ 9000 ∧ ((ax 12 (ak m H) (nI (a + (u - sp Y k 2))) 0 (nI (ak m H 11).1)) 13).1 + np Y c + ndU Y c ≤ 9000 ∧ ((ax 12 (ak m H) (nI (a + (u - sp Y k 2))) 0 (nI (ak m H 11).1)) 18).1 ≤ 9000)) (h15 : (ak m H 15).1 ≤ 9000) (hC : ∀ j, 11 ≤ j → j < 19 → 120000 ≤ C j ∧ C j ≤ 8388608) : mu_TV (mu_D (d + 5)) 134 [.inr (.inr (some m)), .inl (nI i), .inl (nI k), .inl (nI u)] H (fun H1 => dm m H1 ∧ rl m C H H1 ∧ (∀ q, mu_i H1 95 q = mu_i H 95 q) ∧ ((¬ (Y 3).2 u 1 = 3 ∧ ∃ x y, ak m H1 = ax 12 (ap 15 (ak m H) (nI u) x (-1) y) (nI (a + (u - sp Y k 2))) 0 (nI (ak m H 15).1)) ∨ ((Y 3).2 u 1 = 3 ∧ AI Y (ax 12 (ak m H) (nI (a + (u - sp Y k 2))) 0 (nI (ak m H 11).1)) (ak m H1) c (nI i) a0))) := by
  have b3 := hF.2.2.2.2 3 (by decide)
  refine mu_meth (M := mu_m134) rfl rfl ?_
  refine mw_ht (mu_fn_of (show [0, 1, 2, 3].Nodup by decide)) ?_
  refine mw_go mu_g134 (k := 2) (f1 := (4, [(0, .inr (.inr (some m))), (1, .inl (nI i)), (2, .inl (nI k)), (3, .inl (nI u))], [.inr (.inr (mu_r H m 11))], H)) (C := [mu_is H (some m) 6]) rfl (show mu_is H (some m) 6 from (show mu_is H (some m) 6 from gi_im h.1 h.2.1)) ?_
  rw [(show mu_r H m 11 = some (m + 23) from (gi_mr h.1 h.2.1 (j := 11) (by decide)).trans (congrArg some (by omega)))]
  refine mw_go mu_g134 (k := 2) (f1 := (6, [(0, .inr (.inr (some m))), (1, .inl (nI i)), (2, .inl (nI k)), (3, .inl (nI u))], [.inl (1 : Int32), .inl (nI i), .inr (.inr (some (m + 23)))], H)) (C := []) rfl trivial ?_
  refine mw_cIe (fun _ => rfl) (show mu_is H (some (m + 23)) 10 from (h.1.w (md_w11 h.2.1)).1) (dm.getr (d := (d + 3)) h rfl (j := 11) (by decide) rfl (nI i) (c := 1) (by decide)) ?_
  rw [show (tget ((ak m H) 11) (nI i) 1) = (nI a) from (tget_nI (by omega)).trans hia]
  refine mw_go mu_g134 (k := 4) (f1 := (15, [(0, .inr (.inr (some m))), (1, .inl (nI i)), (2, .inl (nI k)), (3, .inl (nI u))], [.inr (.inr (mu_r H m 1)), .inl ((nI a) + (nI u))], H)) (C := [mu_is H (some m) 6]) rfl (show mu_is H (some m) 6 from (show mu_is H (some m) 6 from gi_im h.1 h.2.1)) ?_
  rw [(show mu_r H m 1 = some (m + 3) from (gi_mr h.1 h.2.1 (j := 1) (by decide)).trans (congrArg some (by omega)))]
  refine mw_go mu_g134 (k := 2) (f1 := (17, [(0, .inr (.inr (some m))), (1, .inl (nI i)), (2, .inl (nI k)), (3, .inl (nI u))], [.inl (2 : Int32), .inl (nI k), .inr (.inr (some (m + 3))), .inl ((nI a) + (nI u))], H)) (C := []) rfl trivial ?_
  refine mw_cIe (fun _ => rfl) (show mu_is H (some (m + 3)) 10 from (h.1.w (md_w1 h.2.1)).1) (dm.getr (d := (d + 3)) h rfl (j := 1) (by decide) rfl (nI k) (c := 2) (by decide)) ?_
  rw [show (tget ((ak m H) 1) (nI k) 2) = (nI (sp Y k 2)) from fz.start hf hF hkM (by decide) (by decide)]
  refine mw_go mu_g134 (k := 2) (f1 := (23, [(4, .inl (((nI a) + (nI u)) - (nI (sp Y k 2)))), (0, .inr (.inr (some m))), (1, .inl (nI i)), (2, .inl (nI k)), (3, .inl (nI u))], [], H)) (C := []) rfl trivial ?_
  rw [show (((nI a) + (nI u)) - (nI (sp Y k 2))) = nI (a + (u - sp Y k 2)) from slot_eq hu1]
  refine mw_go mu_g134 (k := 2) (f1 := (27, [(4, .inl (nI (a + (u - sp Y k 2)))), (0, .inr (.inr (some m))), (1, .inl (nI i)), (2, .inl (nI k)), (3, .inl (nI u))], [.inr (.inr (mu_r H m 3))], H)) (C := [mu_is H (some m) 6]) rfl (show mu_is H (some m) 6 from (show mu_is H (some m) 6 from gi_im h.1 h.2.1)) ?_
  rw [(show mu_r H m 3 = some (m + 7) from (gi_mr h.1 h.2.1 (j := 3) (by decide)).trans (congrArg some (by omega)))]
  refine mw_go mu_g134 (k := 2) (f1 := (29, [(4, .inl (nI (a + (u - sp Y k 2)))), (0, .inr (.inr (some m))), (1, .inl (nI i)), (2, .inl (nI k)), (3, .inl (nI u))], [.inl (1 : Int32), .inl (nI u), .inr (.inr (some (m + 7)))], H)) (C := []) rfl trivial ?_
  refine mw_cIe (fun _ => rfl) (show mu_is H (some (m + 7)) 10 from (h.1.w (md_w3 h.2.1)).1) (dm.getr (d := (d + 3)) h rfl (j := 3) (by decide) rfl (nI u) (c := 1) (by decide)) ?_
  rw [show (tget ((ak m H) 3) (nI u) 1) = ((Y 3).2 u 1) from fz.g hf (by omega) (by decide) (by decide)]
  refine mw_go mu_g134 (k := 1) (f1 := (33, [(4, .inl (nI (a + (u - sp Y k 2)))), (0, .inr (.inr (some m))), (1, .inl (nI i)), (2, .inl (nI k)), (3, .inl (nI u))], [.inl (3 : Int32), .inl ((Y 3).2 u 1)], H)) (C := []) rfl trivial ?_
  refine mw_if (P := ((Y 3).2 u 1) = (3 : Int32)) (a := 36) (b := 71) (fun _ => rfl) trivial (fun h4 => ?_) (fun h4 => ?_)
  · -- 36: ((Y 3).2 u 1) = (3 : Int32)
    obtain ⟨hcM, hu4, hv, hS⟩ := hty h4
    refine mw_go mu_g134 (k := 2) (f1 := (40, [(4, .inl (nI (a + (u - sp Y k 2)))), (0, .inr (.inr (some m))), (1, .inl (nI i)), (2, .inl (nI k)), (3, .inl (nI u))], [.inr (.inr (mu_r H m 12))], H)) (C := [mu_is H (some m) 6]) rfl (show mu_is H (some m) 6 from (show mu_is H (some m) 6 from gi_im h.1 h.2.1)) ?_
    rw [(show mu_r H m 12 = some (m + 25) from (gi_mr h.1 h.2.1 (j := 12) (by decide)).trans (congrArg some (by omega)))]
    refine mw_go mu_g134 (k := 4) (f1 := (47, [(4, .inl (nI (a + (u - sp Y k 2)))), (0, .inr (.inr (some m))), (1, .inl (nI i)), (2, .inl (nI k)), (3, .inl (nI u))], [.inr (.inr (mu_r H m 11)), .inl (0 : Int32), .inl (nI (a + (u - sp Y k 2))), .inr (.inr (some (m + 25)))], H)) (C := [mu_is H (some m) 6]) rfl (show mu_is H (some m) 6 from (show mu_is H (some m) 6 from gi_im h.1 h.2.1)) ?_
    rw [(show mu_r H m 11 = some (m + 23) from (gi_mr h.1 h.2.1 (j := 11) (by decide)).trans (congrArg some (by omega)))]
    refine mw_go mu_g134 (k := 1) (f1 := (50, [(4, .inl (nI (a + (u - sp Y k 2)))), (0, .inr (.inr (some m))), (1, .inl (nI i)), (2, .inl (nI k)), (3, .inl (nI u))], [.inl (mu_i H (m + 23) 2), .inl (0 : Int32), .inl (nI (a + (u - sp Y k 2))), .inr (.inr (some (m + 25)))], H)) (C := [mu_is H (some (m + 23)) 10]) rfl (show mu_is H (some (m + 23)) 10 from (h.1.w (md_w11 h.2.1)).1) ?_
    rw [(show mu_i H (m + 23) 2 = nI ((ak m H) 11).1 from h.size rfl (j := 11) (by decide))]
    refine mw_cV (fun _ => rfl) (show mu_is H (some (m + 25)) 10 from (h.1.w (md_w12 h.2.1)).1) (dm.setr (C := C) (d := (d + 3)) h rfl (j := 12) (by decide) rfl (nI (a + (u - sp Y k 2))) (nI ((ak m H) 11).1) (c := 0) (by decide)) (fun H5 q5 => ?_)
    obtain ⟨hp5, qt5, ha5, qh5⟩ := q5
    have ht5 := (rl.refl m C H).trans qt5
    refine mw_go mu_g134 (k := 3) (f1 := (58, [(4, .inl (nI (a + (u - sp Y k 2)))), (0, .inr (.inr (some m))), (1, .inl (nI i)), (2, .inl (nI k)), (3, .inl (nI u))], [.inr (.inr (mu_r H5 m 3)), .inr (.inr (some m))], H5)) (C := [mu_is H5 (some m) 6]) rfl (show mu_is H5 (some m) 6 from (show mu_is H5 (some m) 6 from gi_im hp5.1 hp5.2.1)) ?_
    rw [(show mu_r H5 m 3 = some (m + 7) from (gi_mr hp5.1 hp5.2.1 (j := 3) (by decide)).trans (congrArg some (by omega)))]
    refine mw_go mu_g134 (k := 2) (f1 := (60, [(4, .inl (nI (a + (u - sp Y k 2)))), (0, .inr (.inr (some m))), (1, .inl (nI i)), (2, .inl (nI k)), (3, .inl (nI u))], [.inl (4 : Int32), .inl (nI u), .inr (.inr (some (m + 7))), .inr (.inr (some m))], H5)) (C := []) rfl trivial ?_
    refine mw_cIe (fun _ => rfl) (show mu_is H5 (some (m + 7)) 10 from (hp5.1.w (md_w3 hp5.2.1)).1) (dm.getr (d := (d + 3)) hp5 ha5 (j := 3) (by decide) rfl (nI u) (c := 4) (by decide)) ?_
    rw [show (tget ((ax 12 (ak m H) (nI (a + (u - sp Y k 2))) 0 (nI ((ak m H) 11).1)) 3) (nI u) 4) = (nI c) from (fz.g (hf.axo (j := 12) (by decide) (by decide)) (by omega) (by decide) (by decide)).trans hu4]
    refine mw_go mu_g134 (k := 2) (f1 := (65, [(4, .inl (nI (a + (u - sp Y k 2)))), (0, .inr (.inr (some m))), (1, .inl (nI i)), (2, .inl (nI k)), (3, .inl (nI u))], [.inl (nI u), .inl (nI i), .inl (nI c), .inr (.inr (some m))], H5)) (C := []) rfl trivial ?_
    refine mw_cV (fun _ => rfl) (show mu_is H5 (some m) 6 from (show mu_is H5 (some m) 6 from gi_im hp5.1 hp5.2.1)) (gr_inst (C := C) (d := d) (a0 := a0) hp5 (by rw [ha5]; exact (hf.axo (j := 12) (by decide) (by decide))) hF hcM (nI i) (nI u) hv (by rw [ha5]; exact hS) hC) (fun H7 q7 => ?_)
    obtain ⟨hp7, qt7, qh7, hA7⟩ := q7
    have ht7 := ht5.trans qt7
    rw [ha5] at hA7
    refine mw_go mu_g134 (k := 1) (f1 := (101, [(4, .inl (nI (a + (u - sp Y k 2)))), (0, .inr (.inr (some m))), (1, .inl (nI i)), (2, .inl (nI k)), (3, .inl (nI u))], [], H7)) (C := []) rfl trivial ?_
    exact mw_of (fun _ => mu_ret rfl trivial ⟨H7, rfl, hp7, ht7, fun q => (qh7 q).trans (qh5 q), Or.inr ⟨h4, hA7⟩⟩)
  · -- 71: not ((Y 3).2 u 1) = (3 : Int32)
    refine mw_go mu_g134 (k := 2) (f1 := (75, [(4, .inl (nI (a + (u - sp Y k 2)))), (0, .inr (.inr (some m))), (1, .inl (nI i)), (2, .inl (nI k)), (3, .inl (nI u))], [.inr (.inr (mu_r H m 12))], H)) (C := [mu_is H (some m) 6]) rfl (show mu_is H (some m) 6 from (show mu_is H (some m) 6 from gi_im h.1 h.2.1)) ?_
    rw [(show mu_r H m 12 = some (m + 25) from (gi_mr h.1 h.2.1 (j := 12) (by decide)).trans (congrArg some (by omega)))]
    refine mw_go mu_g134 (k := 4) (f1 := (82, [(4, .inl (nI (a + (u - sp Y k 2)))), (0, .inr (.inr (some m))), (1, .inl (nI i)), (2, .inl (nI k)), (3, .inl (nI u))], [.inr (.inr (mu_r H m 15)), .inl (0 : Int32), .inl (nI (a + (u - sp Y k 2))), .inr (.inr (some (m + 25)))], H)) (C := [mu_is H (some m) 6]) rfl (show mu_is H (some m) 6 from (show mu_is H (some m) 6 from gi_im h.1 h.2.1)) ?_
    rw [(show mu_r H m 15 = some (m + 31) from (gi_mr h.1 h.2.1 (j := 15) (by decide)).trans (congrArg some (by omega)))]
    refine mw_go mu_g134 (k := 3) (f1 := (85, [(4, .inl (nI (a + (u - sp Y k 2)))), (0, .inr (.inr (some m))), (1, .inl (nI i)), (2, .inl (nI k)), (3, .inl (nI u))], [.inl (nI u), .inr (.inr (some m)), .inl (nI u), .inr (.inr (some (m + 31))), .inl (0 : Int32), .inl (nI (a + (u - sp Y k 2))), .inr (.inr (some (m + 25)))], H)) (C := []) rfl trivial ?_
    refine mw_cI (fun _ => rfl) (show mu_is H (some m) 6 from (show mu_is H (some m) 6 from gi_im h.1 h.2.1)) (md_vals2 (dd := (d + 2)) h (nI u)) (fun x8 H8 q8 => ?_)
    obtain rfl := q8
    refine mw_go mu_g134 (k := 4) (f1 := (92, [(4, .inl (nI (a + (u - sp Y k 2)))), (0, .inr (.inr (some m))), (1, .inl (nI i)), (2, .inl (nI k)), (3, .inl (nI u))], [.inl (0 : Int32), .inl (nI u), .inr (.inr (some m)), .inl (-1 : Int32), .inl x8, .inl (nI u), .inr (.inr (some (m + 31))), .inl (0 : Int32), .inl (nI (a + (u - sp Y k 2))), .inr (.inr (some (m + 25)))], H)) (C := []) rfl trivial ?_
    refine mw_cI (fun _ => rfl) (show mu_is H (some m) 6 from (show mu_is H (some m) 6 from gi_im h.1 h.2.1)) (md_worth (d := (d + 2)) h.1 h.2.1 (nI u) (0 : Int32)) (fun x9 H9 q9 => ?_)
    obtain rfl := q9
    refine mw_cI (fun _ => rfl) (show mu_is H (some (m + 31)) 10 from (h.1.w (md_w15 h.2.1)).1) (dm.putr (C := C) (d := (d + 1)) h rfl (j := 15) (by decide) rfl (nI u) x8 (-1 : Int32) x9 (by have z := hC 15 (by decide) (by decide); show 2 * ((((ak m H) 15).1 + 1) * 4) + 4 ≤ C 15; skip; omega) (hC 15 (by decide) (by decide)).2) (fun x10 H10 q10 => ?_)
    obtain ⟨rfl, hp10, qt10, ha10, qh10⟩ := q10
    have ht10 := (rl.refl m C H).trans qt10
    refine mw_cV (fun _ => rfl) (show mu_is H10 (some (m + 25)) 10 from (hp10.1.w (md_w12 hp10.2.1)).1) (dm.setr (C := C) (d := (d + 3)) hp10 ha10 (j := 12) (by decide) rfl (nI (a + (u - sp Y k 2))) (nI ((ak m H) 15).1) (c := 0) (by decide)) (fun H11 q11 => ?_)
    obtain ⟨hp11, qt11, ha11, qh11⟩ := q11
    have ht11 := ht10.trans qt11
    exact mw_of (fun _ => mu_ret rfl trivial ⟨H11, rfl, hp11, ht11, fun q => (qh11 q).trans (qh10 q), Or.inl ⟨h4, _, _, ha11⟩⟩)
/-- PathProver$Model.addClaims(II)V -/
abbrev mu_m135 : ev_M := (5, none, [], ev_b135)
theorem mu_g135 : mu_good mu_m135 := mu_goodk ev_k135
theorem gr_claims (h : dm m H) (hf : fz Y (ak m H)) (hF : FY Y) (hkM : k < (Y 1).1) (hiN : i < (ak m H 11).1) (hik : im (ak m H) i = k) (hG6 : Gc Y (ak m H) 16) (hG7 : Gc Y (ak m H) 17) (hS : (ak m H 16).1 + (ak m H 17).1 + nc Y k ≤ 9000) (hC : ∀ j, 11 ≤ j → j < 19 → 120000 ≤ C j ∧ C j ≤ 8388608) : mu_TV (mu_D (d + 4)) 135 [.inr (.inr (some m)), .inl (nI i), .inl (nI k)] H (fun H1 => dm m H1 ∧ rl m C H H1 ∧ (∀ z, mu_i H1 95 z = mu_i H 95 z) ∧ (∀ j, j ≠ 16 → j ≠ 17 → ak m H1 j = ak m H j) ∧ (ak m H1 16).1 + (ak m H1 17).1 ≤ (ak m H 16).1 + (ak m H 17).1 + nc Y k ∧ Gc Y (ak m H1) 16 ∧ Gc Y (ak m H1) 17) := by
  obtain ⟨le5, lf5, lg5⟩ := hF.le hkM (c := 5) (j := 8) (by decide) (by decide) rfl
  have en5 : nc Y k = sp Y (k + 1) 5 - sp Y k 5 := rfl
  refine mu_meth (M := mu_m135) rfl rfl ?_
  refine mw_ht (mu_fn_of (show [0, 1, 2].Nodup by decide)) ?_
  refine mw_go mu_g135 (k := 2) (f1 := (4, [(0, .inr (.inr (some m))), (1, .inl (nI i)), (2, .inl (nI k))], [.inr (.inr (mu_r H m 1))], H)) (C := [mu_is H (some m) 6]) rfl (show mu_is H (some m) 6 from (show mu_is H (some m) 6 from gi_im h.1 h.2.1)) ?_
  rw [(show mu_r H m 1 = some (m + 3) from (gi_mr h.1 h.2.1 (j := 1) (by decide)).trans (congrArg some (by omega)))]
  refine mw_go mu_g135 (k := 2) (f1 := (6, [(0, .inr (.inr (some m))), (1, .inl (nI i)), (2, .inl (nI k))], [.inl (5 : Int32), .inl (nI k), .inr (.inr (some (m + 3)))], H)) (C := []) rfl trivial ?_
  refine mw_cIe (fun _ => rfl) (show mu_is H (some (m + 3)) 10 from (h.1.w (md_w1 h.2.1)).1) (dm.getr (d := (d + 2)) h rfl (j := 1) (by decide) rfl (nI k) (c := 5) (by decide)) ?_
  rw [show (tget ((ak m H) 1) (nI k) 5) = (nI (sp Y k 5)) from fz.start hf hF hkM (by decide) (by decide)]
  refine mw_go mu_g135 (k := 1) (f1 := (10, [(3, .inl (nI (sp Y k 5))), (0, .inr (.inr (some m))), (1, .inl (nI i)), (2, .inl (nI k))], [], H)) (C := []) rfl trivial ?_
  refine mw_sub (L' := [(3, .inl (nI (sp Y k 5))), (0, .inr (.inr (some m))), (1, .inl (nI i)), (2, .inl (nI k))]) (by simp) ?_
  refine mw_down (α := Nat × mu_H) (fun zs => (10, [(3, .inl (nI zs.1)), (0, .inr (.inr (some m))), (1, .inl (nI i)), (2, .inl (nI k))], [], zs.2)) (fun zs => sp Y (k + 1) 5 - zs.1) (fun zs => dm m zs.2 ∧ rl m C H zs.2 ∧ (sp Y k 5 ≤ zs.1) ∧ (zs.1 ≤ sp Y (k + 1) 5) ∧ (∀ j, j ≠ 16 → j ≠ 17 → ak m zs.2 j = ak m H j) ∧ ((ak m zs.2 16).1 + (ak m zs.2 17).1 + sp Y k 5 ≤ (ak m H 16).1 + (ak m H 17).1 + zs.1) ∧ (Gc Y (ak m zs.2) 16) ∧ (Gc Y (ak m zs.2) 17) ∧ (fz Y (ak m zs.2)) ∧ (∀ z, mu_i zs.2 95 z = mu_i H 95 z)) (fun zs hza iha => ?_) (sp Y k 5, H) ⟨h, (rl.refl m C H), (show sp Y k 5 ≤ (sp Y k 5) from by omega), (show (sp Y k 5) ≤ sp Y (k + 1) 5 from by omega), (show ∀ j, j ≠ 16 → j ≠ 17 → ak m H j = ak m H j from (fun _ _ _ => rfl)), (show (ak m H 16).1 + (ak m H 17).1 + sp Y k 5 ≤ (ak m H 16).1 + (ak m H 17).1 + (sp Y k 5) from by omega), (show Gc Y (ak m H) 16 from hG6), (show Gc Y (ak m H) 17 from hG7), (show fz Y (ak m H) from hf), (show ∀ z, mu_i H 95 z = mu_i H 95 z from (fun _ => rfl))⟩
  obtain ⟨q, Hsa⟩ := zs
  obtain ⟨hpa, hta, hk1, hk2, he, hn, hg6, hg7, hfz, h95⟩ := hza
  have hpa : dm m Hsa := hpa
  have hta : rl m C H Hsa := hta
  have hk1 : sp Y k 5 ≤ q := hk1
  have hk2 : q ≤ sp Y (k + 1) 5 := hk2
  have he : ∀ j, j ≠ 16 → j ≠ 17 → ak m Hsa j = ak m H j := he
  have hn : (ak m Hsa 16).1 + (ak m Hsa 17).1 + sp Y k 5 ≤ (ak m H 16).1 + (ak m H 17).1 + q := hn
  have hg6 : Gc Y (ak m Hsa) 16 := hg6
  have hg7 : Gc Y (ak m Hsa) 17 := hg7
  have hfz : fz Y (ak m Hsa) := hfz
  have h95 : ∀ z, mu_i Hsa 95 z = mu_i H 95 z := h95
  show mu_W _ _ (10, [(3, .inl (nI q)), (0, .inr (.inr (some m))), (1, .inl (nI i)), (2, .inl (nI k))], [], Hsa) _
  refine mw_go mu_g135 (k := 6) (f1 := (18, [(3, .inl (nI q)), (0, .inr (.inr (some m))), (1, .inl (nI i)), (2, .inl (nI k))], [.inr (.inr (mu_r Hsa m 8)), .inl (5 : Int32), .inl (nI k), .inr (.inr (some m)), .inl (nI q)], Hsa)) (C := [mu_is Hsa (some m) 6]) rfl (show mu_is Hsa (some m) 6 from (show mu_is Hsa (some m) 6 from gi_im hpa.1 hpa.2.1)) ?_
  rw [(show mu_r Hsa m 8 = some (m + 17) from (gi_mr hpa.1 hpa.2.1 (j := 8) (by decide)).trans (congrArg some (by omega)))]
  refine mw_cIe (fun _ => rfl) (show mu_is Hsa (some m) 6 from (show mu_is Hsa (some m) 6 from gi_im hpa.1 hpa.2.1)) (dm.stopr (d := (d + 1)) hpa rfl (j := 8) (by decide) rfl (c := 5) (by decide) (nI k)) ?_
  rw [show (stp (ak m Hsa) (nI k) 5 8) = (nI (sp Y (k + 1) 5)) from fz.stop hfz hF hkM (by decide) (by decide) rfl]
  refine mw_if (P := (nI q) < (nI (sp Y (k + 1) 5))) (a := 24) (b := 114) (fun _ => rfl) trivial (fun h3 => ?_) (fun h3 => ?_)
  · -- 24: (nI q) < (nI (sp Y (k + 1) 5))
    have hqb : q < sp Y (k + 1) 5 := (nI_ltI (by omega) (by omega)).mp h3
    obtain ⟨ra1, rb1, hrg1, hrg2, hrg3⟩ := hF.1.2.2.1.1 k hkM q hk1 hqb
    have hrg1 : (Y 8).2 q 1 = nI ra1 := hrg1
    have hrg2 : (Y 8).2 q 2 = nI rb1 := hrg2
    have hi11 : i < (ak m Hsa 11).1 := by rw [he 11 (by decide) (by decide)]; exact hiN
    have him : im (ak m Hsa) i = k := by unfold im; rw [he 11 (by decide) (by decide)]; exact hik
    refine mw_go mu_g135 (k := 2) (f1 := (28, [(3, .inl (nI q)), (0, .inr (.inr (some m))), (1, .inl (nI i)), (2, .inl (nI k))], [.inr (.inr (mu_r Hsa m 8))], Hsa)) (C := [mu_is Hsa (some m) 6]) rfl (show mu_is Hsa (some m) 6 from (show mu_is Hsa (some m) 6 from gi_im hpa.1 hpa.2.1)) ?_
    rw [(show mu_r Hsa m 8 = some (m + 17) from (gi_mr hpa.1 hpa.2.1 (j := 8) (by decide)).trans (congrArg some (by omega)))]
    refine mw_go mu_g135 (k := 2) (f1 := (30, [(3, .inl (nI q)), (0, .inr (.inr (some m))), (1, .inl (nI i)), (2, .inl (nI k))], [.inl (0 : Int32), .inl (nI q), .inr (.inr (some (m + 17)))], Hsa)) (C := []) rfl trivial ?_
    refine mw_cIe (fun _ => rfl) (show mu_is Hsa (some (m + 17)) 10 from (hpa.1.w (md_w8 hpa.2.1)).1) (dm.getr (d := (d + 2)) hpa rfl (j := 8) (by decide) rfl (nI q) (c := 0) (by decide)) ?_
    rw [show (tget ((ak m Hsa) 8) (nI q) 0) = ((Y 8).2 q 0) from fz.g hfz (by omega) (by decide) (by decide)]
    refine mw_go mu_g135 (k := 3) (f1 := (39, [(4, .inl ((Y 8).2 q 0)), (3, .inl (nI q)), (0, .inr (.inr (some m))), (1, .inl (nI i)), (2, .inl (nI k))], [.inl (7 : Int32), .inl ((Y 8).2 q 0)], Hsa)) (C := []) rfl trivial ?_
    refine mw_if (P := ((Y 8).2 q 0) = (7 : Int32)) (a := 42) (b := 73) (fun _ => rfl) trivial (fun h5 => ?_) (fun h5 => ?_)
    · -- 42: ((Y 8).2 q 0) = (7 : Int32)
      refine mw_go mu_g135 (k := 2) (f1 := (46, [(4, .inl ((Y 8).2 q 0)), (3, .inl (nI q)), (0, .inr (.inr (some m))), (1, .inl (nI i)), (2, .inl (nI k))], [.inr (.inr (mu_r Hsa m 16))], Hsa)) (C := [mu_is Hsa (some m) 6]) rfl (show mu_is Hsa (some m) 6 from (show mu_is Hsa (some m) 6 from gi_im hpa.1 hpa.2.1)) ?_
      rw [(show mu_r Hsa m 16 = some (m + 33) from (gi_mr hpa.1 hpa.2.1 (j := 16) (by decide)).trans (congrArg some (by omega)))]
      refine mw_go mu_g135 (k := 2) (f1 := (50, [(4, .inl ((Y 8).2 q 0)), (3, .inl (nI q)), (0, .inr (.inr (some m))), (1, .inl (nI i)), (2, .inl (nI k))], [.inr (.inr (mu_r Hsa m 8)), .inr (.inr (some (m + 33)))], Hsa)) (C := [mu_is Hsa (some m) 6]) rfl (show mu_is Hsa (some m) 6 from (show mu_is Hsa (some m) 6 from gi_im hpa.1 hpa.2.1)) ?_
      rw [(show mu_r Hsa m 8 = some (m + 17) from (gi_mr hpa.1 hpa.2.1 (j := 8) (by decide)).trans (congrArg some (by omega)))]
      refine mw_go mu_g135 (k := 2) (f1 := (52, [(4, .inl ((Y 8).2 q 0)), (3, .inl (nI q)), (0, .inr (.inr (some m))), (1, .inl (nI i)), (2, .inl (nI k))], [.inl (1 : Int32), .inl (nI q), .inr (.inr (some (m + 17))), .inr (.inr (some (m + 33)))], Hsa)) (C := []) rfl trivial ?_
      refine mw_cIe (fun _ => rfl) (show mu_is Hsa (some (m + 17)) 10 from (hpa.1.w (md_w8 hpa.2.1)).1) (dm.getr (d := (d + 2)) hpa rfl (j := 8) (by decide) rfl (nI q) (c := 1) (by decide)) ?_
      rw [show (tget ((ak m Hsa) 8) (nI q) 1) = ((Y 8).2 q 1) from fz.g hfz (by omega) (by decide) (by decide)]
      refine mw_go mu_g135 (k := 2) (f1 := (59, [(4, .inl ((Y 8).2 q 0)), (3, .inl (nI q)), (0, .inr (.inr (some m))), (1, .inl (nI i)), (2, .inl (nI k))], [.inr (.inr (mu_r Hsa m 8)), .inl ((Y 8).2 q 1), .inr (.inr (some (m + 33)))], Hsa)) (C := [mu_is Hsa (some m) 6]) rfl (show mu_is Hsa (some m) 6 from (show mu_is Hsa (some m) 6 from gi_im hpa.1 hpa.2.1)) ?_
      rw [(show mu_r Hsa m 8 = some (m + 17) from (gi_mr hpa.1 hpa.2.1 (j := 8) (by decide)).trans (congrArg some (by omega)))]
      refine mw_go mu_g135 (k := 2) (f1 := (61, [(4, .inl ((Y 8).2 q 0)), (3, .inl (nI q)), (0, .inr (.inr (some m))), (1, .inl (nI i)), (2, .inl (nI k))], [.inl (2 : Int32), .inl (nI q), .inr (.inr (some (m + 17))), .inl ((Y 8).2 q 1), .inr (.inr (some (m + 33)))], Hsa)) (C := []) rfl trivial ?_
      refine mw_cIe (fun _ => rfl) (show mu_is Hsa (some (m + 17)) 10 from (hpa.1.w (md_w8 hpa.2.1)).1) (dm.getr (d := (d + 2)) hpa rfl (j := 8) (by decide) rfl (nI q) (c := 2) (by decide)) ?_
      rw [show (tget ((ak m Hsa) 8) (nI q) 2) = ((Y 8).2 q 2) from fz.g hfz (by omega) (by decide) (by decide)]
      refine mw_go mu_g135 (k := 2) (f1 := (66, [(4, .inl ((Y 8).2 q 0)), (3, .inl (nI q)), (0, .inr (.inr (some m))), (1, .inl (nI i)), (2, .inl (nI k))], [.inl (0 : Int32), .inl (nI i), .inl ((Y 8).2 q 2), .inl ((Y 8).2 q 1), .inr (.inr (some (m + 33)))], Hsa)) (C := []) rfl trivial ?_
      refine mw_cI (fun _ => rfl) (show mu_is Hsa (some (m + 33)) 10 from (hpa.1.w (md_w16 hpa.2.1)).1) (dm.putr (C := C) (d := d) hpa rfl (j := 16) (by decide) rfl ((Y 8).2 q 1) ((Y 8).2 q 2) (nI i) (0 : Int32) (by have z := hC 16 (by decide) (by decide); show 2 * ((((ak m Hsa) 16).1 + 1) * 4) + 4 ≤ C 16; skip; omega) (hC 16 (by decide) (by decide)).2) (fun x8 H8 q8 => ?_)
      obtain ⟨rfl, hp8, qt8, ha8, qh8⟩ := q8
      have ht8 := hta.trans qt8
      refine mw_go mu_g135 (k := 4) (f1 := (10, [(3, .inl ((nI q) + 1)), (4, .inl ((Y 8).2 q 0)), (0, .inr (.inr (some m))), (1, .inl (nI i)), (2, .inl (nI k))], [], H8)) (C := []) rfl trivial ?_
      rw [nI_1 q]
      exact mw_sub (by simp) (iha (q + 1, H8) ⟨hp8, ht8, (show sp Y k 5 ≤ (q + 1) from by omega), (show (q + 1) ≤ sp Y (k + 1) 5 from by omega), (show ∀ j, j ≠ 16 → j ≠ 17 → ak m H8 j = ak m H j from (fun j h1 h2 => by rw [ha8]; exact (ap_ne (by omega)).trans (he j h1 h2))), (show (ak m H8 16).1 + (ak m H8 17).1 + sp Y k 5 ≤ (ak m H 16).1 + (ak m H 17).1 + (q + 1) from (by rw [ha8, ap_n, ap_ne (by decide)]; omega)), (show Gc Y (ak m H8) 16 from (by rw [ha8]; exact hg6.put hi11 him hrg1 hrg2 hrg3)), (show Gc Y (ak m H8) 17 from (by rw [ha8]; exact hg7.oth (by decide) (by decide))), (show fz Y (ak m H8) from (by rw [ha8]; exact (hfz.ap (j := 16) (by decide) (by decide)))), (show ∀ z, mu_i H8 95 z = mu_i H 95 z from (fun z => (qh8 z).trans (h95 z)))⟩ (by show sp Y (k + 1) 5 - (q + 1) < sp Y (k + 1) 5 - q; omega))
    · -- 73: not ((Y 8).2 q 0) = (7 : Int32)
      refine mw_go mu_g135 (k := 2) (f1 := (77, [(4, .inl ((Y 8).2 q 0)), (3, .inl (nI q)), (0, .inr (.inr (some m))), (1, .inl (nI i)), (2, .inl (nI k))], [.inl (8 : Int32), .inl ((Y 8).2 q 0)], Hsa)) (C := []) rfl trivial ?_
      refine mw_if (P := ((Y 8).2 q 0) = (8 : Int32)) (a := 80) (b := 108) (fun _ => rfl) trivial (fun h9 => ?_) (fun h9 => ?_)
      · -- 80: ((Y 8).2 q 0) = (8 : Int32)
        refine mw_go mu_g135 (k := 2) (f1 := (84, [(4, .inl ((Y 8).2 q 0)), (3, .inl (nI q)), (0, .inr (.inr (some m))), (1, .inl (nI i)), (2, .inl (nI k))], [.inr (.inr (mu_r Hsa m 17))], Hsa)) (C := [mu_is Hsa (some m) 6]) rfl (show mu_is Hsa (some m) 6 from (show mu_is Hsa (some m) 6 from gi_im hpa.1 hpa.2.1)) ?_
        rw [(show mu_r Hsa m 17 = some (m + 35) from (gi_mr hpa.1 hpa.2.1 (j := 17) (by decide)).trans (congrArg some (by omega)))]
        refine mw_go mu_g135 (k := 2) (f1 := (88, [(4, .inl ((Y 8).2 q 0)), (3, .inl (nI q)), (0, .inr (.inr (some m))), (1, .inl (nI i)), (2, .inl (nI k))], [.inr (.inr (mu_r Hsa m 8)), .inr (.inr (some (m + 35)))], Hsa)) (C := [mu_is Hsa (some m) 6]) rfl (show mu_is Hsa (some m) 6 from (show mu_is Hsa (some m) 6 from gi_im hpa.1 hpa.2.1)) ?_
        rw [(show mu_r Hsa m 8 = some (m + 17) from (gi_mr hpa.1 hpa.2.1 (j := 8) (by decide)).trans (congrArg some (by omega)))]
        refine mw_go mu_g135 (k := 2) (f1 := (90, [(4, .inl ((Y 8).2 q 0)), (3, .inl (nI q)), (0, .inr (.inr (some m))), (1, .inl (nI i)), (2, .inl (nI k))], [.inl (1 : Int32), .inl (nI q), .inr (.inr (some (m + 17))), .inr (.inr (some (m + 35)))], Hsa)) (C := []) rfl trivial ?_
        refine mw_cIe (fun _ => rfl) (show mu_is Hsa (some (m + 17)) 10 from (hpa.1.w (md_w8 hpa.2.1)).1) (dm.getr (d := (d + 2)) hpa rfl (j := 8) (by decide) rfl (nI q) (c := 1) (by decide)) ?_
        rw [show (tget ((ak m Hsa) 8) (nI q) 1) = ((Y 8).2 q 1) from fz.g hfz (by omega) (by decide) (by decide)]
        refine mw_go mu_g135 (k := 2) (f1 := (97, [(4, .inl ((Y 8).2 q 0)), (3, .inl (nI q)), (0, .inr (.inr (some m))), (1, .inl (nI i)), (2, .inl (nI k))], [.inr (.inr (mu_r Hsa m 8)), .inl ((Y 8).2 q 1), .inr (.inr (some (m + 35)))], Hsa)) (C := [mu_is Hsa (some m) 6]) rfl (show mu_is Hsa (some m) 6 from (show mu_is Hsa (some m) 6 from gi_im hpa.1 hpa.2.1)) ?_
        rw [(show mu_r Hsa m 8 = some (m + 17) from (gi_mr hpa.1 hpa.2.1 (j := 8) (by decide)).trans (congrArg some (by omega)))]
        refine mw_go mu_g135 (k := 2) (f1 := (99, [(4, .inl ((Y 8).2 q 0)), (3, .inl (nI q)), (0, .inr (.inr (some m))), (1, .inl (nI i)), (2, .inl (nI k))], [.inl (2 : Int32), .inl (nI q), .inr (.inr (some (m + 17))), .inl ((Y 8).2 q 1), .inr (.inr (some (m + 35)))], Hsa)) (C := []) rfl trivial ?_
        refine mw_cIe (fun _ => rfl) (show mu_is Hsa (some (m + 17)) 10 from (hpa.1.w (md_w8 hpa.2.1)).1) (dm.getr (d := (d + 2)) hpa rfl (j := 8) (by decide) rfl (nI q) (c := 2) (by decide)) ?_
        rw [show (tget ((ak m Hsa) 8) (nI q) 2) = ((Y 8).2 q 2) from fz.g hfz (by omega) (by decide) (by decide)]
        refine mw_go mu_g135 (k := 2) (f1 := (104, [(4, .inl ((Y 8).2 q 0)), (3, .inl (nI q)), (0, .inr (.inr (some m))), (1, .inl (nI i)), (2, .inl (nI k))], [.inl (0 : Int32), .inl (nI i), .inl ((Y 8).2 q 2), .inl ((Y 8).2 q 1), .inr (.inr (some (m + 35)))], Hsa)) (C := []) rfl trivial ?_
        refine mw_cI (fun _ => rfl) (show mu_is Hsa (some (m + 35)) 10 from (hpa.1.w (md_w17 hpa.2.1)).1) (dm.putr (C := C) (d := d) hpa rfl (j := 17) (by decide) rfl ((Y 8).2 q 1) ((Y 8).2 q 2) (nI i) (0 : Int32) (by have z := hC 17 (by decide) (by decide); show 2 * ((((ak m Hsa) 17).1 + 1) * 3) + 3 ≤ C 17; skip; omega) (hC 17 (by decide) (by decide)).2) (fun x12 H12 q12 => ?_)
        obtain ⟨rfl, hp12, qt12, ha12, qh12⟩ := q12
        have ht12 := hta.trans qt12
        refine mw_go mu_g135 (k := 3) (f1 := (10, [(3, .inl ((nI q) + 1)), (4, .inl ((Y 8).2 q 0)), (0, .inr (.inr (some m))), (1, .inl (nI i)), (2, .inl (nI k))], [], H12)) (C := []) rfl trivial ?_
        rw [nI_1 q]
        exact mw_sub (by simp) (iha (q + 1, H12) ⟨hp12, ht12, (show sp Y k 5 ≤ (q + 1) from by omega), (show (q + 1) ≤ sp Y (k + 1) 5 from by omega), (show ∀ j, j ≠ 16 → j ≠ 17 → ak m H12 j = ak m H j from (fun j h1 h2 => by rw [ha12]; exact (ap_ne (by omega)).trans (he j h1 h2))), (show (ak m H12 16).1 + (ak m H12 17).1 + sp Y k 5 ≤ (ak m H 16).1 + (ak m H 17).1 + (q + 1) from (by rw [ha12, ap_n, ap_ne (by decide)]; omega)), (show Gc Y (ak m H12) 16 from (by rw [ha12]; exact hg6.oth (by decide) (by decide))), (show Gc Y (ak m H12) 17 from (by rw [ha12]; exact hg7.put hi11 him hrg1 hrg2 hrg3)), (show fz Y (ak m H12) from (by rw [ha12]; exact (hfz.ap (j := 17) (by decide) (by decide)))), (show ∀ z, mu_i H12 95 z = mu_i H 95 z from (fun z => (qh12 z).trans (h95 z)))⟩ (by show sp Y (k + 1) 5 - (q + 1) < sp Y (k + 1) 5 - q; omega))
      · -- 108: not ((Y 8).2 q 0) = (8 : Int32)
        refine mw_go mu_g135 (k := 2) (f1 := (10, [(3, .inl ((nI q) + 1)), (4, .inl ((Y 8).2 q 0)), (0, .inr (.inr (some m))), (1, .inl (nI i)), (2, .inl (nI k))], [], Hsa)) (C := []) rfl trivial ?_
        rw [nI_1 q]
        exact mw_sub (by simp) (iha (q + 1, Hsa) ⟨hpa, hta, (show sp Y k 5 ≤ (q + 1) from by omega), (show (q + 1) ≤ sp Y (k + 1) 5 from by omega), (show ∀ j, j ≠ 16 → j ≠ 17 → ak m Hsa j = ak m H j from he), (show (ak m Hsa 16).1 + (ak m Hsa 17).1 + sp Y k 5 ≤ (ak m H 16).1 + (ak m H 17).1 + (q + 1) from by omega), (show Gc Y (ak m Hsa) 16 from hg6), (show Gc Y (ak m Hsa) 17 from hg7), (show fz Y (ak m Hsa) from hfz), (show ∀ z, mu_i Hsa 95 z = mu_i H 95 z from h95)⟩ (by show sp Y (k + 1) 5 - (q + 1) < sp Y (k + 1) 5 - q; omega))
  · -- 114: not (nI q) < (nI (sp Y (k + 1) 5))
    have hqb : ¬ q < sp Y (k + 1) 5 := fun z => h3 (nI_lt z (by omega))
    exact mw_of (fun _ => mu_ret rfl trivial ⟨Hsa, rfl, hpa, hta, h95, he, by unfold nc; omega, hg6, hg7⟩)
end Grow3
