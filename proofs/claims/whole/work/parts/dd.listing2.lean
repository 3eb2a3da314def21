/-! LISTING STATES: whatever stands behind them -/
section Listing2
variable {H : mu_H} {m d P n : Nat} {C : Nat → Nat} {U : Ud} {f : Nat → Nat}
def btw (U : Ud) (T s : Nat) : Bool := decide (s < T) && bth U 126 124 s
theorem btw_q {T w : Nat} (hB : ∀ s, s / 64 < (T + 63) / 64 → bth U 126 124 s = true → s < T) (hw : w < (T + 63) / 64) (q : Nat) (hq : q < 64) : (btz (U.2.2.2.2.1 126 w) q && btz (U.2.2.2.2.1 124 w) q) = btw U T (64 * w + q) := by
  have e : bth U 126 124 (64 * w + q) = (btz (U.2.2.2.2.1 126 w) q && btz (U.2.2.2.2.1 124 w) q) := by
    unfold bth
    rw [show (64 * w + q) / 64 = w by omega, show (64 * w + q) % 64 = q by omega]
  unfold btw
  rw [← e]
  cases hb : bth U 126 124 (64 * w + q)
  · rw [Bool.and_false]
  · rw [Bool.and_true, decide_eq_true (hB _ (by omega) hb)]
theorem btw_T {T s : Nat} (h : btw U T s = true) : s < T := by
  unfold btw at h
  rw [Bool.and_eq_true, decide_eq_true_iff] at h
  exact h.1

theorem sp_list2 (h : um m H) (e : ud m H = U) (hS : spx m U P f) (hBT : ∀ s, s / 64 < (pd f 0 P + 63) / 64 → bth U 126 124 s = true → s < pd f 0 P) : mu_TI (mu_D (d + 3)) 267 [.inr (.inr (some 99)), .inr (.inr (some 126))] H (fun x H1 => ∃ n, x = nI n ∧ um m H1 ∧ ur m C H H1 ∧ uq F267 U (ud m H1) ∧ ∃ ls : Nat → Nat, (∀ i, i < n → ((ud m H1).2.2.1 99 18).2 i = nI (ls i)) ∧ enw ls n (btw U (pd f 0 P)) ((pd f 0 P + 63) / 64)) := by
  obtain ⟨⟨s4, s10, s11, s12⟩, hk5, ⟨g8, g8b, g18, g18b⟩, ⟨gP, gpd, gsm⟩, hsp, hmo⟩ := id hS
  refine mu_meth (M := mu_m267) rfl rfl ?_
  refine mw_ht (mu_fn_of (show [0, 1].Nodup by decide)) ?_
  refine mw_go mu_g267 (k := 4) (f1 := (4, [(3, .inl (0 : Int32)), (2, .inl (0 : Int32)), (0, .inr (.inr (some 99))), (1, .inr (.inr (some 126)))], [], H)) (C := []) rfl trivial ?_
  show mu_W _ _ (4, [(3, .inl (nI 0)), (2, .inl (nI 0)), (0, .inr (.inr (some 99))), (1, .inr (.inr (some 126)))], [], H) _
  refine mw_sub (L' := [(3, .inl (nI 0)), (2, .inl (nI 0)), (0, .inr (.inr (some 99))), (1, .inr (.inr (some 126)))]) (by simp) ?_
  refine mw_down (α := Nat × Nat × mu_H) (fun zs => (4, [(3, .inl (nI zs.1)), (2, .inl (nI zs.2.1)), (0, .inr (.inr (some 99))), (1, .inr (.inr (some 126)))], [], zs.2.2)) (fun zs => (pd f 0 P + 63) / 64 - zs.1) (fun zs => um m zs.2.2 ∧ ur m C H zs.2.2 ∧ (uq F267a U (ud m zs.2.2)) ∧ (zs.1 ≤ (pd f 0 P + 63) / 64) ∧ (∃ ls : Nat → Nat, (∀ i, i < zs.2.1 → ((ud m zs.2.2).2.2.1 99 18).2 i = nI (ls i)) ∧ enw ls zs.2.1 (btw U (pd f 0 P)) zs.1)) (fun zs hza iha => ?_) (0, 0, H) ⟨h, (ur.refl m C H), (show uq F267a U (ud m H) from by rw [e]; exact uq.refl _ _), (show 0 ≤ (pd f 0 P + 63) / 64 from (by omega)), (show ∃ ls : Nat → Nat, (∀ i, i < 0 → ((ud m H).2.2.1 99 18).2 i = nI (ls i)) ∧ enw ls 0 (btw U (pd f 0 P)) 0 from by rw [e]; exact ⟨fun _ => 0, fun i hi => absurd hi (Nat.not_lt_zero _), fun i j _ hj => absurd hj (Nat.not_lt_zero _), fun s => ⟨fun ⟨i, hi, _⟩ => absurd hi (Nat.not_lt_zero _), fun z => by omega⟩⟩)⟩
  obtain ⟨w, n, Hsa⟩ := zs
  obtain ⟨ua, hta, da, hw, hL⟩ := hza
  have ua : um m Hsa := ua
  have hta : ur m C H Hsa := hta
  have zza : uq F267a U (ud m Hsa) := da
  have hw : w ≤ (pd f 0 P + 63) / 64 := hw
  have hL : ∃ ls : Nat → Nat, (∀ i, i < n → ((ud m Hsa).2.2.1 99 18).2 i = nI (ls i)) ∧ enw ls n (btw U (pd f 0 P)) w := hL
  obtain ⟨Va, da⟩ : ∃ V, ud m Hsa = V := ⟨_, rfl⟩
  rw [da] at zza hL
  have qfa : uq F267 U Va := (uq.refl F267 U).tr zza rfl
  show mu_W _ _ (4, [(3, .inl (nI w)), (2, .inl (nI n)), (0, .inr (.inr (some 99))), (1, .inr (.inr (some 126)))], [], Hsa) _
  obtain ⟨ls0, hls0, hen⟩ := hL
  refine mw_go mu_g267 (k := 3) (f1 := (9, [(3, .inl (nI w)), (2, .inl (nI n)), (0, .inr (.inr (some 99))), (1, .inr (.inr (some 126)))], [.inl (mu_i Hsa 99 12), .inl (nI w)], Hsa)) (C := [mu_is Hsa (some 99) 13]) rfl (show mu_is Hsa (some 99) 13 from (ua.1.1.is rfl)) ?_
  rw [(show mu_i Hsa 99 12 = (nI ((pd f 0 P + 63) / 64)) from (ud_i (U := Va) (m := m) (P := 99) (j := 12) da rfl).trans ((zza.i 99 12 rfl).trans s12))]
  refine mw_if (P := (nI w) < (nI ((pd f 0 P + 63) / 64))) (a := 12) (b := 87) (fun _ => rfl) trivial (fun h1 => ?_) (fun h1 => ?_)
  · -- 12: (nI w) < (nI ((pd f 0 P + 63) / 64))
    have nh1 : w < ((pd f 0 P + 63) / 64) := (nI_ltI (by omega) (by omega)).mp (show nI w < nI ((pd f 0 P + 63) / 64) from h1)
    refine mw_go mu_g267 (k := 3) (f1 := (15, [(3, .inl (nI w)), (2, .inl (nI n)), (0, .inr (.inr (some 99))), (1, .inr (.inr (some 126)))], [.inr (.inl (mu_l Hsa 126 (nI w).toNatClampNeg))], Hsa)) (C := [mu_isr Hsa (some 126) 102, vp_in (nI w) (mu_n Hsa 126)]) rfl (show (mu_isr Hsa (some 126) 102) ∧ (vp_in (nI w) (mu_n Hsa 126)) from ⟨((ua.1.1.a (p := 126) (x := (102, 256)) rfl).1).r, (by rw [show mu_n Hsa 126 = 256 from (ua.1.1.a (p := 126) (x := (102, 256)) rfl).2]; exact vp_in_nI (n := w) (by omega) (by decide))⟩) ?_
    rw [(show (mu_l Hsa 126 (nI w).toNatClampNeg) = (U.2.2.2.2.1 126) w from (congrArg (mu_l Hsa 126) (show (nI w).toNatClampNeg = w from nI_clamp (by omega))).trans ((ud_l (m := m) (p := 126) (i := w) da rfl).trans (congrFun (show Va.2.2.2.2.1 126 = (U.2.2.2.2.1 126) from (zza.l 126 rfl)) w)))]
    refine mw_go mu_g267 (k := 2) (f1 := (19, [(3, .inl (nI w)), (2, .inl (nI n)), (0, .inr (.inr (some 99))), (1, .inr (.inr (some 126)))], [.inr (.inr (mu_r Hsa 99 14)), .inr (.inl ((U.2.2.2.2.1 126) w))], Hsa)) (C := [mu_is Hsa (some 99) 13]) rfl (show mu_is Hsa (some 99) 13 from (ua.1.1.is rfl)) ?_
    rw [(ua.1.1.r (p := 99) (j := 14) (q := 124) rfl)]
    refine mw_go mu_g267 (k := 2) (f1 := (21, [(3, .inl (nI w)), (2, .inl (nI n)), (0, .inr (.inr (some 99))), (1, .inr (.inr (some 126)))], [.inr (.inl (mu_l Hsa 124 (nI w).toNatClampNeg)), .inr (.inl ((U.2.2.2.2.1 126) w))], Hsa)) (C := [mu_isr Hsa (some 124) 102, vp_in (nI w) (mu_n Hsa 124)]) rfl (show (mu_isr Hsa (some 124) 102) ∧ (vp_in (nI w) (mu_n Hsa 124)) from ⟨((ua.1.1.a (p := 124) (x := (102, 256)) rfl).1).r, (by rw [show mu_n Hsa 124 = 256 from (ua.1.1.a (p := 124) (x := (102, 256)) rfl).2]; exact vp_in_nI (n := w) (by omega) (by decide))⟩) ?_
    rw [(show (mu_l Hsa 124 (nI w).toNatClampNeg) = (U.2.2.2.2.1 124) w from (congrArg (mu_l Hsa 124) (show (nI w).toNatClampNeg = w from nI_clamp (by omega))).trans ((ud_l (m := m) (p := 124) (i := w) da rfl).trans (congrFun (show Va.2.2.2.2.1 124 = (U.2.2.2.2.1 124) from (zza.l 124 rfl)) w)))]
    refine mw_go mu_g267 (k := 1) (f1 := (22, [(3, .inl (nI w)), (2, .inl (nI n)), (0, .inr (.inr (some 99))), (1, .inr (.inr (some 126)))], [.inr (.inl (((U.2.2.2.2.1 126) w) &&& ((U.2.2.2.2.1 124) w)))], Hsa)) (C := []) rfl trivial ?_
    obtain ⟨lf0, hlf0⟩ : ∃ y, y = (((U.2.2.2.2.1 126) w) &&& ((U.2.2.2.2.1 124) w)) := ⟨_, rfl⟩
    rw [← hlf0]
    have hlq : ∀ q, q < 64 → btz lf0 q = btw U (pd f 0 P) (64 * w + q) := fun q hq => by rw [hlf0, btz_and]; exact btw_q hBT (by omega) q hq
    refine mw_go mu_g267 (k := 4) (f1 := (28, [(4, .inr (.inl lf0)), (3, .inl (nI w)), (2, .inl (nI n)), (0, .inr (.inr (some 99))), (1, .inr (.inr (some 126)))], [.inl (lg_cmp lf0 (0 : Int64))], Hsa)) (C := []) rfl trivial ?_
    refine mw_if (P := (lg_cmp lf0 (0 : Int64)) = 0) (a := 31) (b := 35) (fun _ => rfl) trivial (fun h2 => ?_) (fun h2 => ?_)
    · -- 31: (lg_cmp lf0 (0 : Int64)) = 0
      refine mw_go mu_g267 (k := 2) (f1 := (40, [(4, .inr (.inl lf0)), (3, .inl (nI w)), (2, .inl (nI n)), (0, .inr (.inr (some 99))), (1, .inr (.inr (some 126)))], [.inl (0 : Int32)], Hsa)) (C := []) rfl trivial ?_
      rw [show (0 : Int32) = nI (cnz lf0 64) from by rw [show lf0 = 0 from lg_ne.mp h2, cnz_0 64 (fun i _ => btz_0)]; rfl]
      refine mw_go mu_g267 (k := 1) (f1 := (42, [(6, .inl (nI (cnz lf0 64))), (4, .inr (.inl lf0)), (3, .inl (nI w)), (2, .inl (nI n)), (0, .inr (.inr (some 99))), (1, .inr (.inr (some 126)))], [], Hsa)) (C := []) rfl trivial ?_
      refine mw_sub (L' := [(2, .inl (nI n)), (4, .inr (.inl lf0)), (6, .inl (nI (cnz lf0 64))), (0, .inr (.inr (some 99))), (1, .inr (.inr (some 126))), (3, .inl (nI w))]) (by simp) ?_
      refine mw_down (α := Nat × Int64 × mu_H) (fun zs => (42, [(2, .inl (nI zs.1)), (4, .inr (.inl zs.2.1)), (6, .inl (nI (cnz zs.2.1 64))), (0, .inr (.inr (some 99))), (1, .inr (.inr (some 126))), (3, .inl (nI w))], [], zs.2.2)) (fun zs => cnz zs.2.1 64) (fun zs => um m zs.2.2 ∧ ur m C H zs.2.2 ∧ (uq F267b Va (ud m zs.2.2)) ∧ (∃ ls : Nat → Nat, (∀ i, i < zs.1 → ((ud m zs.2.2).2.2.1 99 18).2 i = nI (ls i)) ∧ inw ls zs.1 (btw U (pd f 0 P)) w zs.2.1)) (fun zs hzb ihb => ?_) (n, lf0, Hsa) ⟨ua, hta, (show uq F267b Va (ud m Hsa) from by rw [da]; exact uq.refl _ _), (show ∃ ls : Nat → Nat, (∀ i, i < n → ((ud m Hsa).2.2.1 99 18).2 i = nI (ls i)) ∧ inw ls n (btw U (pd f 0 P)) w lf0 from by rw [da]; exact ⟨ls0, hls0, in_start hen hlq⟩)⟩
      obtain ⟨n, lf, Hsb⟩ := zs
      obtain ⟨ub, htb, db, hI⟩ := hzb
      have ub : um m Hsb := ub
      have htb : ur m C H Hsb := htb
      have zzb : uq F267b Va (ud m Hsb) := db
      have hI : ∃ ls : Nat → Nat, (∀ i, i < n → ((ud m Hsb).2.2.1 99 18).2 i = nI (ls i)) ∧ inw ls n (btw U (pd f 0 P)) w lf := hI
      obtain ⟨Vb, db⟩ : ∃ V, ud m Hsb = V := ⟨_, rfl⟩
      rw [db] at zzb hI
      have qfb : uq F267 U Vb := qfa.tr zzb rfl
      show mu_W _ _ (42, [(2, .inl (nI n)), (4, .inr (.inl lf)), (6, .inl (nI (cnz lf 64))), (0, .inr (.inr (some 99))), (1, .inr (.inr (some 126))), (3, .inl (nI w))], [], Hsb) _
      obtain ⟨ls, hls, hin⟩ := hI
      have hcb := cnz_b (lf := lf) 64
      refine mw_go mu_g267 (k := 1) (f1 := (44, [(2, .inl (nI n)), (4, .inr (.inl lf)), (6, .inl (nI (cnz lf 64))), (0, .inr (.inr (some 99))), (1, .inr (.inr (some 126))), (3, .inl (nI w))], [.inl (nI (cnz lf 64))], Hsb)) (C := []) rfl trivial ?_
      refine mw_if (P := 0 < (nI (cnz lf 64))) (a := 47) (b := 81) (fun _ => rfl) trivial (fun h3 => ?_) (fun h3 => ?_)
      · -- 47: 0 < (nI (cnz lf 64))
        have nh3 : 0 < (cnz lf 64) := (nI_ltI (by omega) (by omega)).mp (show nI 0 < nI (cnz lf 64) from h3)
        refine mw_go mu_g267 (k := 2) (f1 := (51, [(2, .inl (nI n)), (4, .inr (.inl lf)), (6, .inl (nI (cnz lf 64))), (0, .inr (.inr (some 99))), (1, .inr (.inr (some 126))), (3, .inl (nI w))], [.inr (.inr (mu_r Hsb 99 18))], Hsb)) (C := [mu_is Hsb (some 99) 13]) rfl (show mu_is Hsb (some 99) 13 from (ub.1.1.is rfl)) ?_
        rw [(show mu_r Hsb 99 18 = (U.2.2.2.1 99 18) from (ud_q (U := Vb) (m := m) (P := 99) (j := 18) db rfl).trans ((zzb.r 99 18 rfl).trans (zza.r 99 18 rfl)))]
        refine mw_go mu_g267 (k := 4) (f1 := (56, [(2, .inl (nI n)), (4, .inr (.inl lf)), (6, .inl (nI (cnz lf 64))), (0, .inr (.inr (some 99))), (1, .inr (.inr (some 126))), (3, .inl (nI w))], [.inl ((nI w) * (64 : Int32)), .inl (nI n), .inr (.inr (U.2.2.2.1 99 18))], Hsb)) (C := []) rfl trivial ?_
        rw [(show ((nI w) * (64 : Int32)) = (nI (w * 64)) from (nI_mul (a := w) (b := 64)))]
        refine mw_go mu_g267 (k := 1) (f1 := (58, [(2, .inl (nI n)), (4, .inr (.inl lf)), (6, .inl (nI (cnz lf 64))), (0, .inr (.inr (some 99))), (1, .inr (.inr (some 126))), (3, .inl (nI w))], [.inr (.inl lf), .inl (nI (w * 64)), .inl (nI n), .inr (.inr (U.2.2.2.1 99 18))], Hsb)) (C := []) rfl trivial ?_
        obtain ⟨t, ht1, ht2, ht3⟩ := cnz_low (lf := lf) (by omega)
        obtain ⟨rm1, rm2⟩ := in_room hin ht1 ht2 ht3 (fun s z => btw_T z)
        refine mw_cIe (fun _ => rfl) trivial (jl_tz_ok (d := d) lf) ?_
        rw [show jl_tz lf = nI t from tz64 ht1 ht2 ht3]
        refine mw_go mu_g267 (k := 1) (f1 := (62, [(2, .inl (nI n)), (4, .inr (.inl lf)), (6, .inl (nI (cnz lf 64))), (0, .inr (.inr (some 99))), (1, .inr (.inr (some 126))), (3, .inl (nI w))], [.inl ((nI (w * 64)) + (nI t)), .inl (nI n), .inr (.inr (U.2.2.2.1 99 18))], Hsb)) (C := []) rfl trivial ?_
        rw [(show ((nI (w * 64)) + (nI t)) = (nI ((w * 64) + t)) from (nI_add (w * 64) t))]
        refine mw_go mu_g267 (k := 1) (f1 := (63, [(2, .inl (nI n)), (4, .inr (.inl lf)), (6, .inl (nI (cnz lf 64))), (0, .inr (.inr (some 99))), (1, .inr (.inr (some 126))), (3, .inl (nI w))], [], (mu_si Hsb (mu_p (U.2.2.2.1 99 18)) (nI n).toNatClampNeg (nI ((w * 64) + t))))) (C := [mu_is Hsb (U.2.2.2.1 99 18) 100, vp_in (nI n) (mu_n Hsb (mu_p (U.2.2.2.1 99 18)))]) rfl (show (mu_is Hsb (U.2.2.2.1 99 18) 100) ∧ (vp_in (nI n) (mu_n Hsb (mu_p (U.2.2.2.1 99 18)))) from ⟨(ub.iA db rfl rfl (show Vb.2.2.2.1 99 18 = (U.2.2.2.1 99 18) from ((zzb.r 99 18 rfl).trans (zza.r 99 18 rfl)))), (ub.vA (i := n) db rfl rfl (show Vb.2.2.2.1 99 18 = (U.2.2.2.1 99 18) from ((zzb.r 99 18 rfl).trans (zza.r 99 18 rfl))) (show (Vb.2.2.1 99 18).1 = (U.2.2.1 99 18).1 from ((zzb.n 99 18 rfl).trans (zza.n 99 18 rfl))) (by omega) (by omega))⟩) ?_
        rw [(show (nI n).toNatClampNeg = n from nI_clamp (by omega))]
        obtain ⟨u5, r5, d5⟩ : um m (mu_si Hsb (mu_p (U.2.2.2.1 99 18)) n (nI ((w * 64) + t))) ∧ ur m C Hsb (mu_si Hsb (mu_p (U.2.2.2.1 99 18)) n (nI ((w * 64) + t))) ∧ ud m (mu_si Hsb (mu_p (U.2.2.2.1 99 18)) n (nI ((w * 64) + t))) = (upA Vb 99 18 n (nI ((w * 64) + t))) := ub.sA (C := C) db rfl rfl (show Vb.2.2.2.1 99 18 = (U.2.2.2.1 99 18) from ((zzb.r 99 18 rfl).trans (zza.r 99 18 rfl)))
        generalize (mu_si Hsb (mu_p (U.2.2.2.1 99 18)) n (nI ((w * 64) + t))) = Q5 at u5 r5 d5 ⊢
        have qf5 : uq F267 U (upA Vb 99 18 n (nI ((w * 64) + t))) := qfb.A rfl
        have ht5 : ur m C H Q5 := htb.trans r5
        refine mw_go mu_g267 (k := 1) (f1 := (66, [(2, .inl ((nI n) + 1)), (4, .inr (.inl lf)), (6, .inl (nI (cnz lf 64))), (0, .inr (.inr (some 99))), (1, .inr (.inr (some 126))), (3, .inl (nI w))], [], Q5)) (C := []) rfl trivial ?_
        rw [(show ((nI n) + 1) = (nI (n + 1)) from (nI_add n 1))]
        refine mw_go mu_g267 (k := 6) (f1 := (75, [(4, .inr (.inl (lf &&& (lf - (1 : Int64))))), (2, .inl (nI (n + 1))), (6, .inl (nI (cnz lf 64))), (0, .inr (.inr (some 99))), (1, .inr (.inr (some 126))), (3, .inl (nI w))], [], Q5)) (C := []) rfl trivial ?_
        obtain ⟨lf2, hlf2⟩ : ∃ y, y = (lf &&& (lf - (1 : Int64))) := ⟨_, rfl⟩
        rw [← hlf2]
        have hoff : ∀ i, btz lf2 i = (btz lf i && decide (i ≠ t)) := fun i => by rw [hlf2]; exact low_off ht2 ht3 i
        have hcl : cnz lf2 64 + 1 = cnz lf 64 := (cnz_less ht2 (by rw [hoff]; simp) (fun i hi => by rw [hoff]; simp [hi]) 64).2 ht1
        refine mw_go mu_g267 (k := 1) (f1 := (78, [(6, .inl ((nI (cnz lf 64)) + (-1))), (4, .inr (.inl lf2)), (2, .inl (nI (n + 1))), (0, .inr (.inr (some 99))), (1, .inr (.inr (some 126))), (3, .inl (nI w))], [], Q5)) (C := []) rfl trivial ?_
        rw [(show ((nI (cnz lf 64)) + (-1)) = (nI ((cnz lf 64) - 1)) from ((Int32.sub_eq_add_neg _ _).symm.trans (nI_sub (a := cnz lf 64) (b := 1) (by omega))))]
        rw [show (nI ((cnz lf 64) - 1)) = nI (cnz lf2 64) from congrArg nI (by omega)]
        refine mw_go mu_g267 (k := 1) (f1 := (42, [(6, .inl (nI (cnz lf2 64))), (4, .inr (.inl lf2)), (2, .inl (nI (n + 1))), (0, .inr (.inr (some 99))), (1, .inr (.inr (some 126))), (3, .inl (nI w))], [], Q5)) (C := []) rfl trivial ?_
        exact mw_sub (by simp) (ihb (n + 1, lf2, Q5) ⟨u5, ht5, (show uq F267b Va (ud m Q5) from by rw [d5]; exact (zzb.A rfl)), (show ∃ ls : Nat → Nat, (∀ i, i < (n + 1) → ((ud m Q5).2.2.1 99 18).2 i = nI (ls i)) ∧ inw ls (n + 1) (btw U (pd f 0 P)) w lf2 from by rw [d5]; exact ⟨fun i => if i = n then 64 * w + t else ls i, fun i hi => (by show (if i = n then nI (w * 64 + t) else (Vb.2.2.1 99 18).2 i) = nI (if i = n then 64 * w + t else ls i); rw [show w * 64 + t = 64 * w + t by omega]; by_cases ei : i = n; (rw [if_pos ei, if_pos ei]); (rw [if_neg ei, if_neg ei]; exact hls i (by omega))), in_step hin ht1 ht2 ht3 hoff⟩)⟩ (by show cnz lf2 64 < cnz lf 64; omega))
      · -- 81: not 0 < (nI (cnz lf 64))
        have nh3 : ¬ 0 < (cnz lf 64) := fun z => h3 (show nI 0 < nI (cnz lf 64) from (nI_ltI (by omega) (by omega)).mpr z)
        refine mw_go mu_g267 (k := 1) (f1 := (84, [(3, .inl ((nI w) + 1)), (2, .inl (nI n)), (4, .inr (.inl lf)), (6, .inl (nI (cnz lf 64))), (0, .inr (.inr (some 99))), (1, .inr (.inr (some 126)))], [], Hsb)) (C := []) rfl trivial ?_
        rw [(show ((nI w) + 1) = (nI (w + 1)) from (nI_add w 1))]
        refine mw_go mu_g267 (k := 1) (f1 := (4, [(3, .inl (nI (w + 1))), (2, .inl (nI n)), (4, .inr (.inl lf)), (6, .inl (nI (cnz lf 64))), (0, .inr (.inr (some 99))), (1, .inr (.inr (some 126)))], [], Hsb)) (C := []) rfl trivial ?_
        exact mw_sub (by simp) (iha (w + 1, n, Hsb) ⟨ub, htb, (show uq F267a U (ud m Hsb) from by rw [db]; exact (zza.tr zzb rfl)), (show (w + 1) ≤ (pd f 0 P + 63) / 64 from (by omega)), (show ∃ ls : Nat → Nat, (∀ i, i < n → ((ud m Hsb).2.2.1 99 18).2 i = nI (ls i)) ∧ enw ls n (btw U (pd f 0 P)) (w + 1) from by rw [db]; exact ⟨ls, hls, in_end hin (cnz_none 64 (by omega))⟩)⟩ (by show (pd f 0 P + 63) / 64 - (w + 1) < (pd f 0 P + 63) / 64 - w; omega))
    · -- 35: not (lg_cmp lf0 (0 : Int64)) = 0
      refine mw_go mu_g267 (k := 1) (f1 := (37, [(4, .inr (.inl lf0)), (3, .inl (nI w)), (2, .inl (nI n)), (0, .inr (.inr (some 99))), (1, .inr (.inr (some 126)))], [.inr (.inl lf0)], Hsa)) (C := []) rfl trivial ?_
      refine mw_cIe (fun _ => rfl) trivial (jl_bits_ok (d := (d + 1)) lf0) ?_
      rw [show jl_bits lf0 = nI (cnz lf0 64) from jl_bits_c]
      refine mw_go mu_g267 (k := 1) (f1 := (42, [(6, .inl (nI (cnz lf0 64))), (4, .inr (.inl lf0)), (3, .inl (nI w)), (2, .inl (nI n)), (0, .inr (.inr (some 99))), (1, .inr (.inr (some 126)))], [], Hsa)) (C := []) rfl trivial ?_
      refine mw_sub (L' := [(2, .inl (nI n)), (4, .inr (.inl lf0)), (6, .inl (nI (cnz lf0 64))), (0, .inr (.inr (some 99))), (1, .inr (.inr (some 126))), (3, .inl (nI w))]) (by simp) ?_
      refine mw_down (α := Nat × Int64 × mu_H) (fun zs => (42, [(2, .inl (nI zs.1)), (4, .inr (.inl zs.2.1)), (6, .inl (nI (cnz zs.2.1 64))), (0, .inr (.inr (some 99))), (1, .inr (.inr (some 126))), (3, .inl (nI w))], [], zs.2.2)) (fun zs => cnz zs.2.1 64) (fun zs => um m zs.2.2 ∧ ur m C H zs.2.2 ∧ (uq F267b Va (ud m zs.2.2)) ∧ (∃ ls : Nat → Nat, (∀ i, i < zs.1 → ((ud m zs.2.2).2.2.1 99 18).2 i = nI (ls i)) ∧ inw ls zs.1 (btw U (pd f 0 P)) w zs.2.1)) (fun zs hzb ihb => ?_) (n, lf0, Hsa) ⟨ua, hta, (show uq F267b Va (ud m Hsa) from by rw [da]; exact uq.refl _ _), (show ∃ ls : Nat → Nat, (∀ i, i < n → ((ud m Hsa).2.2.1 99 18).2 i = nI (ls i)) ∧ inw ls n (btw U (pd f 0 P)) w lf0 from by rw [da]; exact ⟨ls0, hls0, in_start hen hlq⟩)⟩
      obtain ⟨n, lf, Hsb⟩ := zs
      obtain ⟨ub, htb, db, hI⟩ := hzb
      have ub : um m Hsb := ub
      have htb : ur m C H Hsb := htb
      have zzb : uq F267b Va (ud m Hsb) := db
      have hI : ∃ ls : Nat → Nat, (∀ i, i < n → ((ud m Hsb).2.2.1 99 18).2 i = nI (ls i)) ∧ inw ls n (btw U (pd f 0 P)) w lf := hI
      obtain ⟨Vb, db⟩ : ∃ V, ud m Hsb = V := ⟨_, rfl⟩
      rw [db] at zzb hI
      have qfb : uq F267 U Vb := qfa.tr zzb rfl
      show mu_W _ _ (42, [(2, .inl (nI n)), (4, .inr (.inl lf)), (6, .inl (nI (cnz lf 64))), (0, .inr (.inr (some 99))), (1, .inr (.inr (some 126))), (3, .inl (nI w))], [], Hsb) _
      obtain ⟨ls, hls, hin⟩ := hI
      have hcb := cnz_b (lf := lf) 64
      refine mw_go mu_g267 (k := 1) (f1 := (44, [(2, .inl (nI n)), (4, .inr (.inl lf)), (6, .inl (nI (cnz lf 64))), (0, .inr (.inr (some 99))), (1, .inr (.inr (some 126))), (3, .inl (nI w))], [.inl (nI (cnz lf 64))], Hsb)) (C := []) rfl trivial ?_
      refine mw_if (P := 0 < (nI (cnz lf 64))) (a := 47) (b := 81) (fun _ => rfl) trivial (fun h7 => ?_) (fun h7 => ?_)
      · -- 47: 0 < (nI (cnz lf 64))
        have nh7 : 0 < (cnz lf 64) := (nI_ltI (by omega) (by omega)).mp (show nI 0 < nI (cnz lf 64) from h7)
        refine mw_go mu_g267 (k := 2) (f1 := (51, [(2, .inl (nI n)), (4, .inr (.inl lf)), (6, .inl (nI (cnz lf 64))), (0, .inr (.inr (some 99))), (1, .inr (.inr (some 126))), (3, .inl (nI w))], [.inr (.inr (mu_r Hsb 99 18))], Hsb)) (C := [mu_is Hsb (some 99) 13]) rfl (show mu_is Hsb (some 99) 13 from (ub.1.1.is rfl)) ?_
        rw [(show mu_r Hsb 99 18 = (U.2.2.2.1 99 18) from (ud_q (U := Vb) (m := m) (P := 99) (j := 18) db rfl).trans ((zzb.r 99 18 rfl).trans (zza.r 99 18 rfl)))]
        refine mw_go mu_g267 (k := 4) (f1 := (56, [(2, .inl (nI n)), (4, .inr (.inl lf)), (6, .inl (nI (cnz lf 64))), (0, .inr (.inr (some 99))), (1, .inr (.inr (some 126))), (3, .inl (nI w))], [.inl ((nI w) * (64 : Int32)), .inl (nI n), .inr (.inr (U.2.2.2.1 99 18))], Hsb)) (C := []) rfl trivial ?_
        rw [(show ((nI w) * (64 : Int32)) = (nI (w * 64)) from (nI_mul (a := w) (b := 64)))]
        refine mw_go mu_g267 (k := 1) (f1 := (58, [(2, .inl (nI n)), (4, .inr (.inl lf)), (6, .inl (nI (cnz lf 64))), (0, .inr (.inr (some 99))), (1, .inr (.inr (some 126))), (3, .inl (nI w))], [.inr (.inl lf), .inl (nI (w * 64)), .inl (nI n), .inr (.inr (U.2.2.2.1 99 18))], Hsb)) (C := []) rfl trivial ?_
        obtain ⟨t, ht1, ht2, ht3⟩ := cnz_low (lf := lf) (by omega)
        obtain ⟨rm1, rm2⟩ := in_room hin ht1 ht2 ht3 (fun s z => btw_T z)
        refine mw_cIe (fun _ => rfl) trivial (jl_tz_ok (d := d) lf) ?_
        rw [show jl_tz lf = nI t from tz64 ht1 ht2 ht3]
        refine mw_go mu_g267 (k := 1) (f1 := (62, [(2, .inl (nI n)), (4, .inr (.inl lf)), (6, .inl (nI (cnz lf 64))), (0, .inr (.inr (some 99))), (1, .inr (.inr (some 126))), (3, .inl (nI w))], [.inl ((nI (w * 64)) + (nI t)), .inl (nI n), .inr (.inr (U.2.2.2.1 99 18))], Hsb)) (C := []) rfl trivial ?_
        rw [(show ((nI (w * 64)) + (nI t)) = (nI ((w * 64) + t)) from (nI_add (w * 64) t))]
        refine mw_go mu_g267 (k := 1) (f1 := (63, [(2, .inl (nI n)), (4, .inr (.inl lf)), (6, .inl (nI (cnz lf 64))), (0, .inr (.inr (some 99))), (1, .inr (.inr (some 126))), (3, .inl (nI w))], [], (mu_si Hsb (mu_p (U.2.2.2.1 99 18)) (nI n).toNatClampNeg (nI ((w * 64) + t))))) (C := [mu_is Hsb (U.2.2.2.1 99 18) 100, vp_in (nI n) (mu_n Hsb (mu_p (U.2.2.2.1 99 18)))]) rfl (show (mu_is Hsb (U.2.2.2.1 99 18) 100) ∧ (vp_in (nI n) (mu_n Hsb (mu_p (U.2.2.2.1 99 18)))) from ⟨(ub.iA db rfl rfl (show Vb.2.2.2.1 99 18 = (U.2.2.2.1 99 18) from ((zzb.r 99 18 rfl).trans (zza.r 99 18 rfl)))), (ub.vA (i := n) db rfl rfl (show Vb.2.2.2.1 99 18 = (U.2.2.2.1 99 18) from ((zzb.r 99 18 rfl).trans (zza.r 99 18 rfl))) (show (Vb.2.2.1 99 18).1 = (U.2.2.1 99 18).1 from ((zzb.n 99 18 rfl).trans (zza.n 99 18 rfl))) (by omega) (by omega))⟩) ?_
        rw [(show (nI n).toNatClampNeg = n from nI_clamp (by omega))]
        obtain ⟨u9, r9, d9⟩ : um m (mu_si Hsb (mu_p (U.2.2.2.1 99 18)) n (nI ((w * 64) + t))) ∧ ur m C Hsb (mu_si Hsb (mu_p (U.2.2.2.1 99 18)) n (nI ((w * 64) + t))) ∧ ud m (mu_si Hsb (mu_p (U.2.2.2.1 99 18)) n (nI ((w * 64) + t))) = (upA Vb 99 18 n (nI ((w * 64) + t))) := ub.sA (C := C) db rfl rfl (show Vb.2.2.2.1 99 18 = (U.2.2.2.1 99 18) from ((zzb.r 99 18 rfl).trans (zza.r 99 18 rfl)))
        generalize (mu_si Hsb (mu_p (U.2.2.2.1 99 18)) n (nI ((w * 64) + t))) = Q9 at u9 r9 d9 ⊢
        have qf9 : uq F267 U (upA Vb 99 18 n (nI ((w * 64) + t))) := qfb.A rfl
        have ht9 : ur m C H Q9 := htb.trans r9
        refine mw_go mu_g267 (k := 1) (f1 := (66, [(2, .inl ((nI n) + 1)), (4, .inr (.inl lf)), (6, .inl (nI (cnz lf 64))), (0, .inr (.inr (some 99))), (1, .inr (.inr (some 126))), (3, .inl (nI w))], [], Q9)) (C := []) rfl trivial ?_
        rw [(show ((nI n) + 1) = (nI (n + 1)) from (nI_add n 1))]
        refine mw_go mu_g267 (k := 6) (f1 := (75, [(4, .inr (.inl (lf &&& (lf - (1 : Int64))))), (2, .inl (nI (n + 1))), (6, .inl (nI (cnz lf 64))), (0, .inr (.inr (some 99))), (1, .inr (.inr (some 126))), (3, .inl (nI w))], [], Q9)) (C := []) rfl trivial ?_
        obtain ⟨lf2, hlf2⟩ : ∃ y, y = (lf &&& (lf - (1 : Int64))) := ⟨_, rfl⟩
        rw [← hlf2]
        have hoff : ∀ i, btz lf2 i = (btz lf i && decide (i ≠ t)) := fun i => by rw [hlf2]; exact low_off ht2 ht3 i
        have hcl : cnz lf2 64 + 1 = cnz lf 64 := (cnz_less ht2 (by rw [hoff]; simp) (fun i hi => by rw [hoff]; simp [hi]) 64).2 ht1
        refine mw_go mu_g267 (k := 1) (f1 := (78, [(6, .inl ((nI (cnz lf 64)) + (-1))), (4, .inr (.inl lf2)), (2, .inl (nI (n + 1))), (0, .inr (.inr (some 99))), (1, .inr (.inr (some 126))), (3, .inl (nI w))], [], Q9)) (C := []) rfl trivial ?_
        rw [(show ((nI (cnz lf 64)) + (-1)) = (nI ((cnz lf 64) - 1)) from ((Int32.sub_eq_add_neg _ _).symm.trans (nI_sub (a := cnz lf 64) (b := 1) (by omega))))]
        rw [show (nI ((cnz lf 64) - 1)) = nI (cnz lf2 64) from congrArg nI (by omega)]
        refine mw_go mu_g267 (k := 1) (f1 := (42, [(6, .inl (nI (cnz lf2 64))), (4, .inr (.inl lf2)), (2, .inl (nI (n + 1))), (0, .inr (.inr (some 99))), (1, .inr (.inr (some 126))), (3, .inl (nI w))], [], Q9)) (C := []) rfl trivial ?_
        exact mw_sub (by simp) (ihb (n + 1, lf2, Q9) ⟨u9, ht9, (show uq F267b Va (ud m Q9) from by rw [d9]; exact (zzb.A rfl)), (show ∃ ls : Nat → Nat, (∀ i, i < (n + 1) → ((ud m Q9).2.2.1 99 18).2 i = nI (ls i)) ∧ inw ls (n + 1) (btw U (pd f 0 P)) w lf2 from by rw [d9]; exact ⟨fun i => if i = n then 64 * w + t else ls i, fun i hi => (by show (if i = n then nI (w * 64 + t) else (Vb.2.2.1 99 18).2 i) = nI (if i = n then 64 * w + t else ls i); rw [show w * 64 + t = 64 * w + t by omega]; by_cases ei : i = n; (rw [if_pos ei, if_pos ei]); (rw [if_neg ei, if_neg ei]; exact hls i (by omega))), in_step hin ht1 ht2 ht3 hoff⟩)⟩ (by show cnz lf2 64 < cnz lf 64; omega))
      · -- 81: not 0 < (nI (cnz lf 64))
        have nh7 : ¬ 0 < (cnz lf 64) := fun z => h7 (show nI 0 < nI (cnz lf 64) from (nI_ltI (by omega) (by omega)).mpr z)
        refine mw_go mu_g267 (k := 1) (f1 := (84, [(3, .inl ((nI w) + 1)), (2, .inl (nI n)), (4, .inr (.inl lf)), (6, .inl (nI (cnz lf 64))), (0, .inr (.inr (some 99))), (1, .inr (.inr (some 126)))], [], Hsb)) (C := []) rfl trivial ?_
        rw [(show ((nI w) + 1) = (nI (w + 1)) from (nI_add w 1))]
        refine mw_go mu_g267 (k := 1) (f1 := (4, [(3, .inl (nI (w + 1))), (2, .inl (nI n)), (4, .inr (.inl lf)), (6, .inl (nI (cnz lf 64))), (0, .inr (.inr (some 99))), (1, .inr (.inr (some 126)))], [], Hsb)) (C := []) rfl trivial ?_
        exact mw_sub (by simp) (iha (w + 1, n, Hsb) ⟨ub, htb, (show uq F267a U (ud m Hsb) from by rw [db]; exact (zza.tr zzb rfl)), (show (w + 1) ≤ (pd f 0 P + 63) / 64 from (by omega)), (show ∃ ls : Nat → Nat, (∀ i, i < n → ((ud m Hsb).2.2.1 99 18).2 i = nI (ls i)) ∧ enw ls n (btw U (pd f 0 P)) (w + 1) from by rw [db]; exact ⟨ls, hls, in_end hin (cnz_none 64 (by omega))⟩)⟩ (by show (pd f 0 P + 63) / 64 - (w + 1) < (pd f 0 P + 63) / 64 - w; omega))
  · -- 87: not (nI w) < (nI ((pd f 0 P + 63) / 64))
    have nh1 : ¬ w < ((pd f 0 P + 63) / 64) := fun z => h1 (show nI w < nI ((pd f 0 P + 63) / 64) from (nI_ltI (by omega) (by omega)).mpr z)
    refine mw_go mu_g267 (k := 1) (f1 := (88, [(3, .inl (nI w)), (2, .inl (nI n)), (0, .inr (.inr (some 99))), (1, .inr (.inr (some 126)))], [.inl (nI n)], Hsa)) (C := []) rfl trivial ?_
    have hwE : w = (pd f 0 P + 63) / 64 := by omega
    exact mw_of (fun _ => mu_ret rfl trivial ⟨_, Hsa, rfl, n, rfl, ua, hta, (by rw [da]; exact qfa), ls0, (by rw [da]; exact hls0), (by rw [hwE] at hen; exact hen)⟩)
end Listing2
