/-! RELATION: bits are listed into a row -/
section ListBits
variable {H : mu_H} {m d fr wd Z : Nat} {C : Nat → Nat} {U : Ud}
def btu (U : Ud) (Z s : Nat) : Bool := decide (s < Z) && bts (U.2.2.2.2.1 146) s
theorem btu_q {w : Nat} (hB : ∀ s, s / 64 < wd → bts (U.2.2.2.2.1 146) s = true → s < Z) (hw : w < wd) (q : Nat) (hq : q < 64) : btz (U.2.2.2.2.1 146 w) q = btu U Z (64 * w + q) := by
  have e : bts (U.2.2.2.2.1 146) (64 * w + q) = btz (U.2.2.2.2.1 146 w) q := by
    unfold bts
    rw [show (64 * w + q) / 64 = w by omega, show (64 * w + q) % 64 = q by omega]
  unfold btu
  rw [← e]
  cases hb : bts (U.2.2.2.2.1 146) (64 * w + q)
  · rw [Bool.and_false]
  · rw [Bool.and_true, decide_eq_true (hB _ (by omega) hb)]
theorem btu_T {s : Nat} (h : btu U Z s = true) : s < Z := by
  unfold btu at h
  rw [Bool.and_eq_true, decide_eq_true_iff] at h
  exact h.1
def btc (U : Ud) (Z s : Nat) : Bool := decide (s < Z) && bts (U.2.2.2.2.1 126) s
theorem btc_q {w : Nat} (hB : ∀ s, s / 64 < wd → bts (U.2.2.2.2.1 126) s = true → s < Z) (hw : w < wd) (q : Nat) (hq : q < 64) : btz (U.2.2.2.2.1 126 w) q = btc U Z (64 * w + q) := by
  have e : bts (U.2.2.2.2.1 126) (64 * w + q) = btz (U.2.2.2.2.1 126 w) q := by
    unfold bts
    rw [show (64 * w + q) / 64 = w by omega, show (64 * w + q) % 64 = q by omega]
  unfold btc
  rw [← e]
  cases hb : bts (U.2.2.2.2.1 126) (64 * w + q)
  · rw [Bool.and_false]
  · rw [Bool.and_true, decide_eq_true (hB _ (by omega) hb)]
theorem btc_T {s : Nat} (h : btc U Z s = true) : s < Z := by
  unfold btc at h
  rw [Bool.and_eq_true, decide_eq_true_iff] at h
  exact h.1
def F285_10a : Uf := ⟨[], [], [(129, 10)], [], [], false⟩
def F285_10b : Uf := ⟨[], [], [(129, 10)], [], [], false⟩
/-- PathProver$Relation.listBits([J[III)I -/
abbrev mu_m285 : ev_M := (10, (some .int), [], ev_b285)
theorem mu_g285 : mu_good mu_m285 := mu_goodk ev_k285
def F285_10 : Uf := ⟨[], [], [(129, 10)], [], [], false⟩
theorem rl_listb10 (h : um m H) (e : ud m H = U) (hBT : ∀ s, s / 64 < wd → bts (U.2.2.2.2.1 146) s = true → s < Z) (hwd : wd ≤ 256) (hZ : fr + Z ≤ (U.2.2.1 129 10).1) (hZ2 : (U.2.2.1 129 10).1 < 2147483648) : mu_TI (mu_D (d + 3)) 285 [.inr (.inr (some 129)), .inr (.inr (some 146)), .inr (.inr (U.2.2.2.1 129 10)), .inl (nI fr), .inl (nI wd)] H (fun x H1 => ∃ n, x = nI n ∧ um m H1 ∧ ur m C H H1 ∧ uq F285_10 U (ud m H1) ∧ ∃ ls : Nat → Nat, (∀ i, i < n → ((ud m H1).2.2.1 129 10).2 (fr + i) = nI (ls i)) ∧ enw ls n (btu U Z) wd ∧ ∀ k, (k < fr ∨ fr + n ≤ k) → ((ud m H1).2.2.1 129 10).2 k = (U.2.2.1 129 10).2 k) := by
  refine mu_meth (M := mu_m285) rfl rfl ?_
  refine mw_ht (mu_fn_of (show [0, 1, 2, 3, 4].Nodup by decide)) ?_
  refine mw_go mu_g285 (k := 4) (f1 := (6, [(6, .inl (0 : Int32)), (5, .inl (0 : Int32)), (0, .inr (.inr (some 129))), (1, .inr (.inr (some 146))), (2, .inr (.inr (U.2.2.2.1 129 10))), (3, .inl (nI fr)), (4, .inl (nI wd))], [], H)) (C := []) rfl trivial ?_
  show mu_W _ _ (6, [(6, .inl (nI 0)), (5, .inl (nI 0)), (0, .inr (.inr (some 129))), (1, .inr (.inr (some 146))), (2, .inr (.inr (U.2.2.2.1 129 10))), (3, .inl (nI fr)), (4, .inl (nI wd))], [], H) _
  refine mw_sub (L' := [(6, .inl (nI 0)), (5, .inl (nI 0)), (0, .inr (.inr (some 129))), (1, .inr (.inr (some 146))), (2, .inr (.inr (U.2.2.2.1 129 10))), (3, .inl (nI fr)), (4, .inl (nI wd))]) (by simp) ?_
  refine mw_down (α := Nat × Nat × mu_H) (fun zs => (6, [(6, .inl (nI zs.1)), (5, .inl (nI zs.2.1)), (0, .inr (.inr (some 129))), (1, .inr (.inr (some 146))), (2, .inr (.inr (U.2.2.2.1 129 10))), (3, .inl (nI fr)), (4, .inl (nI wd))], [], zs.2.2)) (fun zs => wd - zs.1) (fun zs => um m zs.2.2 ∧ ur m C H zs.2.2 ∧ (uq F285_10a U (ud m zs.2.2)) ∧ (zs.1 ≤ wd) ∧ (∃ ls : Nat → Nat, (∀ i, i < zs.2.1 → ((ud m zs.2.2).2.2.1 129 10).2 (fr + i) = nI (ls i)) ∧ enw ls zs.2.1 (btu U Z) zs.1) ∧ (∀ k, (k < fr ∨ fr + zs.2.1 ≤ k) → ((ud m zs.2.2).2.2.1 129 10).2 k = (U.2.2.1 129 10).2 k)) (fun zs hza iha => ?_) (0, 0, H) ⟨h, (ur.refl m C H), (show uq F285_10a U (ud m H) from by rw [e]; exact uq.refl _ _), (show 0 ≤ wd from (by omega)), (show ∃ ls : Nat → Nat, (∀ i, i < 0 → ((ud m H).2.2.1 129 10).2 (fr + i) = nI (ls i)) ∧ enw ls 0 (btu U Z) 0 from by rw [e]; exact ⟨fun _ => 0, fun i hi => absurd hi (Nat.not_lt_zero _), fun i j _ hj => absurd hj (Nat.not_lt_zero _), fun s => ⟨fun ⟨i, hi, _⟩ => absurd hi (Nat.not_lt_zero _), fun z => by omega⟩⟩), (show ∀ k, (k < fr ∨ fr + 0 ≤ k) → ((ud m H).2.2.1 129 10).2 k = (U.2.2.1 129 10).2 k from by rw [e]; exact (fun k _ => rfl))⟩
  obtain ⟨w, n, Hsa⟩ := zs
  obtain ⟨ua, hta, da, hw, hL, hKa⟩ := hza
  have ua : um m Hsa := ua
  have hta : ur m C H Hsa := hta
  have zza : uq F285_10a U (ud m Hsa) := da
  have hw : w ≤ wd := hw
  have hL : ∃ ls : Nat → Nat, (∀ i, i < n → ((ud m Hsa).2.2.1 129 10).2 (fr + i) = nI (ls i)) ∧ enw ls n (btu U Z) w := hL
  have hKa : ∀ k, (k < fr ∨ fr + n ≤ k) → ((ud m Hsa).2.2.1 129 10).2 k = (U.2.2.1 129 10).2 k := hKa
  obtain ⟨Va, da⟩ : ∃ V, ud m Hsa = V := ⟨_, rfl⟩
  rw [da] at zza hL hKa
  have qfa : uq F285_10 U Va := (uq.refl F285_10 U).tr zza rfl
  show mu_W _ _ (6, [(6, .inl (nI w)), (5, .inl (nI n)), (0, .inr (.inr (some 129))), (1, .inr (.inr (some 146))), (2, .inr (.inr (U.2.2.2.1 129 10))), (3, .inl (nI fr)), (4, .inl (nI wd))], [], Hsa) _
  obtain ⟨ls0, hls0, hen⟩ := hL
  refine mw_go mu_g285 (k := 2) (f1 := (10, [(6, .inl (nI w)), (5, .inl (nI n)), (0, .inr (.inr (some 129))), (1, .inr (.inr (some 146))), (2, .inr (.inr (U.2.2.2.1 129 10))), (3, .inl (nI fr)), (4, .inl (nI wd))], [.inl (nI wd), .inl (nI w)], Hsa)) (C := []) rfl trivial ?_
  refine mw_if (P := (nI w) < (nI wd)) (a := 13) (b := 83) (fun _ => rfl) trivial (fun h1 => ?_) (fun h1 => ?_)
  · -- 13: (nI w) < (nI wd)
    have nh1 : w < wd := (nI_ltI (by omega) (by omega)).mp (show nI w < nI wd from h1)
    refine mw_go mu_g285 (k := 3) (f1 := (17, [(6, .inl (nI w)), (5, .inl (nI n)), (0, .inr (.inr (some 129))), (1, .inr (.inr (some 146))), (2, .inr (.inr (U.2.2.2.1 129 10))), (3, .inl (nI fr)), (4, .inl (nI wd))], [.inr (.inl (mu_l Hsa 146 (nI w).toNatClampNeg))], Hsa)) (C := [mu_isr Hsa (some 146) 102, vp_in (nI w) (mu_n Hsa 146)]) rfl (show (mu_isr Hsa (some 146) 102) ∧ (vp_in (nI w) (mu_n Hsa 146)) from ⟨((ua.1.1.a (p := 146) (x := (102, 256)) rfl).1).r, (by rw [show mu_n Hsa 146 = 256 from (ua.1.1.a (p := 146) (x := (102, 256)) rfl).2]; exact vp_in_nI (n := w) (by omega) (by decide))⟩) ?_
    rw [(show (mu_l Hsa 146 (nI w).toNatClampNeg) = (U.2.2.2.2.1 146) w from (congrArg (mu_l Hsa 146) (show (nI w).toNatClampNeg = w from nI_clamp (by omega))).trans ((ud_l (m := m) (p := 146) (i := w) da rfl).trans (congrFun (show Va.2.2.2.2.1 146 = (U.2.2.2.2.1 146) from (zza.l 146 rfl)) w)))]
    obtain ⟨lf0, hlf0⟩ : ∃ y, y = ((U.2.2.2.2.1 146) w) := ⟨_, rfl⟩
    rw [← hlf0]
    have hlq : ∀ q, q < 64 → btz lf0 q = btu U Z (64 * w + q) := fun q hq => by rw [hlf0]; exact btu_q hBT (by omega) q hq
    refine mw_go mu_g285 (k := 4) (f1 := (23, [(7, .inr (.inl lf0)), (6, .inl (nI w)), (5, .inl (nI n)), (0, .inr (.inr (some 129))), (1, .inr (.inr (some 146))), (2, .inr (.inr (U.2.2.2.1 129 10))), (3, .inl (nI fr)), (4, .inl (nI wd))], [.inl (lg_cmp lf0 (0 : Int64))], Hsa)) (C := []) rfl trivial ?_
    refine mw_if (P := (lg_cmp lf0 (0 : Int64)) = 0) (a := 26) (b := 30) (fun _ => rfl) trivial (fun h2 => ?_) (fun h2 => ?_)
    · -- 26: (lg_cmp lf0 (0 : Int64)) = 0
      refine mw_go mu_g285 (k := 2) (f1 := (35, [(7, .inr (.inl lf0)), (6, .inl (nI w)), (5, .inl (nI n)), (0, .inr (.inr (some 129))), (1, .inr (.inr (some 146))), (2, .inr (.inr (U.2.2.2.1 129 10))), (3, .inl (nI fr)), (4, .inl (nI wd))], [.inl (0 : Int32)], Hsa)) (C := []) rfl trivial ?_
      rw [show (0 : Int32) = nI (cnz lf0 64) from by rw [show lf0 = 0 from lg_ne.mp h2, cnz_0 64 (fun i _ => btz_0)]; rfl]
      refine mw_go mu_g285 (k := 1) (f1 := (37, [(9, .inl (nI (cnz lf0 64))), (7, .inr (.inl lf0)), (6, .inl (nI w)), (5, .inl (nI n)), (0, .inr (.inr (some 129))), (1, .inr (.inr (some 146))), (2, .inr (.inr (U.2.2.2.1 129 10))), (3, .inl (nI fr)), (4, .inl (nI wd))], [], Hsa)) (C := []) rfl trivial ?_
      refine mw_sub (L' := [(5, .inl (nI n)), (7, .inr (.inl lf0)), (9, .inl (nI (cnz lf0 64))), (0, .inr (.inr (some 129))), (1, .inr (.inr (some 146))), (2, .inr (.inr (U.2.2.2.1 129 10))), (3, .inl (nI fr)), (4, .inl (nI wd)), (6, .inl (nI w))]) (by simp) ?_
      refine mw_down (α := Nat × Int64 × mu_H) (fun zs => (37, [(5, .inl (nI zs.1)), (7, .inr (.inl zs.2.1)), (9, .inl (nI (cnz zs.2.1 64))), (0, .inr (.inr (some 129))), (1, .inr (.inr (some 146))), (2, .inr (.inr (U.2.2.2.1 129 10))), (3, .inl (nI fr)), (4, .inl (nI wd)), (6, .inl (nI w))], [], zs.2.2)) (fun zs => cnz zs.2.1 64) (fun zs => um m zs.2.2 ∧ ur m C H zs.2.2 ∧ (uq F285_10b Va (ud m zs.2.2)) ∧ (∃ ls : Nat → Nat, (∀ i, i < zs.1 → ((ud m zs.2.2).2.2.1 129 10).2 (fr + i) = nI (ls i)) ∧ inw ls zs.1 (btu U Z) w zs.2.1) ∧ (∀ k, (k < fr ∨ fr + zs.1 ≤ k) → ((ud m zs.2.2).2.2.1 129 10).2 k = (U.2.2.1 129 10).2 k)) (fun zs hzb ihb => ?_) (n, lf0, Hsa) ⟨ua, hta, (show uq F285_10b Va (ud m Hsa) from by rw [da]; exact uq.refl _ _), (show ∃ ls : Nat → Nat, (∀ i, i < n → ((ud m Hsa).2.2.1 129 10).2 (fr + i) = nI (ls i)) ∧ inw ls n (btu U Z) w lf0 from by rw [da]; exact ⟨ls0, hls0, in_start hen hlq⟩), (show ∀ k, (k < fr ∨ fr + n ≤ k) → ((ud m Hsa).2.2.1 129 10).2 k = (U.2.2.1 129 10).2 k from by rw [da]; exact hKa)⟩
      obtain ⟨n, lf, Hsb⟩ := zs
      obtain ⟨ub, htb, db, hI, hKb⟩ := hzb
      have ub : um m Hsb := ub
      have htb : ur m C H Hsb := htb
      have zzb : uq F285_10b Va (ud m Hsb) := db
      have hI : ∃ ls : Nat → Nat, (∀ i, i < n → ((ud m Hsb).2.2.1 129 10).2 (fr + i) = nI (ls i)) ∧ inw ls n (btu U Z) w lf := hI
      have hKb : ∀ k, (k < fr ∨ fr + n ≤ k) → ((ud m Hsb).2.2.1 129 10).2 k = (U.2.2.1 129 10).2 k := hKb
      obtain ⟨Vb, db⟩ : ∃ V, ud m Hsb = V := ⟨_, rfl⟩
      rw [db] at zzb hI hKb
      have qfb : uq F285_10 U Vb := qfa.tr zzb rfl
      show mu_W _ _ (37, [(5, .inl (nI n)), (7, .inr (.inl lf)), (9, .inl (nI (cnz lf 64))), (0, .inr (.inr (some 129))), (1, .inr (.inr (some 146))), (2, .inr (.inr (U.2.2.2.1 129 10))), (3, .inl (nI fr)), (4, .inl (nI wd)), (6, .inl (nI w))], [], Hsb) _
      obtain ⟨ls, hls, hin⟩ := hI
      have hcb := cnz_b (lf := lf) 64
      refine mw_go mu_g285 (k := 1) (f1 := (39, [(5, .inl (nI n)), (7, .inr (.inl lf)), (9, .inl (nI (cnz lf 64))), (0, .inr (.inr (some 129))), (1, .inr (.inr (some 146))), (2, .inr (.inr (U.2.2.2.1 129 10))), (3, .inl (nI fr)), (4, .inl (nI wd)), (6, .inl (nI w))], [.inl (nI (cnz lf 64))], Hsb)) (C := []) rfl trivial ?_
      refine mw_if (P := 0 < (nI (cnz lf 64))) (a := 42) (b := 77) (fun _ => rfl) trivial (fun h3 => ?_) (fun h3 => ?_)
      · -- 42: 0 < (nI (cnz lf 64))
        have nh3 : 0 < (cnz lf 64) := (nI_ltI (by omega) (by omega)).mp (show nI 0 < nI (cnz lf 64) from h3)
        refine mw_go mu_g285 (k := 4) (f1 := (47, [(5, .inl (nI n)), (7, .inr (.inl lf)), (9, .inl (nI (cnz lf 64))), (0, .inr (.inr (some 129))), (1, .inr (.inr (some 146))), (2, .inr (.inr (U.2.2.2.1 129 10))), (3, .inl (nI fr)), (4, .inl (nI wd)), (6, .inl (nI w))], [.inl ((nI fr) + (nI n)), .inr (.inr (U.2.2.2.1 129 10))], Hsb)) (C := []) rfl trivial ?_
        rw [(show ((nI fr) + (nI n)) = (nI (fr + n)) from (nI_add fr n))]
        refine mw_go mu_g285 (k := 3) (f1 := (52, [(5, .inl (nI n)), (7, .inr (.inl lf)), (9, .inl (nI (cnz lf 64))), (0, .inr (.inr (some 129))), (1, .inr (.inr (some 146))), (2, .inr (.inr (U.2.2.2.1 129 10))), (3, .inl (nI fr)), (4, .inl (nI wd)), (6, .inl (nI w))], [.inl ((nI w) * (64 : Int32)), .inl (nI (fr + n)), .inr (.inr (U.2.2.2.1 129 10))], Hsb)) (C := []) rfl trivial ?_
        rw [(show ((nI w) * (64 : Int32)) = (nI (w * 64)) from (nI_mul (a := w) (b := 64)))]
        refine mw_go mu_g285 (k := 1) (f1 := (54, [(5, .inl (nI n)), (7, .inr (.inl lf)), (9, .inl (nI (cnz lf 64))), (0, .inr (.inr (some 129))), (1, .inr (.inr (some 146))), (2, .inr (.inr (U.2.2.2.1 129 10))), (3, .inl (nI fr)), (4, .inl (nI wd)), (6, .inl (nI w))], [.inr (.inl lf), .inl (nI (w * 64)), .inl (nI (fr + n)), .inr (.inr (U.2.2.2.1 129 10))], Hsb)) (C := []) rfl trivial ?_
        obtain ⟨t, ht1, ht2, ht3⟩ := cnz_low (lf := lf) (by omega)
        obtain ⟨rm1, rm2⟩ := in_room hin ht1 ht2 ht3 (fun s z => btu_T z)
        refine mw_cIe (fun _ => rfl) trivial (jl_tz_ok (d := d) lf) ?_
        rw [show jl_tz lf = nI t from tz64 ht1 ht2 ht3]
        refine mw_go mu_g285 (k := 1) (f1 := (58, [(5, .inl (nI n)), (7, .inr (.inl lf)), (9, .inl (nI (cnz lf 64))), (0, .inr (.inr (some 129))), (1, .inr (.inr (some 146))), (2, .inr (.inr (U.2.2.2.1 129 10))), (3, .inl (nI fr)), (4, .inl (nI wd)), (6, .inl (nI w))], [.inl ((nI (w * 64)) + (nI t)), .inl (nI (fr + n)), .inr (.inr (U.2.2.2.1 129 10))], Hsb)) (C := []) rfl trivial ?_
        rw [(show ((nI (w * 64)) + (nI t)) = (nI ((w * 64) + t)) from (nI_add (w * 64) t))]
        refine mw_go mu_g285 (k := 1) (f1 := (59, [(5, .inl (nI n)), (7, .inr (.inl lf)), (9, .inl (nI (cnz lf 64))), (0, .inr (.inr (some 129))), (1, .inr (.inr (some 146))), (2, .inr (.inr (U.2.2.2.1 129 10))), (3, .inl (nI fr)), (4, .inl (nI wd)), (6, .inl (nI w))], [], (mu_si Hsb (mu_p (U.2.2.2.1 129 10)) (nI (fr + n)).toNatClampNeg (nI ((w * 64) + t))))) (C := [mu_is Hsb (U.2.2.2.1 129 10) 100, vp_in (nI (fr + n)) (mu_n Hsb (mu_p (U.2.2.2.1 129 10)))]) rfl (show (mu_is Hsb (U.2.2.2.1 129 10) 100) ∧ (vp_in (nI (fr + n)) (mu_n Hsb (mu_p (U.2.2.2.1 129 10)))) from ⟨(ub.iA db rfl rfl (show Vb.2.2.2.1 129 10 = (U.2.2.2.1 129 10) from ((zzb.r 129 10 rfl).trans (zza.r 129 10 rfl)))), (ub.vA (i := fr + n) db rfl rfl (show Vb.2.2.2.1 129 10 = (U.2.2.2.1 129 10) from ((zzb.r 129 10 rfl).trans (zza.r 129 10 rfl))) (show (Vb.2.2.1 129 10).1 = (U.2.2.1 129 10).1 from ((zzb.n 129 10 rfl).trans (zza.n 129 10 rfl))) (by omega) (by omega))⟩) ?_
        rw [(show (nI (fr + n)).toNatClampNeg = fr + n from nI_clamp (by omega))]
        obtain ⟨u5, r5, d5⟩ : um m (mu_si Hsb (mu_p (U.2.2.2.1 129 10)) (fr + n) (nI ((w * 64) + t))) ∧ ur m C Hsb (mu_si Hsb (mu_p (U.2.2.2.1 129 10)) (fr + n) (nI ((w * 64) + t))) ∧ ud m (mu_si Hsb (mu_p (U.2.2.2.1 129 10)) (fr + n) (nI ((w * 64) + t))) = (upA Vb 129 10 (fr + n) (nI ((w * 64) + t))) := ub.sA (C := C) db rfl rfl (show Vb.2.2.2.1 129 10 = (U.2.2.2.1 129 10) from ((zzb.r 129 10 rfl).trans (zza.r 129 10 rfl)))
        generalize (mu_si Hsb (mu_p (U.2.2.2.1 129 10)) (fr + n) (nI ((w * 64) + t))) = Q5 at u5 r5 d5 ⊢
        have qf5 : uq F285_10 U (upA Vb 129 10 (fr + n) (nI ((w * 64) + t))) := qfb.A rfl
        have ht5 : ur m C H Q5 := htb.trans r5
        refine mw_go mu_g285 (k := 1) (f1 := (62, [(5, .inl ((nI n) + 1)), (7, .inr (.inl lf)), (9, .inl (nI (cnz lf 64))), (0, .inr (.inr (some 129))), (1, .inr (.inr (some 146))), (2, .inr (.inr (U.2.2.2.1 129 10))), (3, .inl (nI fr)), (4, .inl (nI wd)), (6, .inl (nI w))], [], Q5)) (C := []) rfl trivial ?_
        rw [(show ((nI n) + 1) = (nI (n + 1)) from (nI_add n 1))]
        refine mw_go mu_g285 (k := 6) (f1 := (71, [(7, .inr (.inl (lf &&& (lf - (1 : Int64))))), (5, .inl (nI (n + 1))), (9, .inl (nI (cnz lf 64))), (0, .inr (.inr (some 129))), (1, .inr (.inr (some 146))), (2, .inr (.inr (U.2.2.2.1 129 10))), (3, .inl (nI fr)), (4, .inl (nI wd)), (6, .inl (nI w))], [], Q5)) (C := []) rfl trivial ?_
        obtain ⟨lf2, hlf2⟩ : ∃ y, y = (lf &&& (lf - (1 : Int64))) := ⟨_, rfl⟩
        rw [← hlf2]
        have hoff : ∀ i, btz lf2 i = (btz lf i && decide (i ≠ t)) := fun i => by rw [hlf2]; exact low_off ht2 ht3 i
        have hcl : cnz lf2 64 + 1 = cnz lf 64 := (cnz_less ht2 (by rw [hoff]; simp) (fun i hi => by rw [hoff]; simp [hi]) 64).2 ht1
        refine mw_go mu_g285 (k := 1) (f1 := (74, [(9, .inl ((nI (cnz lf 64)) + (-1))), (7, .inr (.inl lf2)), (5, .inl (nI (n + 1))), (0, .inr (.inr (some 129))), (1, .inr (.inr (some 146))), (2, .inr (.inr (U.2.2.2.1 129 10))), (3, .inl (nI fr)), (4, .inl (nI wd)), (6, .inl (nI w))], [], Q5)) (C := []) rfl trivial ?_
        rw [(show ((nI (cnz lf 64)) + (-1)) = (nI ((cnz lf 64) - 1)) from ((Int32.sub_eq_add_neg _ _).symm.trans (nI_sub (a := cnz lf 64) (b := 1) (by omega))))]
        rw [show (nI ((cnz lf 64) - 1)) = nI (cnz lf2 64) from congrArg nI (by omega)]
        refine mw_go mu_g285 (k := 1) (f1 := (37, [(9, .inl (nI (cnz lf2 64))), (7, .inr (.inl lf2)), (5, .inl (nI (n + 1))), (0, .inr (.inr (some 129))), (1, .inr (.inr (some 146))), (2, .inr (.inr (U.2.2.2.1 129 10))), (3, .inl (nI fr)), (4, .inl (nI wd)), (6, .inl (nI w))], [], Q5)) (C := []) rfl trivial ?_
        exact mw_sub (by simp) (ihb (n + 1, lf2, Q5) ⟨u5, ht5, (show uq F285_10b Va (ud m Q5) from by rw [d5]; exact (zzb.A rfl)), (show ∃ ls : Nat → Nat, (∀ i, i < (n + 1) → ((ud m Q5).2.2.1 129 10).2 (fr + i) = nI (ls i)) ∧ inw ls (n + 1) (btu U Z) w lf2 from by rw [d5]; exact ⟨fun i => if i = n then 64 * w + t else ls i, fun i hi => (by show (if fr + i = fr + n then nI (w * 64 + t) else (Vb.2.2.1 129 10).2 (fr + i)) = nI (if i = n then 64 * w + t else ls i); rw [show w * 64 + t = 64 * w + t by omega]; by_cases ei : i = n; (rw [if_pos (by omega), if_pos ei]); (rw [if_neg (by omega), if_neg ei]; exact hls i (by omega))), in_step hin ht1 ht2 ht3 hoff⟩), (show ∀ k, (k < fr ∨ fr + (n + 1) ≤ k) → ((ud m Q5).2.2.1 129 10).2 k = (U.2.2.1 129 10).2 k from by rw [d5]; exact (fun k hk => (by show (if k = fr + n then nI (w * 64 + t) else (Vb.2.2.1 129 10).2 k) = (U.2.2.1 129 10).2 k; rw [if_neg (by omega)]; exact hKb k (by omega))))⟩ (by show cnz lf2 64 < cnz lf 64; omega))
      · -- 77: not 0 < (nI (cnz lf 64))
        have nh3 : ¬ 0 < (cnz lf 64) := fun z => h3 (show nI 0 < nI (cnz lf 64) from (nI_ltI (by omega) (by omega)).mpr z)
        refine mw_go mu_g285 (k := 1) (f1 := (80, [(6, .inl ((nI w) + 1)), (5, .inl (nI n)), (7, .inr (.inl lf)), (9, .inl (nI (cnz lf 64))), (0, .inr (.inr (some 129))), (1, .inr (.inr (some 146))), (2, .inr (.inr (U.2.2.2.1 129 10))), (3, .inl (nI fr)), (4, .inl (nI wd))], [], Hsb)) (C := []) rfl trivial ?_
        rw [(show ((nI w) + 1) = (nI (w + 1)) from (nI_add w 1))]
        refine mw_go mu_g285 (k := 1) (f1 := (6, [(6, .inl (nI (w + 1))), (5, .inl (nI n)), (7, .inr (.inl lf)), (9, .inl (nI (cnz lf 64))), (0, .inr (.inr (some 129))), (1, .inr (.inr (some 146))), (2, .inr (.inr (U.2.2.2.1 129 10))), (3, .inl (nI fr)), (4, .inl (nI wd))], [], Hsb)) (C := []) rfl trivial ?_
        exact mw_sub (by simp) (iha (w + 1, n, Hsb) ⟨ub, htb, (show uq F285_10a U (ud m Hsb) from by rw [db]; exact (zza.tr zzb rfl)), (show (w + 1) ≤ wd from (by omega)), (show ∃ ls : Nat → Nat, (∀ i, i < n → ((ud m Hsb).2.2.1 129 10).2 (fr + i) = nI (ls i)) ∧ enw ls n (btu U Z) (w + 1) from by rw [db]; exact ⟨ls, hls, in_end hin (cnz_none 64 (by omega))⟩), (show ∀ k, (k < fr ∨ fr + n ≤ k) → ((ud m Hsb).2.2.1 129 10).2 k = (U.2.2.1 129 10).2 k from by rw [db]; exact hKb)⟩ (by show wd - (w + 1) < wd - w; omega))
    · -- 30: not (lg_cmp lf0 (0 : Int64)) = 0
      refine mw_go mu_g285 (k := 1) (f1 := (32, [(7, .inr (.inl lf0)), (6, .inl (nI w)), (5, .inl (nI n)), (0, .inr (.inr (some 129))), (1, .inr (.inr (some 146))), (2, .inr (.inr (U.2.2.2.1 129 10))), (3, .inl (nI fr)), (4, .inl (nI wd))], [.inr (.inl lf0)], Hsa)) (C := []) rfl trivial ?_
      refine mw_cIe (fun _ => rfl) trivial (jl_bits_ok (d := (d + 1)) lf0) ?_
      rw [show jl_bits lf0 = nI (cnz lf0 64) from jl_bits_c]
      refine mw_go mu_g285 (k := 1) (f1 := (37, [(9, .inl (nI (cnz lf0 64))), (7, .inr (.inl lf0)), (6, .inl (nI w)), (5, .inl (nI n)), (0, .inr (.inr (some 129))), (1, .inr (.inr (some 146))), (2, .inr (.inr (U.2.2.2.1 129 10))), (3, .inl (nI fr)), (4, .inl (nI wd))], [], Hsa)) (C := []) rfl trivial ?_
      refine mw_sub (L' := [(5, .inl (nI n)), (7, .inr (.inl lf0)), (9, .inl (nI (cnz lf0 64))), (0, .inr (.inr (some 129))), (1, .inr (.inr (some 146))), (2, .inr (.inr (U.2.2.2.1 129 10))), (3, .inl (nI fr)), (4, .inl (nI wd)), (6, .inl (nI w))]) (by simp) ?_
      refine mw_down (α := Nat × Int64 × mu_H) (fun zs => (37, [(5, .inl (nI zs.1)), (7, .inr (.inl zs.2.1)), (9, .inl (nI (cnz zs.2.1 64))), (0, .inr (.inr (some 129))), (1, .inr (.inr (some 146))), (2, .inr (.inr (U.2.2.2.1 129 10))), (3, .inl (nI fr)), (4, .inl (nI wd)), (6, .inl (nI w))], [], zs.2.2)) (fun zs => cnz zs.2.1 64) (fun zs => um m zs.2.2 ∧ ur m C H zs.2.2 ∧ (uq F285_10b Va (ud m zs.2.2)) ∧ (∃ ls : Nat → Nat, (∀ i, i < zs.1 → ((ud m zs.2.2).2.2.1 129 10).2 (fr + i) = nI (ls i)) ∧ inw ls zs.1 (btu U Z) w zs.2.1) ∧ (∀ k, (k < fr ∨ fr + zs.1 ≤ k) → ((ud m zs.2.2).2.2.1 129 10).2 k = (U.2.2.1 129 10).2 k)) (fun zs hzb ihb => ?_) (n, lf0, Hsa) ⟨ua, hta, (show uq F285_10b Va (ud m Hsa) from by rw [da]; exact uq.refl _ _), (show ∃ ls : Nat → Nat, (∀ i, i < n → ((ud m Hsa).2.2.1 129 10).2 (fr + i) = nI (ls i)) ∧ inw ls n (btu U Z) w lf0 from by rw [da]; exact ⟨ls0, hls0, in_start hen hlq⟩), (show ∀ k, (k < fr ∨ fr + n ≤ k) → ((ud m Hsa).2.2.1 129 10).2 k = (U.2.2.1 129 10).2 k from by rw [da]; exact hKa)⟩
      obtain ⟨n, lf, Hsb⟩ := zs
      obtain ⟨ub, htb, db, hI, hKb⟩ := hzb
      have ub : um m Hsb := ub
      have htb : ur m C H Hsb := htb
      have zzb : uq F285_10b Va (ud m Hsb) := db
      have hI : ∃ ls : Nat → Nat, (∀ i, i < n → ((ud m Hsb).2.2.1 129 10).2 (fr + i) = nI (ls i)) ∧ inw ls n (btu U Z) w lf := hI
      have hKb : ∀ k, (k < fr ∨ fr + n ≤ k) → ((ud m Hsb).2.2.1 129 10).2 k = (U.2.2.1 129 10).2 k := hKb
      obtain ⟨Vb, db⟩ : ∃ V, ud m Hsb = V := ⟨_, rfl⟩
      rw [db] at zzb hI hKb
      have qfb : uq F285_10 U Vb := qfa.tr zzb rfl
      show mu_W _ _ (37, [(5, .inl (nI n)), (7, .inr (.inl lf)), (9, .inl (nI (cnz lf 64))), (0, .inr (.inr (some 129))), (1, .inr (.inr (some 146))), (2, .inr (.inr (U.2.2.2.1 129 10))), (3, .inl (nI fr)), (4, .inl (nI wd)), (6, .inl (nI w))], [], Hsb) _
      obtain ⟨ls, hls, hin⟩ := hI
      have hcb := cnz_b (lf := lf) 64
      refine mw_go mu_g285 (k := 1) (f1 := (39, [(5, .inl (nI n)), (7, .inr (.inl lf)), (9, .inl (nI (cnz lf 64))), (0, .inr (.inr (some 129))), (1, .inr (.inr (some 146))), (2, .inr (.inr (U.2.2.2.1 129 10))), (3, .inl (nI fr)), (4, .inl (nI wd)), (6, .inl (nI w))], [.inl (nI (cnz lf 64))], Hsb)) (C := []) rfl trivial ?_
      refine mw_if (P := 0 < (nI (cnz lf 64))) (a := 42) (b := 77) (fun _ => rfl) trivial (fun h7 => ?_) (fun h7 => ?_)
      · -- 42: 0 < (nI (cnz lf 64))
        have nh7 : 0 < (cnz lf 64) := (nI_ltI (by omega) (by omega)).mp (show nI 0 < nI (cnz lf 64) from h7)
        refine mw_go mu_g285 (k := 4) (f1 := (47, [(5, .inl (nI n)), (7, .inr (.inl lf)), (9, .inl (nI (cnz lf 64))), (0, .inr (.inr (some 129))), (1, .inr (.inr (some 146))), (2, .inr (.inr (U.2.2.2.1 129 10))), (3, .inl (nI fr)), (4, .inl (nI wd)), (6, .inl (nI w))], [.inl ((nI fr) + (nI n)), .inr (.inr (U.2.2.2.1 129 10))], Hsb)) (C := []) rfl trivial ?_
        rw [(show ((nI fr) + (nI n)) = (nI (fr + n)) from (nI_add fr n))]
        refine mw_go mu_g285 (k := 3) (f1 := (52, [(5, .inl (nI n)), (7, .inr (.inl lf)), (9, .inl (nI (cnz lf 64))), (0, .inr (.inr (some 129))), (1, .inr (.inr (some 146))), (2, .inr (.inr (U.2.2.2.1 129 10))), (3, .inl (nI fr)), (4, .inl (nI wd)), (6, .inl (nI w))], [.inl ((nI w) * (64 : Int32)), .inl (nI (fr + n)), .inr (.inr (U.2.2.2.1 129 10))], Hsb)) (C := []) rfl trivial ?_
        rw [(show ((nI w) * (64 : Int32)) = (nI (w * 64)) from (nI_mul (a := w) (b := 64)))]
        refine mw_go mu_g285 (k := 1) (f1 := (54, [(5, .inl (nI n)), (7, .inr (.inl lf)), (9, .inl (nI (cnz lf 64))), (0, .inr (.inr (some 129))), (1, .inr (.inr (some 146))), (2, .inr (.inr (U.2.2.2.1 129 10))), (3, .inl (nI fr)), (4, .inl (nI wd)), (6, .inl (nI w))], [.inr (.inl lf), .inl (nI (w * 64)), .inl (nI (fr + n)), .inr (.inr (U.2.2.2.1 129 10))], Hsb)) (C := []) rfl trivial ?_
        obtain ⟨t, ht1, ht2, ht3⟩ := cnz_low (lf := lf) (by omega)
        obtain ⟨rm1, rm2⟩ := in_room hin ht1 ht2 ht3 (fun s z => btu_T z)
        refine mw_cIe (fun _ => rfl) trivial (jl_tz_ok (d := d) lf) ?_
        rw [show jl_tz lf = nI t from tz64 ht1 ht2 ht3]
        refine mw_go mu_g285 (k := 1) (f1 := (58, [(5, .inl (nI n)), (7, .inr (.inl lf)), (9, .inl (nI (cnz lf 64))), (0, .inr (.inr (some 129))), (1, .inr (.inr (some 146))), (2, .inr (.inr (U.2.2.2.1 129 10))), (3, .inl (nI fr)), (4, .inl (nI wd)), (6, .inl (nI w))], [.inl ((nI (w * 64)) + (nI t)), .inl (nI (fr + n)), .inr (.inr (U.2.2.2.1 129 10))], Hsb)) (C := []) rfl trivial ?_
        rw [(show ((nI (w * 64)) + (nI t)) = (nI ((w * 64) + t)) from (nI_add (w * 64) t))]
        refine mw_go mu_g285 (k := 1) (f1 := (59, [(5, .inl (nI n)), (7, .inr (.inl lf)), (9, .inl (nI (cnz lf 64))), (0, .inr (.inr (some 129))), (1, .inr (.inr (some 146))), (2, .inr (.inr (U.2.2.2.1 129 10))), (3, .inl (nI fr)), (4, .inl (nI wd)), (6, .inl (nI w))], [], (mu_si Hsb (mu_p (U.2.2.2.1 129 10)) (nI (fr + n)).toNatClampNeg (nI ((w * 64) + t))))) (C := [mu_is Hsb (U.2.2.2.1 129 10) 100, vp_in (nI (fr + n)) (mu_n Hsb (mu_p (U.2.2.2.1 129 10)))]) rfl (show (mu_is Hsb (U.2.2.2.1 129 10) 100) ∧ (vp_in (nI (fr + n)) (mu_n Hsb (mu_p (U.2.2.2.1 129 10)))) from ⟨(ub.iA db rfl rfl (show Vb.2.2.2.1 129 10 = (U.2.2.2.1 129 10) from ((zzb.r 129 10 rfl).trans (zza.r 129 10 rfl)))), (ub.vA (i := fr + n) db rfl rfl (show Vb.2.2.2.1 129 10 = (U.2.2.2.1 129 10) from ((zzb.r 129 10 rfl).trans (zza.r 129 10 rfl))) (show (Vb.2.2.1 129 10).1 = (U.2.2.1 129 10).1 from ((zzb.n 129 10 rfl).trans (zza.n 129 10 rfl))) (by omega) (by omega))⟩) ?_
        rw [(show (nI (fr + n)).toNatClampNeg = fr + n from nI_clamp (by omega))]
        obtain ⟨u9, r9, d9⟩ : um m (mu_si Hsb (mu_p (U.2.2.2.1 129 10)) (fr + n) (nI ((w * 64) + t))) ∧ ur m C Hsb (mu_si Hsb (mu_p (U.2.2.2.1 129 10)) (fr + n) (nI ((w * 64) + t))) ∧ ud m (mu_si Hsb (mu_p (U.2.2.2.1 129 10)) (fr + n) (nI ((w * 64) + t))) = (upA Vb 129 10 (fr + n) (nI ((w * 64) + t))) := ub.sA (C := C) db rfl rfl (show Vb.2.2.2.1 129 10 = (U.2.2.2.1 129 10) from ((zzb.r 129 10 rfl).trans (zza.r 129 10 rfl)))
        generalize (mu_si Hsb (mu_p (U.2.2.2.1 129 10)) (fr + n) (nI ((w * 64) + t))) = Q9 at u9 r9 d9 ⊢
        have qf9 : uq F285_10 U (upA Vb 129 10 (fr + n) (nI ((w * 64) + t))) := qfb.A rfl
        have ht9 : ur m C H Q9 := htb.trans r9
        refine mw_go mu_g285 (k := 1) (f1 := (62, [(5, .inl ((nI n) + 1)), (7, .inr (.inl lf)), (9, .inl (nI (cnz lf 64))), (0, .inr (.inr (some 129))), (1, .inr (.inr (some 146))), (2, .inr (.inr (U.2.2.2.1 129 10))), (3, .inl (nI fr)), (4, .inl (nI wd)), (6, .inl (nI w))], [], Q9)) (C := []) rfl trivial ?_
        rw [(show ((nI n) + 1) = (nI (n + 1)) from (nI_add n 1))]
        refine mw_go mu_g285 (k := 6) (f1 := (71, [(7, .inr (.inl (lf &&& (lf - (1 : Int64))))), (5, .inl (nI (n + 1))), (9, .inl (nI (cnz lf 64))), (0, .inr (.inr (some 129))), (1, .inr (.inr (some 146))), (2, .inr (.inr (U.2.2.2.1 129 10))), (3, .inl (nI fr)), (4, .inl (nI wd)), (6, .inl (nI w))], [], Q9)) (C := []) rfl trivial ?_
        obtain ⟨lf2, hlf2⟩ : ∃ y, y = (lf &&& (lf - (1 : Int64))) := ⟨_, rfl⟩
        rw [← hlf2]
        have hoff : ∀ i, btz lf2 i = (btz lf i && decide (i ≠ t)) := fun i => by rw [hlf2]; exact low_off ht2 ht3 i
        have hcl : cnz lf2 64 + 1 = cnz lf 64 := (cnz_less ht2 (by rw [hoff]; simp) (fun i hi => by rw [hoff]; simp [hi]) 64).2 ht1
        refine mw_go mu_g285 (k := 1) (f1 := (74, [(9, .inl ((nI (cnz lf 64)) + (-1))), (7, .inr (.inl lf2)), (5, .inl (nI (n + 1))), (0, .inr (.inr (some 129))), (1, .inr (.inr (some 146))), (2, .inr (.inr (U.2.2.2.1 129 10))), (3, .inl (nI fr)), (4, .inl (nI wd)), (6, .inl (nI w))], [], Q9)) (C := []) rfl trivial ?_
        rw [(show ((nI (cnz lf 64)) + (-1)) = (nI ((cnz lf 64) - 1)) from ((Int32.sub_eq_add_neg _ _).symm.trans (nI_sub (a := cnz lf 64) (b := 1) (by omega))))]
        rw [show (nI ((cnz lf 64) - 1)) = nI (cnz lf2 64) from congrArg nI (by omega)]
        refine mw_go mu_g285 (k := 1) (f1 := (37, [(9, .inl (nI (cnz lf2 64))), (7, .inr (.inl lf2)), (5, .inl (nI (n + 1))), (0, .inr (.inr (some 129))), (1, .inr (.inr (some 146))), (2, .inr (.inr (U.2.2.2.1 129 10))), (3, .inl (nI fr)), (4, .inl (nI wd)), (6, .inl (nI w))], [], Q9)) (C := []) rfl trivial ?_
        exact mw_sub (by simp) (ihb (n + 1, lf2, Q9) ⟨u9, ht9, (show uq F285_10b Va (ud m Q9) from by rw [d9]; exact (zzb.A rfl)), (show ∃ ls : Nat → Nat, (∀ i, i < (n + 1) → ((ud m Q9).2.2.1 129 10).2 (fr + i) = nI (ls i)) ∧ inw ls (n + 1) (btu U Z) w lf2 from by rw [d9]; exact ⟨fun i => if i = n then 64 * w + t else ls i, fun i hi => (by show (if fr + i = fr + n then nI (w * 64 + t) else (Vb.2.2.1 129 10).2 (fr + i)) = nI (if i = n then 64 * w + t else ls i); rw [show w * 64 + t = 64 * w + t by omega]; by_cases ei : i = n; (rw [if_pos (by omega), if_pos ei]); (rw [if_neg (by omega), if_neg ei]; exact hls i (by omega))), in_step hin ht1 ht2 ht3 hoff⟩), (show ∀ k, (k < fr ∨ fr + (n + 1) ≤ k) → ((ud m Q9).2.2.1 129 10).2 k = (U.2.2.1 129 10).2 k from by rw [d9]; exact (fun k hk => (by show (if k = fr + n then nI (w * 64 + t) else (Vb.2.2.1 129 10).2 k) = (U.2.2.1 129 10).2 k; rw [if_neg (by omega)]; exact hKb k (by omega))))⟩ (by show cnz lf2 64 < cnz lf 64; omega))
      · -- 77: not 0 < (nI (cnz lf 64))
        have nh7 : ¬ 0 < (cnz lf 64) := fun z => h7 (show nI 0 < nI (cnz lf 64) from (nI_ltI (by omega) (by omega)).mpr z)
        refine mw_go mu_g285 (k := 1) (f1 := (80, [(6, .inl ((nI w) + 1)), (5, .inl (nI n)), (7, .inr (.inl lf)), (9, .inl (nI (cnz lf 64))), (0, .inr (.inr (some 129))), (1, .inr (.inr (some 146))), (2, .inr (.inr (U.2.2.2.1 129 10))), (3, .inl (nI fr)), (4, .inl (nI wd))], [], Hsb)) (C := []) rfl trivial ?_
        rw [(show ((nI w) + 1) = (nI (w + 1)) from (nI_add w 1))]
        refine mw_go mu_g285 (k := 1) (f1 := (6, [(6, .inl (nI (w + 1))), (5, .inl (nI n)), (7, .inr (.inl lf)), (9, .inl (nI (cnz lf 64))), (0, .inr (.inr (some 129))), (1, .inr (.inr (some 146))), (2, .inr (.inr (U.2.2.2.1 129 10))), (3, .inl (nI fr)), (4, .inl (nI wd))], [], Hsb)) (C := []) rfl trivial ?_
        exact mw_sub (by simp) (iha (w + 1, n, Hsb) ⟨ub, htb, (show uq F285_10a U (ud m Hsb) from by rw [db]; exact (zza.tr zzb rfl)), (show (w + 1) ≤ wd from (by omega)), (show ∃ ls : Nat → Nat, (∀ i, i < n → ((ud m Hsb).2.2.1 129 10).2 (fr + i) = nI (ls i)) ∧ enw ls n (btu U Z) (w + 1) from by rw [db]; exact ⟨ls, hls, in_end hin (cnz_none 64 (by omega))⟩), (show ∀ k, (k < fr ∨ fr + n ≤ k) → ((ud m Hsb).2.2.1 129 10).2 k = (U.2.2.1 129 10).2 k from by rw [db]; exact hKb)⟩ (by show wd - (w + 1) < wd - w; omega))
  · -- 83: not (nI w) < (nI wd)
    have nh1 : ¬ w < wd := fun z => h1 (show nI w < nI wd from (nI_ltI (by omega) (by omega)).mpr z)
    refine mw_go mu_g285 (k := 1) (f1 := (85, [(6, .inl (nI w)), (5, .inl (nI n)), (0, .inr (.inr (some 129))), (1, .inr (.inr (some 146))), (2, .inr (.inr (U.2.2.2.1 129 10))), (3, .inl (nI fr)), (4, .inl (nI wd))], [.inl (nI n)], Hsa)) (C := []) rfl trivial ?_
    have hwE : w = wd := by omega
    exact mw_of (fun _ => mu_ret rfl trivial ⟨_, Hsa, rfl, n, rfl, ua, hta, (by rw [da]; exact qfa), ls0, (by rw [da]; exact hls0), (by rw [hwE] at hen; exact hen), (by rw [da]; exact hKa)⟩)
def F285_12a : Uf := ⟨[], [], [(129, 12)], [], [], false⟩
def F285_12b : Uf := ⟨[], [], [(129, 12)], [], [], false⟩
def F285_12 : Uf := ⟨[], [], [(129, 12)], [], [], false⟩
theorem rl_listb12 (h : um m H) (e : ud m H = U) (hBT : ∀ s, s / 64 < wd → bts (U.2.2.2.2.1 146) s = true → s < Z) (hwd : wd ≤ 256) (hZ : fr + Z ≤ (U.2.2.1 129 12).1) (hZ2 : (U.2.2.1 129 12).1 < 2147483648) : mu_TI (mu_D (d + 3)) 285 [.inr (.inr (some 129)), .inr (.inr (some 146)), .inr (.inr (U.2.2.2.1 129 12)), .inl (nI fr), .inl (nI wd)] H (fun x H1 => ∃ n, x = nI n ∧ um m H1 ∧ ur m C H H1 ∧ uq F285_12 U (ud m H1) ∧ ∃ ls : Nat → Nat, (∀ i, i < n → ((ud m H1).2.2.1 129 12).2 (fr + i) = nI (ls i)) ∧ enw ls n (btu U Z) wd ∧ ∀ k, (k < fr ∨ fr + n ≤ k) → ((ud m H1).2.2.1 129 12).2 k = (U.2.2.1 129 12).2 k) := by
  refine mu_meth (M := mu_m285) rfl rfl ?_
  refine mw_ht (mu_fn_of (show [0, 1, 2, 3, 4].Nodup by decide)) ?_
  refine mw_go mu_g285 (k := 4) (f1 := (6, [(6, .inl (0 : Int32)), (5, .inl (0 : Int32)), (0, .inr (.inr (some 129))), (1, .inr (.inr (some 146))), (2, .inr (.inr (U.2.2.2.1 129 12))), (3, .inl (nI fr)), (4, .inl (nI wd))], [], H)) (C := []) rfl trivial ?_
  show mu_W _ _ (6, [(6, .inl (nI 0)), (5, .inl (nI 0)), (0, .inr (.inr (some 129))), (1, .inr (.inr (some 146))), (2, .inr (.inr (U.2.2.2.1 129 12))), (3, .inl (nI fr)), (4, .inl (nI wd))], [], H) _
  refine mw_sub (L' := [(6, .inl (nI 0)), (5, .inl (nI 0)), (0, .inr (.inr (some 129))), (1, .inr (.inr (some 146))), (2, .inr (.inr (U.2.2.2.1 129 12))), (3, .inl (nI fr)), (4, .inl (nI wd))]) (by simp) ?_
  refine mw_down (α := Nat × Nat × mu_H) (fun zs => (6, [(6, .inl (nI zs.1)), (5, .inl (nI zs.2.1)), (0, .inr (.inr (some 129))), (1, .inr (.inr (some 146))), (2, .inr (.inr (U.2.2.2.1 129 12))), (3, .inl (nI fr)), (4, .inl (nI wd))], [], zs.2.2)) (fun zs => wd - zs.1) (fun zs => um m zs.2.2 ∧ ur m C H zs.2.2 ∧ (uq F285_12a U (ud m zs.2.2)) ∧ (zs.1 ≤ wd) ∧ (∃ ls : Nat → Nat, (∀ i, i < zs.2.1 → ((ud m zs.2.2).2.2.1 129 12).2 (fr + i) = nI (ls i)) ∧ enw ls zs.2.1 (btu U Z) zs.1) ∧ (∀ k, (k < fr ∨ fr + zs.2.1 ≤ k) → ((ud m zs.2.2).2.2.1 129 12).2 k = (U.2.2.1 129 12).2 k)) (fun zs hza iha => ?_) (0, 0, H) ⟨h, (ur.refl m C H), (show uq F285_12a U (ud m H) from by rw [e]; exact uq.refl _ _), (show 0 ≤ wd from (by omega)), (show ∃ ls : Nat → Nat, (∀ i, i < 0 → ((ud m H).2.2.1 129 12).2 (fr + i) = nI (ls i)) ∧ enw ls 0 (btu U Z) 0 from by rw [e]; exact ⟨fun _ => 0, fun i hi => absurd hi (Nat.not_lt_zero _), fun i j _ hj => absurd hj (Nat.not_lt_zero _), fun s => ⟨fun ⟨i, hi, _⟩ => absurd hi (Nat.not_lt_zero _), fun z => by omega⟩⟩), (show ∀ k, (k < fr ∨ fr + 0 ≤ k) → ((ud m H).2.2.1 129 12).2 k = (U.2.2.1 129 12).2 k from by rw [e]; exact (fun k _ => rfl))⟩
  obtain ⟨w, n, Hsa⟩ := zs
  obtain ⟨ua, hta, da, hw, hL, hKa⟩ := hza
  have ua : um m Hsa := ua
  have hta : ur m C H Hsa := hta
  have zza : uq F285_12a U (ud m Hsa) := da
  have hw : w ≤ wd := hw
  have hL : ∃ ls : Nat → Nat, (∀ i, i < n → ((ud m Hsa).2.2.1 129 12).2 (fr + i) = nI (ls i)) ∧ enw ls n (btu U Z) w := hL
  have hKa : ∀ k, (k < fr ∨ fr + n ≤ k) → ((ud m Hsa).2.2.1 129 12).2 k = (U.2.2.1 129 12).2 k := hKa
  obtain ⟨Va, da⟩ : ∃ V, ud m Hsa = V := ⟨_, rfl⟩
  rw [da] at zza hL hKa
  have qfa : uq F285_12 U Va := (uq.refl F285_12 U).tr zza rfl
  show mu_W _ _ (6, [(6, .inl (nI w)), (5, .inl (nI n)), (0, .inr (.inr (some 129))), (1, .inr (.inr (some 146))), (2, .inr (.inr (U.2.2.2.1 129 12))), (3, .inl (nI fr)), (4, .inl (nI wd))], [], Hsa) _
  obtain ⟨ls0, hls0, hen⟩ := hL
  refine mw_go mu_g285 (k := 2) (f1 := (10, [(6, .inl (nI w)), (5, .inl (nI n)), (0, .inr (.inr (some 129))), (1, .inr (.inr (some 146))), (2, .inr (.inr (U.2.2.2.1 129 12))), (3, .inl (nI fr)), (4, .inl (nI wd))], [.inl (nI wd), .inl (nI w)], Hsa)) (C := []) rfl trivial ?_
  refine mw_if (P := (nI w) < (nI wd)) (a := 13) (b := 83) (fun _ => rfl) trivial (fun h1 => ?_) (fun h1 => ?_)
  · -- 13: (nI w) < (nI wd)
    have nh1 : w < wd := (nI_ltI (by omega) (by omega)).mp (show nI w < nI wd from h1)
    refine mw_go mu_g285 (k := 3) (f1 := (17, [(6, .inl (nI w)), (5, .inl (nI n)), (0, .inr (.inr (some 129))), (1, .inr (.inr (some 146))), (2, .inr (.inr (U.2.2.2.1 129 12))), (3, .inl (nI fr)), (4, .inl (nI wd))], [.inr (.inl (mu_l Hsa 146 (nI w).toNatClampNeg))], Hsa)) (C := [mu_isr Hsa (some 146) 102, vp_in (nI w) (mu_n Hsa 146)]) rfl (show (mu_isr Hsa (some 146) 102) ∧ (vp_in (nI w) (mu_n Hsa 146)) from ⟨((ua.1.1.a (p := 146) (x := (102, 256)) rfl).1).r, (by rw [show mu_n Hsa 146 = 256 from (ua.1.1.a (p := 146) (x := (102, 256)) rfl).2]; exact vp_in_nI (n := w) (by omega) (by decide))⟩) ?_
    rw [(show (mu_l Hsa 146 (nI w).toNatClampNeg) = (U.2.2.2.2.1 146) w from (congrArg (mu_l Hsa 146) (show (nI w).toNatClampNeg = w from nI_clamp (by omega))).trans ((ud_l (m := m) (p := 146) (i := w) da rfl).trans (congrFun (show Va.2.2.2.2.1 146 = (U.2.2.2.2.1 146) from (zza.l 146 rfl)) w)))]
    obtain ⟨lf0, hlf0⟩ : ∃ y, y = ((U.2.2.2.2.1 146) w) := ⟨_, rfl⟩
    rw [← hlf0]
    have hlq : ∀ q, q < 64 → btz lf0 q = btu U Z (64 * w + q) := fun q hq => by rw [hlf0]; exact btu_q hBT (by omega) q hq
    refine mw_go mu_g285 (k := 4) (f1 := (23, [(7, .inr (.inl lf0)), (6, .inl (nI w)), (5, .inl (nI n)), (0, .inr (.inr (some 129))), (1, .inr (.inr (some 146))), (2, .inr (.inr (U.2.2.2.1 129 12))), (3, .inl (nI fr)), (4, .inl (nI wd))], [.inl (lg_cmp lf0 (0 : Int64))], Hsa)) (C := []) rfl trivial ?_
    refine mw_if (P := (lg_cmp lf0 (0 : Int64)) = 0) (a := 26) (b := 30) (fun _ => rfl) trivial (fun h2 => ?_) (fun h2 => ?_)
    · -- 26: (lg_cmp lf0 (0 : Int64)) = 0
      refine mw_go mu_g285 (k := 2) (f1 := (35, [(7, .inr (.inl lf0)), (6, .inl (nI w)), (5, .inl (nI n)), (0, .inr (.inr (some 129))), (1, .inr (.inr (some 146))), (2, .inr (.inr (U.2.2.2.1 129 12))), (3, .inl (nI fr)), (4, .inl (nI wd))], [.inl (0 : Int32)], Hsa)) (C := []) rfl trivial ?_
      rw [show (0 : Int32) = nI (cnz lf0 64) from by rw [show lf0 = 0 from lg_ne.mp h2, cnz_0 64 (fun i _ => btz_0)]; rfl]
      refine mw_go mu_g285 (k := 1) (f1 := (37, [(9, .inl (nI (cnz lf0 64))), (7, .inr (.inl lf0)), (6, .inl (nI w)), (5, .inl (nI n)), (0, .inr (.inr (some 129))), (1, .inr (.inr (some 146))), (2, .inr (.inr (U.2.2.2.1 129 12))), (3, .inl (nI fr)), (4, .inl (nI wd))], [], Hsa)) (C := []) rfl trivial ?_
      refine mw_sub (L' := [(5, .inl (nI n)), (7, .inr (.inl lf0)), (9, .inl (nI (cnz lf0 64))), (0, .inr (.inr (some 129))), (1, .inr (.inr (some 146))), (2, .inr (.inr (U.2.2.2.1 129 12))), (3, .inl (nI fr)), (4, .inl (nI wd)), (6, .inl (nI w))]) (by simp) ?_
      refine mw_down (α := Nat × Int64 × mu_H) (fun zs => (37, [(5, .inl (nI zs.1)), (7, .inr (.inl zs.2.1)), (9, .inl (nI (cnz zs.2.1 64))), (0, .inr (.inr (some 129))), (1, .inr (.inr (some 146))), (2, .inr (.inr (U.2.2.2.1 129 12))), (3, .inl (nI fr)), (4, .inl (nI wd)), (6, .inl (nI w))], [], zs.2.2)) (fun zs => cnz zs.2.1 64) (fun zs => um m zs.2.2 ∧ ur m C H zs.2.2 ∧ (uq F285_12b Va (ud m zs.2.2)) ∧ (∃ ls : Nat → Nat, (∀ i, i < zs.1 → ((ud m zs.2.2).2.2.1 129 12).2 (fr + i) = nI (ls i)) ∧ inw ls zs.1 (btu U Z) w zs.2.1) ∧ (∀ k, (k < fr ∨ fr + zs.1 ≤ k) → ((ud m zs.2.2).2.2.1 129 12).2 k = (U.2.2.1 129 12).2 k)) (fun zs hzb ihb => ?_) (n, lf0, Hsa) ⟨ua, hta, (show uq F285_12b Va (ud m Hsa) from by rw [da]; exact uq.refl _ _), (show ∃ ls : Nat → Nat, (∀ i, i < n → ((ud m Hsa).2.2.1 129 12).2 (fr + i) = nI (ls i)) ∧ inw ls n (btu U Z) w lf0 from by rw [da]; exact ⟨ls0, hls0, in_start hen hlq⟩), (show ∀ k, (k < fr ∨ fr + n ≤ k) → ((ud m Hsa).2.2.1 129 12).2 k = (U.2.2.1 129 12).2 k from by rw [da]; exact hKa)⟩
      obtain ⟨n, lf, Hsb⟩ := zs
      obtain ⟨ub, htb, db, hI, hKb⟩ := hzb
      have ub : um m Hsb := ub
      have htb : ur m C H Hsb := htb
      have zzb : uq F285_12b Va (ud m Hsb) := db
      have hI : ∃ ls : Nat → Nat, (∀ i, i < n → ((ud m Hsb).2.2.1 129 12).2 (fr + i) = nI (ls i)) ∧ inw ls n (btu U Z) w lf := hI
      have hKb : ∀ k, (k < fr ∨ fr + n ≤ k) → ((ud m Hsb).2.2.1 129 12).2 k = (U.2.2.1 129 12).2 k := hKb
      obtain ⟨Vb, db⟩ : ∃ V, ud m Hsb = V := ⟨_, rfl⟩
      rw [db] at zzb hI hKb
      have qfb : uq F285_12 U Vb := qfa.tr zzb rfl
      show mu_W _ _ (37, [(5, .inl (nI n)), (7, .inr (.inl lf)), (9, .inl (nI (cnz lf 64))), (0, .inr (.inr (some 129))), (1, .inr (.inr (some 146))), (2, .inr (.inr (U.2.2.2.1 129 12))), (3, .inl (nI fr)), (4, .inl (nI wd)), (6, .inl (nI w))], [], Hsb) _
      obtain ⟨ls, hls, hin⟩ := hI
      have hcb := cnz_b (lf := lf) 64
      refine mw_go mu_g285 (k := 1) (f1 := (39, [(5, .inl (nI n)), (7, .inr (.inl lf)), (9, .inl (nI (cnz lf 64))), (0, .inr (.inr (some 129))), (1, .inr (.inr (some 146))), (2, .inr (.inr (U.2.2.2.1 129 12))), (3, .inl (nI fr)), (4, .inl (nI wd)), (6, .inl (nI w))], [.inl (nI (cnz lf 64))], Hsb)) (C := []) rfl trivial ?_
      refine mw_if (P := 0 < (nI (cnz lf 64))) (a := 42) (b := 77) (fun _ => rfl) trivial (fun h3 => ?_) (fun h3 => ?_)
      · -- 42: 0 < (nI (cnz lf 64))
        have nh3 : 0 < (cnz lf 64) := (nI_ltI (by omega) (by omega)).mp (show nI 0 < nI (cnz lf 64) from h3)
        refine mw_go mu_g285 (k := 4) (f1 := (47, [(5, .inl (nI n)), (7, .inr (.inl lf)), (9, .inl (nI (cnz lf 64))), (0, .inr (.inr (some 129))), (1, .inr (.inr (some 146))), (2, .inr (.inr (U.2.2.2.1 129 12))), (3, .inl (nI fr)), (4, .inl (nI wd)), (6, .inl (nI w))], [.inl ((nI fr) + (nI n)), .inr (.inr (U.2.2.2.1 129 12))], Hsb)) (C := []) rfl trivial ?_
        rw [(show ((nI fr) + (nI n)) = (nI (fr + n)) from (nI_add fr n))]
        refine mw_go mu_g285 (k := 3) (f1 := (52, [(5, .inl (nI n)), (7, .inr (.inl lf)), (9, .inl (nI (cnz lf 64))), (0, .inr (.inr (some 129))), (1, .inr (.inr (some 146))), (2, .inr (.inr (U.2.2.2.1 129 12))), (3, .inl (nI fr)), (4, .inl (nI wd)), (6, .inl (nI w))], [.inl ((nI w) * (64 : Int32)), .inl (nI (fr + n)), .inr (.inr (U.2.2.2.1 129 12))], Hsb)) (C := []) rfl trivial ?_
        rw [(show ((nI w) * (64 : Int32)) = (nI (w * 64)) from (nI_mul (a := w) (b := 64)))]
        refine mw_go mu_g285 (k := 1) (f1 := (54, [(5, .inl (nI n)), (7, .inr (.inl lf)), (9, .inl (nI (cnz lf 64))), (0, .inr (.inr (some 129))), (1, .inr (.inr (some 146))), (2, .inr (.inr (U.2.2.2.1 129 12))), (3, .inl (nI fr)), (4, .inl (nI wd)), (6, .inl (nI w))], [.inr (.inl lf), .inl (nI (w * 64)), .inl (nI (fr + n)), .inr (.inr (U.2.2.2.1 129 12))], Hsb)) (C := []) rfl trivial ?_
        obtain ⟨t, ht1, ht2, ht3⟩ := cnz_low (lf := lf) (by omega)
        obtain ⟨rm1, rm2⟩ := in_room hin ht1 ht2 ht3 (fun s z => btu_T z)
        refine mw_cIe (fun _ => rfl) trivial (jl_tz_ok (d := d) lf) ?_
        rw [show jl_tz lf = nI t from tz64 ht1 ht2 ht3]
        refine mw_go mu_g285 (k := 1) (f1 := (58, [(5, .inl (nI n)), (7, .inr (.inl lf)), (9, .inl (nI (cnz lf 64))), (0, .inr (.inr (some 129))), (1, .inr (.inr (some 146))), (2, .inr (.inr (U.2.2.2.1 129 12))), (3, .inl (nI fr)), (4, .inl (nI wd)), (6, .inl (nI w))], [.inl ((nI (w * 64)) + (nI t)), .inl (nI (fr + n)), .inr (.inr (U.2.2.2.1 129 12))], Hsb)) (C := []) rfl trivial ?_
        rw [(show ((nI (w * 64)) + (nI t)) = (nI ((w * 64) + t)) from (nI_add (w * 64) t))]
        refine mw_go mu_g285 (k := 1) (f1 := (59, [(5, .inl (nI n)), (7, .inr (.inl lf)), (9, .inl (nI (cnz lf 64))), (0, .inr (.inr (some 129))), (1, .inr (.inr (some 146))), (2, .inr (.inr (U.2.2.2.1 129 12))), (3, .inl (nI fr)), (4, .inl (nI wd)), (6, .inl (nI w))], [], (mu_si Hsb (mu_p (U.2.2.2.1 129 12)) (nI (fr + n)).toNatClampNeg (nI ((w * 64) + t))))) (C := [mu_is Hsb (U.2.2.2.1 129 12) 100, vp_in (nI (fr + n)) (mu_n Hsb (mu_p (U.2.2.2.1 129 12)))]) rfl (show (mu_is Hsb (U.2.2.2.1 129 12) 100) ∧ (vp_in (nI (fr + n)) (mu_n Hsb (mu_p (U.2.2.2.1 129 12)))) from ⟨(ub.iA db rfl rfl (show Vb.2.2.2.1 129 12 = (U.2.2.2.1 129 12) from ((zzb.r 129 12 rfl).trans (zza.r 129 12 rfl)))), (ub.vA (i := fr + n) db rfl rfl (show Vb.2.2.2.1 129 12 = (U.2.2.2.1 129 12) from ((zzb.r 129 12 rfl).trans (zza.r 129 12 rfl))) (show (Vb.2.2.1 129 12).1 = (U.2.2.1 129 12).1 from ((zzb.n 129 12 rfl).trans (zza.n 129 12 rfl))) (by omega) (by omega))⟩) ?_
        rw [(show (nI (fr + n)).toNatClampNeg = fr + n from nI_clamp (by omega))]
        obtain ⟨u5, r5, d5⟩ : um m (mu_si Hsb (mu_p (U.2.2.2.1 129 12)) (fr + n) (nI ((w * 64) + t))) ∧ ur m C Hsb (mu_si Hsb (mu_p (U.2.2.2.1 129 12)) (fr + n) (nI ((w * 64) + t))) ∧ ud m (mu_si Hsb (mu_p (U.2.2.2.1 129 12)) (fr + n) (nI ((w * 64) + t))) = (upA Vb 129 12 (fr + n) (nI ((w * 64) + t))) := ub.sA (C := C) db rfl rfl (show Vb.2.2.2.1 129 12 = (U.2.2.2.1 129 12) from ((zzb.r 129 12 rfl).trans (zza.r 129 12 rfl)))
        generalize (mu_si Hsb (mu_p (U.2.2.2.1 129 12)) (fr + n) (nI ((w * 64) + t))) = Q5 at u5 r5 d5 ⊢
        have qf5 : uq F285_12 U (upA Vb 129 12 (fr + n) (nI ((w * 64) + t))) := qfb.A rfl
        have ht5 : ur m C H Q5 := htb.trans r5
        refine mw_go mu_g285 (k := 1) (f1 := (62, [(5, .inl ((nI n) + 1)), (7, .inr (.inl lf)), (9, .inl (nI (cnz lf 64))), (0, .inr (.inr (some 129))), (1, .inr (.inr (some 146))), (2, .inr (.inr (U.2.2.2.1 129 12))), (3, .inl (nI fr)), (4, .inl (nI wd)), (6, .inl (nI w))], [], Q5)) (C := []) rfl trivial ?_
        rw [(show ((nI n) + 1) = (nI (n + 1)) from (nI_add n 1))]
        refine mw_go mu_g285 (k := 6) (f1 := (71, [(7, .inr (.inl (lf &&& (lf - (1 : Int64))))), (5, .inl (nI (n + 1))), (9, .inl (nI (cnz lf 64))), (0, .inr (.inr (some 129))), (1, .inr (.inr (some 146))), (2, .inr (.inr (U.2.2.2.1 129 12))), (3, .inl (nI fr)), (4, .inl (nI wd)), (6, .inl (nI w))], [], Q5)) (C := []) rfl trivial ?_
        obtain ⟨lf2, hlf2⟩ : ∃ y, y = (lf &&& (lf - (1 : Int64))) := ⟨_, rfl⟩
        rw [← hlf2]
        have hoff : ∀ i, btz lf2 i = (btz lf i && decide (i ≠ t)) := fun i => by rw [hlf2]; exact low_off ht2 ht3 i
        have hcl : cnz lf2 64 + 1 = cnz lf 64 := (cnz_less ht2 (by rw [hoff]; simp) (fun i hi => by rw [hoff]; simp [hi]) 64).2 ht1
        refine mw_go mu_g285 (k := 1) (f1 := (74, [(9, .inl ((nI (cnz lf 64)) + (-1))), (7, .inr (.inl lf2)), (5, .inl (nI (n + 1))), (0, .inr (.inr (some 129))), (1, .inr (.inr (some 146))), (2, .inr (.inr (U.2.2.2.1 129 12))), (3, .inl (nI fr)), (4, .inl (nI wd)), (6, .inl (nI w))], [], Q5)) (C := []) rfl trivial ?_
        rw [(show ((nI (cnz lf 64)) + (-1)) = (nI ((cnz lf 64) - 1)) from ((Int32.sub_eq_add_neg _ _).symm.trans (nI_sub (a := cnz lf 64) (b := 1) (by omega))))]
        rw [show (nI ((cnz lf 64) - 1)) = nI (cnz lf2 64) from congrArg nI (by omega)]
        refine mw_go mu_g285 (k := 1) (f1 := (37, [(9, .inl (nI (cnz lf2 64))), (7, .inr (.inl lf2)), (5, .inl (nI (n + 1))), (0, .inr (.inr (some 129))), (1, .inr (.inr (some 146))), (2, .inr (.inr (U.2.2.2.1 129 12))), (3, .inl (nI fr)), (4, .inl (nI wd)), (6, .inl (nI w))], [], Q5)) (C := []) rfl trivial ?_
        exact mw_sub (by simp) (ihb (n + 1, lf2, Q5) ⟨u5, ht5, (show uq F285_12b Va (ud m Q5) from by rw [d5]; exact (zzb.A rfl)), (show ∃ ls : Nat → Nat, (∀ i, i < (n + 1) → ((ud m Q5).2.2.1 129 12).2 (fr + i) = nI (ls i)) ∧ inw ls (n + 1) (btu U Z) w lf2 from by rw [d5]; exact ⟨fun i => if i = n then 64 * w + t else ls i, fun i hi => (by show (if fr + i = fr + n then nI (w * 64 + t) else (Vb.2.2.1 129 12).2 (fr + i)) = nI (if i = n then 64 * w + t else ls i); rw [show w * 64 + t = 64 * w + t by omega]; by_cases ei : i = n; (rw [if_pos (by omega), if_pos ei]); (rw [if_neg (by omega), if_neg ei]; exact hls i (by omega))), in_step hin ht1 ht2 ht3 hoff⟩), (show ∀ k, (k < fr ∨ fr + (n + 1) ≤ k) → ((ud m Q5).2.2.1 129 12).2 k = (U.2.2.1 129 12).2 k from by rw [d5]; exact (fun k hk => (by show (if k = fr + n then nI (w * 64 + t) else (Vb.2.2.1 129 12).2 k) = (U.2.2.1 129 12).2 k; rw [if_neg (by omega)]; exact hKb k (by omega))))⟩ (by show cnz lf2 64 < cnz lf 64; omega))
      · -- 77: not 0 < (nI (cnz lf 64))
        have nh3 : ¬ 0 < (cnz lf 64) := fun z => h3 (show nI 0 < nI (cnz lf 64) from (nI_ltI (by omega) (by omega)).mpr z)
        refine mw_go mu_g285 (k := 1) (f1 := (80, [(6, .inl ((nI w) + 1)), (5, .inl (nI n)), (7, .inr (.inl lf)), (9, .inl (nI (cnz lf 64))), (0, .inr (.inr (some 129))), (1, .inr (.inr (some 146))), (2, .inr (.inr (U.2.2.2.1 129 12))), (3, .inl (nI fr)), (4, .inl (nI wd))], [], Hsb)) (C := []) rfl trivial ?_
        rw [(show ((nI w) + 1) = (nI (w + 1)) from (nI_add w 1))]
        refine mw_go mu_g285 (k := 1) (f1 := (6, [(6, .inl (nI (w + 1))), (5, .inl (nI n)), (7, .inr (.inl lf)), (9, .inl (nI (cnz lf 64))), (0, .inr (.inr (some 129))), (1, .inr (.inr (some 146))), (2, .inr (.inr (U.2.2.2.1 129 12))), (3, .inl (nI fr)), (4, .inl (nI wd))], [], Hsb)) (C := []) rfl trivial ?_
        exact mw_sub (by simp) (iha (w + 1, n, Hsb) ⟨ub, htb, (show uq F285_12a U (ud m Hsb) from by rw [db]; exact (zza.tr zzb rfl)), (show (w + 1) ≤ wd from (by omega)), (show ∃ ls : Nat → Nat, (∀ i, i < n → ((ud m Hsb).2.2.1 129 12).2 (fr + i) = nI (ls i)) ∧ enw ls n (btu U Z) (w + 1) from by rw [db]; exact ⟨ls, hls, in_end hin (cnz_none 64 (by omega))⟩), (show ∀ k, (k < fr ∨ fr + n ≤ k) → ((ud m Hsb).2.2.1 129 12).2 k = (U.2.2.1 129 12).2 k from by rw [db]; exact hKb)⟩ (by show wd - (w + 1) < wd - w; omega))
    · -- 30: not (lg_cmp lf0 (0 : Int64)) = 0
      refine mw_go mu_g285 (k := 1) (f1 := (32, [(7, .inr (.inl lf0)), (6, .inl (nI w)), (5, .inl (nI n)), (0, .inr (.inr (some 129))), (1, .inr (.inr (some 146))), (2, .inr (.inr (U.2.2.2.1 129 12))), (3, .inl (nI fr)), (4, .inl (nI wd))], [.inr (.inl lf0)], Hsa)) (C := []) rfl trivial ?_
      refine mw_cIe (fun _ => rfl) trivial (jl_bits_ok (d := (d + 1)) lf0) ?_
      rw [show jl_bits lf0 = nI (cnz lf0 64) from jl_bits_c]
      refine mw_go mu_g285 (k := 1) (f1 := (37, [(9, .inl (nI (cnz lf0 64))), (7, .inr (.inl lf0)), (6, .inl (nI w)), (5, .inl (nI n)), (0, .inr (.inr (some 129))), (1, .inr (.inr (some 146))), (2, .inr (.inr (U.2.2.2.1 129 12))), (3, .inl (nI fr)), (4, .inl (nI wd))], [], Hsa)) (C := []) rfl trivial ?_
      refine mw_sub (L' := [(5, .inl (nI n)), (7, .inr (.inl lf0)), (9, .inl (nI (cnz lf0 64))), (0, .inr (.inr (some 129))), (1, .inr (.inr (some 146))), (2, .inr (.inr (U.2.2.2.1 129 12))), (3, .inl (nI fr)), (4, .inl (nI wd)), (6, .inl (nI w))]) (by simp) ?_
      refine mw_down (α := Nat × Int64 × mu_H) (fun zs => (37, [(5, .inl (nI zs.1)), (7, .inr (.inl zs.2.1)), (9, .inl (nI (cnz zs.2.1 64))), (0, .inr (.inr (some 129))), (1, .inr (.inr (some 146))), (2, .inr (.inr (U.2.2.2.1 129 12))), (3, .inl (nI fr)), (4, .inl (nI wd)), (6, .inl (nI w))], [], zs.2.2)) (fun zs => cnz zs.2.1 64) (fun zs => um m zs.2.2 ∧ ur m C H zs.2.2 ∧ (uq F285_12b Va (ud m zs.2.2)) ∧ (∃ ls : Nat → Nat, (∀ i, i < zs.1 → ((ud m zs.2.2).2.2.1 129 12).2 (fr + i) = nI (ls i)) ∧ inw ls zs.1 (btu U Z) w zs.2.1) ∧ (∀ k, (k < fr ∨ fr + zs.1 ≤ k) → ((ud m zs.2.2).2.2.1 129 12).2 k = (U.2.2.1 129 12).2 k)) (fun zs hzb ihb => ?_) (n, lf0, Hsa) ⟨ua, hta, (show uq F285_12b Va (ud m Hsa) from by rw [da]; exact uq.refl _ _), (show ∃ ls : Nat → Nat, (∀ i, i < n → ((ud m Hsa).2.2.1 129 12).2 (fr + i) = nI (ls i)) ∧ inw ls n (btu U Z) w lf0 from by rw [da]; exact ⟨ls0, hls0, in_start hen hlq⟩), (show ∀ k, (k < fr ∨ fr + n ≤ k) → ((ud m Hsa).2.2.1 129 12).2 k = (U.2.2.1 129 12).2 k from by rw [da]; exact hKa)⟩
      obtain ⟨n, lf, Hsb⟩ := zs
      obtain ⟨ub, htb, db, hI, hKb⟩ := hzb
      have ub : um m Hsb := ub
      have htb : ur m C H Hsb := htb
      have zzb : uq F285_12b Va (ud m Hsb) := db
      have hI : ∃ ls : Nat → Nat, (∀ i, i < n → ((ud m Hsb).2.2.1 129 12).2 (fr + i) = nI (ls i)) ∧ inw ls n (btu U Z) w lf := hI
      have hKb : ∀ k, (k < fr ∨ fr + n ≤ k) → ((ud m Hsb).2.2.1 129 12).2 k = (U.2.2.1 129 12).2 k := hKb
      obtain ⟨Vb, db⟩ : ∃ V, ud m Hsb = V := ⟨_, rfl⟩
      rw [db] at zzb hI hKb
      have qfb : uq F285_12 U Vb := qfa.tr zzb rfl
      show mu_W _ _ (37, [(5, .inl (nI n)), (7, .inr (.inl lf)), (9, .inl (nI (cnz lf 64))), (0, .inr (.inr (some 129))), (1, .inr (.inr (some 146))), (2, .inr (.inr (U.2.2.2.1 129 12))), (3, .inl (nI fr)), (4, .inl (nI wd)), (6, .inl (nI w))], [], Hsb) _
      obtain ⟨ls, hls, hin⟩ := hI
      have hcb := cnz_b (lf := lf) 64
      refine mw_go mu_g285 (k := 1) (f1 := (39, [(5, .inl (nI n)), (7, .inr (.inl lf)), (9, .inl (nI (cnz lf 64))), (0, .inr (.inr (some 129))), (1, .inr (.inr (some 146))), (2, .inr (.inr (U.2.2.2.1 129 12))), (3, .inl (nI fr)), (4, .inl (nI wd)), (6, .inl (nI w))], [.inl (nI (cnz lf 64))], Hsb)) (C := []) rfl trivial ?_
      refine mw_if (P := 0 < (nI (cnz lf 64))) (a := 42) (b := 77) (fun _ => rfl) trivial (fun h7 => ?_) (fun h7 => ?_)
      · -- 42: 0 < (nI (cnz lf 64))
        have nh7 : 0 < (cnz lf 64) := (nI_ltI (by omega) (by omega)).mp (show nI 0 < nI (cnz lf 64) from h7)
        refine mw_go mu_g285 (k := 4) (f1 := (47, [(5, .inl (nI n)), (7, .inr (.inl lf)), (9, .inl (nI (cnz lf 64))), (0, .inr (.inr (some 129))), (1, .inr (.inr (some 146))), (2, .inr (.inr (U.2.2.2.1 129 12))), (3, .inl (nI fr)), (4, .inl (nI wd)), (6, .inl (nI w))], [.inl ((nI fr) + (nI n)), .inr (.inr (U.2.2.2.1 129 12))], Hsb)) (C := []) rfl trivial ?_
        rw [(show ((nI fr) + (nI n)) = (nI (fr + n)) from (nI_add fr n))]
        refine mw_go mu_g285 (k := 3) (f1 := (52, [(5, .inl (nI n)), (7, .inr (.inl lf)), (9, .inl (nI (cnz lf 64))), (0, .inr (.inr (some 129))), (1, .inr (.inr (some 146))), (2, .inr (.inr (U.2.2.2.1 129 12))), (3, .inl (nI fr)), (4, .inl (nI wd)), (6, .inl (nI w))], [.inl ((nI w) * (64 : Int32)), .inl (nI (fr + n)), .inr (.inr (U.2.2.2.1 129 12))], Hsb)) (C := []) rfl trivial ?_
        rw [(show ((nI w) * (64 : Int32)) = (nI (w * 64)) from (nI_mul (a := w) (b := 64)))]
        refine mw_go mu_g285 (k := 1) (f1 := (54, [(5, .inl (nI n)), (7, .inr (.inl lf)), (9, .inl (nI (cnz lf 64))), (0, .inr (.inr (some 129))), (1, .inr (.inr (some 146))), (2, .inr (.inr (U.2.2.2.1 129 12))), (3, .inl (nI fr)), (4, .inl (nI wd)), (6, .inl (nI w))], [.inr (.inl lf), .inl (nI (w * 64)), .inl (nI (fr + n)), .inr (.inr (U.2.2.2.1 129 12))], Hsb)) (C := []) rfl trivial ?_
        obtain ⟨t, ht1, ht2, ht3⟩ := cnz_low (lf := lf) (by omega)
        obtain ⟨rm1, rm2⟩ := in_room hin ht1 ht2 ht3 (fun s z => btu_T z)
        refine mw_cIe (fun _ => rfl) trivial (jl_tz_ok (d := d) lf) ?_
        rw [show jl_tz lf = nI t from tz64 ht1 ht2 ht3]
        refine mw_go mu_g285 (k := 1) (f1 := (58, [(5, .inl (nI n)), (7, .inr (.inl lf)), (9, .inl (nI (cnz lf 64))), (0, .inr (.inr (some 129))), (1, .inr (.inr (some 146))), (2, .inr (.inr (U.2.2.2.1 129 12))), (3, .inl (nI fr)), (4, .inl (nI wd)), (6, .inl (nI w))], [.inl ((nI (w * 64)) + (nI t)), .inl (nI (fr + n)), .inr (.inr (U.2.2.2.1 129 12))], Hsb)) (C := []) rfl trivial ?_
        rw [(show ((nI (w * 64)) + (nI t)) = (nI ((w * 64) + t)) from (nI_add (w * 64) t))]
        refine mw_go mu_g285 (k := 1) (f1 := (59, [(5, .inl (nI n)), (7, .inr (.inl lf)), (9, .inl (nI (cnz lf 64))), (0, .inr (.inr (some 129))), (1, .inr (.inr (some 146))), (2, .inr (.inr (U.2.2.2.1 129 12))), (3, .inl (nI fr)), (4, .inl (nI wd)), (6, .inl (nI w))], [], (mu_si Hsb (mu_p (U.2.2.2.1 129 12)) (nI (fr + n)).toNatClampNeg (nI ((w * 64) + t))))) (C := [mu_is Hsb (U.2.2.2.1 129 12) 100, vp_in (nI (fr + n)) (mu_n Hsb (mu_p (U.2.2.2.1 129 12)))]) rfl (show (mu_is Hsb (U.2.2.2.1 129 12) 100) ∧ (vp_in (nI (fr + n)) (mu_n Hsb (mu_p (U.2.2.2.1 129 12)))) from ⟨(ub.iA db rfl rfl (show Vb.2.2.2.1 129 12 = (U.2.2.2.1 129 12) from ((zzb.r 129 12 rfl).trans (zza.r 129 12 rfl)))), (ub.vA (i := fr + n) db rfl rfl (show Vb.2.2.2.1 129 12 = (U.2.2.2.1 129 12) from ((zzb.r 129 12 rfl).trans (zza.r 129 12 rfl))) (show (Vb.2.2.1 129 12).1 = (U.2.2.1 129 12).1 from ((zzb.n 129 12 rfl).trans (zza.n 129 12 rfl))) (by omega) (by omega))⟩) ?_
        rw [(show (nI (fr + n)).toNatClampNeg = fr + n from nI_clamp (by omega))]
        obtain ⟨u9, r9, d9⟩ : um m (mu_si Hsb (mu_p (U.2.2.2.1 129 12)) (fr + n) (nI ((w * 64) + t))) ∧ ur m C Hsb (mu_si Hsb (mu_p (U.2.2.2.1 129 12)) (fr + n) (nI ((w * 64) + t))) ∧ ud m (mu_si Hsb (mu_p (U.2.2.2.1 129 12)) (fr + n) (nI ((w * 64) + t))) = (upA Vb 129 12 (fr + n) (nI ((w * 64) + t))) := ub.sA (C := C) db rfl rfl (show Vb.2.2.2.1 129 12 = (U.2.2.2.1 129 12) from ((zzb.r 129 12 rfl).trans (zza.r 129 12 rfl)))
        generalize (mu_si Hsb (mu_p (U.2.2.2.1 129 12)) (fr + n) (nI ((w * 64) + t))) = Q9 at u9 r9 d9 ⊢
        have qf9 : uq F285_12 U (upA Vb 129 12 (fr + n) (nI ((w * 64) + t))) := qfb.A rfl
        have ht9 : ur m C H Q9 := htb.trans r9
        refine mw_go mu_g285 (k := 1) (f1 := (62, [(5, .inl ((nI n) + 1)), (7, .inr (.inl lf)), (9, .inl (nI (cnz lf 64))), (0, .inr (.inr (some 129))), (1, .inr (.inr (some 146))), (2, .inr (.inr (U.2.2.2.1 129 12))), (3, .inl (nI fr)), (4, .inl (nI wd)), (6, .inl (nI w))], [], Q9)) (C := []) rfl trivial ?_
        rw [(show ((nI n) + 1) = (nI (n + 1)) from (nI_add n 1))]
        refine mw_go mu_g285 (k := 6) (f1 := (71, [(7, .inr (.inl (lf &&& (lf - (1 : Int64))))), (5, .inl (nI (n + 1))), (9, .inl (nI (cnz lf 64))), (0, .inr (.inr (some 129))), (1, .inr (.inr (some 146))), (2, .inr (.inr (U.2.2.2.1 129 12))), (3, .inl (nI fr)), (4, .inl (nI wd)), (6, .inl (nI w))], [], Q9)) (C := []) rfl trivial ?_
        obtain ⟨lf2, hlf2⟩ : ∃ y, y = (lf &&& (lf - (1 : Int64))) := ⟨_, rfl⟩
        rw [← hlf2]
        have hoff : ∀ i, btz lf2 i = (btz lf i && decide (i ≠ t)) := fun i => by rw [hlf2]; exact low_off ht2 ht3 i
        have hcl : cnz lf2 64 + 1 = cnz lf 64 := (cnz_less ht2 (by rw [hoff]; simp) (fun i hi => by rw [hoff]; simp [hi]) 64).2 ht1
        refine mw_go mu_g285 (k := 1) (f1 := (74, [(9, .inl ((nI (cnz lf 64)) + (-1))), (7, .inr (.inl lf2)), (5, .inl (nI (n + 1))), (0, .inr (.inr (some 129))), (1, .inr (.inr (some 146))), (2, .inr (.inr (U.2.2.2.1 129 12))), (3, .inl (nI fr)), (4, .inl (nI wd)), (6, .inl (nI w))], [], Q9)) (C := []) rfl trivial ?_
        rw [(show ((nI (cnz lf 64)) + (-1)) = (nI ((cnz lf 64) - 1)) from ((Int32.sub_eq_add_neg _ _).symm.trans (nI_sub (a := cnz lf 64) (b := 1) (by omega))))]
        rw [show (nI ((cnz lf 64) - 1)) = nI (cnz lf2 64) from congrArg nI (by omega)]
        refine mw_go mu_g285 (k := 1) (f1 := (37, [(9, .inl (nI (cnz lf2 64))), (7, .inr (.inl lf2)), (5, .inl (nI (n + 1))), (0, .inr (.inr (some 129))), (1, .inr (.inr (some 146))), (2, .inr (.inr (U.2.2.2.1 129 12))), (3, .inl (nI fr)), (4, .inl (nI wd)), (6, .inl (nI w))], [], Q9)) (C := []) rfl trivial ?_
        exact mw_sub (by simp) (ihb (n + 1, lf2, Q9) ⟨u9, ht9, (show uq F285_12b Va (ud m Q9) from by rw [d9]; exact (zzb.A rfl)), (show ∃ ls : Nat → Nat, (∀ i, i < (n + 1) → ((ud m Q9).2.2.1 129 12).2 (fr + i) = nI (ls i)) ∧ inw ls (n + 1) (btu U Z) w lf2 from by rw [d9]; exact ⟨fun i => if i = n then 64 * w + t else ls i, fun i hi => (by show (if fr + i = fr + n then nI (w * 64 + t) else (Vb.2.2.1 129 12).2 (fr + i)) = nI (if i = n then 64 * w + t else ls i); rw [show w * 64 + t = 64 * w + t by omega]; by_cases ei : i = n; (rw [if_pos (by omega), if_pos ei]); (rw [if_neg (by omega), if_neg ei]; exact hls i (by omega))), in_step hin ht1 ht2 ht3 hoff⟩), (show ∀ k, (k < fr ∨ fr + (n + 1) ≤ k) → ((ud m Q9).2.2.1 129 12).2 k = (U.2.2.1 129 12).2 k from by rw [d9]; exact (fun k hk => (by show (if k = fr + n then nI (w * 64 + t) else (Vb.2.2.1 129 12).2 k) = (U.2.2.1 129 12).2 k; rw [if_neg (by omega)]; exact hKb k (by omega))))⟩ (by show cnz lf2 64 < cnz lf 64; omega))
      · -- 77: not 0 < (nI (cnz lf 64))
        have nh7 : ¬ 0 < (cnz lf 64) := fun z => h7 (show nI 0 < nI (cnz lf 64) from (nI_ltI (by omega) (by omega)).mpr z)
        refine mw_go mu_g285 (k := 1) (f1 := (80, [(6, .inl ((nI w) + 1)), (5, .inl (nI n)), (7, .inr (.inl lf)), (9, .inl (nI (cnz lf 64))), (0, .inr (.inr (some 129))), (1, .inr (.inr (some 146))), (2, .inr (.inr (U.2.2.2.1 129 12))), (3, .inl (nI fr)), (4, .inl (nI wd))], [], Hsb)) (C := []) rfl trivial ?_
        rw [(show ((nI w) + 1) = (nI (w + 1)) from (nI_add w 1))]
        refine mw_go mu_g285 (k := 1) (f1 := (6, [(6, .inl (nI (w + 1))), (5, .inl (nI n)), (7, .inr (.inl lf)), (9, .inl (nI (cnz lf 64))), (0, .inr (.inr (some 129))), (1, .inr (.inr (some 146))), (2, .inr (.inr (U.2.2.2.1 129 12))), (3, .inl (nI fr)), (4, .inl (nI wd))], [], Hsb)) (C := []) rfl trivial ?_
        exact mw_sub (by simp) (iha (w + 1, n, Hsb) ⟨ub, htb, (show uq F285_12a U (ud m Hsb) from by rw [db]; exact (zza.tr zzb rfl)), (show (w + 1) ≤ wd from (by omega)), (show ∃ ls : Nat → Nat, (∀ i, i < n → ((ud m Hsb).2.2.1 129 12).2 (fr + i) = nI (ls i)) ∧ enw ls n (btu U Z) (w + 1) from by rw [db]; exact ⟨ls, hls, in_end hin (cnz_none 64 (by omega))⟩), (show ∀ k, (k < fr ∨ fr + n ≤ k) → ((ud m Hsb).2.2.1 129 12).2 k = (U.2.2.1 129 12).2 k from by rw [db]; exact hKb)⟩ (by show wd - (w + 1) < wd - w; omega))
  · -- 83: not (nI w) < (nI wd)
    have nh1 : ¬ w < wd := fun z => h1 (show nI w < nI wd from (nI_ltI (by omega) (by omega)).mpr z)
    refine mw_go mu_g285 (k := 1) (f1 := (85, [(6, .inl (nI w)), (5, .inl (nI n)), (0, .inr (.inr (some 129))), (1, .inr (.inr (some 146))), (2, .inr (.inr (U.2.2.2.1 129 12))), (3, .inl (nI fr)), (4, .inl (nI wd))], [.inl (nI n)], Hsa)) (C := []) rfl trivial ?_
    have hwE : w = wd := by omega
    exact mw_of (fun _ => mu_ret rfl trivial ⟨_, Hsa, rfl, n, rfl, ua, hta, (by rw [da]; exact qfa), ls0, (by rw [da]; exact hls0), (by rw [hwE] at hen; exact hen), (by rw [da]; exact hKa)⟩)
def F285c10a : Uf := ⟨[], [], [(129, 10)], [], [], false⟩
def F285c10b : Uf := ⟨[], [], [(129, 10)], [], [], false⟩
def F285c10 : Uf := ⟨[], [], [(129, 10)], [], [], false⟩
theorem rl_listc10 (h : um m H) (e : ud m H = U) (hBT : ∀ s, s / 64 < wd → bts (U.2.2.2.2.1 126) s = true → s < Z) (hwd : wd ≤ 256) (hZ : fr + Z ≤ (U.2.2.1 129 10).1) (hZ2 : (U.2.2.1 129 10).1 < 2147483648) : mu_TI (mu_D (d + 3)) 285 [.inr (.inr (some 129)), .inr (.inr (some 126)), .inr (.inr (U.2.2.2.1 129 10)), .inl (nI fr), .inl (nI wd)] H (fun x H1 => ∃ n, x = nI n ∧ um m H1 ∧ ur m C H H1 ∧ uq F285c10 U (ud m H1) ∧ ∃ ls : Nat → Nat, (∀ i, i < n → ((ud m H1).2.2.1 129 10).2 (fr + i) = nI (ls i)) ∧ enw ls n (btc U Z) wd ∧ ∀ k, (k < fr ∨ fr + n ≤ k) → ((ud m H1).2.2.1 129 10).2 k = (U.2.2.1 129 10).2 k) := by
  refine mu_meth (M := mu_m285) rfl rfl ?_
  refine mw_ht (mu_fn_of (show [0, 1, 2, 3, 4].Nodup by decide)) ?_
  refine mw_go mu_g285 (k := 4) (f1 := (6, [(6, .inl (0 : Int32)), (5, .inl (0 : Int32)), (0, .inr (.inr (some 129))), (1, .inr (.inr (some 126))), (2, .inr (.inr (U.2.2.2.1 129 10))), (3, .inl (nI fr)), (4, .inl (nI wd))], [], H)) (C := []) rfl trivial ?_
  show mu_W _ _ (6, [(6, .inl (nI 0)), (5, .inl (nI 0)), (0, .inr (.inr (some 129))), (1, .inr (.inr (some 126))), (2, .inr (.inr (U.2.2.2.1 129 10))), (3, .inl (nI fr)), (4, .inl (nI wd))], [], H) _
  refine mw_sub (L' := [(6, .inl (nI 0)), (5, .inl (nI 0)), (0, .inr (.inr (some 129))), (1, .inr (.inr (some 126))), (2, .inr (.inr (U.2.2.2.1 129 10))), (3, .inl (nI fr)), (4, .inl (nI wd))]) (by simp) ?_
  refine mw_down (α := Nat × Nat × mu_H) (fun zs => (6, [(6, .inl (nI zs.1)), (5, .inl (nI zs.2.1)), (0, .inr (.inr (some 129))), (1, .inr (.inr (some 126))), (2, .inr (.inr (U.2.2.2.1 129 10))), (3, .inl (nI fr)), (4, .inl (nI wd))], [], zs.2.2)) (fun zs => wd - zs.1) (fun zs => um m zs.2.2 ∧ ur m C H zs.2.2 ∧ (uq F285c10a U (ud m zs.2.2)) ∧ (zs.1 ≤ wd) ∧ (∃ ls : Nat → Nat, (∀ i, i < zs.2.1 → ((ud m zs.2.2).2.2.1 129 10).2 (fr + i) = nI (ls i)) ∧ enw ls zs.2.1 (btc U Z) zs.1) ∧ (∀ k, (k < fr ∨ fr + zs.2.1 ≤ k) → ((ud m zs.2.2).2.2.1 129 10).2 k = (U.2.2.1 129 10).2 k)) (fun zs hza iha => ?_) (0, 0, H) ⟨h, (ur.refl m C H), (show uq F285c10a U (ud m H) from by rw [e]; exact uq.refl _ _), (show 0 ≤ wd from (by omega)), (show ∃ ls : Nat → Nat, (∀ i, i < 0 → ((ud m H).2.2.1 129 10).2 (fr + i) = nI (ls i)) ∧ enw ls 0 (btc U Z) 0 from by rw [e]; exact ⟨fun _ => 0, fun i hi => absurd hi (Nat.not_lt_zero _), fun i j _ hj => absurd hj (Nat.not_lt_zero _), fun s => ⟨fun ⟨i, hi, _⟩ => absurd hi (Nat.not_lt_zero _), fun z => by omega⟩⟩), (show ∀ k, (k < fr ∨ fr + 0 ≤ k) → ((ud m H).2.2.1 129 10).2 k = (U.2.2.1 129 10).2 k from by rw [e]; exact (fun k _ => rfl))⟩
  obtain ⟨w, n, Hsa⟩ := zs
  obtain ⟨ua, hta, da, hw, hL, hKa⟩ := hza
  have ua : um m Hsa := ua
  have hta : ur m C H Hsa := hta
  have zza : uq F285c10a U (ud m Hsa) := da
  have hw : w ≤ wd := hw
  have hL : ∃ ls : Nat → Nat, (∀ i, i < n → ((ud m Hsa).2.2.1 129 10).2 (fr + i) = nI (ls i)) ∧ enw ls n (btc U Z) w := hL
  have hKa : ∀ k, (k < fr ∨ fr + n ≤ k) → ((ud m Hsa).2.2.1 129 10).2 k = (U.2.2.1 129 10).2 k := hKa
  obtain ⟨Va, da⟩ : ∃ V, ud m Hsa = V := ⟨_, rfl⟩
  rw [da] at zza hL hKa
  have qfa : uq F285c10 U Va := (uq.refl F285c10 U).tr zza rfl
  show mu_W _ _ (6, [(6, .inl (nI w)), (5, .inl (nI n)), (0, .inr (.inr (some 129))), (1, .inr (.inr (some 126))), (2, .inr (.inr (U.2.2.2.1 129 10))), (3, .inl (nI fr)), (4, .inl (nI wd))], [], Hsa) _
  obtain ⟨ls0, hls0, hen⟩ := hL
  refine mw_go mu_g285 (k := 2) (f1 := (10, [(6, .inl (nI w)), (5, .inl (nI n)), (0, .inr (.inr (some 129))), (1, .inr (.inr (some 126))), (2, .inr (.inr (U.2.2.2.1 129 10))), (3, .inl (nI fr)), (4, .inl (nI wd))], [.inl (nI wd), .inl (nI w)], Hsa)) (C := []) rfl trivial ?_
  refine mw_if (P := (nI w) < (nI wd)) (a := 13) (b := 83) (fun _ => rfl) trivial (fun h1 => ?_) (fun h1 => ?_)
  · -- 13: (nI w) < (nI wd)
    have nh1 : w < wd := (nI_ltI (by omega) (by omega)).mp (show nI w < nI wd from h1)
    refine mw_go mu_g285 (k := 3) (f1 := (17, [(6, .inl (nI w)), (5, .inl (nI n)), (0, .inr (.inr (some 129))), (1, .inr (.inr (some 126))), (2, .inr (.inr (U.2.2.2.1 129 10))), (3, .inl (nI fr)), (4, .inl (nI wd))], [.inr (.inl (mu_l Hsa 126 (nI w).toNatClampNeg))], Hsa)) (C := [mu_isr Hsa (some 126) 102, vp_in (nI w) (mu_n Hsa 126)]) rfl (show (mu_isr Hsa (some 126) 102) ∧ (vp_in (nI w) (mu_n Hsa 126)) from ⟨((ua.1.1.a (p := 126) (x := (102, 256)) rfl).1).r, (by rw [show mu_n Hsa 126 = 256 from (ua.1.1.a (p := 126) (x := (102, 256)) rfl).2]; exact vp_in_nI (n := w) (by omega) (by decide))⟩) ?_
    rw [(show (mu_l Hsa 126 (nI w).toNatClampNeg) = (U.2.2.2.2.1 126) w from (congrArg (mu_l Hsa 126) (show (nI w).toNatClampNeg = w from nI_clamp (by omega))).trans ((ud_l (m := m) (p := 126) (i := w) da rfl).trans (congrFun (show Va.2.2.2.2.1 126 = (U.2.2.2.2.1 126) from (zza.l 126 rfl)) w)))]
    obtain ⟨lf0, hlf0⟩ : ∃ y, y = ((U.2.2.2.2.1 126) w) := ⟨_, rfl⟩
    rw [← hlf0]
    have hlq : ∀ q, q < 64 → btz lf0 q = btc U Z (64 * w + q) := fun q hq => by rw [hlf0]; exact btc_q hBT (by omega) q hq
    refine mw_go mu_g285 (k := 4) (f1 := (23, [(7, .inr (.inl lf0)), (6, .inl (nI w)), (5, .inl (nI n)), (0, .inr (.inr (some 129))), (1, .inr (.inr (some 126))), (2, .inr (.inr (U.2.2.2.1 129 10))), (3, .inl (nI fr)), (4, .inl (nI wd))], [.inl (lg_cmp lf0 (0 : Int64))], Hsa)) (C := []) rfl trivial ?_
    refine mw_if (P := (lg_cmp lf0 (0 : Int64)) = 0) (a := 26) (b := 30) (fun _ => rfl) trivial (fun h2 => ?_) (fun h2 => ?_)
    · -- 26: (lg_cmp lf0 (0 : Int64)) = 0
      refine mw_go mu_g285 (k := 2) (f1 := (35, [(7, .inr (.inl lf0)), (6, .inl (nI w)), (5, .inl (nI n)), (0, .inr (.inr (some 129))), (1, .inr (.inr (some 126))), (2, .inr (.inr (U.2.2.2.1 129 10))), (3, .inl (nI fr)), (4, .inl (nI wd))], [.inl (0 : Int32)], Hsa)) (C := []) rfl trivial ?_
      rw [show (0 : Int32) = nI (cnz lf0 64) from by rw [show lf0 = 0 from lg_ne.mp h2, cnz_0 64 (fun i _ => btz_0)]; rfl]
      refine mw_go mu_g285 (k := 1) (f1 := (37, [(9, .inl (nI (cnz lf0 64))), (7, .inr (.inl lf0)), (6, .inl (nI w)), (5, .inl (nI n)), (0, .inr (.inr (some 129))), (1, .inr (.inr (some 126))), (2, .inr (.inr (U.2.2.2.1 129 10))), (3, .inl (nI fr)), (4, .inl (nI wd))], [], Hsa)) (C := []) rfl trivial ?_
      refine mw_sub (L' := [(5, .inl (nI n)), (7, .inr (.inl lf0)), (9, .inl (nI (cnz lf0 64))), (0, .inr (.inr (some 129))), (1, .inr (.inr (some 126))), (2, .inr (.inr (U.2.2.2.1 129 10))), (3, .inl (nI fr)), (4, .inl (nI wd)), (6, .inl (nI w))]) (by simp) ?_
      refine mw_down (α := Nat × Int64 × mu_H) (fun zs => (37, [(5, .inl (nI zs.1)), (7, .inr (.inl zs.2.1)), (9, .inl (nI (cnz zs.2.1 64))), (0, .inr (.inr (some 129))), (1, .inr (.inr (some 126))), (2, .inr (.inr (U.2.2.2.1 129 10))), (3, .inl (nI fr)), (4, .inl (nI wd)), (6, .inl (nI w))], [], zs.2.2)) (fun zs => cnz zs.2.1 64) (fun zs => um m zs.2.2 ∧ ur m C H zs.2.2 ∧ (uq F285c10b Va (ud m zs.2.2)) ∧ (∃ ls : Nat → Nat, (∀ i, i < zs.1 → ((ud m zs.2.2).2.2.1 129 10).2 (fr + i) = nI (ls i)) ∧ inw ls zs.1 (btc U Z) w zs.2.1) ∧ (∀ k, (k < fr ∨ fr + zs.1 ≤ k) → ((ud m zs.2.2).2.2.1 129 10).2 k = (U.2.2.1 129 10).2 k)) (fun zs hzb ihb => ?_) (n, lf0, Hsa) ⟨ua, hta, (show uq F285c10b Va (ud m Hsa) from by rw [da]; exact uq.refl _ _), (show ∃ ls : Nat → Nat, (∀ i, i < n → ((ud m Hsa).2.2.1 129 10).2 (fr + i) = nI (ls i)) ∧ inw ls n (btc U Z) w lf0 from by rw [da]; exact ⟨ls0, hls0, in_start hen hlq⟩), (show ∀ k, (k < fr ∨ fr + n ≤ k) → ((ud m Hsa).2.2.1 129 10).2 k = (U.2.2.1 129 10).2 k from by rw [da]; exact hKa)⟩
      obtain ⟨n, lf, Hsb⟩ := zs
      obtain ⟨ub, htb, db, hI, hKb⟩ := hzb
      have ub : um m Hsb := ub
      have htb : ur m C H Hsb := htb
      have zzb : uq F285c10b Va (ud m Hsb) := db
      have hI : ∃ ls : Nat → Nat, (∀ i, i < n → ((ud m Hsb).2.2.1 129 10).2 (fr + i) = nI (ls i)) ∧ inw ls n (btc U Z) w lf := hI
      have hKb : ∀ k, (k < fr ∨ fr + n ≤ k) → ((ud m Hsb).2.2.1 129 10).2 k = (U.2.2.1 129 10).2 k := hKb
      obtain ⟨Vb, db⟩ : ∃ V, ud m Hsb = V := ⟨_, rfl⟩
      rw [db] at zzb hI hKb
      have qfb : uq F285c10 U Vb := qfa.tr zzb rfl
      show mu_W _ _ (37, [(5, .inl (nI n)), (7, .inr (.inl lf)), (9, .inl (nI (cnz lf 64))), (0, .inr (.inr (some 129))), (1, .inr (.inr (some 126))), (2, .inr (.inr (U.2.2.2.1 129 10))), (3, .inl (nI fr)), (4, .inl (nI wd)), (6, .inl (nI w))], [], Hsb) _
      obtain ⟨ls, hls, hin⟩ := hI
      have hcb := cnz_b (lf := lf) 64
      refine mw_go mu_g285 (k := 1) (f1 := (39, [(5, .inl (nI n)), (7, .inr (.inl lf)), (9, .inl (nI (cnz lf 64))), (0, .inr (.inr (some 129))), (1, .inr (.inr (some 126))), (2, .inr (.inr (U.2.2.2.1 129 10))), (3, .inl (nI fr)), (4, .inl (nI wd)), (6, .inl (nI w))], [.inl (nI (cnz lf 64))], Hsb)) (C := []) rfl trivial ?_
      refine mw_if (P := 0 < (nI (cnz lf 64))) (a := 42) (b := 77) (fun _ => rfl) trivial (fun h3 => ?_) (fun h3 => ?_)
      · -- 42: 0 < (nI (cnz lf 64))
        have nh3 : 0 < (cnz lf 64) := (nI_ltI (by omega) (by omega)).mp (show nI 0 < nI (cnz lf 64) from h3)
        refine mw_go mu_g285 (k := 4) (f1 := (47, [(5, .inl (nI n)), (7, .inr (.inl lf)), (9, .inl (nI (cnz lf 64))), (0, .inr (.inr (some 129))), (1, .inr (.inr (some 126))), (2, .inr (.inr (U.2.2.2.1 129 10))), (3, .inl (nI fr)), (4, .inl (nI wd)), (6, .inl (nI w))], [.inl ((nI fr) + (nI n)), .inr (.inr (U.2.2.2.1 129 10))], Hsb)) (C := []) rfl trivial ?_
        rw [(show ((nI fr) + (nI n)) = (nI (fr + n)) from (nI_add fr n))]
        refine mw_go mu_g285 (k := 3) (f1 := (52, [(5, .inl (nI n)), (7, .inr (.inl lf)), (9, .inl (nI (cnz lf 64))), (0, .inr (.inr (some 129))), (1, .inr (.inr (some 126))), (2, .inr (.inr (U.2.2.2.1 129 10))), (3, .inl (nI fr)), (4, .inl (nI wd)), (6, .inl (nI w))], [.inl ((nI w) * (64 : Int32)), .inl (nI (fr + n)), .inr (.inr (U.2.2.2.1 129 10))], Hsb)) (C := []) rfl trivial ?_
        rw [(show ((nI w) * (64 : Int32)) = (nI (w * 64)) from (nI_mul (a := w) (b := 64)))]
        refine mw_go mu_g285 (k := 1) (f1 := (54, [(5, .inl (nI n)), (7, .inr (.inl lf)), (9, .inl (nI (cnz lf 64))), (0, .inr (.inr (some 129))), (1, .inr (.inr (some 126))), (2, .inr (.inr (U.2.2.2.1 129 10))), (3, .inl (nI fr)), (4, .inl (nI wd)), (6, .inl (nI w))], [.inr (.inl lf), .inl (nI (w * 64)), .inl (nI (fr + n)), .inr (.inr (U.2.2.2.1 129 10))], Hsb)) (C := []) rfl trivial ?_
        obtain ⟨t, ht1, ht2, ht3⟩ := cnz_low (lf := lf) (by omega)
        obtain ⟨rm1, rm2⟩ := in_room hin ht1 ht2 ht3 (fun s z => btc_T z)
        refine mw_cIe (fun _ => rfl) trivial (jl_tz_ok (d := d) lf) ?_
        rw [show jl_tz lf = nI t from tz64 ht1 ht2 ht3]
        refine mw_go mu_g285 (k := 1) (f1 := (58, [(5, .inl (nI n)), (7, .inr (.inl lf)), (9, .inl (nI (cnz lf 64))), (0, .inr (.inr (some 129))), (1, .inr (.inr (some 126))), (2, .inr (.inr (U.2.2.2.1 129 10))), (3, .inl (nI fr)), (4, .inl (nI wd)), (6, .inl (nI w))], [.inl ((nI (w * 64)) + (nI t)), .inl (nI (fr + n)), .inr (.inr (U.2.2.2.1 129 10))], Hsb)) (C := []) rfl trivial ?_
        rw [(show ((nI (w * 64)) + (nI t)) = (nI ((w * 64) + t)) from (nI_add (w * 64) t))]
        refine mw_go mu_g285 (k := 1) (f1 := (59, [(5, .inl (nI n)), (7, .inr (.inl lf)), (9, .inl (nI (cnz lf 64))), (0, .inr (.inr (some 129))), (1, .inr (.inr (some 126))), (2, .inr (.inr (U.2.2.2.1 129 10))), (3, .inl (nI fr)), (4, .inl (nI wd)), (6, .inl (nI w))], [], (mu_si Hsb (mu_p (U.2.2.2.1 129 10)) (nI (fr + n)).toNatClampNeg (nI ((w * 64) + t))))) (C := [mu_is Hsb (U.2.2.2.1 129 10) 100, vp_in (nI (fr + n)) (mu_n Hsb (mu_p (U.2.2.2.1 129 10)))]) rfl (show (mu_is Hsb (U.2.2.2.1 129 10) 100) ∧ (vp_in (nI (fr + n)) (mu_n Hsb (mu_p (U.2.2.2.1 129 10)))) from ⟨(ub.iA db rfl rfl (show Vb.2.2.2.1 129 10 = (U.2.2.2.1 129 10) from ((zzb.r 129 10 rfl).trans (zza.r 129 10 rfl)))), (ub.vA (i := fr + n) db rfl rfl (show Vb.2.2.2.1 129 10 = (U.2.2.2.1 129 10) from ((zzb.r 129 10 rfl).trans (zza.r 129 10 rfl))) (show (Vb.2.2.1 129 10).1 = (U.2.2.1 129 10).1 from ((zzb.n 129 10 rfl).trans (zza.n 129 10 rfl))) (by omega) (by omega))⟩) ?_
        rw [(show (nI (fr + n)).toNatClampNeg = fr + n from nI_clamp (by omega))]
        obtain ⟨u5, r5, d5⟩ : um m (mu_si Hsb (mu_p (U.2.2.2.1 129 10)) (fr + n) (nI ((w * 64) + t))) ∧ ur m C Hsb (mu_si Hsb (mu_p (U.2.2.2.1 129 10)) (fr + n) (nI ((w * 64) + t))) ∧ ud m (mu_si Hsb (mu_p (U.2.2.2.1 129 10)) (fr + n) (nI ((w * 64) + t))) = (upA Vb 129 10 (fr + n) (nI ((w * 64) + t))) := ub.sA (C := C) db rfl rfl (show Vb.2.2.2.1 129 10 = (U.2.2.2.1 129 10) from ((zzb.r 129 10 rfl).trans (zza.r 129 10 rfl)))
        generalize (mu_si Hsb (mu_p (U.2.2.2.1 129 10)) (fr + n) (nI ((w * 64) + t))) = Q5 at u5 r5 d5 ⊢
        have qf5 : uq F285c10 U (upA Vb 129 10 (fr + n) (nI ((w * 64) + t))) := qfb.A rfl
        have ht5 : ur m C H Q5 := htb.trans r5
        refine mw_go mu_g285 (k := 1) (f1 := (62, [(5, .inl ((nI n) + 1)), (7, .inr (.inl lf)), (9, .inl (nI (cnz lf 64))), (0, .inr (.inr (some 129))), (1, .inr (.inr (some 126))), (2, .inr (.inr (U.2.2.2.1 129 10))), (3, .inl (nI fr)), (4, .inl (nI wd)), (6, .inl (nI w))], [], Q5)) (C := []) rfl trivial ?_
        rw [(show ((nI n) + 1) = (nI (n + 1)) from (nI_add n 1))]
        refine mw_go mu_g285 (k := 6) (f1 := (71, [(7, .inr (.inl (lf &&& (lf - (1 : Int64))))), (5, .inl (nI (n + 1))), (9, .inl (nI (cnz lf 64))), (0, .inr (.inr (some 129))), (1, .inr (.inr (some 126))), (2, .inr (.inr (U.2.2.2.1 129 10))), (3, .inl (nI fr)), (4, .inl (nI wd)), (6, .inl (nI w))], [], Q5)) (C := []) rfl trivial ?_
        obtain ⟨lf2, hlf2⟩ : ∃ y, y = (lf &&& (lf - (1 : Int64))) := ⟨_, rfl⟩
        rw [← hlf2]
        have hoff : ∀ i, btz lf2 i = (btz lf i && decide (i ≠ t)) := fun i => by rw [hlf2]; exact low_off ht2 ht3 i
        have hcl : cnz lf2 64 + 1 = cnz lf 64 := (cnz_less ht2 (by rw [hoff]; simp) (fun i hi => by rw [hoff]; simp [hi]) 64).2 ht1
        refine mw_go mu_g285 (k := 1) (f1 := (74, [(9, .inl ((nI (cnz lf 64)) + (-1))), (7, .inr (.inl lf2)), (5, .inl (nI (n + 1))), (0, .inr (.inr (some 129))), (1, .inr (.inr (some 126))), (2, .inr (.inr (U.2.2.2.1 129 10))), (3, .inl (nI fr)), (4, .inl (nI wd)), (6, .inl (nI w))], [], Q5)) (C := []) rfl trivial ?_
        rw [(show ((nI (cnz lf 64)) + (-1)) = (nI ((cnz lf 64) - 1)) from ((Int32.sub_eq_add_neg _ _).symm.trans (nI_sub (a := cnz lf 64) (b := 1) (by omega))))]
        rw [show (nI ((cnz lf 64) - 1)) = nI (cnz lf2 64) from congrArg nI (by omega)]
        refine mw_go mu_g285 (k := 1) (f1 := (37, [(9, .inl (nI (cnz lf2 64))), (7, .inr (.inl lf2)), (5, .inl (nI (n + 1))), (0, .inr (.inr (some 129))), (1, .inr (.inr (some 126))), (2, .inr (.inr (U.2.2.2.1 129 10))), (3, .inl (nI fr)), (4, .inl (nI wd)), (6, .inl (nI w))], [], Q5)) (C := []) rfl trivial ?_
        exact mw_sub (by simp) (ihb (n + 1, lf2, Q5) ⟨u5, ht5, (show uq F285c10b Va (ud m Q5) from by rw [d5]; exact (zzb.A rfl)), (show ∃ ls : Nat → Nat, (∀ i, i < (n + 1) → ((ud m Q5).2.2.1 129 10).2 (fr + i) = nI (ls i)) ∧ inw ls (n + 1) (btc U Z) w lf2 from by rw [d5]; exact ⟨fun i => if i = n then 64 * w + t else ls i, fun i hi => (by show (if fr + i = fr + n then nI (w * 64 + t) else (Vb.2.2.1 129 10).2 (fr + i)) = nI (if i = n then 64 * w + t else ls i); rw [show w * 64 + t = 64 * w + t by omega]; by_cases ei : i = n; (rw [if_pos (by omega), if_pos ei]); (rw [if_neg (by omega), if_neg ei]; exact hls i (by omega))), in_step hin ht1 ht2 ht3 hoff⟩), (show ∀ k, (k < fr ∨ fr + (n + 1) ≤ k) → ((ud m Q5).2.2.1 129 10).2 k = (U.2.2.1 129 10).2 k from by rw [d5]; exact (fun k hk => (by show (if k = fr + n then nI (w * 64 + t) else (Vb.2.2.1 129 10).2 k) = (U.2.2.1 129 10).2 k; rw [if_neg (by omega)]; exact hKb k (by omega))))⟩ (by show cnz lf2 64 < cnz lf 64; omega))
      · -- 77: not 0 < (nI (cnz lf 64))
        have nh3 : ¬ 0 < (cnz lf 64) := fun z => h3 (show nI 0 < nI (cnz lf 64) from (nI_ltI (by omega) (by omega)).mpr z)
        refine mw_go mu_g285 (k := 1) (f1 := (80, [(6, .inl ((nI w) + 1)), (5, .inl (nI n)), (7, .inr (.inl lf)), (9, .inl (nI (cnz lf 64))), (0, .inr (.inr (some 129))), (1, .inr (.inr (some 126))), (2, .inr (.inr (U.2.2.2.1 129 10))), (3, .inl (nI fr)), (4, .inl (nI wd))], [], Hsb)) (C := []) rfl trivial ?_
        rw [(show ((nI w) + 1) = (nI (w + 1)) from (nI_add w 1))]
        refine mw_go mu_g285 (k := 1) (f1 := (6, [(6, .inl (nI (w + 1))), (5, .inl (nI n)), (7, .inr (.inl lf)), (9, .inl (nI (cnz lf 64))), (0, .inr (.inr (some 129))), (1, .inr (.inr (some 126))), (2, .inr (.inr (U.2.2.2.1 129 10))), (3, .inl (nI fr)), (4, .inl (nI wd))], [], Hsb)) (C := []) rfl trivial ?_
        exact mw_sub (by simp) (iha (w + 1, n, Hsb) ⟨ub, htb, (show uq F285c10a U (ud m Hsb) from by rw [db]; exact (zza.tr zzb rfl)), (show (w + 1) ≤ wd from (by omega)), (show ∃ ls : Nat → Nat, (∀ i, i < n → ((ud m Hsb).2.2.1 129 10).2 (fr + i) = nI (ls i)) ∧ enw ls n (btc U Z) (w + 1) from by rw [db]; exact ⟨ls, hls, in_end hin (cnz_none 64 (by omega))⟩), (show ∀ k, (k < fr ∨ fr + n ≤ k) → ((ud m Hsb).2.2.1 129 10).2 k = (U.2.2.1 129 10).2 k from by rw [db]; exact hKb)⟩ (by show wd - (w + 1) < wd - w; omega))
    · -- 30: not (lg_cmp lf0 (0 : Int64)) = 0
      refine mw_go mu_g285 (k := 1) (f1 := (32, [(7, .inr (.inl lf0)), (6, .inl (nI w)), (5, .inl (nI n)), (0, .inr (.inr (some 129))), (1, .inr (.inr (some 126))), (2, .inr (.inr (U.2.2.2.1 129 10))), (3, .inl (nI fr)), (4, .inl (nI wd))], [.inr (.inl lf0)], Hsa)) (C := []) rfl trivial ?_
      refine mw_cIe (fun _ => rfl) trivial (jl_bits_ok (d := (d + 1)) lf0) ?_
      rw [show jl_bits lf0 = nI (cnz lf0 64) from jl_bits_c]
      refine mw_go mu_g285 (k := 1) (f1 := (37, [(9, .inl (nI (cnz lf0 64))), (7, .inr (.inl lf0)), (6, .inl (nI w)), (5, .inl (nI n)), (0, .inr (.inr (some 129))), (1, .inr (.inr (some 126))), (2, .inr (.inr (U.2.2.2.1 129 10))), (3, .inl (nI fr)), (4, .inl (nI wd))], [], Hsa)) (C := []) rfl trivial ?_
      refine mw_sub (L' := [(5, .inl (nI n)), (7, .inr (.inl lf0)), (9, .inl (nI (cnz lf0 64))), (0, .inr (.inr (some 129))), (1, .inr (.inr (some 126))), (2, .inr (.inr (U.2.2.2.1 129 10))), (3, .inl (nI fr)), (4, .inl (nI wd)), (6, .inl (nI w))]) (by simp) ?_
      refine mw_down (α := Nat × Int64 × mu_H) (fun zs => (37, [(5, .inl (nI zs.1)), (7, .inr (.inl zs.2.1)), (9, .inl (nI (cnz zs.2.1 64))), (0, .inr (.inr (some 129))), (1, .inr (.inr (some 126))), (2, .inr (.inr (U.2.2.2.1 129 10))), (3, .inl (nI fr)), (4, .inl (nI wd)), (6, .inl (nI w))], [], zs.2.2)) (fun zs => cnz zs.2.1 64) (fun zs => um m zs.2.2 ∧ ur m C H zs.2.2 ∧ (uq F285c10b Va (ud m zs.2.2)) ∧ (∃ ls : Nat → Nat, (∀ i, i < zs.1 → ((ud m zs.2.2).2.2.1 129 10).2 (fr + i) = nI (ls i)) ∧ inw ls zs.1 (btc U Z) w zs.2.1) ∧ (∀ k, (k < fr ∨ fr + zs.1 ≤ k) → ((ud m zs.2.2).2.2.1 129 10).2 k = (U.2.2.1 129 10).2 k)) (fun zs hzb ihb => ?_) (n, lf0, Hsa) ⟨ua, hta, (show uq F285c10b Va (ud m Hsa) from by rw [da]; exact uq.refl _ _), (show ∃ ls : Nat → Nat, (∀ i, i < n → ((ud m Hsa).2.2.1 129 10).2 (fr + i) = nI (ls i)) ∧ inw ls n (btc U Z) w lf0 from by rw [da]; exact ⟨ls0, hls0, in_start hen hlq⟩), (show ∀ k, (k < fr ∨ fr + n ≤ k) → ((ud m Hsa).2.2.1 129 10).2 k = (U.2.2.1 129 10).2 k from by rw [da]; exact hKa)⟩
      obtain ⟨n, lf, Hsb⟩ := zs
      obtain ⟨ub, htb, db, hI, hKb⟩ := hzb
      have ub : um m Hsb := ub
      have htb : ur m C H Hsb := htb
      have zzb : uq F285c10b Va (ud m Hsb) := db
      have hI : ∃ ls : Nat → Nat, (∀ i, i < n → ((ud m Hsb).2.2.1 129 10).2 (fr + i) = nI (ls i)) ∧ inw ls n (btc U Z) w lf := hI
      have hKb : ∀ k, (k < fr ∨ fr + n ≤ k) → ((ud m Hsb).2.2.1 129 10).2 k = (U.2.2.1 129 10).2 k := hKb
      obtain ⟨Vb, db⟩ : ∃ V, ud m Hsb = V := ⟨_, rfl⟩
      rw [db] at zzb hI hKb
      have qfb : uq F285c10 U Vb := qfa.tr zzb rfl
      show mu_W _ _ (37, [(5, .inl (nI n)), (7, .inr (.inl lf)), (9, .inl (nI (cnz lf 64))), (0, .inr (.inr (some 129))), (1, .inr (.inr (some 126))), (2, .inr (.inr (U.2.2.2.1 129 10))), (3, .inl (nI fr)), (4, .inl (nI wd)), (6, .inl (nI w))], [], Hsb) _
      obtain ⟨ls, hls, hin⟩ := hI
      have hcb := cnz_b (lf := lf) 64
      refine mw_go mu_g285 (k := 1) (f1 := (39, [(5, .inl (nI n)), (7, .inr (.inl lf)), (9, .inl (nI (cnz lf 64))), (0, .inr (.inr (some 129))), (1, .inr (.inr (some 126))), (2, .inr (.inr (U.2.2.2.1 129 10))), (3, .inl (nI fr)), (4, .inl (nI wd)), (6, .inl (nI w))], [.inl (nI (cnz lf 64))], Hsb)) (C := []) rfl trivial ?_
      refine mw_if (P := 0 < (nI (cnz lf 64))) (a := 42) (b := 77) (fun _ => rfl) trivial (fun h7 => ?_) (fun h7 => ?_)
      · -- 42: 0 < (nI (cnz lf 64))
        have nh7 : 0 < (cnz lf 64) := (nI_ltI (by omega) (by omega)).mp (show nI 0 < nI (cnz lf 64) from h7)
        refine mw_go mu_g285 (k := 4) (f1 := (47, [(5, .inl (nI n)), (7, .inr (.inl lf)), (9, .inl (nI (cnz lf 64))), (0, .inr (.inr (some 129))), (1, .inr (.inr (some 126))), (2, .inr (.inr (U.2.2.2.1 129 10))), (3, .inl (nI fr)), (4, .inl (nI wd)), (6, .inl (nI w))], [.inl ((nI fr) + (nI n)), .inr (.inr (U.2.2.2.1 129 10))], Hsb)) (C := []) rfl trivial ?_
        rw [(show ((nI fr) + (nI n)) = (nI (fr + n)) from (nI_add fr n))]
        refine mw_go mu_g285 (k := 3) (f1 := (52, [(5, .inl (nI n)), (7, .inr (.inl lf)), (9, .inl (nI (cnz lf 64))), (0, .inr (.inr (some 129))), (1, .inr (.inr (some 126))), (2, .inr (.inr (U.2.2.2.1 129 10))), (3, .inl (nI fr)), (4, .inl (nI wd)), (6, .inl (nI w))], [.inl ((nI w) * (64 : Int32)), .inl (nI (fr + n)), .inr (.inr (U.2.2.2.1 129 10))], Hsb)) (C := []) rfl trivial ?_
        rw [(show ((nI w) * (64 : Int32)) = (nI (w * 64)) from (nI_mul (a := w) (b := 64)))]
        refine mw_go mu_g285 (k := 1) (f1 := (54, [(5, .inl (nI n)), (7, .inr (.inl lf)), (9, .inl (nI (cnz lf 64))), (0, .inr (.inr (some 129))), (1, .inr (.inr (some 126))), (2, .inr (.inr (U.2.2.2.1 129 10))), (3, .inl (nI fr)), (4, .inl (nI wd)), (6, .inl (nI w))], [.inr (.inl lf), .inl (nI (w * 64)), .inl (nI (fr + n)), .inr (.inr (U.2.2.2.1 129 10))], Hsb)) (C := []) rfl trivial ?_
        obtain ⟨t, ht1, ht2, ht3⟩ := cnz_low (lf := lf) (by omega)
        obtain ⟨rm1, rm2⟩ := in_room hin ht1 ht2 ht3 (fun s z => btc_T z)
        refine mw_cIe (fun _ => rfl) trivial (jl_tz_ok (d := d) lf) ?_
        rw [show jl_tz lf = nI t from tz64 ht1 ht2 ht3]
        refine mw_go mu_g285 (k := 1) (f1 := (58, [(5, .inl (nI n)), (7, .inr (.inl lf)), (9, .inl (nI (cnz lf 64))), (0, .inr (.inr (some 129))), (1, .inr (.inr (some 126))), (2, .inr (.inr (U.2.2.2.1 129 10))), (3, .inl (nI fr)), (4, .inl (nI wd)), (6, .inl (nI w))], [.inl ((nI (w * 64)) + (nI t)), .inl (nI (fr + n)), .inr (.inr (U.2.2.2.1 129 10))], Hsb)) (C := []) rfl trivial ?_
        rw [(show ((nI (w * 64)) + (nI t)) = (nI ((w * 64) + t)) from (nI_add (w * 64) t))]
        refine mw_go mu_g285 (k := 1) (f1 := (59, [(5, .inl (nI n)), (7, .inr (.inl lf)), (9, .inl (nI (cnz lf 64))), (0, .inr (.inr (some 129))), (1, .inr (.inr (some 126))), (2, .inr (.inr (U.2.2.2.1 129 10))), (3, .inl (nI fr)), (4, .inl (nI wd)), (6, .inl (nI w))], [], (mu_si Hsb (mu_p (U.2.2.2.1 129 10)) (nI (fr + n)).toNatClampNeg (nI ((w * 64) + t))))) (C := [mu_is Hsb (U.2.2.2.1 129 10) 100, vp_in (nI (fr + n)) (mu_n Hsb (mu_p (U.2.2.2.1 129 10)))]) rfl (show (mu_is Hsb (U.2.2.2.1 129 10) 100) ∧ (vp_in (nI (fr + n)) (mu_n Hsb (mu_p (U.2.2.2.1 129 10)))) from ⟨(ub.iA db rfl rfl (show Vb.2.2.2.1 129 10 = (U.2.2.2.1 129 10) from ((zzb.r 129 10 rfl).trans (zza.r 129 10 rfl)))), (ub.vA (i := fr + n) db rfl rfl (show Vb.2.2.2.1 129 10 = (U.2.2.2.1 129 10) from ((zzb.r 129 10 rfl).trans (zza.r 129 10 rfl))) (show (Vb.2.2.1 129 10).1 = (U.2.2.1 129 10).1 from ((zzb.n 129 10 rfl).trans (zza.n 129 10 rfl))) (by omega) (by omega))⟩) ?_
        rw [(show (nI (fr + n)).toNatClampNeg = fr + n from nI_clamp (by omega))]
        obtain ⟨u9, r9, d9⟩ : um m (mu_si Hsb (mu_p (U.2.2.2.1 129 10)) (fr + n) (nI ((w * 64) + t))) ∧ ur m C Hsb (mu_si Hsb (mu_p (U.2.2.2.1 129 10)) (fr + n) (nI ((w * 64) + t))) ∧ ud m (mu_si Hsb (mu_p (U.2.2.2.1 129 10)) (fr + n) (nI ((w * 64) + t))) = (upA Vb 129 10 (fr + n) (nI ((w * 64) + t))) := ub.sA (C := C) db rfl rfl (show Vb.2.2.2.1 129 10 = (U.2.2.2.1 129 10) from ((zzb.r 129 10 rfl).trans (zza.r 129 10 rfl)))
        generalize (mu_si Hsb (mu_p (U.2.2.2.1 129 10)) (fr + n) (nI ((w * 64) + t))) = Q9 at u9 r9 d9 ⊢
        have qf9 : uq F285c10 U (upA Vb 129 10 (fr + n) (nI ((w * 64) + t))) := qfb.A rfl
        have ht9 : ur m C H Q9 := htb.trans r9
        refine mw_go mu_g285 (k := 1) (f1 := (62, [(5, .inl ((nI n) + 1)), (7, .inr (.inl lf)), (9, .inl (nI (cnz lf 64))), (0, .inr (.inr (some 129))), (1, .inr (.inr (some 126))), (2, .inr (.inr (U.2.2.2.1 129 10))), (3, .inl (nI fr)), (4, .inl (nI wd)), (6, .inl (nI w))], [], Q9)) (C := []) rfl trivial ?_
        rw [(show ((nI n) + 1) = (nI (n + 1)) from (nI_add n 1))]
        refine mw_go mu_g285 (k := 6) (f1 := (71, [(7, .inr (.inl (lf &&& (lf - (1 : Int64))))), (5, .inl (nI (n + 1))), (9, .inl (nI (cnz lf 64))), (0, .inr (.inr (some 129))), (1, .inr (.inr (some 126))), (2, .inr (.inr (U.2.2.2.1 129 10))), (3, .inl (nI fr)), (4, .inl (nI wd)), (6, .inl (nI w))], [], Q9)) (C := []) rfl trivial ?_
        obtain ⟨lf2, hlf2⟩ : ∃ y, y = (lf &&& (lf - (1 : Int64))) := ⟨_, rfl⟩
        rw [← hlf2]
        have hoff : ∀ i, btz lf2 i = (btz lf i && decide (i ≠ t)) := fun i => by rw [hlf2]; exact low_off ht2 ht3 i
        have hcl : cnz lf2 64 + 1 = cnz lf 64 := (cnz_less ht2 (by rw [hoff]; simp) (fun i hi => by rw [hoff]; simp [hi]) 64).2 ht1
        refine mw_go mu_g285 (k := 1) (f1 := (74, [(9, .inl ((nI (cnz lf 64)) + (-1))), (7, .inr (.inl lf2)), (5, .inl (nI (n + 1))), (0, .inr (.inr (some 129))), (1, .inr (.inr (some 126))), (2, .inr (.inr (U.2.2.2.1 129 10))), (3, .inl (nI fr)), (4, .inl (nI wd)), (6, .inl (nI w))], [], Q9)) (C := []) rfl trivial ?_
        rw [(show ((nI (cnz lf 64)) + (-1)) = (nI ((cnz lf 64) - 1)) from ((Int32.sub_eq_add_neg _ _).symm.trans (nI_sub (a := cnz lf 64) (b := 1) (by omega))))]
        rw [show (nI ((cnz lf 64) - 1)) = nI (cnz lf2 64) from congrArg nI (by omega)]
        refine mw_go mu_g285 (k := 1) (f1 := (37, [(9, .inl (nI (cnz lf2 64))), (7, .inr (.inl lf2)), (5, .inl (nI (n + 1))), (0, .inr (.inr (some 129))), (1, .inr (.inr (some 126))), (2, .inr (.inr (U.2.2.2.1 129 10))), (3, .inl (nI fr)), (4, .inl (nI wd)), (6, .inl (nI w))], [], Q9)) (C := []) rfl trivial ?_
        exact mw_sub (by simp) (ihb (n + 1, lf2, Q9) ⟨u9, ht9, (show uq F285c10b Va (ud m Q9) from by rw [d9]; exact (zzb.A rfl)), (show ∃ ls : Nat → Nat, (∀ i, i < (n + 1) → ((ud m Q9).2.2.1 129 10).2 (fr + i) = nI (ls i)) ∧ inw ls (n + 1) (btc U Z) w lf2 from by rw [d9]; exact ⟨fun i => if i = n then 64 * w + t else ls i, fun i hi => (by show (if fr + i = fr + n then nI (w * 64 + t) else (Vb.2.2.1 129 10).2 (fr + i)) = nI (if i = n then 64 * w + t else ls i); rw [show w * 64 + t = 64 * w + t by omega]; by_cases ei : i = n; (rw [if_pos (by omega), if_pos ei]); (rw [if_neg (by omega), if_neg ei]; exact hls i (by omega))), in_step hin ht1 ht2 ht3 hoff⟩), (show ∀ k, (k < fr ∨ fr + (n + 1) ≤ k) → ((ud m Q9).2.2.1 129 10).2 k = (U.2.2.1 129 10).2 k from by rw [d9]; exact (fun k hk => (by show (if k = fr + n then nI (w * 64 + t) else (Vb.2.2.1 129 10).2 k) = (U.2.2.1 129 10).2 k; rw [if_neg (by omega)]; exact hKb k (by omega))))⟩ (by show cnz lf2 64 < cnz lf 64; omega))
      · -- 77: not 0 < (nI (cnz lf 64))
        have nh7 : ¬ 0 < (cnz lf 64) := fun z => h7 (show nI 0 < nI (cnz lf 64) from (nI_ltI (by omega) (by omega)).mpr z)
        refine mw_go mu_g285 (k := 1) (f1 := (80, [(6, .inl ((nI w) + 1)), (5, .inl (nI n)), (7, .inr (.inl lf)), (9, .inl (nI (cnz lf 64))), (0, .inr (.inr (some 129))), (1, .inr (.inr (some 126))), (2, .inr (.inr (U.2.2.2.1 129 10))), (3, .inl (nI fr)), (4, .inl (nI wd))], [], Hsb)) (C := []) rfl trivial ?_
        rw [(show ((nI w) + 1) = (nI (w + 1)) from (nI_add w 1))]
        refine mw_go mu_g285 (k := 1) (f1 := (6, [(6, .inl (nI (w + 1))), (5, .inl (nI n)), (7, .inr (.inl lf)), (9, .inl (nI (cnz lf 64))), (0, .inr (.inr (some 129))), (1, .inr (.inr (some 126))), (2, .inr (.inr (U.2.2.2.1 129 10))), (3, .inl (nI fr)), (4, .inl (nI wd))], [], Hsb)) (C := []) rfl trivial ?_
        exact mw_sub (by simp) (iha (w + 1, n, Hsb) ⟨ub, htb, (show uq F285c10a U (ud m Hsb) from by rw [db]; exact (zza.tr zzb rfl)), (show (w + 1) ≤ wd from (by omega)), (show ∃ ls : Nat → Nat, (∀ i, i < n → ((ud m Hsb).2.2.1 129 10).2 (fr + i) = nI (ls i)) ∧ enw ls n (btc U Z) (w + 1) from by rw [db]; exact ⟨ls, hls, in_end hin (cnz_none 64 (by omega))⟩), (show ∀ k, (k < fr ∨ fr + n ≤ k) → ((ud m Hsb).2.2.1 129 10).2 k = (U.2.2.1 129 10).2 k from by rw [db]; exact hKb)⟩ (by show wd - (w + 1) < wd - w; omega))
  · -- 83: not (nI w) < (nI wd)
    have nh1 : ¬ w < wd := fun z => h1 (show nI w < nI wd from (nI_ltI (by omega) (by omega)).mpr z)
    refine mw_go mu_g285 (k := 1) (f1 := (85, [(6, .inl (nI w)), (5, .inl (nI n)), (0, .inr (.inr (some 129))), (1, .inr (.inr (some 126))), (2, .inr (.inr (U.2.2.2.1 129 10))), (3, .inl (nI fr)), (4, .inl (nI wd))], [.inl (nI n)], Hsa)) (C := []) rfl trivial ?_
    have hwE : w = wd := by omega
    exact mw_of (fun _ => mu_ret rfl trivial ⟨_, Hsa, rfl, n, rfl, ua, hta, (by rw [da]; exact qfa), ls0, (by rw [da]; exact hls0), (by rw [hwE] at hen; exact hen), (by rw [da]; exact hKa)⟩)
end ListBits
