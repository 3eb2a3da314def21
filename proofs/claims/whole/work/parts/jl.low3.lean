/-! JUDGE: areLow: the height of every SPEC is at most 120 -/
/-- a SPEC's height is at most 120 -/
def LWC (W : Ts) (eh : Nat → Nat) (i c : Nat) : Prop := ∃ a N, (W 8).2 c 1 = nI a ∧ (W 8).2 c 2 = nI (a + N) ∧ hgz W (hglh W eh i) (hgch W) a N 0 ≤ 120
def LOWS (W : Ts) : Prop := ∃ eh, ∀ q, q < (W 11).1 → ∀ c, sp W (im W q) 5 ≤ c → c < sp W (im W q + 1) 5 → LWC W eh q c
section AreLow
variable {H H1 H2 : mu_H} {d m a b p n N i r k v o e : Nat} {W s : Ts} {al w l x : Int32} {od : Nat → Nat}
theorem fl1 (h : l = 0 ∨ l = 1) : l &&& 1 = 0 ∨ l &&& 1 = 1 := by rcases h with rfl | rfl <;> decide
theorem fl0 (h : l = 0 ∨ l = 1) : l &&& 0 = 0 ∨ l &&& 0 = 1 := by rcases h with rfl | rfl <;> decide
theorem of1 (h : l = 0 ∨ l = 1) (z : l &&& 1 = 1) : l = 1 := by rcases h with rfl | rfl <;> revert z <;> decide
theorem of0 (h : l = 0 ∨ l = 1) (z : l &&& 0 = 1) : False := by rcases h with rfl | rfl <;> revert z <;> decide
theorem low_of (hx : x = nI v) (hv : v < 2147483648) (h : ¬ (120 : Int32) < x) : v ≤ 120 := Nat.le_of_not_lt (fun z => h (by rw [hx]; exact (nI_ltI (a := 120) (by decide) hv).mpr z))
theorem low_next {f f' : Nat → Int32} {eh : Nat → Nat} {X X' : Nat} (h1 : ∀ e, eh e ≤ X) (h2 : ∀ q, q < k → f (od q) = nI (eh (od q))) (he : ∀ e, f' e = if e = od k then x else f e) (hx : x = nI v) (hv : v ≤ X') (hX : X ≤ X') (hin : ∀ q, q < k → ¬ od q = od k) : ∃ eh : Nat → Nat, (∀ e, eh e ≤ X') ∧ ∀ q, q < k + 1 → f' (od q) = nI (eh (od q)) := by
  refine ⟨fun e => if e = od k then v else eh e, fun e => ?_, fun q hq => ?_⟩
  · show (if e = od k then v else eh e) ≤ X'
    split
    · exact hv
    · exact Nat.le_trans (h1 e) hX
  · rw [he]
    show _ = nI (if od q = od k then v else eh (od q))
    by_cases c : q = k
    · rw [c, if_pos rfl, if_pos rfl, hx]
    · rw [if_neg (hin q (by omega)), if_neg (hin q (by omega)), h2 q (by omega)]
theorem es_set3 {e0 : Nat} (h : e0 < (s 13).1) (hb : e0 < 2147483648) : (ax 13 s (nI e0) 3 x 13).2 e 3 = if e = e0 then x else (s 13).2 e 3 := by
  by_cases z : e = e0
  · rw [if_pos z, z]; exact ax_hit h (by decide) hb
  · rw [if_neg z]; exact ax_c (fun _ y => absurd (y.trans (nI_clamp hb)) z)
theorem dn.set133 (h : dn m H) (row v : Int32) : mu_TV (mu_D (d + 1)) 116 [.inr (.inr (some (m + 27))), .inl row, .inl (nI 3), .inl v] H (fun H1 => dn m H1 ∧ jy m H H1 ∧ ak m H1 = ax 13 (ak m H) row 3 v) := by
  refine (gi_set_ok (d := d) h.1.1 (md_w13 h.2) row v (j := 3) (by decide)).imp (fun H1 q => ?_)
  obtain ⟨s1, s2⟩ := jd.set13 (m := m) (c := 3) (row := row) (v := v) ⟨h.1.1, h.2, h.1.2.1⟩ (by decide) (by decide)
  obtain ⟨t1, -, t3, -⟩ := h.dm.set (C := fun _ => 0) (j := 13) (row := row) (c := 3) (v := v) (by decide)
  rw [q]
  exact ⟨t1.dn, s2, t3⟩
theorem jg_low3 (h : dn m H) (hj : jz W (ak m H)) (hW : JW W) (hN : (W 0).1 < jn H) (hord : TOP W (ak m H 14) od) (hC5 : Cr W 5 false 1 2) (hC4 : Cr W 4 true 2 3) (hE4k : (W 13).1 ≤ 4001) (hY : (W 0).1 ≤ 14000) : mu_TI (mu_D (d + 5)) 188 [.inr (.inr (some 91))] H (fun x H1 => dn m H1 ∧ jy m H H1 ∧ (x = 0 ∨ (x = 1 ∧ LOWS W))) := by
  have b := hW.2.2.2.2.2.2
  have b0 := b 0 (by decide)
  have b1 := b 1 (by decide)
  have b7 := b 7 (by decide)
  have b8 := b 8 (by decide)
  have b11 := b 11 (by decide)
  have b13 := b 13 (by decide)
  refine mu_meth (M := mu_m188) rfl rfl ?_
  refine mw_ht (mu_fn_of (show [0].Nodup by decide)) ?_
  refine mw_go mu_g188 (k := 4) (f1 := (4, [(2, .inl (0 : Int32)), (1, .inl (1 : Int32)), (0, .inr (.inr (some 91)))], [], H)) (C := []) rfl trivial ?_
  show mu_W _ _ (4, [(2, .inl (nI 0)), (1, .inl 1), (0, .inr (.inr (some 91)))], [], H) _
  refine mw_sub (L' := [(1, .inl 1), (2, .inl (nI 0)), (0, .inr (.inr (some 91)))]) (by simp) ?_
  refine mw_down (α := Int32 × Nat × mu_H) (fun zs => (4, [(1, .inl zs.1), (2, .inl (nI zs.2.1)), (0, .inr (.inr (some 91)))], [], zs.2.2)) (fun zs => (W 13).1 - zs.2.1) (fun zs => dn m zs.2.2 ∧ jy m H zs.2.2 ∧ (zs.1 = 0 ∨ zs.1 = 1) ∧ (zs.2.1 ≤ (W 13).1) ∧ (∃ eh : Nat → Nat, (∀ e, eh e ≤ 14001 * zs.2.1) ∧ ∀ q, q < zs.2.1 → (ak m zs.2.2 13).2 (od q) 3 = nI (eh (od q)))) (fun zs hza iha => ?_) (1, 0, H) ⟨h, (jy.refl m H), (show 1 = 0 ∨ 1 = 1 from (Or.inr rfl)), (show 0 ≤ (W 13).1 from (by omega)), (show ∃ eh : Nat → Nat, (∀ e, eh e ≤ 14001 * 0) ∧ ∀ q, q < 0 → (ak m H 13).2 (od q) 3 = nI (eh (od q)) from ⟨fun _ => 0, fun e => Nat.zero_le _, fun q hq => absurd hq (Nat.not_lt_zero _)⟩)⟩
  obtain ⟨l, k, Hsa⟩ := zs
  obtain ⟨ua, hta, hl, hk, hH⟩ := hza
  have ua : dn m Hsa := ua
  have hta : jy m H Hsa := hta
  have hl : l = 0 ∨ l = 1 := hl
  have hk : k ≤ (W 13).1 := hk
  have hH : ∃ eh : Nat → Nat, (∀ e, eh e ≤ 14001 * k) ∧ ∀ q, q < k → (ak m Hsa 13).2 (od q) 3 = nI (eh (od q)) := hH
  show mu_W _ _ (4, [(1, .inl l), (2, .inl (nI k)), (0, .inr (.inr (some 91)))], [], Hsa) _
  refine mw_go mu_g188 (k := 3) (f1 := (9, [(1, .inl l), (2, .inl (nI k)), (0, .inr (.inr (some 91)))], [.inr (.inr (mu_r Hsa 91 3)), .inl (nI k)], Hsa)) (C := [mu_is Hsa (some 91) 3]) rfl (show mu_is Hsa (some 91) 3 from (ua.1.1.is rfl)) ?_
  rw [(ua.1.2.1)]
  refine mw_go mu_g188 (k := 1) (f1 := (12, [(1, .inl l), (2, .inl (nI k)), (0, .inr (.inr (some 91)))], [.inr (.inr (mu_r Hsa m 14)), .inl (nI k)], Hsa)) (C := [mu_is Hsa (some m) 6]) rfl (show mu_is Hsa (some m) 6 from (show mu_is Hsa (some m) 6 from gi_im ua.1.1 ua.2)) ?_
  rw [(show mu_r Hsa m 14 = some (m + 29) from (gi_mr ua.1.1 ua.2 (j := 14) (by decide)).trans (congrArg some (by omega)))]
  refine mw_go mu_g188 (k := 1) (f1 := (15, [(1, .inl l), (2, .inl (nI k)), (0, .inr (.inr (some 91)))], [.inl (mu_i Hsa (m + 29) 2), .inl (nI k)], Hsa)) (C := [mu_is Hsa (some (m + 29)) 10]) rfl (show mu_is Hsa (some (m + 29)) 10 from ((ua.1.1.w (md_w14 ua.2)).1)) ?_
  rw [(show mu_i Hsa (m + 29) 2 = nI (W 13).1 from (dm.size (dn.dm ua) rfl (j := 14) (by decide)).trans (congrArg nI (by rw [(hta.ak h.2).1 14 (by decide)]; exact hord.1.1)))]
  refine mw_if (P := (nI k) < (nI (W 13).1)) (a := 18) (b := 108) (fun _ => rfl) trivial (fun h1 => ?_) (fun h1 => ?_)
  · -- 18: (nI k) < (nI (W 13).1)
    have nh1 : k < ((W 13).1) := (nI_ltI (by omega) (by omega)).mp (show nI k < nI ((W 13).1) from h1)
    have hok := hord.1.2.1 k (by omega)
    have ek := en_ok hW hok.2
    obtain ⟨eh, heb, hh⟩ := hH
    have hel := ek.2.2.2.2.2.1
    refine mw_go mu_g188 (k := 2) (f1 := (22, [(1, .inl l), (2, .inl (nI k)), (0, .inr (.inr (some 91)))], [.inr (.inr (mu_r Hsa 91 3))], Hsa)) (C := [mu_is Hsa (some 91) 3]) rfl (show mu_is Hsa (some 91) 3 from (ua.1.1.is rfl)) ?_
    rw [(ua.1.2.1)]
    refine mw_go mu_g188 (k := 1) (f1 := (25, [(1, .inl l), (2, .inl (nI k)), (0, .inr (.inr (some 91)))], [.inr (.inr (mu_r Hsa m 14))], Hsa)) (C := [mu_is Hsa (some m) 6]) rfl (show mu_is Hsa (some m) 6 from (show mu_is Hsa (some m) 6 from gi_im ua.1.1 ua.2)) ?_
    rw [(show mu_r Hsa m 14 = some (m + 29) from (gi_mr ua.1.1 ua.2 (j := 14) (by decide)).trans (congrArg some (by omega)))]
    refine mw_go mu_g188 (k := 2) (f1 := (27, [(1, .inl l), (2, .inl (nI k)), (0, .inr (.inr (some 91)))], [.inl (0 : Int32), .inl (nI k), .inr (.inr (some (m + 29)))], Hsa)) (C := []) rfl trivial ?_
    refine mw_cIe (fun _ => rfl) (show mu_is Hsa (some (m + 29)) 10 from ((ua.1.1.w (md_w14 ua.2)).1)) (dm.getr (d := (d + 3)) (dn.dm ua) rfl (j := 14) (by decide) rfl (nI k) (c := 0) (by decide)) ?_
    rw [show (tget (ak m Hsa 14) (nI k) 0) = (nI (od k)) from ((tget_nI (by omega)).trans (by rw [(hta.ak h.2).1 14 (by decide)]; exact (hord.1.2.1 k (by omega)).1))]
    refine mw_go mu_g188 (k := 4) (f1 := (36, [(3, .inl (nI (od k))), (1, .inl l), (2, .inl (nI k)), (0, .inr (.inr (some 91)))], [.inr (.inr (mu_r Hsa 91 3)), .inr (.inr (some 91))], Hsa)) (C := [mu_is Hsa (some 91) 3]) rfl (show mu_is Hsa (some 91) 3 from (ua.1.1.is rfl)) ?_
    rw [(ua.1.2.1)]
    refine mw_go mu_g188 (k := 1) (f1 := (39, [(3, .inl (nI (od k))), (1, .inl l), (2, .inl (nI k)), (0, .inr (.inr (some 91)))], [.inr (.inr (mu_r Hsa m 13)), .inr (.inr (some 91))], Hsa)) (C := [mu_is Hsa (some m) 6]) rfl (show mu_is Hsa (some m) 6 from (show mu_is Hsa (some m) 6 from gi_im ua.1.1 ua.2)) ?_
    rw [(show mu_r Hsa m 13 = some (m + 27) from (gi_mr ua.1.1 ua.2 (j := 13) (by decide)).trans (congrArg some (by omega)))]
    refine mw_go mu_g188 (k := 2) (f1 := (41, [(3, .inl (nI (od k))), (1, .inl l), (2, .inl (nI k)), (0, .inr (.inr (some 91)))], [.inl (0 : Int32), .inl (nI (od k)), .inr (.inr (some (m + 27))), .inr (.inr (some 91))], Hsa)) (C := []) rfl trivial ?_
    refine mw_cIe (fun _ => rfl) (show mu_is Hsa (some (m + 27)) 10 from ((ua.1.1.w (md_w13 ua.2)).1)) (dm.getr (d := (d + 3)) (dn.dm ua) rfl (j := 13) (by decide) rfl (nI (od k)) (c := 0) (by decide)) ?_
    rw [show (tget (ak m Hsa 13) (nI (od k)) 0) = (nI (enx W (od k) 0)) from ((tget_nI (by omega)).trans (((hj.jy hta h.2).2.2 (od k) 0 (by decide)).trans ek.1))]
    refine mw_go mu_g188 (k := 2) (f1 := (48, [(3, .inl (nI (od k))), (1, .inl l), (2, .inl (nI k)), (0, .inr (.inr (some 91)))], [.inr (.inr (mu_r Hsa 91 3)), .inl (nI (enx W (od k) 0)), .inr (.inr (some 91))], Hsa)) (C := [mu_is Hsa (some 91) 3]) rfl (show mu_is Hsa (some 91) 3 from (ua.1.1.is rfl)) ?_
    rw [(ua.1.2.1)]
    refine mw_go mu_g188 (k := 1) (f1 := (51, [(3, .inl (nI (od k))), (1, .inl l), (2, .inl (nI k)), (0, .inr (.inr (some 91)))], [.inr (.inr (mu_r Hsa m 13)), .inl (nI (enx W (od k) 0)), .inr (.inr (some 91))], Hsa)) (C := [mu_is Hsa (some m) 6]) rfl (show mu_is Hsa (some m) 6 from (show mu_is Hsa (some m) 6 from gi_im ua.1.1 ua.2)) ?_
    rw [(show mu_r Hsa m 13 = some (m + 27) from (gi_mr ua.1.1 ua.2 (j := 13) (by decide)).trans (congrArg some (by omega)))]
    refine mw_go mu_g188 (k := 2) (f1 := (53, [(3, .inl (nI (od k))), (1, .inl l), (2, .inl (nI k)), (0, .inr (.inr (some 91)))], [.inl (1 : Int32), .inl (nI (od k)), .inr (.inr (some (m + 27))), .inl (nI (enx W (od k) 0)), .inr (.inr (some 91))], Hsa)) (C := []) rfl trivial ?_
    refine mw_cIe (fun _ => rfl) (show mu_is Hsa (some (m + 27)) 10 from ((ua.1.1.w (md_w13 ua.2)).1)) (dm.getr (d := (d + 3)) (dn.dm ua) rfl (j := 13) (by decide) rfl (nI (od k)) (c := 1) (by decide)) ?_
    rw [show (tget (ak m Hsa 13) (nI (od k)) 1) = (nI (enx W (od k) 0 + elx W (od k))) from ((tget_nI (by omega)).trans (((hj.jy hta h.2).2.2 (od k) 1 (by decide)).trans ek.2.1))]
    refine mw_go mu_g188 (k := 2) (f1 := (60, [(3, .inl (nI (od k))), (1, .inl l), (2, .inl (nI k)), (0, .inr (.inr (some 91)))], [.inr (.inr (mu_r Hsa 91 3)), .inl (nI (enx W (od k) 0 + elx W (od k))), .inl (nI (enx W (od k) 0)), .inr (.inr (some 91))], Hsa)) (C := [mu_is Hsa (some 91) 3]) rfl (show mu_is Hsa (some 91) 3 from (ua.1.1.is rfl)) ?_
    rw [(ua.1.2.1)]
    refine mw_go mu_g188 (k := 1) (f1 := (63, [(3, .inl (nI (od k))), (1, .inl l), (2, .inl (nI k)), (0, .inr (.inr (some 91)))], [.inr (.inr (mu_r Hsa m 13)), .inl (nI (enx W (od k) 0 + elx W (od k))), .inl (nI (enx W (od k) 0)), .inr (.inr (some 91))], Hsa)) (C := [mu_is Hsa (some m) 6]) rfl (show mu_is Hsa (some m) 6 from (show mu_is Hsa (some m) 6 from gi_im ua.1.1 ua.2)) ?_
    rw [(show mu_r Hsa m 13 = some (m + 27) from (gi_mr ua.1.1 ua.2 (j := 13) (by decide)).trans (congrArg some (by omega)))]
    refine mw_go mu_g188 (k := 2) (f1 := (65, [(3, .inl (nI (od k))), (1, .inl l), (2, .inl (nI k)), (0, .inr (.inr (some 91)))], [.inl (2 : Int32), .inl (nI (od k)), .inr (.inr (some (m + 27))), .inl (nI (enx W (od k) 0 + elx W (od k))), .inl (nI (enx W (od k) 0)), .inr (.inr (some 91))], Hsa)) (C := []) rfl trivial ?_
    refine mw_cIe (fun _ => rfl) (show mu_is Hsa (some (m + 27)) 10 from ((ua.1.1.w (md_w13 ua.2)).1)) (dm.getr (d := (d + 3)) (dn.dm ua) rfl (j := 13) (by decide) rfl (nI (od k)) (c := 2) (by decide)) ?_
    rw [show (tget (ak m Hsa 13) (nI (od k)) 2) = (nI (enx W (od k) 2)) from ((tget_nI (by omega)).trans (((hj.jy hta h.2).2.2 (od k) 2 (by decide)).trans ek.2.2.1))]
    refine mw_cI (fun _ => rfl) (show mu_is Hsa (some 91) 3 from (ua.1.1.is rfl)) (jg_height3 (d := d) (W := W) (i := enx W (od k) 2) (a := enx W (od k) 0) (N := elx W (od k)) (kd := false) (eh := eh) (B := 14001 * k) ua (hj.jy hta h.2) hW ek.2.2.2.1 ek.2.2.2.2 (by rw [hta.len h.1.1]; exact hN) (fun n e h1 h2 h3 => by obtain ⟨k2, z1, z2⟩ := hord.2 k (by omega) (enx W (od k) 0 + n) e ⟨Nat.le_add_right _ _, (by unfold elx at h1; omega), h2, h3⟩; rw [← z2]; exact ⟨hh k2 z1, heb _⟩) (by omega)) (fun x6 Q6 q6 => ?_)
    obtain ⟨u6, r6, k6⟩ := q6
    have ht6 : jy m H Q6 := hta.trans (r6.jy ⟨ua.1.1, ua.2, ua.1.2.1⟩)
    have a6 : ak m Q6 = ak m Hsa := r6.ak h.2
    have d6 : ak m Q6 = ak m Q6 := rfl
    have hv6 := hgz_b (W := W) (lh := hglh W eh (enx W (od k) 2)) (ch := hgch W) (a := enx W (od k) 0) (B := 14001 * k) (fun q => hglh_b heb q) (elx W (od k)) 0
    refine mw_go mu_g188 (k := 3) (f1 := (77, [(4, .inl x6), (3, .inl (nI (od k))), (1, .inl l), (2, .inl (nI k)), (0, .inr (.inr (some 91)))], [.inr (.inr (mu_r Q6 91 3))], Q6)) (C := [mu_is Q6 (some 91) 3]) rfl (show mu_is Q6 (some 91) 3 from (u6.1.1.is rfl)) ?_
    rw [(u6.1.2.1)]
    refine mw_go mu_g188 (k := 1) (f1 := (80, [(4, .inl x6), (3, .inl (nI (od k))), (1, .inl l), (2, .inl (nI k)), (0, .inr (.inr (some 91)))], [.inr (.inr (mu_r Q6 m 13))], Q6)) (C := [mu_is Q6 (some m) 6]) rfl (show mu_is Q6 (some m) 6 from (show mu_is Q6 (some m) 6 from gi_im u6.1.1 u6.2)) ?_
    rw [(show mu_r Q6 m 13 = some (m + 27) from (gi_mr u6.1.1 u6.2 (j := 13) (by decide)).trans (congrArg some (by omega)))]
    refine mw_go mu_g188 (k := 3) (f1 := (84, [(4, .inl x6), (3, .inl (nI (od k))), (1, .inl l), (2, .inl (nI k)), (0, .inr (.inr (some 91)))], [.inl x6, .inl (3 : Int32), .inl (nI (od k)), .inr (.inr (some (m + 27)))], Q6)) (C := []) rfl trivial ?_
    refine mw_cV (fun _ => rfl) (show mu_is Q6 (some (m + 27)) 10 from ((u6.1.1.w (md_w13 u6.2)).1)) (dn.set133 (d := (d + 3)) u6 (nI (od k)) x6) (fun Q7 q7 => ?_)
    obtain ⟨u7, r7, k7⟩ := q7
    have ht7 : jy m H Q7 := ht6.trans r7
    have d7 : ak m Q7 = ak m Q7 := rfl
    have he7 : ∀ e, (ak m Q7 13).2 e 3 = if e = od k then x6 else (ak m Hsa 13).2 e 3 := fun e => by rw [k7, ← a6]; exact es_set3 (by rw [(hj.jy ht6 h.2).2.1]; exact hok.2) (by omega)
    refine mw_go mu_g188 (k := 3) (f1 := (92, [(4, .inl x6), (3, .inl (nI (od k))), (1, .inl l), (2, .inl (nI k)), (0, .inr (.inr (some 91)))], [.inl (120 : Int32), .inl x6, .inl l], Q7)) (C := []) rfl trivial ?_
    refine mw_if (P := (120 : Int32) < x6) (a := 99) (b := 95) (fun _ => rfl) trivial (fun h8 => ?_) (fun h8 => ?_)
    · -- 99: (120 : Int32) < x6
      refine mw_go mu_g188 (k := 4) (f1 := (105, [(2, .inl ((nI k) + 1)), (1, .inl (l &&& (0 : Int32))), (4, .inl x6), (3, .inl (nI (od k))), (0, .inr (.inr (some 91)))], [], Q7)) (C := []) rfl trivial ?_
      rw [(show ((nI k) + 1) = (nI (k + 1)) from (nI_add k 1))]
      refine mw_go mu_g188 (k := 1) (f1 := (4, [(2, .inl (nI (k + 1))), (1, .inl (l &&& (0 : Int32))), (4, .inl x6), (3, .inl (nI (od k))), (0, .inr (.inr (some 91)))], [], Q7)) (C := []) rfl trivial ?_
      exact mw_sub (by simp) (iha ((l &&& (0 : Int32)), k + 1, Q7) ⟨u7, ht7, (show (l &&& (0 : Int32)) = 0 ∨ (l &&& (0 : Int32)) = 1 from (fl0 hl)), (show (k + 1) ≤ (W 13).1 from (by omega)), (show ∃ eh : Nat → Nat, (∀ e, eh e ≤ 14001 * (k + 1)) ∧ ∀ q, q < (k + 1) → (ak m Q7 13).2 (od q) 3 = nI (eh (od q)) from (low_next heb hh he7 k6 (by omega) (by omega) (fun q hq => hord.1.2.2.1 q k hq (by omega))))⟩ (by show (W 13).1 - (k + 1) < (W 13).1 - k; omega))
    · -- 95: not (120 : Int32) < x6
      refine mw_go mu_g188 (k := 5) (f1 := (105, [(2, .inl ((nI k) + 1)), (1, .inl (l &&& (1 : Int32))), (4, .inl x6), (3, .inl (nI (od k))), (0, .inr (.inr (some 91)))], [], Q7)) (C := []) rfl trivial ?_
      rw [(show ((nI k) + 1) = (nI (k + 1)) from (nI_add k 1))]
      refine mw_go mu_g188 (k := 1) (f1 := (4, [(2, .inl (nI (k + 1))), (1, .inl (l &&& (1 : Int32))), (4, .inl x6), (3, .inl (nI (od k))), (0, .inr (.inr (some 91)))], [], Q7)) (C := []) rfl trivial ?_
      exact mw_sub (by simp) (iha ((l &&& (1 : Int32)), k + 1, Q7) ⟨u7, ht7, (show (l &&& (1 : Int32)) = 0 ∨ (l &&& (1 : Int32)) = 1 from (fl1 hl)), (show (k + 1) ≤ (W 13).1 from (by omega)), (show ∃ eh : Nat → Nat, (∀ e, eh e ≤ 14001 * (k + 1)) ∧ ∀ q, q < (k + 1) → (ak m Q7 13).2 (od q) 3 = nI (eh (od q)) from (low_next heb hh he7 k6 (by omega) (by omega) (fun q hq => hord.1.2.2.1 q k hq (by omega))))⟩ (by show (W 13).1 - (k + 1) < (W 13).1 - k; omega))
  · -- 108: not (nI k) < (nI (W 13).1)
    have nh1 : ¬ k < ((W 13).1) := fun z => h1 (show nI k < nI ((W 13).1) from (nI_ltI (by omega) (by omega)).mpr z)
    obtain ⟨eh, heb, hh⟩ := hH
    have heb : ∀ e, eh e ≤ 14001 * (W 13).1 := fun e => by have := heb e; rw [show (W 13).1 = k by omega]; exact this
    have hh : ∀ e, e < (W 13).1 → (ak m Hsa 13).2 e 3 = nI (eh e) := fun e he => by obtain ⟨q, q1, q2⟩ := hord.1.2.2.2 e he; rw [← q2]; exact hh q (by omega)
    refine mw_go mu_g188 (k := 2) (f1 := (110, [(2, .inl (0 : Int32)), (1, .inl l), (0, .inr (.inr (some 91)))], [], Hsa)) (C := []) rfl trivial ?_
    show mu_W _ _ (110, [(2, .inl (nI 0)), (1, .inl l), (0, .inr (.inr (some 91)))], [], Hsa) _
    refine mw_sub (L' := [(1, .inl l), (2, .inl (nI 0)), (0, .inr (.inr (some 91)))]) (by simp) ?_
    refine mw_down (α := Int32 × Nat × mu_H) (fun zs => (110, [(1, .inl zs.1), (2, .inl (nI zs.2.1)), (0, .inr (.inr (some 91)))], [], zs.2.2)) (fun zs => (W 11).1 - zs.2.1) (fun zs => dn m zs.2.2 ∧ jy m H zs.2.2 ∧ (zs.1 = 0 ∨ zs.1 = 1) ∧ (zs.2.1 ≤ (W 11).1) ∧ (∀ e, e < (W 13).1 → (ak m zs.2.2 13).2 e 3 = nI (eh e)) ∧ (zs.1 = 1 → ∀ q, q < zs.2.1 → ∀ c, sp W (im W q) 5 ≤ c → c < sp W (im W q + 1) 5 → LWC W eh q c)) (fun zs hzb ihb => ?_) (l, 0, Hsa) ⟨ua, hta, (show l = 0 ∨ l = 1 from hl), (show 0 ≤ (W 11).1 from (by omega)), (show ∀ e, e < (W 13).1 → (ak m Hsa 13).2 e 3 = nI (eh e) from hh), (show l = 1 → ∀ q, q < 0 → ∀ c, sp W (im W q) 5 ≤ c → c < sp W (im W q + 1) 5 → LWC W eh q c from (fun _ q hq => absurd hq (Nat.not_lt_zero _)))⟩
    obtain ⟨l2, i, Hsb⟩ := zs
    obtain ⟨ub, htb, hl2, hi2, hE, hK2⟩ := hzb
    have ub : dn m Hsb := ub
    have htb : jy m H Hsb := htb
    have hl2 : l2 = 0 ∨ l2 = 1 := hl2
    have hi2 : i ≤ (W 11).1 := hi2
    have hE : ∀ e, e < (W 13).1 → (ak m Hsb 13).2 e 3 = nI (eh e) := hE
    have hK2 : l2 = 1 → ∀ q, q < i → ∀ c, sp W (im W q) 5 ≤ c → c < sp W (im W q + 1) 5 → LWC W eh q c := hK2
    show mu_W _ _ (110, [(1, .inl l2), (2, .inl (nI i)), (0, .inr (.inr (some 91)))], [], Hsb) _
    refine mw_go mu_g188 (k := 3) (f1 := (115, [(1, .inl l2), (2, .inl (nI i)), (0, .inr (.inr (some 91)))], [.inr (.inr (mu_r Hsb 91 3)), .inl (nI i)], Hsb)) (C := [mu_is Hsb (some 91) 3]) rfl (show mu_is Hsb (some 91) 3 from (ub.1.1.is rfl)) ?_
    rw [(ub.1.2.1)]
    refine mw_go mu_g188 (k := 1) (f1 := (118, [(1, .inl l2), (2, .inl (nI i)), (0, .inr (.inr (some 91)))], [.inr (.inr (mu_r Hsb m 11)), .inl (nI i)], Hsb)) (C := [mu_is Hsb (some m) 6]) rfl (show mu_is Hsb (some m) 6 from (show mu_is Hsb (some m) 6 from gi_im ub.1.1 ub.2)) ?_
    rw [(show mu_r Hsb m 11 = some (m + 23) from (gi_mr ub.1.1 ub.2 (j := 11) (by decide)).trans (congrArg some (by omega)))]
    refine mw_go mu_g188 (k := 1) (f1 := (121, [(1, .inl l2), (2, .inl (nI i)), (0, .inr (.inr (some 91)))], [.inl (mu_i Hsb (m + 23) 2), .inl (nI i)], Hsb)) (C := [mu_is Hsb (some (m + 23)) 10]) rfl (show mu_is Hsb (some (m + 23)) 10 from ((ub.1.1.w (md_w11 ub.2)).1)) ?_
    rw [(show mu_i Hsb (m + 23) 2 = nI (W 11).1 from (dm.size (dn.dm ub) rfl (j := 11) (by decide)).trans (congrArg nI (by rw [(hj.jy htb h.2).1 11 (by decide) (by decide) (by decide)])))]
    refine mw_if (P := (nI i) < (nI (W 11).1)) (a := 124) (b := 313) (fun _ => rfl) trivial (fun h9 => ?_) (fun h9 => ?_)
    · -- 124: (nI i) < (nI (W 11).1)
      have nh9 : i < ((W 11).1) := (nI_ltI (by omega) (by omega)).mp (show nI i < nI ((W 11).1) from h9)
      obtain ⟨-, -, -, hkM, -⟩ := hW.inst (show i < (W 11).1 by omega)
      obtain ⟨l51, l52, l53⟩ := hW.le hkM (c := 5) (j := 8) (by decide) (by decide) rfl
      obtain ⟨l41, l42, l43⟩ := hW.le hkM (c := 4) (j := 7) (by decide) (by decide) rfl
      refine mw_go mu_g188 (k := 2) (f1 := (128, [(1, .inl l2), (2, .inl (nI i)), (0, .inr (.inr (some 91)))], [.inr (.inr (mu_r Hsb 91 3))], Hsb)) (C := [mu_is Hsb (some 91) 3]) rfl (show mu_is Hsb (some 91) 3 from (ub.1.1.is rfl)) ?_
      rw [(ub.1.2.1)]
      refine mw_go mu_g188 (k := 1) (f1 := (131, [(1, .inl l2), (2, .inl (nI i)), (0, .inr (.inr (some 91)))], [.inr (.inr (mu_r Hsb m 11))], Hsb)) (C := [mu_is Hsb (some m) 6]) rfl (show mu_is Hsb (some m) 6 from (show mu_is Hsb (some m) 6 from gi_im ub.1.1 ub.2)) ?_
      rw [(show mu_r Hsb m 11 = some (m + 23) from (gi_mr ub.1.1 ub.2 (j := 11) (by decide)).trans (congrArg some (by omega)))]
      refine mw_go mu_g188 (k := 2) (f1 := (133, [(1, .inl l2), (2, .inl (nI i)), (0, .inr (.inr (some 91)))], [.inl (0 : Int32), .inl (nI i), .inr (.inr (some (m + 23)))], Hsb)) (C := []) rfl trivial ?_
      refine mw_cIe (fun _ => rfl) (show mu_is Hsb (some (m + 23)) 10 from ((ub.1.1.w (md_w11 ub.2)).1)) (dm.getr (d := (d + 3)) (dn.dm ub) rfl (j := 11) (by decide) rfl (nI i) (c := 0) (by decide)) ?_
      rw [show (tget (ak m Hsb 11) (nI i) 0) = (nI (im W i)) from ((tget_nI (by omega)).trans (by rw [(hj.jy htb h.2).1 11 (by decide) (by decide) (by decide)]; exact (hW.1 i (by omega)).1.1))]
      refine mw_go mu_g188 (k := 3) (f1 := (141, [(3, .inl (nI (im W i))), (1, .inl l2), (2, .inl (nI i)), (0, .inr (.inr (some 91)))], [.inr (.inr (mu_r Hsb 91 3))], Hsb)) (C := [mu_is Hsb (some 91) 3]) rfl (show mu_is Hsb (some 91) 3 from (ub.1.1.is rfl)) ?_
      rw [(ub.1.2.1)]
      refine mw_go mu_g188 (k := 1) (f1 := (144, [(3, .inl (nI (im W i))), (1, .inl l2), (2, .inl (nI i)), (0, .inr (.inr (some 91)))], [.inr (.inr (mu_r Hsb m 1))], Hsb)) (C := [mu_is Hsb (some m) 6]) rfl (show mu_is Hsb (some m) 6 from (show mu_is Hsb (some m) 6 from gi_im ub.1.1 ub.2)) ?_
      rw [(show mu_r Hsb m 1 = some (m + 3) from (gi_mr ub.1.1 ub.2 (j := 1) (by decide)).trans (congrArg some (by omega)))]
      refine mw_go mu_g188 (k := 2) (f1 := (146, [(3, .inl (nI (im W i))), (1, .inl l2), (2, .inl (nI i)), (0, .inr (.inr (some 91)))], [.inl (5 : Int32), .inl (nI (im W i)), .inr (.inr (some (m + 3)))], Hsb)) (C := []) rfl trivial ?_
      refine mw_cIe (fun _ => rfl) (show mu_is Hsb (some (m + 3)) 10 from ((ub.1.1.w (md_w1 ub.2)).1)) (dm.getr (d := (d + 3)) (dn.dm ub) rfl (j := 1) (by decide) rfl (nI (im W i)) (c := 5) (by decide)) ?_
      rw [show (tget (ak m Hsb 1) (nI (im W i)) 5) = (nI (sp W (im W i) 5)) from ((tget_nI (by omega)).trans (by rw [(hj.jy htb h.2).1 1 (by decide) (by decide) (by decide)]; exact (hW.2.2.2.2.2.1.1 _ hkM 5 (by decide) (by decide)).1))]
      refine mw_go mu_g188 (k := 1) (f1 := (151, [(4, .inl (nI (sp W (im W i) 5))), (3, .inl (nI (im W i))), (1, .inl l2), (2, .inl (nI i)), (0, .inr (.inr (some 91)))], [], Hsb)) (C := []) rfl trivial ?_
      refine mw_sub (L' := [(1, .inl l2), (4, .inl (nI (sp W (im W i) 5))), (0, .inr (.inr (some 91))), (2, .inl (nI i)), (3, .inl (nI (im W i)))]) (by simp) ?_
      refine mw_down (α := Int32 × Nat × mu_H) (fun zs => (151, [(1, .inl zs.1), (4, .inl (nI zs.2.1)), (0, .inr (.inr (some 91))), (2, .inl (nI i)), (3, .inl (nI (im W i)))], [], zs.2.2)) (fun zs => sp W (im W i + 1) 5 - zs.2.1) (fun zs => dn m zs.2.2 ∧ jy m H zs.2.2 ∧ (zs.1 = 0 ∨ zs.1 = 1) ∧ (sp W (im W i) 5 ≤ zs.2.1) ∧ (zs.2.1 ≤ sp W (im W i + 1) 5) ∧ (∀ e, e < (W 13).1 → (ak m zs.2.2 13).2 e 3 = nI (eh e)) ∧ (zs.1 = 1 → (∀ q, q < i → ∀ y, sp W (im W q) 5 ≤ y → y < sp W (im W q + 1) 5 → LWC W eh q y) ∧ ∀ y, sp W (im W i) 5 ≤ y → y < zs.2.1 → LWC W eh i y)) (fun zs hzc ihc => ?_) (l2, sp W (im W i) 5, Hsb) ⟨ub, htb, (show l2 = 0 ∨ l2 = 1 from hl2), (show sp W (im W i) 5 ≤ (sp W (im W i) 5) from (by omega)), (show (sp W (im W i) 5) ≤ sp W (im W i + 1) 5 from (by omega)), (show ∀ e, e < (W 13).1 → (ak m Hsb 13).2 e 3 = nI (eh e) from hE), (show l2 = 1 → (∀ q, q < i → ∀ y, sp W (im W q) 5 ≤ y → y < sp W (im W q + 1) 5 → LWC W eh q y) ∧ ∀ y, sp W (im W i) 5 ≤ y → y < (sp W (im W i) 5) → LWC W eh i y from (fun z => ⟨hK2 z, fun y h1 h2 => by omega⟩))⟩
      obtain ⟨l3, c, Hsc⟩ := zs
      obtain ⟨uc, htc, hl3, hc1, hc2, hE3, hK3⟩ := hzc
      have uc : dn m Hsc := uc
      have htc : jy m H Hsc := htc
      have hl3 : l3 = 0 ∨ l3 = 1 := hl3
      have hc1 : sp W (im W i) 5 ≤ c := hc1
      have hc2 : c ≤ sp W (im W i + 1) 5 := hc2
      have hE3 : ∀ e, e < (W 13).1 → (ak m Hsc 13).2 e 3 = nI (eh e) := hE3
      have hK3 : l3 = 1 → (∀ q, q < i → ∀ y, sp W (im W q) 5 ≤ y → y < sp W (im W q + 1) 5 → LWC W eh q y) ∧ ∀ y, sp W (im W i) 5 ≤ y → y < c → LWC W eh i y := hK3
      show mu_W _ _ (151, [(1, .inl l3), (4, .inl (nI c)), (0, .inr (.inr (some 91))), (2, .inl (nI i)), (3, .inl (nI (im W i)))], [], Hsc) _
      refine mw_go mu_g188 (k := 3) (f1 := (157, [(1, .inl l3), (4, .inl (nI c)), (0, .inr (.inr (some 91))), (2, .inl (nI i)), (3, .inl (nI (im W i)))], [.inr (.inr (mu_r Hsc 91 3)), .inl (nI c)], Hsc)) (C := [mu_is Hsc (some 91) 3]) rfl (show mu_is Hsc (some 91) 3 from (uc.1.1.is rfl)) ?_
      rw [(uc.1.2.1)]
      refine mw_go mu_g188 (k := 4) (f1 := (163, [(1, .inl l3), (4, .inl (nI c)), (0, .inr (.inr (some 91))), (2, .inl (nI i)), (3, .inl (nI (im W i)))], [.inr (.inr (mu_r Hsc 91 3)), .inl (5 : Int32), .inl (nI (im W i)), .inr (.inr (some m)), .inl (nI c)], Hsc)) (C := [mu_is Hsc (some 91) 3]) rfl (show mu_is Hsc (some 91) 3 from (uc.1.1.is rfl)) ?_
      rw [(uc.1.2.1)]
      refine mw_go mu_g188 (k := 1) (f1 := (166, [(1, .inl l3), (4, .inl (nI c)), (0, .inr (.inr (some 91))), (2, .inl (nI i)), (3, .inl (nI (im W i)))], [.inr (.inr (mu_r Hsc m 8)), .inl (5 : Int32), .inl (nI (im W i)), .inr (.inr (some m)), .inl (nI c)], Hsc)) (C := [mu_is Hsc (some m) 6]) rfl (show mu_is Hsc (some m) 6 from (show mu_is Hsc (some m) 6 from gi_im uc.1.1 uc.2)) ?_
      rw [(show mu_r Hsc m 8 = some (m + 17) from (gi_mr uc.1.1 uc.2 (j := 8) (by decide)).trans (congrArg some (by omega)))]
      refine mw_cIe (fun _ => rfl) (show mu_is Hsc (some m) 6 from (show mu_is Hsc (some m) 6 from gi_im uc.1.1 uc.2)) (dm.stopr (d := (d + 2)) (dn.dm uc) rfl (j := 8) (by decide) rfl (c := 5) (by decide) (nI (im W i))) ?_
      rw [show stp (ak m Hsc) (nI (im W i)) 5 8 = nI (sp W (im W i + 1) 5) from stp_w (hj.jy htc h.2) hW hkM (by decide) (by decide) rfl (by decide)]
      refine mw_if (P := (nI c) < (nI (sp W (im W i + 1) 5))) (a := 172) (b := 222) (fun _ => rfl) trivial (fun h13 => ?_) (fun h13 => ?_)
      · -- 172: (nI c) < (nI (sp W (im W i + 1) 5))
        have nh13 : c < (sp W (im W i + 1) 5) := (nI_ltI (by omega) (by omega)).mp (show nI c < nI (sp W (im W i + 1) 5) from h13)
        obtain ⟨a, b0_, ea1, eb0, hrg0⟩ := hC5 (im W i) hkM c hc1 (by omega)
        obtain ⟨N, hNe⟩ : ∃ N, b0_ = a + N := ⟨b0_ - a, by have := hrg0.1; omega⟩
        have hrg := hrg0
        rw [hNe] at hrg
        have eb1 := eb0
        rw [hNe] at eb1
        have hgl := hrg.2.1
        refine mw_go mu_g188 (k := 4) (f1 := (178, [(1, .inl l3), (4, .inl (nI c)), (0, .inr (.inr (some 91))), (2, .inl (nI i)), (3, .inl (nI (im W i)))], [.inr (.inr (mu_r Hsc 91 3)), .inr (.inr (some 91)), .inl l3], Hsc)) (C := [mu_is Hsc (some 91) 3]) rfl (show mu_is Hsc (some 91) 3 from (uc.1.1.is rfl)) ?_
        rw [(uc.1.2.1)]
        refine mw_go mu_g188 (k := 1) (f1 := (181, [(1, .inl l3), (4, .inl (nI c)), (0, .inr (.inr (some 91))), (2, .inl (nI i)), (3, .inl (nI (im W i)))], [.inr (.inr (mu_r Hsc m 8)), .inr (.inr (some 91)), .inl l3], Hsc)) (C := [mu_is Hsc (some m) 6]) rfl (show mu_is Hsc (some m) 6 from (show mu_is Hsc (some m) 6 from gi_im uc.1.1 uc.2)) ?_
        rw [(show mu_r Hsc m 8 = some (m + 17) from (gi_mr uc.1.1 uc.2 (j := 8) (by decide)).trans (congrArg some (by omega)))]
        refine mw_go mu_g188 (k := 2) (f1 := (184, [(1, .inl l3), (4, .inl (nI c)), (0, .inr (.inr (some 91))), (2, .inl (nI i)), (3, .inl (nI (im W i)))], [.inl (1 : Int32), .inl (nI c), .inr (.inr (some (m + 17))), .inr (.inr (some 91)), .inl l3], Hsc)) (C := []) rfl trivial ?_
        refine mw_cIe (fun _ => rfl) (show mu_is Hsc (some (m + 17)) 10 from ((uc.1.1.w (md_w8 uc.2)).1)) (dm.getr (d := (d + 3)) (dn.dm uc) rfl (j := 8) (by decide) rfl (nI c) (c := 1) (by decide)) ?_
        rw [show (tget (ak m Hsc 8) (nI c) 1) = (nI a) from ((tget_nI (by omega)).trans (by rw [(hj.jy htc h.2).1 8 (by decide) (by decide) (by decide)]; exact ea1))]
        refine mw_go mu_g188 (k := 2) (f1 := (191, [(1, .inl l3), (4, .inl (nI c)), (0, .inr (.inr (some 91))), (2, .inl (nI i)), (3, .inl (nI (im W i)))], [.inr (.inr (mu_r Hsc 91 3)), .inl (nI a), .inr (.inr (some 91)), .inl l3], Hsc)) (C := [mu_is Hsc (some 91) 3]) rfl (show mu_is Hsc (some 91) 3 from (uc.1.1.is rfl)) ?_
        rw [(uc.1.2.1)]
        refine mw_go mu_g188 (k := 1) (f1 := (194, [(1, .inl l3), (4, .inl (nI c)), (0, .inr (.inr (some 91))), (2, .inl (nI i)), (3, .inl (nI (im W i)))], [.inr (.inr (mu_r Hsc m 8)), .inl (nI a), .inr (.inr (some 91)), .inl l3], Hsc)) (C := [mu_is Hsc (some m) 6]) rfl (show mu_is Hsc (some m) 6 from (show mu_is Hsc (some m) 6 from gi_im uc.1.1 uc.2)) ?_
        rw [(show mu_r Hsc m 8 = some (m + 17) from (gi_mr uc.1.1 uc.2 (j := 8) (by decide)).trans (congrArg some (by omega)))]
        refine mw_go mu_g188 (k := 2) (f1 := (197, [(1, .inl l3), (4, .inl (nI c)), (0, .inr (.inr (some 91))), (2, .inl (nI i)), (3, .inl (nI (im W i)))], [.inl (2 : Int32), .inl (nI c), .inr (.inr (some (m + 17))), .inl (nI a), .inr (.inr (some 91)), .inl l3], Hsc)) (C := []) rfl trivial ?_
        refine mw_cIe (fun _ => rfl) (show mu_is Hsc (some (m + 17)) 10 from ((uc.1.1.w (md_w8 uc.2)).1)) (dm.getr (d := (d + 3)) (dn.dm uc) rfl (j := 8) (by decide) rfl (nI c) (c := 2) (by decide)) ?_
        rw [show (tget (ak m Hsc 8) (nI c) 2) = (nI (a + N)) from ((tget_nI (by omega)).trans (by rw [(hj.jy htc h.2).1 8 (by decide) (by decide) (by decide)]; exact eb1))]
        refine mw_go mu_g188 (k := 1) (f1 := (201, [(1, .inl l3), (4, .inl (nI c)), (0, .inr (.inr (some 91))), (2, .inl (nI i)), (3, .inl (nI (im W i)))], [.inl (nI i), .inl (nI (a + N)), .inl (nI a), .inr (.inr (some 91)), .inl l3], Hsc)) (C := []) rfl trivial ?_
        refine mw_cI (fun _ => rfl) (show mu_is Hsc (some 91) 3 from (uc.1.1.is rfl)) (jg_height3 (d := d) (W := W) (i := i) (a := a) (N := N) (kd := false) (eh := eh) (B := (14001 * (W 13).1)) uc (hj.jy htc h.2) hW (by omega) hrg (by rw [htc.len h.1.1]; exact hN) (fun n e _ h2 _ => ⟨hE3 e h2, heb e⟩) (by omega)) (fun x16 Q16 q16 => ?_)
        obtain ⟨u16, r16, k16⟩ := q16
        have ht16 : jy m H Q16 := htc.trans (r16.jy ⟨uc.1.1, uc.2, uc.1.2.1⟩)
        have a16 : ak m Q16 = ak m Hsc := r16.ak h.2
        have d16 : ak m Q16 = ak m Q16 := rfl
        have hv16 := hgz_b (W := W) (lh := hglh W eh (i)) (ch := hgch W) (a := a) (B := (14001 * (W 13).1)) (fun q => hglh_b heb q) (N) 0
        refine mw_go mu_g188 (k := 1) (f1 := (206, [(1, .inl l3), (4, .inl (nI c)), (0, .inr (.inr (some 91))), (2, .inl (nI i)), (3, .inl (nI (im W i)))], [.inl (120 : Int32), .inl x16, .inl l3], Q16)) (C := []) rfl trivial ?_
        refine mw_if (P := (120 : Int32) < x16) (a := 213) (b := 209) (fun _ => rfl) trivial (fun h17 => ?_) (fun h17 => ?_)
        · -- 213: (120 : Int32) < x16
          refine mw_go mu_g188 (k := 4) (f1 := (219, [(4, .inl ((nI c) + 1)), (1, .inl (l3 &&& (0 : Int32))), (0, .inr (.inr (some 91))), (2, .inl (nI i)), (3, .inl (nI (im W i)))], [], Q16)) (C := []) rfl trivial ?_
          rw [(show ((nI c) + 1) = (nI (c + 1)) from (nI_add c 1))]
          refine mw_go mu_g188 (k := 1) (f1 := (151, [(4, .inl (nI (c + 1))), (1, .inl (l3 &&& (0 : Int32))), (0, .inr (.inr (some 91))), (2, .inl (nI i)), (3, .inl (nI (im W i)))], [], Q16)) (C := []) rfl trivial ?_
          exact mw_sub (by simp) (ihc ((l3 &&& (0 : Int32)), c + 1, Q16) ⟨u16, ht16, (show (l3 &&& (0 : Int32)) = 0 ∨ (l3 &&& (0 : Int32)) = 1 from (fl0 hl3)), (show sp W (im W i) 5 ≤ (c + 1) from (by omega)), (show (c + 1) ≤ sp W (im W i + 1) 5 from (by omega)), (show ∀ e, e < (W 13).1 → (ak m Q16 13).2 e 3 = nI (eh e) from (fun e he => by rw [a16]; exact hE3 e he)), (show (l3 &&& (0 : Int32)) = 1 → (∀ q, q < i → ∀ y, sp W (im W q) 5 ≤ y → y < sp W (im W q + 1) 5 → LWC W eh q y) ∧ ∀ y, sp W (im W i) 5 ≤ y → y < (c + 1) → LWC W eh i y from (fun z => (of0 hl3 z).elim))⟩ (by show sp W (im W i + 1) 5 - (c + 1) < sp W (im W i + 1) 5 - c; omega))
        · -- 209: not (120 : Int32) < x16
          refine mw_go mu_g188 (k := 5) (f1 := (219, [(4, .inl ((nI c) + 1)), (1, .inl (l3 &&& (1 : Int32))), (0, .inr (.inr (some 91))), (2, .inl (nI i)), (3, .inl (nI (im W i)))], [], Q16)) (C := []) rfl trivial ?_
          rw [(show ((nI c) + 1) = (nI (c + 1)) from (nI_add c 1))]
          refine mw_go mu_g188 (k := 1) (f1 := (151, [(4, .inl (nI (c + 1))), (1, .inl (l3 &&& (1 : Int32))), (0, .inr (.inr (some 91))), (2, .inl (nI i)), (3, .inl (nI (im W i)))], [], Q16)) (C := []) rfl trivial ?_
          exact mw_sub (by simp) (ihc ((l3 &&& (1 : Int32)), c + 1, Q16) ⟨u16, ht16, (show (l3 &&& (1 : Int32)) = 0 ∨ (l3 &&& (1 : Int32)) = 1 from (fl1 hl3)), (show sp W (im W i) 5 ≤ (c + 1) from (by omega)), (show (c + 1) ≤ sp W (im W i + 1) 5 from (by omega)), (show ∀ e, e < (W 13).1 → (ak m Q16 13).2 e 3 = nI (eh e) from (fun e he => by rw [a16]; exact hE3 e he)), (show (l3 &&& (1 : Int32)) = 1 → (∀ q, q < i → ∀ y, sp W (im W q) 5 ≤ y → y < sp W (im W q + 1) 5 → LWC W eh q y) ∧ ∀ y, sp W (im W i) 5 ≤ y → y < (c + 1) → LWC W eh i y from (fun z => ⟨(hK3 (of1 hl3 z)).1, fun y h1 h2 => by by_cases ey : y = c; (rw [ey]; exact ⟨a, N, ea1, eb1, low_of k16 (by omega) h17⟩); exact (hK3 (of1 hl3 z)).2 y h1 (by omega)⟩))⟩ (by show sp W (im W i + 1) 5 - (c + 1) < sp W (im W i + 1) 5 - c; omega))
      · -- 222: not (nI c) < (nI (sp W (im W i + 1) 5))
        have nh13 : ¬ c < (sp W (im W i + 1) 5) := fun z => h13 (show nI c < nI (sp W (im W i + 1) 5) from (nI_ltI (by omega) (by omega)).mpr z)
        refine mw_go mu_g188 (k := 2) (f1 := (226, [(1, .inl l3), (4, .inl (nI c)), (0, .inr (.inr (some 91))), (2, .inl (nI i)), (3, .inl (nI (im W i)))], [.inr (.inr (mu_r Hsc 91 3))], Hsc)) (C := [mu_is Hsc (some 91) 3]) rfl (show mu_is Hsc (some 91) 3 from (uc.1.1.is rfl)) ?_
        rw [(uc.1.2.1)]
        refine mw_go mu_g188 (k := 1) (f1 := (229, [(1, .inl l3), (4, .inl (nI c)), (0, .inr (.inr (some 91))), (2, .inl (nI i)), (3, .inl (nI (im W i)))], [.inr (.inr (mu_r Hsc m 1))], Hsc)) (C := [mu_is Hsc (some m) 6]) rfl (show mu_is Hsc (some m) 6 from (show mu_is Hsc (some m) 6 from gi_im uc.1.1 uc.2)) ?_
        rw [(show mu_r Hsc m 1 = some (m + 3) from (gi_mr uc.1.1 uc.2 (j := 1) (by decide)).trans (congrArg some (by omega)))]
        refine mw_go mu_g188 (k := 2) (f1 := (231, [(1, .inl l3), (4, .inl (nI c)), (0, .inr (.inr (some 91))), (2, .inl (nI i)), (3, .inl (nI (im W i)))], [.inl (4 : Int32), .inl (nI (im W i)), .inr (.inr (some (m + 3)))], Hsc)) (C := []) rfl trivial ?_
        refine mw_cIe (fun _ => rfl) (show mu_is Hsc (some (m + 3)) 10 from ((uc.1.1.w (md_w1 uc.2)).1)) (dm.getr (d := (d + 3)) (dn.dm uc) rfl (j := 1) (by decide) rfl (nI (im W i)) (c := 4) (by decide)) ?_
        rw [show (tget (ak m Hsc 1) (nI (im W i)) 4) = (nI (sp W (im W i) 4)) from ((tget_nI (by omega)).trans (by rw [(hj.jy htc h.2).1 1 (by decide) (by decide) (by decide)]; exact (hW.2.2.2.2.2.1.1 _ hkM 4 (by decide) (by decide)).1))]
        refine mw_go mu_g188 (k := 1) (f1 := (236, [(4, .inl (nI (sp W (im W i) 4))), (1, .inl l3), (0, .inr (.inr (some 91))), (2, .inl (nI i)), (3, .inl (nI (im W i)))], [], Hsc)) (C := []) rfl trivial ?_
        refine mw_sub (L' := [(1, .inl l3), (4, .inl (nI (sp W (im W i) 4))), (0, .inr (.inr (some 91))), (2, .inl (nI i)), (3, .inl (nI (im W i)))]) (by simp) ?_
        refine mw_down (α := Int32 × Nat × mu_H) (fun zs => (236, [(1, .inl zs.1), (4, .inl (nI zs.2.1)), (0, .inr (.inr (some 91))), (2, .inl (nI i)), (3, .inl (nI (im W i)))], [], zs.2.2)) (fun zs => sp W (im W i + 1) 4 - zs.2.1) (fun zs => dn m zs.2.2 ∧ jy m H zs.2.2 ∧ (zs.1 = 0 ∨ zs.1 = 1) ∧ (sp W (im W i) 4 ≤ zs.2.1) ∧ (zs.2.1 ≤ sp W (im W i + 1) 4) ∧ (∀ e, e < (W 13).1 → (ak m zs.2.2 13).2 e 3 = nI (eh e)) ∧ (zs.1 = 1 → (∀ q, q < i → ∀ y, sp W (im W q) 5 ≤ y → y < sp W (im W q + 1) 5 → LWC W eh q y) ∧ ∀ y, sp W (im W i) 5 ≤ y → y < sp W (im W i + 1) 5 → LWC W eh i y)) (fun zs hzg ihg => ?_) (l3, sp W (im W i) 4, Hsc) ⟨uc, htc, (show l3 = 0 ∨ l3 = 1 from hl3), (show sp W (im W i) 4 ≤ (sp W (im W i) 4) from (by omega)), (show (sp W (im W i) 4) ≤ sp W (im W i + 1) 4 from (by omega)), (show ∀ e, e < (W 13).1 → (ak m Hsc 13).2 e 3 = nI (eh e) from hE3), (show l3 = 1 → (∀ q, q < i → ∀ y, sp W (im W q) 5 ≤ y → y < sp W (im W q + 1) 5 → LWC W eh q y) ∧ ∀ y, sp W (im W i) 5 ≤ y → y < sp W (im W i + 1) 5 → LWC W eh i y from (fun z => ⟨(hK3 z).1, fun y h1 h2 => (hK3 z).2 y h1 (by omega)⟩))⟩
        obtain ⟨l4, t, Hsg⟩ := zs
        obtain ⟨ug, htg, hl4, ht1, ht2, hE4, hK4⟩ := hzg
        have ug : dn m Hsg := ug
        have htg : jy m H Hsg := htg
        have hl4 : l4 = 0 ∨ l4 = 1 := hl4
        have ht1 : sp W (im W i) 4 ≤ t := ht1
        have ht2 : t ≤ sp W (im W i + 1) 4 := ht2
        have hE4 : ∀ e, e < (W 13).1 → (ak m Hsg 13).2 e 3 = nI (eh e) := hE4
        have hK4 : l4 = 1 → (∀ q, q < i → ∀ y, sp W (im W q) 5 ≤ y → y < sp W (im W q + 1) 5 → LWC W eh q y) ∧ ∀ y, sp W (im W i) 5 ≤ y → y < sp W (im W i + 1) 5 → LWC W eh i y := hK4
        show mu_W _ _ (236, [(1, .inl l4), (4, .inl (nI t)), (0, .inr (.inr (some 91))), (2, .inl (nI i)), (3, .inl (nI (im W i)))], [], Hsg) _
        refine mw_go mu_g188 (k := 3) (f1 := (242, [(1, .inl l4), (4, .inl (nI t)), (0, .inr (.inr (some 91))), (2, .inl (nI i)), (3, .inl (nI (im W i)))], [.inr (.inr (mu_r Hsg 91 3)), .inl (nI t)], Hsg)) (C := [mu_is Hsg (some 91) 3]) rfl (show mu_is Hsg (some 91) 3 from (ug.1.1.is rfl)) ?_
        rw [(ug.1.2.1)]
        refine mw_go mu_g188 (k := 4) (f1 := (248, [(1, .inl l4), (4, .inl (nI t)), (0, .inr (.inr (some 91))), (2, .inl (nI i)), (3, .inl (nI (im W i)))], [.inr (.inr (mu_r Hsg 91 3)), .inl (4 : Int32), .inl (nI (im W i)), .inr (.inr (some m)), .inl (nI t)], Hsg)) (C := [mu_is Hsg (some 91) 3]) rfl (show mu_is Hsg (some 91) 3 from (ug.1.1.is rfl)) ?_
        rw [(ug.1.2.1)]
        refine mw_go mu_g188 (k := 1) (f1 := (251, [(1, .inl l4), (4, .inl (nI t)), (0, .inr (.inr (some 91))), (2, .inl (nI i)), (3, .inl (nI (im W i)))], [.inr (.inr (mu_r Hsg m 7)), .inl (4 : Int32), .inl (nI (im W i)), .inr (.inr (some m)), .inl (nI t)], Hsg)) (C := [mu_is Hsg (some m) 6]) rfl (show mu_is Hsg (some m) 6 from (show mu_is Hsg (some m) 6 from gi_im ug.1.1 ug.2)) ?_
        rw [(show mu_r Hsg m 7 = some (m + 15) from (gi_mr ug.1.1 ug.2 (j := 7) (by decide)).trans (congrArg some (by omega)))]
        refine mw_cIe (fun _ => rfl) (show mu_is Hsg (some m) 6 from (show mu_is Hsg (some m) 6 from gi_im ug.1.1 ug.2)) (dm.stopr (d := (d + 2)) (dn.dm ug) rfl (j := 7) (by decide) rfl (c := 4) (by decide) (nI (im W i))) ?_
        rw [show stp (ak m Hsg) (nI (im W i)) 4 7 = nI (sp W (im W i + 1) 4) from stp_w (hj.jy htg h.2) hW hkM (by decide) (by decide) rfl (by decide)]
        refine mw_if (P := (nI t) < (nI (sp W (im W i + 1) 4))) (a := 257) (b := 307) (fun _ => rfl) trivial (fun h20 => ?_) (fun h20 => ?_)
        · -- 257: (nI t) < (nI (sp W (im W i + 1) 4))
          have nh20 : t < (sp W (im W i + 1) 4) := (nI_ltI (by omega) (by omega)).mp (show nI t < nI (sp W (im W i + 1) 4) from h20)
          obtain ⟨a, b0_, ea1, eb0, hrg0⟩ := hC4 (im W i) hkM t ht1 (by omega)
          obtain ⟨N, hNe⟩ : ∃ N, b0_ = a + N := ⟨b0_ - a, by have := hrg0.1; omega⟩
          have hrg := hrg0
          rw [hNe] at hrg
          have eb1 := eb0
          rw [hNe] at eb1
          have hgl := hrg.2.1
          refine mw_go mu_g188 (k := 4) (f1 := (263, [(1, .inl l4), (4, .inl (nI t)), (0, .inr (.inr (some 91))), (2, .inl (nI i)), (3, .inl (nI (im W i)))], [.inr (.inr (mu_r Hsg 91 3)), .inr (.inr (some 91)), .inl l4], Hsg)) (C := [mu_is Hsg (some 91) 3]) rfl (show mu_is Hsg (some 91) 3 from (ug.1.1.is rfl)) ?_
          rw [(ug.1.2.1)]
          refine mw_go mu_g188 (k := 1) (f1 := (266, [(1, .inl l4), (4, .inl (nI t)), (0, .inr (.inr (some 91))), (2, .inl (nI i)), (3, .inl (nI (im W i)))], [.inr (.inr (mu_r Hsg m 7)), .inr (.inr (some 91)), .inl l4], Hsg)) (C := [mu_is Hsg (some m) 6]) rfl (show mu_is Hsg (some m) 6 from (show mu_is Hsg (some m) 6 from gi_im ug.1.1 ug.2)) ?_
          rw [(show mu_r Hsg m 7 = some (m + 15) from (gi_mr ug.1.1 ug.2 (j := 7) (by decide)).trans (congrArg some (by omega)))]
          refine mw_go mu_g188 (k := 2) (f1 := (269, [(1, .inl l4), (4, .inl (nI t)), (0, .inr (.inr (some 91))), (2, .inl (nI i)), (3, .inl (nI (im W i)))], [.inl (2 : Int32), .inl (nI t), .inr (.inr (some (m + 15))), .inr (.inr (some 91)), .inl l4], Hsg)) (C := []) rfl trivial ?_
          refine mw_cIe (fun _ => rfl) (show mu_is Hsg (some (m + 15)) 10 from ((ug.1.1.w (md_w7 ug.2)).1)) (dm.getr (d := (d + 3)) (dn.dm ug) rfl (j := 7) (by decide) rfl (nI t) (c := 2) (by decide)) ?_
          rw [show (tget (ak m Hsg 7) (nI t) 2) = (nI a) from ((tget_nI (by omega)).trans (by rw [(hj.jy htg h.2).1 7 (by decide) (by decide) (by decide)]; exact ea1))]
          refine mw_go mu_g188 (k := 2) (f1 := (276, [(1, .inl l4), (4, .inl (nI t)), (0, .inr (.inr (some 91))), (2, .inl (nI i)), (3, .inl (nI (im W i)))], [.inr (.inr (mu_r Hsg 91 3)), .inl (nI a), .inr (.inr (some 91)), .inl l4], Hsg)) (C := [mu_is Hsg (some 91) 3]) rfl (show mu_is Hsg (some 91) 3 from (ug.1.1.is rfl)) ?_
          rw [(ug.1.2.1)]
          refine mw_go mu_g188 (k := 1) (f1 := (279, [(1, .inl l4), (4, .inl (nI t)), (0, .inr (.inr (some 91))), (2, .inl (nI i)), (3, .inl (nI (im W i)))], [.inr (.inr (mu_r Hsg m 7)), .inl (nI a), .inr (.inr (some 91)), .inl l4], Hsg)) (C := [mu_is Hsg (some m) 6]) rfl (show mu_is Hsg (some m) 6 from (show mu_is Hsg (some m) 6 from gi_im ug.1.1 ug.2)) ?_
          rw [(show mu_r Hsg m 7 = some (m + 15) from (gi_mr ug.1.1 ug.2 (j := 7) (by decide)).trans (congrArg some (by omega)))]
          refine mw_go mu_g188 (k := 2) (f1 := (282, [(1, .inl l4), (4, .inl (nI t)), (0, .inr (.inr (some 91))), (2, .inl (nI i)), (3, .inl (nI (im W i)))], [.inl (3 : Int32), .inl (nI t), .inr (.inr (some (m + 15))), .inl (nI a), .inr (.inr (some 91)), .inl l4], Hsg)) (C := []) rfl trivial ?_
          refine mw_cIe (fun _ => rfl) (show mu_is Hsg (some (m + 15)) 10 from ((ug.1.1.w (md_w7 ug.2)).1)) (dm.getr (d := (d + 3)) (dn.dm ug) rfl (j := 7) (by decide) rfl (nI t) (c := 3) (by decide)) ?_
          rw [show (tget (ak m Hsg 7) (nI t) 3) = (nI (a + N)) from ((tget_nI (by omega)).trans (by rw [(hj.jy htg h.2).1 7 (by decide) (by decide) (by decide)]; exact eb1))]
          refine mw_go mu_g188 (k := 1) (f1 := (286, [(1, .inl l4), (4, .inl (nI t)), (0, .inr (.inr (some 91))), (2, .inl (nI i)), (3, .inl (nI (im W i)))], [.inl (nI i), .inl (nI (a + N)), .inl (nI a), .inr (.inr (some 91)), .inl l4], Hsg)) (C := []) rfl trivial ?_
          refine mw_cI (fun _ => rfl) (show mu_is Hsg (some 91) 3 from (ug.1.1.is rfl)) (jg_height3 (d := d) (W := W) (i := i) (a := a) (N := N) (kd := true) (eh := eh) (B := (14001 * (W 13).1)) ug (hj.jy htg h.2) hW (by omega) hrg (by rw [htg.len h.1.1]; exact hN) (fun n e _ h2 _ => ⟨hE4 e h2, heb e⟩) (by omega)) (fun x23 Q23 q23 => ?_)
          obtain ⟨u23, r23, k23⟩ := q23
          have ht23 : jy m H Q23 := htg.trans (r23.jy ⟨ug.1.1, ug.2, ug.1.2.1⟩)
          have a23 : ak m Q23 = ak m Hsg := r23.ak h.2
          have d23 : ak m Q23 = ak m Q23 := rfl
          have hv23 := hgz_b (W := W) (lh := hglh W eh (i)) (ch := hgch W) (a := a) (B := (14001 * (W 13).1)) (fun q => hglh_b heb q) (N) 0
          refine mw_go mu_g188 (k := 1) (f1 := (291, [(1, .inl l4), (4, .inl (nI t)), (0, .inr (.inr (some 91))), (2, .inl (nI i)), (3, .inl (nI (im W i)))], [.inl (120 : Int32), .inl x23, .inl l4], Q23)) (C := []) rfl trivial ?_
          refine mw_if (P := (120 : Int32) < x23) (a := 298) (b := 294) (fun _ => rfl) trivial (fun h24 => ?_) (fun h24 => ?_)
          · -- 298: (120 : Int32) < x23
            refine mw_go mu_g188 (k := 4) (f1 := (304, [(4, .inl ((nI t) + 1)), (1, .inl (l4 &&& (0 : Int32))), (0, .inr (.inr (some 91))), (2, .inl (nI i)), (3, .inl (nI (im W i)))], [], Q23)) (C := []) rfl trivial ?_
            rw [(show ((nI t) + 1) = (nI (t + 1)) from (nI_add t 1))]
            refine mw_go mu_g188 (k := 1) (f1 := (236, [(4, .inl (nI (t + 1))), (1, .inl (l4 &&& (0 : Int32))), (0, .inr (.inr (some 91))), (2, .inl (nI i)), (3, .inl (nI (im W i)))], [], Q23)) (C := []) rfl trivial ?_
            exact mw_sub (by simp) (ihg ((l4 &&& (0 : Int32)), t + 1, Q23) ⟨u23, ht23, (show (l4 &&& (0 : Int32)) = 0 ∨ (l4 &&& (0 : Int32)) = 1 from (fl0 hl4)), (show sp W (im W i) 4 ≤ (t + 1) from (by omega)), (show (t + 1) ≤ sp W (im W i + 1) 4 from (by omega)), (show ∀ e, e < (W 13).1 → (ak m Q23 13).2 e 3 = nI (eh e) from (fun e he => by rw [a23]; exact hE4 e he)), (show (l4 &&& (0 : Int32)) = 1 → (∀ q, q < i → ∀ y, sp W (im W q) 5 ≤ y → y < sp W (im W q + 1) 5 → LWC W eh q y) ∧ ∀ y, sp W (im W i) 5 ≤ y → y < sp W (im W i + 1) 5 → LWC W eh i y from (fun z => (of0 hl4 z).elim))⟩ (by show sp W (im W i + 1) 4 - (t + 1) < sp W (im W i + 1) 4 - t; omega))
          · -- 294: not (120 : Int32) < x23
            refine mw_go mu_g188 (k := 5) (f1 := (304, [(4, .inl ((nI t) + 1)), (1, .inl (l4 &&& (1 : Int32))), (0, .inr (.inr (some 91))), (2, .inl (nI i)), (3, .inl (nI (im W i)))], [], Q23)) (C := []) rfl trivial ?_
            rw [(show ((nI t) + 1) = (nI (t + 1)) from (nI_add t 1))]
            refine mw_go mu_g188 (k := 1) (f1 := (236, [(4, .inl (nI (t + 1))), (1, .inl (l4 &&& (1 : Int32))), (0, .inr (.inr (some 91))), (2, .inl (nI i)), (3, .inl (nI (im W i)))], [], Q23)) (C := []) rfl trivial ?_
            exact mw_sub (by simp) (ihg ((l4 &&& (1 : Int32)), t + 1, Q23) ⟨u23, ht23, (show (l4 &&& (1 : Int32)) = 0 ∨ (l4 &&& (1 : Int32)) = 1 from (fl1 hl4)), (show sp W (im W i) 4 ≤ (t + 1) from (by omega)), (show (t + 1) ≤ sp W (im W i + 1) 4 from (by omega)), (show ∀ e, e < (W 13).1 → (ak m Q23 13).2 e 3 = nI (eh e) from (fun e he => by rw [a23]; exact hE4 e he)), (show (l4 &&& (1 : Int32)) = 1 → (∀ q, q < i → ∀ y, sp W (im W q) 5 ≤ y → y < sp W (im W q + 1) 5 → LWC W eh q y) ∧ ∀ y, sp W (im W i) 5 ≤ y → y < sp W (im W i + 1) 5 → LWC W eh i y from (fun z => hK4 (of1 hl4 z)))⟩ (by show sp W (im W i + 1) 4 - (t + 1) < sp W (im W i + 1) 4 - t; omega))
        · -- 307: not (nI t) < (nI (sp W (im W i + 1) 4))
          have nh20 : ¬ t < (sp W (im W i + 1) 4) := fun z => h20 (show nI t < nI (sp W (im W i + 1) 4) from (nI_ltI (by omega) (by omega)).mpr z)
          refine mw_go mu_g188 (k := 1) (f1 := (310, [(2, .inl ((nI i) + 1)), (1, .inl l4), (4, .inl (nI t)), (0, .inr (.inr (some 91))), (3, .inl (nI (im W i)))], [], Hsg)) (C := []) rfl trivial ?_
          rw [(show ((nI i) + 1) = (nI (i + 1)) from (nI_add i 1))]
          refine mw_go mu_g188 (k := 1) (f1 := (110, [(2, .inl (nI (i + 1))), (1, .inl l4), (4, .inl (nI t)), (0, .inr (.inr (some 91))), (3, .inl (nI (im W i)))], [], Hsg)) (C := []) rfl trivial ?_
          exact mw_sub (by simp) (ihb (l4, i + 1, Hsg) ⟨ug, htg, (show l4 = 0 ∨ l4 = 1 from hl4), (show (i + 1) ≤ (W 11).1 from (by omega)), (show ∀ e, e < (W 13).1 → (ak m Hsg 13).2 e 3 = nI (eh e) from hE4), (show l4 = 1 → ∀ q, q < (i + 1) → ∀ c, sp W (im W q) 5 ≤ c → c < sp W (im W q + 1) 5 → LWC W eh q c from (fun z q hq c h1 h2 => by by_cases eq : q = i; (rw [eq] at h1 h2 ⊢; exact (hK4 z).2 c h1 h2); exact (hK4 z).1 q (by omega) c h1 h2))⟩ (by show (W 11).1 - (i + 1) < (W 11).1 - i; omega))
    · -- 313: not (nI i) < (nI (W 11).1)
      have nh9 : ¬ i < ((W 11).1) := fun z => h9 (show nI i < nI ((W 11).1) from (nI_ltI (by omega) (by omega)).mpr z)
      refine mw_go mu_g188 (k := 1) (f1 := (314, [(1, .inl l2), (2, .inl (nI i)), (0, .inr (.inr (some 91)))], [.inl l2], Hsb)) (C := []) rfl trivial ?_
      exact mw_of (fun _ => mu_ret rfl hl2 ⟨_, Hsb, rfl, ub, htb, hl2.imp id (fun z => ⟨z, eh, fun q hq => hK2 z q (by omega)⟩)⟩)
end AreLow
