/-! Judge.haveSorts -/
section HaveSorts
variable {H H1 H2 : mu_H} {d m a b p n N i r k v o e : Nat} {W s : Ts} {es es' : Nat → Int32} {al w : Int32} {rs rs' : Nat → Int32} {od : Nat → Nat}
theorem es_set {e0 : Nat} {x : Int32} (h : e0 < (s 13).1) (hb : e0 < 2147483648) : (ax 13 s (nI e0) 4 x 13).2 e 4 = if e = e0 then x else (s 13).2 e 4 := by
  by_cases z : e = e0
  · rw [if_pos z, z]; exact ax_hit h (by decide) hb
  · rw [if_neg z]; exact ax_c (fun _ y => absurd (y.trans (nI_clamp hb)) z)
/-- one more entry has its SORT -/
theorem ENT_next (hW : JW W) {t14 : Tb} (hT : TOP W t14 od) (hk : k < (W 13).1) (hK : ∀ q, q < k → ENT W es (od q)) (hs : SRT W es (enx W (od k) 2) 0 (enx W (od k) 0) rs (elx W (od k))) (hx : ¬ stk W rs (enx W (od k) 0) (elx W (od k)) 0 = 0) (he : ∀ e, es' e = if e = od k then stk W rs (enx W (od k) 0) (elx W (od k)) 0 else es e) : ∀ q, q < k + 1 → ENT W es' (od q) := by
  intro q hq
  have par : ∀ q, q ≤ k → ∀ p e2, prt W (od q) p e2 → es' e2 = es e2 := fun q hq p e2 hp => by
    obtain ⟨k', h1, h2⟩ := hT.2 q (by omega) p e2 hp
    rw [he, if_neg (fun z => hT.1.2.2.1 k' k (by omega) hk (h2.trans z))]
  by_cases eq : q = k
  · subst eq
    obtain ⟨-, -, -, -, hr⟩ := en_ok hW (hT.1.2.1 q hk).2
    have hb := hr.2.1
    refine ⟨rs, SRT_es hs (fun p e2 a1 a2 a3 a4 => par q (Nat.le_refl _) p e2 ⟨a1, ?_, a4, a3⟩) (fun p a1 a2 => oc_w hW (by omega)), by rw [he, if_pos rfl], by rw [he, if_pos rfl]; exact hx⟩
    unfold elx at a2
    omega
  · exact ENT_es hW (hT.1.2.1 q (by omega)).2 (hK q (by omega)) (by rw [he, if_neg (hT.1.2.2.1 q k (by omega) hk)]) (par q (by omega))
theorem jg_have3 (h : dn m H) (hj : jz W (ak m H)) (hW : JW W) (hN : (W 0).1 < jn H) (hord : TOP W (ak m H 14) od) (hC5 : Cr W 5 false 1 2) (hC4 : Cr W 4 true 2 3) (hLV : ∀ q, q < (W 1).1 → ∀ n, sp W q 4 ≤ n → n < sp W (q + 1) 4 → LV W q n) : mu_TI (mu_D (d + 6)) 189 [.inr (.inr (some 91))] H (fun x H1 => dn m H1 ∧ jy m H H1 ∧ (x = 0 ∨ (x = 1 ∧ TYP W (fun e => (ak m H1 13).2 e 4)))) := by
  have b := hW.2.2.2.2.2.2
  have b11 := b 11 (by decide)
  have b13 := b 13 (by decide)
  refine mu_meth (M := mu_m189) rfl rfl ?_
  refine mw_ht (mu_fn_of (show [0].Nodup by decide)) ?_
  refine mw_go mu_g189 (k := 2) (f1 := (2, [(1, .inl (0 : Int32)), (0, .inr (.inr (some 91)))], [], H)) (C := []) rfl trivial ?_
  show mu_W _ _ (2, [(1, .inl (nI 0)), (0, .inr (.inr (some 91)))], [], H) _
  refine mw_sub (L' := [(1, .inl (nI 0)), (0, .inr (.inr (some 91)))]) (by simp) ?_
  refine mw_down (α := Nat × mu_H) (fun zs => (2, [(1, .inl (nI zs.1)), (0, .inr (.inr (some 91)))], [], zs.2)) (fun zs => (W 13).1 - zs.1) (fun zs => dn m zs.2 ∧ jy m H zs.2 ∧ (zs.1 ≤ (W 13).1) ∧ (∀ q, q < zs.1 → ENT W (fun e => (ak m zs.2 13).2 e 4) (od q))) (fun zs hza iha => ?_) (0, H) ⟨h, (jy.refl m H), (show 0 ≤ (W 13).1 from (by omega)), (show ∀ q, q < 0 → ENT W (fun e => (ak m H 13).2 e 4) (od q) from (fun q hq => absurd hq (Nat.not_lt_zero _)))⟩
  obtain ⟨k, Hsa⟩ := zs
  obtain ⟨ua, hta, hk, hK⟩ := hza
  have ua : dn m Hsa := ua
  have hta : jy m H Hsa := hta
  have hk : k ≤ (W 13).1 := hk
  have hK : ∀ q, q < k → ENT W (fun e => (ak m Hsa 13).2 e 4) (od q) := hK
  show mu_W _ _ (2, [(1, .inl (nI k)), (0, .inr (.inr (some 91)))], [], Hsa) _
  refine mw_go mu_g189 (k := 3) (f1 := (7, [(1, .inl (nI k)), (0, .inr (.inr (some 91)))], [.inr (.inr (mu_r Hsa 91 3)), .inl (nI k)], Hsa)) (C := [mu_is Hsa (some 91) 3]) rfl (show mu_is Hsa (some 91) 3 from (ua.1.1.is rfl)) ?_
  rw [(ua.1.2.1)]
  refine mw_go mu_g189 (k := 1) (f1 := (10, [(1, .inl (nI k)), (0, .inr (.inr (some 91)))], [.inr (.inr (mu_r Hsa m 14)), .inl (nI k)], Hsa)) (C := [mu_is Hsa (some m) 6]) rfl (show mu_is Hsa (some m) 6 from (show mu_is Hsa (some m) 6 from gi_im ua.1.1 ua.2)) ?_
  rw [(show mu_r Hsa m 14 = some (m + 29) from (gi_mr ua.1.1 ua.2 (j := 14) (by decide)).trans (congrArg some (by omega)))]
  refine mw_go mu_g189 (k := 1) (f1 := (13, [(1, .inl (nI k)), (0, .inr (.inr (some 91)))], [.inl (mu_i Hsa (m + 29) 2), .inl (nI k)], Hsa)) (C := [mu_is Hsa (some (m + 29)) 10]) rfl (show mu_is Hsa (some (m + 29)) 10 from ((ua.1.1.w (md_w14 ua.2)).1)) ?_
  rw [(show mu_i Hsa (m + 29) 2 = nI (W 13).1 from (dm.size (dn.dm ua) rfl (j := 14) (by decide)).trans (congrArg nI (by rw [(hta.ak h.2).1 14 (by decide)]; exact hord.1.1)))]
  refine mw_if (P := (nI k) < (nI (W 13).1)) (a := 16) (b := 96) (fun _ => rfl) trivial (fun h1 => ?_) (fun h1 => ?_)
  · -- 16: (nI k) < (nI (W 13).1)
    have nh1 : k < ((W 13).1) := (nI_ltI (by omega) (by omega)).mp (show nI k < nI ((W 13).1) from h1)
    have hok := hord.1.2.1 k (by omega)
    have ek := en_ok hW hok.2
    refine mw_go mu_g189 (k := 2) (f1 := (20, [(1, .inl (nI k)), (0, .inr (.inr (some 91)))], [.inr (.inr (mu_r Hsa 91 3))], Hsa)) (C := [mu_is Hsa (some 91) 3]) rfl (show mu_is Hsa (some 91) 3 from (ua.1.1.is rfl)) ?_
    rw [(ua.1.2.1)]
    refine mw_go mu_g189 (k := 1) (f1 := (23, [(1, .inl (nI k)), (0, .inr (.inr (some 91)))], [.inr (.inr (mu_r Hsa m 14))], Hsa)) (C := [mu_is Hsa (some m) 6]) rfl (show mu_is Hsa (some m) 6 from (show mu_is Hsa (some m) 6 from gi_im ua.1.1 ua.2)) ?_
    rw [(show mu_r Hsa m 14 = some (m + 29) from (gi_mr ua.1.1 ua.2 (j := 14) (by decide)).trans (congrArg some (by omega)))]
    refine mw_go mu_g189 (k := 2) (f1 := (25, [(1, .inl (nI k)), (0, .inr (.inr (some 91)))], [.inl (0 : Int32), .inl (nI k), .inr (.inr (some (m + 29)))], Hsa)) (C := []) rfl trivial ?_
    refine mw_cIe (fun _ => rfl) (show mu_is Hsa (some (m + 29)) 10 from ((ua.1.1.w (md_w14 ua.2)).1)) (dm.getr (d := (d + 4)) (dn.dm ua) rfl (j := 14) (by decide) rfl (nI k) (c := 0) (by decide)) ?_
    rw [show (tget (ak m Hsa 14) (nI k) 0) = (nI (od k)) from ((tget_nI (by omega)).trans (by rw [(hta.ak h.2).1 14 (by decide)]; exact (hord.1.2.1 k (by omega)).1))]
    refine mw_go mu_g189 (k := 4) (f1 := (34, [(2, .inl (nI (od k))), (1, .inl (nI k)), (0, .inr (.inr (some 91)))], [.inr (.inr (mu_r Hsa 91 3)), .inr (.inr (some 91))], Hsa)) (C := [mu_is Hsa (some 91) 3]) rfl (show mu_is Hsa (some 91) 3 from (ua.1.1.is rfl)) ?_
    rw [(ua.1.2.1)]
    refine mw_go mu_g189 (k := 1) (f1 := (37, [(2, .inl (nI (od k))), (1, .inl (nI k)), (0, .inr (.inr (some 91)))], [.inr (.inr (mu_r Hsa m 13)), .inr (.inr (some 91))], Hsa)) (C := [mu_is Hsa (some m) 6]) rfl (show mu_is Hsa (some m) 6 from (show mu_is Hsa (some m) 6 from gi_im ua.1.1 ua.2)) ?_
    rw [(show mu_r Hsa m 13 = some (m + 27) from (gi_mr ua.1.1 ua.2 (j := 13) (by decide)).trans (congrArg some (by omega)))]
    refine mw_go mu_g189 (k := 2) (f1 := (39, [(2, .inl (nI (od k))), (1, .inl (nI k)), (0, .inr (.inr (some 91)))], [.inl (0 : Int32), .inl (nI (od k)), .inr (.inr (some (m + 27))), .inr (.inr (some 91))], Hsa)) (C := []) rfl trivial ?_
    refine mw_cIe (fun _ => rfl) (show mu_is Hsa (some (m + 27)) 10 from ((ua.1.1.w (md_w13 ua.2)).1)) (dm.getr (d := (d + 4)) (dn.dm ua) rfl (j := 13) (by decide) rfl (nI (od k)) (c := 0) (by decide)) ?_
    rw [show (tget (ak m Hsa 13) (nI (od k)) 0) = (nI (enx W (od k) 0)) from ((tget_nI (by omega)).trans (((hj.jy hta h.2).2.2 (od k) 0 (by decide)).trans ek.1))]
    refine mw_go mu_g189 (k := 2) (f1 := (46, [(2, .inl (nI (od k))), (1, .inl (nI k)), (0, .inr (.inr (some 91)))], [.inr (.inr (mu_r Hsa 91 3)), .inl (nI (enx W (od k) 0)), .inr (.inr (some 91))], Hsa)) (C := [mu_is Hsa (some 91) 3]) rfl (show mu_is Hsa (some 91) 3 from (ua.1.1.is rfl)) ?_
    rw [(ua.1.2.1)]
    refine mw_go mu_g189 (k := 1) (f1 := (49, [(2, .inl (nI (od k))), (1, .inl (nI k)), (0, .inr (.inr (some 91)))], [.inr (.inr (mu_r Hsa m 13)), .inl (nI (enx W (od k) 0)), .inr (.inr (some 91))], Hsa)) (C := [mu_is Hsa (some m) 6]) rfl (show mu_is Hsa (some m) 6 from (show mu_is Hsa (some m) 6 from gi_im ua.1.1 ua.2)) ?_
    rw [(show mu_r Hsa m 13 = some (m + 27) from (gi_mr ua.1.1 ua.2 (j := 13) (by decide)).trans (congrArg some (by omega)))]
    refine mw_go mu_g189 (k := 2) (f1 := (51, [(2, .inl (nI (od k))), (1, .inl (nI k)), (0, .inr (.inr (some 91)))], [.inl (1 : Int32), .inl (nI (od k)), .inr (.inr (some (m + 27))), .inl (nI (enx W (od k) 0)), .inr (.inr (some 91))], Hsa)) (C := []) rfl trivial ?_
    refine mw_cIe (fun _ => rfl) (show mu_is Hsa (some (m + 27)) 10 from ((ua.1.1.w (md_w13 ua.2)).1)) (dm.getr (d := (d + 4)) (dn.dm ua) rfl (j := 13) (by decide) rfl (nI (od k)) (c := 1) (by decide)) ?_
    rw [show (tget (ak m Hsa 13) (nI (od k)) 1) = (nI (enx W (od k) 0 + elx W (od k))) from ((tget_nI (by omega)).trans (((hj.jy hta h.2).2.2 (od k) 1 (by decide)).trans ek.2.1))]
    refine mw_go mu_g189 (k := 2) (f1 := (58, [(2, .inl (nI (od k))), (1, .inl (nI k)), (0, .inr (.inr (some 91)))], [.inr (.inr (mu_r Hsa 91 3)), .inl (nI (enx W (od k) 0 + elx W (od k))), .inl (nI (enx W (od k) 0)), .inr (.inr (some 91))], Hsa)) (C := [mu_is Hsa (some 91) 3]) rfl (show mu_is Hsa (some 91) 3 from (ua.1.1.is rfl)) ?_
    rw [(ua.1.2.1)]
    refine mw_go mu_g189 (k := 1) (f1 := (61, [(2, .inl (nI (od k))), (1, .inl (nI k)), (0, .inr (.inr (some 91)))], [.inr (.inr (mu_r Hsa m 13)), .inl (nI (enx W (od k) 0 + elx W (od k))), .inl (nI (enx W (od k) 0)), .inr (.inr (some 91))], Hsa)) (C := [mu_is Hsa (some m) 6]) rfl (show mu_is Hsa (some m) 6 from (show mu_is Hsa (some m) 6 from gi_im ua.1.1 ua.2)) ?_
    rw [(show mu_r Hsa m 13 = some (m + 27) from (gi_mr ua.1.1 ua.2 (j := 13) (by decide)).trans (congrArg some (by omega)))]
    refine mw_go mu_g189 (k := 2) (f1 := (63, [(2, .inl (nI (od k))), (1, .inl (nI k)), (0, .inr (.inr (some 91)))], [.inl (2 : Int32), .inl (nI (od k)), .inr (.inr (some (m + 27))), .inl (nI (enx W (od k) 0 + elx W (od k))), .inl (nI (enx W (od k) 0)), .inr (.inr (some 91))], Hsa)) (C := []) rfl trivial ?_
    refine mw_cIe (fun _ => rfl) (show mu_is Hsa (some (m + 27)) 10 from ((ua.1.1.w (md_w13 ua.2)).1)) (dm.getr (d := (d + 4)) (dn.dm ua) rfl (j := 13) (by decide) rfl (nI (od k)) (c := 2) (by decide)) ?_
    rw [show (tget (ak m Hsa 13) (nI (od k)) 2) = (nI (enx W (od k) 2)) from ((tget_nI (by omega)).trans (((hj.jy hta h.2).2.2 (od k) 2 (by decide)).trans ek.2.2.1))]
    refine mw_go mu_g189 (k := 1) (f1 := (67, [(2, .inl (nI (od k))), (1, .inl (nI k)), (0, .inr (.inr (some 91)))], [.inl (0 : Int32), .inl (nI (enx W (od k) 2)), .inl (nI (enx W (od k) 0 + elx W (od k))), .inl (nI (enx W (od k) 0)), .inr (.inr (some 91))], Hsa)) (C := []) rfl trivial ?_
    refine mw_cI (fun _ => rfl) (show mu_is Hsa (some 91) 3 from (ua.1.1.is rfl)) (jg_sort3 (d := (d + 1)) (W := W) (i := enx W (od k) 2) (a := enx W (od k) 0) (N := elx W (od k)) (al := 0) (kd := false) ua (hj.jy hta h.2) hW ek.2.2.2.1 ek.2.2.2.2 (by rw [hta.len h.1.1]; exact hN)) (fun x6 Q6 q6 => ?_)
    obtain ⟨u6, r6, k6⟩ := q6
    have ht6 : jy m H Q6 := hta.trans (r6.jy ⟨ua.1.1, ua.2, ua.1.2.1⟩)
    have a6 : ak m Q6 = ak m Hsa := r6.ak h.2
    have d6 : ak m Q6 = ak m Q6 := rfl
    refine mw_go mu_g189 (k := 3) (f1 := (75, [(3, .inl x6), (2, .inl (nI (od k))), (1, .inl (nI k)), (0, .inr (.inr (some 91)))], [.inr (.inr (mu_r Q6 91 3))], Q6)) (C := [mu_is Q6 (some 91) 3]) rfl (show mu_is Q6 (some 91) 3 from (u6.1.1.is rfl)) ?_
    rw [(u6.1.2.1)]
    refine mw_go mu_g189 (k := 1) (f1 := (78, [(3, .inl x6), (2, .inl (nI (od k))), (1, .inl (nI k)), (0, .inr (.inr (some 91)))], [.inr (.inr (mu_r Q6 m 13))], Q6)) (C := [mu_is Q6 (some m) 6]) rfl (show mu_is Q6 (some m) 6 from (show mu_is Q6 (some m) 6 from gi_im u6.1.1 u6.2)) ?_
    rw [(show mu_r Q6 m 13 = some (m + 27) from (gi_mr u6.1.1 u6.2 (j := 13) (by decide)).trans (congrArg some (by omega)))]
    refine mw_go mu_g189 (k := 3) (f1 := (81, [(3, .inl x6), (2, .inl (nI (od k))), (1, .inl (nI k)), (0, .inr (.inr (some 91)))], [.inl x6, .inl (4 : Int32), .inl (nI (od k)), .inr (.inr (some (m + 27)))], Q6)) (C := []) rfl trivial ?_
    refine mw_cV (fun _ => rfl) (show mu_is Q6 (some (m + 27)) 10 from ((u6.1.1.w (md_w13 u6.2)).1)) (dn.set13 (d := (d + 4)) u6 (nI (od k)) x6) (fun Q7 q7 => ?_)
    obtain ⟨u7, r7, k7⟩ := q7
    have ht7 : jy m H Q7 := ht6.trans r7
    have d7 : ak m Q7 = ak m Q7 := rfl
    have he7 : ∀ e, (ak m Q7 13).2 e 4 = if e = od k then x6 else (ak m Hsa 13).2 e 4 := fun e => by rw [k7, ← a6]; exact es_set (by rw [(hj.jy ht6 h.2).2.1]; exact hok.2) (by omega)
    refine mw_go mu_g189 (k := 1) (f1 := (85, [(3, .inl x6), (2, .inl (nI (od k))), (1, .inl (nI k)), (0, .inr (.inr (some 91)))], [.inl x6], Q7)) (C := []) rfl trivial ?_
    refine mw_if (P := x6 = 0) (a := 88) (b := 90) (fun _ => rfl) trivial (fun h8 => ?_) (fun h8 => ?_)
    · -- 88: x6 = 0
      refine mw_go mu_g189 (k := 1) (f1 := (89, [(3, .inl x6), (2, .inl (nI (od k))), (1, .inl (nI k)), (0, .inr (.inr (some 91)))], [.inl (0 : Int32)], Q7)) (C := []) rfl trivial ?_
      exact mw_of (fun _ => mu_ret rfl (Or.inl rfl) ⟨_, Q7, rfl, u7, ht7, Or.inl rfl⟩)
    · -- 90: not x6 = 0
      refine mw_go mu_g189 (k := 1) (f1 := (93, [(1, .inl ((nI k) + 1)), (3, .inl x6), (2, .inl (nI (od k))), (0, .inr (.inr (some 91)))], [], Q7)) (C := []) rfl trivial ?_
      rw [(show ((nI k) + 1) = (nI (k + 1)) from (nI_add k 1))]
      refine mw_go mu_g189 (k := 1) (f1 := (2, [(1, .inl (nI (k + 1))), (3, .inl x6), (2, .inl (nI (od k))), (0, .inr (.inr (some 91)))], [], Q7)) (C := []) rfl trivial ?_
      exact mw_sub (by simp) (iha (k + 1, Q7) ⟨u7, ht7, (show (k + 1) ≤ (W 13).1 from (by omega)), (show ∀ q, q < (k + 1) → ENT W (fun e => (ak m Q7 13).2 e 4) (od q) from (by obtain ⟨rs, w1, w2⟩ := k6.resolve_left h8; rw [w2] at he7; exact ENT_next hW hord (by omega) hK w1 (by rw [← w2]; exact h8) he7))⟩ (by show (W 13).1 - (k + 1) < (W 13).1 - k; omega))
  · -- 96: not (nI k) < (nI (W 13).1)
    have nh1 : ¬ k < ((W 13).1) := fun z => h1 (show nI k < nI ((W 13).1) from (nI_ltI (by omega) (by omega)).mpr z)
    have hall : ∀ e, e < (W 13).1 → ENT W (fun e => (ak m Hsa 13).2 e 4) e := fun e he => by obtain ⟨q, q1, q2⟩ := hord.1.2.2.2 e he; rw [← q2]; exact hK q (by omega)
    refine mw_go mu_g189 (k := 2) (f1 := (98, [(1, .inl (0 : Int32)), (0, .inr (.inr (some 91)))], [], Hsa)) (C := []) rfl trivial ?_
    show mu_W _ _ (98, [(1, .inl (nI 0)), (0, .inr (.inr (some 91)))], [], Hsa) _
    refine mw_sub (L' := [(1, .inl (nI 0)), (0, .inr (.inr (some 91)))]) (by simp) ?_
    refine mw_down (α := Nat × mu_H) (fun zs => (98, [(1, .inl (nI zs.1)), (0, .inr (.inr (some 91)))], [], zs.2)) (fun zs => (W 11).1 - zs.1) (fun zs => dn m zs.2 ∧ jy m H zs.2 ∧ (zs.1 ≤ (W 11).1) ∧ ((fun e => (ak m zs.2 13).2 e 4) = (fun e => (ak m Hsa 13).2 e 4)) ∧ (∀ q, q < zs.1 → (∀ c, sp W (im W q) 5 ≤ c → c < sp W (im W q + 1) 5 → CLM W (fun e => (ak m Hsa 13).2 e 4) q c) ∧ ∀ n, sp W (im W q) 4 ≤ n → n < sp W (im W q + 1) 4 → LIN W (fun e => (ak m Hsa 13).2 e 4) q n)) (fun zs hzb ihb => ?_) (0, Hsa) ⟨ua, hta, (show 0 ≤ (W 11).1 from (by omega)), (show (fun e => (ak m Hsa 13).2 e 4) = (fun e => (ak m Hsa 13).2 e 4) from rfl), (show ∀ q, q < 0 → (∀ c, sp W (im W q) 5 ≤ c → c < sp W (im W q + 1) 5 → CLM W (fun e => (ak m Hsa 13).2 e 4) q c) ∧ ∀ n, sp W (im W q) 4 ≤ n → n < sp W (im W q + 1) 4 → LIN W (fun e => (ak m Hsa 13).2 e 4) q n from (fun q hq => absurd hq (Nat.not_lt_zero _)))⟩
    obtain ⟨i, Hsb⟩ := zs
    obtain ⟨ub, htb, hi2, hE, hK2⟩ := hzb
    have ub : dn m Hsb := ub
    have htb : jy m H Hsb := htb
    have hi2 : i ≤ (W 11).1 := hi2
    have hE : (fun e => (ak m Hsb 13).2 e 4) = (fun e => (ak m Hsa 13).2 e 4) := hE
    have hK2 : ∀ q, q < i → (∀ c, sp W (im W q) 5 ≤ c → c < sp W (im W q + 1) 5 → CLM W (fun e => (ak m Hsa 13).2 e 4) q c) ∧ ∀ n, sp W (im W q) 4 ≤ n → n < sp W (im W q + 1) 4 → LIN W (fun e => (ak m Hsa 13).2 e 4) q n := hK2
    show mu_W _ _ (98, [(1, .inl (nI i)), (0, .inr (.inr (some 91)))], [], Hsb) _
    refine mw_go mu_g189 (k := 3) (f1 := (103, [(1, .inl (nI i)), (0, .inr (.inr (some 91)))], [.inr (.inr (mu_r Hsb 91 3)), .inl (nI i)], Hsb)) (C := [mu_is Hsb (some 91) 3]) rfl (show mu_is Hsb (some 91) 3 from (ub.1.1.is rfl)) ?_
    rw [(ub.1.2.1)]
    refine mw_go mu_g189 (k := 1) (f1 := (106, [(1, .inl (nI i)), (0, .inr (.inr (some 91)))], [.inr (.inr (mu_r Hsb m 11)), .inl (nI i)], Hsb)) (C := [mu_is Hsb (some m) 6]) rfl (show mu_is Hsb (some m) 6 from (show mu_is Hsb (some m) 6 from gi_im ub.1.1 ub.2)) ?_
    rw [(show mu_r Hsb m 11 = some (m + 23) from (gi_mr ub.1.1 ub.2 (j := 11) (by decide)).trans (congrArg some (by omega)))]
    refine mw_go mu_g189 (k := 1) (f1 := (109, [(1, .inl (nI i)), (0, .inr (.inr (some 91)))], [.inl (mu_i Hsb (m + 23) 2), .inl (nI i)], Hsb)) (C := [mu_is Hsb (some (m + 23)) 10]) rfl (show mu_is Hsb (some (m + 23)) 10 from ((ub.1.1.w (md_w11 ub.2)).1)) ?_
    rw [(show mu_i Hsb (m + 23) 2 = nI (W 11).1 from (dm.size (dn.dm ub) rfl (j := 11) (by decide)).trans (congrArg nI (by rw [(hj.jy htb h.2).1 11 (by decide) (by decide) (by decide)])))]
    refine mw_if (P := (nI i) < (nI (W 11).1)) (a := 112) (b := 136) (fun _ => rfl) trivial (fun h9 => ?_) (fun h9 => ?_)
    · -- 112: (nI i) < (nI (W 11).1)
      have nh9 : i < ((W 11).1) := (nI_ltI (by omega) (by omega)).mp (show nI i < nI ((W 11).1) from h9)
      refine mw_go mu_g189 (k := 2) (f1 := (114, [(1, .inl (nI i)), (0, .inr (.inr (some 91)))], [.inl (nI i), .inr (.inr (some 91))], Hsb)) (C := []) rfl trivial ?_
      refine mw_cI (fun _ => rfl) (show mu_is Hsb (some 91) 3 from (ub.1.1.is rfl)) (jg_claims3 (d := d) (W := W) (i := i) ub (hj.jy htb h.2) hW (by omega) (by rw [htb.len h.1.1]; exact hN) hC5) (fun x10 Q10 q10 => ?_)
      obtain ⟨u10, r10, k10⟩ := q10
      have ht10 : jy m H Q10 := htb.trans (r10.jy ⟨ub.1.1, ub.2, ub.1.2.1⟩)
      have a10 : ak m Q10 = ak m Hsb := r10.ak h.2
      have d10 : ak m Q10 = ak m Q10 := rfl
      refine mw_if (P := x10 = 0) (a := 128) (b := 120) (fun _ => rfl) trivial (fun h11 => ?_) (fun h11 => ?_)
      · -- 128: x10 = 0
        refine mw_go mu_g189 (k := 1) (f1 := (129, [(1, .inl (nI i)), (0, .inr (.inr (some 91)))], [.inl (0 : Int32)], Q10)) (C := []) rfl trivial ?_
        exact mw_of (fun _ => mu_ret rfl (Or.inl rfl) ⟨_, Q10, rfl, u10, ht10, Or.inl rfl⟩)
      · -- 120: not x10 = 0
        have hc10 := (k10.resolve_left h11).2
        rw [hE] at hc10
        refine mw_go mu_g189 (k := 2) (f1 := (122, [(1, .inl (nI i)), (0, .inr (.inr (some 91)))], [.inl (nI i), .inr (.inr (some 91))], Q10)) (C := []) rfl trivial ?_
        refine mw_cI (fun _ => rfl) (show mu_is Q10 (some 91) 3 from (u10.1.1.is rfl)) (jg_lines3 (d := d) (W := W) (i := i) u10 (hj.jy ht10 h.2) hW (by omega) (by rw [ht10.len h.1.1]; exact hN) hC4 hLV) (fun x12 Q12 q12 => ?_)
        obtain ⟨u12, r12, k12⟩ := q12
        have ht12 : jy m H Q12 := ht10.trans (r12.jy ⟨u10.1.1, u10.2, u10.1.2.1⟩)
        have a12 : ak m Q12 = ak m Q10 := r12.ak h.2
        have d12 : ak m Q12 = ak m Q12 := rfl
        refine mw_if (P := x12 = 0) (a := 128) (b := 130) (fun _ => rfl) trivial (fun h13 => ?_) (fun h13 => ?_)
        · -- 128: x12 = 0
          refine mw_go mu_g189 (k := 1) (f1 := (129, [(1, .inl (nI i)), (0, .inr (.inr (some 91)))], [.inl (0 : Int32)], Q12)) (C := []) rfl trivial ?_
          exact mw_of (fun _ => mu_ret rfl (Or.inl rfl) ⟨_, Q12, rfl, u12, ht12, Or.inl rfl⟩)
        · -- 130: not x12 = 0
          have hl12 := (k12.resolve_left h13).2
          rw [a10, hE] at hl12
          refine mw_go mu_g189 (k := 1) (f1 := (133, [(1, .inl ((nI i) + 1)), (0, .inr (.inr (some 91)))], [], Q12)) (C := []) rfl trivial ?_
          rw [(show ((nI i) + 1) = (nI (i + 1)) from (nI_add i 1))]
          refine mw_go mu_g189 (k := 1) (f1 := (98, [(1, .inl (nI (i + 1))), (0, .inr (.inr (some 91)))], [], Q12)) (C := []) rfl trivial ?_
          exact mw_sub (by simp) (ihb (i + 1, Q12) ⟨u12, ht12, (show (i + 1) ≤ (W 11).1 from (by omega)), (show (fun e => (ak m Q12 13).2 e 4) = (fun e => (ak m Hsa 13).2 e 4) from (by rw [a12, a10]; exact hE)), (show ∀ q, q < (i + 1) → (∀ c, sp W (im W q) 5 ≤ c → c < sp W (im W q + 1) 5 → CLM W (fun e => (ak m Hsa 13).2 e 4) q c) ∧ ∀ n, sp W (im W q) 4 ≤ n → n < sp W (im W q + 1) 4 → LIN W (fun e => (ak m Hsa 13).2 e 4) q n from (fun q hq => by by_cases eq : q = i; (rw [eq]; exact ⟨hc10, hl12⟩); exact hK2 q (by omega)))⟩ (by show (W 11).1 - (i + 1) < (W 11).1 - i; omega))
    · -- 136: not (nI i) < (nI (W 11).1)
      have nh9 : ¬ i < ((W 11).1) := fun z => h9 (show nI i < nI ((W 11).1) from (nI_ltI (by omega) (by omega)).mpr z)
      refine mw_go mu_g189 (k := 1) (f1 := (137, [(1, .inl (nI i)), (0, .inr (.inr (some 91)))], [.inl (1 : Int32)], Hsb)) (C := []) rfl trivial ?_
      exact mw_of (fun _ => mu_ret rfl (Or.inr rfl) ⟨_, Hsb, rfl, ub, htb, Or.inr ⟨rfl, (by rw [hE]; exact ⟨hall, fun y hy => hK2 y (by omega)⟩)⟩⟩)
end HaveSorts
