/-! RELATION: sideOfNext -/
section SideOfNext
variable {H : mu_H} {U : Ud} {m d a n k i0 : Nat} {Y : Ts}
theorem pred_lt {a : Nat} (ha : a < 2147483648) : nI a - (1 : Int32) < nI a := by
  by_cases h : a = 0
  · rw [h]; decide
  · rw [show nI a - (1 : Int32) = nI (a - 1) from nI_sub (a := a) (b := 1) (by omega)]
    exact (nI_ltI (by omega) (by omega)).mpr (by omega)
/-- PathProver$Relation.sideOfNext(I)I -/
abbrev mu_m305 : ev_M := (8, (some .int), [], ev_b305)
theorem mu_g305 : mu_good mu_m305 := mu_goodk ev_k305
theorem rl_sideE (h : um m H) (e : ud m H = U) (hmo : U.2.2.2.1 99 0 = some m) (hk : k < 2147483648) (hp0 : (U.1 23).2 k 0 = nI a) (hp1 : (U.1 23).2 k 1 = nI a) (ha : a < 2147483648) : mu_TI (mu_D (d + 3)) 305 [.inr (.inr (some 129)), .inl (nI k)] H (fun x H1 => x = 0 ∧ H1 = H) := by
  refine mu_meth (M := mu_m305) rfl rfl ?_
  refine mw_ht (mu_fn_of (show [0, 1].Nodup by decide)) ?_
  refine mw_go mu_g305 (k := 2) (f1 := (4, [(0, .inr (.inr (some 129))), (1, .inl (nI k))], [.inr (.inr (mu_r H 129 0))], H)) (C := [mu_is H (some 129) 9]) rfl (show mu_is H (some 129) 9 from (h.1.1.is rfl)) ?_
  rw [(h.1.1.r (p := 129) (j := 0) (q := 99) rfl)]
  refine mw_go mu_g305 (k := 1) (f1 := (7, [(0, .inr (.inr (some 129))), (1, .inl (nI k))], [.inr (.inr (mu_r H 99 0))], H)) (C := [mu_is H (some 99) 13]) rfl (show mu_is H (some 99) 13 from (h.1.1.is rfl)) ?_
  rw [(show mu_r H 99 0 = (some m) from (ud_q (U := U) (m := m) (P := 99) (j := 0) e rfl).trans hmo)]
  refine mw_go mu_g305 (k := 3) (f1 := (12, [(2, .inr (.inr (some m))), (0, .inr (.inr (some 129))), (1, .inl (nI k))], [.inr (.inr (mu_r H 129 2))], H)) (C := [mu_is H (some 129) 9]) rfl (show mu_is H (some 129) 9 from (h.1.1.is rfl)) ?_
  rw [(h.1.1.r (p := 129) (j := 2) (q := 118) rfl)]
  refine mw_go mu_g305 (k := 2) (f1 := (14, [(2, .inr (.inr (some m))), (0, .inr (.inr (some 129))), (1, .inl (nI k))], [.inl (0 : Int32), .inl (nI k), .inr (.inr (some 118))], H)) (C := []) rfl trivial ?_
  refine mw_cIe (fun _ => rfl) (show mu_is H (some 118) 10 from (h.1.1.is rfl)) (h.getr (d := (d + 1)) e (j := 23) (by decide) rfl (nI k) (c := 0) (by decide)) ?_
  rw [show (tget (U.1 23) (nI k) 0) = (nI a) from ((congrArg (fun z => tget z (nI k) 0) (show U.1 23 = (U.1 23) from rfl)).trans (tget_nI (by omega))).trans hp0]
  refine mw_go mu_g305 (k := 3) (f1 := (22, [(3, .inl (nI a)), (2, .inr (.inr (some m))), (0, .inr (.inr (some 129))), (1, .inl (nI k))], [.inr (.inr (mu_r H 129 2))], H)) (C := [mu_is H (some 129) 9]) rfl (show mu_is H (some 129) 9 from (h.1.1.is rfl)) ?_
  rw [(h.1.1.r (p := 129) (j := 2) (q := 118) rfl)]
  refine mw_go mu_g305 (k := 2) (f1 := (24, [(3, .inl (nI a)), (2, .inr (.inr (some m))), (0, .inr (.inr (some 129))), (1, .inl (nI k))], [.inl (1 : Int32), .inl (nI k), .inr (.inr (some 118))], H)) (C := []) rfl trivial ?_
  refine mw_cIe (fun _ => rfl) (show mu_is H (some 118) 10 from (h.1.1.is rfl)) (h.getr (d := (d + 1)) e (j := 23) (by decide) rfl (nI k) (c := 1) (by decide)) ?_
  rw [show (tget (U.1 23) (nI k) 1) = (nI a) from ((congrArg (fun z => tget z (nI k) 1) (show U.1 23 = (U.1 23) from rfl)).trans (tget_nI (by omega))).trans hp1]
  refine mw_go mu_g305 (k := 5) (f1 := (35, [(4, .inl ((nI a) - (1 : Int32))), (3, .inl (nI a)), (2, .inr (.inr (some m))), (0, .inr (.inr (some 129))), (1, .inl (nI k))], [.inr (.inr (mu_r H m 0))], H)) (C := [mu_is H (some m) 6]) rfl (show mu_is H (some m) 6 from (show mu_is H (some m) 6 from gi_im h.1.1 h.2)) ?_
  rw [(show mu_r H m 0 = some (m + 1) from (gi_mr h.1.1 h.2 (j := 0) (by decide)).trans (congrArg some (by omega)))]
  refine mw_go mu_g305 (k := 2) (f1 := (38, [(4, .inl ((nI a) - (1 : Int32))), (3, .inl (nI a)), (2, .inr (.inr (some m))), (0, .inr (.inr (some 129))), (1, .inl (nI k))], [.inl (0 : Int32), .inl ((nI a) - (1 : Int32)), .inr (.inr (some (m + 1)))], H)) (C := []) rfl trivial ?_
  refine mw_cIe (fun _ => rfl) (show mu_is H (some (m + 1)) 10 from ((h.1.1.w (md_w0 h.2)).1)) (h.getr (d := (d + 1)) e (j := 0) (by decide) rfl ((nI a) - (1 : Int32)) (c := 0) (by decide)) ?_
  rw [show (tget (U.1 0) ((nI a) - (1 : Int32)) 0) = (tget (U.1 0) ((nI a) - (1 : Int32)) 0) from congrArg (fun z => tget z ((nI a) - (1 : Int32)) 0) (show U.1 0 = (U.1 0) from rfl)]
  refine mw_go mu_g305 (k := 3) (f1 := (46, [(5, .inl (tget (U.1 0) ((nI a) - (1 : Int32)) 0)), (4, .inl ((nI a) - (1 : Int32))), (3, .inl (nI a)), (2, .inr (.inr (some m))), (0, .inr (.inr (some 129))), (1, .inl (nI k))], [.inl (nI a), .inl ((nI a) - (1 : Int32))], H)) (C := []) rfl trivial ?_
  refine mw_if (P := ((nI a) - (1 : Int32)) < (nI a)) (a := 63) (b := 49) (fun _ => rfl) trivial (fun h4 => ?_) (fun h4 => absurd (pred_lt ha) h4)
  refine mw_go mu_g305 (k := 1) (f1 := (64, [(5, .inl (tget (U.1 0) ((nI a) - (1 : Int32)) 0)), (4, .inl ((nI a) - (1 : Int32))), (3, .inl (nI a)), (2, .inr (.inr (some m))), (0, .inr (.inr (some 129))), (1, .inl (nI k))], [.inl (0 : Int32)], H)) (C := []) rfl trivial ?_
  exact mw_of (fun _ => mu_ret rfl trivial ⟨_, H, rfl, rfl, rfl⟩)
theorem side_p {p o ar : Nat} (hp : p = plen o ar) (ho : o = 16 ∨ o = 30) : 1 ≤ p := by
  rcases ho with y | y
  · rw [hp, y]; show 1 ≤ 2; omega
  · rw [hp, y]; show 1 ≤ ar + 1; omega
theorem rl_side (h : um m H) (e : ud m H = U) (hmo : U.2.2.2.1 99 0 = some m) (hj0c : U.1 0 = Y 0) (hC : Cc Y) (hb2 : (Y 0).1 ≤ 16777216) (hk : k < 2147483648) (hp0 : (U.1 23).2 k 0 = nI a) (hp1 : (U.1 23).2 k 1 = nI (a + (n + 1))) (hr : rg Y (im Y i0) false a (a + (n + 1))) : mu_TI (mu_D (d + 3)) 305 [.inr (.inr (some 129)), .inl (nI k)] H (fun x H1 => H1 = H ∧ (x = 0 ∨ (x = -1 ∧ (oc Y (a + n) = 16 ∨ oc Y (a + n) = 30) ∧ 1 ≤ n ∧ oc Y a = 3 ∧ SBC Y a 1 n) ∨ (x = 1 ∧ oc Y (a + n) = 16 ∧ 1 ≤ n ∧ oc Y (a + n - 1) = 3))) := by
  have hb := hr.2.1
  have hv := rg_pl hr
  have hvn := hv n (by omega)
  have htp1 : tpz Y a (n + 1) = 1 := by have y := rg_1 hr; rw [Nat.add_sub_cancel_left] at y; exact y
  rw [tpz_s] at htp1
  have hocn := (okc_n hC (show a + n < (Y 0).1 by omega)).2.1
  have hoca := (okc_n hC (show a < (Y 0).1 by omega)).2.1
  have hocp := (okc_n hC (show a + n - 1 < (Y 0).1 by omega)).2.1
  refine mu_meth (M := mu_m305) rfl rfl ?_
  refine mw_ht (mu_fn_of (show [0, 1].Nodup by decide)) ?_
  refine mw_go mu_g305 (k := 2) (f1 := (4, [(0, .inr (.inr (some 129))), (1, .inl (nI k))], [.inr (.inr (mu_r H 129 0))], H)) (C := [mu_is H (some 129) 9]) rfl (show mu_is H (some 129) 9 from (h.1.1.is rfl)) ?_
  rw [(h.1.1.r (p := 129) (j := 0) (q := 99) rfl)]
  refine mw_go mu_g305 (k := 1) (f1 := (7, [(0, .inr (.inr (some 129))), (1, .inl (nI k))], [.inr (.inr (mu_r H 99 0))], H)) (C := [mu_is H (some 99) 13]) rfl (show mu_is H (some 99) 13 from (h.1.1.is rfl)) ?_
  rw [(show mu_r H 99 0 = (some m) from (ud_q (U := U) (m := m) (P := 99) (j := 0) e rfl).trans hmo)]
  refine mw_go mu_g305 (k := 3) (f1 := (12, [(2, .inr (.inr (some m))), (0, .inr (.inr (some 129))), (1, .inl (nI k))], [.inr (.inr (mu_r H 129 2))], H)) (C := [mu_is H (some 129) 9]) rfl (show mu_is H (some 129) 9 from (h.1.1.is rfl)) ?_
  rw [(h.1.1.r (p := 129) (j := 2) (q := 118) rfl)]
  refine mw_go mu_g305 (k := 2) (f1 := (14, [(2, .inr (.inr (some m))), (0, .inr (.inr (some 129))), (1, .inl (nI k))], [.inl (0 : Int32), .inl (nI k), .inr (.inr (some 118))], H)) (C := []) rfl trivial ?_
  refine mw_cIe (fun _ => rfl) (show mu_is H (some 118) 10 from (h.1.1.is rfl)) (h.getr (d := (d + 1)) e (j := 23) (by decide) rfl (nI k) (c := 0) (by decide)) ?_
  rw [show (tget (U.1 23) (nI k) 0) = (nI a) from ((congrArg (fun z => tget z (nI k) 0) (show U.1 23 = (U.1 23) from rfl)).trans (tget_nI (by omega))).trans hp0]
  refine mw_go mu_g305 (k := 3) (f1 := (22, [(3, .inl (nI a)), (2, .inr (.inr (some m))), (0, .inr (.inr (some 129))), (1, .inl (nI k))], [.inr (.inr (mu_r H 129 2))], H)) (C := [mu_is H (some 129) 9]) rfl (show mu_is H (some 129) 9 from (h.1.1.is rfl)) ?_
  rw [(h.1.1.r (p := 129) (j := 2) (q := 118) rfl)]
  refine mw_go mu_g305 (k := 2) (f1 := (24, [(3, .inl (nI a)), (2, .inr (.inr (some m))), (0, .inr (.inr (some 129))), (1, .inl (nI k))], [.inl (1 : Int32), .inl (nI k), .inr (.inr (some 118))], H)) (C := []) rfl trivial ?_
  refine mw_cIe (fun _ => rfl) (show mu_is H (some 118) 10 from (h.1.1.is rfl)) (h.getr (d := (d + 1)) e (j := 23) (by decide) rfl (nI k) (c := 1) (by decide)) ?_
  rw [show (tget (U.1 23) (nI k) 1) = (nI (a + (n + 1))) from ((congrArg (fun z => tget z (nI k) 1) (show U.1 23 = (U.1 23) from rfl)).trans (tget_nI (by omega))).trans hp1]
  refine mw_go mu_g305 (k := 2) (f1 := (29, [(3, .inl (nI a)), (2, .inr (.inr (some m))), (0, .inr (.inr (some 129))), (1, .inl (nI k))], [.inl ((nI (a + (n + 1))) - (1 : Int32))], H)) (C := []) rfl trivial ?_
  rw [(show ((nI (a + (n + 1))) - (1 : Int32)) = (nI ((a + (n + 1)) - 1)) from (nI_sub (a := a + (n + 1)) (b := 1) (by omega)))]
  rw [show (nI ((a + (n + 1)) - 1)) = nI (a + n) from congrArg nI (by omega)]
  refine mw_go mu_g305 (k := 3) (f1 := (35, [(4, .inl (nI (a + n))), (3, .inl (nI a)), (2, .inr (.inr (some m))), (0, .inr (.inr (some 129))), (1, .inl (nI k))], [.inr (.inr (mu_r H m 0))], H)) (C := [mu_is H (some m) 6]) rfl (show mu_is H (some m) 6 from (show mu_is H (some m) 6 from gi_im h.1.1 h.2)) ?_
  rw [(show mu_r H m 0 = some (m + 1) from (gi_mr h.1.1 h.2 (j := 0) (by decide)).trans (congrArg some (by omega)))]
  refine mw_go mu_g305 (k := 2) (f1 := (38, [(4, .inl (nI (a + n))), (3, .inl (nI a)), (2, .inr (.inr (some m))), (0, .inr (.inr (some 129))), (1, .inl (nI k))], [.inl (0 : Int32), .inl (nI (a + n)), .inr (.inr (some (m + 1)))], H)) (C := []) rfl trivial ?_
  refine mw_cIe (fun _ => rfl) (show mu_is H (some (m + 1)) 10 from ((h.1.1.w (md_w0 h.2)).1)) (h.getr (d := (d + 1)) e (j := 0) (by decide) rfl (nI (a + n)) (c := 0) (by decide)) ?_
  rw [show (tget (U.1 0) (nI (a + n)) 0) = (nI (oc Y (a + n))) from ((congrArg (fun z => tget z (nI (a + n)) 0) (show U.1 0 = (U.1 0) from rfl)).trans (tget_nI (by omega))).trans ((congrArg (fun y => y.2 (a + n) 0) hj0c).trans (okc_n hC (show a + n < (Y 0).1 by omega)).1)]
  refine mw_go mu_g305 (k := 3) (f1 := (46, [(5, .inl (nI (oc Y (a + n)))), (4, .inl (nI (a + n))), (3, .inl (nI a)), (2, .inr (.inr (some m))), (0, .inr (.inr (some 129))), (1, .inl (nI k))], [.inl (nI a), .inl (nI (a + n))], H)) (C := []) rfl trivial ?_
  refine mw_if (P := (nI (a + n)) < (nI a)) (a := 63) (b := 49) (fun _ => rfl) trivial (fun h4 => absurd h4 (fun y => absurd ((nI_ltI (by omega) (by omega)).mp y) (by omega))) (fun h4 => ?_)
  refine mw_go mu_g305 (k := 2) (f1 := (53, [(5, .inl (nI (oc Y (a + n)))), (4, .inl (nI (a + n))), (3, .inl (nI a)), (2, .inr (.inr (some m))), (0, .inr (.inr (some 129))), (1, .inl (nI k))], [.inl (16 : Int32), .inl (nI (oc Y (a + n)))], H)) (C := []) rfl trivial ?_
  refine mw_if (P := (nI (oc Y (a + n))) = (16 : Int32)) (a := 65) (b := 56) (fun _ => rfl) trivial (fun h5 => ?_) (fun h5 => ?_)
  · -- 65: (nI (oc Y (a + n))) = (16 : Int32)
    have nh5 : (oc Y (a + n)) = 16 := (nI_eq (by omega) (by omega)).mp (show nI (oc Y (a + n)) = nI 16 from h5)
    have hop : oc Y (a + n) = 16 ∨ oc Y (a + n) = 30 := Or.inl nh5
    obtain ⟨ok1, ok2, ok3⟩ := okc_n hC (show a + n < (Y 0).1 by omega)
    obtain ⟨p, hpn⟩ : ∃ p, p = plen (oc Y (a + n)) (oa Y (a + n)) := ⟨_, rfl⟩
    have hp2 : 1 ≤ p := side_p hpn hop
    have hTn : tpz Y a n = p := by rw [← hpn] at htp1 hvn; omega
    have hn1 : 1 ≤ n := Nat.pos_of_ne_zero (fun y => by rw [y] at hTn; have y2 : tpz Y a 0 = 0 := rfl; omega)
    have htb := tpz_b Y a n
    refine mw_go mu_g305 (k := 3) (f1 := (69, [(5, .inl (nI (oc Y (a + n)))), (4, .inl (nI (a + n))), (3, .inl (nI a)), (2, .inr (.inr (some m))), (0, .inr (.inr (some 129))), (1, .inl (nI k))], [.inl ((nI (a + n)) - (1 : Int32))], H)) (C := []) rfl trivial ?_
    rw [(show ((nI (a + n)) - (1 : Int32)) = (nI ((a + n) - 1)) from (nI_sub (a := a + n) (b := 1) (by omega)))]
    refine mw_go mu_g305 (k := 3) (f1 := (74, [(7, .inl (1 : Int32)), (6, .inl (nI ((a + n) - 1))), (5, .inl (nI (oc Y (a + n)))), (4, .inl (nI (a + n))), (3, .inl (nI a)), (2, .inr (.inr (some m))), (0, .inr (.inr (some 129))), (1, .inl (nI k))], [], H)) (C := []) rfl trivial ?_
    show mu_W _ _ (74, [(7, .inl (nI 1)), (6, .inl (nI (a + n - 1))), (5, .inl (nI (oc Y (a + n)))), (4, .inl (nI (a + n))), (3, .inl (nI a)), (2, .inr (.inr (some m))), (0, .inr (.inr (some 129))), (1, .inl (nI k))], [], H) _
    refine mw_sub (L' := [(7, .inl (nI 1)), (6, .inl (nI (a + n - 1))), (0, .inr (.inr (some 129))), (1, .inl (nI k)), (2, .inr (.inr (some m))), (3, .inl (nI a)), (4, .inl (nI (a + n))), (5, .inl (nI (oc Y (a + n))))]) (by simp) ?_
    refine mw_down (α := Nat × Nat) (fun zs => (74, [(7, .inl (nI zs.1)), (6, .inl (nI (a + zs.2 - 1))), (0, .inr (.inr (some 129))), (1, .inl (nI k)), (2, .inr (.inr (some m))), (3, .inl (nI a)), (4, .inl (nI (a + n))), (5, .inl (nI (oc Y (a + n))))], [], H)) (fun zs => p - zs.1) (fun zs => (1 ≤ zs.1 ∧ zs.1 ≤ p) ∧ (1 ≤ zs.2 ∧ zs.2 ≤ n) ∧ (tpz Y a zs.2 + zs.1 = p + 1) ∧ (∀ q, zs.2 < q → q ≤ n → tpz Y a zs.2 + 1 ≤ tpz Y a q)) (fun zs hza iha => ?_) (1, n) ⟨(show 1 ≤ 1 ∧ 1 ≤ p from (by omega)), (show 1 ≤ n ∧ n ≤ n from (by omega)), (show tpz Y a n + 1 = p + 1 from (by omega)), (show ∀ q, n < q → q ≤ n → tpz Y a n + 1 ≤ tpz Y a q from (fun q q1 q2 => absurd q1 (by omega)))⟩
    obtain ⟨i, J⟩ := zs
    obtain ⟨hi, hJ, hT, hge⟩ := hza
    have hi : 1 ≤ i ∧ i ≤ p := hi
    have hJ : 1 ≤ J ∧ J ≤ n := hJ
    have hT : tpz Y a J + i = p + 1 := hT
    have hge : ∀ q, J < q → q ≤ n → tpz Y a J + 1 ≤ tpz Y a q := hge
    show mu_W _ _ (74, [(7, .inl (nI i)), (6, .inl (nI (a + J - 1))), (0, .inr (.inr (some 129))), (1, .inl (nI k)), (2, .inr (.inr (some m))), (3, .inl (nI a)), (4, .inl (nI (a + n))), (5, .inl (nI (oc Y (a + n))))], [], H) _
    refine mw_go mu_g305 (k := 4) (f1 := (82, [(7, .inl (nI i)), (6, .inl (nI (a + J - 1))), (0, .inr (.inr (some 129))), (1, .inl (nI k)), (2, .inr (.inr (some m))), (3, .inl (nI a)), (4, .inl (nI (a + n))), (5, .inl (nI (oc Y (a + n))))], [.inr (.inr (mu_r H m 0)), .inl (nI (oc Y (a + n))), .inl (nI i)], H)) (C := [mu_is H (some m) 6]) rfl (show mu_is H (some m) 6 from (show mu_is H (some m) 6 from gi_im h.1.1 h.2)) ?_
    rw [(show mu_r H m 0 = some (m + 1) from (gi_mr h.1.1 h.2 (j := 0) (by decide)).trans (congrArg some (by omega)))]
    refine mw_go mu_g305 (k := 2) (f1 := (85, [(7, .inl (nI i)), (6, .inl (nI (a + J - 1))), (0, .inr (.inr (some 129))), (1, .inl (nI k)), (2, .inr (.inr (some m))), (3, .inl (nI a)), (4, .inl (nI (a + n))), (5, .inl (nI (oc Y (a + n))))], [.inl (1 : Int32), .inl (nI (a + n)), .inr (.inr (some (m + 1))), .inl (nI (oc Y (a + n))), .inl (nI i)], H)) (C := []) rfl trivial ?_
    refine mw_cIe (fun _ => rfl) (show mu_is H (some (m + 1)) 10 from ((h.1.1.w (md_w0 h.2)).1)) (h.getr (d := (d + 1)) e (j := 0) (by decide) rfl (nI (a + n)) (c := 1) (by decide)) ?_
    rw [show (tget (U.1 0) (nI (a + n)) 1) = ((Y 0).2 (a + n) 1) from ((congrArg (fun z => tget z (nI (a + n)) 1) (show U.1 0 = (U.1 0) from rfl)).trans (tget_nI (by omega))).trans (congrArg (fun y => y.2 (a + n) 1) hj0c)]
    refine mw_cIe (fun _ => rfl) trivial (pv_parts2 (d := (d + 1)) (o := oc Y (a + n)) (a := oa Y (a + n)) ok2 (fun y => (ok3 y).1) (fun y => (ok3 y).2.2)) ?_
    rw [← hpn]
    refine mw_if (P := (nI i) < (nI p)) (a := 94) (b := 110) (fun _ => rfl) trivial (fun h8 => ?_) (fun h8 => ?_)
    · -- 94: (nI i) < (nI p)
      have nh8 : i < p := (nI_ltI (by omega) (by omega)).mp (show nI i < nI p from h8)
      refine mw_go mu_g305 (k := 2) (f1 := (97, [(7, .inl (nI i)), (6, .inl (nI (a + J - 1))), (0, .inr (.inr (some 129))), (1, .inl (nI k)), (2, .inr (.inr (some m))), (3, .inl (nI a)), (4, .inl (nI (a + n))), (5, .inl (nI (oc Y (a + n))))], [.inl (nI (a + J - 1)), .inr (.inr (some m))], H)) (C := []) rfl trivial ?_
      obtain ⟨j, hj1, hj2, hj3⟩ := part_ex (Y := Y) (a := a) (n := J) (by omega)
      have hj0 : 1 ≤ j := Nat.pos_of_ne_zero (fun y => by rw [y] at hj2; have y2 : tpz Y a 0 = 0 := rfl; omega)
      refine mw_cIe (fun _ => rfl) (show mu_is H (some m) 6 from (show mu_is H (some m) 6 from gi_im h.1.1 h.2)) (um_start (d := d) (a := a) (n := J) (j := j) h e hj0c hC (fun q hq => hv q (by omega)) (by omega) hb2 (by omega) hj1 hj2 hj3) ?_
      refine mw_go mu_g305 (k := 2) (f1 := (102, [(7, .inl (nI i)), (6, .inl (nI (a + J - 1))), (0, .inr (.inr (some 129))), (1, .inl (nI k)), (2, .inr (.inr (some m))), (3, .inl (nI a)), (4, .inl (nI (a + n))), (5, .inl (nI (oc Y (a + n))))], [.inl ((nI (a + j)) - (1 : Int32))], H)) (C := []) rfl trivial ?_
      rw [(show ((nI (a + j)) - (1 : Int32)) = (nI ((a + j) - 1)) from (nI_sub (a := a + j) (b := 1) (by omega)))]
      refine mw_go mu_g305 (k := 2) (f1 := (107, [(7, .inl ((nI i) + 1)), (6, .inl (nI ((a + j) - 1))), (0, .inr (.inr (some 129))), (1, .inl (nI k)), (2, .inr (.inr (some m))), (3, .inl (nI a)), (4, .inl (nI (a + n))), (5, .inl (nI (oc Y (a + n))))], [], H)) (C := []) rfl trivial ?_
      rw [(show ((nI i) + 1) = (nI (i + 1)) from (nI_add i 1))]
      refine mw_go mu_g305 (k := 1) (f1 := (74, [(7, .inl (nI (i + 1))), (6, .inl (nI ((a + j) - 1))), (0, .inr (.inr (some 129))), (1, .inl (nI k)), (2, .inr (.inr (some m))), (3, .inl (nI a)), (4, .inl (nI (a + n))), (5, .inl (nI (oc Y (a + n))))], [], H)) (C := []) rfl trivial ?_
      show mu_W _ _ (74, [(7, .inl (nI (i + 1))), (6, .inl (nI (a + j - 1))), (0, .inr (.inr (some 129))), (1, .inl (nI k)), (2, .inr (.inr (some m))), (3, .inl (nI a)), (4, .inl (nI (a + n))), (5, .inl (nI (oc Y (a + n))))], [], H) _
      exact mw_sub (by simp) (iha (i + 1, j) ⟨(show 1 ≤ (i + 1) ∧ (i + 1) ≤ p from (by omega)), (show 1 ≤ j ∧ j ≤ n from (by omega)), (show tpz Y a j + (i + 1) = p + 1 from (by omega)), (show ∀ q, j < q → q ≤ n → tpz Y a j + 1 ≤ tpz Y a q from (fun q q1 q2 => by by_cases y : q ≤ J; (have y2 := hj3 q q1 y; omega); (have y2 := hge q (by omega) q2; omega)))⟩ (by show p - (i + 1) < p - i; omega))
    · -- 110: not (nI i) < (nI p)
      have nh8 : ¬ i < p := fun z => h8 (show nI i < nI p from (nI_ltI (by omega) (by omega)).mpr z)
      refine mw_go mu_g305 (k := 2) (f1 := (113, [(7, .inl (nI i)), (6, .inl (nI (a + J - 1))), (0, .inr (.inr (some 129))), (1, .inl (nI k)), (2, .inr (.inr (some m))), (3, .inl (nI a)), (4, .inl (nI (a + n))), (5, .inl (nI (oc Y (a + n))))], [.inl (nI a), .inl (nI (a + J - 1))], H)) (C := []) rfl trivial ?_
      refine mw_if (P := (nI (a + J - 1)) = (nI a)) (a := 116) (b := 131) (fun _ => rfl) trivial (fun h10 => ?_) (fun h10 => ?_)
      · -- 116: (nI (a + J - 1)) = (nI a)
        have nh10 : (a + J - 1) = a := (nI_eq (by omega) (by omega)).mp (show nI (a + J - 1) = nI a from h10)
        refine mw_go mu_g305 (k := 2) (f1 := (120, [(7, .inl (nI i)), (6, .inl (nI (a + J - 1))), (0, .inr (.inr (some 129))), (1, .inl (nI k)), (2, .inr (.inr (some m))), (3, .inl (nI a)), (4, .inl (nI (a + n))), (5, .inl (nI (oc Y (a + n))))], [.inr (.inr (mu_r H m 0))], H)) (C := [mu_is H (some m) 6]) rfl (show mu_is H (some m) 6 from (show mu_is H (some m) 6 from gi_im h.1.1 h.2)) ?_
        rw [(show mu_r H m 0 = some (m + 1) from (gi_mr h.1.1 h.2 (j := 0) (by decide)).trans (congrArg some (by omega)))]
        refine mw_go mu_g305 (k := 2) (f1 := (122, [(7, .inl (nI i)), (6, .inl (nI (a + J - 1))), (0, .inr (.inr (some 129))), (1, .inl (nI k)), (2, .inr (.inr (some m))), (3, .inl (nI a)), (4, .inl (nI (a + n))), (5, .inl (nI (oc Y (a + n))))], [.inl (0 : Int32), .inl (nI a), .inr (.inr (some (m + 1)))], H)) (C := []) rfl trivial ?_
        refine mw_cIe (fun _ => rfl) (show mu_is H (some (m + 1)) 10 from ((h.1.1.w (md_w0 h.2)).1)) (h.getr (d := (d + 1)) e (j := 0) (by decide) rfl (nI a) (c := 0) (by decide)) ?_
        rw [show (tget (U.1 0) (nI a) 0) = (nI (oc Y a)) from ((congrArg (fun z => tget z (nI a) 0) (show U.1 0 = (U.1 0) from rfl)).trans (tget_nI (by omega))).trans ((congrArg (fun y => y.2 a 0) hj0c).trans (okc_n hC (show a < (Y 0).1 by omega)).1)]
        refine mw_go mu_g305 (k := 1) (f1 := (126, [(7, .inl (nI i)), (6, .inl (nI (a + J - 1))), (0, .inr (.inr (some 129))), (1, .inl (nI k)), (2, .inr (.inr (some m))), (3, .inl (nI a)), (4, .inl (nI (a + n))), (5, .inl (nI (oc Y (a + n))))], [.inl (3 : Int32), .inl (nI (oc Y a))], H)) (C := []) rfl trivial ?_
        refine mw_if (P := (nI (oc Y a)) = (3 : Int32)) (a := 129) (b := 131) (fun _ => rfl) trivial (fun h12 => ?_) (fun h12 => ?_)
        · -- 129: (nI (oc Y a)) = (3 : Int32)
          have nh12 : (oc Y a) = 3 := (nI_eq (by omega) (by omega)).mp (show nI (oc Y a) = nI 3 from h12)
          refine mw_go mu_g305 (k := 1) (f1 := (130, [(7, .inl (nI i)), (6, .inl (nI (a + J - 1))), (0, .inr (.inr (some 129))), (1, .inl (nI k)), (2, .inr (.inr (some m))), (3, .inl (nI a)), (4, .inl (nI (a + n))), (5, .inl (nI (oc Y (a + n))))], [.inl (-1 : Int32)], H)) (C := []) rfl trivial ?_
          have hJ1 : J = 1 := by omega
          subst hJ1
          exact mw_of (fun _ => mu_ret rfl trivial ⟨_, H, rfl, rfl, Or.inr (Or.inl ⟨rfl, hop, hn1, nh12, ⟨hn1, fun q hq => hv q (by omega), hge⟩⟩)⟩)
        · -- 131: not (nI (oc Y a)) = (3 : Int32)
          have nh12 : ¬ (oc Y a) = 3 := fun z => h12 (show nI (oc Y a) = nI 3 from (nI_eq (by omega) (by omega)).mpr z)
          refine mw_go mu_g305 (k := 2) (f1 := (135, [(7, .inl (nI i)), (6, .inl (nI (a + J - 1))), (0, .inr (.inr (some 129))), (1, .inl (nI k)), (2, .inr (.inr (some m))), (3, .inl (nI a)), (4, .inl (nI (a + n))), (5, .inl (nI (oc Y (a + n))))], [.inl (16 : Int32), .inl (nI (oc Y (a + n)))], H)) (C := []) rfl trivial ?_
          refine mw_if (P := (nI (oc Y (a + n))) = (16 : Int32)) (a := 138) (b := 158) (fun _ => rfl) trivial (fun _ => ?_) (fun h13 => absurd h5 h13)
          refine mw_go mu_g305 (k := 2) (f1 := (142, [(7, .inl (nI i)), (6, .inl (nI (a + J - 1))), (0, .inr (.inr (some 129))), (1, .inl (nI k)), (2, .inr (.inr (some m))), (3, .inl (nI a)), (4, .inl (nI (a + n))), (5, .inl (nI (oc Y (a + n))))], [.inr (.inr (mu_r H m 0))], H)) (C := [mu_is H (some m) 6]) rfl (show mu_is H (some m) 6 from (show mu_is H (some m) 6 from gi_im h.1.1 h.2)) ?_
          rw [(show mu_r H m 0 = some (m + 1) from (gi_mr h.1.1 h.2 (j := 0) (by decide)).trans (congrArg some (by omega)))]
          refine mw_go mu_g305 (k := 3) (f1 := (146, [(7, .inl (nI i)), (6, .inl (nI (a + J - 1))), (0, .inr (.inr (some 129))), (1, .inl (nI k)), (2, .inr (.inr (some m))), (3, .inl (nI a)), (4, .inl (nI (a + n))), (5, .inl (nI (oc Y (a + n))))], [.inl ((nI (a + n)) - (1 : Int32)), .inr (.inr (some (m + 1)))], H)) (C := []) rfl trivial ?_
          rw [(show ((nI (a + n)) - (1 : Int32)) = (nI ((a + n) - 1)) from (nI_sub (a := a + n) (b := 1) (by omega)))]
          refine mw_go mu_g305 (k := 1) (f1 := (147, [(7, .inl (nI i)), (6, .inl (nI (a + J - 1))), (0, .inr (.inr (some 129))), (1, .inl (nI k)), (2, .inr (.inr (some m))), (3, .inl (nI a)), (4, .inl (nI (a + n))), (5, .inl (nI (oc Y (a + n))))], [.inl (0 : Int32), .inl (nI ((a + n) - 1)), .inr (.inr (some (m + 1)))], H)) (C := []) rfl trivial ?_
          refine mw_cIe (fun _ => rfl) (show mu_is H (some (m + 1)) 10 from ((h.1.1.w (md_w0 h.2)).1)) (h.getr (d := (d + 1)) e (j := 0) (by decide) rfl (nI ((a + n) - 1)) (c := 0) (by decide)) ?_
          rw [show (tget (U.1 0) (nI ((a + n) - 1)) 0) = (nI (oc Y ((a + n) - 1))) from ((congrArg (fun z => tget z (nI ((a + n) - 1)) 0) (show U.1 0 = (U.1 0) from rfl)).trans (tget_nI (by omega))).trans ((congrArg (fun y => y.2 ((a + n) - 1) 0) hj0c).trans (okc_n hC (show (a + n) - 1 < (Y 0).1 by omega)).1)]
          refine mw_go mu_g305 (k := 1) (f1 := (151, [(7, .inl (nI i)), (6, .inl (nI (a + J - 1))), (0, .inr (.inr (some 129))), (1, .inl (nI k)), (2, .inr (.inr (some m))), (3, .inl (nI a)), (4, .inl (nI (a + n))), (5, .inl (nI (oc Y (a + n))))], [.inl (3 : Int32), .inl (nI (oc Y ((a + n) - 1)))], H)) (C := []) rfl trivial ?_
          refine mw_if (P := (nI (oc Y ((a + n) - 1))) = (3 : Int32)) (a := 154) (b := 158) (fun _ => rfl) trivial (fun h15 => ?_) (fun h15 => ?_)
          · -- 154: (nI (oc Y ((a + n) - 1))) = (3 : Int32)
            have nh15 : (oc Y ((a + n) - 1)) = 3 := (nI_eq (by omega) (by omega)).mp (show nI (oc Y ((a + n) - 1)) = nI 3 from h15)
            refine mw_go mu_g305 (k := 2) (f1 := (159, [(7, .inl (nI i)), (6, .inl (nI (a + J - 1))), (0, .inr (.inr (some 129))), (1, .inl (nI k)), (2, .inr (.inr (some m))), (3, .inl (nI a)), (4, .inl (nI (a + n))), (5, .inl (nI (oc Y (a + n))))], [.inl (1 : Int32)], H)) (C := []) rfl trivial ?_
            exact mw_of (fun _ => mu_ret rfl trivial ⟨_, H, rfl, rfl, Or.inr (Or.inr ⟨rfl, nh5, hn1, nh15⟩)⟩)
          · -- 158: not (nI (oc Y ((a + n) - 1))) = (3 : Int32)
            have nh15 : ¬ (oc Y ((a + n) - 1)) = 3 := fun z => h15 (show nI (oc Y ((a + n) - 1)) = nI 3 from (nI_eq (by omega) (by omega)).mpr z)
            refine mw_go mu_g305 (k := 1) (f1 := (159, [(7, .inl (nI i)), (6, .inl (nI (a + J - 1))), (0, .inr (.inr (some 129))), (1, .inl (nI k)), (2, .inr (.inr (some m))), (3, .inl (nI a)), (4, .inl (nI (a + n))), (5, .inl (nI (oc Y (a + n))))], [.inl (0 : Int32)], H)) (C := []) rfl trivial ?_
            exact mw_of (fun _ => mu_ret rfl trivial ⟨_, H, rfl, rfl, Or.inl rfl⟩)
      · -- 131: not (nI (a + J - 1)) = (nI a)
        have nh10 : ¬ (a + J - 1) = a := fun z => h10 (show nI (a + J - 1) = nI a from (nI_eq (by omega) (by omega)).mpr z)
        refine mw_go mu_g305 (k := 2) (f1 := (135, [(7, .inl (nI i)), (6, .inl (nI (a + J - 1))), (0, .inr (.inr (some 129))), (1, .inl (nI k)), (2, .inr (.inr (some m))), (3, .inl (nI a)), (4, .inl (nI (a + n))), (5, .inl (nI (oc Y (a + n))))], [.inl (16 : Int32), .inl (nI (oc Y (a + n)))], H)) (C := []) rfl trivial ?_
        refine mw_if (P := (nI (oc Y (a + n))) = (16 : Int32)) (a := 138) (b := 158) (fun _ => rfl) trivial (fun _ => ?_) (fun h16 => absurd h5 h16)
        refine mw_go mu_g305 (k := 2) (f1 := (142, [(7, .inl (nI i)), (6, .inl (nI (a + J - 1))), (0, .inr (.inr (some 129))), (1, .inl (nI k)), (2, .inr (.inr (some m))), (3, .inl (nI a)), (4, .inl (nI (a + n))), (5, .inl (nI (oc Y (a + n))))], [.inr (.inr (mu_r H m 0))], H)) (C := [mu_is H (some m) 6]) rfl (show mu_is H (some m) 6 from (show mu_is H (some m) 6 from gi_im h.1.1 h.2)) ?_
        rw [(show mu_r H m 0 = some (m + 1) from (gi_mr h.1.1 h.2 (j := 0) (by decide)).trans (congrArg some (by omega)))]
        refine mw_go mu_g305 (k := 3) (f1 := (146, [(7, .inl (nI i)), (6, .inl (nI (a + J - 1))), (0, .inr (.inr (some 129))), (1, .inl (nI k)), (2, .inr (.inr (some m))), (3, .inl (nI a)), (4, .inl (nI (a + n))), (5, .inl (nI (oc Y (a + n))))], [.inl ((nI (a + n)) - (1 : Int32)), .inr (.inr (some (m + 1)))], H)) (C := []) rfl trivial ?_
        rw [(show ((nI (a + n)) - (1 : Int32)) = (nI ((a + n) - 1)) from (nI_sub (a := a + n) (b := 1) (by omega)))]
        refine mw_go mu_g305 (k := 1) (f1 := (147, [(7, .inl (nI i)), (6, .inl (nI (a + J - 1))), (0, .inr (.inr (some 129))), (1, .inl (nI k)), (2, .inr (.inr (some m))), (3, .inl (nI a)), (4, .inl (nI (a + n))), (5, .inl (nI (oc Y (a + n))))], [.inl (0 : Int32), .inl (nI ((a + n) - 1)), .inr (.inr (some (m + 1)))], H)) (C := []) rfl trivial ?_
        refine mw_cIe (fun _ => rfl) (show mu_is H (some (m + 1)) 10 from ((h.1.1.w (md_w0 h.2)).1)) (h.getr (d := (d + 1)) e (j := 0) (by decide) rfl (nI ((a + n) - 1)) (c := 0) (by decide)) ?_
        rw [show (tget (U.1 0) (nI ((a + n) - 1)) 0) = (nI (oc Y ((a + n) - 1))) from ((congrArg (fun z => tget z (nI ((a + n) - 1)) 0) (show U.1 0 = (U.1 0) from rfl)).trans (tget_nI (by omega))).trans ((congrArg (fun y => y.2 ((a + n) - 1) 0) hj0c).trans (okc_n hC (show (a + n) - 1 < (Y 0).1 by omega)).1)]
        refine mw_go mu_g305 (k := 1) (f1 := (151, [(7, .inl (nI i)), (6, .inl (nI (a + J - 1))), (0, .inr (.inr (some 129))), (1, .inl (nI k)), (2, .inr (.inr (some m))), (3, .inl (nI a)), (4, .inl (nI (a + n))), (5, .inl (nI (oc Y (a + n))))], [.inl (3 : Int32), .inl (nI (oc Y ((a + n) - 1)))], H)) (C := []) rfl trivial ?_
        refine mw_if (P := (nI (oc Y ((a + n) - 1))) = (3 : Int32)) (a := 154) (b := 158) (fun _ => rfl) trivial (fun h18 => ?_) (fun h18 => ?_)
        · -- 154: (nI (oc Y ((a + n) - 1))) = (3 : Int32)
          have nh18 : (oc Y ((a + n) - 1)) = 3 := (nI_eq (by omega) (by omega)).mp (show nI (oc Y ((a + n) - 1)) = nI 3 from h18)
          refine mw_go mu_g305 (k := 2) (f1 := (159, [(7, .inl (nI i)), (6, .inl (nI (a + J - 1))), (0, .inr (.inr (some 129))), (1, .inl (nI k)), (2, .inr (.inr (some m))), (3, .inl (nI a)), (4, .inl (nI (a + n))), (5, .inl (nI (oc Y (a + n))))], [.inl (1 : Int32)], H)) (C := []) rfl trivial ?_
          exact mw_of (fun _ => mu_ret rfl trivial ⟨_, H, rfl, rfl, Or.inr (Or.inr ⟨rfl, nh5, hn1, nh18⟩)⟩)
        · -- 158: not (nI (oc Y ((a + n) - 1))) = (3 : Int32)
          have nh18 : ¬ (oc Y ((a + n) - 1)) = 3 := fun z => h18 (show nI (oc Y ((a + n) - 1)) = nI 3 from (nI_eq (by omega) (by omega)).mpr z)
          refine mw_go mu_g305 (k := 1) (f1 := (159, [(7, .inl (nI i)), (6, .inl (nI (a + J - 1))), (0, .inr (.inr (some 129))), (1, .inl (nI k)), (2, .inr (.inr (some m))), (3, .inl (nI a)), (4, .inl (nI (a + n))), (5, .inl (nI (oc Y (a + n))))], [.inl (0 : Int32)], H)) (C := []) rfl trivial ?_
          exact mw_of (fun _ => mu_ret rfl trivial ⟨_, H, rfl, rfl, Or.inl rfl⟩)
  · -- 56: not (nI (oc Y (a + n))) = (16 : Int32)
    have nh5 : ¬ (oc Y (a + n)) = 16 := fun z => h5 (show nI (oc Y (a + n)) = nI 16 from (nI_eq (by omega) (by omega)).mpr z)
    refine mw_go mu_g305 (k := 2) (f1 := (60, [(5, .inl (nI (oc Y (a + n)))), (4, .inl (nI (a + n))), (3, .inl (nI a)), (2, .inr (.inr (some m))), (0, .inr (.inr (some 129))), (1, .inl (nI k))], [.inl (30 : Int32), .inl (nI (oc Y (a + n)))], H)) (C := []) rfl trivial ?_
    refine mw_if (P := (nI (oc Y (a + n))) = (30 : Int32)) (a := 65) (b := 63) (fun _ => rfl) trivial (fun h19 => ?_) (fun h19 => ?_)
    · -- 65: (nI (oc Y (a + n))) = (30 : Int32)
      have nh19 : (oc Y (a + n)) = 30 := (nI_eq (by omega) (by omega)).mp (show nI (oc Y (a + n)) = nI 30 from h19)
      have hop : oc Y (a + n) = 16 ∨ oc Y (a + n) = 30 := Or.inr nh19
      obtain ⟨ok1, ok2, ok3⟩ := okc_n hC (show a + n < (Y 0).1 by omega)
      obtain ⟨p, hpn⟩ : ∃ p, p = plen (oc Y (a + n)) (oa Y (a + n)) := ⟨_, rfl⟩
      have hp2 : 1 ≤ p := side_p hpn hop
      have hTn : tpz Y a n = p := by rw [← hpn] at htp1 hvn; omega
      have hn1 : 1 ≤ n := Nat.pos_of_ne_zero (fun y => by rw [y] at hTn; have y2 : tpz Y a 0 = 0 := rfl; omega)
      have htb := tpz_b Y a n
      refine mw_go mu_g305 (k := 3) (f1 := (69, [(5, .inl (nI (oc Y (a + n)))), (4, .inl (nI (a + n))), (3, .inl (nI a)), (2, .inr (.inr (some m))), (0, .inr (.inr (some 129))), (1, .inl (nI k))], [.inl ((nI (a + n)) - (1 : Int32))], H)) (C := []) rfl trivial ?_
      rw [(show ((nI (a + n)) - (1 : Int32)) = (nI ((a + n) - 1)) from (nI_sub (a := a + n) (b := 1) (by omega)))]
      refine mw_go mu_g305 (k := 3) (f1 := (74, [(7, .inl (1 : Int32)), (6, .inl (nI ((a + n) - 1))), (5, .inl (nI (oc Y (a + n)))), (4, .inl (nI (a + n))), (3, .inl (nI a)), (2, .inr (.inr (some m))), (0, .inr (.inr (some 129))), (1, .inl (nI k))], [], H)) (C := []) rfl trivial ?_
      show mu_W _ _ (74, [(7, .inl (nI 1)), (6, .inl (nI (a + n - 1))), (5, .inl (nI (oc Y (a + n)))), (4, .inl (nI (a + n))), (3, .inl (nI a)), (2, .inr (.inr (some m))), (0, .inr (.inr (some 129))), (1, .inl (nI k))], [], H) _
      refine mw_sub (L' := [(7, .inl (nI 1)), (6, .inl (nI (a + n - 1))), (0, .inr (.inr (some 129))), (1, .inl (nI k)), (2, .inr (.inr (some m))), (3, .inl (nI a)), (4, .inl (nI (a + n))), (5, .inl (nI (oc Y (a + n))))]) (by simp) ?_
      refine mw_down (α := Nat × Nat) (fun zs => (74, [(7, .inl (nI zs.1)), (6, .inl (nI (a + zs.2 - 1))), (0, .inr (.inr (some 129))), (1, .inl (nI k)), (2, .inr (.inr (some m))), (3, .inl (nI a)), (4, .inl (nI (a + n))), (5, .inl (nI (oc Y (a + n))))], [], H)) (fun zs => p - zs.1) (fun zs => (1 ≤ zs.1 ∧ zs.1 ≤ p) ∧ (1 ≤ zs.2 ∧ zs.2 ≤ n) ∧ (tpz Y a zs.2 + zs.1 = p + 1) ∧ (∀ q, zs.2 < q → q ≤ n → tpz Y a zs.2 + 1 ≤ tpz Y a q)) (fun zs hza iha => ?_) (1, n) ⟨(show 1 ≤ 1 ∧ 1 ≤ p from (by omega)), (show 1 ≤ n ∧ n ≤ n from (by omega)), (show tpz Y a n + 1 = p + 1 from (by omega)), (show ∀ q, n < q → q ≤ n → tpz Y a n + 1 ≤ tpz Y a q from (fun q q1 q2 => absurd q1 (by omega)))⟩
      obtain ⟨i, J⟩ := zs
      obtain ⟨hi, hJ, hT, hge⟩ := hza
      have hi : 1 ≤ i ∧ i ≤ p := hi
      have hJ : 1 ≤ J ∧ J ≤ n := hJ
      have hT : tpz Y a J + i = p + 1 := hT
      have hge : ∀ q, J < q → q ≤ n → tpz Y a J + 1 ≤ tpz Y a q := hge
      show mu_W _ _ (74, [(7, .inl (nI i)), (6, .inl (nI (a + J - 1))), (0, .inr (.inr (some 129))), (1, .inl (nI k)), (2, .inr (.inr (some m))), (3, .inl (nI a)), (4, .inl (nI (a + n))), (5, .inl (nI (oc Y (a + n))))], [], H) _
      refine mw_go mu_g305 (k := 4) (f1 := (82, [(7, .inl (nI i)), (6, .inl (nI (a + J - 1))), (0, .inr (.inr (some 129))), (1, .inl (nI k)), (2, .inr (.inr (some m))), (3, .inl (nI a)), (4, .inl (nI (a + n))), (5, .inl (nI (oc Y (a + n))))], [.inr (.inr (mu_r H m 0)), .inl (nI (oc Y (a + n))), .inl (nI i)], H)) (C := [mu_is H (some m) 6]) rfl (show mu_is H (some m) 6 from (show mu_is H (some m) 6 from gi_im h.1.1 h.2)) ?_
      rw [(show mu_r H m 0 = some (m + 1) from (gi_mr h.1.1 h.2 (j := 0) (by decide)).trans (congrArg some (by omega)))]
      refine mw_go mu_g305 (k := 2) (f1 := (85, [(7, .inl (nI i)), (6, .inl (nI (a + J - 1))), (0, .inr (.inr (some 129))), (1, .inl (nI k)), (2, .inr (.inr (some m))), (3, .inl (nI a)), (4, .inl (nI (a + n))), (5, .inl (nI (oc Y (a + n))))], [.inl (1 : Int32), .inl (nI (a + n)), .inr (.inr (some (m + 1))), .inl (nI (oc Y (a + n))), .inl (nI i)], H)) (C := []) rfl trivial ?_
      refine mw_cIe (fun _ => rfl) (show mu_is H (some (m + 1)) 10 from ((h.1.1.w (md_w0 h.2)).1)) (h.getr (d := (d + 1)) e (j := 0) (by decide) rfl (nI (a + n)) (c := 1) (by decide)) ?_
      rw [show (tget (U.1 0) (nI (a + n)) 1) = ((Y 0).2 (a + n) 1) from ((congrArg (fun z => tget z (nI (a + n)) 1) (show U.1 0 = (U.1 0) from rfl)).trans (tget_nI (by omega))).trans (congrArg (fun y => y.2 (a + n) 1) hj0c)]
      refine mw_cIe (fun _ => rfl) trivial (pv_parts2 (d := (d + 1)) (o := oc Y (a + n)) (a := oa Y (a + n)) ok2 (fun y => (ok3 y).1) (fun y => (ok3 y).2.2)) ?_
      rw [← hpn]
      refine mw_if (P := (nI i) < (nI p)) (a := 94) (b := 110) (fun _ => rfl) trivial (fun h22 => ?_) (fun h22 => ?_)
      · -- 94: (nI i) < (nI p)
        have nh22 : i < p := (nI_ltI (by omega) (by omega)).mp (show nI i < nI p from h22)
        refine mw_go mu_g305 (k := 2) (f1 := (97, [(7, .inl (nI i)), (6, .inl (nI (a + J - 1))), (0, .inr (.inr (some 129))), (1, .inl (nI k)), (2, .inr (.inr (some m))), (3, .inl (nI a)), (4, .inl (nI (a + n))), (5, .inl (nI (oc Y (a + n))))], [.inl (nI (a + J - 1)), .inr (.inr (some m))], H)) (C := []) rfl trivial ?_
        obtain ⟨j, hj1, hj2, hj3⟩ := part_ex (Y := Y) (a := a) (n := J) (by omega)
        have hj0 : 1 ≤ j := Nat.pos_of_ne_zero (fun y => by rw [y] at hj2; have y2 : tpz Y a 0 = 0 := rfl; omega)
        refine mw_cIe (fun _ => rfl) (show mu_is H (some m) 6 from (show mu_is H (some m) 6 from gi_im h.1.1 h.2)) (um_start (d := d) (a := a) (n := J) (j := j) h e hj0c hC (fun q hq => hv q (by omega)) (by omega) hb2 (by omega) hj1 hj2 hj3) ?_
        refine mw_go mu_g305 (k := 2) (f1 := (102, [(7, .inl (nI i)), (6, .inl (nI (a + J - 1))), (0, .inr (.inr (some 129))), (1, .inl (nI k)), (2, .inr (.inr (some m))), (3, .inl (nI a)), (4, .inl (nI (a + n))), (5, .inl (nI (oc Y (a + n))))], [.inl ((nI (a + j)) - (1 : Int32))], H)) (C := []) rfl trivial ?_
        rw [(show ((nI (a + j)) - (1 : Int32)) = (nI ((a + j) - 1)) from (nI_sub (a := a + j) (b := 1) (by omega)))]
        refine mw_go mu_g305 (k := 2) (f1 := (107, [(7, .inl ((nI i) + 1)), (6, .inl (nI ((a + j) - 1))), (0, .inr (.inr (some 129))), (1, .inl (nI k)), (2, .inr (.inr (some m))), (3, .inl (nI a)), (4, .inl (nI (a + n))), (5, .inl (nI (oc Y (a + n))))], [], H)) (C := []) rfl trivial ?_
        rw [(show ((nI i) + 1) = (nI (i + 1)) from (nI_add i 1))]
        refine mw_go mu_g305 (k := 1) (f1 := (74, [(7, .inl (nI (i + 1))), (6, .inl (nI ((a + j) - 1))), (0, .inr (.inr (some 129))), (1, .inl (nI k)), (2, .inr (.inr (some m))), (3, .inl (nI a)), (4, .inl (nI (a + n))), (5, .inl (nI (oc Y (a + n))))], [], H)) (C := []) rfl trivial ?_
        show mu_W _ _ (74, [(7, .inl (nI (i + 1))), (6, .inl (nI (a + j - 1))), (0, .inr (.inr (some 129))), (1, .inl (nI k)), (2, .inr (.inr (some m))), (3, .inl (nI a)), (4, .inl (nI (a + n))), (5, .inl (nI (oc Y (a + n))))], [], H) _
        exact mw_sub (by simp) (iha (i + 1, j) ⟨(show 1 ≤ (i + 1) ∧ (i + 1) ≤ p from (by omega)), (show 1 ≤ j ∧ j ≤ n from (by omega)), (show tpz Y a j + (i + 1) = p + 1 from (by omega)), (show ∀ q, j < q → q ≤ n → tpz Y a j + 1 ≤ tpz Y a q from (fun q q1 q2 => by by_cases y : q ≤ J; (have y2 := hj3 q q1 y; omega); (have y2 := hge q (by omega) q2; omega)))⟩ (by show p - (i + 1) < p - i; omega))
      · -- 110: not (nI i) < (nI p)
        have nh22 : ¬ i < p := fun z => h22 (show nI i < nI p from (nI_ltI (by omega) (by omega)).mpr z)
        refine mw_go mu_g305 (k := 2) (f1 := (113, [(7, .inl (nI i)), (6, .inl (nI (a + J - 1))), (0, .inr (.inr (some 129))), (1, .inl (nI k)), (2, .inr (.inr (some m))), (3, .inl (nI a)), (4, .inl (nI (a + n))), (5, .inl (nI (oc Y (a + n))))], [.inl (nI a), .inl (nI (a + J - 1))], H)) (C := []) rfl trivial ?_
        refine mw_if (P := (nI (a + J - 1)) = (nI a)) (a := 116) (b := 131) (fun _ => rfl) trivial (fun h24 => ?_) (fun h24 => ?_)
        · -- 116: (nI (a + J - 1)) = (nI a)
          have nh24 : (a + J - 1) = a := (nI_eq (by omega) (by omega)).mp (show nI (a + J - 1) = nI a from h24)
          refine mw_go mu_g305 (k := 2) (f1 := (120, [(7, .inl (nI i)), (6, .inl (nI (a + J - 1))), (0, .inr (.inr (some 129))), (1, .inl (nI k)), (2, .inr (.inr (some m))), (3, .inl (nI a)), (4, .inl (nI (a + n))), (5, .inl (nI (oc Y (a + n))))], [.inr (.inr (mu_r H m 0))], H)) (C := [mu_is H (some m) 6]) rfl (show mu_is H (some m) 6 from (show mu_is H (some m) 6 from gi_im h.1.1 h.2)) ?_
          rw [(show mu_r H m 0 = some (m + 1) from (gi_mr h.1.1 h.2 (j := 0) (by decide)).trans (congrArg some (by omega)))]
          refine mw_go mu_g305 (k := 2) (f1 := (122, [(7, .inl (nI i)), (6, .inl (nI (a + J - 1))), (0, .inr (.inr (some 129))), (1, .inl (nI k)), (2, .inr (.inr (some m))), (3, .inl (nI a)), (4, .inl (nI (a + n))), (5, .inl (nI (oc Y (a + n))))], [.inl (0 : Int32), .inl (nI a), .inr (.inr (some (m + 1)))], H)) (C := []) rfl trivial ?_
          refine mw_cIe (fun _ => rfl) (show mu_is H (some (m + 1)) 10 from ((h.1.1.w (md_w0 h.2)).1)) (h.getr (d := (d + 1)) e (j := 0) (by decide) rfl (nI a) (c := 0) (by decide)) ?_
          rw [show (tget (U.1 0) (nI a) 0) = (nI (oc Y a)) from ((congrArg (fun z => tget z (nI a) 0) (show U.1 0 = (U.1 0) from rfl)).trans (tget_nI (by omega))).trans ((congrArg (fun y => y.2 a 0) hj0c).trans (okc_n hC (show a < (Y 0).1 by omega)).1)]
          refine mw_go mu_g305 (k := 1) (f1 := (126, [(7, .inl (nI i)), (6, .inl (nI (a + J - 1))), (0, .inr (.inr (some 129))), (1, .inl (nI k)), (2, .inr (.inr (some m))), (3, .inl (nI a)), (4, .inl (nI (a + n))), (5, .inl (nI (oc Y (a + n))))], [.inl (3 : Int32), .inl (nI (oc Y a))], H)) (C := []) rfl trivial ?_
          refine mw_if (P := (nI (oc Y a)) = (3 : Int32)) (a := 129) (b := 131) (fun _ => rfl) trivial (fun h26 => ?_) (fun h26 => ?_)
          · -- 129: (nI (oc Y a)) = (3 : Int32)
            have nh26 : (oc Y a) = 3 := (nI_eq (by omega) (by omega)).mp (show nI (oc Y a) = nI 3 from h26)
            refine mw_go mu_g305 (k := 1) (f1 := (130, [(7, .inl (nI i)), (6, .inl (nI (a + J - 1))), (0, .inr (.inr (some 129))), (1, .inl (nI k)), (2, .inr (.inr (some m))), (3, .inl (nI a)), (4, .inl (nI (a + n))), (5, .inl (nI (oc Y (a + n))))], [.inl (-1 : Int32)], H)) (C := []) rfl trivial ?_
            have hJ1 : J = 1 := by omega
            subst hJ1
            exact mw_of (fun _ => mu_ret rfl trivial ⟨_, H, rfl, rfl, Or.inr (Or.inl ⟨rfl, hop, hn1, nh26, ⟨hn1, fun q hq => hv q (by omega), hge⟩⟩)⟩)
          · -- 131: not (nI (oc Y a)) = (3 : Int32)
            have nh26 : ¬ (oc Y a) = 3 := fun z => h26 (show nI (oc Y a) = nI 3 from (nI_eq (by omega) (by omega)).mpr z)
            refine mw_go mu_g305 (k := 2) (f1 := (135, [(7, .inl (nI i)), (6, .inl (nI (a + J - 1))), (0, .inr (.inr (some 129))), (1, .inl (nI k)), (2, .inr (.inr (some m))), (3, .inl (nI a)), (4, .inl (nI (a + n))), (5, .inl (nI (oc Y (a + n))))], [.inl (16 : Int32), .inl (nI (oc Y (a + n)))], H)) (C := []) rfl trivial ?_
            refine mw_if (P := (nI (oc Y (a + n))) = (16 : Int32)) (a := 138) (b := 158) (fun _ => rfl) trivial (fun h27 => absurd h27 h5) (fun _ => ?_)
            refine mw_go mu_g305 (k := 1) (f1 := (159, [(7, .inl (nI i)), (6, .inl (nI (a + J - 1))), (0, .inr (.inr (some 129))), (1, .inl (nI k)), (2, .inr (.inr (some m))), (3, .inl (nI a)), (4, .inl (nI (a + n))), (5, .inl (nI (oc Y (a + n))))], [.inl (0 : Int32)], H)) (C := []) rfl trivial ?_
            exact mw_of (fun _ => mu_ret rfl trivial ⟨_, H, rfl, rfl, Or.inl rfl⟩)
        · -- 131: not (nI (a + J - 1)) = (nI a)
          have nh24 : ¬ (a + J - 1) = a := fun z => h24 (show nI (a + J - 1) = nI a from (nI_eq (by omega) (by omega)).mpr z)
          refine mw_go mu_g305 (k := 2) (f1 := (135, [(7, .inl (nI i)), (6, .inl (nI (a + J - 1))), (0, .inr (.inr (some 129))), (1, .inl (nI k)), (2, .inr (.inr (some m))), (3, .inl (nI a)), (4, .inl (nI (a + n))), (5, .inl (nI (oc Y (a + n))))], [.inl (16 : Int32), .inl (nI (oc Y (a + n)))], H)) (C := []) rfl trivial ?_
          refine mw_if (P := (nI (oc Y (a + n))) = (16 : Int32)) (a := 138) (b := 158) (fun _ => rfl) trivial (fun h28 => absurd h28 h5) (fun _ => ?_)
          refine mw_go mu_g305 (k := 1) (f1 := (159, [(7, .inl (nI i)), (6, .inl (nI (a + J - 1))), (0, .inr (.inr (some 129))), (1, .inl (nI k)), (2, .inr (.inr (some m))), (3, .inl (nI a)), (4, .inl (nI (a + n))), (5, .inl (nI (oc Y (a + n))))], [.inl (0 : Int32)], H)) (C := []) rfl trivial ?_
          exact mw_of (fun _ => mu_ret rfl trivial ⟨_, H, rfl, rfl, Or.inl rfl⟩)
    · -- 63: not (nI (oc Y (a + n))) = (30 : Int32)
      have nh19 : ¬ (oc Y (a + n)) = 30 := fun z => h19 (show nI (oc Y (a + n)) = nI 30 from (nI_eq (by omega) (by omega)).mpr z)
      refine mw_go mu_g305 (k := 1) (f1 := (64, [(5, .inl (nI (oc Y (a + n)))), (4, .inl (nI (a + n))), (3, .inl (nI a)), (2, .inr (.inr (some m))), (0, .inr (.inr (some 129))), (1, .inl (nI k))], [.inl (0 : Int32)], H)) (C := []) rfl trivial ?_
      exact mw_of (fun _ => mu_ret rfl trivial ⟨_, H, rfl, rfl, Or.inl rfl⟩)
end SideOfNext
