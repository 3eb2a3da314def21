/-! Model.startOf, as data -/
section StartOf
variable {H : mu_H} {U : Ud} {m d a n j : Nat} {Y : Ts}
theorem nd_step {a b c : Nat} (h : c + 1 = a + b) : nI a + (nI b - (1 : Int32)) = nI c := by
  have e : nI c + 1 = nI a + nI b := by
    rw [nI_add]
    exact (nI_add c 1).trans (congrArg nI h)
  rw [Int32.sub_eq_add_neg, ← Int32.add_assoc, ← e, Int32.add_assoc, Int32.add_right_neg, Int32.add_zero]
theorem um_start (h : um m H) (e : ud m H = U) (hj0 : U.1 0 = Y 0) (hC : Cc Y) (hv : ∀ q, q < n → plen (oc Y (a + q)) (oa Y (a + q)) ≤ tpz Y a q) (hb : a + n ≤ (Y 0).1) (hb2 : (Y 0).1 ≤ 16777216) (htn : 1 ≤ tpz Y a n) (hj1 : j < n) (hj2 : tpz Y a j + 1 = tpz Y a n) (hj3 : ∀ q, j < q → q ≤ n → tpz Y a n ≤ tpz Y a q) : mu_TI (mu_D (d + 2)) 128 [.inr (.inr (some m)), .inl (nI (a + n - 1))] H (fun x H1 => x = nI (a + j) ∧ H1 = H) := by
  refine mu_meth (M := mu_m128) rfl rfl ?_
  refine mw_ht (mu_fn_of (show [0, 1].Nodup by decide)) ?_
  refine mw_go mu_g128 (k := 4) (f1 := (4, [(3, .inl (nI (a + n - 1))), (2, .inl (1 : Int32)), (0, .inr (.inr (some m))), (1, .inl (nI (a + n - 1)))], [], H)) (C := []) rfl trivial ?_
  show mu_W _ _ (4, [(3, .inl (nI (a + n - 1))), (2, .inl (nI 1)), (0, .inr (.inr (some m))), (1, .inl (nI (a + n - 1)))], [], H) _
  refine mw_sub (L' := [(3, .inl (nI (a + n - 1))), (2, .inl (nI 1)), (0, .inr (.inr (some m))), (1, .inl (nI (a + n - 1)))]) (by simp) ?_
  refine mw_down (α := Nat × Nat) (fun zs => (4, [(3, .inl (nI zs.1)), (2, .inl (nI zs.2)), (0, .inr (.inr (some m))), (1, .inl (nI (a + n - 1)))], [], H)) (fun zs => zs.1 + 1 - a) (fun zs => (a + j ≤ zs.1 ∧ zs.1 < a + n) ∧ (zs.2 + tpz Y a n = 1 + tpz Y a (zs.1 + 1 - a))) (fun zs hza iha => ?_) (a + n - 1, 1) ⟨(show a + j ≤ (a + n - 1) ∧ (a + n - 1) < a + n from (by omega)), (show 1 + tpz Y a n = 1 + tpz Y a ((a + n - 1) + 1 - a) from (by rw [show a + n - 1 + 1 - a = n by omega]))⟩
  obtain ⟨w, ndU⟩ := zs
  obtain ⟨hw, hnd⟩ := hza
  have hw : a + j ≤ w ∧ w < a + n := hw
  have hnd : ndU + tpz Y a n = 1 + tpz Y a (w + 1 - a) := hnd
  show mu_W _ _ (4, [(3, .inl (nI w)), (2, .inl (nI ndU)), (0, .inr (.inr (some m))), (1, .inl (nI (a + n - 1)))], [], H) _
  refine mw_go mu_g128 (k := 1) (f1 := (5, [(3, .inl (nI w)), (2, .inl (nI ndU)), (0, .inr (.inr (some m))), (1, .inl (nI (a + n - 1)))], [.inl (nI w)], H)) (C := []) rfl trivial ?_
  refine mw_if (P := (nI w) < 0) (a := 46) (b := 8) (fun _ => rfl) trivial (fun h1 => absurd h1 (nI_pos (by omega))) (fun h1 => ?_)
  have hwb : w < (Y 0).1 := by omega
  obtain ⟨ok1, ok2, ok3⟩ := okc_n hC hwb
  have hpl := hv (w - a) (by omega)
  rw [show a + (w - a) = w by omega] at hpl
  have htp : tpz Y a (w + 1 - a) = tpz Y a (w - a) - plen (oc Y w) (oa Y w) + 1 := by have y := tpz_s (Y := Y) (a := a) (n := w - a); rw [show w - a + 1 = w + 1 - a by omega, show a + (w - a) = w by omega] at y; exact y
  have hge := hj3 (w + 1 - a) (by omega) (by omega)
  have htb := tpz_b Y a (w - a)
  refine mw_go mu_g128 (k := 3) (f1 := (13, [(3, .inl (nI w)), (2, .inl (nI ndU)), (0, .inr (.inr (some m))), (1, .inl (nI (a + n - 1)))], [.inr (.inr (mu_r H m 0)), .inl (nI ndU)], H)) (C := [mu_is H (some m) 6]) rfl (show mu_is H (some m) 6 from (show mu_is H (some m) 6 from gi_im h.1.1 h.2)) ?_
  rw [(show mu_r H m 0 = some (m + 1) from (gi_mr h.1.1 h.2 (j := 0) (by decide)).trans (congrArg some (by omega)))]
  refine mw_go mu_g128 (k := 2) (f1 := (15, [(3, .inl (nI w)), (2, .inl (nI ndU)), (0, .inr (.inr (some m))), (1, .inl (nI (a + n - 1)))], [.inl (0 : Int32), .inl (nI w), .inr (.inr (some (m + 1))), .inl (nI ndU)], H)) (C := []) rfl trivial ?_
  refine mw_cIe (fun _ => rfl) (show mu_is H (some (m + 1)) 10 from ((h.1.1.w (md_w0 h.2)).1)) (h.getr (d := d) e (j := 0) (by decide) rfl (nI w) (c := 0) (by decide)) ?_
  rw [show (tget (U.1 0) (nI w) 0) = (nI (oc Y w)) from ((congrArg (fun z => tget z (nI w) 0) (show U.1 0 = (U.1 0) from rfl)).trans (tget_nI (by omega))).trans ((congrArg (fun y => y.2 w 0) hj0).trans ok1)]
  refine mw_go mu_g128 (k := 2) (f1 := (22, [(3, .inl (nI w)), (2, .inl (nI ndU)), (0, .inr (.inr (some m))), (1, .inl (nI (a + n - 1)))], [.inr (.inr (mu_r H m 0)), .inl (nI (oc Y w)), .inl (nI ndU)], H)) (C := [mu_is H (some m) 6]) rfl (show mu_is H (some m) 6 from (show mu_is H (some m) 6 from gi_im h.1.1 h.2)) ?_
  rw [(show mu_r H m 0 = some (m + 1) from (gi_mr h.1.1 h.2 (j := 0) (by decide)).trans (congrArg some (by omega)))]
  refine mw_go mu_g128 (k := 2) (f1 := (24, [(3, .inl (nI w)), (2, .inl (nI ndU)), (0, .inr (.inr (some m))), (1, .inl (nI (a + n - 1)))], [.inl (1 : Int32), .inl (nI w), .inr (.inr (some (m + 1))), .inl (nI (oc Y w)), .inl (nI ndU)], H)) (C := []) rfl trivial ?_
  refine mw_cIe (fun _ => rfl) (show mu_is H (some (m + 1)) 10 from ((h.1.1.w (md_w0 h.2)).1)) (h.getr (d := d) e (j := 0) (by decide) rfl (nI w) (c := 1) (by decide)) ?_
  rw [show (tget (U.1 0) (nI w) 1) = ((Y 0).2 w 1) from ((congrArg (fun z => tget z (nI w) 1) (show U.1 0 = (U.1 0) from rfl)).trans (tget_nI (by omega))).trans (congrArg (fun y => y.2 w 1) hj0)]
  refine mw_cIe (fun _ => rfl) trivial (pv_parts2 (d := d) (o := oc Y w) (a := oa Y w) ok2 (fun y => (ok3 y).1) (fun y => (ok3 y).2.2)) ?_
  refine mw_go mu_g128 (k := 3) (f1 := (33, [(3, .inl (nI w)), (2, .inl (nI ndU)), (0, .inr (.inr (some m))), (1, .inl (nI (a + n - 1)))], [.inl ((nI ndU) + ((nI (plen (oc Y w) (oa Y w))) - (1 : Int32)))], H)) (C := []) rfl trivial ?_
  obtain ⟨nq, hnq⟩ : ∃ nq, nq + 1 = ndU + plen (oc Y w) (oa Y w) := ⟨ndU + plen (oc Y w) (oa Y w) - 1, by omega⟩
  rw [show ((nI ndU) + ((nI (plen (oc Y w) (oa Y w))) - (1 : Int32))) = nI nq from nd_step hnq]
  refine mw_go mu_g128 (k := 2) (f1 := (35, [(2, .inl (nI nq)), (3, .inl (nI w)), (0, .inr (.inr (some m))), (1, .inl (nI (a + n - 1)))], [.inl (nI nq)], H)) (C := []) rfl trivial ?_
  refine mw_if (P := (nI nq) = 0) (a := 38) (b := 40) (fun _ => rfl) trivial (fun h5 => ?_) (fun h5 => ?_)
  · -- 38: (nI nq) = 0
    have nh5 : nq = 0 := (nI_eq (by omega) (by omega)).mp (show nI nq = nI 0 from h5)
    refine mw_go mu_g128 (k := 1) (f1 := (39, [(2, .inl (nI nq)), (3, .inl (nI w)), (0, .inr (.inr (some m))), (1, .inl (nI (a + n - 1)))], [.inl (nI w)], H)) (C := []) rfl trivial ?_
    exact mw_of (fun _ => mu_ret rfl trivial ⟨_, H, rfl, congrArg nI (by have y := part_one htn hj1 hj2 hj3 (j' := w - a) (by omega) (by omega) (fun q q1 q2 => by have y2 := hj3 q (by omega) q2; exact y2); omega), rfl⟩)
  · -- 40: not (nI nq) = 0
    have nh5 : ¬ nq = 0 := fun z => h5 (show nI nq = nI 0 from (nI_eq (by omega) (by omega)).mpr z)
    have hnz : ¬ nq = 0 := nh5
    have hne : ¬ w - a = j := fun y => absurd (congrArg (tpz Y a) y) (by omega)
    refine mw_go mu_g128 (k := 1) (f1 := (43, [(3, .inl ((nI w) + (-1))), (2, .inl (nI nq)), (0, .inr (.inr (some m))), (1, .inl (nI (a + n - 1)))], [], H)) (C := []) rfl trivial ?_
    rw [(show ((nI w) + (-1)) = (nI (w - 1)) from ((Int32.sub_eq_add_neg _ _).symm.trans (nI_sub (a := w) (b := 1) (by omega))))]
    refine mw_go mu_g128 (k := 1) (f1 := (4, [(3, .inl (nI (w - 1))), (2, .inl (nI nq)), (0, .inr (.inr (some m))), (1, .inl (nI (a + n - 1)))], [], H)) (C := []) rfl trivial ?_
    exact mw_sub (by simp) (iha (w - 1, nq) ⟨(show a + j ≤ (w - 1) ∧ (w - 1) < a + n from (by omega)), (show nq + tpz Y a n = 1 + tpz Y a ((w - 1) + 1 - a) from (by rw [show w - 1 + 1 - a = w - a by omega]; omega))⟩ (by show (w - 1) + 1 - a < w + 1 - a; omega))
end StartOf
