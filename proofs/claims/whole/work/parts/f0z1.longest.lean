/-! RELATION: longestOr, isFirstOr -/
/-- a wide row that is an outer | -/
def WOR (Y : Ts) (t : Tb) (wa wn : Nat → Nat) (k : Nat) : Prop := t.2 k 3 < 0 ∧ 1 ≤ wn k ∧ oc Y (wa k + wn k - 1) = 6
section Longest
variable {H : mu_H} {U : Ud} {m d nw k to : Nat} {Y : Ts} {wa wn : Nat → Nat}
theorem or_last {t : Tb} {a n : Nat} (h : tget t (nI (a + n) - (1 : Int32)) 0 = (6 : Int32)) (hn : 1 ≤ n) (hb : a + n ≤ 67108864) (ht : t = Y 0) : oc Y (a + n - 1) = 6 := by
  rw [show nI (a + n) - (1 : Int32) = nI (a + n - 1) from nI_sub (a := a + n) (b := 1) (by omega), tget_nI (by omega), ht] at h
  unfold oc
  rw [h]
  decide
/-- PathProver$Relation.longestOr()I -/
abbrev mu_m396 : ev_M := (6, (some .int), [], ev_b396)
theorem mu_g396 : mu_good mu_m396 := mu_goodk ev_k396
theorem rl_longest (h : um m H) (e : ud m H = U) (hmo0 : U.2.2.2.1 99 0 = some m) (hj0 : U.1 0 = Y 0) (hnw : (U.1 25).1 = nw) (hnwb : nw ≤ 16777216) (hW : ∀ r, r < nw → (U.1 25).2 r 0 = nI (wa r) ∧ (U.1 25).2 r 1 = nI (wa r + wn r) ∧ wa r + wn r ≤ 67108864) : mu_TI (mu_D (d + 2)) 396 [.inr (.inr (some 129))] H (fun r H1 => (r = -1 ∨ ∃ q, q < nw ∧ r = nI q ∧ WOR Y (U.1 25) wa wn q) ∧ H1 = H) := by
  refine mu_meth (M := mu_m396) rfl rfl ?_
  refine mw_ht (mu_fn_of (show [0].Nodup by decide)) ?_
  refine mw_go mu_g396 (k := 6) (f1 := (6, [(3, .inl (0 : Int32)), (2, .inl (0 : Int32)), (1, .inl (-1 : Int32)), (0, .inr (.inr (some 129)))], [], H)) (C := []) rfl trivial ?_
  show mu_W _ _ (6, [(3, .inl (nI 0)), (2, .inl (nI 0)), (1, .inl (-1 : Int32)), (0, .inr (.inr (some 129)))], [], H) _
  refine mw_sub (L' := [(3, .inl (nI 0)), (2, .inl (nI 0)), (1, .inl (-1 : Int32)), (0, .inr (.inr (some 129)))]) (by simp) ?_
  refine mw_down (α := Nat × Nat × Int32) (fun zs => (6, [(3, .inl (nI zs.1)), (2, .inl (nI zs.2.1)), (1, .inl zs.2.2), (0, .inr (.inr (some 129)))], [], H)) (fun zs => nw - zs.1) (fun zs => (zs.1 ≤ nw) ∧ (zs.2.1 ≤ 67108864) ∧ (zs.2.2 = -1 ∨ ∃ q, q < nw ∧ zs.2.2 = nI q ∧ WOR Y (U.1 25) wa wn q)) (fun zs hza iha => ?_) (0, 0, (-1 : Int32)) ⟨(show 0 ≤ nw from (by omega)), (show 0 ≤ 67108864 from (by omega)), (show (-1 : Int32) = -1 ∨ ∃ q, q < nw ∧ (-1 : Int32) = nI q ∧ WOR Y (U.1 25) wa wn q from (Or.inl rfl))⟩
  obtain ⟨k, mo, fd⟩ := zs
  obtain ⟨hk, hmo, hfd⟩ := hza
  have hk : k ≤ nw := hk
  have hmo : mo ≤ 67108864 := hmo
  have hfd : fd = -1 ∨ ∃ q, q < nw ∧ fd = nI q ∧ WOR Y (U.1 25) wa wn q := hfd
  show mu_W _ _ (6, [(3, .inl (nI k)), (2, .inl (nI mo)), (1, .inl fd), (0, .inr (.inr (some 129)))], [], H) _
  refine mw_go mu_g396 (k := 3) (f1 := (11, [(3, .inl (nI k)), (2, .inl (nI mo)), (1, .inl fd), (0, .inr (.inr (some 129)))], [.inr (.inr (mu_r H 129 3)), .inl (nI k)], H)) (C := [mu_is H (some 129) 9]) rfl (show mu_is H (some 129) 9 from (h.1.1.is rfl)) ?_
  rw [(h.1.1.r (p := 129) (j := 3) (q := 132) rfl)]
  refine mw_go mu_g396 (k := 1) (f1 := (14, [(3, .inl (nI k)), (2, .inl (nI mo)), (1, .inl fd), (0, .inr (.inr (some 129)))], [.inl (mu_i H 132 2), .inl (nI k)], H)) (C := [mu_is H (some 132) 10]) rfl (show mu_is H (some 132) 10 from (h.1.1.is rfl)) ?_
  rw [(show mu_i H 132 2 = (nI nw) from (h.size e (j := 25) (by decide) rfl).trans (congrArg nI ((congrArg Prod.fst (show U.1 25 = (U.1 25) from rfl)).trans hnw)))]
  refine mw_if (P := (nI k) < (nI nw)) (a := 17) (b := 112) (fun _ => rfl) trivial (fun h1 => ?_) (fun h1 => ?_)
  · -- 17: (nI k) < (nI nw)
    have nh1 : k < nw := (nI_ltI (by omega) (by omega)).mp (show nI k < nI nw from h1)
    have hkn : k < nw := by omega
    have hkb := (hW k hkn).2.2
    refine mw_go mu_g396 (k := 2) (f1 := (21, [(3, .inl (nI k)), (2, .inl (nI mo)), (1, .inl fd), (0, .inr (.inr (some 129)))], [.inr (.inr (mu_r H 129 3))], H)) (C := [mu_is H (some 129) 9]) rfl (show mu_is H (some 129) 9 from (h.1.1.is rfl)) ?_
    rw [(h.1.1.r (p := 129) (j := 3) (q := 132) rfl)]
    refine mw_go mu_g396 (k := 2) (f1 := (23, [(3, .inl (nI k)), (2, .inl (nI mo)), (1, .inl fd), (0, .inr (.inr (some 129)))], [.inl (1 : Int32), .inl (nI k), .inr (.inr (some 132))], H)) (C := []) rfl trivial ?_
    refine mw_cIe (fun _ => rfl) (show mu_is H (some 132) 10 from (h.1.1.is rfl)) (h.getr (d := d) e (j := 25) (by decide) rfl (nI k) (c := 1) (by decide)) ?_
    rw [show (tget (U.1 25) (nI k) 1) = (nI (wa k + wn k)) from ((congrArg (fun z => tget z (nI k) 1) (show U.1 25 = (U.1 25) from rfl)).trans (tget_nI (by first | omega | decide))).trans (hW k hkn).2.1]
    refine mw_go mu_g396 (k := 3) (f1 := (32, [(4, .inl (nI (wa k + wn k))), (3, .inl (nI k)), (2, .inl (nI mo)), (1, .inl fd), (0, .inr (.inr (some 129)))], [.inr (.inr (mu_r H 129 3))], H)) (C := [mu_is H (some 129) 9]) rfl (show mu_is H (some 129) 9 from (h.1.1.is rfl)) ?_
    rw [(h.1.1.r (p := 129) (j := 3) (q := 132) rfl)]
    refine mw_go mu_g396 (k := 2) (f1 := (34, [(4, .inl (nI (wa k + wn k))), (3, .inl (nI k)), (2, .inl (nI mo)), (1, .inl fd), (0, .inr (.inr (some 129)))], [.inl (3 : Int32), .inl (nI k), .inr (.inr (some 132))], H)) (C := []) rfl trivial ?_
    refine mw_cIe (fun _ => rfl) (show mu_is H (some 132) 10 from (h.1.1.is rfl)) (h.getr (d := d) e (j := 25) (by decide) rfl (nI k) (c := 3) (by decide)) ?_
    rw [show (tget (U.1 25) (nI k) 3) = ((U.1 25).2 k 3) from (congrArg (fun z => tget z (nI k) 3) (show U.1 25 = (U.1 25) from rfl)).trans (tget_nI (by first | omega | decide))]
    refine mw_if (P := ((U.1 25).2 k 3) < 0) (a := 40) (b := 67) (fun _ => rfl) trivial (fun h4 => ?_) (fun h4 => ?_)
    · -- 40: ((U.1 25).2 k 3) < 0
      refine mw_go mu_g396 (k := 2) (f1 := (44, [(4, .inl (nI (wa k + wn k))), (3, .inl (nI k)), (2, .inl (nI mo)), (1, .inl fd), (0, .inr (.inr (some 129)))], [.inr (.inr (mu_r H 129 0))], H)) (C := [mu_is H (some 129) 9]) rfl (show mu_is H (some 129) 9 from (h.1.1.is rfl)) ?_
      rw [(h.1.1.r (p := 129) (j := 0) (q := 99) rfl)]
      refine mw_go mu_g396 (k := 1) (f1 := (47, [(4, .inl (nI (wa k + wn k))), (3, .inl (nI k)), (2, .inl (nI mo)), (1, .inl fd), (0, .inr (.inr (some 129)))], [.inr (.inr (mu_r H 99 0))], H)) (C := [mu_is H (some 99) 13]) rfl (show mu_is H (some 99) 13 from (h.1.1.is rfl)) ?_
      rw [(show mu_r H 99 0 = (some m) from (ud_q (U := U) (m := m) (P := 99) (j := 0) e rfl).trans hmo0)]
      refine mw_go mu_g396 (k := 1) (f1 := (50, [(4, .inl (nI (wa k + wn k))), (3, .inl (nI k)), (2, .inl (nI mo)), (1, .inl fd), (0, .inr (.inr (some 129)))], [.inr (.inr (mu_r H m 0))], H)) (C := [mu_is H (some m) 6]) rfl (show mu_is H (some m) 6 from (show mu_is H (some m) 6 from gi_im h.1.1 h.2)) ?_
      rw [(show mu_r H m 0 = some (m + 1) from (gi_mr h.1.1 h.2 (j := 0) (by decide)).trans (congrArg some (by omega)))]
      refine mw_go mu_g396 (k := 4) (f1 := (55, [(4, .inl (nI (wa k + wn k))), (3, .inl (nI k)), (2, .inl (nI mo)), (1, .inl fd), (0, .inr (.inr (some 129)))], [.inl (0 : Int32), .inl ((nI (wa k + wn k)) - (1 : Int32)), .inr (.inr (some (m + 1)))], H)) (C := []) rfl trivial ?_
      refine mw_cIe (fun _ => rfl) (show mu_is H (some (m + 1)) 10 from ((h.1.1.w (md_w0 h.2)).1)) (h.getr (d := d) e (j := 0) (by decide) rfl ((nI (wa k + wn k)) - (1 : Int32)) (c := 0) (by decide)) ?_
      rw [show (tget (U.1 0) ((nI (wa k + wn k)) - (1 : Int32)) 0) = (tget (U.1 0) ((nI (wa k + wn k)) - (1 : Int32)) 0) from congrArg (fun z => tget z ((nI (wa k + wn k)) - (1 : Int32)) 0) (show U.1 0 = (U.1 0) from rfl)]
      refine mw_go mu_g396 (k := 1) (f1 := (60, [(4, .inl (nI (wa k + wn k))), (3, .inl (nI k)), (2, .inl (nI mo)), (1, .inl fd), (0, .inr (.inr (some 129)))], [.inl (6 : Int32), .inl (tget (U.1 0) ((nI (wa k + wn k)) - (1 : Int32)) 0)], H)) (C := []) rfl trivial ?_
      refine mw_if (P := (tget (U.1 0) ((nI (wa k + wn k)) - (1 : Int32)) 0) = (6 : Int32)) (a := 63) (b := 67) (fun _ => rfl) trivial (fun h6 => ?_) (fun h6 => ?_)
      · -- 63: (tget (U.1 0) ((nI (wa k + wn k)) - (1 : Int32)) 0) = (6 : Int32)
        refine mw_go mu_g396 (k := 4) (f1 := (72, [(5, .inl (1 : Int32)), (4, .inl (nI (wa k + wn k))), (3, .inl (nI k)), (2, .inl (nI mo)), (1, .inl fd), (0, .inr (.inr (some 129)))], [.inl (1 : Int32)], H)) (C := []) rfl trivial ?_
        refine mw_if (P := (1 : Int32) = 0) (a := 106) (b := 75) (fun _ => rfl) trivial (fun h7 => absurd h7 (by decide)) (fun h7 => ?_)
        refine mw_go mu_g396 (k := 3) (f1 := (81, [(5, .inl (1 : Int32)), (4, .inl (nI (wa k + wn k))), (3, .inl (nI k)), (2, .inl (nI mo)), (1, .inl fd), (0, .inr (.inr (some 129)))], [.inr (.inr (mu_r H 129 3)), .inl (nI (wa k + wn k))], H)) (C := [mu_is H (some 129) 9]) rfl (show mu_is H (some 129) 9 from (h.1.1.is rfl)) ?_
        rw [(h.1.1.r (p := 129) (j := 3) (q := 132) rfl)]
        refine mw_go mu_g396 (k := 2) (f1 := (83, [(5, .inl (1 : Int32)), (4, .inl (nI (wa k + wn k))), (3, .inl (nI k)), (2, .inl (nI mo)), (1, .inl fd), (0, .inr (.inr (some 129)))], [.inl (0 : Int32), .inl (nI k), .inr (.inr (some 132)), .inl (nI (wa k + wn k))], H)) (C := []) rfl trivial ?_
        refine mw_cIe (fun _ => rfl) (show mu_is H (some 132) 10 from (h.1.1.is rfl)) (h.getr (d := d) e (j := 25) (by decide) rfl (nI k) (c := 0) (by decide)) ?_
        rw [show (tget (U.1 25) (nI k) 0) = (nI (wa k)) from ((congrArg (fun z => tget z (nI k) 0) (show U.1 25 = (U.1 25) from rfl)).trans (tget_nI (by first | omega | decide))).trans (hW k hkn).1]
        refine mw_go mu_g396 (k := 1) (f1 := (87, [(5, .inl (1 : Int32)), (4, .inl (nI (wa k + wn k))), (3, .inl (nI k)), (2, .inl (nI mo)), (1, .inl fd), (0, .inr (.inr (some 129)))], [.inl ((nI (wa k + wn k)) - (nI (wa k)))], H)) (C := []) rfl trivial ?_
        rw [(show ((nI (wa k + wn k)) - (nI (wa k))) = (nI ((wa k + wn k) - (wa k))) from (nI_sub (a := wa k + wn k) (b := wa k) (by omega)))]
        refine mw_go mu_g396 (k := 1) (f1 := (88, [(5, .inl (1 : Int32)), (4, .inl (nI (wa k + wn k))), (3, .inl (nI k)), (2, .inl (nI mo)), (1, .inl fd), (0, .inr (.inr (some 129)))], [.inl (nI mo), .inl (nI ((wa k + wn k) - (wa k)))], H)) (C := []) rfl trivial ?_
        refine mw_if (P := (nI mo) < (nI ((wa k + wn k) - (wa k)))) (a := 91) (b := 106) (fun _ => rfl) trivial (fun h9 => ?_) (fun h9 => ?_)
        · -- 91: (nI mo) < (nI ((wa k + wn k) - (wa k)))
          have nh9 : mo < ((wa k + wn k) - (wa k)) := (nI_ltI (by omega) (by omega)).mp (show nI mo < nI ((wa k + wn k) - (wa k)) from h9)
          refine mw_go mu_g396 (k := 3) (f1 := (97, [(5, .inl (1 : Int32)), (4, .inl (nI (wa k + wn k))), (3, .inl (nI k)), (2, .inl (nI mo)), (1, .inl fd), (0, .inr (.inr (some 129)))], [.inr (.inr (mu_r H 129 3)), .inl (nI (wa k + wn k))], H)) (C := [mu_is H (some 129) 9]) rfl (show mu_is H (some 129) 9 from (h.1.1.is rfl)) ?_
          rw [(h.1.1.r (p := 129) (j := 3) (q := 132) rfl)]
          refine mw_go mu_g396 (k := 2) (f1 := (99, [(5, .inl (1 : Int32)), (4, .inl (nI (wa k + wn k))), (3, .inl (nI k)), (2, .inl (nI mo)), (1, .inl fd), (0, .inr (.inr (some 129)))], [.inl (0 : Int32), .inl (nI k), .inr (.inr (some 132)), .inl (nI (wa k + wn k))], H)) (C := []) rfl trivial ?_
          refine mw_cIe (fun _ => rfl) (show mu_is H (some 132) 10 from (h.1.1.is rfl)) (h.getr (d := d) e (j := 25) (by decide) rfl (nI k) (c := 0) (by decide)) ?_
          rw [show (tget (U.1 25) (nI k) 0) = (nI (wa k)) from ((congrArg (fun z => tget z (nI k) 0) (show U.1 25 = (U.1 25) from rfl)).trans (tget_nI (by first | omega | decide))).trans (hW k hkn).1]
          refine mw_go mu_g396 (k := 1) (f1 := (103, [(5, .inl (1 : Int32)), (4, .inl (nI (wa k + wn k))), (3, .inl (nI k)), (2, .inl (nI mo)), (1, .inl fd), (0, .inr (.inr (some 129)))], [.inl ((nI (wa k + wn k)) - (nI (wa k)))], H)) (C := []) rfl trivial ?_
          rw [(show ((nI (wa k + wn k)) - (nI (wa k))) = (nI ((wa k + wn k) - (wa k))) from (nI_sub (a := wa k + wn k) (b := wa k) (by omega)))]
          refine mw_go mu_g396 (k := 4) (f1 := (109, [(3, .inl ((nI k) + 1)), (1, .inl (nI k)), (2, .inl (nI ((wa k + wn k) - (wa k)))), (5, .inl (1 : Int32)), (4, .inl (nI (wa k + wn k))), (0, .inr (.inr (some 129)))], [], H)) (C := []) rfl trivial ?_
          rw [(show ((nI k) + 1) = (nI (k + 1)) from (nI_add k 1))]
          refine mw_go mu_g396 (k := 1) (f1 := (6, [(3, .inl (nI (k + 1))), (1, .inl (nI k)), (2, .inl (nI ((wa k + wn k) - (wa k)))), (5, .inl (1 : Int32)), (4, .inl (nI (wa k + wn k))), (0, .inr (.inr (some 129)))], [], H)) (C := []) rfl trivial ?_
          exact mw_sub (by simp) (iha (k + 1, (wa k + wn k) - (wa k), (nI k)) ⟨(show (k + 1) ≤ nw from (by omega)), (show ((wa k + wn k) - (wa k)) ≤ 67108864 from (by omega)), (show (nI k) = -1 ∨ ∃ q, q < nw ∧ (nI k) = nI q ∧ WOR Y (U.1 25) wa wn q from (Or.inr ⟨k, hkn, rfl, h4, by omega, or_last h6 (by omega) (by omega) hj0⟩))⟩ (by show nw - (k + 1) < nw - k; omega))
        · -- 106: not (nI mo) < (nI ((wa k + wn k) - (wa k)))
          have nh9 : ¬ mo < ((wa k + wn k) - (wa k)) := fun z => h9 (show nI mo < nI ((wa k + wn k) - (wa k)) from (nI_ltI (by omega) (by omega)).mpr z)
          refine mw_go mu_g396 (k := 1) (f1 := (109, [(3, .inl ((nI k) + 1)), (5, .inl (1 : Int32)), (4, .inl (nI (wa k + wn k))), (2, .inl (nI mo)), (1, .inl fd), (0, .inr (.inr (some 129)))], [], H)) (C := []) rfl trivial ?_
          rw [(show ((nI k) + 1) = (nI (k + 1)) from (nI_add k 1))]
          refine mw_go mu_g396 (k := 1) (f1 := (6, [(3, .inl (nI (k + 1))), (5, .inl (1 : Int32)), (4, .inl (nI (wa k + wn k))), (2, .inl (nI mo)), (1, .inl fd), (0, .inr (.inr (some 129)))], [], H)) (C := []) rfl trivial ?_
          exact mw_sub (by simp) (iha (k + 1, mo, fd) ⟨(show (k + 1) ≤ nw from (by omega)), (show mo ≤ 67108864 from (by omega)), (show fd = -1 ∨ ∃ q, q < nw ∧ fd = nI q ∧ WOR Y (U.1 25) wa wn q from hfd)⟩ (by show nw - (k + 1) < nw - k; omega))
      · -- 67: not (tget (U.1 0) ((nI (wa k + wn k)) - (1 : Int32)) 0) = (6 : Int32)
        refine mw_go mu_g396 (k := 3) (f1 := (72, [(5, .inl (0 : Int32)), (4, .inl (nI (wa k + wn k))), (3, .inl (nI k)), (2, .inl (nI mo)), (1, .inl fd), (0, .inr (.inr (some 129)))], [.inl (0 : Int32)], H)) (C := []) rfl trivial ?_
        refine mw_if (P := (0 : Int32) = 0) (a := 106) (b := 75) (fun _ => rfl) trivial (fun h11 => ?_) (fun h11 => absurd (by decide) h11)
        refine mw_go mu_g396 (k := 1) (f1 := (109, [(3, .inl ((nI k) + 1)), (5, .inl (0 : Int32)), (4, .inl (nI (wa k + wn k))), (2, .inl (nI mo)), (1, .inl fd), (0, .inr (.inr (some 129)))], [], H)) (C := []) rfl trivial ?_
        rw [(show ((nI k) + 1) = (nI (k + 1)) from (nI_add k 1))]
        refine mw_go mu_g396 (k := 1) (f1 := (6, [(3, .inl (nI (k + 1))), (5, .inl (0 : Int32)), (4, .inl (nI (wa k + wn k))), (2, .inl (nI mo)), (1, .inl fd), (0, .inr (.inr (some 129)))], [], H)) (C := []) rfl trivial ?_
        exact mw_sub (by simp) (iha (k + 1, mo, fd) ⟨(show (k + 1) ≤ nw from (by omega)), (show mo ≤ 67108864 from (by omega)), (show fd = -1 ∨ ∃ q, q < nw ∧ fd = nI q ∧ WOR Y (U.1 25) wa wn q from hfd)⟩ (by show nw - (k + 1) < nw - k; omega))
    · -- 67: not ((U.1 25).2 k 3) < 0
      refine mw_go mu_g396 (k := 3) (f1 := (72, [(5, .inl (0 : Int32)), (4, .inl (nI (wa k + wn k))), (3, .inl (nI k)), (2, .inl (nI mo)), (1, .inl fd), (0, .inr (.inr (some 129)))], [.inl (0 : Int32)], H)) (C := []) rfl trivial ?_
      refine mw_if (P := (0 : Int32) = 0) (a := 106) (b := 75) (fun _ => rfl) trivial (fun h12 => ?_) (fun h12 => absurd (by decide) h12)
      refine mw_go mu_g396 (k := 1) (f1 := (109, [(3, .inl ((nI k) + 1)), (5, .inl (0 : Int32)), (4, .inl (nI (wa k + wn k))), (2, .inl (nI mo)), (1, .inl fd), (0, .inr (.inr (some 129)))], [], H)) (C := []) rfl trivial ?_
      rw [(show ((nI k) + 1) = (nI (k + 1)) from (nI_add k 1))]
      refine mw_go mu_g396 (k := 1) (f1 := (6, [(3, .inl (nI (k + 1))), (5, .inl (0 : Int32)), (4, .inl (nI (wa k + wn k))), (2, .inl (nI mo)), (1, .inl fd), (0, .inr (.inr (some 129)))], [], H)) (C := []) rfl trivial ?_
      exact mw_sub (by simp) (iha (k + 1, mo, fd) ⟨(show (k + 1) ≤ nw from (by omega)), (show mo ≤ 67108864 from (by omega)), (show fd = -1 ∨ ∃ q, q < nw ∧ fd = nI q ∧ WOR Y (U.1 25) wa wn q from hfd)⟩ (by show nw - (k + 1) < nw - k; omega))
  · -- 112: not (nI k) < (nI nw)
    have nh1 : ¬ k < nw := fun z => h1 (show nI k < nI nw from (nI_ltI (by omega) (by omega)).mpr z)
    refine mw_go mu_g396 (k := 1) (f1 := (113, [(3, .inl (nI k)), (2, .inl (nI mo)), (1, .inl fd), (0, .inr (.inr (some 129)))], [.inl fd], H)) (C := []) rfl trivial ?_
    exact mw_of (fun _ => mu_ret rfl trivial ⟨_, H, rfl, hfd, rfl⟩)
/-- PathProver$Relation.isFirstOr(I)Z -/
abbrev mu_m390 : ev_M := (2, (some .boolean), [], ev_b390)
theorem mu_g390 : mu_good mu_m390 := mu_goodk ev_k390
theorem rl_firstOr (h : um m H) (e : ud m H = U) (hnb27 : (U.1 27).1 ≤ 67108864) (hmo0 : U.2.2.2.1 99 0 = some m) (hj0 : U.1 0 = Y 0) (hnw : (U.1 25).1 = nw) (hnwb : nw ≤ 16777216) (hW : ∀ r, r < nw → (U.1 25).2 r 0 = nI (wa r) ∧ (U.1 25).2 r 1 = nI (wa r + wn r) ∧ wa r + wn r ≤ 67108864) : mu_TI (mu_D (d + 3)) 390 [.inr (.inr (some 129)), .inl (nI to)] H (fun r H1 => (r = 0 ∨ r = 1) ∧ H1 = H) := by
  refine mu_meth (M := mu_m390) rfl rfl ?_
  refine mw_ht (mu_fn_of (show [0, 1].Nodup by decide)) ?_
  refine mw_go mu_g390 (k := 2) (f1 := (4, [(0, .inr (.inr (some 129))), (1, .inl (nI to))], [.inr (.inr (mu_r H 129 23))], H)) (C := [mu_is H (some 129) 9]) rfl (show mu_is H (some 129) 9 from (h.1.1.is rfl)) ?_
  rw [(h.1.1.r (p := 129) (j := 23) (q := 167) rfl)]
  refine mw_go mu_g390 (k := 1) (f1 := (7, [(0, .inr (.inr (some 129))), (1, .inl (nI to))], [.inl (mu_i H 167 2)], H)) (C := [mu_is H (some 167) 10]) rfl (show mu_is H (some 167) 10 from (h.1.1.is rfl)) ?_
  rw [(show mu_i H 167 2 = (nI (U.1 27).1) from (h.size e (j := 27) (by decide) rfl).trans (congrArg (fun z => nI z.1) (show U.1 27 = (U.1 27) from rfl)))]
  refine mw_go mu_g390 (k := 1) (f1 := (8, [(0, .inr (.inr (some 129))), (1, .inl (nI to))], [.inl (1 : Int32), .inl (nI (U.1 27).1)], H)) (C := []) rfl trivial ?_
  refine mw_if (P := (nI (U.1 27).1) = (1 : Int32)) (a := 11) (b := 44) (fun _ => rfl) trivial (fun h1 => ?_) (fun h1 => ?_)
  · -- 11: (nI (U.1 27).1) = (1 : Int32)
    have nh1 : ((U.1 27).1) = 1 := (nI_eq (by omega) (by omega)).mp (show nI ((U.1 27).1) = nI 1 from h1)
    refine mw_go mu_g390 (k := 2) (f1 := (15, [(0, .inr (.inr (some 129))), (1, .inl (nI to))], [.inr (.inr (mu_r H 129 0))], H)) (C := [mu_is H (some 129) 9]) rfl (show mu_is H (some 129) 9 from (h.1.1.is rfl)) ?_
    rw [(h.1.1.r (p := 129) (j := 0) (q := 99) rfl)]
    refine mw_go mu_g390 (k := 1) (f1 := (18, [(0, .inr (.inr (some 129))), (1, .inl (nI to))], [.inr (.inr (mu_r H 99 0))], H)) (C := [mu_is H (some 99) 13]) rfl (show mu_is H (some 99) 13 from (h.1.1.is rfl)) ?_
    rw [(show mu_r H 99 0 = (some m) from (ud_q (U := U) (m := m) (P := 99) (j := 0) e rfl).trans hmo0)]
    refine mw_go mu_g390 (k := 1) (f1 := (21, [(0, .inr (.inr (some 129))), (1, .inl (nI to))], [.inr (.inr (mu_r H m 0))], H)) (C := [mu_is H (some m) 6]) rfl (show mu_is H (some m) 6 from (show mu_is H (some m) 6 from gi_im h.1.1 h.2)) ?_
    rw [(show mu_r H m 0 = some (m + 1) from (gi_mr h.1.1 h.2 (j := 0) (by decide)).trans (congrArg some (by omega)))]
    refine mw_go mu_g390 (k := 4) (f1 := (25, [(0, .inr (.inr (some 129))), (1, .inl (nI to))], [.inl (0 : Int32), .inl ((nI to) - (1 : Int32)), .inr (.inr (some (m + 1)))], H)) (C := []) rfl trivial ?_
    refine mw_cIe (fun _ => rfl) (show mu_is H (some (m + 1)) 10 from ((h.1.1.w (md_w0 h.2)).1)) (h.getr (d := (d + 1)) e (j := 0) (by decide) rfl ((nI to) - (1 : Int32)) (c := 0) (by decide)) ?_
    rw [show (tget (U.1 0) ((nI to) - (1 : Int32)) 0) = (tget (U.1 0) ((nI to) - (1 : Int32)) 0) from congrArg (fun z => tget z ((nI to) - (1 : Int32)) 0) (show U.1 0 = (U.1 0) from rfl)]
    refine mw_go mu_g390 (k := 1) (f1 := (30, [(0, .inr (.inr (some 129))), (1, .inl (nI to))], [.inl (6 : Int32), .inl (tget (U.1 0) ((nI to) - (1 : Int32)) 0)], H)) (C := []) rfl trivial ?_
    refine mw_if (P := (tget (U.1 0) ((nI to) - (1 : Int32)) 0) = (6 : Int32)) (a := 33) (b := 44) (fun _ => rfl) trivial (fun h3 => ?_) (fun h3 => ?_)
    · -- 33: (tget (U.1 0) ((nI to) - (1 : Int32)) 0) = (6 : Int32)
      refine mw_go mu_g390 (k := 1) (f1 := (34, [(0, .inr (.inr (some 129))), (1, .inl (nI to))], [.inr (.inr (some 129))], H)) (C := []) rfl trivial ?_
      refine mw_cI (fun _ => rfl) (show mu_is H (some 129) 9 from (h.1.1.is rfl)) (rl_longest (d := d) (Y := Y) h e hmo0 hj0 hnw hnwb hW) (fun x4 H4 q4 => ?_)
      obtain ⟨hlo, hQe⟩ := q4
      rw [hQe]
      refine mw_if (P := x4 < 0) (a := 40) (b := 44) (fun _ => rfl) trivial (fun h5 => ?_) (fun h5 => ?_)
      · -- 40: x4 < 0
        refine mw_go mu_g390 (k := 2) (f1 := (45, [(0, .inr (.inr (some 129))), (1, .inl (nI to))], [.inl (1 : Int32)], H)) (C := []) rfl trivial ?_
        exact mw_of (fun _ => mu_ret rfl (Or.inr rfl) ⟨_, H, rfl, Or.inr rfl, rfl⟩)
      · -- 44: not x4 < 0
        refine mw_go mu_g390 (k := 1) (f1 := (45, [(0, .inr (.inr (some 129))), (1, .inl (nI to))], [.inl (0 : Int32)], H)) (C := []) rfl trivial ?_
        exact mw_of (fun _ => mu_ret rfl (Or.inl rfl) ⟨_, H, rfl, Or.inl rfl, rfl⟩)
    · -- 44: not (tget (U.1 0) ((nI to) - (1 : Int32)) 0) = (6 : Int32)
      refine mw_go mu_g390 (k := 1) (f1 := (45, [(0, .inr (.inr (some 129))), (1, .inl (nI to))], [.inl (0 : Int32)], H)) (C := []) rfl trivial ?_
      exact mw_of (fun _ => mu_ret rfl (Or.inl rfl) ⟨_, H, rfl, Or.inl rfl, rfl⟩)
  · -- 44: not (nI (U.1 27).1) = (1 : Int32)
    have nh1 : ¬ ((U.1 27).1) = 1 := fun z => h1 (show nI ((U.1 27).1) = nI 1 from (nI_eq (by omega) (by omega)).mpr z)
    refine mw_go mu_g390 (k := 1) (f1 := (45, [(0, .inr (.inr (some 129))), (1, .inl (nI to))], [.inl (0 : Int32)], H)) (C := []) rfl trivial ?_
    exact mw_of (fun _ => mu_ret rfl (Or.inl rfl) ⟨_, H, rfl, Or.inl rfl, rfl⟩)
end Longest
