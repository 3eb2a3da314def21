/-! Model.isAlike: codes that say the same in an INSTANCE -/
def ALK (Y : Ts) (a b n i : Nat) : Prop := ∀ x, x < n → oc Y (a + x) = oc Y (b + x) ∧ ((¬ oc Y (a + x) = 2 ∧ ¬ oc Y (a + x) = 3) → (Y 0).2 (a + x) 1 = (Y 0).2 (b + x) 1) ∧ ((oc Y (a + x) = 2 ∨ oc Y (a + x) = 3) → (Y 9).2 (oa Y (a + x)) 2 = (Y 9).2 (oa Y (b + x)) 2 ∧ rch Y (oa Y (a + x)) i = rch Y (oa Y (b + x)) i)
section Alike
variable {H : mu_H} {U : Ud} {m d a b n i x : Nat} {Y : Ts} {La Lb : List Bool}
theorem ALK.next (h : ALK Y a b x i) (h1 : oc Y (a + x) = oc Y (b + x)) (h2 : (¬ oc Y (a + x) = 2 ∧ ¬ oc Y (a + x) = 3) → (Y 0).2 (a + x) 1 = (Y 0).2 (b + x) 1) (h3 : (oc Y (a + x) = 2 ∨ oc Y (a + x) = 3) → (Y 9).2 (oa Y (a + x)) 2 = (Y 9).2 (oa Y (b + x)) 2 ∧ rch Y (oa Y (a + x)) i = rch Y (oa Y (b + x)) i) : ALK Y a b (x + 1) i := fun y hy => by
  by_cases e : y = x
  · rw [e]
    exact ⟨h1, h2, h3⟩
  · exact h y (by omega)
theorem ref_of {p k : Nat} {L : List Bool} {c e : Nat} (hr : rgs Y k L c e) (h1 : c ≤ p) (h2 : p < e) (ok : (Y 0).2 p 0 = nI (oc Y p)) (ho : oc Y p = 2 ∨ oc Y p = 3) (hb : sp Y (k + 1) 6 ≤ 67108864) : ∃ r, (Y 0).2 p 1 = nI r ∧ oa Y p = r ∧ sp Y k 6 ≤ r ∧ r < sp Y (k + 1) 6 := by
  obtain ⟨r, r1, r2, r3⟩ := hr.2.2.2 p h1 h2 (by rw [ok]; rcases ho with y | y <;> rw [y]; exact Or.inl rfl; exact Or.inr rfl)
  exact ⟨r, r1, by unfold oa; rw [r1]; exact nI_clamp (by omega), r2, r3⟩
/-- PathProver$Model.isAlike(IIII)Z -/
abbrev mu_m385 : ev_M := (10, (some .boolean), [], ev_b385)
theorem mu_g385 : mu_good mu_m385 := mu_goodk ev_k385
theorem um_alike (h : um m H) (e : ud m H = U) (hj : jv Y U.1) (hj0 : U.1 0 = Y 0) (hj9 : U.1 9 = Y 9) (hJ : JW Y) (hC : Cc Y) (hi : i < (Y 11).1) (hra : rgs Y (im Y i) La a (a + n)) (hrb : rgs Y (im Y i) Lb b (b + n)) (hb2 : (Y 0).1 ≤ 16777216) (hsp : sp Y (im Y i + 1) 6 ≤ 67108864) : mu_TI (mu_D (d + 3)) 385 [.inr (.inr (some m)), .inl (nI a), .inl (nI b), .inl (nI n), .inl (nI i)] H (fun r H1 => (r = 1 ∧ ALK Y a b n i ∨ r = 0) ∧ H1 = H) := by
  have hba := hra.2.1
  have hbb := hrb.2.1
  refine mu_meth (M := mu_m385) rfl rfl ?_
  refine mw_ht (mu_fn_of (show [0, 1, 2, 3, 4].Nodup by decide)) ?_
  refine mw_go mu_g385 (k := 2) (f1 := (3, [(5, .inl (0 : Int32)), (0, .inr (.inr (some m))), (1, .inl (nI a)), (2, .inl (nI b)), (3, .inl (nI n)), (4, .inl (nI i))], [], H)) (C := []) rfl trivial ?_
  show mu_W _ _ (3, [(5, .inl (nI 0)), (0, .inr (.inr (some m))), (1, .inl (nI a)), (2, .inl (nI b)), (3, .inl (nI n)), (4, .inl (nI i))], [], H) _
  refine mw_sub (L' := [(5, .inl (nI 0)), (0, .inr (.inr (some m))), (1, .inl (nI a)), (2, .inl (nI b)), (3, .inl (nI n)), (4, .inl (nI i))]) (by simp) ?_
  refine mw_down (α := Nat) (fun zs => (3, [(5, .inl (nI zs)), (0, .inr (.inr (some m))), (1, .inl (nI a)), (2, .inl (nI b)), (3, .inl (nI n)), (4, .inl (nI i))], [], H)) (fun zs => n - zs) (fun zs => (zs ≤ n) ∧ (ALK Y a b zs i)) (fun zs hza iha => ?_) 0 ⟨(show 0 ≤ n from (by omega)), (show ALK Y a b 0 i from (fun y hy => absurd hy (Nat.not_lt_zero y)))⟩
  obtain ⟨x, rfl⟩ : ∃ y, y = zs := ⟨zs, rfl⟩
  obtain ⟨hx, hA⟩ := hza
  have hx : x ≤ n := hx
  have hA : ALK Y a b x i := hA
  show mu_W _ _ (3, [(5, .inl (nI x)), (0, .inr (.inr (some m))), (1, .inl (nI a)), (2, .inl (nI b)), (3, .inl (nI n)), (4, .inl (nI i))], [], H) _
  refine mw_go mu_g385 (k := 2) (f1 := (6, [(5, .inl (nI x)), (0, .inr (.inr (some m))), (1, .inl (nI a)), (2, .inl (nI b)), (3, .inl (nI n)), (4, .inl (nI i))], [.inl (nI n), .inl (nI x)], H)) (C := []) rfl trivial ?_
  refine mw_if (P := (nI x) < (nI n)) (a := 9) (b := 154) (fun _ => rfl) trivial (fun h1 => ?_) (fun h1 => ?_)
  · -- 9: (nI x) < (nI n)
    have nh1 : x < n := (nI_ltI (by omega) (by omega)).mp (show nI x < nI n from h1)
    have hxn : x < n := by omega
    obtain ⟨oka, oka2, -⟩ := okc_n hC (show a + x < (Y 0).1 by omega)
    obtain ⟨okb, okb2, -⟩ := okc_n hC (show b + x < (Y 0).1 by omega)
    refine mw_go mu_g385 (k := 2) (f1 := (13, [(5, .inl (nI x)), (0, .inr (.inr (some m))), (1, .inl (nI a)), (2, .inl (nI b)), (3, .inl (nI n)), (4, .inl (nI i))], [.inr (.inr (mu_r H m 0))], H)) (C := [mu_is H (some m) 6]) rfl (show mu_is H (some m) 6 from (show mu_is H (some m) 6 from gi_im h.1.1 h.2)) ?_
    rw [(show mu_r H m 0 = some (m + 1) from (gi_mr h.1.1 h.2 (j := 0) (by decide)).trans (congrArg some (by omega)))]
    refine mw_go mu_g385 (k := 3) (f1 := (17, [(5, .inl (nI x)), (0, .inr (.inr (some m))), (1, .inl (nI a)), (2, .inl (nI b)), (3, .inl (nI n)), (4, .inl (nI i))], [.inl ((nI a) + (nI x)), .inr (.inr (some (m + 1)))], H)) (C := []) rfl trivial ?_
    rw [(show ((nI a) + (nI x)) = (nI (a + x)) from (nI_add a x))]
    refine mw_go mu_g385 (k := 1) (f1 := (18, [(5, .inl (nI x)), (0, .inr (.inr (some m))), (1, .inl (nI a)), (2, .inl (nI b)), (3, .inl (nI n)), (4, .inl (nI i))], [.inl (0 : Int32), .inl (nI (a + x)), .inr (.inr (some (m + 1)))], H)) (C := []) rfl trivial ?_
    refine mw_cIe (fun _ => rfl) (show mu_is H (some (m + 1)) 10 from ((h.1.1.w (md_w0 h.2)).1)) (h.getr (d := (d + 1)) e (j := 0) (by decide) rfl (nI (a + x)) (c := 0) (by decide)) ?_
    rw [show (tget (U.1 0) (nI (a + x)) 0) = (nI (oc Y (a + x))) from ((congrArg (fun z => tget z (nI (a + x)) 0) (show U.1 0 = (U.1 0) from rfl)).trans (tget_nI (by first | omega | decide))).trans ((congrArg (fun y => y.2 (a + x) 0) hj0).trans oka)]
    refine mw_go mu_g385 (k := 3) (f1 := (27, [(6, .inl (nI (oc Y (a + x)))), (5, .inl (nI x)), (0, .inr (.inr (some m))), (1, .inl (nI a)), (2, .inl (nI b)), (3, .inl (nI n)), (4, .inl (nI i))], [.inr (.inr (mu_r H m 0))], H)) (C := [mu_is H (some m) 6]) rfl (show mu_is H (some m) 6 from (show mu_is H (some m) 6 from gi_im h.1.1 h.2)) ?_
    rw [(show mu_r H m 0 = some (m + 1) from (gi_mr h.1.1 h.2 (j := 0) (by decide)).trans (congrArg some (by omega)))]
    refine mw_go mu_g385 (k := 3) (f1 := (31, [(6, .inl (nI (oc Y (a + x)))), (5, .inl (nI x)), (0, .inr (.inr (some m))), (1, .inl (nI a)), (2, .inl (nI b)), (3, .inl (nI n)), (4, .inl (nI i))], [.inl ((nI a) + (nI x)), .inr (.inr (some (m + 1)))], H)) (C := []) rfl trivial ?_
    rw [(show ((nI a) + (nI x)) = (nI (a + x)) from (nI_add a x))]
    refine mw_go mu_g385 (k := 1) (f1 := (32, [(6, .inl (nI (oc Y (a + x)))), (5, .inl (nI x)), (0, .inr (.inr (some m))), (1, .inl (nI a)), (2, .inl (nI b)), (3, .inl (nI n)), (4, .inl (nI i))], [.inl (1 : Int32), .inl (nI (a + x)), .inr (.inr (some (m + 1)))], H)) (C := []) rfl trivial ?_
    refine mw_cIe (fun _ => rfl) (show mu_is H (some (m + 1)) 10 from ((h.1.1.w (md_w0 h.2)).1)) (h.getr (d := (d + 1)) e (j := 0) (by decide) rfl (nI (a + x)) (c := 1) (by decide)) ?_
    rw [show (tget (U.1 0) (nI (a + x)) 1) = ((Y 0).2 (a + x) 1) from ((congrArg (fun z => tget z (nI (a + x)) 1) (show U.1 0 = (U.1 0) from rfl)).trans (tget_nI (by first | omega | decide))).trans (congrArg (fun y => y.2 (a + x) 1) hj0)]
    refine mw_go mu_g385 (k := 3) (f1 := (41, [(7, .inl ((Y 0).2 (a + x) 1)), (6, .inl (nI (oc Y (a + x)))), (5, .inl (nI x)), (0, .inr (.inr (some m))), (1, .inl (nI a)), (2, .inl (nI b)), (3, .inl (nI n)), (4, .inl (nI i))], [.inr (.inr (mu_r H m 0))], H)) (C := [mu_is H (some m) 6]) rfl (show mu_is H (some m) 6 from (show mu_is H (some m) 6 from gi_im h.1.1 h.2)) ?_
    rw [(show mu_r H m 0 = some (m + 1) from (gi_mr h.1.1 h.2 (j := 0) (by decide)).trans (congrArg some (by omega)))]
    refine mw_go mu_g385 (k := 3) (f1 := (45, [(7, .inl ((Y 0).2 (a + x) 1)), (6, .inl (nI (oc Y (a + x)))), (5, .inl (nI x)), (0, .inr (.inr (some m))), (1, .inl (nI a)), (2, .inl (nI b)), (3, .inl (nI n)), (4, .inl (nI i))], [.inl ((nI b) + (nI x)), .inr (.inr (some (m + 1)))], H)) (C := []) rfl trivial ?_
    rw [(show ((nI b) + (nI x)) = (nI (b + x)) from (nI_add b x))]
    refine mw_go mu_g385 (k := 1) (f1 := (46, [(7, .inl ((Y 0).2 (a + x) 1)), (6, .inl (nI (oc Y (a + x)))), (5, .inl (nI x)), (0, .inr (.inr (some m))), (1, .inl (nI a)), (2, .inl (nI b)), (3, .inl (nI n)), (4, .inl (nI i))], [.inl (1 : Int32), .inl (nI (b + x)), .inr (.inr (some (m + 1)))], H)) (C := []) rfl trivial ?_
    refine mw_cIe (fun _ => rfl) (show mu_is H (some (m + 1)) 10 from ((h.1.1.w (md_w0 h.2)).1)) (h.getr (d := (d + 1)) e (j := 0) (by decide) rfl (nI (b + x)) (c := 1) (by decide)) ?_
    rw [show (tget (U.1 0) (nI (b + x)) 1) = ((Y 0).2 (b + x) 1) from ((congrArg (fun z => tget z (nI (b + x)) 1) (show U.1 0 = (U.1 0) from rfl)).trans (tget_nI (by first | omega | decide))).trans (congrArg (fun y => y.2 (b + x) 1) hj0)]
    refine mw_go mu_g385 (k := 3) (f1 := (54, [(8, .inl ((Y 0).2 (b + x) 1)), (7, .inl ((Y 0).2 (a + x) 1)), (6, .inl (nI (oc Y (a + x)))), (5, .inl (nI x)), (0, .inr (.inr (some m))), (1, .inl (nI a)), (2, .inl (nI b)), (3, .inl (nI n)), (4, .inl (nI i))], [.inl (2 : Int32), .inl (nI (oc Y (a + x)))], H)) (C := []) rfl trivial ?_
    refine mw_if (P := (nI (oc Y (a + x))) = (2 : Int32)) (a := 63) (b := 57) (fun _ => rfl) trivial (fun h5 => ?_) (fun h5 => ?_)
    · -- 63: (nI (oc Y (a + x))) = (2 : Int32)
      have nh5 : (oc Y (a + x)) = 2 := (nI_eq (by omega) (by omega)).mp (show nI (oc Y (a + x)) = nI 2 from h5)
      refine mw_go mu_g385 (k := 6) (f1 := (76, [(9, .inl (1 : Int32)), (8, .inl ((Y 0).2 (b + x) 1)), (7, .inl ((Y 0).2 (a + x) 1)), (6, .inl (nI (oc Y (a + x)))), (5, .inl (nI x)), (0, .inr (.inr (some m))), (1, .inl (nI a)), (2, .inl (nI b)), (3, .inl (nI n)), (4, .inl (nI i))], [.inr (.inr (mu_r H m 0)), .inl (nI (oc Y (a + x)))], H)) (C := [mu_is H (some m) 6]) rfl (show mu_is H (some m) 6 from (show mu_is H (some m) 6 from gi_im h.1.1 h.2)) ?_
      rw [(show mu_r H m 0 = some (m + 1) from (gi_mr h.1.1 h.2 (j := 0) (by decide)).trans (congrArg some (by omega)))]
      refine mw_go mu_g385 (k := 3) (f1 := (80, [(9, .inl (1 : Int32)), (8, .inl ((Y 0).2 (b + x) 1)), (7, .inl ((Y 0).2 (a + x) 1)), (6, .inl (nI (oc Y (a + x)))), (5, .inl (nI x)), (0, .inr (.inr (some m))), (1, .inl (nI a)), (2, .inl (nI b)), (3, .inl (nI n)), (4, .inl (nI i))], [.inl ((nI b) + (nI x)), .inr (.inr (some (m + 1))), .inl (nI (oc Y (a + x)))], H)) (C := []) rfl trivial ?_
      rw [(show ((nI b) + (nI x)) = (nI (b + x)) from (nI_add b x))]
      refine mw_go mu_g385 (k := 1) (f1 := (81, [(9, .inl (1 : Int32)), (8, .inl ((Y 0).2 (b + x) 1)), (7, .inl ((Y 0).2 (a + x) 1)), (6, .inl (nI (oc Y (a + x)))), (5, .inl (nI x)), (0, .inr (.inr (some m))), (1, .inl (nI a)), (2, .inl (nI b)), (3, .inl (nI n)), (4, .inl (nI i))], [.inl (0 : Int32), .inl (nI (b + x)), .inr (.inr (some (m + 1))), .inl (nI (oc Y (a + x)))], H)) (C := []) rfl trivial ?_
      refine mw_cIe (fun _ => rfl) (show mu_is H (some (m + 1)) 10 from ((h.1.1.w (md_w0 h.2)).1)) (h.getr (d := (d + 1)) e (j := 0) (by decide) rfl (nI (b + x)) (c := 0) (by decide)) ?_
      rw [show (tget (U.1 0) (nI (b + x)) 0) = (nI (oc Y (b + x))) from ((congrArg (fun z => tget z (nI (b + x)) 0) (show U.1 0 = (U.1 0) from rfl)).trans (tget_nI (by first | omega | decide))).trans ((congrArg (fun y => y.2 (b + x) 0) hj0).trans okb)]
      refine mw_if (P := (nI (oc Y (a + x))) = (nI (oc Y (b + x)))) (a := 87) (b := 146) (fun _ => rfl) trivial (fun h7 => ?_) (fun h7 => ?_)
      · -- 87: (nI (oc Y (a + x))) = (nI (oc Y (b + x)))
        have nh7 : (oc Y (a + x)) = (oc Y (b + x)) := (nI_eq (by omega) (by omega)).mp (show nI (oc Y (a + x)) = nI (oc Y (b + x)) from h7)
        refine mw_go mu_g385 (k := 1) (f1 := (89, [(9, .inl (1 : Int32)), (8, .inl ((Y 0).2 (b + x) 1)), (7, .inl ((Y 0).2 (a + x) 1)), (6, .inl (nI (oc Y (a + x)))), (5, .inl (nI x)), (0, .inr (.inr (some m))), (1, .inl (nI a)), (2, .inl (nI b)), (3, .inl (nI n)), (4, .inl (nI i))], [.inl (1 : Int32)], H)) (C := []) rfl trivial ?_
        refine mw_if (P := (1 : Int32) = 0) (a := 92) (b := 99) (fun _ => rfl) trivial (fun h8 => absurd h8 (by decide)) (fun h8 => ?_)
        refine mw_go mu_g385 (k := 1) (f1 := (101, [(9, .inl (1 : Int32)), (8, .inl ((Y 0).2 (b + x) 1)), (7, .inl ((Y 0).2 (a + x) 1)), (6, .inl (nI (oc Y (a + x)))), (5, .inl (nI x)), (0, .inr (.inr (some m))), (1, .inl (nI a)), (2, .inl (nI b)), (3, .inl (nI n)), (4, .inl (nI i))], [.inl (1 : Int32)], H)) (C := []) rfl trivial ?_
        refine mw_if (P := (1 : Int32) = 0) (a := 148) (b := 104) (fun _ => rfl) trivial (fun h9 => absurd h9 (by decide)) (fun h9 => ?_)
        have heo : oc Y (a + x) = oc Y (b + x) := nh7
        have hnm : oc Y (a + x) = 2 ∨ oc Y (a + x) = 3 := by omega
        obtain ⟨ra, era, oaa, ra1, ra2⟩ := ref_of hra (by omega) (by omega) oka hnm hsp
        obtain ⟨rb, erb, oab, rb1, rb2⟩ := ref_of hrb (by omega) (by omega) okb (by rw [← heo]; exact hnm) hsp
        rw [era, erb]
        refine mw_go mu_g385 (k := 2) (f1 := (108, [(9, .inl (1 : Int32)), (8, .inl (nI rb)), (7, .inl (nI ra)), (6, .inl (nI (oc Y (a + x)))), (5, .inl (nI x)), (0, .inr (.inr (some m))), (1, .inl (nI a)), (2, .inl (nI b)), (3, .inl (nI n)), (4, .inl (nI i))], [.inr (.inr (mu_r H m 9))], H)) (C := [mu_is H (some m) 6]) rfl (show mu_is H (some m) 6 from (show mu_is H (some m) 6 from gi_im h.1.1 h.2)) ?_
        rw [(show mu_r H m 9 = some (m + 19) from (gi_mr h.1.1 h.2 (j := 9) (by decide)).trans (congrArg some (by omega)))]
        refine mw_go mu_g385 (k := 2) (f1 := (111, [(9, .inl (1 : Int32)), (8, .inl (nI rb)), (7, .inl (nI ra)), (6, .inl (nI (oc Y (a + x)))), (5, .inl (nI x)), (0, .inr (.inr (some m))), (1, .inl (nI a)), (2, .inl (nI b)), (3, .inl (nI n)), (4, .inl (nI i))], [.inl (2 : Int32), .inl (nI ra), .inr (.inr (some (m + 19)))], H)) (C := []) rfl trivial ?_
        refine mw_cIe (fun _ => rfl) (show mu_is H (some (m + 19)) 10 from ((h.1.1.w (md_w9 h.2)).1)) (h.getr (d := (d + 1)) e (j := 9) (by decide) rfl (nI ra) (c := 2) (by decide)) ?_
        rw [show (tget (U.1 9) (nI ra) 2) = ((Y 9).2 ra 2) from ((congrArg (fun z => tget z (nI ra) 2) (show U.1 9 = (U.1 9) from rfl)).trans (tget_nI (by first | omega | decide))).trans (congrArg (fun y => y.2 ra 2) hj9)]
        refine mw_go mu_g385 (k := 2) (f1 := (118, [(9, .inl (1 : Int32)), (8, .inl (nI rb)), (7, .inl (nI ra)), (6, .inl (nI (oc Y (a + x)))), (5, .inl (nI x)), (0, .inr (.inr (some m))), (1, .inl (nI a)), (2, .inl (nI b)), (3, .inl (nI n)), (4, .inl (nI i))], [.inr (.inr (mu_r H m 9)), .inl ((Y 9).2 ra 2)], H)) (C := [mu_is H (some m) 6]) rfl (show mu_is H (some m) 6 from (show mu_is H (some m) 6 from gi_im h.1.1 h.2)) ?_
        rw [(show mu_r H m 9 = some (m + 19) from (gi_mr h.1.1 h.2 (j := 9) (by decide)).trans (congrArg some (by omega)))]
        refine mw_go mu_g385 (k := 2) (f1 := (121, [(9, .inl (1 : Int32)), (8, .inl (nI rb)), (7, .inl (nI ra)), (6, .inl (nI (oc Y (a + x)))), (5, .inl (nI x)), (0, .inr (.inr (some m))), (1, .inl (nI a)), (2, .inl (nI b)), (3, .inl (nI n)), (4, .inl (nI i))], [.inl (2 : Int32), .inl (nI rb), .inr (.inr (some (m + 19))), .inl ((Y 9).2 ra 2)], H)) (C := []) rfl trivial ?_
        refine mw_cIe (fun _ => rfl) (show mu_is H (some (m + 19)) 10 from ((h.1.1.w (md_w9 h.2)).1)) (h.getr (d := (d + 1)) e (j := 9) (by decide) rfl (nI rb) (c := 2) (by decide)) ?_
        rw [show (tget (U.1 9) (nI rb) 2) = ((Y 9).2 rb 2) from ((congrArg (fun z => tget z (nI rb) 2) (show U.1 9 = (U.1 9) from rfl)).trans (tget_nI (by first | omega | decide))).trans (congrArg (fun y => y.2 rb 2) hj9)]
        refine mw_if (P := ((Y 9).2 ra 2) = ((Y 9).2 rb 2)) (a := 127) (b := 146) (fun _ => rfl) trivial (fun h12 => ?_) (fun h12 => ?_)
        · -- 127: ((Y 9).2 ra 2) = ((Y 9).2 rb 2)
          refine mw_go mu_g385 (k := 3) (f1 := (132, [(9, .inl (1 : Int32)), (8, .inl (nI rb)), (7, .inl (nI ra)), (6, .inl (nI (oc Y (a + x)))), (5, .inl (nI x)), (0, .inr (.inr (some m))), (1, .inl (nI a)), (2, .inl (nI b)), (3, .inl (nI n)), (4, .inl (nI i))], [.inl (nI i), .inl (nI ra), .inr (.inr (some m))], H)) (C := []) rfl trivial ?_
          refine mw_cI (fun _ => rfl) (show mu_is H (some m) 6 from (show mu_is H (some m) 6 from gi_im h.1.1 h.2)) (um_reach (d := d) (W := Y) h (by have z : ak m H = U.1 := congrArg Prod.fst e; rw [z]; exact hj) hJ hi ra1 ra2) (fun x13 H13 q13 => ?_)
          obtain ⟨rfl, rfl, -⟩ := q13
          refine mw_go mu_g385 (k := 3) (f1 := (140, [(9, .inl (1 : Int32)), (8, .inl (nI rb)), (7, .inl (nI ra)), (6, .inl (nI (oc Y (a + x)))), (5, .inl (nI x)), (0, .inr (.inr (some m))), (1, .inl (nI a)), (2, .inl (nI b)), (3, .inl (nI n)), (4, .inl (nI i))], [.inl (nI i), .inl (nI rb), .inr (.inr (some m)), .inl (rch Y ra i)], H)) (C := []) rfl trivial ?_
          refine mw_cI (fun _ => rfl) (show mu_is H (some m) 6 from (show mu_is H (some m) 6 from gi_im h.1.1 h.2)) (um_reach (d := d) (W := Y) h (by have z : ak m H = U.1 := congrArg Prod.fst e; rw [z]; exact hj) hJ hi rb1 rb2) (fun x14 H14 q14 => ?_)
          obtain ⟨rfl, rfl, -⟩ := q14
          refine mw_if (P := (rch Y ra i) = (rch Y rb i)) (a := 148) (b := 146) (fun _ => rfl) trivial (fun h15 => ?_) (fun h15 => ?_)
          · -- 148: (rch Y ra i) = (rch Y rb i)
            have hAn := ALK.next hA heo (fun y => absurd hnm (by omega)) (fun _ => by rw [oaa, oab]; exact ⟨h12, h15⟩)
            refine mw_go mu_g385 (k := 1) (f1 := (151, [(5, .inl ((nI x) + 1)), (9, .inl (1 : Int32)), (8, .inl (nI rb)), (7, .inl (nI ra)), (6, .inl (nI (oc Y (a + x)))), (0, .inr (.inr (some m))), (1, .inl (nI a)), (2, .inl (nI b)), (3, .inl (nI n)), (4, .inl (nI i))], [], H)) (C := []) rfl trivial ?_
            rw [(show ((nI x) + 1) = (nI (x + 1)) from (nI_add x 1))]
            refine mw_go mu_g385 (k := 1) (f1 := (3, [(5, .inl (nI (x + 1))), (9, .inl (1 : Int32)), (8, .inl (nI rb)), (7, .inl (nI ra)), (6, .inl (nI (oc Y (a + x)))), (0, .inr (.inr (some m))), (1, .inl (nI a)), (2, .inl (nI b)), (3, .inl (nI n)), (4, .inl (nI i))], [], H)) (C := []) rfl trivial ?_
            exact mw_sub (by simp) (iha (x + 1) ⟨(show (x + 1) ≤ n from (by omega)), (show ALK Y a b (x + 1) i from hAn)⟩ (by show n - (x + 1) < n - x; omega))
          · -- 146: not (rch Y ra i) = (rch Y rb i)
            refine mw_go mu_g385 (k := 1) (f1 := (147, [(9, .inl (1 : Int32)), (8, .inl (nI rb)), (7, .inl (nI ra)), (6, .inl (nI (oc Y (a + x)))), (5, .inl (nI x)), (0, .inr (.inr (some m))), (1, .inl (nI a)), (2, .inl (nI b)), (3, .inl (nI n)), (4, .inl (nI i))], [.inl (0 : Int32)], H)) (C := []) rfl trivial ?_
            exact mw_of (fun _ => mu_ret rfl (Or.inl rfl) ⟨_, H, rfl, Or.inr rfl, rfl⟩)
        · -- 146: not ((Y 9).2 ra 2) = ((Y 9).2 rb 2)
          refine mw_go mu_g385 (k := 1) (f1 := (147, [(9, .inl (1 : Int32)), (8, .inl (nI rb)), (7, .inl (nI ra)), (6, .inl (nI (oc Y (a + x)))), (5, .inl (nI x)), (0, .inr (.inr (some m))), (1, .inl (nI a)), (2, .inl (nI b)), (3, .inl (nI n)), (4, .inl (nI i))], [.inl (0 : Int32)], H)) (C := []) rfl trivial ?_
          exact mw_of (fun _ => mu_ret rfl (Or.inl rfl) ⟨_, H, rfl, Or.inr rfl, rfl⟩)
      · -- 146: not (nI (oc Y (a + x))) = (nI (oc Y (b + x)))
        have nh7 : ¬ (oc Y (a + x)) = (oc Y (b + x)) := fun z => h7 (show nI (oc Y (a + x)) = nI (oc Y (b + x)) from (nI_eq (by omega) (by omega)).mpr z)
        refine mw_go mu_g385 (k := 1) (f1 := (147, [(9, .inl (1 : Int32)), (8, .inl ((Y 0).2 (b + x) 1)), (7, .inl ((Y 0).2 (a + x) 1)), (6, .inl (nI (oc Y (a + x)))), (5, .inl (nI x)), (0, .inr (.inr (some m))), (1, .inl (nI a)), (2, .inl (nI b)), (3, .inl (nI n)), (4, .inl (nI i))], [.inl (0 : Int32)], H)) (C := []) rfl trivial ?_
        exact mw_of (fun _ => mu_ret rfl (Or.inl rfl) ⟨_, H, rfl, Or.inr rfl, rfl⟩)
    · -- 57: not (nI (oc Y (a + x))) = (2 : Int32)
      have nh5 : ¬ (oc Y (a + x)) = 2 := fun z => h5 (show nI (oc Y (a + x)) = nI 2 from (nI_eq (by omega) (by omega)).mpr z)
      refine mw_go mu_g385 (k := 2) (f1 := (60, [(8, .inl ((Y 0).2 (b + x) 1)), (7, .inl ((Y 0).2 (a + x) 1)), (6, .inl (nI (oc Y (a + x)))), (5, .inl (nI x)), (0, .inr (.inr (some m))), (1, .inl (nI a)), (2, .inl (nI b)), (3, .inl (nI n)), (4, .inl (nI i))], [.inl (3 : Int32), .inl (nI (oc Y (a + x)))], H)) (C := []) rfl trivial ?_
      refine mw_if (P := (nI (oc Y (a + x))) = (3 : Int32)) (a := 63) (b := 67) (fun _ => rfl) trivial (fun h16 => ?_) (fun h16 => ?_)
      · -- 63: (nI (oc Y (a + x))) = (3 : Int32)
        have nh16 : (oc Y (a + x)) = 3 := (nI_eq (by omega) (by omega)).mp (show nI (oc Y (a + x)) = nI 3 from h16)
        refine mw_go mu_g385 (k := 6) (f1 := (76, [(9, .inl (1 : Int32)), (8, .inl ((Y 0).2 (b + x) 1)), (7, .inl ((Y 0).2 (a + x) 1)), (6, .inl (nI (oc Y (a + x)))), (5, .inl (nI x)), (0, .inr (.inr (some m))), (1, .inl (nI a)), (2, .inl (nI b)), (3, .inl (nI n)), (4, .inl (nI i))], [.inr (.inr (mu_r H m 0)), .inl (nI (oc Y (a + x)))], H)) (C := [mu_is H (some m) 6]) rfl (show mu_is H (some m) 6 from (show mu_is H (some m) 6 from gi_im h.1.1 h.2)) ?_
        rw [(show mu_r H m 0 = some (m + 1) from (gi_mr h.1.1 h.2 (j := 0) (by decide)).trans (congrArg some (by omega)))]
        refine mw_go mu_g385 (k := 3) (f1 := (80, [(9, .inl (1 : Int32)), (8, .inl ((Y 0).2 (b + x) 1)), (7, .inl ((Y 0).2 (a + x) 1)), (6, .inl (nI (oc Y (a + x)))), (5, .inl (nI x)), (0, .inr (.inr (some m))), (1, .inl (nI a)), (2, .inl (nI b)), (3, .inl (nI n)), (4, .inl (nI i))], [.inl ((nI b) + (nI x)), .inr (.inr (some (m + 1))), .inl (nI (oc Y (a + x)))], H)) (C := []) rfl trivial ?_
        rw [(show ((nI b) + (nI x)) = (nI (b + x)) from (nI_add b x))]
        refine mw_go mu_g385 (k := 1) (f1 := (81, [(9, .inl (1 : Int32)), (8, .inl ((Y 0).2 (b + x) 1)), (7, .inl ((Y 0).2 (a + x) 1)), (6, .inl (nI (oc Y (a + x)))), (5, .inl (nI x)), (0, .inr (.inr (some m))), (1, .inl (nI a)), (2, .inl (nI b)), (3, .inl (nI n)), (4, .inl (nI i))], [.inl (0 : Int32), .inl (nI (b + x)), .inr (.inr (some (m + 1))), .inl (nI (oc Y (a + x)))], H)) (C := []) rfl trivial ?_
        refine mw_cIe (fun _ => rfl) (show mu_is H (some (m + 1)) 10 from ((h.1.1.w (md_w0 h.2)).1)) (h.getr (d := (d + 1)) e (j := 0) (by decide) rfl (nI (b + x)) (c := 0) (by decide)) ?_
        rw [show (tget (U.1 0) (nI (b + x)) 0) = (nI (oc Y (b + x))) from ((congrArg (fun z => tget z (nI (b + x)) 0) (show U.1 0 = (U.1 0) from rfl)).trans (tget_nI (by first | omega | decide))).trans ((congrArg (fun y => y.2 (b + x) 0) hj0).trans okb)]
        refine mw_if (P := (nI (oc Y (a + x))) = (nI (oc Y (b + x)))) (a := 87) (b := 146) (fun _ => rfl) trivial (fun h18 => ?_) (fun h18 => ?_)
        · -- 87: (nI (oc Y (a + x))) = (nI (oc Y (b + x)))
          have nh18 : (oc Y (a + x)) = (oc Y (b + x)) := (nI_eq (by omega) (by omega)).mp (show nI (oc Y (a + x)) = nI (oc Y (b + x)) from h18)
          refine mw_go mu_g385 (k := 1) (f1 := (89, [(9, .inl (1 : Int32)), (8, .inl ((Y 0).2 (b + x) 1)), (7, .inl ((Y 0).2 (a + x) 1)), (6, .inl (nI (oc Y (a + x)))), (5, .inl (nI x)), (0, .inr (.inr (some m))), (1, .inl (nI a)), (2, .inl (nI b)), (3, .inl (nI n)), (4, .inl (nI i))], [.inl (1 : Int32)], H)) (C := []) rfl trivial ?_
          refine mw_if (P := (1 : Int32) = 0) (a := 92) (b := 99) (fun _ => rfl) trivial (fun h19 => absurd h19 (by decide)) (fun h19 => ?_)
          refine mw_go mu_g385 (k := 1) (f1 := (101, [(9, .inl (1 : Int32)), (8, .inl ((Y 0).2 (b + x) 1)), (7, .inl ((Y 0).2 (a + x) 1)), (6, .inl (nI (oc Y (a + x)))), (5, .inl (nI x)), (0, .inr (.inr (some m))), (1, .inl (nI a)), (2, .inl (nI b)), (3, .inl (nI n)), (4, .inl (nI i))], [.inl (1 : Int32)], H)) (C := []) rfl trivial ?_
          refine mw_if (P := (1 : Int32) = 0) (a := 148) (b := 104) (fun _ => rfl) trivial (fun h20 => absurd h20 (by decide)) (fun h20 => ?_)
          have heo : oc Y (a + x) = oc Y (b + x) := nh18
          have hnm : oc Y (a + x) = 2 ∨ oc Y (a + x) = 3 := by omega
          obtain ⟨ra, era, oaa, ra1, ra2⟩ := ref_of hra (by omega) (by omega) oka hnm hsp
          obtain ⟨rb, erb, oab, rb1, rb2⟩ := ref_of hrb (by omega) (by omega) okb (by rw [← heo]; exact hnm) hsp
          rw [era, erb]
          refine mw_go mu_g385 (k := 2) (f1 := (108, [(9, .inl (1 : Int32)), (8, .inl (nI rb)), (7, .inl (nI ra)), (6, .inl (nI (oc Y (a + x)))), (5, .inl (nI x)), (0, .inr (.inr (some m))), (1, .inl (nI a)), (2, .inl (nI b)), (3, .inl (nI n)), (4, .inl (nI i))], [.inr (.inr (mu_r H m 9))], H)) (C := [mu_is H (some m) 6]) rfl (show mu_is H (some m) 6 from (show mu_is H (some m) 6 from gi_im h.1.1 h.2)) ?_
          rw [(show mu_r H m 9 = some (m + 19) from (gi_mr h.1.1 h.2 (j := 9) (by decide)).trans (congrArg some (by omega)))]
          refine mw_go mu_g385 (k := 2) (f1 := (111, [(9, .inl (1 : Int32)), (8, .inl (nI rb)), (7, .inl (nI ra)), (6, .inl (nI (oc Y (a + x)))), (5, .inl (nI x)), (0, .inr (.inr (some m))), (1, .inl (nI a)), (2, .inl (nI b)), (3, .inl (nI n)), (4, .inl (nI i))], [.inl (2 : Int32), .inl (nI ra), .inr (.inr (some (m + 19)))], H)) (C := []) rfl trivial ?_
          refine mw_cIe (fun _ => rfl) (show mu_is H (some (m + 19)) 10 from ((h.1.1.w (md_w9 h.2)).1)) (h.getr (d := (d + 1)) e (j := 9) (by decide) rfl (nI ra) (c := 2) (by decide)) ?_
          rw [show (tget (U.1 9) (nI ra) 2) = ((Y 9).2 ra 2) from ((congrArg (fun z => tget z (nI ra) 2) (show U.1 9 = (U.1 9) from rfl)).trans (tget_nI (by first | omega | decide))).trans (congrArg (fun y => y.2 ra 2) hj9)]
          refine mw_go mu_g385 (k := 2) (f1 := (118, [(9, .inl (1 : Int32)), (8, .inl (nI rb)), (7, .inl (nI ra)), (6, .inl (nI (oc Y (a + x)))), (5, .inl (nI x)), (0, .inr (.inr (some m))), (1, .inl (nI a)), (2, .inl (nI b)), (3, .inl (nI n)), (4, .inl (nI i))], [.inr (.inr (mu_r H m 9)), .inl ((Y 9).2 ra 2)], H)) (C := [mu_is H (some m) 6]) rfl (show mu_is H (some m) 6 from (show mu_is H (some m) 6 from gi_im h.1.1 h.2)) ?_
          rw [(show mu_r H m 9 = some (m + 19) from (gi_mr h.1.1 h.2 (j := 9) (by decide)).trans (congrArg some (by omega)))]
          refine mw_go mu_g385 (k := 2) (f1 := (121, [(9, .inl (1 : Int32)), (8, .inl (nI rb)), (7, .inl (nI ra)), (6, .inl (nI (oc Y (a + x)))), (5, .inl (nI x)), (0, .inr (.inr (some m))), (1, .inl (nI a)), (2, .inl (nI b)), (3, .inl (nI n)), (4, .inl (nI i))], [.inl (2 : Int32), .inl (nI rb), .inr (.inr (some (m + 19))), .inl ((Y 9).2 ra 2)], H)) (C := []) rfl trivial ?_
          refine mw_cIe (fun _ => rfl) (show mu_is H (some (m + 19)) 10 from ((h.1.1.w (md_w9 h.2)).1)) (h.getr (d := (d + 1)) e (j := 9) (by decide) rfl (nI rb) (c := 2) (by decide)) ?_
          rw [show (tget (U.1 9) (nI rb) 2) = ((Y 9).2 rb 2) from ((congrArg (fun z => tget z (nI rb) 2) (show U.1 9 = (U.1 9) from rfl)).trans (tget_nI (by first | omega | decide))).trans (congrArg (fun y => y.2 rb 2) hj9)]
          refine mw_if (P := ((Y 9).2 ra 2) = ((Y 9).2 rb 2)) (a := 127) (b := 146) (fun _ => rfl) trivial (fun h23 => ?_) (fun h23 => ?_)
          · -- 127: ((Y 9).2 ra 2) = ((Y 9).2 rb 2)
            refine mw_go mu_g385 (k := 3) (f1 := (132, [(9, .inl (1 : Int32)), (8, .inl (nI rb)), (7, .inl (nI ra)), (6, .inl (nI (oc Y (a + x)))), (5, .inl (nI x)), (0, .inr (.inr (some m))), (1, .inl (nI a)), (2, .inl (nI b)), (3, .inl (nI n)), (4, .inl (nI i))], [.inl (nI i), .inl (nI ra), .inr (.inr (some m))], H)) (C := []) rfl trivial ?_
            refine mw_cI (fun _ => rfl) (show mu_is H (some m) 6 from (show mu_is H (some m) 6 from gi_im h.1.1 h.2)) (um_reach (d := d) (W := Y) h (by have z : ak m H = U.1 := congrArg Prod.fst e; rw [z]; exact hj) hJ hi ra1 ra2) (fun x24 H24 q24 => ?_)
            obtain ⟨rfl, rfl, -⟩ := q24
            refine mw_go mu_g385 (k := 3) (f1 := (140, [(9, .inl (1 : Int32)), (8, .inl (nI rb)), (7, .inl (nI ra)), (6, .inl (nI (oc Y (a + x)))), (5, .inl (nI x)), (0, .inr (.inr (some m))), (1, .inl (nI a)), (2, .inl (nI b)), (3, .inl (nI n)), (4, .inl (nI i))], [.inl (nI i), .inl (nI rb), .inr (.inr (some m)), .inl (rch Y ra i)], H)) (C := []) rfl trivial ?_
            refine mw_cI (fun _ => rfl) (show mu_is H (some m) 6 from (show mu_is H (some m) 6 from gi_im h.1.1 h.2)) (um_reach (d := d) (W := Y) h (by have z : ak m H = U.1 := congrArg Prod.fst e; rw [z]; exact hj) hJ hi rb1 rb2) (fun x25 H25 q25 => ?_)
            obtain ⟨rfl, rfl, -⟩ := q25
            refine mw_if (P := (rch Y ra i) = (rch Y rb i)) (a := 148) (b := 146) (fun _ => rfl) trivial (fun h26 => ?_) (fun h26 => ?_)
            · -- 148: (rch Y ra i) = (rch Y rb i)
              have hAn := ALK.next hA heo (fun y => absurd hnm (by omega)) (fun _ => by rw [oaa, oab]; exact ⟨h23, h26⟩)
              refine mw_go mu_g385 (k := 1) (f1 := (151, [(5, .inl ((nI x) + 1)), (9, .inl (1 : Int32)), (8, .inl (nI rb)), (7, .inl (nI ra)), (6, .inl (nI (oc Y (a + x)))), (0, .inr (.inr (some m))), (1, .inl (nI a)), (2, .inl (nI b)), (3, .inl (nI n)), (4, .inl (nI i))], [], H)) (C := []) rfl trivial ?_
              rw [(show ((nI x) + 1) = (nI (x + 1)) from (nI_add x 1))]
              refine mw_go mu_g385 (k := 1) (f1 := (3, [(5, .inl (nI (x + 1))), (9, .inl (1 : Int32)), (8, .inl (nI rb)), (7, .inl (nI ra)), (6, .inl (nI (oc Y (a + x)))), (0, .inr (.inr (some m))), (1, .inl (nI a)), (2, .inl (nI b)), (3, .inl (nI n)), (4, .inl (nI i))], [], H)) (C := []) rfl trivial ?_
              exact mw_sub (by simp) (iha (x + 1) ⟨(show (x + 1) ≤ n from (by omega)), (show ALK Y a b (x + 1) i from hAn)⟩ (by show n - (x + 1) < n - x; omega))
            · -- 146: not (rch Y ra i) = (rch Y rb i)
              refine mw_go mu_g385 (k := 1) (f1 := (147, [(9, .inl (1 : Int32)), (8, .inl (nI rb)), (7, .inl (nI ra)), (6, .inl (nI (oc Y (a + x)))), (5, .inl (nI x)), (0, .inr (.inr (some m))), (1, .inl (nI a)), (2, .inl (nI b)), (3, .inl (nI n)), (4, .inl (nI i))], [.inl (0 : Int32)], H)) (C := []) rfl trivial ?_
              exact mw_of (fun _ => mu_ret rfl (Or.inl rfl) ⟨_, H, rfl, Or.inr rfl, rfl⟩)
          · -- 146: not ((Y 9).2 ra 2) = ((Y 9).2 rb 2)
            refine mw_go mu_g385 (k := 1) (f1 := (147, [(9, .inl (1 : Int32)), (8, .inl (nI rb)), (7, .inl (nI ra)), (6, .inl (nI (oc Y (a + x)))), (5, .inl (nI x)), (0, .inr (.inr (some m))), (1, .inl (nI a)), (2, .inl (nI b)), (3, .inl (nI n)), (4, .inl (nI i))], [.inl (0 : Int32)], H)) (C := []) rfl trivial ?_
            exact mw_of (fun _ => mu_ret rfl (Or.inl rfl) ⟨_, H, rfl, Or.inr rfl, rfl⟩)
        · -- 146: not (nI (oc Y (a + x))) = (nI (oc Y (b + x)))
          have nh18 : ¬ (oc Y (a + x)) = (oc Y (b + x)) := fun z => h18 (show nI (oc Y (a + x)) = nI (oc Y (b + x)) from (nI_eq (by omega) (by omega)).mpr z)
          refine mw_go mu_g385 (k := 1) (f1 := (147, [(9, .inl (1 : Int32)), (8, .inl ((Y 0).2 (b + x) 1)), (7, .inl ((Y 0).2 (a + x) 1)), (6, .inl (nI (oc Y (a + x)))), (5, .inl (nI x)), (0, .inr (.inr (some m))), (1, .inl (nI a)), (2, .inl (nI b)), (3, .inl (nI n)), (4, .inl (nI i))], [.inl (0 : Int32)], H)) (C := []) rfl trivial ?_
          exact mw_of (fun _ => mu_ret rfl (Or.inl rfl) ⟨_, H, rfl, Or.inr rfl, rfl⟩)
      · -- 67: not (nI (oc Y (a + x))) = (3 : Int32)
        have nh16 : ¬ (oc Y (a + x)) = 3 := fun z => h16 (show nI (oc Y (a + x)) = nI 3 from (nI_eq (by omega) (by omega)).mpr z)
        refine mw_go mu_g385 (k := 5) (f1 := (76, [(9, .inl (0 : Int32)), (8, .inl ((Y 0).2 (b + x) 1)), (7, .inl ((Y 0).2 (a + x) 1)), (6, .inl (nI (oc Y (a + x)))), (5, .inl (nI x)), (0, .inr (.inr (some m))), (1, .inl (nI a)), (2, .inl (nI b)), (3, .inl (nI n)), (4, .inl (nI i))], [.inr (.inr (mu_r H m 0)), .inl (nI (oc Y (a + x)))], H)) (C := [mu_is H (some m) 6]) rfl (show mu_is H (some m) 6 from (show mu_is H (some m) 6 from gi_im h.1.1 h.2)) ?_
        rw [(show mu_r H m 0 = some (m + 1) from (gi_mr h.1.1 h.2 (j := 0) (by decide)).trans (congrArg some (by omega)))]
        refine mw_go mu_g385 (k := 3) (f1 := (80, [(9, .inl (0 : Int32)), (8, .inl ((Y 0).2 (b + x) 1)), (7, .inl ((Y 0).2 (a + x) 1)), (6, .inl (nI (oc Y (a + x)))), (5, .inl (nI x)), (0, .inr (.inr (some m))), (1, .inl (nI a)), (2, .inl (nI b)), (3, .inl (nI n)), (4, .inl (nI i))], [.inl ((nI b) + (nI x)), .inr (.inr (some (m + 1))), .inl (nI (oc Y (a + x)))], H)) (C := []) rfl trivial ?_
        rw [(show ((nI b) + (nI x)) = (nI (b + x)) from (nI_add b x))]
        refine mw_go mu_g385 (k := 1) (f1 := (81, [(9, .inl (0 : Int32)), (8, .inl ((Y 0).2 (b + x) 1)), (7, .inl ((Y 0).2 (a + x) 1)), (6, .inl (nI (oc Y (a + x)))), (5, .inl (nI x)), (0, .inr (.inr (some m))), (1, .inl (nI a)), (2, .inl (nI b)), (3, .inl (nI n)), (4, .inl (nI i))], [.inl (0 : Int32), .inl (nI (b + x)), .inr (.inr (some (m + 1))), .inl (nI (oc Y (a + x)))], H)) (C := []) rfl trivial ?_
        refine mw_cIe (fun _ => rfl) (show mu_is H (some (m + 1)) 10 from ((h.1.1.w (md_w0 h.2)).1)) (h.getr (d := (d + 1)) e (j := 0) (by decide) rfl (nI (b + x)) (c := 0) (by decide)) ?_
        rw [show (tget (U.1 0) (nI (b + x)) 0) = (nI (oc Y (b + x))) from ((congrArg (fun z => tget z (nI (b + x)) 0) (show U.1 0 = (U.1 0) from rfl)).trans (tget_nI (by first | omega | decide))).trans ((congrArg (fun y => y.2 (b + x) 0) hj0).trans okb)]
        refine mw_if (P := (nI (oc Y (a + x))) = (nI (oc Y (b + x)))) (a := 87) (b := 146) (fun _ => rfl) trivial (fun h28 => ?_) (fun h28 => ?_)
        · -- 87: (nI (oc Y (a + x))) = (nI (oc Y (b + x)))
          have nh28 : (oc Y (a + x)) = (oc Y (b + x)) := (nI_eq (by omega) (by omega)).mp (show nI (oc Y (a + x)) = nI (oc Y (b + x)) from h28)
          refine mw_go mu_g385 (k := 1) (f1 := (89, [(9, .inl (0 : Int32)), (8, .inl ((Y 0).2 (b + x) 1)), (7, .inl ((Y 0).2 (a + x) 1)), (6, .inl (nI (oc Y (a + x)))), (5, .inl (nI x)), (0, .inr (.inr (some m))), (1, .inl (nI a)), (2, .inl (nI b)), (3, .inl (nI n)), (4, .inl (nI i))], [.inl (0 : Int32)], H)) (C := []) rfl trivial ?_
          refine mw_if (P := (0 : Int32) = 0) (a := 92) (b := 99) (fun _ => rfl) trivial (fun h29 => ?_) (fun h29 => absurd (by decide) h29)
          refine mw_go mu_g385 (k := 2) (f1 := (96, [(9, .inl (0 : Int32)), (8, .inl ((Y 0).2 (b + x) 1)), (7, .inl ((Y 0).2 (a + x) 1)), (6, .inl (nI (oc Y (a + x)))), (5, .inl (nI x)), (0, .inr (.inr (some m))), (1, .inl (nI a)), (2, .inl (nI b)), (3, .inl (nI n)), (4, .inl (nI i))], [.inl ((Y 0).2 (b + x) 1), .inl ((Y 0).2 (a + x) 1)], H)) (C := []) rfl trivial ?_
          refine mw_if (P := ((Y 0).2 (a + x) 1) = ((Y 0).2 (b + x) 1)) (a := 99) (b := 146) (fun _ => rfl) trivial (fun h30 => ?_) (fun h30 => ?_)
          · -- 99: ((Y 0).2 (a + x) 1) = ((Y 0).2 (b + x) 1)
            refine mw_go mu_g385 (k := 1) (f1 := (101, [(9, .inl (0 : Int32)), (8, .inl ((Y 0).2 (b + x) 1)), (7, .inl ((Y 0).2 (a + x) 1)), (6, .inl (nI (oc Y (a + x)))), (5, .inl (nI x)), (0, .inr (.inr (some m))), (1, .inl (nI a)), (2, .inl (nI b)), (3, .inl (nI n)), (4, .inl (nI i))], [.inl (0 : Int32)], H)) (C := []) rfl trivial ?_
            refine mw_if (P := (0 : Int32) = 0) (a := 148) (b := 104) (fun _ => rfl) trivial (fun h31 => ?_) (fun h31 => absurd (by decide) h31)
            have hAn := ALK.next hA nh28 (fun _ => h30) (fun y => absurd y (by omega))
            refine mw_go mu_g385 (k := 1) (f1 := (151, [(5, .inl ((nI x) + 1)), (9, .inl (0 : Int32)), (8, .inl ((Y 0).2 (b + x) 1)), (7, .inl ((Y 0).2 (a + x) 1)), (6, .inl (nI (oc Y (a + x)))), (0, .inr (.inr (some m))), (1, .inl (nI a)), (2, .inl (nI b)), (3, .inl (nI n)), (4, .inl (nI i))], [], H)) (C := []) rfl trivial ?_
            rw [(show ((nI x) + 1) = (nI (x + 1)) from (nI_add x 1))]
            refine mw_go mu_g385 (k := 1) (f1 := (3, [(5, .inl (nI (x + 1))), (9, .inl (0 : Int32)), (8, .inl ((Y 0).2 (b + x) 1)), (7, .inl ((Y 0).2 (a + x) 1)), (6, .inl (nI (oc Y (a + x)))), (0, .inr (.inr (some m))), (1, .inl (nI a)), (2, .inl (nI b)), (3, .inl (nI n)), (4, .inl (nI i))], [], H)) (C := []) rfl trivial ?_
            exact mw_sub (by simp) (iha (x + 1) ⟨(show (x + 1) ≤ n from (by omega)), (show ALK Y a b (x + 1) i from hAn)⟩ (by show n - (x + 1) < n - x; omega))
          · -- 146: not ((Y 0).2 (a + x) 1) = ((Y 0).2 (b + x) 1)
            refine mw_go mu_g385 (k := 1) (f1 := (147, [(9, .inl (0 : Int32)), (8, .inl ((Y 0).2 (b + x) 1)), (7, .inl ((Y 0).2 (a + x) 1)), (6, .inl (nI (oc Y (a + x)))), (5, .inl (nI x)), (0, .inr (.inr (some m))), (1, .inl (nI a)), (2, .inl (nI b)), (3, .inl (nI n)), (4, .inl (nI i))], [.inl (0 : Int32)], H)) (C := []) rfl trivial ?_
            exact mw_of (fun _ => mu_ret rfl (Or.inl rfl) ⟨_, H, rfl, Or.inr rfl, rfl⟩)
        · -- 146: not (nI (oc Y (a + x))) = (nI (oc Y (b + x)))
          have nh28 : ¬ (oc Y (a + x)) = (oc Y (b + x)) := fun z => h28 (show nI (oc Y (a + x)) = nI (oc Y (b + x)) from (nI_eq (by omega) (by omega)).mpr z)
          refine mw_go mu_g385 (k := 1) (f1 := (147, [(9, .inl (0 : Int32)), (8, .inl ((Y 0).2 (b + x) 1)), (7, .inl ((Y 0).2 (a + x) 1)), (6, .inl (nI (oc Y (a + x)))), (5, .inl (nI x)), (0, .inr (.inr (some m))), (1, .inl (nI a)), (2, .inl (nI b)), (3, .inl (nI n)), (4, .inl (nI i))], [.inl (0 : Int32)], H)) (C := []) rfl trivial ?_
          exact mw_of (fun _ => mu_ret rfl (Or.inl rfl) ⟨_, H, rfl, Or.inr rfl, rfl⟩)
  · -- 154: not (nI x) < (nI n)
    have nh1 : ¬ x < n := fun z => h1 (show nI x < nI n from (nI_ltI (by omega) (by omega)).mpr z)
    refine mw_go mu_g385 (k := 1) (f1 := (155, [(5, .inl (nI x)), (0, .inr (.inr (some m))), (1, .inl (nI a)), (2, .inl (nI b)), (3, .inl (nI n)), (4, .inl (nI i))], [.inl (1 : Int32)], H)) (C := []) rfl trivial ?_
    exact mw_of (fun _ => mu_ret rfl (Or.inr rfl) ⟨_, H, rfl, Or.inl ⟨rfl, by rw [show n = x by omega]; exact hA⟩, rfl⟩)
end Alike
