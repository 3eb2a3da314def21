/-! JUDGE: claims and lines -/
section JudgeRanges
variable {H H1 : mu_H} {m r W c : Nat}
/-- a column that tells places in the code -/
def cr (m : Nat) (H : mu_H) (r W c : Nat) : Prop := ∀ i, i < gi_sz H r → ∃ f, f ≤ gi_sz H (m + 1) ∧ cel H r (i * W + c) = nI f
theorem ck.jq (h : ck m H) (hm : m = 2 ∨ m = 41) (hq : jq H H1) : ck m H1 := fun i hi => by
  have e := hq.row (md_w0 hm)
  rw [e.1] at hi
  rw [e.2, e.2]
  exact h i hi
theorem cr.jq (h : cr m H r W c) (hm : m = 2 ∨ m = 41) (hr : gi_w r = some W) (hq : jq H H1) : cr m H1 r W c := fun i hi => by
  have e := hq.row (md_w0 hm)
  have e2 := hq.row hr
  rw [e2.1] at hi
  rw [e.1, e2.2]
  exact h i hi
theorem cr.get (h : cr m H r W c) (hg : gi H) (hr : gi_w r = some W) (hc : c < W) (row : Int32) : ∃ f, f ≤ gi_sz H (m + 1) ∧ rw_get H r W (gi_sz H r) row c = nI f := by
  have hn := rw_n (hg.w hr)
  by_cases h0 : row < 0
  · exact ⟨0, Nat.zero_le _, if_pos h0⟩
  · obtain ⟨i, hi, rfl⟩ := nI_of h0
    by_cases hin : i < gi_sz H r
    · obtain ⟨f, h1, h2⟩ := h i hin
      exact ⟨f, h1, (rw_get_at hn hin hc).trans h2⟩
    · refine ⟨0, Nat.zero_le _, ?_⟩
      unfold rw_get
      rw [if_neg h0, nI_clamp hi, if_neg (fun z => hin z.1)]
      rfl
end JudgeRanges
section JudgeClaims
variable {H : mu_H} {d m : Nat}
/-- PathProver$Judge.claimsAreTruths(I)Z -/
abbrev mu_m191 : ev_M := (7, (some .boolean), [], ev_b191)
theorem mu_g191 : mu_good mu_m191 := mu_goodk ev_k191
theorem jg_claims (h : jd m H) (hck : ck m H) (hN : gi_sz H (m + 1) < jn H) (h17_1 : cr m H (m + 17) 3 1) (h17_2 : cr m H (m + 17) 3 2) (v : Int32) : mu_TI (mu_D (d + 5)) 191 [.inr (.inr (some 91)), .inl v] H (fun x H1 => (x = 0 ∨ x = 1) ∧ jd m H1 ∧ jq H H1) := by
  have hm := h.2.1
  refine mu_meth (M := mu_m191) rfl rfl ?_
  refine mw_ht (mu_fn_of (show [0, 1].Nodup by decide)) ?_
  refine mw_go mu_g191 (k := 2) (f1 := (4, [(0, .inr (.inr (some 91))), (1, .inl v)], [.inr (.inr (mu_r H 91 3))], H)) (C := [mu_is H (some 91) 3]) rfl (show mu_is H (some 91) 3 from h.1.is rfl) ?_
  rw [h.2.2]
  refine mw_go mu_g191 (k := 1) (f1 := (7, [(0, .inr (.inr (some 91))), (1, .inl v)], [.inr (.inr (mu_r H m 11))], H)) (C := [mu_is H (some m) 6]) rfl (show mu_is H (some m) 6 from (show mu_is H (some m) 6 from gi_im h.1 h.2.1)) ?_
  rw [(show mu_r H m 11 = some (m + 23) from (gi_mr h.1 h.2.1 (j := 11) (by decide)).trans (congrArg some (by omega)))]
  refine mw_go mu_g191 (k := 2) (f1 := (9, [(0, .inr (.inr (some 91))), (1, .inl v)], [.inl (0 : Int32), .inl v, .inr (.inr (some (m + 23)))], H)) (C := []) rfl trivial ?_
  refine mw_cIe (fun _ => rfl) (show mu_is H (some (m + 23)) 10 from (h.1.w (md_w11 h.2.1)).1) (gi_get_ok (d := (d + 3)) (H := H) h.1 (md_w11 h.2.1) v (j := 0) (by decide)) ?_
  refine mw_go mu_g191 (k := 3) (f1 := (17, [(2, .inl (rw_get H (m + 23) 4 (gi_sz H (m + 23)) v 0)), (0, .inr (.inr (some 91))), (1, .inl v)], [.inr (.inr (mu_r H 91 3))], H)) (C := [mu_is H (some 91) 3]) rfl (show mu_is H (some 91) 3 from h.1.is rfl) ?_
  rw [h.2.2]
  refine mw_go mu_g191 (k := 1) (f1 := (20, [(2, .inl (rw_get H (m + 23) 4 (gi_sz H (m + 23)) v 0)), (0, .inr (.inr (some 91))), (1, .inl v)], [.inr (.inr (mu_r H m 1))], H)) (C := [mu_is H (some m) 6]) rfl (show mu_is H (some m) 6 from (show mu_is H (some m) 6 from gi_im h.1 h.2.1)) ?_
  rw [(show mu_r H m 1 = some (m + 3) from (gi_mr h.1 h.2.1 (j := 1) (by decide)).trans (congrArg some (by omega)))]
  refine mw_go mu_g191 (k := 2) (f1 := (22, [(2, .inl (rw_get H (m + 23) 4 (gi_sz H (m + 23)) v 0)), (0, .inr (.inr (some 91))), (1, .inl v)], [.inl (5 : Int32), .inl (rw_get H (m + 23) 4 (gi_sz H (m + 23)) v 0), .inr (.inr (some (m + 3)))], H)) (C := []) rfl trivial ?_
  refine mw_cIe (fun _ => rfl) (show mu_is H (some (m + 3)) 10 from (h.1.w (md_w1 h.2.1)).1) (gi_get_ok (d := (d + 3)) (H := H) h.1 (md_w1 h.2.1) (rw_get H (m + 23) 4 (gi_sz H (m + 23)) v 0) (j := 5) (by decide)) ?_
  refine mw_go mu_g191 (k := 1) (f1 := (26, [(3, .inl (rw_get H (m + 3) 11 (gi_sz H (m + 3)) (rw_get H (m + 23) 4 (gi_sz H (m + 23)) v 0) 5)), (2, .inl (rw_get H (m + 23) 4 (gi_sz H (m + 23)) v 0)), (0, .inr (.inr (some 91))), (1, .inl v)], [], H)) (C := []) rfl trivial ?_
  refine mw_sub (L' := [(3, .inl (rw_get H (m + 3) 11 (gi_sz H (m + 3)) (rw_get H (m + 23) 4 (gi_sz H (m + 23)) v 0) 5)), (0, .inr (.inr (some 91))), (1, .inl v), (2, .inl (rw_get H (m + 23) 4 (gi_sz H (m + 23)) v 0))]) (by simp) ?_
  refine mw_down (α := Int32 × mu_H) (fun zs => (26, [(3, .inl zs.1), (0, .inr (.inr (some 91))), (1, .inl v), (2, .inl (rw_get H (m + 23) 4 (gi_sz H (m + 23)) v 0))], [], zs.2)) (fun zs => (2147483647 - zs.1.toInt).toNat) (fun zs => jd m zs.2 ∧ jq H zs.2) (fun zs hz ih => ?_) ((rw_get H (m + 3) 11 (gi_sz H (m + 3)) (rw_get H (m + 23) 4 (gi_sz H (m + 23)) v 0) 5), H) ⟨h, (jq.refl H)⟩
  obtain ⟨y, Hs⟩ := zs
  obtain ⟨hps, hts⟩ := hz
  have hps : jd m Hs := hps
  have hts : jq H Hs := hts
  show mu_W _ _ (26, [(3, .inl y), (0, .inr (.inr (some 91))), (1, .inl v), (2, .inl (rw_get H (m + 23) 4 (gi_sz H (m + 23)) v 0))], [], Hs) _
  refine mw_go mu_g191 (k := 3) (f1 := (31, [(3, .inl y), (0, .inr (.inr (some 91))), (1, .inl v), (2, .inl (rw_get H (m + 23) 4 (gi_sz H (m + 23)) v 0))], [.inr (.inr (mu_r Hs 91 3)), .inl y], Hs)) (C := [mu_is Hs (some 91) 3]) rfl (show mu_is Hs (some 91) 3 from hps.1.is rfl) ?_
  rw [hps.2.2]
  refine mw_go mu_g191 (k := 4) (f1 := (37, [(3, .inl y), (0, .inr (.inr (some 91))), (1, .inl v), (2, .inl (rw_get H (m + 23) 4 (gi_sz H (m + 23)) v 0))], [.inr (.inr (mu_r Hs 91 3)), .inl (5 : Int32), .inl (rw_get H (m + 23) 4 (gi_sz H (m + 23)) v 0), .inr (.inr (some m)), .inl y], Hs)) (C := [mu_is Hs (some 91) 3]) rfl (show mu_is Hs (some 91) 3 from hps.1.is rfl) ?_
  rw [hps.2.2]
  refine mw_go mu_g191 (k := 1) (f1 := (40, [(3, .inl y), (0, .inr (.inr (some 91))), (1, .inl v), (2, .inl (rw_get H (m + 23) 4 (gi_sz H (m + 23)) v 0))], [.inr (.inr (mu_r Hs m 8)), .inl (5 : Int32), .inl (rw_get H (m + 23) 4 (gi_sz H (m + 23)) v 0), .inr (.inr (some m)), .inl y], Hs)) (C := [mu_is Hs (some m) 6]) rfl (show mu_is Hs (some m) 6 from (show mu_is Hs (some m) 6 from gi_im hps.1 hps.2.1)) ?_
  rw [(show mu_r Hs m 8 = some (m + 17) from (gi_mr hps.1 hps.2.1 (j := 8) (by decide)).trans (congrArg some (by omega)))]
  refine mw_cI (fun _ => rfl) (show mu_is Hs (some m) 6 from (show mu_is Hs (some m) 6 from gi_im hps.1 hps.2.1)) (md_stop (d := (d + 2)) hps.1 hps.2.1 (md_w8 hps.2.1) (c := 5) (by decide) (rw_get H (m + 23) 4 (gi_sz H (m + 23)) v 0)) (fun x3 H3 q3 => ?_)
  obtain ⟨rfl, hst3⟩ := q3
  refine mw_if (P := y < x3) (a := 46) (b := 139) (fun _ => rfl) trivial (fun h4 => ?_) (fun h4 => ?_)
  · -- 46: y < x3
    have hup := i32_up h4
    refine mw_go mu_g191 (k := 2) (f1 := (50, [(3, .inl y), (0, .inr (.inr (some 91))), (1, .inl v), (2, .inl (rw_get H (m + 23) 4 (gi_sz H (m + 23)) v 0))], [.inr (.inr (mu_r Hs 91 3))], Hs)) (C := [mu_is Hs (some 91) 3]) rfl (show mu_is Hs (some 91) 3 from hps.1.is rfl) ?_
    rw [hps.2.2]
    refine mw_go mu_g191 (k := 1) (f1 := (53, [(3, .inl y), (0, .inr (.inr (some 91))), (1, .inl v), (2, .inl (rw_get H (m + 23) 4 (gi_sz H (m + 23)) v 0))], [.inr (.inr (mu_r Hs m 8))], Hs)) (C := [mu_is Hs (some m) 6]) rfl (show mu_is Hs (some m) 6 from (show mu_is Hs (some m) 6 from gi_im hps.1 hps.2.1)) ?_
    rw [(show mu_r Hs m 8 = some (m + 17) from (gi_mr hps.1 hps.2.1 (j := 8) (by decide)).trans (congrArg some (by omega)))]
    refine mw_go mu_g191 (k := 2) (f1 := (55, [(3, .inl y), (0, .inr (.inr (some 91))), (1, .inl v), (2, .inl (rw_get H (m + 23) 4 (gi_sz H (m + 23)) v 0))], [.inl (0 : Int32), .inl y, .inr (.inr (some (m + 17)))], Hs)) (C := []) rfl trivial ?_
    refine mw_cIe (fun _ => rfl) (show mu_is Hs (some (m + 17)) 10 from (hps.1.w (md_w8 hps.2.1)).1) (gi_get_ok (d := (d + 3)) (H := Hs) hps.1 (md_w8 hps.2.1) y (j := 0) (by decide)) ?_
    refine mw_go mu_g191 (k := 3) (f1 := (64, [(4, .inl (rw_get Hs (m + 17) 3 (gi_sz Hs (m + 17)) y 0)), (3, .inl y), (0, .inr (.inr (some 91))), (1, .inl v), (2, .inl (rw_get H (m + 23) 4 (gi_sz H (m + 23)) v 0))], [.inl (6 : Int32), .inl (rw_get Hs (m + 17) 3 (gi_sz Hs (m + 17)) y 0)], Hs)) (C := []) rfl trivial ?_
    refine mw_if (P := (rw_get Hs (m + 17) 3 (gi_sz Hs (m + 17)) y 0) = (6 : Int32)) (a := 67) (b := 71) (fun _ => rfl) trivial (fun h6 => ?_) (fun h6 => ?_)
    · -- 67: (rw_get Hs (m + 17) 3 (gi_sz Hs (m + 17)) y 0) = (6 : Int32)
      refine mw_go mu_g191 (k := 6) (f1 := (90, [(5, .inl (1 : Int32)), (4, .inl (rw_get Hs (m + 17) 3 (gi_sz Hs (m + 17)) y 0)), (3, .inl y), (0, .inr (.inr (some 91))), (1, .inl v), (2, .inl (rw_get H (m + 23) 4 (gi_sz H (m + 23)) v 0))], [.inr (.inr (mu_r Hs 91 3)), .inr (.inr (some 91))], Hs)) (C := [mu_is Hs (some 91) 3]) rfl (show mu_is Hs (some 91) 3 from hps.1.is rfl) ?_
      rw [hps.2.2]
      refine mw_go mu_g191 (k := 1) (f1 := (93, [(5, .inl (1 : Int32)), (4, .inl (rw_get Hs (m + 17) 3 (gi_sz Hs (m + 17)) y 0)), (3, .inl y), (0, .inr (.inr (some 91))), (1, .inl v), (2, .inl (rw_get H (m + 23) 4 (gi_sz H (m + 23)) v 0))], [.inr (.inr (mu_r Hs m 8)), .inr (.inr (some 91))], Hs)) (C := [mu_is Hs (some m) 6]) rfl (show mu_is Hs (some m) 6 from (show mu_is Hs (some m) 6 from gi_im hps.1 hps.2.1)) ?_
      rw [(show mu_r Hs m 8 = some (m + 17) from (gi_mr hps.1 hps.2.1 (j := 8) (by decide)).trans (congrArg some (by omega)))]
      refine mw_go mu_g191 (k := 2) (f1 := (95, [(5, .inl (1 : Int32)), (4, .inl (rw_get Hs (m + 17) 3 (gi_sz Hs (m + 17)) y 0)), (3, .inl y), (0, .inr (.inr (some 91))), (1, .inl v), (2, .inl (rw_get H (m + 23) 4 (gi_sz H (m + 23)) v 0))], [.inl (1 : Int32), .inl y, .inr (.inr (some (m + 17))), .inr (.inr (some 91))], Hs)) (C := []) rfl trivial ?_
      refine mw_cIe (fun _ => rfl) (show mu_is Hs (some (m + 17)) 10 from (hps.1.w (md_w8 hps.2.1)).1) (gi_get_ok (d := (d + 3)) (H := Hs) hps.1 (md_w8 hps.2.1) y (j := 1) (by decide)) ?_
      refine mw_go mu_g191 (k := 2) (f1 := (102, [(5, .inl (1 : Int32)), (4, .inl (rw_get Hs (m + 17) 3 (gi_sz Hs (m + 17)) y 0)), (3, .inl y), (0, .inr (.inr (some 91))), (1, .inl v), (2, .inl (rw_get H (m + 23) 4 (gi_sz H (m + 23)) v 0))], [.inr (.inr (mu_r Hs 91 3)), .inl (rw_get Hs (m + 17) 3 (gi_sz Hs (m + 17)) y 1), .inr (.inr (some 91))], Hs)) (C := [mu_is Hs (some 91) 3]) rfl (show mu_is Hs (some 91) 3 from hps.1.is rfl) ?_
      rw [hps.2.2]
      refine mw_go mu_g191 (k := 1) (f1 := (105, [(5, .inl (1 : Int32)), (4, .inl (rw_get Hs (m + 17) 3 (gi_sz Hs (m + 17)) y 0)), (3, .inl y), (0, .inr (.inr (some 91))), (1, .inl v), (2, .inl (rw_get H (m + 23) 4 (gi_sz H (m + 23)) v 0))], [.inr (.inr (mu_r Hs m 8)), .inl (rw_get Hs (m + 17) 3 (gi_sz Hs (m + 17)) y 1), .inr (.inr (some 91))], Hs)) (C := [mu_is Hs (some m) 6]) rfl (show mu_is Hs (some m) 6 from (show mu_is Hs (some m) 6 from gi_im hps.1 hps.2.1)) ?_
      rw [(show mu_r Hs m 8 = some (m + 17) from (gi_mr hps.1 hps.2.1 (j := 8) (by decide)).trans (congrArg some (by omega)))]
      refine mw_go mu_g191 (k := 2) (f1 := (107, [(5, .inl (1 : Int32)), (4, .inl (rw_get Hs (m + 17) 3 (gi_sz Hs (m + 17)) y 0)), (3, .inl y), (0, .inr (.inr (some 91))), (1, .inl v), (2, .inl (rw_get H (m + 23) 4 (gi_sz H (m + 23)) v 0))], [.inl (2 : Int32), .inl y, .inr (.inr (some (m + 17))), .inl (rw_get Hs (m + 17) 3 (gi_sz Hs (m + 17)) y 1), .inr (.inr (some 91))], Hs)) (C := []) rfl trivial ?_
      refine mw_cIe (fun _ => rfl) (show mu_is Hs (some (m + 17)) 10 from (hps.1.w (md_w8 hps.2.1)).1) (gi_get_ok (d := (d + 3)) (H := Hs) hps.1 (md_w8 hps.2.1) y (j := 2) (by decide)) ?_
      refine mw_go mu_g191 (k := 2) (f1 := (113, [(5, .inl (1 : Int32)), (4, .inl (rw_get Hs (m + 17) 3 (gi_sz Hs (m + 17)) y 0)), (3, .inl y), (0, .inr (.inr (some 91))), (1, .inl v), (2, .inl (rw_get H (m + 23) 4 (gi_sz H (m + 23)) v 0))], [.inl (1 : Int32), .inl v, .inl (rw_get Hs (m + 17) 3 (gi_sz Hs (m + 17)) y 2), .inl (rw_get Hs (m + 17) 3 (gi_sz Hs (m + 17)) y 1), .inr (.inr (some 91))], Hs)) (C := []) rfl trivial ?_
      obtain ⟨f9, hf9, ef9⟩ := (h17_1.jq hm (md_w8 hps.2.1) hts).get hps.1 (md_w8 hps.2.1) (by decide) y
      obtain ⟨t9, ht9, et9⟩ := (h17_2.jq hm (md_w8 hps.2.1) hts).get hps.1 (md_w8 hps.2.1) (by decide) y
      rw [ef9, et9]
      refine mw_cI (fun _ => rfl) (show mu_is Hs (some 91) 3 from hps.1.is rfl) (jg_sortOf (d := d) (f := f9) (t := t9) hps (hck.jq hm hts) ht9 hf9 (by rw [(hts.row (md_w0 hm)).1, hts.len h.1]; exact hN) v (1 : Int32)) (fun x9 H9 q9 => ?_)
      obtain ⟨hp9, qt9⟩ := q9
      have ht9 := hts.trans qt9
      refine mw_go mu_g191 (k := 3) (f1 := (121, [(6, .inl x9), (5, .inl (1 : Int32)), (4, .inl (rw_get Hs (m + 17) 3 (gi_sz Hs (m + 17)) y 0)), (3, .inl y), (0, .inr (.inr (some 91))), (1, .inl v), (2, .inl (rw_get H (m + 23) 4 (gi_sz H (m + 23)) v 0))], [.inl (1 : Int32), .inl x9], H9)) (C := []) rfl trivial ?_
      refine mw_if (P := x9 = (1 : Int32)) (a := 133) (b := 124) (fun _ => rfl) trivial (fun h10 => ?_) (fun h10 => ?_)
      · -- 133: x9 = (1 : Int32)
        refine mw_go mu_g191 (k := 2) (f1 := (26, [(3, .inl (y + 1)), (6, .inl x9), (5, .inl (1 : Int32)), (4, .inl (rw_get Hs (m + 17) 3 (gi_sz Hs (m + 17)) y 0)), (0, .inr (.inr (some 91))), (1, .inl v), (2, .inl (rw_get H (m + 23) 4 (gi_sz H (m + 23)) v 0))], [], H9)) (C := []) rfl trivial ?_
        exact mw_sub (by simp) (ih ((y + 1), H9) ⟨hp9, ht9⟩ (by show (2147483647 - (y + 1).toInt).toNat < (2147483647 - y.toInt).toNat; omega))
      · -- 124: not x9 = (1 : Int32)
        refine mw_go mu_g191 (k := 2) (f1 := (128, [(6, .inl x9), (5, .inl (1 : Int32)), (4, .inl (rw_get Hs (m + 17) 3 (gi_sz Hs (m + 17)) y 0)), (3, .inl y), (0, .inr (.inr (some 91))), (1, .inl v), (2, .inl (rw_get H (m + 23) 4 (gi_sz H (m + 23)) v 0))], [.inl (9 : Int32), .inl x9], H9)) (C := []) rfl trivial ?_
        refine mw_if (P := x9 = (9 : Int32)) (a := 133) (b := 131) (fun _ => rfl) trivial (fun h11 => ?_) (fun h11 => ?_)
        · -- 133: x9 = (9 : Int32)
          refine mw_go mu_g191 (k := 2) (f1 := (26, [(3, .inl (y + 1)), (6, .inl x9), (5, .inl (1 : Int32)), (4, .inl (rw_get Hs (m + 17) 3 (gi_sz Hs (m + 17)) y 0)), (0, .inr (.inr (some 91))), (1, .inl v), (2, .inl (rw_get H (m + 23) 4 (gi_sz H (m + 23)) v 0))], [], H9)) (C := []) rfl trivial ?_
          exact mw_sub (by simp) (ih ((y + 1), H9) ⟨hp9, ht9⟩ (by show (2147483647 - (y + 1).toInt).toNat < (2147483647 - y.toInt).toNat; omega))
        · -- 131: not x9 = (9 : Int32)
          refine mw_go mu_g191 (k := 1) (f1 := (132, [(6, .inl x9), (5, .inl (1 : Int32)), (4, .inl (rw_get Hs (m + 17) 3 (gi_sz Hs (m + 17)) y 0)), (3, .inl y), (0, .inr (.inr (some 91))), (1, .inl v), (2, .inl (rw_get H (m + 23) 4 (gi_sz H (m + 23)) v 0))], [.inl (0 : Int32)], H9)) (C := []) rfl trivial ?_
          exact mw_of (fun _ => mu_ret rfl (Or.inl rfl) ⟨_, H9, rfl, Or.inl rfl, hp9, ht9⟩)
    · -- 71: not (rw_get Hs (m + 17) 3 (gi_sz Hs (m + 17)) y 0) = (6 : Int32)
      refine mw_go mu_g191 (k := 2) (f1 := (75, [(4, .inl (rw_get Hs (m + 17) 3 (gi_sz Hs (m + 17)) y 0)), (3, .inl y), (0, .inr (.inr (some 91))), (1, .inl v), (2, .inl (rw_get H (m + 23) 4 (gi_sz H (m + 23)) v 0))], [.inl (8 : Int32), .inl (rw_get Hs (m + 17) 3 (gi_sz Hs (m + 17)) y 0)], Hs)) (C := []) rfl trivial ?_
      refine mw_if (P := (rw_get Hs (m + 17) 3 (gi_sz Hs (m + 17)) y 0) = (8 : Int32)) (a := 78) (b := 82) (fun _ => rfl) trivial (fun h12 => ?_) (fun h12 => ?_)
      · -- 78: (rw_get Hs (m + 17) 3 (gi_sz Hs (m + 17)) y 0) = (8 : Int32)
        refine mw_go mu_g191 (k := 6) (f1 := (90, [(5, .inl (2 : Int32)), (4, .inl (rw_get Hs (m + 17) 3 (gi_sz Hs (m + 17)) y 0)), (3, .inl y), (0, .inr (.inr (some 91))), (1, .inl v), (2, .inl (rw_get H (m + 23) 4 (gi_sz H (m + 23)) v 0))], [.inr (.inr (mu_r Hs 91 3)), .inr (.inr (some 91))], Hs)) (C := [mu_is Hs (some 91) 3]) rfl (show mu_is Hs (some 91) 3 from hps.1.is rfl) ?_
        rw [hps.2.2]
        refine mw_go mu_g191 (k := 1) (f1 := (93, [(5, .inl (2 : Int32)), (4, .inl (rw_get Hs (m + 17) 3 (gi_sz Hs (m + 17)) y 0)), (3, .inl y), (0, .inr (.inr (some 91))), (1, .inl v), (2, .inl (rw_get H (m + 23) 4 (gi_sz H (m + 23)) v 0))], [.inr (.inr (mu_r Hs m 8)), .inr (.inr (some 91))], Hs)) (C := [mu_is Hs (some m) 6]) rfl (show mu_is Hs (some m) 6 from (show mu_is Hs (some m) 6 from gi_im hps.1 hps.2.1)) ?_
        rw [(show mu_r Hs m 8 = some (m + 17) from (gi_mr hps.1 hps.2.1 (j := 8) (by decide)).trans (congrArg some (by omega)))]
        refine mw_go mu_g191 (k := 2) (f1 := (95, [(5, .inl (2 : Int32)), (4, .inl (rw_get Hs (m + 17) 3 (gi_sz Hs (m + 17)) y 0)), (3, .inl y), (0, .inr (.inr (some 91))), (1, .inl v), (2, .inl (rw_get H (m + 23) 4 (gi_sz H (m + 23)) v 0))], [.inl (1 : Int32), .inl y, .inr (.inr (some (m + 17))), .inr (.inr (some 91))], Hs)) (C := []) rfl trivial ?_
        refine mw_cIe (fun _ => rfl) (show mu_is Hs (some (m + 17)) 10 from (hps.1.w (md_w8 hps.2.1)).1) (gi_get_ok (d := (d + 3)) (H := Hs) hps.1 (md_w8 hps.2.1) y (j := 1) (by decide)) ?_
        refine mw_go mu_g191 (k := 2) (f1 := (102, [(5, .inl (2 : Int32)), (4, .inl (rw_get Hs (m + 17) 3 (gi_sz Hs (m + 17)) y 0)), (3, .inl y), (0, .inr (.inr (some 91))), (1, .inl v), (2, .inl (rw_get H (m + 23) 4 (gi_sz H (m + 23)) v 0))], [.inr (.inr (mu_r Hs 91 3)), .inl (rw_get Hs (m + 17) 3 (gi_sz Hs (m + 17)) y 1), .inr (.inr (some 91))], Hs)) (C := [mu_is Hs (some 91) 3]) rfl (show mu_is Hs (some 91) 3 from hps.1.is rfl) ?_
        rw [hps.2.2]
        refine mw_go mu_g191 (k := 1) (f1 := (105, [(5, .inl (2 : Int32)), (4, .inl (rw_get Hs (m + 17) 3 (gi_sz Hs (m + 17)) y 0)), (3, .inl y), (0, .inr (.inr (some 91))), (1, .inl v), (2, .inl (rw_get H (m + 23) 4 (gi_sz H (m + 23)) v 0))], [.inr (.inr (mu_r Hs m 8)), .inl (rw_get Hs (m + 17) 3 (gi_sz Hs (m + 17)) y 1), .inr (.inr (some 91))], Hs)) (C := [mu_is Hs (some m) 6]) rfl (show mu_is Hs (some m) 6 from (show mu_is Hs (some m) 6 from gi_im hps.1 hps.2.1)) ?_
        rw [(show mu_r Hs m 8 = some (m + 17) from (gi_mr hps.1 hps.2.1 (j := 8) (by decide)).trans (congrArg some (by omega)))]
        refine mw_go mu_g191 (k := 2) (f1 := (107, [(5, .inl (2 : Int32)), (4, .inl (rw_get Hs (m + 17) 3 (gi_sz Hs (m + 17)) y 0)), (3, .inl y), (0, .inr (.inr (some 91))), (1, .inl v), (2, .inl (rw_get H (m + 23) 4 (gi_sz H (m + 23)) v 0))], [.inl (2 : Int32), .inl y, .inr (.inr (some (m + 17))), .inl (rw_get Hs (m + 17) 3 (gi_sz Hs (m + 17)) y 1), .inr (.inr (some 91))], Hs)) (C := []) rfl trivial ?_
        refine mw_cIe (fun _ => rfl) (show mu_is Hs (some (m + 17)) 10 from (hps.1.w (md_w8 hps.2.1)).1) (gi_get_ok (d := (d + 3)) (H := Hs) hps.1 (md_w8 hps.2.1) y (j := 2) (by decide)) ?_
        refine mw_go mu_g191 (k := 2) (f1 := (113, [(5, .inl (2 : Int32)), (4, .inl (rw_get Hs (m + 17) 3 (gi_sz Hs (m + 17)) y 0)), (3, .inl y), (0, .inr (.inr (some 91))), (1, .inl v), (2, .inl (rw_get H (m + 23) 4 (gi_sz H (m + 23)) v 0))], [.inl (2 : Int32), .inl v, .inl (rw_get Hs (m + 17) 3 (gi_sz Hs (m + 17)) y 2), .inl (rw_get Hs (m + 17) 3 (gi_sz Hs (m + 17)) y 1), .inr (.inr (some 91))], Hs)) (C := []) rfl trivial ?_
        obtain ⟨f15, hf15, ef15⟩ := (h17_1.jq hm (md_w8 hps.2.1) hts).get hps.1 (md_w8 hps.2.1) (by decide) y
        obtain ⟨t15, ht15, et15⟩ := (h17_2.jq hm (md_w8 hps.2.1) hts).get hps.1 (md_w8 hps.2.1) (by decide) y
        rw [ef15, et15]
        refine mw_cI (fun _ => rfl) (show mu_is Hs (some 91) 3 from hps.1.is rfl) (jg_sortOf (d := d) (f := f15) (t := t15) hps (hck.jq hm hts) ht15 hf15 (by rw [(hts.row (md_w0 hm)).1, hts.len h.1]; exact hN) v (2 : Int32)) (fun x15 H15 q15 => ?_)
        obtain ⟨hp15, qt15⟩ := q15
        have ht15 := hts.trans qt15
        refine mw_go mu_g191 (k := 3) (f1 := (121, [(6, .inl x15), (5, .inl (2 : Int32)), (4, .inl (rw_get Hs (m + 17) 3 (gi_sz Hs (m + 17)) y 0)), (3, .inl y), (0, .inr (.inr (some 91))), (1, .inl v), (2, .inl (rw_get H (m + 23) 4 (gi_sz H (m + 23)) v 0))], [.inl (1 : Int32), .inl x15], H15)) (C := []) rfl trivial ?_
        refine mw_if (P := x15 = (1 : Int32)) (a := 133) (b := 124) (fun _ => rfl) trivial (fun h16 => ?_) (fun h16 => ?_)
        · -- 133: x15 = (1 : Int32)
          refine mw_go mu_g191 (k := 2) (f1 := (26, [(3, .inl (y + 1)), (6, .inl x15), (5, .inl (2 : Int32)), (4, .inl (rw_get Hs (m + 17) 3 (gi_sz Hs (m + 17)) y 0)), (0, .inr (.inr (some 91))), (1, .inl v), (2, .inl (rw_get H (m + 23) 4 (gi_sz H (m + 23)) v 0))], [], H15)) (C := []) rfl trivial ?_
          exact mw_sub (by simp) (ih ((y + 1), H15) ⟨hp15, ht15⟩ (by show (2147483647 - (y + 1).toInt).toNat < (2147483647 - y.toInt).toNat; omega))
        · -- 124: not x15 = (1 : Int32)
          refine mw_go mu_g191 (k := 2) (f1 := (128, [(6, .inl x15), (5, .inl (2 : Int32)), (4, .inl (rw_get Hs (m + 17) 3 (gi_sz Hs (m + 17)) y 0)), (3, .inl y), (0, .inr (.inr (some 91))), (1, .inl v), (2, .inl (rw_get H (m + 23) 4 (gi_sz H (m + 23)) v 0))], [.inl (9 : Int32), .inl x15], H15)) (C := []) rfl trivial ?_
          refine mw_if (P := x15 = (9 : Int32)) (a := 133) (b := 131) (fun _ => rfl) trivial (fun h17 => ?_) (fun h17 => ?_)
          · -- 133: x15 = (9 : Int32)
            refine mw_go mu_g191 (k := 2) (f1 := (26, [(3, .inl (y + 1)), (6, .inl x15), (5, .inl (2 : Int32)), (4, .inl (rw_get Hs (m + 17) 3 (gi_sz Hs (m + 17)) y 0)), (0, .inr (.inr (some 91))), (1, .inl v), (2, .inl (rw_get H (m + 23) 4 (gi_sz H (m + 23)) v 0))], [], H15)) (C := []) rfl trivial ?_
            exact mw_sub (by simp) (ih ((y + 1), H15) ⟨hp15, ht15⟩ (by show (2147483647 - (y + 1).toInt).toNat < (2147483647 - y.toInt).toNat; omega))
          · -- 131: not x15 = (9 : Int32)
            refine mw_go mu_g191 (k := 1) (f1 := (132, [(6, .inl x15), (5, .inl (2 : Int32)), (4, .inl (rw_get Hs (m + 17) 3 (gi_sz Hs (m + 17)) y 0)), (3, .inl y), (0, .inr (.inr (some 91))), (1, .inl v), (2, .inl (rw_get H (m + 23) 4 (gi_sz H (m + 23)) v 0))], [.inl (0 : Int32)], H15)) (C := []) rfl trivial ?_
            exact mw_of (fun _ => mu_ret rfl (Or.inl rfl) ⟨_, H15, rfl, Or.inl rfl, hp15, ht15⟩)
      · -- 82: not (rw_get Hs (m + 17) 3 (gi_sz Hs (m + 17)) y 0) = (8 : Int32)
        refine mw_go mu_g191 (k := 5) (f1 := (90, [(5, .inl (0 : Int32)), (4, .inl (rw_get Hs (m + 17) 3 (gi_sz Hs (m + 17)) y 0)), (3, .inl y), (0, .inr (.inr (some 91))), (1, .inl v), (2, .inl (rw_get H (m + 23) 4 (gi_sz H (m + 23)) v 0))], [.inr (.inr (mu_r Hs 91 3)), .inr (.inr (some 91))], Hs)) (C := [mu_is Hs (some 91) 3]) rfl (show mu_is Hs (some 91) 3 from hps.1.is rfl) ?_
        rw [hps.2.2]
        refine mw_go mu_g191 (k := 1) (f1 := (93, [(5, .inl (0 : Int32)), (4, .inl (rw_get Hs (m + 17) 3 (gi_sz Hs (m + 17)) y 0)), (3, .inl y), (0, .inr (.inr (some 91))), (1, .inl v), (2, .inl (rw_get H (m + 23) 4 (gi_sz H (m + 23)) v 0))], [.inr (.inr (mu_r Hs m 8)), .inr (.inr (some 91))], Hs)) (C := [mu_is Hs (some m) 6]) rfl (show mu_is Hs (some m) 6 from (show mu_is Hs (some m) 6 from gi_im hps.1 hps.2.1)) ?_
        rw [(show mu_r Hs m 8 = some (m + 17) from (gi_mr hps.1 hps.2.1 (j := 8) (by decide)).trans (congrArg some (by omega)))]
        refine mw_go mu_g191 (k := 2) (f1 := (95, [(5, .inl (0 : Int32)), (4, .inl (rw_get Hs (m + 17) 3 (gi_sz Hs (m + 17)) y 0)), (3, .inl y), (0, .inr (.inr (some 91))), (1, .inl v), (2, .inl (rw_get H (m + 23) 4 (gi_sz H (m + 23)) v 0))], [.inl (1 : Int32), .inl y, .inr (.inr (some (m + 17))), .inr (.inr (some 91))], Hs)) (C := []) rfl trivial ?_
        refine mw_cIe (fun _ => rfl) (show mu_is Hs (some (m + 17)) 10 from (hps.1.w (md_w8 hps.2.1)).1) (gi_get_ok (d := (d + 3)) (H := Hs) hps.1 (md_w8 hps.2.1) y (j := 1) (by decide)) ?_
        refine mw_go mu_g191 (k := 2) (f1 := (102, [(5, .inl (0 : Int32)), (4, .inl (rw_get Hs (m + 17) 3 (gi_sz Hs (m + 17)) y 0)), (3, .inl y), (0, .inr (.inr (some 91))), (1, .inl v), (2, .inl (rw_get H (m + 23) 4 (gi_sz H (m + 23)) v 0))], [.inr (.inr (mu_r Hs 91 3)), .inl (rw_get Hs (m + 17) 3 (gi_sz Hs (m + 17)) y 1), .inr (.inr (some 91))], Hs)) (C := [mu_is Hs (some 91) 3]) rfl (show mu_is Hs (some 91) 3 from hps.1.is rfl) ?_
        rw [hps.2.2]
        refine mw_go mu_g191 (k := 1) (f1 := (105, [(5, .inl (0 : Int32)), (4, .inl (rw_get Hs (m + 17) 3 (gi_sz Hs (m + 17)) y 0)), (3, .inl y), (0, .inr (.inr (some 91))), (1, .inl v), (2, .inl (rw_get H (m + 23) 4 (gi_sz H (m + 23)) v 0))], [.inr (.inr (mu_r Hs m 8)), .inl (rw_get Hs (m + 17) 3 (gi_sz Hs (m + 17)) y 1), .inr (.inr (some 91))], Hs)) (C := [mu_is Hs (some m) 6]) rfl (show mu_is Hs (some m) 6 from (show mu_is Hs (some m) 6 from gi_im hps.1 hps.2.1)) ?_
        rw [(show mu_r Hs m 8 = some (m + 17) from (gi_mr hps.1 hps.2.1 (j := 8) (by decide)).trans (congrArg some (by omega)))]
        refine mw_go mu_g191 (k := 2) (f1 := (107, [(5, .inl (0 : Int32)), (4, .inl (rw_get Hs (m + 17) 3 (gi_sz Hs (m + 17)) y 0)), (3, .inl y), (0, .inr (.inr (some 91))), (1, .inl v), (2, .inl (rw_get H (m + 23) 4 (gi_sz H (m + 23)) v 0))], [.inl (2 : Int32), .inl y, .inr (.inr (some (m + 17))), .inl (rw_get Hs (m + 17) 3 (gi_sz Hs (m + 17)) y 1), .inr (.inr (some 91))], Hs)) (C := []) rfl trivial ?_
        refine mw_cIe (fun _ => rfl) (show mu_is Hs (some (m + 17)) 10 from (hps.1.w (md_w8 hps.2.1)).1) (gi_get_ok (d := (d + 3)) (H := Hs) hps.1 (md_w8 hps.2.1) y (j := 2) (by decide)) ?_
        refine mw_go mu_g191 (k := 2) (f1 := (113, [(5, .inl (0 : Int32)), (4, .inl (rw_get Hs (m + 17) 3 (gi_sz Hs (m + 17)) y 0)), (3, .inl y), (0, .inr (.inr (some 91))), (1, .inl v), (2, .inl (rw_get H (m + 23) 4 (gi_sz H (m + 23)) v 0))], [.inl (0 : Int32), .inl v, .inl (rw_get Hs (m + 17) 3 (gi_sz Hs (m + 17)) y 2), .inl (rw_get Hs (m + 17) 3 (gi_sz Hs (m + 17)) y 1), .inr (.inr (some 91))], Hs)) (C := []) rfl trivial ?_
        obtain ⟨f20, hf20, ef20⟩ := (h17_1.jq hm (md_w8 hps.2.1) hts).get hps.1 (md_w8 hps.2.1) (by decide) y
        obtain ⟨t20, ht20, et20⟩ := (h17_2.jq hm (md_w8 hps.2.1) hts).get hps.1 (md_w8 hps.2.1) (by decide) y
        rw [ef20, et20]
        refine mw_cI (fun _ => rfl) (show mu_is Hs (some 91) 3 from hps.1.is rfl) (jg_sortOf (d := d) (f := f20) (t := t20) hps (hck.jq hm hts) ht20 hf20 (by rw [(hts.row (md_w0 hm)).1, hts.len h.1]; exact hN) v (0 : Int32)) (fun x20 H20 q20 => ?_)
        obtain ⟨hp20, qt20⟩ := q20
        have ht20 := hts.trans qt20
        refine mw_go mu_g191 (k := 3) (f1 := (121, [(6, .inl x20), (5, .inl (0 : Int32)), (4, .inl (rw_get Hs (m + 17) 3 (gi_sz Hs (m + 17)) y 0)), (3, .inl y), (0, .inr (.inr (some 91))), (1, .inl v), (2, .inl (rw_get H (m + 23) 4 (gi_sz H (m + 23)) v 0))], [.inl (1 : Int32), .inl x20], H20)) (C := []) rfl trivial ?_
        refine mw_if (P := x20 = (1 : Int32)) (a := 133) (b := 124) (fun _ => rfl) trivial (fun h21 => ?_) (fun h21 => ?_)
        · -- 133: x20 = (1 : Int32)
          refine mw_go mu_g191 (k := 2) (f1 := (26, [(3, .inl (y + 1)), (6, .inl x20), (5, .inl (0 : Int32)), (4, .inl (rw_get Hs (m + 17) 3 (gi_sz Hs (m + 17)) y 0)), (0, .inr (.inr (some 91))), (1, .inl v), (2, .inl (rw_get H (m + 23) 4 (gi_sz H (m + 23)) v 0))], [], H20)) (C := []) rfl trivial ?_
          exact mw_sub (by simp) (ih ((y + 1), H20) ⟨hp20, ht20⟩ (by show (2147483647 - (y + 1).toInt).toNat < (2147483647 - y.toInt).toNat; omega))
        · -- 124: not x20 = (1 : Int32)
          refine mw_go mu_g191 (k := 2) (f1 := (128, [(6, .inl x20), (5, .inl (0 : Int32)), (4, .inl (rw_get Hs (m + 17) 3 (gi_sz Hs (m + 17)) y 0)), (3, .inl y), (0, .inr (.inr (some 91))), (1, .inl v), (2, .inl (rw_get H (m + 23) 4 (gi_sz H (m + 23)) v 0))], [.inl (9 : Int32), .inl x20], H20)) (C := []) rfl trivial ?_
          refine mw_if (P := x20 = (9 : Int32)) (a := 133) (b := 131) (fun _ => rfl) trivial (fun h22 => ?_) (fun h22 => ?_)
          · -- 133: x20 = (9 : Int32)
            refine mw_go mu_g191 (k := 2) (f1 := (26, [(3, .inl (y + 1)), (6, .inl x20), (5, .inl (0 : Int32)), (4, .inl (rw_get Hs (m + 17) 3 (gi_sz Hs (m + 17)) y 0)), (0, .inr (.inr (some 91))), (1, .inl v), (2, .inl (rw_get H (m + 23) 4 (gi_sz H (m + 23)) v 0))], [], H20)) (C := []) rfl trivial ?_
            exact mw_sub (by simp) (ih ((y + 1), H20) ⟨hp20, ht20⟩ (by show (2147483647 - (y + 1).toInt).toNat < (2147483647 - y.toInt).toNat; omega))
          · -- 131: not x20 = (9 : Int32)
            refine mw_go mu_g191 (k := 1) (f1 := (132, [(6, .inl x20), (5, .inl (0 : Int32)), (4, .inl (rw_get Hs (m + 17) 3 (gi_sz Hs (m + 17)) y 0)), (3, .inl y), (0, .inr (.inr (some 91))), (1, .inl v), (2, .inl (rw_get H (m + 23) 4 (gi_sz H (m + 23)) v 0))], [.inl (0 : Int32)], H20)) (C := []) rfl trivial ?_
            exact mw_of (fun _ => mu_ret rfl (Or.inl rfl) ⟨_, H20, rfl, Or.inl rfl, hp20, ht20⟩)
  · -- 139: not y < x3
    refine mw_go mu_g191 (k := 1) (f1 := (140, [(3, .inl y), (0, .inr (.inr (some 91))), (1, .inl v), (2, .inl (rw_get H (m + 23) 4 (gi_sz H (m + 23)) v 0))], [.inl (1 : Int32)], Hs)) (C := []) rfl trivial ?_
    exact mw_of (fun _ => mu_ret rfl (Or.inr rfl) ⟨_, Hs, rfl, Or.inr rfl, hps, hts⟩)
/-- PathProver$Judge.linesHaveSorts(I)Z -/
abbrev mu_m192 : ev_M := (5, (some .boolean), [], ev_b192)
theorem mu_g192 : mu_good mu_m192 := mu_goodk ev_k192
theorem jg_lines (h : jd m H) (hck : ck m H) (hN : gi_sz H (m + 1) < jn H) (h15_2 : cr m H (m + 15) 4 2) (h15_3 : cr m H (m + 15) 4 3) (v : Int32) : mu_TI (mu_D (d + 5)) 192 [.inr (.inr (some 91)), .inl v] H (fun x H1 => (x = 0 ∨ x = 1) ∧ jd m H1 ∧ jq H H1) := by
  have hm := h.2.1
  refine mu_meth (M := mu_m192) rfl rfl ?_
  refine mw_ht (mu_fn_of (show [0, 1].Nodup by decide)) ?_
  refine mw_go mu_g192 (k := 2) (f1 := (4, [(0, .inr (.inr (some 91))), (1, .inl v)], [.inr (.inr (mu_r H 91 3))], H)) (C := [mu_is H (some 91) 3]) rfl (show mu_is H (some 91) 3 from h.1.is rfl) ?_
  rw [h.2.2]
  refine mw_go mu_g192 (k := 1) (f1 := (7, [(0, .inr (.inr (some 91))), (1, .inl v)], [.inr (.inr (mu_r H m 11))], H)) (C := [mu_is H (some m) 6]) rfl (show mu_is H (some m) 6 from (show mu_is H (some m) 6 from gi_im h.1 h.2.1)) ?_
  rw [(show mu_r H m 11 = some (m + 23) from (gi_mr h.1 h.2.1 (j := 11) (by decide)).trans (congrArg some (by omega)))]
  refine mw_go mu_g192 (k := 2) (f1 := (9, [(0, .inr (.inr (some 91))), (1, .inl v)], [.inl (0 : Int32), .inl v, .inr (.inr (some (m + 23)))], H)) (C := []) rfl trivial ?_
  refine mw_cIe (fun _ => rfl) (show mu_is H (some (m + 23)) 10 from (h.1.w (md_w11 h.2.1)).1) (gi_get_ok (d := (d + 3)) (H := H) h.1 (md_w11 h.2.1) v (j := 0) (by decide)) ?_
  refine mw_go mu_g192 (k := 3) (f1 := (17, [(2, .inl (rw_get H (m + 23) 4 (gi_sz H (m + 23)) v 0)), (0, .inr (.inr (some 91))), (1, .inl v)], [.inr (.inr (mu_r H 91 3))], H)) (C := [mu_is H (some 91) 3]) rfl (show mu_is H (some 91) 3 from h.1.is rfl) ?_
  rw [h.2.2]
  refine mw_go mu_g192 (k := 1) (f1 := (20, [(2, .inl (rw_get H (m + 23) 4 (gi_sz H (m + 23)) v 0)), (0, .inr (.inr (some 91))), (1, .inl v)], [.inr (.inr (mu_r H m 1))], H)) (C := [mu_is H (some m) 6]) rfl (show mu_is H (some m) 6 from (show mu_is H (some m) 6 from gi_im h.1 h.2.1)) ?_
  rw [(show mu_r H m 1 = some (m + 3) from (gi_mr h.1 h.2.1 (j := 1) (by decide)).trans (congrArg some (by omega)))]
  refine mw_go mu_g192 (k := 2) (f1 := (22, [(2, .inl (rw_get H (m + 23) 4 (gi_sz H (m + 23)) v 0)), (0, .inr (.inr (some 91))), (1, .inl v)], [.inl (4 : Int32), .inl (rw_get H (m + 23) 4 (gi_sz H (m + 23)) v 0), .inr (.inr (some (m + 3)))], H)) (C := []) rfl trivial ?_
  refine mw_cIe (fun _ => rfl) (show mu_is H (some (m + 3)) 10 from (h.1.w (md_w1 h.2.1)).1) (gi_get_ok (d := (d + 3)) (H := H) h.1 (md_w1 h.2.1) (rw_get H (m + 23) 4 (gi_sz H (m + 23)) v 0) (j := 4) (by decide)) ?_
  refine mw_go mu_g192 (k := 1) (f1 := (26, [(3, .inl (rw_get H (m + 3) 11 (gi_sz H (m + 3)) (rw_get H (m + 23) 4 (gi_sz H (m + 23)) v 0) 4)), (2, .inl (rw_get H (m + 23) 4 (gi_sz H (m + 23)) v 0)), (0, .inr (.inr (some 91))), (1, .inl v)], [], H)) (C := []) rfl trivial ?_
  refine mw_sub (L' := [(3, .inl (rw_get H (m + 3) 11 (gi_sz H (m + 3)) (rw_get H (m + 23) 4 (gi_sz H (m + 23)) v 0) 4)), (0, .inr (.inr (some 91))), (1, .inl v), (2, .inl (rw_get H (m + 23) 4 (gi_sz H (m + 23)) v 0))]) (by simp) ?_
  refine mw_down (α := Int32 × mu_H) (fun zs => (26, [(3, .inl zs.1), (0, .inr (.inr (some 91))), (1, .inl v), (2, .inl (rw_get H (m + 23) 4 (gi_sz H (m + 23)) v 0))], [], zs.2)) (fun zs => (2147483647 - zs.1.toInt).toNat) (fun zs => jd m zs.2 ∧ jq H zs.2) (fun zs hz ih => ?_) ((rw_get H (m + 3) 11 (gi_sz H (m + 3)) (rw_get H (m + 23) 4 (gi_sz H (m + 23)) v 0) 4), H) ⟨h, (jq.refl H)⟩
  obtain ⟨y, Hs⟩ := zs
  obtain ⟨hps, hts⟩ := hz
  have hps : jd m Hs := hps
  have hts : jq H Hs := hts
  show mu_W _ _ (26, [(3, .inl y), (0, .inr (.inr (some 91))), (1, .inl v), (2, .inl (rw_get H (m + 23) 4 (gi_sz H (m + 23)) v 0))], [], Hs) _
  refine mw_go mu_g192 (k := 3) (f1 := (31, [(3, .inl y), (0, .inr (.inr (some 91))), (1, .inl v), (2, .inl (rw_get H (m + 23) 4 (gi_sz H (m + 23)) v 0))], [.inr (.inr (mu_r Hs 91 3)), .inl y], Hs)) (C := [mu_is Hs (some 91) 3]) rfl (show mu_is Hs (some 91) 3 from hps.1.is rfl) ?_
  rw [hps.2.2]
  refine mw_go mu_g192 (k := 4) (f1 := (37, [(3, .inl y), (0, .inr (.inr (some 91))), (1, .inl v), (2, .inl (rw_get H (m + 23) 4 (gi_sz H (m + 23)) v 0))], [.inr (.inr (mu_r Hs 91 3)), .inl (4 : Int32), .inl (rw_get H (m + 23) 4 (gi_sz H (m + 23)) v 0), .inr (.inr (some m)), .inl y], Hs)) (C := [mu_is Hs (some 91) 3]) rfl (show mu_is Hs (some 91) 3 from hps.1.is rfl) ?_
  rw [hps.2.2]
  refine mw_go mu_g192 (k := 1) (f1 := (40, [(3, .inl y), (0, .inr (.inr (some 91))), (1, .inl v), (2, .inl (rw_get H (m + 23) 4 (gi_sz H (m + 23)) v 0))], [.inr (.inr (mu_r Hs m 7)), .inl (4 : Int32), .inl (rw_get H (m + 23) 4 (gi_sz H (m + 23)) v 0), .inr (.inr (some m)), .inl y], Hs)) (C := [mu_is Hs (some m) 6]) rfl (show mu_is Hs (some m) 6 from (show mu_is Hs (some m) 6 from gi_im hps.1 hps.2.1)) ?_
  rw [(show mu_r Hs m 7 = some (m + 15) from (gi_mr hps.1 hps.2.1 (j := 7) (by decide)).trans (congrArg some (by omega)))]
  refine mw_cI (fun _ => rfl) (show mu_is Hs (some m) 6 from (show mu_is Hs (some m) 6 from gi_im hps.1 hps.2.1)) (md_stop (d := (d + 2)) hps.1 hps.2.1 (md_w7 hps.2.1) (c := 4) (by decide) (rw_get H (m + 23) 4 (gi_sz H (m + 23)) v 0)) (fun x3 H3 q3 => ?_)
  obtain ⟨rfl, hst3⟩ := q3
  refine mw_if (P := y < x3) (a := 46) (b := 110) (fun _ => rfl) trivial (fun h4 => ?_) (fun h4 => ?_)
  · -- 46: y < x3
    have hup := i32_up h4
    refine mw_go mu_g192 (k := 3) (f1 := (51, [(3, .inl y), (0, .inr (.inr (some 91))), (1, .inl v), (2, .inl (rw_get H (m + 23) 4 (gi_sz H (m + 23)) v 0))], [.inr (.inr (mu_r Hs 91 3)), .inr (.inr (some 91))], Hs)) (C := [mu_is Hs (some 91) 3]) rfl (show mu_is Hs (some 91) 3 from hps.1.is rfl) ?_
    rw [hps.2.2]
    refine mw_go mu_g192 (k := 1) (f1 := (54, [(3, .inl y), (0, .inr (.inr (some 91))), (1, .inl v), (2, .inl (rw_get H (m + 23) 4 (gi_sz H (m + 23)) v 0))], [.inr (.inr (mu_r Hs m 7)), .inr (.inr (some 91))], Hs)) (C := [mu_is Hs (some m) 6]) rfl (show mu_is Hs (some m) 6 from (show mu_is Hs (some m) 6 from gi_im hps.1 hps.2.1)) ?_
    rw [(show mu_r Hs m 7 = some (m + 15) from (gi_mr hps.1 hps.2.1 (j := 7) (by decide)).trans (congrArg some (by omega)))]
    refine mw_go mu_g192 (k := 2) (f1 := (56, [(3, .inl y), (0, .inr (.inr (some 91))), (1, .inl v), (2, .inl (rw_get H (m + 23) 4 (gi_sz H (m + 23)) v 0))], [.inl (2 : Int32), .inl y, .inr (.inr (some (m + 15))), .inr (.inr (some 91))], Hs)) (C := []) rfl trivial ?_
    refine mw_cIe (fun _ => rfl) (show mu_is Hs (some (m + 15)) 10 from (hps.1.w (md_w7 hps.2.1)).1) (gi_get_ok (d := (d + 3)) (H := Hs) hps.1 (md_w7 hps.2.1) y (j := 2) (by decide)) ?_
    refine mw_go mu_g192 (k := 2) (f1 := (63, [(3, .inl y), (0, .inr (.inr (some 91))), (1, .inl v), (2, .inl (rw_get H (m + 23) 4 (gi_sz H (m + 23)) v 0))], [.inr (.inr (mu_r Hs 91 3)), .inl (rw_get Hs (m + 15) 4 (gi_sz Hs (m + 15)) y 2), .inr (.inr (some 91))], Hs)) (C := [mu_is Hs (some 91) 3]) rfl (show mu_is Hs (some 91) 3 from hps.1.is rfl) ?_
    rw [hps.2.2]
    refine mw_go mu_g192 (k := 1) (f1 := (66, [(3, .inl y), (0, .inr (.inr (some 91))), (1, .inl v), (2, .inl (rw_get H (m + 23) 4 (gi_sz H (m + 23)) v 0))], [.inr (.inr (mu_r Hs m 7)), .inl (rw_get Hs (m + 15) 4 (gi_sz Hs (m + 15)) y 2), .inr (.inr (some 91))], Hs)) (C := [mu_is Hs (some m) 6]) rfl (show mu_is Hs (some m) 6 from (show mu_is Hs (some m) 6 from gi_im hps.1 hps.2.1)) ?_
    rw [(show mu_r Hs m 7 = some (m + 15) from (gi_mr hps.1 hps.2.1 (j := 7) (by decide)).trans (congrArg some (by omega)))]
    refine mw_go mu_g192 (k := 2) (f1 := (68, [(3, .inl y), (0, .inr (.inr (some 91))), (1, .inl v), (2, .inl (rw_get H (m + 23) 4 (gi_sz H (m + 23)) v 0))], [.inl (3 : Int32), .inl y, .inr (.inr (some (m + 15))), .inl (rw_get Hs (m + 15) 4 (gi_sz Hs (m + 15)) y 2), .inr (.inr (some 91))], Hs)) (C := []) rfl trivial ?_
    refine mw_cIe (fun _ => rfl) (show mu_is Hs (some (m + 15)) 10 from (hps.1.w (md_w7 hps.2.1)).1) (gi_get_ok (d := (d + 3)) (H := Hs) hps.1 (md_w7 hps.2.1) y (j := 3) (by decide)) ?_
    refine mw_go mu_g192 (k := 2) (f1 := (73, [(3, .inl y), (0, .inr (.inr (some 91))), (1, .inl v), (2, .inl (rw_get H (m + 23) 4 (gi_sz H (m + 23)) v 0))], [.inl (0 : Int32), .inl v, .inl (rw_get Hs (m + 15) 4 (gi_sz Hs (m + 15)) y 3), .inl (rw_get Hs (m + 15) 4 (gi_sz Hs (m + 15)) y 2), .inr (.inr (some 91))], Hs)) (C := []) rfl trivial ?_
    obtain ⟨f7, hf7, ef7⟩ := (h15_2.jq hm (md_w7 hps.2.1) hts).get hps.1 (md_w7 hps.2.1) (by decide) y
    obtain ⟨t7, ht7, et7⟩ := (h15_3.jq hm (md_w7 hps.2.1) hts).get hps.1 (md_w7 hps.2.1) (by decide) y
    rw [ef7, et7]
    refine mw_cI (fun _ => rfl) (show mu_is Hs (some 91) 3 from hps.1.is rfl) (jg_sortOf (d := d) (f := f7) (t := t7) hps (hck.jq hm hts) ht7 hf7 (by rw [(hts.row (md_w0 hm)).1, hts.len h.1]; exact hN) v (0 : Int32)) (fun x7 H7 q7 => ?_)
    obtain ⟨hp7, qt7⟩ := q7
    have ht7 := hts.trans qt7
    refine mw_go mu_g192 (k := 4) (f1 := (84, [(4, .inl x7), (3, .inl y), (0, .inr (.inr (some 91))), (1, .inl v), (2, .inl (rw_get H (m + 23) 4 (gi_sz H (m + 23)) v 0))], [.inr (.inr (mu_r H7 91 3)), .inl x7], H7)) (C := [mu_is H7 (some 91) 3]) rfl (show mu_is H7 (some 91) 3 from hp7.1.is rfl) ?_
    rw [hp7.2.2]
    refine mw_go mu_g192 (k := 2) (f1 := (88, [(4, .inl x7), (3, .inl y), (0, .inr (.inr (some 91))), (1, .inl v), (2, .inl (rw_get H (m + 23) 4 (gi_sz H (m + 23)) v 0))], [.inr (.inr (mu_r H7 91 3)), .inr (.inr (some m)), .inl x7], H7)) (C := [mu_is H7 (some 91) 3]) rfl (show mu_is H7 (some 91) 3 from hp7.1.is rfl) ?_
    rw [hp7.2.2]
    refine mw_go mu_g192 (k := 1) (f1 := (91, [(4, .inl x7), (3, .inl y), (0, .inr (.inr (some 91))), (1, .inl v), (2, .inl (rw_get H (m + 23) 4 (gi_sz H (m + 23)) v 0))], [.inr (.inr (mu_r H7 m 7)), .inr (.inr (some m)), .inl x7], H7)) (C := [mu_is H7 (some m) 6]) rfl (show mu_is H7 (some m) 6 from (show mu_is H7 (some m) 6 from gi_im hp7.1 hp7.2.1)) ?_
    rw [(show mu_r H7 m 7 = some (m + 15) from (gi_mr hp7.1 hp7.2.1 (j := 7) (by decide)).trans (congrArg some (by omega)))]
    refine mw_go mu_g192 (k := 2) (f1 := (93, [(4, .inl x7), (3, .inl y), (0, .inr (.inr (some 91))), (1, .inl v), (2, .inl (rw_get H (m + 23) 4 (gi_sz H (m + 23)) v 0))], [.inl (1 : Int32), .inl y, .inr (.inr (some (m + 15))), .inr (.inr (some m)), .inl x7], H7)) (C := []) rfl trivial ?_
    refine mw_cIe (fun _ => rfl) (show mu_is H7 (some (m + 15)) 10 from (hp7.1.w (md_w7 hp7.2.1)).1) (gi_get_ok (d := (d + 3)) (H := H7) hp7.1 (md_w7 hp7.2.1) y (j := 1) (by decide)) ?_
    refine mw_cI (fun _ => rfl) (show mu_is H7 (some m) 6 from (show mu_is H7 (some m) 6 from gi_im hp7.1 hp7.2.1)) (md_sort (d := (d + 2)) hp7.1 hp7.2.1 (rw_get H7 (m + 15) 4 (gi_sz H7 (m + 15)) y 1)) (fun x9 H9 q9 => ?_)
    obtain rfl := q9
    refine mw_if (P := x7 = x9) (a := 104) (b := 102) (fun _ => rfl) trivial (fun h10 => ?_) (fun h10 => ?_)
    · -- 104: x7 = x9
      refine mw_go mu_g192 (k := 2) (f1 := (26, [(3, .inl (y + 1)), (4, .inl x7), (0, .inr (.inr (some 91))), (1, .inl v), (2, .inl (rw_get H (m + 23) 4 (gi_sz H (m + 23)) v 0))], [], H7)) (C := []) rfl trivial ?_
      exact mw_sub (by simp) (ih ((y + 1), H7) ⟨hp7, ht7⟩ (by show (2147483647 - (y + 1).toInt).toNat < (2147483647 - y.toInt).toNat; omega))
    · -- 102: not x7 = x9
      refine mw_go mu_g192 (k := 1) (f1 := (103, [(4, .inl x7), (3, .inl y), (0, .inr (.inr (some 91))), (1, .inl v), (2, .inl (rw_get H (m + 23) 4 (gi_sz H (m + 23)) v 0))], [.inl (0 : Int32)], H7)) (C := []) rfl trivial ?_
      exact mw_of (fun _ => mu_ret rfl (Or.inl rfl) ⟨_, H7, rfl, Or.inl rfl, hp7, ht7⟩)
  · -- 110: not y < x3
    refine mw_go mu_g192 (k := 1) (f1 := (111, [(3, .inl y), (0, .inr (.inr (some 91))), (1, .inl v), (2, .inl (rw_get H (m + 23) 4 (gi_sz H (m + 23)) v 0))], [.inl (1 : Int32)], Hs)) (C := []) rfl trivial ?_
    exact mw_of (fun _ => mu_ret rfl (Or.inr rfl) ⟨_, Hs, rfl, Or.inr rfl, hps, hts⟩)
end JudgeClaims
