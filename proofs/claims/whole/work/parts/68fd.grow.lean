/-! The reference: grow -/
theorem rp_gw1 {tr : Prop} {Hb H0 : mu_H} {D : MD} {ph pt pk pa mm st f : Nat} (hb : mdb D) (hy : mdy D) (hmd : mdn D) (hNS : prd D (D.pr 1).length ≤ 16384) (hma : mda D) (hval : valk tr Hb D ph pt pk pa f) (hvw : mvw tr D) (hvt : valk True Hb D ph pt pk pa f) (hwt : mvw True D) {qp rp qo ro : Nat} {Φ : mu_R → Prop} {C : Nat} (hnx : ∀ mo H, sst tr Hb D ph pt pk pa mm st H → gos D st H → btk D ph pt pk st H qp rp → btk D ph pt pk st H qo ro → zfr D ph pt pk pa mm st (fun p => p = ro) H0 H → (mo = 0 ∧ (cbz H ro (prd D (D.pr 1).length)) = C ∨ mo = 1 ∧ (cbz H ro (prd D (D.pr 1).length)) < C) → mu_W (mu_D (f + 912)) mu_m421 (2, [(3, .inl mo), (2, .inr (.inr (some qo))), (1, .inr (.inr (some qp))), (0, .inr (.inr (some 169)))], [], H) Φ) : ∀ m mo H, m ≤ (prd D (D.pr 1).length) → sst tr Hb D ph pt pk pa mm st H → gos D st H → btk D ph pt pk st H qp rp → btk D ph pt pk st H qo ro → zfr D ph pt pk pa mm st (fun p => p = ro) H0 H → (mo = 0 ∧ (cbz H ro (prd D (D.pr 1).length)) = C ∨ mo = 1 ∧ (cbz H ro (prd D (D.pr 1).length)) < C) → mu_W (mu_D (f + 912)) mu_m421 (16, [(4, .inl (pI m)), (3, .inl mo), (2, .inr (.inr (some qo))), (1, .inr (.inr (some qp))), (0, .inr (.inr (some 169)))], [], H) Φ
  | 0, mo, H, hm_, hs, hg, hp, hq, hf, hc => by
    show mu_W (mu_D (f + 912)) mu_m421 (16, [(4, .inl (-1 : Int32)), (3, .inl mo), (2, .inr (.inr (some qo))), (1, .inr (.inr (some qp))), (0, .inr (.inr (some 169)))], [], H) Φ
    refine mw_go mu_g421 (k := 1) (f1 := (18, [(4, .inl (-1 : Int32)), (3, .inl mo), (2, .inr (.inr (some qo))), (1, .inr (.inr (some qp))), (0, .inr (.inr (some 169)))], [.inl (-1 : Int32)], H)) (C := []) rfl trivial ?_
    refine mw_if (P := (-1 : Int32) < 0) (a := 67) (b := 21) (fun _ => rfl) trivial (fun h1 => ?_) (fun h1 => absurd (show (-1 : Int32) < 0 by decide) h1)
    refine mw_go mu_g421 (k := 1) (f1 := (2, [(4, .inl (-1 : Int32)), (3, .inl mo), (2, .inr (.inr (some qo))), (1, .inr (.inr (some qp))), (0, .inr (.inr (some 169)))], [], H)) (C := []) rfl trivial ?_
    refine mw_sub (L' := [(3, .inl mo), (2, .inr (.inr (some qo))), (1, .inr (.inr (some qp))), (0, .inr (.inr (some 169)))]) (by simp) ?_
    exact hnx mo _ hs hg hp hq hf hc
  | m + 1, mo, H, hm_, hs, hg, hp, hq, hf, hc => by
    show mu_W (mu_D (f + 912)) mu_m421 (16, [(4, .inl (nI m)), (3, .inl mo), (2, .inr (.inr (some qo))), (1, .inr (.inr (some qp))), (0, .inr (.inr (some 169)))], [], H) Φ
    have sl : m < (prd D (D.pr 1).length) := by omega
    refine mw_go mu_g421 (k := 1) (f1 := (18, [(4, .inl (nI m)), (3, .inl mo), (2, .inr (.inr (some qo))), (1, .inr (.inr (some qp))), (0, .inr (.inr (some 169)))], [.inl (nI m)], H)) (C := []) rfl trivial ?_
    refine mw_if (P := (nI m) < 0) (a := 67) (b := 21) (fun _ => rfl) trivial (fun h1 => absurd h1 (nI_nn (by omega))) (fun h1 => ?_)
    refine mw_go mu_g421 (k := 2) (f1 := (24, [(4, .inl (nI m)), (3, .inl mo), (2, .inr (.inr (some qo))), (1, .inr (.inr (some qp))), (0, .inr (.inr (some 169)))], [.inl (nI m), .inr (.inr (some qo))], H)) (C := []) rfl trivial ?_
    refine mw_cIe (fun _ => rfl) (show mu_is H (some qo) 14 from hq.1.1) (rp_has (d := f + 911) hq.1 (show m < 16384 by omega)) ?_
    refine mw_if (P := (bI (bst H ro m)) = 0) (a := 30) (b := 61) (fun _ => rfl) trivial (fun h2 => ?_) (fun h2 => ?_)
    · -- 30
      have bf : bst H ro m = false := by
        cases g : bst H ro m with
        | false => rfl
        | true => rw [g] at h2; exact absurd h2 (by decide)
      refine mw_go mu_g421 (k := 2) (f1 := (33, [(4, .inl (nI m)), (3, .inl mo), (2, .inr (.inr (some qo))), (1, .inr (.inr (some qp))), (0, .inr (.inr (some 169)))], [.inl (nI m), .inr (.inr (some qp))], H)) (C := []) rfl trivial ?_
      refine mw_cIe (fun _ => rfl) (show mu_is H (some qp) 14 from hp.1.1) (rp_has (d := f + 911) hp.1 (show m < 16384 by omega)) ?_
      refine mw_if (P := (bI (bst H rp m)) = 0) (a := 61) (b := 39) (fun _ => rfl) trivial (fun h3 => ?_) (fun h3 => ?_)
      · -- 61
        refine mw_go mu_g421 (k := 1) (f1 := (64, [(4, .inl ((nI m) + (-1))), (3, .inl mo), (2, .inr (.inr (some qo))), (1, .inr (.inr (some qp))), (0, .inr (.inr (some 169)))], [], H)) (C := []) rfl trivial ?_
        refine mw_fr (f' := (64, [(4, .inl (pI m)), (3, .inl mo), (2, .inr (.inr (some qo))), (1, .inr (.inr (some qp))), (0, .inr (.inr (some 169)))], [], H)) (by first | (rw [(pI_dec m)]; done) | (rw [(pI_dec m)]; rfl)) ?_
        refine mw_go mu_g421 (k := 1) (f1 := (16, [(4, .inl (pI m)), (3, .inl mo), (2, .inr (.inr (some qo))), (1, .inr (.inr (some qp))), (0, .inr (.inr (some 169)))], [], H)) (C := []) rfl trivial ?_
        refine mw_sub (L' := [(4, .inl (pI m)), (3, .inl mo), (2, .inr (.inr (some qo))), (1, .inr (.inr (some qp))), (0, .inr (.inr (some 169)))]) (by simp) ?_
        exact rp_gw1 hb hy hmd hNS hma hval hvw hvt hwt hnx m _ _ (by omega) hs hg hp hq hf hc
      · -- 39
        refine mw_go mu_g421 (k := 3) (f1 := (43, [(4, .inl (nI m)), (3, .inl mo), (2, .inr (.inr (some qo))), (1, .inr (.inr (some qp))), (0, .inr (.inr (some 169)))], [.inr (.inr (some qo)), .inl (nI m), .inr (.inr (some 169))], H)) (C := []) rfl trivial ?_
        refine mw_cI (fun _ => rfl) (show mu_is H (some 169) 1 from hs.1.1.2.2.1.1) (rp_leads hb hy hmd hNS hma hval hvw hvt hwt hs hg sl hq) (fun x5 H5 q5 => ?_)
        obtain ⟨c0, c1, c2, c3⟩ := q5
        have gz := gfr.zf (R := (fun p => p = ro)) c3 hs
        have gy := gfr.zf (R := fun _ => False) c3 hs
        have hp5 := gz.2.2.1 _ _ hp
        have hq5 := gz.2.2.1 _ _ hq
        have bq : ∀ s, bst H5 ro s = bst H ro s := gy.2.2.2 _ _ hq id
        have hf5 := zfr.tr2 hf gz
        have ce : (cbz H5 ro (prd D (D.pr 1).length)) = (cbz H ro (prd D (D.pr 1).length)) := cbz_cg _ (fun s _ => bq s)
        refine mw_if (P := x5 = 0) (a := 49) (b := 52) (fun _ => rfl) trivial (fun h4 => ?_) (fun h4 => ?_)
        · -- 49
          refine mw_go mu_g421 (k := 1) (f1 := (61, [(4, .inl (nI m)), (3, .inl mo), (2, .inr (.inr (some qo))), (1, .inr (.inr (some qp))), (0, .inr (.inr (some 169)))], [], H5)) (C := []) rfl trivial ?_
          refine mw_go mu_g421 (k := 1) (f1 := (64, [(4, .inl ((nI m) + (-1))), (3, .inl mo), (2, .inr (.inr (some qo))), (1, .inr (.inr (some qp))), (0, .inr (.inr (some 169)))], [], H5)) (C := []) rfl trivial ?_
          refine mw_fr (f' := (64, [(4, .inl (pI m)), (3, .inl mo), (2, .inr (.inr (some qo))), (1, .inr (.inr (some qp))), (0, .inr (.inr (some 169)))], [], H5)) (by first | (rw [(pI_dec m)]; done) | (rw [(pI_dec m)]; rfl)) ?_
          refine mw_go mu_g421 (k := 1) (f1 := (16, [(4, .inl (pI m)), (3, .inl mo), (2, .inr (.inr (some qo))), (1, .inr (.inr (some qp))), (0, .inr (.inr (some 169)))], [], H5)) (C := []) rfl trivial ?_
          refine mw_sub (L' := [(4, .inl (pI m)), (3, .inl mo), (2, .inr (.inr (some qo))), (1, .inr (.inr (some qp))), (0, .inr (.inr (some 169)))]) (by simp) ?_
          exact rp_gw1 hb hy hmd hNS hma hval hvw hvt hwt hnx m _ _ (by omega) c1 c2 hp5 hq5 hf5 (by rw [ce]; exact hc)
        · -- 52
          refine mw_go mu_g421 (k := 3) (f1 := (56, [(4, .inl (nI m)), (3, .inl mo), (2, .inr (.inr (some qo))), (1, .inr (.inr (some qp))), (0, .inr (.inr (some 169)))], [.inl (1 : Int32), .inl (nI m), .inr (.inr (some qo))], H5)) (C := []) rfl trivial ?_
          refine mw_fr (f' := (56, [(4, .inl (nI m)), (3, .inl mo), (2, .inr (.inr (some qo))), (1, .inr (.inr (some qp))), (0, .inr (.inr (some 169)))], [.inl (bI true), .inl (nI m), .inr (.inr (some qo))], H5)) (rfl) ?_
          refine mw_cV (fun _ => rfl) (show mu_is H5 (some qo) 14 from hq5.1.1) (rp_put (d := f + 910) (v := true) hq5.1 (show m < 16384 by omega)) (fun H4 q4 => ?_)
          obtain ⟨d1, d2, d3⟩ := sst.put (R := (fun p => p = ro)) c1 c2 hq5 q4 rfl
          have hf4 := zfr.tr2 hf5 d3
          have cp := cbz_put q4.2 (by rw [bq]; exact bf) (prd D (D.pr 1).length) hNS
          rw [if_pos sl] at cp
          have hc4 : (1 : Int32) = 0 ∧ (cbz H4 ro (prd D (D.pr 1).length)) = C ∨ (1 : Int32) = 1 ∧ (cbz H4 ro (prd D (D.pr 1).length)) < C := Or.inr ⟨rfl, by rcases hc with z | z <;> omega⟩
          refine mw_go mu_g421 (k := 2) (f1 := (61, [(3, .inl (1 : Int32)), (4, .inl (nI m)), (2, .inr (.inr (some qo))), (1, .inr (.inr (some qp))), (0, .inr (.inr (some 169)))], [], H4)) (C := []) rfl trivial ?_
          refine mw_go mu_g421 (k := 1) (f1 := (64, [(4, .inl ((nI m) + (-1))), (3, .inl (1 : Int32)), (2, .inr (.inr (some qo))), (1, .inr (.inr (some qp))), (0, .inr (.inr (some 169)))], [], H4)) (C := []) rfl trivial ?_
          refine mw_fr (f' := (64, [(4, .inl (pI m)), (3, .inl (1 : Int32)), (2, .inr (.inr (some qo))), (1, .inr (.inr (some qp))), (0, .inr (.inr (some 169)))], [], H4)) (by first | (rw [(pI_dec m)]; done) | (rw [(pI_dec m)]; rfl)) ?_
          refine mw_go mu_g421 (k := 1) (f1 := (16, [(4, .inl (pI m)), (3, .inl (1 : Int32)), (2, .inr (.inr (some qo))), (1, .inr (.inr (some qp))), (0, .inr (.inr (some 169)))], [], H4)) (C := []) rfl trivial ?_
          refine mw_sub (L' := [(4, .inl (pI m)), (3, .inl (1 : Int32)), (2, .inr (.inr (some qo))), (1, .inr (.inr (some qp))), (0, .inr (.inr (some 169)))]) (by simp) ?_
          exact rp_gw1 hb hy hmd hNS hma hval hvw hvt hwt hnx m _ _ (by omega) d1 d2 (d3.2.2.1 _ _ hp5) (d3.2.2.1 _ _ hq5) hf4 hc4
    · -- 61
      refine mw_go mu_g421 (k := 1) (f1 := (64, [(4, .inl ((nI m) + (-1))), (3, .inl mo), (2, .inr (.inr (some qo))), (1, .inr (.inr (some qp))), (0, .inr (.inr (some 169)))], [], H)) (C := []) rfl trivial ?_
      refine mw_fr (f' := (64, [(4, .inl (pI m)), (3, .inl mo), (2, .inr (.inr (some qo))), (1, .inr (.inr (some qp))), (0, .inr (.inr (some 169)))], [], H)) (by first | (rw [(pI_dec m)]; done) | (rw [(pI_dec m)]; rfl)) ?_
      refine mw_go mu_g421 (k := 1) (f1 := (16, [(4, .inl (pI m)), (3, .inl mo), (2, .inr (.inr (some qo))), (1, .inr (.inr (some qp))), (0, .inr (.inr (some 169)))], [], H)) (C := []) rfl trivial ?_
      refine mw_sub (L' := [(4, .inl (pI m)), (3, .inl mo), (2, .inr (.inr (some qo))), (1, .inr (.inr (some qp))), (0, .inr (.inr (some 169)))]) (by simp) ?_
      exact rp_gw1 hb hy hmd hNS hma hval hvw hvt hwt hnx m _ _ (by omega) hs hg hp hq hf hc
theorem rp_gwE {tr : Prop} {Hb H0 H : mu_H} {D : MD} {ph pt pk pa mm st f qp qo ro : Nat} (hs : sst tr Hb D ph pt pk pa mm st H) (hg : gos D st H) (hf : zfr D ph pt pk pa mm st (fun p => p = ro) H0 H) : mu_W (mu_D (f + 912)) mu_m421 (2, [(3, .inl (0 : Int32)), (2, .inr (.inr (some qo))), (1, .inr (.inr (some qp))), (0, .inr (.inr (some 169)))], [], H) (fun r => ∃ H1, r = (.inl none, H1) ∧ sst tr Hb D ph pt pk pa mm st H1 ∧ gos D st H1 ∧ zfr D ph pt pk pa mm st (fun p => p = ro) H0 H1) := by
  refine mw_go mu_g421 (k := 1) (f1 := (3, [(3, .inl (0 : Int32)), (2, .inr (.inr (some qo))), (1, .inr (.inr (some qp))), (0, .inr (.inr (some 169)))], [.inl (0 : Int32)], H)) (C := []) rfl trivial ?_
  refine mw_if (P := (0 : Int32) = 0) (a := 70) (b := 6) (fun _ => rfl) trivial (fun h1 => ?_) (fun h1 => absurd rfl h1)
  · -- 70
    exact mw_of (fun _ => mu_ret rfl trivial ⟨_, rfl, hs, hg, hf⟩)
theorem rp_gw2 {tr : Prop} {Hb H0 : mu_H} {D : MD} {ph pt pk pa mm st f : Nat} (hb : mdb D) (hy : mdy D) (hmd : mdn D) (hNS : prd D (D.pr 1).length ≤ 16384) (hma : mda D) (hval : valk tr Hb D ph pt pk pa f) (hvw : mvw tr D) (hvt : valk True Hb D ph pt pk pa f) (hwt : mvw True D) {qp rp qo ro : Nat} : ∀ n H, (cbz H ro (prd D (D.pr 1).length)) < n → sst tr Hb D ph pt pk pa mm st H → gos D st H → btk D ph pt pk st H qp rp → btk D ph pt pk st H qo ro → zfr D ph pt pk pa mm st (fun p => p = ro) H0 H → mu_W (mu_D (f + 912)) mu_m421 (2, [(3, .inl (1 : Int32)), (2, .inr (.inr (some qo))), (1, .inr (.inr (some qp))), (0, .inr (.inr (some 169)))], [], H) (fun r => ∃ H1, r = (.inl none, H1) ∧ sst tr Hb D ph pt pk pa mm st H1 ∧ gos D st H1 ∧ zfr D ph pt pk pa mm st (fun p => p = ro) H0 H1)
  | 0, _, h, _, _, _, _, _ => absurd h (Nat.not_lt_zero _)
  | n + 1, H, hn, hs, hg, hp, hq, hf => by
    refine mw_go mu_g421 (k := 1) (f1 := (3, [(3, .inl (1 : Int32)), (2, .inr (.inr (some qo))), (1, .inr (.inr (some qp))), (0, .inr (.inr (some 169)))], [.inl (1 : Int32)], H)) (C := []) rfl trivial ?_
    refine mw_if (P := (1 : Int32) = 0) (a := 70) (b := 6) (fun _ => rfl) trivial (fun h1 => absurd h1 (by decide)) (fun h1 => ?_)
    · -- 6
      refine mw_go mu_g421 (k := 4) (f1 := (12, [(3, .inl (0 : Int32)), (2, .inr (.inr (some qo))), (1, .inr (.inr (some qp))), (0, .inr (.inr (some 169)))], [.inl (mu_i H 169 28)], H)) (C := [mu_is H (some 169) 1]) rfl (show mu_is H (some 169) 1 from hs.1.1.2.2.1.1) ?_
      refine mw_fr (f' := (12, [(3, .inl (0 : Int32)), (2, .inr (.inr (some qo))), (1, .inr (.inr (some qp))), (0, .inr (.inr (some 169)))], [.inl (nI (prd D (D.pr 1).length))], H)) (by first | (rw [hs.2.2.1.2]; done) | (rw [hs.2.2.1.2]; rfl)) ?_
      refine mw_go mu_g421 (k := 2) (f1 := (14, [(3, .inl (0 : Int32)), (2, .inr (.inr (some qo))), (1, .inr (.inr (some qp))), (0, .inr (.inr (some 169)))], [.inl ((nI (prd D (D.pr 1).length)) - (1 : Int32))], H)) (C := []) rfl trivial ?_
      refine mw_fr (f' := (14, [(3, .inl (0 : Int32)), (2, .inr (.inr (some qo))), (1, .inr (.inr (some qp))), (0, .inr (.inr (some 169)))], [.inl (pI (prd D (D.pr 1).length))], H)) (by first | (rw [(pI_sub (prd D (D.pr 1).length))]; done) | (rw [(pI_sub (prd D (D.pr 1).length))]; rfl)) ?_
      refine mw_go mu_g421 (k := 1) (f1 := (16, [(4, .inl (pI (prd D (D.pr 1).length))), (3, .inl (0 : Int32)), (2, .inr (.inr (some qo))), (1, .inr (.inr (some qp))), (0, .inr (.inr (some 169)))], [], H)) (C := []) rfl trivial ?_
      refine mw_sub (L' := [(4, .inl (pI (prd D (D.pr 1).length))), (3, .inl (0 : Int32)), (2, .inr (.inr (some qo))), (1, .inr (.inr (some qp))), (0, .inr (.inr (some 169)))]) (by intro x hx; simp only [List.mem_cons, List.not_mem_nil, or_false] at hx ⊢; rcases hx with rfl | rfl | rfl | rfl | rfl <;> simp) ?_
      refine rp_gw1 hb hy hmd hNS hma hval hvw hvt hwt (C := (cbz H ro (prd D (D.pr 1).length))) (fun mo K y1 y2 y3 y4 y5 y6 => ?_) (prd D (D.pr 1).length) _ _ (Nat.le_refl _) hs hg hp hq hf (Or.inl ⟨rfl, rfl⟩)
      rcases y6 with ⟨rfl, y7⟩ | ⟨rfl, y7⟩
      · exact rp_gwE y1 y2 y5
      · exact rp_gw2 hb hy hmd hNS hma hval hvw hvt hwt n _ (by omega) y1 y2 y3 y4 y5
theorem rp_growS {tr : Prop} {Hb H : mu_H} {D : MD} {ph pt pk pa mm st f : Nat} (hb : mdb D) (hy : mdy D) (hmd : mdn D) (hNS : prd D (D.pr 1).length ≤ 16384) (hma : mda D) (hval : valk tr Hb D ph pt pk pa f) (hvw : mvw tr D) (hvt : valk True Hb D ph pt pk pa f) (hwt : mvw True D) {qp rp qo ro : Nat} (hs : sst tr Hb D ph pt pk pa mm st H) (hg : gos D st H) (hp : btk D ph pt pk st H qp rp) (hq : btk D ph pt pk st H qo ro) : mu_TV (mu_D (f + 913)) 421 [.inr (.inr (some 169)), .inr (.inr (some qp)), .inr (.inr (some qo))] H (fun H1 => sst tr Hb D ph pt pk pa mm st H1 ∧ gos D st H1 ∧ zfr D ph pt pk pa mm st (fun p => p = ro) H H1) := by
  refine mu_meth (M := mu_m421) rfl rfl ?_
  refine mw_ht (mu_fn_of (show [0, 1, 2].Nodup by decide)) ?_
  refine mw_go mu_g421 (k := 2) (f1 := (2, [(3, .inl (1 : Int32)), (0, .inr (.inr (some 169))), (1, .inr (.inr (some qp))), (2, .inr (.inr (some qo)))], [], H)) (C := []) rfl trivial ?_
  refine mw_sub (L' := [(3, .inl (1 : Int32)), (2, .inr (.inr (some qo))), (1, .inr (.inr (some qp))), (0, .inr (.inr (some 169)))]) (by simp) ?_
  exact rp_gw2 hb hy hmd hNS hma hval hvw hvt hwt ((cbz H ro (prd D (D.pr 1).length)) + 1) _ (Nat.lt_succ_self _) hs hg hp hq zfr.rf
