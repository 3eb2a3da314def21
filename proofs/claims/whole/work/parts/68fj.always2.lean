/-! The reference: always, its outer loops -/
theorem frs_le {tr : Prop} {D : MD} (h : mvf tr D) : frs D ≤ 4000 := by
  have := h.1
  unfold frs
  split <;> omega
theorem rp_aw2 {tr : Prop} {Hb H0 : mu_H} {D : MD} {ph pt pk pa mm st f : Nat} (hb : mdb D) (hy : mdy D) (hmd : mdn D) (hNS : prd D (D.pr 1).length ≤ 16384) (hma : mda D) (hval : valk tr Hb D ph pt pk pa f) (hvw : mvw tr D) (hvt : valk True Hb D ph pt pk pa f) (hwt : mvw True D) (hfw : mvf tr D) {qo ro qg rg : Nat} (hne : ro ≠ rg) {Φ : mu_R → Prop} {C : Nat} (hnx : ∀ mo H, sst tr Hb D ph pt pk pa mm st H → gos D st H → btk D ph pt pk st H qo ro → btk D ph pt pk st H qg rg → zfr D ph pt pk pa mm st (fun p => p = ro ∨ p = rg) H0 H → (mo = 0 ∧ (cbz H ro (prd D (D.pr 1).length)) = C ∨ mo = 1 ∧ C < (cbz H ro (prd D (D.pr 1).length))) → mu_W (mu_D (f + 913)) mu_m416 (34, [(4, .inl mo), (3, .inr (.inr (some qg))), (2, .inr (.inr (some qo))), (0, .inr (.inr (some 169)))], [], H) Φ) : ∀ e_ i mo H, i + e_ = frs D → sst tr Hb D ph pt pk pa mm st H → gos D st H → btk D ph pt pk st H qo ro → btk D ph pt pk st H qg rg → zfr D ph pt pk pa mm st (fun p => p = ro ∨ p = rg) H0 H → (mo = 0 ∧ (cbz H ro (prd D (D.pr 1).length)) = C ∨ mo = 1 ∧ C < (cbz H ro (prd D (D.pr 1).length))) → mu_W (mu_D (f + 913)) mu_m416 (45, [(5, .inl (nI i)), (4, .inl mo), (3, .inr (.inr (some qg))), (2, .inr (.inr (some qo))), (0, .inr (.inr (some 169)))], [], H) Φ
  | 0, i, mo, H, hm_, hs, hg, ho, hG, hf, hc => by
    have fl := frs_le hfw
    refine mw_go mu_g416 (k := 2) (f1 := (48, [(5, .inl (nI i)), (4, .inl mo), (3, .inr (.inr (some qg))), (2, .inr (.inr (some qo))), (0, .inr (.inr (some 169)))], [.inr (.inr (some 169)), .inl (nI i)], H)) (C := []) rfl trivial ?_
    refine mw_cIe (fun _ => rfl) (show mu_is H (some 169) 1 from hs.1.1.2.2.1.1) (rp_fairs (d := f + 912) hfw.1 hs.1.1) ?_
    refine mw_if (P := (nI i) < (nI (frs D))) (a := 54) (b := 165) (fun _ => rfl) trivial (fun h1 => absurd h1 (by rw [show i = frs D by omega]; exact Int32.lt_irrefl)) (fun h1 => ?_)
    refine mw_go mu_g416 (k := 1) (f1 := (34, [(5, .inl (nI i)), (4, .inl mo), (3, .inr (.inr (some qg))), (2, .inr (.inr (some qo))), (0, .inr (.inr (some 169)))], [], H)) (C := []) rfl trivial ?_
    refine mw_sub (L' := [(4, .inl mo), (3, .inr (.inr (some qg))), (2, .inr (.inr (some qo))), (0, .inr (.inr (some 169)))]) (by simp) ?_
    exact hnx _ _ hs hg ho hG hf hc
  | e_ + 1, i, mo, H, hm_, hs, hg, ho, hG, hf, hc => by
    have fl := frs_le hfw
    refine mw_go mu_g416 (k := 2) (f1 := (48, [(5, .inl (nI i)), (4, .inl mo), (3, .inr (.inr (some qg))), (2, .inr (.inr (some qo))), (0, .inr (.inr (some 169)))], [.inr (.inr (some 169)), .inl (nI i)], H)) (C := []) rfl trivial ?_
    refine mw_cIe (fun _ => rfl) (show mu_is H (some 169) 1 from hs.1.1.2.2.1.1) (rp_fairs (d := f + 912) hfw.1 hs.1.1) ?_
    have il : i < frs D := by omega
    refine mw_if (P := (nI i) < (nI (frs D))) (a := 54) (b := 165) (fun _ => rfl) trivial (fun h1 => ?_) (fun h1 => absurd (nI_lt il (by omega)) h1)
    refine mw_go mu_g416 (k := 2) (f1 := (57, [(6, .inl (0 : Int32)), (5, .inl (nI i)), (4, .inl mo), (3, .inr (.inr (some qg))), (2, .inr (.inr (some qo))), (0, .inr (.inr (some 169)))], [], H)) (C := []) rfl trivial ?_
    refine mw_sub (L' := [(6, .inl (nI 0)), (5, .inl (nI i)), (4, .inl mo), (3, .inr (.inr (some qg))), (2, .inr (.inr (some qo))), (0, .inr (.inr (some 169)))]) (by intro x hx; simp only [List.mem_cons, List.not_mem_nil, or_false] at hx ⊢; rcases hx with rfl | rfl | rfl | rfl | rfl | rfl <;> simp [nI]) ?_
    refine rp_aw0 hb hy hmd hNS hma hval hvw hvt hwt hfw il hne (C := (cbz H ro (prd D (D.pr 1).length))) (mo := mo) (fun H2 s2 g2 o2 G2 f2 c2 => ?_) (prd D (D.pr 1).length) 0 _ (Nat.zero_add _) hs hg ho hG hf rfl
    refine mw_go mu_g416 (k := 3) (f1 := (106, [(5, .inl (nI i)), (4, .inl mo), (3, .inr (.inr (some qg))), (2, .inr (.inr (some qo))), (0, .inr (.inr (some 169)))], [.inr (.inr (some qg)), .inr (.inr (some qo)), .inr (.inr (some 169))], H2)) (C := []) rfl trivial ?_
    refine mw_cV (fun _ => rfl) (show mu_is H2 (some 169) 1 from s2.1.1.2.2.1.1) (rp_growS hb hy hmd hNS hma hval hvw hvt hwt s2 g2 o2 G2) (fun H3 q3 => ?_)
    obtain ⟨s3, g3, z3⟩ := q3
    have f3 := zfr.tr2 f2 (zfr.wk (R' := (fun p => p = ro ∨ p = rg)) z3 (fun p z => Or.inr z))
    have o3 := z3.2.2.1 _ _ o2
    have G3 := z3.2.2.1 _ _ G2
    have c3 : (cbz H3 ro (prd D (D.pr 1).length)) = (cbz H2 ro (prd D (D.pr 1).length)) := cbz_cg _ (fun s _ => z3.2.2.2 _ _ o2 hne s)
    refine mw_go mu_g416 (k := 2) (f1 := (112, [(6, .inl (0 : Int32)), (5, .inl (nI i)), (4, .inl mo), (3, .inr (.inr (some qg))), (2, .inr (.inr (some qo))), (0, .inr (.inr (some 169)))], [], H3)) (C := []) rfl trivial ?_
    refine mw_sub (L' := [(6, .inl (nI 0)), (5, .inl (nI i)), (4, .inl mo), (3, .inr (.inr (some qg))), (2, .inr (.inr (some qo))), (0, .inr (.inr (some 169)))]) (by intro x hx; simp only [List.mem_cons, List.not_mem_nil, or_false] at hx ⊢; rcases hx with rfl | rfl | rfl | rfl | rfl | rfl <;> simp [nI]) ?_
    refine rp_aw1 hb hy hmd hNS hma hval hvw hvt hwt hfw il hne (C := C) (fun mo4 H4 s4 g4 o4 G4 f4 c4 => ?_) (prd D (D.pr 1).length) 0 _ _ (Nat.zero_add _) s3 g3 o3 G3 f3 (by rw [c3, c2]; exact hc)
    refine mw_go mu_g416 (k := 2) (f1 := (45, [(5, .inl ((nI i) + 1)), (4, .inl mo4), (3, .inr (.inr (some qg))), (2, .inr (.inr (some qo))), (0, .inr (.inr (some 169)))], [], H4)) (C := []) rfl trivial ?_
    refine mw_sub (L' := [(5, .inl (nI (i + 1))), (4, .inl mo4), (3, .inr (.inr (some qg))), (2, .inr (.inr (some qo))), (0, .inr (.inr (some 169)))]) (by intro x hx; simp only [List.mem_cons, List.not_mem_nil, or_false] at hx ⊢; rcases hx with rfl | rfl | rfl | rfl | rfl <;> first | (simp [nI_add, show (1 : Int32) = nI 1 from rfl]; done) | simp [nI]) ?_
    exact rp_aw2 hb hy hmd hNS hma hval hvw hvt hwt hfw hne hnx e_ (i + 1) _ _ (by omega) s4 g4 o4 G4 f4 c4
theorem rp_awE {tr : Prop} {Hb H0 : mu_H} {D : MD} {ph pt pk pa mm st f : Nat} (hb : mdb D) (hy : mdy D) (hmd : mdn D) (hNS : prd D (D.pr 1).length ≤ 16384) (hma : mda D) (hval : valk tr Hb D ph pt pk pa f) (hvw : mvw tr D) (hvt : valk True Hb D ph pt pk pa f) (hwt : mvw True D) (hfw : mvf tr D) {qo ro qg rg : Nat} (hne : ro ≠ rg) {Φ : mu_R → Prop} {H : mu_H} (hend : ∀ H, sst tr Hb D ph pt pk pa mm st H → gos D st H → btk D ph pt pk st H qo ro → btk D ph pt pk st H qg rg → zfr D ph pt pk pa mm st (fun p => p = ro ∨ p = rg) H0 H → mu_W (mu_D (f + 913)) mu_m416 (168, [(0, .inr (.inr (some 169)))], [], H) Φ) (hs : sst tr Hb D ph pt pk pa mm st H) (hg : gos D st H) (ho : btk D ph pt pk st H qo ro) (hG : btk D ph pt pk st H qg rg) (hf : zfr D ph pt pk pa mm st (fun p => p = ro ∨ p = rg) H0 H) : mu_W (mu_D (f + 913)) mu_m416 (34, [(4, .inl (0 : Int32)), (3, .inr (.inr (some qg))), (2, .inr (.inr (some qo))), (0, .inr (.inr (some 169)))], [], H) Φ := by
  refine mw_go mu_g416 (k := 1) (f1 := (36, [(4, .inl (0 : Int32)), (3, .inr (.inr (some qg))), (2, .inr (.inr (some qo))), (0, .inr (.inr (some 169)))], [.inl (0 : Int32)], H)) (C := []) rfl trivial ?_
  refine mw_if (P := (0 : Int32) = 0) (a := 168) (b := 39) (fun _ => rfl) trivial (fun h1 => ?_) (fun h1 => absurd rfl h1)
  refine mw_sub (L' := [(0, .inr (.inr (some 169)))]) (by simp) ?_
  exact hend _ hs hg ho hG hf
theorem rp_awW {tr : Prop} {Hb H0 : mu_H} {D : MD} {ph pt pk pa mm st f : Nat} (hb : mdb D) (hy : mdy D) (hmd : mdn D) (hNS : prd D (D.pr 1).length ≤ 16384) (hma : mda D) (hval : valk tr Hb D ph pt pk pa f) (hvw : mvw tr D) (hvt : valk True Hb D ph pt pk pa f) (hwt : mvw True D) (hfw : mvf tr D) {qo ro qg rg : Nat} (hne : ro ≠ rg) {Φ : mu_R → Prop} (hend : ∀ H, sst tr Hb D ph pt pk pa mm st H → gos D st H → btk D ph pt pk st H qo ro → btk D ph pt pk st H qg rg → zfr D ph pt pk pa mm st (fun p => p = ro ∨ p = rg) H0 H → mu_W (mu_D (f + 913)) mu_m416 (168, [(0, .inr (.inr (some 169)))], [], H) Φ) : ∀ n H, (prd D (D.pr 1).length) < (cbz H ro (prd D (D.pr 1).length)) + n → sst tr Hb D ph pt pk pa mm st H → gos D st H → btk D ph pt pk st H qo ro → btk D ph pt pk st H qg rg → zfr D ph pt pk pa mm st (fun p => p = ro ∨ p = rg) H0 H → mu_W (mu_D (f + 913)) mu_m416 (34, [(4, .inl (1 : Int32)), (3, .inr (.inr (some qg))), (2, .inr (.inr (some qo))), (0, .inr (.inr (some 169)))], [], H) Φ
  | 0, H, h, _, _, _, _, _ => absurd h (by have := cbz_le (H := H) (r := ro) (prd D (D.pr 1).length); omega)
  | n + 1, H, hn, hs, hg, ho, hG, hf => by
    refine mw_go mu_g416 (k := 1) (f1 := (36, [(4, .inl (1 : Int32)), (3, .inr (.inr (some qg))), (2, .inr (.inr (some qo))), (0, .inr (.inr (some 169)))], [.inl (1 : Int32)], H)) (C := []) rfl trivial ?_
    refine mw_if (P := (1 : Int32) = 0) (a := 168) (b := 39) (fun _ => rfl) trivial (fun h1 => absurd h1 (by decide)) (fun h1 => ?_)
    refine mw_go mu_g416 (k := 4) (f1 := (45, [(5, .inl (0 : Int32)), (4, .inl (0 : Int32)), (3, .inr (.inr (some qg))), (2, .inr (.inr (some qo))), (0, .inr (.inr (some 169)))], [], H)) (C := []) rfl trivial ?_
    refine mw_sub (L' := [(5, .inl (nI 0)), (4, .inl (0 : Int32)), (3, .inr (.inr (some qg))), (2, .inr (.inr (some qo))), (0, .inr (.inr (some 169)))]) (by intro x hx; simp only [List.mem_cons, List.not_mem_nil, or_false] at hx ⊢; rcases hx with rfl | rfl | rfl | rfl | rfl <;> simp [nI]) ?_
    refine rp_aw2 hb hy hmd hNS hma hval hvw hvt hwt hfw hne (C := (cbz H ro (prd D (D.pr 1).length))) (fun mo K y1 y2 y3 y4 y5 y6 => ?_) (frs D) 0 _ _ (Nat.zero_add _) hs hg ho hG hf (Or.inl ⟨rfl, rfl⟩)
    rcases y6 with ⟨rfl, y7⟩ | ⟨rfl, y7⟩
    · exact rp_awE hb hy hmd hNS hma hval hvw hvt hwt hfw hne hend y1 y2 y3 y4 y5
    · exact rp_awW hb hy hmd hNS hma hval hvw hvt hwt hfw hne hend n _ (by omega) y1 y2 y3 y4 y5
