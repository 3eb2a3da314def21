/-! The reference: mark -/
/-- PathProverModel.mark()V -/
abbrev mu_m430 : ev_M := (7, none, [], ev_b430)
theorem mu_g430 : mu_good mu_m430 := mu_goodk ev_k430
/-- the rows of may -/
def mwr (D : MD) (mm : Nat) (H : mu_H) : Prop := oar H D.G 49 105 mm (D.pr 1).length ∧ ∀ v, v < (D.pr 1).length → ∃ z, mu_r H mm v = some z ∧ (mu_is H (some z) 108 ∧ z ∉ gndl ∧ z < 1000000 ∧ ¬ D.G z) ∧ hmn (typ D v) ≤ mu_n H z ∧ mu_n H z < 2 ^ 31
def mkf (D : MD) (mm pk pa : Nat) (H H1 : mu_H) : Prop := rfr [19, 20, 21] [] (fun p => p = pk ∨ p = pa ∨ ∃ v, v < (D.pr 1).length ∧ mu_r H mm v = some p) 0 0 H H1 ∧ ∀ v, v < (D.pr 1).length → mu_r H1 mm v = mu_r H mm v
section Mwr
variable {tr : Prop} {Hb H H0 H1 H2 : mu_H} {D : MD} {ph pt pk pa mm v z j : Nat} {x : Int32}
theorem mkf.rf : mkf D mm pk pa H H := ⟨rfr.rf, fun _ _ => rfl⟩
theorem mkf.tr2 (h1 : mkf D mm pk pa H H1) (h2 : mkf D mm pk pa H1 H2) : mkf D mm pk pa H H2 := ⟨rfr.tr h1.1 h2.1 (fun k z => z.elim id id) (fun k z => z.elim id id) (fun p _ z => z.elim id (fun y => by
  rcases y with y | y | ⟨v, v1, v2⟩
  · exact Or.inl y
  · exact Or.inr (Or.inl y)
  · exact Or.inr (Or.inr ⟨v, v1, (h1.2 v v1).symm.trans v2⟩))), fun v hv => (h2.2 v hv).trans (h1.2 v hv)⟩
theorem mwr.vk {tr : Prop} (h : mwr D mm H) (hv : vsta tr Hb D ph pt pk pa H) (hf : vfk pk pa H H1) : mwr D mm H1 ∧ mkf D mm pk pa H H1 := by
  obtain ⟨a1, a2⟩ := h
  have k1 := hv.2.1.2.2.1.2.2.2.1
  have k2 := hv.2.1.2.2.2.2.2.2.1
  have n1 : mm ≠ pk ∧ mm ≠ pa := ⟨fun e => by have q := a1.2.2.2.1; rw [e, k1] at q; exact absurd q (by decide), fun e => by have q := a1.2.2.2.1; rw [e, k2] at q; exact absurd q (by decide)⟩
  have mr : ∀ v, mu_r H1 mm v = mu_r H mm v := fun v => hf.1.r (Or.inl a1.2.1.2.1) (fun z => z.elim (gndl9 a1.2.1.1) (fun z => z.elim n1.1 n1.2)) v
  refine ⟨⟨(a1.fr hf (List.not_mem_nil)).resolve_right (fun z => z.elim n1.1 n1.2), fun v hv => ?_⟩, rfr.wk hf (fun _ z => z) (fun _ z => z) (fun _ _ z => z.imp id Or.inl) (Nat.le_refl _) (Nat.le_refl _), fun v _ => mr v⟩
  obtain ⟨z, z1, ⟨z2, z3, z4, z5⟩, z6⟩ := a2 v hv
  have nz : ¬ (z = 169 ∨ z = pk ∨ z = pa) := fun e => by
    rcases e with e | e | e
    · exact gndl9 z3 e
    · have q := z2.2.2; rw [show mu_p (some z) = pk from e, k1] at q; exact absurd q (by decide)
    · have q := z2.2.2; rw [show mu_p (some z) = pa from e, k2] at q; exact absurd q (by decide)
  exact ⟨z, (mr v).trans z1, ⟨hf.1.is z2 nz, z3, z4, z5⟩, by rw [hf.1.len (p := z) (Or.inl z2.2.1) nz]; exact z6⟩
theorem mwr.wz {tr : Prop} (h : mwr D mm H) (hv : vsta tr Hb D ph pt pk pa H) (hz : mu_is H (some z) 108 ∧ z ∉ gndl ∧ z < 1000000 ∧ ¬ D.G z) : mwr D mm (mu_si H z j x) ∧ vsta tr Hb D ph pt pk pa (mu_si H z j x) := by
  obtain ⟨v1, ⟨a1, a2, a3, a4⟩, v3, v4, v5⟩ := hv
  have n1 : ph ≠ z := fun e => by have q := a1.2.2.2.1; rw [e, show mu_k H z = 108 from hz.1.2.2] at q; exact absurd q (by decide)
  have n2 : pt ≠ z := fun e => by have q := a2.2.2.2.1; rw [e, show mu_k H z = 108 from hz.1.2.2] at q; exact absurd q (by decide)
  exact ⟨h, v1.siW ⟨hz.2.2.2, hz.2.2.1, gndl9 hz.2.1⟩, ⟨a1, a2, a3, a4⟩, v3, fun v hv => by rw [mu_i_si, if_neg (fun y => n1 y.1)]; exact v4 v hv, fun tt v hv => by rw [mu_i_si, if_neg (fun y => n2 y.1)]; exact v5 tt v hv⟩
theorem mkf.wz (h : mkf D mm pk pa H0 H) (hv : v < (D.pr 1).length) (hz : mu_r H mm v = some z) (h9 : z ≠ 169) : mkf D mm pk pa H0 (mu_si H z j x) := ⟨rfr.siW h.1 ⟨Or.inr (Or.inr ⟨v, hv, (h.2 v hv).symm.trans hz⟩), h9⟩, h.2⟩
end Mwr
theorem rp_mk1 {tr : Prop} {Hb H0 : mu_H} {D : MD} {ph pt pk pa mm f : Nat} (hb : mdb D) (hy : mdy D) (hmd : mdn D) {v : Nat} {Φ : mu_R → Prop} (hvl : v < (D.pr 1).length) (hnx : ∀ H, vsta tr Hb D ph pt pk pa H → mwr D mm H → mkf D mm pk pa H0 H → mu_W (mu_D (f + 909)) mu_m430 (47, [(1, .inl (nI v)), (0, .inr (.inr (some 169)))], [], H) Φ) : ∀ m_ k H, k + m_ = hmn (typ D v) → vsta tr Hb D ph pt pk pa H → mwr D mm H → mkf D mm pk pa H0 H → mu_W (mu_D (f + 909)) mu_m430 (15, [(2, .inl (nI k)), (1, .inl (nI v)), (0, .inr (.inr (some 169)))], [], H) Φ
  | 0, k, H, hm_, hv, hw, hf => by
    have b5 := hb.2.2.1
    obtain ⟨om1, ⟨om0_1, om1_1⟩, ol1, on1, oc1, oj1⟩ := hv.1.mod
    obtain ⟨⟨pa2, pb2, pc2⟩, ⟨pd2, pe2, pf2⟩, pg2, ph2, pi2⟩ := hv.1.row (k := 1) (by decide)
    obtain ⟨q3, qr4, qn4⟩ := pf2 v hvl
    obtain ⟨ra4, rb4, rc4, rd4⟩ := ar_at (i := v) pd2 (by decide) (by omega) (by omega)
    have re4 : mu_r H (D.loc 3) (nI v).toNatClampNeg = some q3 := by rw [rd4]; exact qr4
    have ty4 := hy v hvl
    have hq4 := hmI_n ty4.1 (hmd v hvl) ty4.2 (qn4.s26 (c := typ D v))
    refine mw_go mu_g430 (k := 4) (f1 := (21, [(2, .inl (nI k)), (1, .inl (nI v)), (0, .inr (.inr (some 169)))], [.inr (.inr (mu_r H 169 18)), .inr (.inr (some 169)), .inl (nI k)], H)) (C := [mu_is H (some 169) 1]) rfl (show mu_is H (some 169) 1 from hv.1.2.2.1.1) ?_
    refine mw_fr (f' := (21, [(2, .inl (nI k)), (1, .inl (nI v)), (0, .inr (.inr (some 169)))], [.inr (.inr (some D.mp)), .inr (.inr (some 169)), .inl (nI k)], H)) (by first | (rw [hv.1.2.2.1.2]; done) | (rw [hv.1.2.2.1.2]; rfl)) ?_
    refine mw_go mu_g430 (k := 1) (f1 := (24, [(2, .inl (nI k)), (1, .inl (nI v)), (0, .inr (.inr (some 169)))], [.inr (.inr (mu_r H D.mp 4)), .inr (.inr (some 169)), .inl (nI k)], H)) (C := [mu_is H (some D.mp) 16]) rfl (show mu_is H (some D.mp) 16 from om1) ?_
    refine mw_fr (f' := (24, [(2, .inl (nI k)), (1, .inl (nI v)), (0, .inr (.inr (some 169)))], [.inr (.inr (some (D.loc 3))), .inr (.inr (some 169)), .inl (nI k)], H)) (by first | (rw [(show mu_r H D.mp 4 = some (D.loc 3) from pa2)]; done) | (rw [(show mu_r H D.mp 4 = some (D.loc 3) from pa2)]; rfl)) ?_
    refine mw_go mu_g430 (k := 2) (f1 := (26, [(2, .inl (nI k)), (1, .inl (nI v)), (0, .inr (.inr (some 169)))], [.inr (.inr (mu_r H (D.loc 3) (nI v).toNatClampNeg)), .inr (.inr (some 169)), .inl (nI k)], H)) (C := [mu_is H (some (D.loc 3)) (mu_k H (D.loc 3)), 103 ≤ mu_k H (D.loc 3) ∧ mu_k H (D.loc 3) ≤ 110 ∧ mu_k H (D.loc 3) ≠ 108, vp_in (nI v) (mu_n H (D.loc 3))]) rfl (show (mu_is H (some (D.loc 3)) (mu_k H (D.loc 3))) ∧ (103 ≤ mu_k H (D.loc 3) ∧ mu_k H (D.loc 3) ≤ 110 ∧ mu_k H (D.loc 3) ≠ 108) ∧ (vp_in (nI v) (mu_n H (D.loc 3))) from ⟨ra4, rb4, rc4⟩) ?_
    refine mw_fr (f' := (26, [(2, .inl (nI k)), (1, .inl (nI v)), (0, .inr (.inr (some 169)))], [.inr (.inr (some q3)), .inr (.inr (some 169)), .inl (nI k)], H)) (by first | (rw [re4]; done) | (rw [re4]; rfl)) ?_
    refine mw_cIe (fun _ => rfl) (show mu_is H (some 169) 1 from hv.1.2.2.1.1) (rp_howMany (d := f + 905) (c := typ D v) qn4 hv.1.2.1 ty4.1) ?_
    refine mw_fr (f' := (29, [(2, .inl (nI k)), (1, .inl (nI v)), (0, .inr (.inr (some 169)))], [.inl (nI (hmn (typ D v))), .inl (nI k)], H)) (by rw [hq4.1]) ?_
    refine mw_if (P := (nI k) < (nI (hmn (typ D v)))) (a := 32) (b := 47) (fun _ => rfl) trivial (fun h1 => absurd h1 (by rw [show k = hmn (typ D v) by omega]; exact Int32.lt_irrefl)) (fun h1 => ?_)
    refine mw_sub (L' := [(1, .inl (nI v)), (0, .inr (.inr (some 169)))]) (by simp) ?_
    exact hnx _ hv hw hf
  | m_ + 1, k, H, hm_, hv, hw, hf => by
    have b5 := hb.2.2.1
    obtain ⟨om1, ⟨om0_1, om1_1⟩, ol1, on1, oc1, oj1⟩ := hv.1.mod
    obtain ⟨⟨pa2, pb2, pc2⟩, ⟨pd2, pe2, pf2⟩, pg2, ph2, pi2⟩ := hv.1.row (k := 1) (by decide)
    obtain ⟨q3, qr4, qn4⟩ := pf2 v hvl
    obtain ⟨ra4, rb4, rc4, rd4⟩ := ar_at (i := v) pd2 (by decide) (by omega) (by omega)
    have re4 : mu_r H (D.loc 3) (nI v).toNatClampNeg = some q3 := by rw [rd4]; exact qr4
    have ty4 := hy v hvl
    have hq4 := hmI_n ty4.1 (hmd v hvl) ty4.2 (qn4.s26 (c := typ D v))
    have kt : k < hmn (typ D v) := by omega
    refine mw_go mu_g430 (k := 4) (f1 := (21, [(2, .inl (nI k)), (1, .inl (nI v)), (0, .inr (.inr (some 169)))], [.inr (.inr (mu_r H 169 18)), .inr (.inr (some 169)), .inl (nI k)], H)) (C := [mu_is H (some 169) 1]) rfl (show mu_is H (some 169) 1 from hv.1.2.2.1.1) ?_
    refine mw_fr (f' := (21, [(2, .inl (nI k)), (1, .inl (nI v)), (0, .inr (.inr (some 169)))], [.inr (.inr (some D.mp)), .inr (.inr (some 169)), .inl (nI k)], H)) (by first | (rw [hv.1.2.2.1.2]; done) | (rw [hv.1.2.2.1.2]; rfl)) ?_
    refine mw_go mu_g430 (k := 1) (f1 := (24, [(2, .inl (nI k)), (1, .inl (nI v)), (0, .inr (.inr (some 169)))], [.inr (.inr (mu_r H D.mp 4)), .inr (.inr (some 169)), .inl (nI k)], H)) (C := [mu_is H (some D.mp) 16]) rfl (show mu_is H (some D.mp) 16 from om1) ?_
    refine mw_fr (f' := (24, [(2, .inl (nI k)), (1, .inl (nI v)), (0, .inr (.inr (some 169)))], [.inr (.inr (some (D.loc 3))), .inr (.inr (some 169)), .inl (nI k)], H)) (by first | (rw [(show mu_r H D.mp 4 = some (D.loc 3) from pa2)]; done) | (rw [(show mu_r H D.mp 4 = some (D.loc 3) from pa2)]; rfl)) ?_
    refine mw_go mu_g430 (k := 2) (f1 := (26, [(2, .inl (nI k)), (1, .inl (nI v)), (0, .inr (.inr (some 169)))], [.inr (.inr (mu_r H (D.loc 3) (nI v).toNatClampNeg)), .inr (.inr (some 169)), .inl (nI k)], H)) (C := [mu_is H (some (D.loc 3)) (mu_k H (D.loc 3)), 103 ≤ mu_k H (D.loc 3) ∧ mu_k H (D.loc 3) ≤ 110 ∧ mu_k H (D.loc 3) ≠ 108, vp_in (nI v) (mu_n H (D.loc 3))]) rfl (show (mu_is H (some (D.loc 3)) (mu_k H (D.loc 3))) ∧ (103 ≤ mu_k H (D.loc 3) ∧ mu_k H (D.loc 3) ≤ 110 ∧ mu_k H (D.loc 3) ≠ 108) ∧ (vp_in (nI v) (mu_n H (D.loc 3))) from ⟨ra4, rb4, rc4⟩) ?_
    refine mw_fr (f' := (26, [(2, .inl (nI k)), (1, .inl (nI v)), (0, .inr (.inr (some 169)))], [.inr (.inr (some q3)), .inr (.inr (some 169)), .inl (nI k)], H)) (by first | (rw [re4]; done) | (rw [re4]; rfl)) ?_
    refine mw_cIe (fun _ => rfl) (show mu_is H (some 169) 1 from hv.1.2.2.1.1) (rp_howMany (d := f + 905) (c := typ D v) qn4 hv.1.2.1 ty4.1) ?_
    refine mw_fr (f' := (29, [(2, .inl (nI k)), (1, .inl (nI v)), (0, .inr (.inr (some 169)))], [.inl (nI (hmn (typ D v))), .inl (nI k)], H)) (by rw [hq4.1]) ?_
    refine mw_if (P := (nI k) < (nI (hmn (typ D v)))) (a := 32) (b := 47) (fun _ => rfl) trivial (fun h1 => ?_) (fun h1 => absurd (nI_lt kt (by omega)) h1)
    obtain ⟨z, mz5, mi5, ml5⟩ := hw.2 v hvl
    obtain ⟨ma5, mb5, mc5, md5⟩ := ar_at (i := v) (H := H) (r := mm) (k := 105) ⟨rfl, hw.1.2.1.2.1, hw.1.2.2.2.1⟩ (by decide) (Nat.lt_of_lt_of_le hvl hw.1.2.2.2.2.1) hw.1.2.2.2.2.2
    have me5 : mu_r H mm (nI v).toNatClampNeg = some z := by rw [md5]; exact mz5
    refine mw_go mu_g430 (k := 2) (f1 := (36, [(2, .inl (nI k)), (1, .inl (nI v)), (0, .inr (.inr (some 169)))], [.inr (.inr (mu_r H 169 49))], H)) (C := [mu_is H (some 169) 1]) rfl (show mu_is H (some 169) 1 from hv.1.2.2.1.1) ?_
    refine mw_fr (f' := (36, [(2, .inl (nI k)), (1, .inl (nI v)), (0, .inr (.inr (some 169)))], [.inr (.inr (some mm))], H)) (by first | (rw [hw.1.1]; done) | (rw [hw.1.1]; rfl)) ?_
    refine mw_go mu_g430 (k := 2) (f1 := (38, [(2, .inl (nI k)), (1, .inl (nI v)), (0, .inr (.inr (some 169)))], [.inr (.inr (mu_r H mm (nI v).toNatClampNeg))], H)) (C := [mu_is H (some mm) (mu_k H mm), 103 ≤ mu_k H mm ∧ mu_k H mm ≤ 110 ∧ mu_k H mm ≠ 108, vp_in (nI v) (mu_n H mm)]) rfl (show (mu_is H (some mm) (mu_k H mm)) ∧ (103 ≤ mu_k H mm ∧ mu_k H mm ≤ 110 ∧ mu_k H mm ≠ 108) ∧ (vp_in (nI v) (mu_n H mm)) from ⟨ma5, mb5, mc5⟩) ?_
    refine mw_fr (f' := (38, [(2, .inl (nI k)), (1, .inl (nI v)), (0, .inr (.inr (some 169)))], [.inr (.inr (some z))], H)) (by first | (rw [me5]; done) | (rw [me5]; rfl)) ?_
    refine mw_go mu_g430 (k := 2) (f1 := (40, [(2, .inl (nI k)), (1, .inl (nI v)), (0, .inr (.inr (some 169)))], [.inl (1 : Int32), .inl (nI k), .inr (.inr (some z))], H)) (C := []) rfl trivial ?_
    refine mw_ast8 rfl mi5.1 (by show vp_in (nI k) (mu_n H z); exact vp_in_nI (Nat.lt_of_lt_of_le kt ml5.1) ml5.2) (Or.inr rfl) ?_
    refine mw_fr (f' := (41, [(2, .inl (nI k)), (1, .inl (nI v)), (0, .inr (.inr (some 169)))], [], (mu_si H z k 1))) (by rw [show mu_p (some z) = z from rfl, nI_clamp (show k < 2 ^ 31 by omega)]) ?_
    obtain ⟨w1_6, w2_6⟩ := hw.wz (z := z) (j := k) (x := 1) hv mi5
    have w3_6 := hf.wz (z := z) (j := k) (x := 1) hvl mz5 (gndl9 mi5.2.1)
    obtain ⟨K6, eK6⟩ : ∃ K, K = (mu_si H z k 1) := ⟨_, rfl⟩
    rw [← eK6] at w1_6 w2_6 w3_6 ⊢
    clear eK6
    refine mw_go mu_g430 (k := 2) (f1 := (15, [(2, .inl ((nI k) + 1)), (1, .inl (nI v)), (0, .inr (.inr (some 169)))], [], K6)) (C := []) rfl trivial ?_
    refine mw_sub (L' := [(2, .inl (nI (k + 1))), (1, .inl (nI v)), (0, .inr (.inr (some 169)))]) (by intro x hx; simp only [List.mem_cons, List.not_mem_nil, or_false] at hx ⊢; rcases hx with rfl | rfl | rfl <;> first | (simp [nI_add, show (1 : Int32) = nI 1 from rfl]; done) | simp [nI]) ?_
    exact rp_mk1 hb hy hmd hvl hnx m_ (k + 1) _ (by omega) w2_6 w1_6 w3_6
theorem rp_mk2 {tr : Prop} {Hb H0 : mu_H} {D : MD} {ph pt pk pa mm f : Nat} (hb : mdb D) (hy : mdy D) (hmd : mdn D) {Φ : mu_R → Prop} (hnx : ∀ H, vsta tr Hb D ph pt pk pa H → mwr D mm H → mkf D mm pk pa H0 H → mu_W (mu_D (f + 909)) mu_m430 (55, [(1, .inl (nI 0)), (0, .inr (.inr (some 169)))], [], H) Φ) : ∀ m_ v H, v + m_ = (D.pr 1).length → vsta tr Hb D ph pt pk pa H → mwr D mm H → mkf D mm pk pa H0 H → mu_W (mu_D (f + 909)) mu_m430 (2, [(1, .inl (nI v)), (0, .inr (.inr (some 169)))], [], H) Φ
  | 0, v, H, hm_, hv, hw, hf => by
    have b5 := hb.2.2.1
    obtain ⟨om1, ⟨om0_1, om1_1⟩, ol1, on1, oc1, oj1⟩ := hv.1.mod
    obtain ⟨⟨pa2, pb2, pc2⟩, ⟨pd2, pe2, pf2⟩, pg2, ph2, pi2⟩ := hv.1.row (k := 1) (by decide)
    refine mw_go mu_g430 (k := 3) (f1 := (7, [(1, .inl (nI v)), (0, .inr (.inr (some 169)))], [.inr (.inr (mu_r H 169 18)), .inl (nI v)], H)) (C := [mu_is H (some 169) 1]) rfl (show mu_is H (some 169) 1 from hv.1.2.2.1.1) ?_
    refine mw_fr (f' := (7, [(1, .inl (nI v)), (0, .inr (.inr (some 169)))], [.inr (.inr (some D.mp)), .inl (nI v)], H)) (by first | (rw [hv.1.2.2.1.2]; done) | (rw [hv.1.2.2.1.2]; rfl)) ?_
    refine mw_go mu_g430 (k := 1) (f1 := (10, [(1, .inl (nI v)), (0, .inr (.inr (some 169)))], [.inl (mu_i H D.mp 5), .inl (nI v)], H)) (C := [mu_is H (some D.mp) 16]) rfl (show mu_is H (some D.mp) 16 from om1) ?_
    refine mw_fr (f' := (10, [(1, .inl (nI v)), (0, .inr (.inr (some 169)))], [.inl (nI (D.pr 1).length), .inl (nI v)], H)) (by first | (rw [(show mu_i H D.mp 5 = nI (D.pr 1).length from pc2)]; done) | (rw [(show mu_i H D.mp 5 = nI (D.pr 1).length from pc2)]; rfl)) ?_
    refine mw_if (P := (nI v) < (nI (D.pr 1).length)) (a := 13) (b := 53) (fun _ => rfl) trivial (fun h1 => absurd h1 (by rw [show v = (D.pr 1).length by omega]; exact Int32.lt_irrefl)) (fun h1 => ?_)
    refine mw_go mu_g430 (k := 2) (f1 := (55, [(1, .inl (0 : Int32)), (0, .inr (.inr (some 169)))], [], H)) (C := []) rfl trivial ?_
    refine mw_sub (L' := [(1, .inl (nI 0)), (0, .inr (.inr (some 169)))]) (by intro x hx; simp only [List.mem_cons, List.not_mem_nil, or_false] at hx ⊢; rcases hx with rfl | rfl <;> first | (simp [nI_add, show (1 : Int32) = nI 1 from rfl]; done) | simp [nI]) ?_
    exact hnx _ hv hw hf
  | m_ + 1, v, H, hm_, hv, hw, hf => by
    have b5 := hb.2.2.1
    obtain ⟨om1, ⟨om0_1, om1_1⟩, ol1, on1, oc1, oj1⟩ := hv.1.mod
    obtain ⟨⟨pa2, pb2, pc2⟩, ⟨pd2, pe2, pf2⟩, pg2, ph2, pi2⟩ := hv.1.row (k := 1) (by decide)
    have hvl : v < (D.pr 1).length := by omega
    refine mw_go mu_g430 (k := 3) (f1 := (7, [(1, .inl (nI v)), (0, .inr (.inr (some 169)))], [.inr (.inr (mu_r H 169 18)), .inl (nI v)], H)) (C := [mu_is H (some 169) 1]) rfl (show mu_is H (some 169) 1 from hv.1.2.2.1.1) ?_
    refine mw_fr (f' := (7, [(1, .inl (nI v)), (0, .inr (.inr (some 169)))], [.inr (.inr (some D.mp)), .inl (nI v)], H)) (by first | (rw [hv.1.2.2.1.2]; done) | (rw [hv.1.2.2.1.2]; rfl)) ?_
    refine mw_go mu_g430 (k := 1) (f1 := (10, [(1, .inl (nI v)), (0, .inr (.inr (some 169)))], [.inl (mu_i H D.mp 5), .inl (nI v)], H)) (C := [mu_is H (some D.mp) 16]) rfl (show mu_is H (some D.mp) 16 from om1) ?_
    refine mw_fr (f' := (10, [(1, .inl (nI v)), (0, .inr (.inr (some 169)))], [.inl (nI (D.pr 1).length), .inl (nI v)], H)) (by first | (rw [(show mu_i H D.mp 5 = nI (D.pr 1).length from pc2)]; done) | (rw [(show mu_i H D.mp 5 = nI (D.pr 1).length from pc2)]; rfl)) ?_
    refine mw_if (P := (nI v) < (nI (D.pr 1).length)) (a := 13) (b := 53) (fun _ => rfl) trivial (fun h1 => ?_) (fun h1 => absurd (nI_lt hvl (by omega)) h1)
    refine mw_go mu_g430 (k := 2) (f1 := (15, [(2, .inl (0 : Int32)), (1, .inl (nI v)), (0, .inr (.inr (some 169)))], [], H)) (C := []) rfl trivial ?_
    refine mw_sub (L' := [(2, .inl (nI 0)), (1, .inl (nI v)), (0, .inr (.inr (some 169)))]) (by intro x hx; simp only [List.mem_cons, List.not_mem_nil, or_false] at hx ⊢; rcases hx with rfl | rfl | rfl <;> simp [nI]) ?_
    refine rp_mk1 hb hy hmd hvl (fun H1 g1 g2 g3 => ?_) (hmn (typ D v)) 0 _ (Nat.zero_add _) hv hw hf
    refine mw_go mu_g430 (k := 2) (f1 := (2, [(1, .inl ((nI v) + 1)), (0, .inr (.inr (some 169)))], [], H1)) (C := []) rfl trivial ?_
    refine mw_sub (L' := [(1, .inl (nI (v + 1))), (0, .inr (.inr (some 169)))]) (by intro x hx; simp only [List.mem_cons, List.not_mem_nil, or_false] at hx ⊢; rcases hx with rfl | rfl <;> first | (simp [nI_add, show (1 : Int32) = nI 1 from rfl]; done) | simp [nI]) ?_
    exact rp_mk2 hb hy hmd hnx m_ (v + 1) _ (by omega) g1 g2 g3
theorem rp_mk3 {tr : Prop} {Hb H0 : mu_H} {D : MD} {ph pt pk pa mm f : Nat} (hb : mdb D) (hy : mdy D) (hmd : mdn D) {j k p ddp : Nat} (hj : j < D.n) (hk : k < (D.md j).2.2.length) (hval : valk tr Hb D ph pt pk pa f) (hpn : nd Hb D.G ddp p (nth (D.md j).2.2 k)) (hp1 : 0 < tsn (nth (D.md j).2.2 k)) (hvl : (avr D j (nam (nth (D.md j).2.2 k))) < (D.pr 1).length) (hcc : ccw tr D j 905 (tkk (nth (D.md j).2.2 k) 0)) {Φ : mu_R → Prop} (hnx : ∀ H, vsta tr Hb D ph pt pk pa H → mwr D mm H → mkf D mm pk pa H0 H → mu_W (mu_D (f + 909)) mu_m430 (201, [(3, .inl (nI k)), (2, .inr (.inr (some (D.ip j)))), (1, .inl (nI j)), (0, .inr (.inr (some 169)))], [], H) Φ) : ∀ m_ c H, c + m_ = hmn (typ D (avr D j (nam (nth (D.md j).2.2 k)))) → vsta tr Hb D ph pt pk pa H → mwr D mm H → mkf D mm pk pa H0 H → mu_W (mu_D (f + 909)) mu_m430 (146, [(6, .inl (nI c)), (5, .inl (nI (avr D j (nam (nth (D.md j).2.2 k))))), (4, .inr (.inr (some p))), (3, .inl (nI k)), (2, .inr (.inr (some (D.ip j)))), (1, .inl (nI j)), (0, .inr (.inr (some 169)))], [], H) Φ
  | 0, c, H, hm_, hv, hw, hf => by
    have b5 := hb.2.2.1
    obtain ⟨om1, ⟨om0_1, om1_1⟩, ol1, on1, oc1, oj1⟩ := hv.1.mod
    obtain ⟨⟨pa2, pb2, pc2⟩, ⟨pd2, pe2, pf2⟩, pg2, ph2, pi2⟩ := hv.1.row (k := 1) (by decide)
    obtain ⟨q3, qr4, qn4⟩ := pf2 (avr D j (nam (nth (D.md j).2.2 k))) hvl
    obtain ⟨ra4, rb4, rc4, rd4⟩ := ar_at (i := (avr D j (nam (nth (D.md j).2.2 k)))) pd2 (by decide) (by omega) (by omega)
    have re4 : mu_r H (D.loc 3) (nI (avr D j (nam (nth (D.md j).2.2 k)))).toNatClampNeg = some q3 := by rw [rd4]; exact qr4
    have ty4 := hy (avr D j (nam (nth (D.md j).2.2 k))) hvl
    have hq4 := hmI_n ty4.1 (hmd (avr D j (nam (nth (D.md j).2.2 k))) hvl) ty4.2 (qn4.s26 (c := typ D (avr D j (nam (nth (D.md j).2.2 k)))))
    refine mw_go mu_g430 (k := 4) (f1 := (153, [(6, .inl (nI c)), (5, .inl (nI (avr D j (nam (nth (D.md j).2.2 k))))), (4, .inr (.inr (some p))), (3, .inl (nI k)), (2, .inr (.inr (some (D.ip j)))), (1, .inl (nI j)), (0, .inr (.inr (some 169)))], [.inr (.inr (mu_r H 169 18)), .inr (.inr (some 169)), .inl (nI c)], H)) (C := [mu_is H (some 169) 1]) rfl (show mu_is H (some 169) 1 from hv.1.2.2.1.1) ?_
    refine mw_fr (f' := (153, [(6, .inl (nI c)), (5, .inl (nI (avr D j (nam (nth (D.md j).2.2 k))))), (4, .inr (.inr (some p))), (3, .inl (nI k)), (2, .inr (.inr (some (D.ip j)))), (1, .inl (nI j)), (0, .inr (.inr (some 169)))], [.inr (.inr (some D.mp)), .inr (.inr (some 169)), .inl (nI c)], H)) (by first | (rw [hv.1.2.2.1.2]; done) | (rw [hv.1.2.2.1.2]; rfl)) ?_
    refine mw_go mu_g430 (k := 1) (f1 := (156, [(6, .inl (nI c)), (5, .inl (nI (avr D j (nam (nth (D.md j).2.2 k))))), (4, .inr (.inr (some p))), (3, .inl (nI k)), (2, .inr (.inr (some (D.ip j)))), (1, .inl (nI j)), (0, .inr (.inr (some 169)))], [.inr (.inr (mu_r H D.mp 4)), .inr (.inr (some 169)), .inl (nI c)], H)) (C := [mu_is H (some D.mp) 16]) rfl (show mu_is H (some D.mp) 16 from om1) ?_
    refine mw_fr (f' := (156, [(6, .inl (nI c)), (5, .inl (nI (avr D j (nam (nth (D.md j).2.2 k))))), (4, .inr (.inr (some p))), (3, .inl (nI k)), (2, .inr (.inr (some (D.ip j)))), (1, .inl (nI j)), (0, .inr (.inr (some 169)))], [.inr (.inr (some (D.loc 3))), .inr (.inr (some 169)), .inl (nI c)], H)) (by first | (rw [(show mu_r H D.mp 4 = some (D.loc 3) from pa2)]; done) | (rw [(show mu_r H D.mp 4 = some (D.loc 3) from pa2)]; rfl)) ?_
    refine mw_go mu_g430 (k := 2) (f1 := (159, [(6, .inl (nI c)), (5, .inl (nI (avr D j (nam (nth (D.md j).2.2 k))))), (4, .inr (.inr (some p))), (3, .inl (nI k)), (2, .inr (.inr (some (D.ip j)))), (1, .inl (nI j)), (0, .inr (.inr (some 169)))], [.inr (.inr (mu_r H (D.loc 3) (nI (avr D j (nam (nth (D.md j).2.2 k)))).toNatClampNeg)), .inr (.inr (some 169)), .inl (nI c)], H)) (C := [mu_is H (some (D.loc 3)) (mu_k H (D.loc 3)), 103 ≤ mu_k H (D.loc 3) ∧ mu_k H (D.loc 3) ≤ 110 ∧ mu_k H (D.loc 3) ≠ 108, vp_in (nI (avr D j (nam (nth (D.md j).2.2 k)))) (mu_n H (D.loc 3))]) rfl (show (mu_is H (some (D.loc 3)) (mu_k H (D.loc 3))) ∧ (103 ≤ mu_k H (D.loc 3) ∧ mu_k H (D.loc 3) ≤ 110 ∧ mu_k H (D.loc 3) ≠ 108) ∧ (vp_in (nI (avr D j (nam (nth (D.md j).2.2 k)))) (mu_n H (D.loc 3))) from ⟨ra4, rb4, rc4⟩) ?_
    refine mw_fr (f' := (159, [(6, .inl (nI c)), (5, .inl (nI (avr D j (nam (nth (D.md j).2.2 k))))), (4, .inr (.inr (some p))), (3, .inl (nI k)), (2, .inr (.inr (some (D.ip j)))), (1, .inl (nI j)), (0, .inr (.inr (some 169)))], [.inr (.inr (some q3)), .inr (.inr (some 169)), .inl (nI c)], H)) (by first | (rw [re4]; done) | (rw [re4]; rfl)) ?_
    refine mw_cIe (fun _ => rfl) (show mu_is H (some 169) 1 from hv.1.2.2.1.1) (rp_howMany (d := f + 905) (c := typ D (avr D j (nam (nth (D.md j).2.2 k)))) qn4 hv.1.2.1 ty4.1) ?_
    refine mw_fr (f' := (162, [(6, .inl (nI c)), (5, .inl (nI (avr D j (nam (nth (D.md j).2.2 k))))), (4, .inr (.inr (some p))), (3, .inl (nI k)), (2, .inr (.inr (some (D.ip j)))), (1, .inl (nI j)), (0, .inr (.inr (some 169)))], [.inl (nI (hmn (typ D (avr D j (nam (nth (D.md j).2.2 k)))))), .inl (nI c)], H)) (by rw [hq4.1]) ?_
    refine mw_if (P := (nI c) < (nI (hmn (typ D (avr D j (nam (nth (D.md j).2.2 k))))))) (a := 165) (b := 201) (fun _ => rfl) trivial (fun h1 => absurd h1 (by rw [show c = hmn (typ D (avr D j (nam (nth (D.md j).2.2 k)))) by omega]; exact Int32.lt_irrefl)) (fun h1 => ?_)
    refine mw_sub (L' := [(3, .inl (nI k)), (2, .inr (.inr (some (D.ip j)))), (1, .inl (nI j)), (0, .inr (.inr (some 169)))]) (by simp) ?_
    exact hnx _ hv hw hf
  | m_ + 1, c, H, hm_, hv, hw, hf => by
    have b5 := hb.2.2.1
    obtain ⟨om1, ⟨om0_1, om1_1⟩, ol1, on1, oc1, oj1⟩ := hv.1.mod
    obtain ⟨⟨pa2, pb2, pc2⟩, ⟨pd2, pe2, pf2⟩, pg2, ph2, pi2⟩ := hv.1.row (k := 1) (by decide)
    obtain ⟨q3, qr4, qn4⟩ := pf2 (avr D j (nam (nth (D.md j).2.2 k))) hvl
    obtain ⟨ra4, rb4, rc4, rd4⟩ := ar_at (i := (avr D j (nam (nth (D.md j).2.2 k)))) pd2 (by decide) (by omega) (by omega)
    have re4 : mu_r H (D.loc 3) (nI (avr D j (nam (nth (D.md j).2.2 k)))).toNatClampNeg = some q3 := by rw [rd4]; exact qr4
    have ty4 := hy (avr D j (nam (nth (D.md j).2.2 k))) hvl
    have hq4 := hmI_n ty4.1 (hmd (avr D j (nam (nth (D.md j).2.2 k))) hvl) ty4.2 (qn4.s26 (c := typ D (avr D j (nam (nth (D.md j).2.2 k)))))
    have kt : c < hmn (typ D (avr D j (nam (nth (D.md j).2.2 k)))) := by omega
    refine mw_go mu_g430 (k := 4) (f1 := (153, [(6, .inl (nI c)), (5, .inl (nI (avr D j (nam (nth (D.md j).2.2 k))))), (4, .inr (.inr (some p))), (3, .inl (nI k)), (2, .inr (.inr (some (D.ip j)))), (1, .inl (nI j)), (0, .inr (.inr (some 169)))], [.inr (.inr (mu_r H 169 18)), .inr (.inr (some 169)), .inl (nI c)], H)) (C := [mu_is H (some 169) 1]) rfl (show mu_is H (some 169) 1 from hv.1.2.2.1.1) ?_
    refine mw_fr (f' := (153, [(6, .inl (nI c)), (5, .inl (nI (avr D j (nam (nth (D.md j).2.2 k))))), (4, .inr (.inr (some p))), (3, .inl (nI k)), (2, .inr (.inr (some (D.ip j)))), (1, .inl (nI j)), (0, .inr (.inr (some 169)))], [.inr (.inr (some D.mp)), .inr (.inr (some 169)), .inl (nI c)], H)) (by first | (rw [hv.1.2.2.1.2]; done) | (rw [hv.1.2.2.1.2]; rfl)) ?_
    refine mw_go mu_g430 (k := 1) (f1 := (156, [(6, .inl (nI c)), (5, .inl (nI (avr D j (nam (nth (D.md j).2.2 k))))), (4, .inr (.inr (some p))), (3, .inl (nI k)), (2, .inr (.inr (some (D.ip j)))), (1, .inl (nI j)), (0, .inr (.inr (some 169)))], [.inr (.inr (mu_r H D.mp 4)), .inr (.inr (some 169)), .inl (nI c)], H)) (C := [mu_is H (some D.mp) 16]) rfl (show mu_is H (some D.mp) 16 from om1) ?_
    refine mw_fr (f' := (156, [(6, .inl (nI c)), (5, .inl (nI (avr D j (nam (nth (D.md j).2.2 k))))), (4, .inr (.inr (some p))), (3, .inl (nI k)), (2, .inr (.inr (some (D.ip j)))), (1, .inl (nI j)), (0, .inr (.inr (some 169)))], [.inr (.inr (some (D.loc 3))), .inr (.inr (some 169)), .inl (nI c)], H)) (by first | (rw [(show mu_r H D.mp 4 = some (D.loc 3) from pa2)]; done) | (rw [(show mu_r H D.mp 4 = some (D.loc 3) from pa2)]; rfl)) ?_
    refine mw_go mu_g430 (k := 2) (f1 := (159, [(6, .inl (nI c)), (5, .inl (nI (avr D j (nam (nth (D.md j).2.2 k))))), (4, .inr (.inr (some p))), (3, .inl (nI k)), (2, .inr (.inr (some (D.ip j)))), (1, .inl (nI j)), (0, .inr (.inr (some 169)))], [.inr (.inr (mu_r H (D.loc 3) (nI (avr D j (nam (nth (D.md j).2.2 k)))).toNatClampNeg)), .inr (.inr (some 169)), .inl (nI c)], H)) (C := [mu_is H (some (D.loc 3)) (mu_k H (D.loc 3)), 103 ≤ mu_k H (D.loc 3) ∧ mu_k H (D.loc 3) ≤ 110 ∧ mu_k H (D.loc 3) ≠ 108, vp_in (nI (avr D j (nam (nth (D.md j).2.2 k)))) (mu_n H (D.loc 3))]) rfl (show (mu_is H (some (D.loc 3)) (mu_k H (D.loc 3))) ∧ (103 ≤ mu_k H (D.loc 3) ∧ mu_k H (D.loc 3) ≤ 110 ∧ mu_k H (D.loc 3) ≠ 108) ∧ (vp_in (nI (avr D j (nam (nth (D.md j).2.2 k)))) (mu_n H (D.loc 3))) from ⟨ra4, rb4, rc4⟩) ?_
    refine mw_fr (f' := (159, [(6, .inl (nI c)), (5, .inl (nI (avr D j (nam (nth (D.md j).2.2 k))))), (4, .inr (.inr (some p))), (3, .inl (nI k)), (2, .inr (.inr (some (D.ip j)))), (1, .inl (nI j)), (0, .inr (.inr (some 169)))], [.inr (.inr (some q3)), .inr (.inr (some 169)), .inl (nI c)], H)) (by first | (rw [re4]; done) | (rw [re4]; rfl)) ?_
    refine mw_cIe (fun _ => rfl) (show mu_is H (some 169) 1 from hv.1.2.2.1.1) (rp_howMany (d := f + 905) (c := typ D (avr D j (nam (nth (D.md j).2.2 k)))) qn4 hv.1.2.1 ty4.1) ?_
    refine mw_fr (f' := (162, [(6, .inl (nI c)), (5, .inl (nI (avr D j (nam (nth (D.md j).2.2 k))))), (4, .inr (.inr (some p))), (3, .inl (nI k)), (2, .inr (.inr (some (D.ip j)))), (1, .inl (nI j)), (0, .inr (.inr (some 169)))], [.inl (nI (hmn (typ D (avr D j (nam (nth (D.md j).2.2 k)))))), .inl (nI c)], H)) (by rw [hq4.1]) ?_
    refine mw_if (P := (nI c) < (nI (hmn (typ D (avr D j (nam (nth (D.md j).2.2 k))))))) (a := 165) (b := 201) (fun _ => rfl) trivial (fun h1 => ?_) (fun h1 => absurd (nI_lt kt (by omega)) h1)
    obtain ⟨z, mz5, mi5, ml5⟩ := hw.2 (avr D j (nam (nth (D.md j).2.2 k))) hvl
    obtain ⟨ma5, mb5, mc5, md5⟩ := ar_at (i := (avr D j (nam (nth (D.md j).2.2 k)))) (H := H) (r := mm) (k := 105) ⟨rfl, hw.1.2.1.2.1, hw.1.2.2.2.1⟩ (by decide) (Nat.lt_of_lt_of_le hvl hw.1.2.2.2.2.1) hw.1.2.2.2.2.2
    have me5 : mu_r H mm (nI (avr D j (nam (nth (D.md j).2.2 k)))).toNatClampNeg = some z := by rw [md5]; exact mz5
    obtain ⟨kd6, ⟨is6, nF6, lt6⟩, ⟨st6, sr6, sf6⟩, ⟨n2_6, n3_6, n7_6⟩, nm6, ar6, aq6, aF6, ai6, ⟨al6, am6, ax6⟩, ch6, dp6⟩ := nd.ra (c := (nth (D.md j).2.2 k)) hpn hv.1.2.1
    obtain ⟨y, yr7, yn7⟩ := ch6 0 hp1
    have yn7 : nd Hb D.G (ddp - 1) y (tkk (nth (D.md j).2.2 k) 0) := yn7
    obtain ⟨b1_7, b2_7, b3_7, b4_7⟩ := ar_at ai6 (by decide) (Nat.lt_of_lt_of_le hp1 al6) (Nat.lt_of_le_of_lt ax6 (by decide))
    have y2_7 : mu_r H ar6 (0 : Int32).toNatClampNeg = some y := yr7
    refine mw_go mu_g430 (k := 2) (f1 := (169, [(6, .inl (nI c)), (5, .inl (nI (avr D j (nam (nth (D.md j).2.2 k))))), (4, .inr (.inr (some p))), (3, .inl (nI k)), (2, .inr (.inr (some (D.ip j)))), (1, .inl (nI j)), (0, .inr (.inr (some 169)))], [.inr (.inr (mu_r H 169 49))], H)) (C := [mu_is H (some 169) 1]) rfl (show mu_is H (some 169) 1 from hv.1.2.2.1.1) ?_
    refine mw_fr (f' := (169, [(6, .inl (nI c)), (5, .inl (nI (avr D j (nam (nth (D.md j).2.2 k))))), (4, .inr (.inr (some p))), (3, .inl (nI k)), (2, .inr (.inr (some (D.ip j)))), (1, .inl (nI j)), (0, .inr (.inr (some 169)))], [.inr (.inr (some mm))], H)) (by first | (rw [hw.1.1]; done) | (rw [hw.1.1]; rfl)) ?_
    refine mw_go mu_g430 (k := 2) (f1 := (172, [(6, .inl (nI c)), (5, .inl (nI (avr D j (nam (nth (D.md j).2.2 k))))), (4, .inr (.inr (some p))), (3, .inl (nI k)), (2, .inr (.inr (some (D.ip j)))), (1, .inl (nI j)), (0, .inr (.inr (some 169)))], [.inr (.inr (mu_r H mm (nI (avr D j (nam (nth (D.md j).2.2 k)))).toNatClampNeg))], H)) (C := [mu_is H (some mm) (mu_k H mm), 103 ≤ mu_k H mm ∧ mu_k H mm ≤ 110 ∧ mu_k H mm ≠ 108, vp_in (nI (avr D j (nam (nth (D.md j).2.2 k)))) (mu_n H mm)]) rfl (show (mu_is H (some mm) (mu_k H mm)) ∧ (103 ≤ mu_k H mm ∧ mu_k H mm ≤ 110 ∧ mu_k H mm ≠ 108) ∧ (vp_in (nI (avr D j (nam (nth (D.md j).2.2 k)))) (mu_n H mm)) from ⟨ma5, mb5, mc5⟩) ?_
    refine mw_fr (f' := (172, [(6, .inl (nI c)), (5, .inl (nI (avr D j (nam (nth (D.md j).2.2 k))))), (4, .inr (.inr (some p))), (3, .inl (nI k)), (2, .inr (.inr (some (D.ip j)))), (1, .inl (nI j)), (0, .inr (.inr (some 169)))], [.inr (.inr (some z))], H)) (by first | (rw [me5]; done) | (rw [me5]; rfl)) ?_
    refine mw_go mu_g430 (k := 4) (f1 := (180, [(6, .inl (nI c)), (5, .inl (nI (avr D j (nam (nth (D.md j).2.2 k))))), (4, .inr (.inr (some p))), (3, .inl (nI k)), (2, .inr (.inr (some (D.ip j)))), (1, .inl (nI j)), (0, .inr (.inr (some 169)))], [.inr (.inr (mu_r H p 1)), .inr (.inr (some 169)), .inl (nI c), .inr (.inr (some z))], H)) (C := [mu_is H (some p) 18]) rfl (show mu_is H (some p) 18 from is6) ?_
    refine mw_fr (f' := (180, [(6, .inl (nI c)), (5, .inl (nI (avr D j (nam (nth (D.md j).2.2 k))))), (4, .inr (.inr (some p))), (3, .inl (nI k)), (2, .inr (.inr (some (D.ip j)))), (1, .inl (nI j)), (0, .inr (.inr (some 169)))], [.inr (.inr (some ar6)), .inr (.inr (some 169)), .inl (nI c), .inr (.inr (some z))], H)) (by first | (rw [aq6]; done) | (rw [aq6]; rfl)) ?_
    refine mw_go mu_g430 (k := 2) (f1 := (182, [(6, .inl (nI c)), (5, .inl (nI (avr D j (nam (nth (D.md j).2.2 k))))), (4, .inr (.inr (some p))), (3, .inl (nI k)), (2, .inr (.inr (some (D.ip j)))), (1, .inl (nI j)), (0, .inr (.inr (some 169)))], [.inr (.inr (mu_r H ar6 (0 : Int32).toNatClampNeg)), .inr (.inr (some 169)), .inl (nI c), .inr (.inr (some z))], H)) (C := [mu_is H (some ar6) (mu_k H ar6), 103 ≤ mu_k H ar6 ∧ mu_k H ar6 ≤ 110 ∧ mu_k H ar6 ≠ 108, vp_in (0 : Int32) (mu_n H ar6)]) rfl (show (mu_is H (some ar6) (mu_k H ar6)) ∧ (103 ≤ mu_k H ar6 ∧ mu_k H ar6 ≤ 110 ∧ mu_k H ar6 ≠ 108) ∧ (vp_in (0 : Int32) (mu_n H ar6)) from ⟨b1_7, b2_7, b3_7⟩) ?_
    refine mw_fr (f' := (182, [(6, .inl (nI c)), (5, .inl (nI (avr D j (nam (nth (D.md j).2.2 k))))), (4, .inr (.inr (some p))), (3, .inl (nI k)), (2, .inr (.inr (some (D.ip j)))), (1, .inl (nI j)), (0, .inr (.inr (some 169)))], [.inr (.inr (some y)), .inr (.inr (some 169)), .inl (nI c), .inr (.inr (some z))], H)) (by first | (rw [y2_7]; done) | (rw [y2_7]; rfl)) ?_
    refine mw_go mu_g430 (k := 4) (f1 := (188, [(6, .inl (nI c)), (5, .inl (nI (avr D j (nam (nth (D.md j).2.2 k))))), (4, .inr (.inr (some p))), (3, .inl (nI k)), (2, .inr (.inr (some (D.ip j)))), (1, .inl (nI j)), (0, .inr (.inr (some 169)))], [.inl (nI c), .inl (nI (avr D j (nam (nth (D.md j).2.2 k)))), .inr (.inr (some 169)), .inr (.inr (some (D.ip j))), .inr (.inr (some y)), .inr (.inr (some 169)), .inl (nI c), .inr (.inr (some z))], H)) (C := []) rfl trivial ?_
    refine mw_cI (fun _ => rfl) (show mu_is H (some 169) 1 from hv.1.2.2.1.1) (rp_valueAt (d := f + 905) hb hy hv.1 hvl kt) (fun x9 H9 q9 => ?_)
    rw [q9]
    show mu_W _ mu_m430 (191, [(6, .inl (nI c)), (5, .inl (nI (avr D j (nam (nth (D.md j).2.2 k))))), (4, .inr (.inr (some p))), (3, .inl (nI k)), (2, .inr (.inr (some (D.ip j)))), (1, .inl (nI j)), (0, .inr (.inr (some 169)))], [.inl x9, .inr (.inr (some (D.ip j))), .inr (.inr (some y)), .inr (.inr (some 169)), .inl (nI c), .inr (.inr (some z))], H) _
    refine mw_cI (fun _ => rfl) (show mu_is H (some 169) 1 from hv.1.2.2.1.1) (rp_chosen hj hval 905 _ _ _ _ _ hv yn7 hcc) (fun x8 H8 q8 => ?_)
    obtain ⟨hz8, hv8, hf8⟩ := q8
    obtain ⟨mw8, mk8⟩ := hw.vk hv hf8
    obtain ⟨z2, y1, y2, y3⟩ := mw8.2 (avr D j (nam (nth (D.md j).2.2 k))) hvl
    have ez : z2 = z := Option.some.inj (y1.symm.trans ((mk8.2 _ hvl).trans mz5))
    subst ez
    have mi99 := y2
    have ml99 := y3
    have mz99 := y1
    refine mw_ast8 rfl mi99.1 (by show vp_in (nI c) (mu_n H8 z2); exact vp_in_nI (Nat.lt_of_lt_of_le kt ml99.1) ml99.2) (hz8) ?_
    refine mw_fr (f' := (195, [(6, .inl (nI c)), (5, .inl (nI (avr D j (nam (nth (D.md j).2.2 k))))), (4, .inr (.inr (some p))), (3, .inl (nI k)), (2, .inr (.inr (some (D.ip j)))), (1, .inl (nI j)), (0, .inr (.inr (some 169)))], [], (mu_si H8 z2 c x8))) (by rw [show mu_p (some z2) = z2 from rfl, nI_clamp (show c < 2 ^ 31 by omega)]) ?_
    obtain ⟨w1_9, w2_9⟩ := mw8.wz (z := z2) (j := c) (x := x8) hv8 mi99
    have w3_9 := (hf.tr2 mk8).wz (z := z2) (j := c) (x := x8) hvl mz99 (gndl9 mi99.2.1)
    obtain ⟨K9, eK9⟩ : ∃ K, K = (mu_si H8 z2 c x8) := ⟨_, rfl⟩
    rw [← eK9] at w1_9 w2_9 w3_9 ⊢
    clear eK9
    refine mw_go mu_g430 (k := 2) (f1 := (146, [(6, .inl ((nI c) + 1)), (5, .inl (nI (avr D j (nam (nth (D.md j).2.2 k))))), (4, .inr (.inr (some p))), (3, .inl (nI k)), (2, .inr (.inr (some (D.ip j)))), (1, .inl (nI j)), (0, .inr (.inr (some 169)))], [], K9)) (C := []) rfl trivial ?_
    refine mw_sub (L' := [(6, .inl (nI (c + 1))), (5, .inl (nI (avr D j (nam (nth (D.md j).2.2 k))))), (4, .inr (.inr (some p))), (3, .inl (nI k)), (2, .inr (.inr (some (D.ip j)))), (1, .inl (nI j)), (0, .inr (.inr (some 169)))]) (by intro x hx; simp only [List.mem_cons, List.not_mem_nil, or_false] at hx ⊢; rcases hx with rfl | rfl | rfl | rfl | rfl | rfl | rfl <;> first | (simp [nI_add, show (1 : Int32) = nI 1 from rfl]; done) | simp [nI]) ?_
    exact rp_mk3 hb hy hmd hj hk hval hpn hp1 hvl hcc hnx m_ (c + 1) _ (by omega) w2_9 w1_9 w3_9
