/-! The reference: decode, enter -/
/-- PathProverModel.decode(I[I)V -/
abbrev mu_m427 : ev_M := (5, none, [], ev_b427)
theorem mu_g427 : mu_good mu_m427 := mu_goodk ev_k427
/-- PathProverModel.enter(I)V -/
abbrev mu_m410 : ev_M := (2, none, [], ev_b410)
theorem mu_g410 : mu_good mu_m410 := mu_goodk ev_k410
/-- a row holds places of values -/
def hrg (D : MD) (H : mu_H) (p : Nat) : Prop := ∀ v, v < (D.pr 1).length → ∃ k, k < hmn (typ D v) ∧ mu_i H p v = nI k
/-- the ints of the row p are written -/
def dfr (p : Nat) (H H1 : mu_H) : Prop := rfr [] [] (fun q => q = p) 0 0 H H1 ∧ mu_n H1 p = mu_n H p ∧ mu_k H1 p = mu_k H p
section Dfr
variable {p f k N : Nat} {H H1 H2 : mu_H} {G : Nat → Prop} {D : MD} {Hb : mu_H} {x : Int32} {j : Nat}
theorem dfr.rf : dfr p H H := ⟨rfr.rf, rfl, rfl⟩
theorem dfr.tr2 (h1 : dfr p H H1) (h2 : dfr p H1 H2) : dfr p H H2 := ⟨rfr.tr h1.1 h2.1 (fun k z => z.elim id id) (fun k z => z.elim id id) (fun q _ z => z.elim id id), h2.2.1.trans h1.2.1, h2.2.2.trans h1.2.2⟩
theorem dfr.si (h : dfr p H H1) (h9 : p ≠ 169) : dfr p H (mu_si H1 p j x) := ⟨rfr.siW h.1 ⟨rfl, h9⟩, h.2.1, h.2.2⟩
theorem dfr.oar {g q M : Nat} (h : dfr p H H1) (ho : oar H G g k q M) : oar H1 G g k q M := by
  by_cases e : q = p
  · subst e
    obtain ⟨h1, ⟨h2, h3, h4⟩, h5, h6, h7⟩ := ho
    exact ⟨(h.1.2.2.1 g (List.not_mem_nil)).trans h1, ⟨h2, Nat.lt_of_lt_of_le h3 h.1.1.1, h4⟩, h5, h.2.2.trans h6, by rw [h.2.1]; exact h7⟩
  · exact (ho.fr h.1 (List.not_mem_nil)).resolve_right e
theorem dfr.hrg {q : Nat} (h : dfr p H H1) (hq : hrg D H q) (hne : q ≠ p) (hz : q < mu_z H) (h9 : q ≠ 169) : ∀ v, v < (D.pr 1).length → ∃ k, k < hmn (typ D v) ∧ mu_i H1 q v = nI k := fun v hv => by
  rw [h.1.1.i (Or.inl hz) (fun z => z.elim h9 hne) v]
  exact hq v hv
end Dfr
theorem rp_dec0 {Hb H0 : mu_H} {D : MD} {d g p : Nat} {x : Int32} (hb : mdb D) (hy : mdy D) (hmd : mdn D) : ∀ m r H, m ≤ (D.pr 1).length → r < 2147483648 → rms Hb D H → oar H D.G g 100 p (D.pr 1).length → dfr p H0 H → (∀ v, m ≤ v → v < (D.pr 1).length → ∃ k, k < hmn (typ D v) ∧ mu_i H p v = nI k) → mu_W (mu_D (d + 4)) mu_m427 (13, [(4, .inl (pI m)), (3, .inl (nI r)), (2, .inr (.inr (some p))), (1, .inl x), (0, .inr (.inr (some 169)))], [], H) (fun r => ∃ H1, r = (.inl none, H1) ∧ rms Hb D H1 ∧ hrg D H1 p ∧ dfr p H0 H1)
  | 0, r, H, hm_, hr31, hr, ho, hf, hd => by
    show mu_W _ _ (13, [(4, .inl (-1 : Int32)), (3, .inl (nI r)), (2, .inr (.inr (some p))), (1, .inl x), (0, .inr (.inr (some 169)))], [], H) _
    refine mw_go mu_g427 (k := 1) (f1 := (15, [(4, .inl (-1 : Int32)), (3, .inl (nI r)), (2, .inr (.inr (some p))), (1, .inl x), (0, .inr (.inr (some 169)))], [.inl (-1 : Int32)], H)) (C := []) rfl trivial ?_
    refine mw_if (P := (-1 : Int32) < 0) (a := 61) (b := 18) (fun _ => rfl) trivial (fun h1 => ?_) (fun h1 => absurd (show (-1 : Int32) < 0 by decide) h1)
    exact mw_of (fun _ => mu_ret rfl trivial ⟨_, rfl, hr, (fun v hv => hd v (Nat.zero_le _) hv), hf⟩)
  | m + 1, r, H, hm_, hr31, hr, ho, hf, hd => by
    show mu_W _ _ (13, [(4, .inl (nI m)), (3, .inl (nI r)), (2, .inr (.inr (some p))), (1, .inl x), (0, .inr (.inr (some 169)))], [], H) _
    have b5 := hb.2.2.1
    have hm : m < (D.pr 1).length := by omega
    have ty := hy m hm
    obtain ⟨om1, ⟨om0_1, om1_1⟩, ol1, on1, oc1, oj1⟩ := hr.mod
    obtain ⟨⟨pa2, pb2, pc2⟩, ⟨pd2, pe2, pf2⟩, pg2, ph2, pi2⟩ := hr.row (k := 1) (by decide)
    obtain ⟨q3, qr4, qn4⟩ := pf2 m hm
    obtain ⟨ra4, rb4, rc4, rd4⟩ := ar_at (i := m) pd2 (by decide) (by omega) (by omega)
    have re4 : mu_r H (D.loc 3) (nI m).toNatClampNeg = some q3 := by rw [rd4]; exact qr4
    have hq := hmI_n ty.1 (hmd m hm) ty.2 (qn4.s26 (c := typ D m))
    have em := rI_mod (a := r) (b := hmn (typ D m)) (by omega) (by omega)
    have ed := rI_div (a := r) (b := hmn (typ D m)) (by omega) (by omega)
    have hz : ¬ nI (hmn (typ D m)) = 0 := fun z => by have w9 := nI_is (j := 0) (x := (0 : Int32)) (by omega) z (by decide); omega
    have ml : r % hmn (typ D m) < hmn (typ D m) := Nat.mod_lt _ (by omega)
    have rl : r / hmn (typ D m) ≤ r := Nat.div_le_self _ _
    refine mw_go mu_g427 (k := 1) (f1 := (15, [(4, .inl (nI m)), (3, .inl (nI r)), (2, .inr (.inr (some p))), (1, .inl x), (0, .inr (.inr (some 169)))], [.inl (nI m)], H)) (C := []) rfl trivial ?_
    refine mw_if (P := (nI m) < 0) (a := 61) (b := 18) (fun _ => rfl) trivial (fun h1 => absurd h1 (nI_nn (by omega))) (fun h1 => ?_)
    refine mw_go mu_g427 (k := 6) (f1 := (27, [(4, .inl (nI m)), (3, .inl (nI r)), (2, .inr (.inr (some p))), (1, .inl x), (0, .inr (.inr (some 169)))], [.inr (.inr (mu_r H 169 18)), .inr (.inr (some 169)), .inl (nI r), .inl (nI m), .inr (.inr (some p))], H)) (C := [mu_is H (some 169) 1]) rfl (show mu_is H (some 169) 1 from hr.2.2.1.1) ?_
    refine mw_fr (f' := (27, [(4, .inl (nI m)), (3, .inl (nI r)), (2, .inr (.inr (some p))), (1, .inl x), (0, .inr (.inr (some 169)))], [.inr (.inr (some D.mp)), .inr (.inr (some 169)), .inl (nI r), .inl (nI m), .inr (.inr (some p))], H)) (by first | (rw [hr.2.2.1.2]; done) | (rw [hr.2.2.1.2]; rfl)) ?_
    refine mw_go mu_g427 (k := 1) (f1 := (30, [(4, .inl (nI m)), (3, .inl (nI r)), (2, .inr (.inr (some p))), (1, .inl x), (0, .inr (.inr (some 169)))], [.inr (.inr (mu_r H D.mp 4)), .inr (.inr (some 169)), .inl (nI r), .inl (nI m), .inr (.inr (some p))], H)) (C := [mu_is H (some D.mp) 16]) rfl (show mu_is H (some D.mp) 16 from om1) ?_
    refine mw_fr (f' := (30, [(4, .inl (nI m)), (3, .inl (nI r)), (2, .inr (.inr (some p))), (1, .inl x), (0, .inr (.inr (some 169)))], [.inr (.inr (some (D.loc 3))), .inr (.inr (some 169)), .inl (nI r), .inl (nI m), .inr (.inr (some p))], H)) (by first | (rw [(show mu_r H D.mp 4 = some (D.loc 3) from pa2)]; done) | (rw [(show mu_r H D.mp 4 = some (D.loc 3) from pa2)]; rfl)) ?_
    refine mw_go mu_g427 (k := 2) (f1 := (33, [(4, .inl (nI m)), (3, .inl (nI r)), (2, .inr (.inr (some p))), (1, .inl x), (0, .inr (.inr (some 169)))], [.inr (.inr (mu_r H (D.loc 3) (nI m).toNatClampNeg)), .inr (.inr (some 169)), .inl (nI r), .inl (nI m), .inr (.inr (some p))], H)) (C := [mu_is H (some (D.loc 3)) (mu_k H (D.loc 3)), 103 ≤ mu_k H (D.loc 3) ∧ mu_k H (D.loc 3) ≤ 110 ∧ mu_k H (D.loc 3) ≠ 108, vp_in (nI m) (mu_n H (D.loc 3))]) rfl (show (mu_is H (some (D.loc 3)) (mu_k H (D.loc 3))) ∧ (103 ≤ mu_k H (D.loc 3) ∧ mu_k H (D.loc 3) ≤ 110 ∧ mu_k H (D.loc 3) ≠ 108) ∧ (vp_in (nI m) (mu_n H (D.loc 3))) from ⟨ra4, rb4, rc4⟩) ?_
    refine mw_fr (f' := (33, [(4, .inl (nI m)), (3, .inl (nI r)), (2, .inr (.inr (some p))), (1, .inl x), (0, .inr (.inr (some 169)))], [.inr (.inr (some q3)), .inr (.inr (some 169)), .inl (nI r), .inl (nI m), .inr (.inr (some p))], H)) (by first | (rw [re4]; done) | (rw [re4]; rfl)) ?_
    refine mw_cIe (fun _ => rfl) (show mu_is H (some 169) 1 from hr.2.2.1.1) (rp_howMany (d := d) (c := typ D m) qn4 hr.2.1 ty.1) ?_
    refine mw_fr (f' := (36, [(4, .inl (nI m)), (3, .inl (nI r)), (2, .inr (.inr (some p))), (1, .inl x), (0, .inr (.inr (some 169)))], [.inl (nI (hmn (typ D m))), .inl (nI r), .inl (nI m), .inr (.inr (some p))], H)) (by rw [hq.1]) ?_
    refine mw_go mu_g427 (k := 1) (f1 := (37, [(4, .inl (nI m)), (3, .inl (nI r)), (2, .inr (.inr (some p))), (1, .inl x), (0, .inr (.inr (some 169)))], [.inl ((nI r) - (nI r) / (nI (hmn (typ D m))) * (nI (hmn (typ D m)))), .inl (nI m), .inr (.inr (some p))], H)) (C := [¬ (nI (hmn (typ D m))) = 0]) rfl (show ¬ (nI (hmn (typ D m))) = 0 from hz) ?_
    refine mw_fr (f' := (37, [(4, .inl (nI m)), (3, .inl (nI r)), (2, .inr (.inr (some p))), (1, .inl x), (0, .inr (.inr (some 169)))], [.inl (nI (r % hmn (typ D m))), .inl (nI m), .inr (.inr (some p))], H)) (by first | (rw [em]; done) | (rw [em]; rfl)) ?_
    refine mw_go mu_g427 (k := 1) (f1 := (38, [(4, .inl (nI m)), (3, .inl (nI r)), (2, .inr (.inr (some p))), (1, .inl x), (0, .inr (.inr (some 169)))], [], (mu_si H p (nI m).toNatClampNeg (nI (r % hmn (typ D m)))))) (C := [mu_is H (some p) 100, vp_in (nI m) (mu_n H p)]) rfl (show (mu_is H (some p) 100) ∧ (vp_in (nI m) (mu_n H p)) from ⟨⟨rfl, ho.2.1.2.1, ho.2.2.2.1⟩, (vp_in_nI (Nat.lt_of_lt_of_le hm ho.2.2.2.2.1) ho.2.2.2.2.2)⟩) ?_
    refine mw_fr (f' := (38, [(4, .inl (nI m)), (3, .inl (nI r)), (2, .inr (.inr (some p))), (1, .inl x), (0, .inr (.inr (some 169)))], [], (mu_si H p m (nI (r % hmn (typ D m)))))) (by rw [nI_clamp (show m < 2 ^ 31 by omega)]) ?_
    have n9 := gndl9 ho.2.1.1
    have hr2 := hr.siW (p := p) (j := m) (v := nI (r % hmn (typ D m))) ⟨ho.2.2.1, ho.2.1.2.2, n9⟩
    have ho2 : oar (mu_si H p m (nI (r % hmn (typ D m)))) D.G g 100 p (D.pr 1).length := ho
    have hf2 := hf.si (j := m) (x := nI (r % hmn (typ D m))) n9
    have hd2 : ∀ v, m ≤ v → v < (D.pr 1).length → ∃ k, k < hmn (typ D v) ∧ mu_i (mu_si H p m (nI (r % hmn (typ D m)))) p v = nI k := fun v hv1 hv2 => by
      rw [mu_i_si]
      by_cases e : v = m
      · subst e; rw [if_pos ⟨rfl, rfl⟩]; exact ⟨_, ml, rfl⟩
      · rw [if_neg (fun z => e z.2)]; exact hd v (by omega) hv2
    obtain ⟨K, eK⟩ : ∃ K, K = (mu_si H p m (nI (r % hmn (typ D m)))) := ⟨_, rfl⟩
    rw [← eK] at hr2 ho2 hf2 hd2 ⊢
    clear eK
    obtain ⟨om5, ⟨om0_5, om1_5⟩, ol5, on5, oc5, oj5⟩ := hr2.mod
    obtain ⟨⟨pa6, pb6, pc6⟩, ⟨pd6, pe6, pf6⟩, pg6, ph6, pi6⟩ := hr2.row (k := 1) (by decide)
    obtain ⟨q7, qr8, qn8⟩ := pf6 m hm
    obtain ⟨ra8, rb8, rc8, rd8⟩ := ar_at (i := m) pd6 (by decide) (by omega) (by omega)
    have re8 : mu_r K (D.loc 3) (nI m).toNatClampNeg = some q7 := by rw [rd8]; exact qr8
    refine mw_go mu_g427 (k := 4) (f1 := (44, [(4, .inl (nI m)), (3, .inl (nI r)), (2, .inr (.inr (some p))), (1, .inl x), (0, .inr (.inr (some 169)))], [.inr (.inr (mu_r K 169 18)), .inr (.inr (some 169)), .inl (nI r)], K)) (C := [mu_is K (some 169) 1]) rfl (show mu_is K (some 169) 1 from hr2.2.2.1.1) ?_
    refine mw_fr (f' := (44, [(4, .inl (nI m)), (3, .inl (nI r)), (2, .inr (.inr (some p))), (1, .inl x), (0, .inr (.inr (some 169)))], [.inr (.inr (some D.mp)), .inr (.inr (some 169)), .inl (nI r)], K)) (by first | (rw [hr2.2.2.1.2]; done) | (rw [hr2.2.2.1.2]; rfl)) ?_
    refine mw_go mu_g427 (k := 1) (f1 := (47, [(4, .inl (nI m)), (3, .inl (nI r)), (2, .inr (.inr (some p))), (1, .inl x), (0, .inr (.inr (some 169)))], [.inr (.inr (mu_r K D.mp 4)), .inr (.inr (some 169)), .inl (nI r)], K)) (C := [mu_is K (some D.mp) 16]) rfl (show mu_is K (some D.mp) 16 from om5) ?_
    refine mw_fr (f' := (47, [(4, .inl (nI m)), (3, .inl (nI r)), (2, .inr (.inr (some p))), (1, .inl x), (0, .inr (.inr (some 169)))], [.inr (.inr (some (D.loc 3))), .inr (.inr (some 169)), .inl (nI r)], K)) (by first | (rw [(show mu_r K D.mp 4 = some (D.loc 3) from pa6)]; done) | (rw [(show mu_r K D.mp 4 = some (D.loc 3) from pa6)]; rfl)) ?_
    refine mw_go mu_g427 (k := 2) (f1 := (50, [(4, .inl (nI m)), (3, .inl (nI r)), (2, .inr (.inr (some p))), (1, .inl x), (0, .inr (.inr (some 169)))], [.inr (.inr (mu_r K (D.loc 3) (nI m).toNatClampNeg)), .inr (.inr (some 169)), .inl (nI r)], K)) (C := [mu_is K (some (D.loc 3)) (mu_k K (D.loc 3)), 103 ≤ mu_k K (D.loc 3) ∧ mu_k K (D.loc 3) ≤ 110 ∧ mu_k K (D.loc 3) ≠ 108, vp_in (nI m) (mu_n K (D.loc 3))]) rfl (show (mu_is K (some (D.loc 3)) (mu_k K (D.loc 3))) ∧ (103 ≤ mu_k K (D.loc 3) ∧ mu_k K (D.loc 3) ≤ 110 ∧ mu_k K (D.loc 3) ≠ 108) ∧ (vp_in (nI m) (mu_n K (D.loc 3))) from ⟨ra8, rb8, rc8⟩) ?_
    refine mw_fr (f' := (50, [(4, .inl (nI m)), (3, .inl (nI r)), (2, .inr (.inr (some p))), (1, .inl x), (0, .inr (.inr (some 169)))], [.inr (.inr (some q7)), .inr (.inr (some 169)), .inl (nI r)], K)) (by first | (rw [re8]; done) | (rw [re8]; rfl)) ?_
    refine mw_cIe (fun _ => rfl) (show mu_is K (some 169) 1 from hr2.2.2.1.1) (rp_howMany (d := d) (c := typ D m) qn8 hr2.2.1 ty.1) ?_
    refine mw_fr (f' := (53, [(4, .inl (nI m)), (3, .inl (nI r)), (2, .inr (.inr (some p))), (1, .inl x), (0, .inr (.inr (some 169)))], [.inl (nI (hmn (typ D m))), .inl (nI r)], K)) (by rw [hq.1]) ?_
    refine mw_go mu_g427 (k := 1) (f1 := (54, [(4, .inl (nI m)), (3, .inl (nI r)), (2, .inr (.inr (some p))), (1, .inl x), (0, .inr (.inr (some 169)))], [.inl ((nI r) / (nI (hmn (typ D m))))], K)) (C := [¬ (nI (hmn (typ D m))) = 0]) rfl (show ¬ (nI (hmn (typ D m))) = 0 from hz) ?_
    refine mw_fr (f' := (54, [(4, .inl (nI m)), (3, .inl (nI r)), (2, .inr (.inr (some p))), (1, .inl x), (0, .inr (.inr (some 169)))], [.inl (nI (r / hmn (typ D m)))], K)) (by first | (rw [ed]; done) | (rw [ed]; rfl)) ?_
    refine mw_go mu_g427 (k := 2) (f1 := (58, [(4, .inl ((nI m) + (-1))), (3, .inl (nI (r / hmn (typ D m)))), (2, .inr (.inr (some p))), (1, .inl x), (0, .inr (.inr (some 169)))], [], K)) (C := []) rfl trivial ?_
    refine mw_fr (f' := (58, [(4, .inl (pI m)), (3, .inl (nI (r / hmn (typ D m)))), (2, .inr (.inr (some p))), (1, .inl x), (0, .inr (.inr (some 169)))], [], K)) (by first | (rw [(pI_dec m)]; done) | (rw [(pI_dec m)]; rfl)) ?_
    refine mw_go mu_g427 (k := 1) (f1 := (13, [(4, .inl (pI m)), (3, .inl (nI (r / hmn (typ D m)))), (2, .inr (.inr (some p))), (1, .inl x), (0, .inr (.inr (some 169)))], [], K)) (C := []) rfl trivial ?_
    refine mw_sub (L' := [(4, .inl (pI m)), (3, .inl (nI (r / hmn (typ D m)))), (2, .inr (.inr (some p))), (1, .inl x), (0, .inr (.inr (some 169)))]) (by intro x hx; simp only [List.mem_cons, List.not_mem_nil, or_false] at hx ⊢; rcases hx with rfl | rfl | rfl | rfl | rfl <;> simp) ?_
    exact rp_dec0 hb hy hmd m _ _ (by omega) (by omega) hr2 ho2 hf2 hd2
theorem rp_decode {Hb H : mu_H} {D : MD} {d g p s : Nat} (hb : mdb D) (hy : mdy D) (hmd : mdn D) (hs : s < 2147483648) (hr : rms Hb D H) (ho : oar H D.G g 100 p (D.pr 1).length) : mu_TV (mu_D (d + 5)) 427 [.inr (.inr (some 169)), .inl (nI s), .inr (.inr (some p))] H (fun H1 => rms Hb D H1 ∧ hrg D H1 p ∧ dfr p H H1) := by
  refine mu_meth (M := mu_m427) rfl rfl ?_
  refine mw_ht (mu_fn_of (show [0, 1, 2].Nodup by decide)) ?_
  obtain ⟨om1, ⟨om0_1, om1_1⟩, ol1, on1, oc1, oj1⟩ := hr.mod
  obtain ⟨⟨pa2, pb2, pc2⟩, ⟨pd2, pe2, pf2⟩, pg2, ph2, pi2⟩ := hr.row (k := 1) (by decide)
  refine mw_go mu_g427 (k := 4) (f1 := (6, [(3, .inl (nI s)), (0, .inr (.inr (some 169))), (1, .inl (nI s)), (2, .inr (.inr (some p)))], [.inr (.inr (mu_r H 169 18))], H)) (C := [mu_is H (some 169) 1]) rfl (show mu_is H (some 169) 1 from hr.2.2.1.1) ?_
  refine mw_fr (f' := (6, [(3, .inl (nI s)), (0, .inr (.inr (some 169))), (1, .inl (nI s)), (2, .inr (.inr (some p)))], [.inr (.inr (some D.mp))], H)) (by first | (rw [hr.2.2.1.2]; done) | (rw [hr.2.2.1.2]; rfl)) ?_
  refine mw_go mu_g427 (k := 1) (f1 := (9, [(3, .inl (nI s)), (0, .inr (.inr (some 169))), (1, .inl (nI s)), (2, .inr (.inr (some p)))], [.inl (mu_i H D.mp 5)], H)) (C := [mu_is H (some D.mp) 16]) rfl (show mu_is H (some D.mp) 16 from om1) ?_
  refine mw_fr (f' := (9, [(3, .inl (nI s)), (0, .inr (.inr (some 169))), (1, .inl (nI s)), (2, .inr (.inr (some p)))], [.inl (nI (D.pr 1).length)], H)) (by first | (rw [(show mu_i H D.mp 5 = nI (D.pr 1).length from pc2)]; done) | (rw [(show mu_i H D.mp 5 = nI (D.pr 1).length from pc2)]; rfl)) ?_
  refine mw_go mu_g427 (k := 2) (f1 := (11, [(3, .inl (nI s)), (0, .inr (.inr (some 169))), (1, .inl (nI s)), (2, .inr (.inr (some p)))], [.inl ((nI (D.pr 1).length) - (1 : Int32))], H)) (C := []) rfl trivial ?_
  refine mw_fr (f' := (11, [(3, .inl (nI s)), (0, .inr (.inr (some 169))), (1, .inl (nI s)), (2, .inr (.inr (some p)))], [.inl (pI (D.pr 1).length)], H)) (by first | (rw [(pI_sub (D.pr 1).length)]; done) | (rw [(pI_sub (D.pr 1).length)]; rfl)) ?_
  refine mw_go mu_g427 (k := 1) (f1 := (13, [(4, .inl (pI (D.pr 1).length)), (3, .inl (nI s)), (0, .inr (.inr (some 169))), (1, .inl (nI s)), (2, .inr (.inr (some p)))], [], H)) (C := []) rfl trivial ?_
  refine mw_sub (L' := [(4, .inl (pI (D.pr 1).length)), (3, .inl (nI s)), (2, .inr (.inr (some p))), (1, .inl (nI s)), (0, .inr (.inr (some 169)))]) (by intro x hx; simp only [List.mem_cons, List.not_mem_nil, or_false] at hx ⊢; rcases hx with rfl | rfl | rfl | rfl | rfl <;> simp) ?_
  exact rp_dec0 (g := g) hb hy hmd (D.pr 1).length s _ (Nat.le_refl _) hs hr ho dfr.rf (fun v h1 h2 => absurd h2 (by omega))
/-- before a STATE is entered -/
def vst0 (tr : Prop) (Hb : mu_H) (D : MD) (ph pt pk pa : Nat) (H : mu_H) : Prop := rms Hb D H ∧ (oar H D.G 30 100 ph (D.pr 1).length ∧ oar H D.G 31 100 pt (D.pr 1).length ∧ oar H D.G 40 100 pk (D.pr 0).length ∧ oar H D.G 41 102 pa (D.pr 0).length) ∧ (ph ≠ pk ∧ pt ≠ pk ∧ ph ≠ pt) ∧ (tr → hrg D H pt)
theorem rfr.sl9 {Fi Fr : List Nat} {W : Nat → Prop} {a b j : Nat} {H0 H : mu_H} {y : Int64} (h : rfr Fi Fr W a b H0 H) : rfr Fi Fr W a b H0 (mu_sl H 169 j y) := ⟨h.1.sl (Or.inl (Or.inl rfl)), h.2⟩
theorem rms.sl9 {Hb H : mu_H} {D : MD} {j : Nat} {y : Int64} (h : rms Hb D H) : rms Hb D (mu_sl H 169 j y) := h.fr (Fi := []) (Fr := []) (W := fun _ => False) (rfr.sl9 rfr.rf) (fun _ z => z.elim) (List.not_mem_nil) ⟨List.not_mem_nil, List.not_mem_nil⟩
theorem rp_enter {tr : Prop} {Hb H : mu_H} {D : MD} {ph pt pk pa d s : Nat} (hb : mdb D) (hy : mdy D) (hmd : mdn D) (hs : s < 2147483648) (hv : vst0 tr Hb D ph pt pk pa H) : mu_TV (mu_D (d + 6)) 410 [.inr (.inr (some 169)), .inl (nI s)] H (fun H1 => vsta tr Hb D ph pt pk pa H1 ∧ dfr ph H H1) := by
  refine mu_meth (M := mu_m410) rfl rfl ?_
  refine mw_ht (mu_fn_of (show [0, 1].Nodup by decide)) ?_
  obtain ⟨v1, ⟨a1, a2, a3, a4⟩, v3, v4⟩ := hv
  refine mw_go mu_g410 (k := 4) (f1 := (6, [(0, .inr (.inr (some 169))), (1, .inl (nI s))], [.inr (.inr (mu_r H 169 30)), .inl (nI s), .inr (.inr (some 169))], H)) (C := [mu_is H (some 169) 1]) rfl (show mu_is H (some 169) 1 from v1.2.2.1.1) ?_
  refine mw_fr (f' := (6, [(0, .inr (.inr (some 169))), (1, .inl (nI s))], [.inr (.inr (some ph)), .inl (nI s), .inr (.inr (some 169))], H)) (by first | (rw [a1.1]; done) | (rw [a1.1]; rfl)) ?_
  refine mw_cV (fun _ => rfl) (show mu_is H (some 169) 1 from v1.2.2.1.1) (rp_decode (d := d) hb hy hmd hs v1 a1) (fun H9 q9 => ?_)
  obtain ⟨r1, g1, f1⟩ := q9
  refine mw_go mu_g410 (k := 6) (f1 := (19, [(0, .inr (.inr (some 169))), (1, .inl (nI s))], [], (mu_sl H9 169 42 ((mu_l H9 169 42) + (1 : Int64))))) (C := [mu_is H9 (some 169) 1, mu_is H9 (some 169) 1]) rfl (show (mu_is H9 (some 169) 1) ∧ (mu_is H9 (some 169) 1) from ⟨r1.2.2.1.1, r1.2.2.1.1⟩) ?_
  refine mw_of (fun _ => mu_ret rfl trivial ⟨_, rfl, ⟨r1.sl9, ⟨f1.oar a1, f1.oar a2, f1.oar a3, f1.oar a4⟩, ⟨v3.1, v3.2.1⟩, g1, fun tt => f1.hrg (v4 tt) (fun e => v3.2.2 e.symm) a2.2.1.2.1 (gndl9 a2.2.1.1)⟩, ⟨rfr.sl9 f1.1, f1.2⟩⟩)
