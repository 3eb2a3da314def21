/-! The reference: candidate whole, tried -/
theorem rp_cnB {Hb H : mu_H} {D : MD} {pt mm s d : Nat} {Φ : mu_R → Prop} (hb : mdb D) (hy : mdy D) (hmd : mdn D) (hc : cnd Hb D pt mm s H) (hneg : Φ (.inl (some (.inl (-1 : Int32))), H)) (hnx : ∀ v k, v < (D.pr 1).length → (dgt D (D.pr 1).length s v) < k → k < hmn (typ D v) → mu_W (mu_D (d + 5)) mu_m426 (2, [(2, .inl (nI (hor D (fun w => if w < v then dgt D (D.pr 1).length s w else if w = v then k else 0) (D.pr 1).length))), (0, .inr (.inr (some 169)))], [], H) Φ) : ∀ m a, m ≤ (D.pr 1).length → mu_W (mu_D (d + 5)) mu_m426 (70, [(4, .inl a), (3, .inl (pI m)), (2, .inl (nI s)), (0, .inr (.inr (some 169)))], [], H) Φ
  | 0, a, hm_ => by
    show mu_W (mu_D (d + 5)) mu_m426 (70, [(4, .inl a), (3, .inl (-1 : Int32)), (2, .inl (nI s)), (0, .inr (.inr (some 169)))], [], H) Φ
    refine mw_go mu_g426 (k := 1) (f1 := (71, [(4, .inl a), (3, .inl (-1 : Int32)), (2, .inl (nI s)), (0, .inr (.inr (some 169)))], [.inl (-1 : Int32)], H)) (C := []) rfl trivial ?_
    refine mw_if (P := (-1 : Int32) < 0) (a := 147) (b := 74) (fun _ => rfl) trivial (fun h1 => ?_) (fun h1 => absurd (show (-1 : Int32) < 0 by decide) h1)
    refine mw_go mu_g426 (k := 1) (f1 := (148, [(4, .inl a), (3, .inl (-1 : Int32)), (2, .inl (nI s)), (0, .inr (.inr (some 169)))], [.inl (-1 : Int32)], H)) (C := []) rfl trivial ?_
    refine mw_if (P := (-1 : Int32) < 0) (a := 151) (b := 153) (fun _ => rfl) trivial (fun h2 => ?_) (fun h2 => absurd (show (-1 : Int32) < 0 by decide) h2)
    refine mw_go mu_g426 (k := 1) (f1 := (152, [(4, .inl a), (3, .inl (-1 : Int32)), (2, .inl (nI s)), (0, .inr (.inr (some 169)))], [.inl (-1 : Int32)], H)) (C := []) rfl trivial ?_
    exact mw_of (fun _ => mu_ret rfl trivial hneg)
  | m + 1, a, hm_ => by
    show mu_W (mu_D (d + 5)) mu_m426 (70, [(4, .inl a), (3, .inl (nI m)), (2, .inl (nI s)), (0, .inr (.inr (some 169)))], [], H) Φ
    have b5 := hb.2.2.1
    have hvl : m < (D.pr 1).length := by omega
    have e1 : nI (dgt D (D.pr 1).length s m) + (1 : Int32) = nI ((dgt D (D.pr 1).length s m) + 1) := nI_add _ _
    have dl : (dgt D (D.pr 1).length s m) < hmn (typ D m) := dgt_lt _ _ _ hvl (fun w hw => hmn_1 (hy w hw).1 (hmd w hw) (hy w hw).2)
    have tx1 : mu_i H pt (nI m).toNatClampNeg = nI (dgt D (D.pr 1).length s m) := by rw [nI_clamp (show m < 2 ^ 31 by omega)]; exact hc.2.2.1 m hvl
    refine mw_go mu_g426 (k := 1) (f1 := (71, [(4, .inl a), (3, .inl (nI m)), (2, .inl (nI s)), (0, .inr (.inr (some 169)))], [.inl (nI m)], H)) (C := []) rfl trivial ?_
    refine mw_if (P := (nI m) < 0) (a := 147) (b := 74) (fun _ => rfl) trivial (fun h1 => absurd h1 (nI_nn (by omega))) (fun h1 => ?_)
    refine mw_go mu_g426 (k := 2) (f1 := (78, [(4, .inl a), (3, .inl (nI m)), (2, .inl (nI s)), (0, .inr (.inr (some 169)))], [.inr (.inr (mu_r H 169 31))], H)) (C := [mu_is H (some 169) 1]) rfl (show mu_is H (some 169) 1 from hc.1.2.2.1.1) ?_
    refine mw_fr (f' := (78, [(4, .inl a), (3, .inl (nI m)), (2, .inl (nI s)), (0, .inr (.inr (some 169)))], [.inr (.inr (some pt))], H)) (by first | (rw [hc.2.1.1]; done) | (rw [hc.2.1.1]; rfl)) ?_
    refine mw_go mu_g426 (k := 2) (f1 := (80, [(4, .inl a), (3, .inl (nI m)), (2, .inl (nI s)), (0, .inr (.inr (some 169)))], [.inl (mu_i H pt (nI m).toNatClampNeg)], H)) (C := [mu_isr H (some pt) 100, vp_in (nI m) (mu_n H pt)]) rfl (show (mu_isr H (some pt) 100) ∧ (vp_in (nI m) (mu_n H pt)) from ⟨⟨rfl, Or.inl hc.2.1.2.1.2.1, hc.2.1.2.2.2.1⟩, (vp_in_nI (Nat.lt_of_lt_of_le hvl hc.2.1.2.2.2.2.1) hc.2.1.2.2.2.2.2)⟩) ?_
    refine mw_fr (f' := (80, [(4, .inl a), (3, .inl (nI m)), (2, .inl (nI s)), (0, .inr (.inr (some 169)))], [.inl (nI (dgt D (D.pr 1).length s m))], H)) (by first | (rw [tx1]; done) | (rw [tx1]; rfl)) ?_
    refine mw_go mu_g426 (k := 2) (f1 := (82, [(4, .inl a), (3, .inl (nI m)), (2, .inl (nI s)), (0, .inr (.inr (some 169)))], [.inl ((nI (dgt D (D.pr 1).length s m)) + (1 : Int32))], H)) (C := []) rfl trivial ?_
    refine mw_fr (f' := (82, [(4, .inl a), (3, .inl (nI m)), (2, .inl (nI s)), (0, .inr (.inr (some 169)))], [.inl (nI ((dgt D (D.pr 1).length s m) + 1))], H)) (by first | (rw [e1]; done) | (rw [e1]; rfl)) ?_
    refine mw_go mu_g426 (k := 1) (f1 := (84, [(4, .inl (nI ((dgt D (D.pr 1).length s m) + 1))), (3, .inl (nI m)), (2, .inl (nI s)), (0, .inr (.inr (some 169)))], [], H)) (C := []) rfl trivial ?_
    refine mw_sub (L' := [(4, .inl (nI ((dgt D (D.pr 1).length s m) + 1))), (3, .inl (nI m)), (2, .inl (nI s)), (0, .inr (.inr (some 169)))]) (by simp) ?_
    refine rp_cnC hb hy hmd hc hvl (fun k klo khi => ?_) (hmn (typ D m) - ((dgt D (D.pr 1).length s m) + 1)) ((dgt D (D.pr 1).length s m) + 1) (by omega) (Nat.lt_succ_self _)
    obtain ⟨om2, ⟨om0_2, om1_2⟩, ol2, on2, oc2, oj2⟩ := hc.1.mod
    obtain ⟨⟨pa3, pb3, pc3⟩, ⟨pd3, pe3, pf3⟩, pg3, ph3, pi3⟩ := hc.1.row (k := 1) (by decide)
    obtain ⟨q4, qr5, qn5⟩ := pf3 m hvl
    obtain ⟨ra5, rb5, rc5, rd5⟩ := ar_at (i := m) pd3 (by decide) (by omega) (by omega)
    have re5 : mu_r H (D.loc 3) (nI m).toNatClampNeg = some q4 := by rw [rd5]; exact qr5
    have ty5 := hy m hvl
    have hq5 := hmI_n ty5.1 (hmd m hvl) ty5.2 (qn5.s26 (c := typ D m))
    refine mw_go mu_g426 (k := 4) (f1 := (127, [(4, .inl (nI k)), (3, .inl (nI m)), (2, .inl (nI s)), (0, .inr (.inr (some 169)))], [.inr (.inr (mu_r H 169 18)), .inr (.inr (some 169)), .inl (nI k)], H)) (C := [mu_is H (some 169) 1]) rfl (show mu_is H (some 169) 1 from hc.1.2.2.1.1) ?_
    refine mw_fr (f' := (127, [(4, .inl (nI k)), (3, .inl (nI m)), (2, .inl (nI s)), (0, .inr (.inr (some 169)))], [.inr (.inr (some D.mp)), .inr (.inr (some 169)), .inl (nI k)], H)) (by first | (rw [hc.1.2.2.1.2]; done) | (rw [hc.1.2.2.1.2]; rfl)) ?_
    refine mw_go mu_g426 (k := 1) (f1 := (130, [(4, .inl (nI k)), (3, .inl (nI m)), (2, .inl (nI s)), (0, .inr (.inr (some 169)))], [.inr (.inr (mu_r H D.mp 4)), .inr (.inr (some 169)), .inl (nI k)], H)) (C := [mu_is H (some D.mp) 16]) rfl (show mu_is H (some D.mp) 16 from om2) ?_
    refine mw_fr (f' := (130, [(4, .inl (nI k)), (3, .inl (nI m)), (2, .inl (nI s)), (0, .inr (.inr (some 169)))], [.inr (.inr (some (D.loc 3))), .inr (.inr (some 169)), .inl (nI k)], H)) (by first | (rw [(show mu_r H D.mp 4 = some (D.loc 3) from pa3)]; done) | (rw [(show mu_r H D.mp 4 = some (D.loc 3) from pa3)]; rfl)) ?_
    refine mw_go mu_g426 (k := 2) (f1 := (132, [(4, .inl (nI k)), (3, .inl (nI m)), (2, .inl (nI s)), (0, .inr (.inr (some 169)))], [.inr (.inr (mu_r H (D.loc 3) (nI m).toNatClampNeg)), .inr (.inr (some 169)), .inl (nI k)], H)) (C := [mu_is H (some (D.loc 3)) (mu_k H (D.loc 3)), 103 ≤ mu_k H (D.loc 3) ∧ mu_k H (D.loc 3) ≤ 110 ∧ mu_k H (D.loc 3) ≠ 108, vp_in (nI m) (mu_n H (D.loc 3))]) rfl (show (mu_is H (some (D.loc 3)) (mu_k H (D.loc 3))) ∧ (103 ≤ mu_k H (D.loc 3) ∧ mu_k H (D.loc 3) ≤ 110 ∧ mu_k H (D.loc 3) ≠ 108) ∧ (vp_in (nI m) (mu_n H (D.loc 3))) from ⟨ra5, rb5, rc5⟩) ?_
    refine mw_fr (f' := (132, [(4, .inl (nI k)), (3, .inl (nI m)), (2, .inl (nI s)), (0, .inr (.inr (some 169)))], [.inr (.inr (some q4)), .inr (.inr (some 169)), .inl (nI k)], H)) (by first | (rw [re5]; done) | (rw [re5]; rfl)) ?_
    refine mw_cIe (fun _ => rfl) (show mu_is H (some 169) 1 from hc.1.2.2.1.1) (rp_howMany (d := d + 1) (c := typ D m) qn5 hc.1.2.1 ty5.1) ?_
    refine mw_fr (f' := (135, [(4, .inl (nI k)), (3, .inl (nI m)), (2, .inl (nI s)), (0, .inr (.inr (some 169)))], [.inl (nI (hmn (typ D m))), .inl (nI k)], H)) (by rw [hq5.1]) ?_
    refine mw_if (P := (nI k) < (nI (hmn (typ D m)))) (a := 138) (b := 141) (fun _ => rfl) trivial (fun h5 => ?_) (fun h5 => ?_)
    · -- 138
      have kl := nI_below (by omega) (by omega) h5
      refine mw_go mu_g426 (k := 2) (f1 := (148, [(4, .inl (nI k)), (3, .inl (nI m)), (2, .inl (nI s)), (0, .inr (.inr (some 169)))], [.inl (nI m)], H)) (C := []) rfl trivial ?_
      refine mw_if (P := (nI m) < 0) (a := 151) (b := 153) (fun _ => rfl) trivial (fun h6 => absurd h6 (nI_nn (by omega))) (fun h6 => ?_)
      · -- 153
        refine mw_go mu_g426 (k := 4) (f1 := (158, [(5, .inl (0 : Int32)), (2, .inl (0 : Int32)), (4, .inl (nI k)), (3, .inl (nI m)), (0, .inr (.inr (some 169)))], [], H)) (C := []) rfl trivial ?_
        refine mw_sub (L' := [(5, .inl (nI 0)), (4, .inl (nI k)), (3, .inl (nI m)), (2, .inl (nI (hor D (fun w => if w < m then dgt D (D.pr 1).length s w else if w = m then k else 0) 0))), (0, .inr (.inr (some 169)))]) (by intro x hx; simp only [List.mem_cons, List.not_mem_nil, or_false] at hx ⊢; rcases hx with rfl | rfl | rfl | rfl | rfl <;> simp [nI, hor]) ?_
        exact rp_cnE hb hy hmd hc hvl (by omega) (hnx m k hvl klo kl) (D.pr 1).length 0 (Nat.zero_add _)
    · -- 141
      refine mw_go mu_g426 (k := 1) (f1 := (144, [(3, .inl ((nI m) + (-1))), (4, .inl (nI k)), (2, .inl (nI s)), (0, .inr (.inr (some 169)))], [], H)) (C := []) rfl trivial ?_
      refine mw_fr (f' := (144, [(3, .inl (pI m)), (4, .inl (nI k)), (2, .inl (nI s)), (0, .inr (.inr (some 169)))], [], H)) (by first | (rw [(pI_dec m)]; done) | (rw [(pI_dec m)]; rfl)) ?_
      refine mw_go mu_g426 (k := 1) (f1 := (70, [(3, .inl (pI m)), (4, .inl (nI k)), (2, .inl (nI s)), (0, .inr (.inr (some 169)))], [], H)) (C := []) rfl trivial ?_
      refine mw_sub (L' := [(4, .inl (nI k)), (3, .inl (pI m)), (2, .inl (nI s)), (0, .inr (.inr (some 169)))]) (by simp) ?_
      exact rp_cnB hb hy hmd hc hneg hnx m _ (by omega)
theorem rp_cnO {tr : Prop} {Hb H0 : mu_H} {D : MD} {ph pt pk pa mm d fr : Nat} (hb : mdb D) (hy : mdy D) (hmd : mdn D) (hne : ph ≠ pt) (hN : mu_i H0 169 28 = nI (prd D (D.pr 1).length)) (hNS : prd D (D.pr 1).length ≤ 16384) : ∀ m s H, prd D (D.pr 1).length - s < m ∨ (prd D (D.pr 1).length ≤ s ∧ s < 2147483648 ∧ 0 < m) → fr ≤ s ∧ s < 2147483648 → vsta tr Hb D ph pt pk pa H → mwr D mm H → dfr pt H0 H → mu_W (mu_D (d + 5)) mu_m426 (2, [(2, .inl (nI s)), (0, .inr (.inr (some 169)))], [], H) (fun r => ∃ x H1, r = (.inl (some (.inl x)), H1) ∧ (x = -1 ∨ ∃ t, x = nI t ∧ fr ≤ t ∧ t < prd D (D.pr 1).length) ∧ vsta tr Hb D ph pt pk pa H1 ∧ mwr D mm H1 ∧ dfr pt H0 H1)
  | 0, s, H, hm, hs, hv, hw, hf => by omega
  | m + 1, s, H, hm, hs0, hv, hw, hf => by
    have hs := hs0.1
    have b5 := hb.2.2.1
    have h28 : mu_i H 169 28 = nI (prd D (D.pr 1).length) := (hf.1.2.1 28 (List.not_mem_nil)).trans hN
    refine mw_go mu_g426 (k := 3) (f1 := (7, [(2, .inl (nI s)), (0, .inr (.inr (some 169)))], [.inl (mu_i H 169 28), .inl (nI s)], H)) (C := [mu_is H (some 169) 1]) rfl (show mu_is H (some 169) 1 from hv.1.2.2.1.1) ?_
    refine mw_fr (f' := (7, [(2, .inl (nI s)), (0, .inr (.inr (some 169)))], [.inl (nI (prd D (D.pr 1).length)), .inl (nI s)], H)) (by first | (rw [h28]; done) | (rw [h28]; rfl)) ?_
    refine mw_if (P := (nI s) < (nI (prd D (D.pr 1).length))) (a := 10) (b := 229) (fun _ => rfl) trivial (fun h1 => ?_) (fun h1 => ?_)
    · -- 10
      have sl : s < prd D (D.pr 1).length := nI_below (by omega) (by omega) h1
      refine mw_go mu_g426 (k := 4) (f1 := (16, [(2, .inl (nI s)), (0, .inr (.inr (some 169)))], [.inr (.inr (mu_r H 169 31)), .inl (nI s), .inr (.inr (some 169))], H)) (C := [mu_is H (some 169) 1]) rfl (show mu_is H (some 169) 1 from hv.1.2.2.1.1) ?_
      refine mw_fr (f' := (16, [(2, .inl (nI s)), (0, .inr (.inr (some 169)))], [.inr (.inr (some pt)), .inl (nI s), .inr (.inr (some 169))], H)) (by first | (rw [hv.2.1.2.1.1]; done) | (rw [hv.2.1.2.1.1]; rfl)) ?_
      refine mw_cV (fun _ => rfl) (show mu_is H (some 169) 1 from hv.1.2.2.1.1) (rp_decodeX (d := d) hb hy hmd (show s < 2147483648 by omega) hv.1 hv.2.1.2.1) (fun H9 q9 => ?_)
      obtain ⟨r1, g1, f1⟩ := q9
      have kpt : mu_k H pt = 100 := hv.2.1.2.1.2.2.2.1
      have hw1 := hw.df kpt f1
      have dlt : ∀ v, v < (D.pr 1).length → dgt D (D.pr 1).length s v < hmn (typ D v) := fun v hvl => dgt_lt _ _ _ hvl (fun w hw => hmn_1 (hy w hw).1 (hmd w hw) (hy w hw).2)
      have hv1 : vsta tr Hb D ph pt pk pa H9 := hv.df hne r1 f1 (fun v hvl => ⟨_, dlt v hvl, g1 v hvl⟩)
      have hf1 := hf.tr2 f1
      have hc : cnd Hb D pt mm s H9 := ⟨r1, hv1.2.1.2.1, g1, hw1⟩
      refine mw_go mu_g426 (k := 2) (f1 := (21, [(3, .inl (0 : Int32)), (2, .inl (nI s)), (0, .inr (.inr (some 169)))], [], H9)) (C := []) rfl trivial ?_
      refine mw_sub (L' := [(3, .inl (nI 0)), (2, .inl (nI s)), (0, .inr (.inr (some 169)))]) (by intro x hx; simp only [List.mem_cons, List.not_mem_nil, or_false] at hx ⊢; rcases hx with rfl | rfl | rfl <;> simp [nI]) ?_
      refine rp_cnA hb hy hmd hc ⟨_, _, rfl, Or.inr ⟨s, rfl, hs, sl⟩, hv1, hw1, hf1⟩ (fun v hvl => ?_) (D.pr 1).length 0 (Nat.zero_add _)
      refine rp_cnB hb hy hmd hc ⟨_, _, rfl, Or.inl rfl, hv1, hw1, hf1⟩ (fun v' k hv' klo khi => ?_) (v + 1) _ (by omega)
      have lt1 : s < hor D (fun w => if w < v' then dgt D (D.pr 1).length s w else if w = v' then k else 0) (D.pr 1).length := by
        have e := hor_dgt (D := D) (D.pr 1).length s sl
        have l := hor_lt (D := D) (f := dgt D (D.pr 1).length s) (g := (fun w => if w < v' then dgt D (D.pr 1).length s w else if w = v' then k else 0)) (v := v') (D.pr 1).length hv' (fun w hw => by rw [if_pos hw]) (by rw [if_neg (Nat.lt_irrefl _), if_pos rfl]; exact klo) (fun w h1 h2 => dlt w h2)
        rw [e] at l
        exact l
      have lt2 : hor D (fun w => if w < v' then dgt D (D.pr 1).length s w else if w = v' then k else 0) (D.pr 1).length < prd D (D.pr 1).length := hor_bd (D.pr 1).length (fun w hw => by
        by_cases e1 : w < v'
        · rw [if_pos e1]; exact dlt w hw
        · rw [if_neg e1]
          by_cases e2 : w = v'
          · rw [if_pos e2, e2]; exact khi
          · rw [if_neg e2]; exact hmn_1 (hy w hw).1 (hmd w hw) (hy w hw).2)
      exact rp_cnO hb hy hmd hne hN hNS m _ _ (by omega) (by omega) hv1 hw1 hf1
    · -- 229
      refine mw_go mu_g426 (k := 1) (f1 := (230, [(2, .inl (nI s)), (0, .inr (.inr (some 169)))], [.inl (-1 : Int32)], H)) (C := []) rfl trivial ?_
      exact mw_of (fun _ => mu_ret rfl trivial ⟨_, _, rfl, Or.inl rfl, hv, hw, hf⟩)
theorem rp_candidate {tr : Prop} {Hb H : mu_H} {D : MD} {ph pt pk pa mm d fr : Nat} (hb : mdb D) (hy : mdy D) (hmd : mdn D) (hne : ph ≠ pt) (hN : mu_i H 169 28 = nI (prd D (D.pr 1).length)) (hNS : prd D (D.pr 1).length ≤ 16384) (hfr : fr < 2147483648) (hv : vsta tr Hb D ph pt pk pa H) (hw : mwr D mm H) : mu_TI (mu_D (d + 6)) 426 [.inr (.inr (some 169)), .inl (nI fr)] H (fun x H1 => (x = -1 ∨ ∃ t, x = nI t ∧ fr ≤ t ∧ t < prd D (D.pr 1).length) ∧ vsta tr Hb D ph pt pk pa H1 ∧ mwr D mm H1 ∧ dfr pt H H1) := by
  refine mu_meth (M := mu_m426) rfl rfl ?_
  refine mw_ht (mu_fn_of (show [0, 1].Nodup by decide)) ?_
  refine mw_go mu_g426 (k := 2) (f1 := (2, [(2, .inl (nI fr)), (0, .inr (.inr (some 169))), (1, .inl (nI fr))], [], H)) (C := []) rfl trivial ?_
  refine mw_sub (L' := [(2, .inl (nI fr)), (0, .inr (.inr (some 169)))]) (by simp) ?_
  exact rp_cnO hb hy hmd hne hN hNS (prd D (D.pr 1).length + 1) fr _ (by omega) ⟨Nat.le_refl _, hfr⟩ hv hw dfr.rf
