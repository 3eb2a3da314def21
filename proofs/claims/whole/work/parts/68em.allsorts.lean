/-! The reference: allSorts -/
/-- PathProverModel.allSorts()V -/
abbrev mu_m461 : ev_M := (5, none, [], ev_b461)
theorem mu_g461 : mu_good mu_m461 := mu_goodk ev_k461
/-- while sorts are made -/
def sah (Hb : mu_H) (D : MD) (H0 : mu_H) (od sp : Nat) (ol : Nat → Nat) (ss : Nat → Int32) (H : mu_H) : Prop := rms Hb D H ∧ sts H D sp ss ∧ (oar H D.G 22 100 od (D.pr 0).length ∧ ∀ a, a < (D.pr 0).length → mu_i H od a = nI (ol a)) ∧ od ≠ sp ∧ wfr [19, 20, 21] [27] 0 0 H0 H ∧ mu_n H sp = mu_n H0 sp
section Sah
variable {Hb H0 H H1 : mu_H} {D : MD} {od sp s : Nat} {ol : Nat → Nat} {ss : Nat → Int32} {v : Int32}
theorem sah.ff (h : sah Hb D H0 od sp ol ss H) (hf : ffr 0 H H1) : sah Hb D H0 od sp ol ss H1 := ⟨hf.rms h.1, h.2.1.ff hf, ⟨h.2.2.1.1.ff hf, fun a ha => (hf.1.i (Or.inl h.2.2.1.1.2.1.2.1) (fun z => z.elim (gndl9 h.2.2.1.1.2.1.1) id) a).trans (h.2.2.1.2 a ha)⟩, h.2.2.2.1, h.2.2.2.2.1.tr (hf.w (fun _ z => z)), (hf.1.len (Or.inl h.2.1.1.2.1.2.1) (fun z => z.elim (gndl9 h.2.1.1.2.1.1) id)).trans h.2.2.2.2.2⟩
theorem sah.wr (h : sah Hb D H0 od sp ol ss H) : sah Hb D H0 od sp ol (fup ss s v) (mu_si H sp s v) := by
  obtain ⟨h1, ⟨a1, a2⟩, ⟨b1, b2⟩, h4, h5, h6⟩ := h
  refine ⟨h1.siW ⟨a1.2.2.1, a1.2.1.2.2, gndl9 a1.2.1.1⟩, ⟨a1, fun i hi => ?_⟩, ⟨b1, fun a ha => ?_⟩, h4, h5.siW (by decide) a1.1 (gndl9 a1.2.1.1), h6⟩
  · rw [mu_i_si]
    by_cases e : i = s
    · subst e; rw [if_pos ⟨rfl, rfl⟩, fup_at]
    · rw [if_neg (fun z => e z.2), fup_ne e]; exact a2 i hi
  · rw [mu_i_si, if_neg (fun z => h4 z.1)]; exact b2 a ha
end Sah
theorem rp_asO {Hb H0 : mu_H} {D : MD} {od sp l d : Nat} {ol : Nat → Nat} {Φ : mu_R → Prop} (hb : mdb D) (hy : mdy D) (hx : mdx2 D) (hl : 1810 ≤ l) (ho : ordz D l ol) (hthr : ∀ H1, ¬ (∃ ss, ssol D ss ∧ srok D ss) → wfr [19, 20, 21] [27] 1 10 H0 H1 → Φ (.inr 2, H1)) (hnx : ∀ ss H, sah Hb D H0 od sp ol ss H → sen D ol (D.pr 0).length ss → mu_W (mu_D (d + 1826)) mu_m461 (88, [(1, .inl (nI 0)), (0, .inr (.inr (some 169)))], [], H) Φ) : ∀ m_ k ss H, k + m_ = (D.pr 0).length → sah Hb D H0 od sp ol ss H → sen D ol k ss → mu_W (mu_D (d + 1826)) mu_m461 (32, [(1, .inl (nI k)), (0, .inr (.inr (some 169)))], [], H) Φ
  | 0, k, ss, H, hm_, hh, he => by
    obtain ⟨om1, ⟨om0_1, om1_1⟩, ol1, on1, oc1, oj1⟩ := hh.1.mod
    obtain ⟨⟨pa2, pb2, pc2⟩, ⟨pd2, pe2, pf2⟩, pg2, ph2, pi2⟩ := hh.1.row (k := 0) (by decide)
    refine mw_go mu_g461 (k := 3) (f1 := (37, [(1, .inl (nI k)), (0, .inr (.inr (some 169)))], [.inr (.inr (mu_r H 169 18)), .inl (nI k)], H)) (C := [mu_is H (some 169) 1]) rfl (show mu_is H (some 169) 1 from hh.1.2.2.1.1) ?_
    refine mw_fr (f' := (37, [(1, .inl (nI k)), (0, .inr (.inr (some 169)))], [.inr (.inr (some D.mp)), .inl (nI k)], H)) (by first | (rw [hh.1.2.2.1.2]; done) | (rw [hh.1.2.2.1.2]; rfl)) ?_
    refine mw_go mu_g461 (k := 1) (f1 := (40, [(1, .inl (nI k)), (0, .inr (.inr (some 169)))], [.inl (mu_i H D.mp 9), .inl (nI k)], H)) (C := [mu_is H (some D.mp) 16]) rfl (show mu_is H (some D.mp) 16 from om1) ?_
    refine mw_fr (f' := (40, [(1, .inl (nI k)), (0, .inr (.inr (some 169)))], [.inl (nI (D.pr 0).length), .inl (nI k)], H)) (by first | (rw [(show mu_i H D.mp 9 = nI (D.pr 0).length from pc2)]; done) | (rw [(show mu_i H D.mp 9 = nI (D.pr 0).length from pc2)]; rfl)) ?_
    refine mw_if (P := (nI k) < (nI (D.pr 0).length)) (a := 43) (b := 86) (fun _ => rfl) trivial (fun h1 => absurd h1 (by rw [show k = (D.pr 0).length by omega]; exact Int32.lt_irrefl)) (fun h1 => ?_)
    refine mw_go mu_g461 (k := 2) (f1 := (88, [(1, .inl (0 : Int32)), (0, .inr (.inr (some 169)))], [], H)) (C := []) rfl trivial ?_
    refine mw_sub (L' := [(1, .inl (nI 0)), (0, .inr (.inr (some 169)))]) (by intro x hx; simp only [List.mem_cons, List.not_mem_nil, or_false] at hx ⊢; rcases hx with rfl | rfl <;> first | (simp [nI_add, show (1 : Int32) = nI 1 from rfl]; done) | simp [nI]) ?_
    rw [show k = (D.pr 0).length by omega] at he
    exact hnx _ _ hh he
  | m_ + 1, k, ss, H, hm_, hh, he => by
    obtain ⟨om1, ⟨om0_1, om1_1⟩, ol1, on1, oc1, oj1⟩ := hh.1.mod
    obtain ⟨⟨pa2, pb2, pc2⟩, ⟨pd2, pe2, pf2⟩, pg2, ph2, pi2⟩ := hh.1.row (k := 0) (by decide)
    have b4 := hb.2.1
    have hk : k < (D.pr 0).length := by omega
    have oq := ho.1 k hk
    have sN := oq.1
    have eo : mu_i H od (nI k).toNatClampNeg = nI (ol k) := by rw [nI_clamp (by omega)]; exact hh.2.2.1.2 k hk
    obtain ⟨q, qr3, qn3⟩ := pf2 (ol k) sN
    obtain ⟨ra3, rb3, rc3, rd3⟩ := ar_at (i := (ol k)) pd2 (by decide) (by omega) (by omega)
    have re3 : mu_r H (D.loc 1) (nI (ol k)).toNatClampNeg = some q := by rw [rd3]; exact qr3
    obtain ⟨sa3, sb3, sc3, sd3⟩ := ar_at (i := (ol k)) pg2 (by decide) (by omega) (by omega)
    have se3 : mu_r H (D.loc 2) (nI (ol k)).toNatClampNeg = some (D.ip (pth2 (D.pr 0) (ol k)).2) := by rw [sd3]; exact (pi2 (ol k) sN).1
    have sj3 : (pth2 (D.pr 0) (ol k)).2 < D.n := (pi2 (ol k) sN).2
    refine mw_go mu_g461 (k := 3) (f1 := (37, [(1, .inl (nI k)), (0, .inr (.inr (some 169)))], [.inr (.inr (mu_r H 169 18)), .inl (nI k)], H)) (C := [mu_is H (some 169) 1]) rfl (show mu_is H (some 169) 1 from hh.1.2.2.1.1) ?_
    refine mw_fr (f' := (37, [(1, .inl (nI k)), (0, .inr (.inr (some 169)))], [.inr (.inr (some D.mp)), .inl (nI k)], H)) (by first | (rw [hh.1.2.2.1.2]; done) | (rw [hh.1.2.2.1.2]; rfl)) ?_
    refine mw_go mu_g461 (k := 1) (f1 := (40, [(1, .inl (nI k)), (0, .inr (.inr (some 169)))], [.inl (mu_i H D.mp 9), .inl (nI k)], H)) (C := [mu_is H (some D.mp) 16]) rfl (show mu_is H (some D.mp) 16 from om1) ?_
    refine mw_fr (f' := (40, [(1, .inl (nI k)), (0, .inr (.inr (some 169)))], [.inl (nI (D.pr 0).length), .inl (nI k)], H)) (by first | (rw [(show mu_i H D.mp 9 = nI (D.pr 0).length from pc2)]; done) | (rw [(show mu_i H D.mp 9 = nI (D.pr 0).length from pc2)]; rfl)) ?_
    refine mw_if (P := (nI k) < (nI (D.pr 0).length)) (a := 43) (b := 86) (fun _ => rfl) trivial (fun h1 => ?_) (fun h1 => absurd (nI_lt hk (by omega)) h1)
    refine mw_go mu_g461 (k := 2) (f1 := (47, [(1, .inl (nI k)), (0, .inr (.inr (some 169)))], [.inr (.inr (mu_r H 169 22))], H)) (C := [mu_is H (some 169) 1]) rfl (show mu_is H (some 169) 1 from hh.1.2.2.1.1) ?_
    refine mw_fr (f' := (47, [(1, .inl (nI k)), (0, .inr (.inr (some 169)))], [.inr (.inr (some od))], H)) (by first | (rw [hh.2.2.1.1.1]; done) | (rw [hh.2.2.1.1.1]; rfl)) ?_
    refine mw_go mu_g461 (k := 2) (f1 := (49, [(1, .inl (nI k)), (0, .inr (.inr (some 169)))], [.inl (mu_i H od (nI k).toNatClampNeg)], H)) (C := [mu_isr H (some od) 100, vp_in (nI k) (mu_n H od)]) rfl (show (mu_isr H (some od) 100) ∧ (vp_in (nI k) (mu_n H od)) from ⟨⟨rfl, Or.inl hh.2.2.1.1.2.1.2.1, hh.2.2.1.1.2.2.2.1⟩, (vp_in_nI (Nat.lt_of_lt_of_le hk hh.2.2.1.1.2.2.2.2.1) hh.2.2.1.1.2.2.2.2.2)⟩) ?_
    refine mw_fr (f' := (49, [(1, .inl (nI k)), (0, .inr (.inr (some 169)))], [.inl (nI (ol k))], H)) (by first | (rw [eo]; done) | (rw [eo]; rfl)) ?_
    refine mw_go mu_g461 (k := 3) (f1 := (54, [(2, .inl (nI (ol k))), (1, .inl (nI k)), (0, .inr (.inr (some 169)))], [.inr (.inr (mu_r H 169 27))], H)) (C := [mu_is H (some 169) 1]) rfl (show mu_is H (some 169) 1 from hh.1.2.2.1.1) ?_
    refine mw_fr (f' := (54, [(2, .inl (nI (ol k))), (1, .inl (nI k)), (0, .inr (.inr (some 169)))], [.inr (.inr (some sp))], H)) (by first | (rw [hh.2.1.1.1]; done) | (rw [hh.2.1.1.1]; rfl)) ?_
    refine mw_go mu_g461 (k := 4) (f1 := (60, [(2, .inl (nI (ol k))), (1, .inl (nI k)), (0, .inr (.inr (some 169)))], [.inr (.inr (mu_r H 169 18)), .inr (.inr (some 169)), .inl (nI (ol k)), .inr (.inr (some sp))], H)) (C := [mu_is H (some 169) 1]) rfl (show mu_is H (some 169) 1 from hh.1.2.2.1.1) ?_
    refine mw_fr (f' := (60, [(2, .inl (nI (ol k))), (1, .inl (nI k)), (0, .inr (.inr (some 169)))], [.inr (.inr (some D.mp)), .inr (.inr (some 169)), .inl (nI (ol k)), .inr (.inr (some sp))], H)) (by first | (rw [hh.1.2.2.1.2]; done) | (rw [hh.1.2.2.1.2]; rfl)) ?_
    refine mw_go mu_g461 (k := 1) (f1 := (63, [(2, .inl (nI (ol k))), (1, .inl (nI k)), (0, .inr (.inr (some 169)))], [.inr (.inr (mu_r H D.mp 7)), .inr (.inr (some 169)), .inl (nI (ol k)), .inr (.inr (some sp))], H)) (C := [mu_is H (some D.mp) 16]) rfl (show mu_is H (some D.mp) 16 from om1) ?_
    refine mw_fr (f' := (63, [(2, .inl (nI (ol k))), (1, .inl (nI k)), (0, .inr (.inr (some 169)))], [.inr (.inr (some (D.loc 1))), .inr (.inr (some 169)), .inl (nI (ol k)), .inr (.inr (some sp))], H)) (by first | (rw [(show mu_r H D.mp 7 = some (D.loc 1) from pa2)]; done) | (rw [(show mu_r H D.mp 7 = some (D.loc 1) from pa2)]; rfl)) ?_
    refine mw_go mu_g461 (k := 2) (f1 := (65, [(2, .inl (nI (ol k))), (1, .inl (nI k)), (0, .inr (.inr (some 169)))], [.inr (.inr (mu_r H (D.loc 1) (nI (ol k)).toNatClampNeg)), .inr (.inr (some 169)), .inl (nI (ol k)), .inr (.inr (some sp))], H)) (C := [mu_is H (some (D.loc 1)) (mu_k H (D.loc 1)), 103 ≤ mu_k H (D.loc 1) ∧ mu_k H (D.loc 1) ≤ 110 ∧ mu_k H (D.loc 1) ≠ 108, vp_in (nI (ol k)) (mu_n H (D.loc 1))]) rfl (show (mu_is H (some (D.loc 1)) (mu_k H (D.loc 1))) ∧ (103 ≤ mu_k H (D.loc 1) ∧ mu_k H (D.loc 1) ≤ 110 ∧ mu_k H (D.loc 1) ≠ 108) ∧ (vp_in (nI (ol k)) (mu_n H (D.loc 1))) from ⟨ra3, rb3, rc3⟩) ?_
    refine mw_fr (f' := (65, [(2, .inl (nI (ol k))), (1, .inl (nI k)), (0, .inr (.inr (some 169)))], [.inr (.inr (some q)), .inr (.inr (some 169)), .inl (nI (ol k)), .inr (.inr (some sp))], H)) (by first | (rw [re3]; done) | (rw [re3]; rfl)) ?_
    refine mw_go mu_g461 (k := 2) (f1 := (69, [(2, .inl (nI (ol k))), (1, .inl (nI k)), (0, .inr (.inr (some 169)))], [.inr (.inr (mu_r H 169 18)), .inr (.inr (some q)), .inr (.inr (some 169)), .inl (nI (ol k)), .inr (.inr (some sp))], H)) (C := [mu_is H (some 169) 1]) rfl (show mu_is H (some 169) 1 from hh.1.2.2.1.1) ?_
    refine mw_fr (f' := (69, [(2, .inl (nI (ol k))), (1, .inl (nI k)), (0, .inr (.inr (some 169)))], [.inr (.inr (some D.mp)), .inr (.inr (some q)), .inr (.inr (some 169)), .inl (nI (ol k)), .inr (.inr (some sp))], H)) (by first | (rw [hh.1.2.2.1.2]; done) | (rw [hh.1.2.2.1.2]; rfl)) ?_
    refine mw_go mu_g461 (k := 1) (f1 := (72, [(2, .inl (nI (ol k))), (1, .inl (nI k)), (0, .inr (.inr (some 169)))], [.inr (.inr (mu_r H D.mp 8)), .inr (.inr (some q)), .inr (.inr (some 169)), .inl (nI (ol k)), .inr (.inr (some sp))], H)) (C := [mu_is H (some D.mp) 16]) rfl (show mu_is H (some D.mp) 16 from om1) ?_
    refine mw_fr (f' := (72, [(2, .inl (nI (ol k))), (1, .inl (nI k)), (0, .inr (.inr (some 169)))], [.inr (.inr (some (D.loc 2))), .inr (.inr (some q)), .inr (.inr (some 169)), .inl (nI (ol k)), .inr (.inr (some sp))], H)) (by first | (rw [(show mu_r H D.mp 8 = some (D.loc 2) from pb2)]; done) | (rw [(show mu_r H D.mp 8 = some (D.loc 2) from pb2)]; rfl)) ?_
    refine mw_go mu_g461 (k := 2) (f1 := (74, [(2, .inl (nI (ol k))), (1, .inl (nI k)), (0, .inr (.inr (some 169)))], [.inr (.inr (mu_r H (D.loc 2) (nI (ol k)).toNatClampNeg)), .inr (.inr (some q)), .inr (.inr (some 169)), .inl (nI (ol k)), .inr (.inr (some sp))], H)) (C := [mu_is H (some (D.loc 2)) (mu_k H (D.loc 2)), 103 ≤ mu_k H (D.loc 2) ∧ mu_k H (D.loc 2) ≤ 110 ∧ mu_k H (D.loc 2) ≠ 108, vp_in (nI (ol k)) (mu_n H (D.loc 2))]) rfl (show (mu_is H (some (D.loc 2)) (mu_k H (D.loc 2))) ∧ (103 ≤ mu_k H (D.loc 2) ∧ mu_k H (D.loc 2) ≤ 110 ∧ mu_k H (D.loc 2) ≠ 108) ∧ (vp_in (nI (ol k)) (mu_n H (D.loc 2))) from ⟨sa3, sb3, sc3⟩) ?_
    refine mw_fr (f' := (74, [(2, .inl (nI (ol k))), (1, .inl (nI k)), (0, .inr (.inr (some 169)))], [.inr (.inr (some (D.ip (pth2 (D.pr 0) (ol k)).2))), .inr (.inr (some q)), .inr (.inr (some 169)), .inl (nI (ol k)), .inr (.inr (some sp))], H)) (by first | (rw [se3]; done) | (rw [se3]; rfl)) ?_
    refine mw_go mu_g461 (k := 2) (f1 := (76, [(2, .inl (nI (ol k))), (1, .inl (nI k)), (0, .inr (.inr (some 169)))], [.inl (0 : Int32), .inl (0 : Int32), .inr (.inr (some (D.ip (pth2 (D.pr 0) (ol k)).2))), .inr (.inr (some q)), .inr (.inr (some 169)), .inl (nI (ol k)), .inr (.inr (some sp))], H)) (C := []) rfl trivial ?_
    refine mw_cE (as := [.inr (.inr (some q)), .inr (.inr (some (D.ip (pth2 (D.pr 0) (ol k)).2))), .inl (0 : Int32), .inl (0 : Int32)]) (o := (some 169)) (S1 := [.inl (nI (ol k)), .inr (.inr (some sp))]) rfl rfl rfl rfl (Nat.le_of_ble_eq_true rfl) (by decide) (show mu_is H (some 169) 1 from hh.1.2.2.1.1) rfl (by decide) (mu_Dc (show d + 8 + 2 * 905 + 8 = d + 1826 by omega) (rp_sort (Hb := Hb) (sp := sp) (ss := ss) (j := own D (ol k)) (wh := 0) hb hy sj3 905 (d + 8) q (stdt D (ol k)) H D.lv 0 (Or.inl rfl) hh.1 hh.2.1 qn3 (hx _ sN).1 ⟨_, oq.2.1⟩)) (fun E9 e9 => hthr _ (fun z => by obtain ⟨ss2, z1, _⟩ := z; have z3 := he.nx ho hx hl hb hk z1; rw [e9.1] at z3; cases z3) ((hh.2.2.2.2.1.tr (e9.2.w (fun _ z => z))).wk (fun _ z => z) (fun _ z => z) (by decide) (by decide))) (fun v9 H4 e9 => ?_)
    obtain ⟨v, rfl, p1, p2⟩ := e9
    show mu_W _ mu_m461 (79, [(2, .inl (nI (ol k))), (1, .inl (nI k)), (0, .inr (.inr (some 169)))], [.inl v, .inl (nI (ol k)), .inr (.inr (some sp))], H4) _
    have hh1 := hh.ff p2
    refine mw_go mu_g461 (k := 1) (f1 := (80, [(2, .inl (nI (ol k))), (1, .inl (nI k)), (0, .inr (.inr (some 169)))], [], (mu_si H4 sp (nI (ol k)).toNatClampNeg v))) (C := [mu_is H4 (some sp) 100, vp_in (nI (ol k)) (mu_n H4 sp)]) rfl (show (mu_is H4 (some sp) 100) ∧ (vp_in (nI (ol k)) (mu_n H4 sp)) from ⟨⟨rfl, hh1.2.1.1.2.1.2.1, hh1.2.1.1.2.2.2.1⟩, (vp_in_nI (Nat.lt_of_lt_of_le sN hh1.2.1.1.2.2.2.2.1) hh1.2.1.1.2.2.2.2.2)⟩) ?_
    refine mw_fr (f' := (80, [(2, .inl (nI (ol k))), (1, .inl (nI k)), (0, .inr (.inr (some 169)))], [], (mu_si H4 sp (ol k) v))) (by rw [nI_clamp (show ol k < 2 ^ 31 by omega)]) ?_
    have hh2 := hh1.wr (s := ol k) (v := v)
    have he2 := he.step ho hx hl hb hk p1
    obtain ⟨K, eK⟩ : ∃ K, K = (mu_si H4 sp (ol k) v) := ⟨_, rfl⟩
    rw [← eK] at hh2 ⊢
    clear eK
    refine mw_go mu_g461 (k := 2) (f1 := (32, [(1, .inl ((nI k) + 1)), (2, .inl (nI (ol k))), (0, .inr (.inr (some 169)))], [], K)) (C := []) rfl trivial ?_
    refine mw_sub (L' := [(1, .inl (nI (k + 1))), (0, .inr (.inr (some 169)))]) (by intro x hx; simp only [List.mem_cons, List.not_mem_nil, or_false] at hx ⊢; rcases hx with rfl | rfl <;> first | (simp [nI_add, show (1 : Int32) = nI 1 from rfl]; done) | simp [nI]) ?_
    exact rp_asO hb hy hx hl ho hthr hnx m_ (k + 1) _ _ (by omega) hh2 he2
