/-! The reference: standing, and value of plain kinds -/
/-- PathProverModel.standing(I)I -/
abbrev mu_m435 : ev_M := (3, (some .int), [], ev_b435)
theorem mu_g435 : mu_good mu_m435 := mu_goodk ev_k435
/-- PathProverModel.value(LPathProverModel$Node;LPathProverModel$Instance;)I -/
abbrev mu_m411 : ev_M := (6, (some .int), [], ev_b411)
theorem mu_g411 : mu_good mu_m411 := mu_goodk ev_k411
/-- the contract of standing -/
def sdkk (tr : Prop) (Hb : mu_H) (D : MD) (ph pt pk pa f t : Nat) : Prop := ∀ H, vsta tr Hb D ph pt pk pa H → mu_TI (mu_D f) 435 [.inr (.inr (some 169)), .inl (nI t)] H (fun _ H1 => vsta tr Hb D ph pt pk pa H1 ∧ vfk pk pa H H1)
/-- the contract of value, l levels deep -/
def vlk (tr : Prop) (Hb : mu_H) (D : MD) (ph pt pk pa j f l : Nat) : Prop := ∀ q c H dd, vsta tr Hb D ph pt pk pa H → nd Hb D.G dd q c → vcw tr D j l c → hlx D l j c → mu_TI (mu_D (f + 2 * l + 6)) 411 [.inr (.inr (some 169)), .inr (.inr (some q)), .inr (.inr (some (D.ip j)))] H (fun _ H1 => vsta tr Hb D ph pt pk pa H1 ∧ vfk pk pa H H1)
theorem rp_standing {tr : Prop} {Hb H : mu_H} {D : MD} {ph pt pk pa f t : Nat} (hb : mdb D) (ht : t < (D.pr 0).length) (hv : vsta tr Hb D ph pt pk pa H) (hq : ∀ q H dd, vsta tr Hb D ph pt pk pa H → nd Hb D.G dd q (stdt D t) → mu_TI (mu_D f) 411 [.inr (.inr (some 169)), .inr (.inr (some q)), .inr (.inr (some (D.ip (own D t))))] H (fun _ H1 => vsta tr Hb D ph pt pk pa H1 ∧ vfk pk pa H H1)) : mu_TI (mu_D (f + 1)) 435 [.inr (.inr (some 169)), .inl (nI t)] H (fun _ H1 => vsta tr Hb D ph pt pk pa H1 ∧ vfk pk pa H H1) := by
  refine mu_meth (M := mu_m435) rfl rfl ?_
  refine mw_ht (mu_fn_of (show [0, 1].Nodup by decide)) ?_
  have b4 := hb.2.1
  refine mw_go mu_g435 (k := 2) (f1 := (4, [(0, .inr (.inr (some 169))), (1, .inl (nI t))], [.inr (.inr (mu_r H 169 41))], H)) (C := [mu_is H (some 169) 1]) rfl (show mu_is H (some 169) 1 from hv.1.2.2.1.1) ?_
  refine mw_fr (f' := (4, [(0, .inr (.inr (some 169))), (1, .inl (nI t))], [.inr (.inr (some pa))], H)) (by first | (rw [hv.2.1.2.2.2.1]; done) | (rw [hv.2.1.2.2.2.1]; rfl)) ?_
  refine mw_go mu_g435 (k := 5) (f1 := (11, [(0, .inr (.inr (some 169))), (1, .inl (nI t))], [.inl (lg_cmp (mu_l H pa (nI t).toNatClampNeg) (mu_l H 169 42))], H)) (C := [mu_isr H (some pa) 102, vp_in (nI t) (mu_n H pa), mu_is H (some 169) 1]) rfl (show (mu_isr H (some pa) 102) ∧ (vp_in (nI t) (mu_n H pa)) ∧ (mu_is H (some 169) 1) from ⟨⟨rfl, Or.inl hv.2.1.2.2.2.2.1.2.1, hv.2.1.2.2.2.2.2.2.1⟩, (vp_in_nI (Nat.lt_of_lt_of_le ht hv.2.1.2.2.2.2.2.2.2.1) hv.2.1.2.2.2.2.2.2.2.2), hv.1.2.2.1.1⟩) ?_
  refine mw_if (P := (lg_cmp (mu_l H pa (nI t).toNatClampNeg) (mu_l H 169 42)) = 0) (a := 14) (b := 21) (fun _ => rfl) trivial (fun h1 => ?_) (fun h1 => ?_)
  · -- 14
    refine mw_go mu_g435 (k := 2) (f1 := (18, [(0, .inr (.inr (some 169))), (1, .inl (nI t))], [.inr (.inr (mu_r H 169 40))], H)) (C := [mu_is H (some 169) 1]) rfl (show mu_is H (some 169) 1 from hv.1.2.2.1.1) ?_
    refine mw_fr (f' := (18, [(0, .inr (.inr (some 169))), (1, .inl (nI t))], [.inr (.inr (some pk))], H)) (by first | (rw [hv.2.1.2.2.1.1]; done) | (rw [hv.2.1.2.2.1.1]; rfl)) ?_
    refine mw_go mu_g435 (k := 2) (f1 := (20, [(0, .inr (.inr (some 169))), (1, .inl (nI t))], [.inl (mu_i H pk (nI t).toNatClampNeg)], H)) (C := [mu_isr H (some pk) 100, vp_in (nI t) (mu_n H pk)]) rfl (show (mu_isr H (some pk) 100) ∧ (vp_in (nI t) (mu_n H pk)) from ⟨⟨rfl, Or.inl hv.2.1.2.2.1.2.1.2.1, hv.2.1.2.2.1.2.2.2.1⟩, (vp_in_nI (Nat.lt_of_lt_of_le ht hv.2.1.2.2.1.2.2.2.2.1) hv.2.1.2.2.1.2.2.2.2.2)⟩) ?_
    exact mw_of (fun _ => mu_ret rfl trivial ⟨_, _, rfl, hv, (vfk.rf (pk := pk) (pa := pa) (H := H))⟩)
  · -- 21
    obtain ⟨om1, ⟨om0_1, om1_1⟩, ol1, on1, oc1, oj1⟩ := hv.1.mod
    obtain ⟨⟨pa2, pb2, pc2⟩, ⟨pd2, pe2, pf2⟩, pg2, ph2, pi2⟩ := hv.1.row (k := 0) (by decide)
    obtain ⟨q, qr3, qn3⟩ := pf2 t ht
    obtain ⟨ra3, rb3, rc3, rd3⟩ := ar_at (i := t) pd2 (by decide) (by omega) (by omega)
    have re3 : mu_r H (D.loc 1) (nI t).toNatClampNeg = some q := by rw [rd3]; exact qr3
    obtain ⟨sa3, sb3, sc3, sd3⟩ := ar_at (i := t) pg2 (by decide) (by omega) (by omega)
    have se3 : mu_r H (D.loc 2) (nI t).toNatClampNeg = some (D.ip (pth2 (D.pr 0) t).2) := by rw [sd3]; exact (pi2 t ht).1
    have sj3 : (pth2 (D.pr 0) t).2 < D.n := (pi2 t ht).2
    refine mw_go mu_g435 (k := 3) (f1 := (26, [(0, .inr (.inr (some 169))), (1, .inl (nI t))], [.inr (.inr (mu_r H 169 18)), .inr (.inr (some 169))], H)) (C := [mu_is H (some 169) 1]) rfl (show mu_is H (some 169) 1 from hv.1.2.2.1.1) ?_
    refine mw_fr (f' := (26, [(0, .inr (.inr (some 169))), (1, .inl (nI t))], [.inr (.inr (some D.mp)), .inr (.inr (some 169))], H)) (by first | (rw [hv.1.2.2.1.2]; done) | (rw [hv.1.2.2.1.2]; rfl)) ?_
    refine mw_go mu_g435 (k := 1) (f1 := (29, [(0, .inr (.inr (some 169))), (1, .inl (nI t))], [.inr (.inr (mu_r H D.mp 7)), .inr (.inr (some 169))], H)) (C := [mu_is H (some D.mp) 16]) rfl (show mu_is H (some D.mp) 16 from om1) ?_
    refine mw_fr (f' := (29, [(0, .inr (.inr (some 169))), (1, .inl (nI t))], [.inr (.inr (some (D.loc 1))), .inr (.inr (some 169))], H)) (by first | (rw [(show mu_r H D.mp 7 = some (D.loc 1) from pa2)]; done) | (rw [(show mu_r H D.mp 7 = some (D.loc 1) from pa2)]; rfl)) ?_
    refine mw_go mu_g435 (k := 2) (f1 := (31, [(0, .inr (.inr (some 169))), (1, .inl (nI t))], [.inr (.inr (mu_r H (D.loc 1) (nI t).toNatClampNeg)), .inr (.inr (some 169))], H)) (C := [mu_is H (some (D.loc 1)) (mu_k H (D.loc 1)), 103 ≤ mu_k H (D.loc 1) ∧ mu_k H (D.loc 1) ≤ 110 ∧ mu_k H (D.loc 1) ≠ 108, vp_in (nI t) (mu_n H (D.loc 1))]) rfl (show (mu_is H (some (D.loc 1)) (mu_k H (D.loc 1))) ∧ (103 ≤ mu_k H (D.loc 1) ∧ mu_k H (D.loc 1) ≤ 110 ∧ mu_k H (D.loc 1) ≠ 108) ∧ (vp_in (nI t) (mu_n H (D.loc 1))) from ⟨ra3, rb3, rc3⟩) ?_
    refine mw_fr (f' := (31, [(0, .inr (.inr (some 169))), (1, .inl (nI t))], [.inr (.inr (some q)), .inr (.inr (some 169))], H)) (by first | (rw [re3]; done) | (rw [re3]; rfl)) ?_
    refine mw_go mu_g435 (k := 2) (f1 := (35, [(0, .inr (.inr (some 169))), (1, .inl (nI t))], [.inr (.inr (mu_r H 169 18)), .inr (.inr (some q)), .inr (.inr (some 169))], H)) (C := [mu_is H (some 169) 1]) rfl (show mu_is H (some 169) 1 from hv.1.2.2.1.1) ?_
    refine mw_fr (f' := (35, [(0, .inr (.inr (some 169))), (1, .inl (nI t))], [.inr (.inr (some D.mp)), .inr (.inr (some q)), .inr (.inr (some 169))], H)) (by first | (rw [hv.1.2.2.1.2]; done) | (rw [hv.1.2.2.1.2]; rfl)) ?_
    refine mw_go mu_g435 (k := 1) (f1 := (38, [(0, .inr (.inr (some 169))), (1, .inl (nI t))], [.inr (.inr (mu_r H D.mp 8)), .inr (.inr (some q)), .inr (.inr (some 169))], H)) (C := [mu_is H (some D.mp) 16]) rfl (show mu_is H (some D.mp) 16 from om1) ?_
    refine mw_fr (f' := (38, [(0, .inr (.inr (some 169))), (1, .inl (nI t))], [.inr (.inr (some (D.loc 2))), .inr (.inr (some q)), .inr (.inr (some 169))], H)) (by first | (rw [(show mu_r H D.mp 8 = some (D.loc 2) from pb2)]; done) | (rw [(show mu_r H D.mp 8 = some (D.loc 2) from pb2)]; rfl)) ?_
    refine mw_go mu_g435 (k := 2) (f1 := (40, [(0, .inr (.inr (some 169))), (1, .inl (nI t))], [.inr (.inr (mu_r H (D.loc 2) (nI t).toNatClampNeg)), .inr (.inr (some q)), .inr (.inr (some 169))], H)) (C := [mu_is H (some (D.loc 2)) (mu_k H (D.loc 2)), 103 ≤ mu_k H (D.loc 2) ∧ mu_k H (D.loc 2) ≤ 110 ∧ mu_k H (D.loc 2) ≠ 108, vp_in (nI t) (mu_n H (D.loc 2))]) rfl (show (mu_is H (some (D.loc 2)) (mu_k H (D.loc 2))) ∧ (103 ≤ mu_k H (D.loc 2) ∧ mu_k H (D.loc 2) ≤ 110 ∧ mu_k H (D.loc 2) ≠ 108) ∧ (vp_in (nI t) (mu_n H (D.loc 2))) from ⟨sa3, sb3, sc3⟩) ?_
    refine mw_fr (f' := (40, [(0, .inr (.inr (some 169))), (1, .inl (nI t))], [.inr (.inr (some (D.ip (pth2 (D.pr 0) t).2))), .inr (.inr (some q)), .inr (.inr (some 169))], H)) (by first | (rw [se3]; done) | (rw [se3]; rfl)) ?_
    refine mw_cI (fun _ => rfl) (show mu_is H (some 169) 1 from hv.1.2.2.1.1) (hq q H D.lv hv qn3) (fun x4 H4 q4 => ?_)
    obtain ⟨hv4, hf4⟩ := q4
    refine mw_go mu_g435 (k := 3) (f1 := (48, [(2, .inl x4), (0, .inr (.inr (some 169))), (1, .inl (nI t))], [.inr (.inr (mu_r H4 169 40))], H4)) (C := [mu_is H4 (some 169) 1]) rfl (show mu_is H4 (some 169) 1 from hv4.1.2.2.1.1) ?_
    refine mw_fr (f' := (48, [(2, .inl x4), (0, .inr (.inr (some 169))), (1, .inl (nI t))], [.inr (.inr (some pk))], H4)) (by first | (rw [hv4.2.1.2.2.1.1]; done) | (rw [hv4.2.1.2.2.1.1]; rfl)) ?_
    refine mw_go mu_g435 (k := 3) (f1 := (51, [(2, .inl x4), (0, .inr (.inr (some 169))), (1, .inl (nI t))], [], (mu_si H4 pk (nI t).toNatClampNeg x4))) (C := [mu_is H4 (some pk) 100, vp_in (nI t) (mu_n H4 pk)]) rfl (show (mu_is H4 (some pk) 100) ∧ (vp_in (nI t) (mu_n H4 pk)) from ⟨⟨rfl, hv4.2.1.2.2.1.2.1.2.1, hv4.2.1.2.2.1.2.2.2.1⟩, (vp_in_nI (Nat.lt_of_lt_of_le ht hv4.2.1.2.2.1.2.2.2.2.1) hv4.2.1.2.2.1.2.2.2.2.2)⟩) ?_
    refine mw_fr (f' := (51, [(2, .inl x4), (0, .inr (.inr (some 169))), (1, .inl (nI t))], [], (mu_si H4 pk t x4))) (by rw [nI_clamp (show t < 2 ^ 31 by omega)]) ?_
    have w1 := hv4.wk (s := t) (x := x4)
    have g1 := vfk.wk (s := t) (x := x4) ((vfk.rf (pk := pk) (pa := pa) (H := H)).tr hf4) (gndl9 hv4.2.1.2.2.1.2.1.1)
    obtain ⟨K, eK⟩ : ∃ K, K = (mu_si H4 pk t x4) := ⟨_, rfl⟩
    rw [← eK] at w1 g1 ⊢
    clear eK
    refine mw_go mu_g435 (k := 2) (f1 := (55, [(2, .inl x4), (0, .inr (.inr (some 169))), (1, .inl (nI t))], [.inr (.inr (mu_r K 169 41))], K)) (C := [mu_is K (some 169) 1]) rfl (show mu_is K (some 169) 1 from w1.1.2.2.1.1) ?_
    refine mw_fr (f' := (55, [(2, .inl x4), (0, .inr (.inr (some 169))), (1, .inl (nI t))], [.inr (.inr (some pa))], K)) (by first | (rw [w1.2.1.2.2.2.1]; done) | (rw [w1.2.1.2.2.2.1]; rfl)) ?_
    refine mw_go mu_g435 (k := 4) (f1 := (61, [(2, .inl x4), (0, .inr (.inr (some 169))), (1, .inl (nI t))], [], (mu_sl K pa (nI t).toNatClampNeg (mu_l K 169 42)))) (C := [mu_is K (some 169) 1, mu_is K (some pa) 102, vp_in (nI t) (mu_n K pa)]) rfl (show (mu_is K (some 169) 1) ∧ (mu_is K (some pa) 102) ∧ (vp_in (nI t) (mu_n K pa)) from ⟨w1.1.2.2.1.1, ⟨rfl, w1.2.1.2.2.2.2.1.2.1, w1.2.1.2.2.2.2.2.2.1⟩, (vp_in_nI (Nat.lt_of_lt_of_le ht w1.2.1.2.2.2.2.2.2.2.1) w1.2.1.2.2.2.2.2.2.2.2)⟩) ?_
    refine mw_fr (f' := (61, [(2, .inl x4), (0, .inr (.inr (some 169))), (1, .inl (nI t))], [], (mu_sl K pa t (mu_l K 169 42)))) (by rw [nI_clamp (show t < 2 ^ 31 by omega)]) ?_
    refine mw_go mu_g435 (k := 1) (f1 := (62, [(2, .inl x4), (0, .inr (.inr (some 169))), (1, .inl (nI t))], [.inl x4], (mu_sl K pa t (mu_l K 169 42)))) (C := []) rfl trivial ?_
    exact mw_of (fun _ => mu_ret rfl trivial ⟨_, _, rfl, w1.wa, g1.wa⟩)
theorem rp_v63 {tr : Prop} {Hb H : mu_H} {D : MD} {ph pt pk pa j f l dd q : Nat} {c : Tre} (hb : mdb D) (hy : mdy D) (hj : j < D.n) (hv : vsta tr Hb D ph pt pk pa H) (hn : nd Hb D.G dd q c) (hw : vcw tr D j (l + 1) c) (hst : hlx D (l + 1) j c) (ek : tkd c = 63) : mu_W (mu_D (f + 2 * l + 7)) mu_m411 (0, [(0, .inr (.inr (some 169))), (1, .inr (.inr (some q))), (2, .inr (.inr (some (D.ip j))))], [], H) (fun r => ∃ x H1, r = (.inl (some (.inl x)), H1) ∧ vsta tr Hb D ph pt pk pa H1 ∧ vfk pk pa H H1) := by
  obtain ⟨kd1, ⟨is1, nF1, lt1⟩, ⟨st1, sr1, sf1⟩, ⟨n2_1, n3_1, n7_1⟩, nm1, ar1, aq1, aF1, ai1, ⟨al1, am1, ax1⟩, ch1, dp1⟩ := nd.ra (c := c) hn hv.1.2.1
  refine mw_go mu_g411 (k := 2) (f1 := (4, [(0, .inr (.inr (some 169))), (1, .inr (.inr (some q))), (2, .inr (.inr (some (D.ip j))))], [.inl (mu_i H q 7)], H)) (C := [mu_is H (some q) 18]) rfl (show mu_is H (some q) 18 from is1) ?_
  refine mw_fr (f' := (4, [(0, .inr (.inr (some 169))), (1, .inr (.inr (some q))), (2, .inr (.inr (some (D.ip j))))], [.inl (cof (txt (tkd c)))], H)) (by first | (rw [n7_1]; done) | (rw [n7_1]; rfl)) ?_
  refine mw_fr (f' := (4, [(0, .inr (.inr (some 169))), (1, .inr (.inr (some q))), (2, .inr (.inr (some (D.ip j))))], [.inl (1 : Int32)], H)) (by rw [show (cof (txt (tkd c))) = (1 : Int32) by rw [ek]; decide]) ?_
  refine mw_swi (i := 0) rfl (by decide) rfl (by decide) (by decide) ?_
  show mu_W _ mu_m411 (68, [(0, .inr (.inr (some 169))), (1, .inr (.inr (some q))), (2, .inr (.inr (some (D.ip j))))], [], H) _
  refine mw_go mu_g411 (k := 2) (f1 := (72, [(0, .inr (.inr (some 169))), (1, .inr (.inr (some q))), (2, .inr (.inr (some (D.ip j))))], [.inl (mu_i H q 3)], H)) (C := [mu_is H (some q) 18]) rfl (show mu_is H (some q) 18 from is1) ?_
  exact mw_of (fun _ => mu_ret rfl trivial ⟨_, _, rfl, hv, (vfk.rf (pk := pk) (pa := pa) (H := H))⟩)
theorem rp_v54 {tr : Prop} {Hb H : mu_H} {D : MD} {ph pt pk pa j f l dd q : Nat} {c : Tre} (hb : mdb D) (hy : mdy D) (hj : j < D.n) (hv : vsta tr Hb D ph pt pk pa H) (hn : nd Hb D.G dd q c) (hw : vcw tr D j (l + 1) c) (hst : hlx D (l + 1) j c) (ek : tkd c = 54) : mu_W (mu_D (f + 2 * l + 7)) mu_m411 (0, [(0, .inr (.inr (some 169))), (1, .inr (.inr (some q))), (2, .inr (.inr (some (D.ip j))))], [], H) (fun r => ∃ x H1, r = (.inl (some (.inl x)), H1) ∧ vsta tr Hb D ph pt pk pa H1 ∧ vfk pk pa H H1) := by
  obtain ⟨kd1, ⟨is1, nF1, lt1⟩, ⟨st1, sr1, sf1⟩, ⟨n2_1, n3_1, n7_1⟩, nm1, ar1, aq1, aF1, ai1, ⟨al1, am1, ax1⟩, ch1, dp1⟩ := nd.ra (c := c) hn hv.1.2.1
  refine mw_go mu_g411 (k := 2) (f1 := (4, [(0, .inr (.inr (some 169))), (1, .inr (.inr (some q))), (2, .inr (.inr (some (D.ip j))))], [.inl (mu_i H q 7)], H)) (C := [mu_is H (some q) 18]) rfl (show mu_is H (some q) 18 from is1) ?_
  refine mw_fr (f' := (4, [(0, .inr (.inr (some 169))), (1, .inr (.inr (some q))), (2, .inr (.inr (some (D.ip j))))], [.inl (cof (txt (tkd c)))], H)) (by first | (rw [n7_1]; done) | (rw [n7_1]; rfl)) ?_
  refine mw_fr (f' := (4, [(0, .inr (.inr (some 169))), (1, .inr (.inr (some q))), (2, .inr (.inr (some (D.ip j))))], [.inl (2 : Int32)], H)) (by rw [show (cof (txt (tkd c))) = (2 : Int32) by rw [ek]; decide]) ?_
  refine mw_swi (i := 1) rfl (by decide) rfl (by decide) (by decide) ?_
  show mu_W _ mu_m411 (73, [(0, .inr (.inr (some 169))), (1, .inr (.inr (some q))), (2, .inr (.inr (some (D.ip j))))], [], H) _
  refine mw_go mu_g411 (k := 1) (f1 := (74, [(0, .inr (.inr (some 169))), (1, .inr (.inr (some q))), (2, .inr (.inr (some (D.ip j))))], [.inl (1 : Int32)], H)) (C := []) rfl trivial ?_
  exact mw_of (fun _ => mu_ret rfl trivial ⟨_, _, rfl, hv, (vfk.rf (pk := pk) (pa := pa) (H := H))⟩)
theorem rp_v55 {tr : Prop} {Hb H : mu_H} {D : MD} {ph pt pk pa j f l dd q : Nat} {c : Tre} (hb : mdb D) (hy : mdy D) (hj : j < D.n) (hv : vsta tr Hb D ph pt pk pa H) (hn : nd Hb D.G dd q c) (hw : vcw tr D j (l + 1) c) (hst : hlx D (l + 1) j c) (ek : tkd c = 55) : mu_W (mu_D (f + 2 * l + 7)) mu_m411 (0, [(0, .inr (.inr (some 169))), (1, .inr (.inr (some q))), (2, .inr (.inr (some (D.ip j))))], [], H) (fun r => ∃ x H1, r = (.inl (some (.inl x)), H1) ∧ vsta tr Hb D ph pt pk pa H1 ∧ vfk pk pa H H1) := by
  obtain ⟨kd1, ⟨is1, nF1, lt1⟩, ⟨st1, sr1, sf1⟩, ⟨n2_1, n3_1, n7_1⟩, nm1, ar1, aq1, aF1, ai1, ⟨al1, am1, ax1⟩, ch1, dp1⟩ := nd.ra (c := c) hn hv.1.2.1
  refine mw_go mu_g411 (k := 2) (f1 := (4, [(0, .inr (.inr (some 169))), (1, .inr (.inr (some q))), (2, .inr (.inr (some (D.ip j))))], [.inl (mu_i H q 7)], H)) (C := [mu_is H (some q) 18]) rfl (show mu_is H (some q) 18 from is1) ?_
  refine mw_fr (f' := (4, [(0, .inr (.inr (some 169))), (1, .inr (.inr (some q))), (2, .inr (.inr (some (D.ip j))))], [.inl (cof (txt (tkd c)))], H)) (by first | (rw [n7_1]; done) | (rw [n7_1]; rfl)) ?_
  refine mw_fr (f' := (4, [(0, .inr (.inr (some 169))), (1, .inr (.inr (some q))), (2, .inr (.inr (some (D.ip j))))], [.inl (3 : Int32)], H)) (by rw [show (cof (txt (tkd c))) = (3 : Int32) by rw [ek]; decide]) ?_
  refine mw_swi (i := 2) rfl (by decide) rfl (by decide) (by decide) ?_
  show mu_W _ mu_m411 (75, [(0, .inr (.inr (some 169))), (1, .inr (.inr (some q))), (2, .inr (.inr (some (D.ip j))))], [], H) _
  refine mw_go mu_g411 (k := 1) (f1 := (76, [(0, .inr (.inr (some 169))), (1, .inr (.inr (some q))), (2, .inr (.inr (some (D.ip j))))], [.inl (0 : Int32)], H)) (C := []) rfl trivial ?_
  exact mw_of (fun _ => mu_ret rfl trivial ⟨_, _, rfl, hv, (vfk.rf (pk := pk) (pa := pa) (H := H))⟩)
theorem rp_v64 {tr : Prop} {Hb H : mu_H} {D : MD} {ph pt pk pa j f l dd q : Nat} {c : Tre} (hb : mdb D) (hy : mdy D) (hj : j < D.n) (hv : vsta tr Hb D ph pt pk pa H) (hn : nd Hb D.G dd q c) (hw : vcw tr D j (l + 1) c) (hst : hlx D (l + 1) j c) (ek : tkd c = 64) (hsd : ∀ t, usz D j 1 c t → sdkk tr Hb D ph pt pk pa (f + 2 * l + 7) t) : mu_W (mu_D (f + 2 * l + 7)) mu_m411 (0, [(0, .inr (.inr (some 169))), (1, .inr (.inr (some q))), (2, .inr (.inr (some (D.ip j))))], [], H) (fun r => ∃ x H1, r = (.inl (some (.inl x)), H1) ∧ vsta tr Hb D ph pt pk pa H1 ∧ vfk pk pa H H1) := by
  obtain ⟨kd1, ⟨is1, nF1, lt1⟩, ⟨st1, sr1, sf1⟩, ⟨n2_1, n3_1, n7_1⟩, nm1, ar1, aq1, aF1, ai1, ⟨al1, am1, ax1⟩, ch1, dp1⟩ := nd.ra (c := c) hn hv.1.2.1
  refine mw_go mu_g411 (k := 2) (f1 := (4, [(0, .inr (.inr (some 169))), (1, .inr (.inr (some q))), (2, .inr (.inr (some (D.ip j))))], [.inl (mu_i H q 7)], H)) (C := [mu_is H (some q) 18]) rfl (show mu_is H (some q) 18 from is1) ?_
  refine mw_fr (f' := (4, [(0, .inr (.inr (some 169))), (1, .inr (.inr (some q))), (2, .inr (.inr (some (D.ip j))))], [.inl (cof (txt (tkd c)))], H)) (by first | (rw [n7_1]; done) | (rw [n7_1]; rfl)) ?_
  refine mw_fr (f' := (4, [(0, .inr (.inr (some 169))), (1, .inr (.inr (some q))), (2, .inr (.inr (some (D.ip j))))], [.inl (4 : Int32)], H)) (by rw [show (cof (txt (tkd c))) = (4 : Int32) by rw [ek]; decide]) ?_
  refine mw_swi (i := 3) rfl (by decide) rfl (by decide) (by decide) ?_
  show mu_W _ mu_m411 (77, [(0, .inr (.inr (some 169))), (1, .inr (.inr (some q))), (2, .inr (.inr (some (D.ip j))))], [], H) _
  have nk : tkd c ∈ [64, 33] := by rw [ek]; decide
  have hns : 0 < (tns c).length := (hw.1.toN.1 nk).1
  obtain ⟨nb, nr, _⟩ := nm1.rd hns
  have nm2 := nm1
  rw [nr] at nm2
  have b4 := hb.2.1
  have b5 := hb.2.2.1
  refine mw_go mu_g411 (k := 4) (f1 := (83, [(0, .inr (.inr (some 169))), (1, .inr (.inr (some q))), (2, .inr (.inr (some (D.ip j))))], [.inr (.inr (mu_r H q 4)), .inr (.inr (some (D.ip j))), .inr (.inr (some 169))], H)) (C := [mu_is H (some q) 18]) rfl (show mu_is H (some q) 18 from is1) ?_
  refine mw_fr (f' := (83, [(0, .inr (.inr (some 169))), (1, .inr (.inr (some q))), (2, .inr (.inr (some (D.ip j))))], [.inr (.inr (some nb)), .inr (.inr (some (D.ip j))), .inr (.inr (some 169))], H)) (by first | (rw [nr]; done) | (rw [nr]; rfl)) ?_
  refine mw_cE (as := [.inr (.inr (some (D.ip j))), .inr (.inr (some nb))]) (o := (some 169)) (S1 := []) rfl rfl rfl rfl (Nat.le_of_ble_eq_true rfl) (by decide) (show mu_is H (some 169) 1 from hv.1.2.2.1.1) rfl (by decide) (rp_fnd (d := f + 2 * l + 1) hv.1 hj nm2 hns) (fun E9 e9 => absurd e9.1 (hw.2.1.f nk)) (fun v9 H2 e9 => ?_)
  obtain ⟨rfl, p1, p2⟩ := e9
  show mu_W _ mu_m411 (86, [(0, .inr (.inr (some 169))), (1, .inr (.inr (some q))), (2, .inr (.inr (some (D.ip j))))], [], H2) _
  have hv2 := hv.ff p1
  have fb := fno_b hb hj p2
  have p3 := p2
  obtain ⟨a, ea⟩ : ∃ a, mu_i H2 169 19 = a := ⟨_, rfl⟩
  obtain ⟨y, ey⟩ : ∃ y, mu_i H2 169 20 = y := ⟨_, rfl⟩
  obtain ⟨s, es⟩ : ∃ s, mu_i H2 169 21 = s := ⟨_, rfl⟩
  rw [ea, ey, es] at fb p3
  refine mw_go mu_g411 (k := 2) (f1 := (90, [(0, .inr (.inr (some 169))), (1, .inr (.inr (some q))), (2, .inr (.inr (some (D.ip j))))], [.inl (mu_i H2 169 19)], H2)) (C := [mu_is H2 (some 169) 1]) rfl (show mu_is H2 (some 169) 1 from hv2.1.2.2.1.1) ?_
  refine mw_fr (f' := (90, [(0, .inr (.inr (some 169))), (1, .inr (.inr (some q))), (2, .inr (.inr (some (D.ip j))))], [.inl a], H2)) (by first | (rw [ea]; done) | (rw [ea]; rfl)) ?_
  refine mw_if (P := a < 0) (a := 111) (b := 93) (fun _ => rfl) trivial (fun h5 => ?_) (fun h5 => ?_)
  · -- 111
    refine mw_go mu_g411 (k := 2) (f1 := (115, [(0, .inr (.inr (some 169))), (1, .inr (.inr (some q))), (2, .inr (.inr (some (D.ip j))))], [.inl (mu_i H2 169 20)], H2)) (C := [mu_is H2 (some 169) 1]) rfl (show mu_is H2 (some 169) 1 from hv2.1.2.2.1.1) ?_
    refine mw_fr (f' := (115, [(0, .inr (.inr (some 169))), (1, .inr (.inr (some q))), (2, .inr (.inr (some (D.ip j))))], [.inl y], H2)) (by first | (rw [ey]; done) | (rw [ey]; rfl)) ?_
    refine mw_if (P := y < 0) (a := 123) (b := 118) (fun _ => rfl) trivial (fun h6 => ?_) (fun h6 => ?_)
    · -- 123
      have hs0 : ¬ s < 0 := fb.2.2.2.elim (fun z => absurd h5 z) (fun z => z.elim (fun z => absurd h6 z) id)
      obtain ⟨t, ht, rfl⟩ := fb.2.2.1.resolve_left (fun e => hs0 (by rw [e]; decide))
      have st := hsd t (Or.inl ⟨nk, _, p3, rfl, ht⟩)
      refine mw_go mu_g411 (k := 3) (f1 := (128, [(0, .inr (.inr (some 169))), (1, .inr (.inr (some q))), (2, .inr (.inr (some (D.ip j))))], [.inl (mu_i H2 169 21), .inr (.inr (some 169))], H2)) (C := [mu_is H2 (some 169) 1]) rfl (show mu_is H2 (some 169) 1 from hv2.1.2.2.1.1) ?_
      refine mw_fr (f' := (128, [(0, .inr (.inr (some 169))), (1, .inr (.inr (some q))), (2, .inr (.inr (some (D.ip j))))], [.inl (nI t), .inr (.inr (some 169))], H2)) (by first | (rw [es]; done) | (rw [es]; rfl)) ?_
      refine mw_cI (fun _ => rfl) (show mu_is H2 (some 169) 1 from hv2.1.2.2.1.1) (st _ hv2) (fun x3 H3 q3 => ?_)
      obtain ⟨hv3, hf3⟩ := q3
      exact mw_of (fun _ => mu_ret rfl trivial ⟨_, _, rfl, hv3, ((ffr.vk (pk := pk) (pa := pa) p1).tr hf3)⟩)
    · -- 118
      refine mw_go mu_g411 (k := 2) (f1 := (122, [(0, .inr (.inr (some 169))), (1, .inr (.inr (some q))), (2, .inr (.inr (some (D.ip j))))], [.inl (mu_i H2 169 20)], H2)) (C := [mu_is H2 (some 169) 1]) rfl (show mu_is H2 (some 169) 1 from hv2.1.2.2.1.1) ?_
      refine mw_fr (f' := (122, [(0, .inr (.inr (some 169))), (1, .inr (.inr (some q))), (2, .inr (.inr (some (D.ip j))))], [.inl y], H2)) (by first | (rw [ey]; done) | (rw [ey]; rfl)) ?_
      exact mw_of (fun _ => mu_ret rfl trivial ⟨_, _, rfl, hv2, (ffr.vk (pk := pk) (pa := pa) p1)⟩)
  · -- 93
    obtain ⟨v, hvv, rfl⟩ := fb.1.resolve_left (fun e => h5 (by rw [e]; decide))
    obtain ⟨kk, kh4, ke4⟩ := hv2.2.2.2.1 v hvv
    have kx4 : mu_i H2 ph (nI v).toNatClampNeg = nI kk := by rw [nI_clamp (show v < 2 ^ 31 by omega)]; exact ke4
    refine mw_go mu_g411 (k := 3) (f1 := (98, [(0, .inr (.inr (some 169))), (1, .inr (.inr (some q))), (2, .inr (.inr (some (D.ip j))))], [.inl (mu_i H2 169 19), .inr (.inr (some 169))], H2)) (C := [mu_is H2 (some 169) 1]) rfl (show mu_is H2 (some 169) 1 from hv2.1.2.2.1.1) ?_
    refine mw_fr (f' := (98, [(0, .inr (.inr (some 169))), (1, .inr (.inr (some q))), (2, .inr (.inr (some (D.ip j))))], [.inl (nI v), .inr (.inr (some 169))], H2)) (by first | (rw [ea]; done) | (rw [ea]; rfl)) ?_
    refine mw_go mu_g411 (k := 2) (f1 := (102, [(0, .inr (.inr (some 169))), (1, .inr (.inr (some q))), (2, .inr (.inr (some (D.ip j))))], [.inr (.inr (mu_r H2 169 30)), .inl (nI v), .inr (.inr (some 169))], H2)) (C := [mu_is H2 (some 169) 1]) rfl (show mu_is H2 (some 169) 1 from hv2.1.2.2.1.1) ?_
    refine mw_fr (f' := (102, [(0, .inr (.inr (some 169))), (1, .inr (.inr (some q))), (2, .inr (.inr (some (D.ip j))))], [.inr (.inr (some ph)), .inl (nI v), .inr (.inr (some 169))], H2)) (by first | (rw [hv2.2.1.1.1]; done) | (rw [hv2.2.1.1.1]; rfl)) ?_
    refine mw_go mu_g411 (k := 2) (f1 := (106, [(0, .inr (.inr (some 169))), (1, .inr (.inr (some q))), (2, .inr (.inr (some (D.ip j))))], [.inl (mu_i H2 169 19), .inr (.inr (some ph)), .inl (nI v), .inr (.inr (some 169))], H2)) (C := [mu_is H2 (some 169) 1]) rfl (show mu_is H2 (some 169) 1 from hv2.1.2.2.1.1) ?_
    refine mw_fr (f' := (106, [(0, .inr (.inr (some 169))), (1, .inr (.inr (some q))), (2, .inr (.inr (some (D.ip j))))], [.inl (nI v), .inr (.inr (some ph)), .inl (nI v), .inr (.inr (some 169))], H2)) (by first | (rw [ea]; done) | (rw [ea]; rfl)) ?_
    refine mw_go mu_g411 (k := 1) (f1 := (107, [(0, .inr (.inr (some 169))), (1, .inr (.inr (some q))), (2, .inr (.inr (some (D.ip j))))], [.inl (mu_i H2 ph (nI v).toNatClampNeg), .inl (nI v), .inr (.inr (some 169))], H2)) (C := [mu_isr H2 (some ph) 100, vp_in (nI v) (mu_n H2 ph)]) rfl (show (mu_isr H2 (some ph) 100) ∧ (vp_in (nI v) (mu_n H2 ph)) from ⟨⟨rfl, Or.inl hv2.2.1.1.2.1.2.1, hv2.2.1.1.2.2.2.1⟩, (vp_in_nI (Nat.lt_of_lt_of_le hvv hv2.2.1.1.2.2.2.2.1) hv2.2.1.1.2.2.2.2.2)⟩) ?_
    refine mw_fr (f' := (107, [(0, .inr (.inr (some 169))), (1, .inr (.inr (some q))), (2, .inr (.inr (some (D.ip j))))], [.inl (nI kk), .inl (nI v), .inr (.inr (some 169))], H2)) (by first | (rw [kx4]; done) | (rw [kx4]; rfl)) ?_
    refine mw_cI (fun _ => rfl) (show mu_is H2 (some 169) 1 from hv2.1.2.2.1.1) (rp_valueAt (d := f + 2 * l + 3) hb hy hv2.1 hvv kh4) (fun x9 H9 q9 => ?_)
    rw [q9]
    show mu_W _ mu_m411 (110, [(0, .inr (.inr (some 169))), (1, .inr (.inr (some q))), (2, .inr (.inr (some (D.ip j))))], [.inl x9], H2) _
    exact mw_of (fun _ => mu_ret rfl trivial ⟨_, _, rfl, hv2, (ffr.vk (pk := pk) (pa := pa) p1)⟩)
theorem rp_v33 {tr : Prop} {Hb H : mu_H} {D : MD} {ph pt pk pa j f l dd q : Nat} {c : Tre} (hb : mdb D) (hy : mdy D) (hj : j < D.n) (hv : vsta tr Hb D ph pt pk pa H) (hn : nd Hb D.G dd q c) (hw : vcw tr D j (l + 1) c) (hst : hlx D (l + 1) j c) (ek : tkd c = 33) : mu_W (mu_D (f + 2 * l + 7)) mu_m411 (0, [(0, .inr (.inr (some 169))), (1, .inr (.inr (some q))), (2, .inr (.inr (some (D.ip j))))], [], H) (fun r => ∃ x H1, r = (.inl (some (.inl x)), H1) ∧ vsta tr Hb D ph pt pk pa H1 ∧ vfk pk pa H H1) := by
  obtain ⟨kd1, ⟨is1, nF1, lt1⟩, ⟨st1, sr1, sf1⟩, ⟨n2_1, n3_1, n7_1⟩, nm1, ar1, aq1, aF1, ai1, ⟨al1, am1, ax1⟩, ch1, dp1⟩ := nd.ra (c := c) hn hv.1.2.1
  refine mw_go mu_g411 (k := 2) (f1 := (4, [(0, .inr (.inr (some 169))), (1, .inr (.inr (some q))), (2, .inr (.inr (some (D.ip j))))], [.inl (mu_i H q 7)], H)) (C := [mu_is H (some q) 18]) rfl (show mu_is H (some q) 18 from is1) ?_
  refine mw_fr (f' := (4, [(0, .inr (.inr (some 169))), (1, .inr (.inr (some q))), (2, .inr (.inr (some (D.ip j))))], [.inl (cof (txt (tkd c)))], H)) (by first | (rw [n7_1]; done) | (rw [n7_1]; rfl)) ?_
  refine mw_fr (f' := (4, [(0, .inr (.inr (some 169))), (1, .inr (.inr (some q))), (2, .inr (.inr (some (D.ip j))))], [.inl (5 : Int32)], H)) (by rw [show (cof (txt (tkd c))) = (5 : Int32) by rw [ek]; decide]) ?_
  refine mw_swi (i := 4) rfl (by decide) rfl (by decide) (by decide) ?_
  show mu_W _ mu_m411 (132, [(0, .inr (.inr (some 169))), (1, .inr (.inr (some q))), (2, .inr (.inr (some (D.ip j))))], [], H) _
  have nk : tkd c ∈ [64, 33] := by rw [ek]; decide
  have hns : 0 < (tns c).length := (hw.1.toN.1 nk).1
  obtain ⟨nb, nr, _⟩ := nm1.rd hns
  have nm2 := nm1
  rw [nr] at nm2
  have b4 := hb.2.1
  have b5 := hb.2.2.1
  refine mw_go mu_g411 (k := 3) (f1 := (137, [(0, .inr (.inr (some 169))), (1, .inr (.inr (some q))), (2, .inr (.inr (some (D.ip j))))], [.inr (.inr (mu_r H q 4)), .inr (.inr (some 169))], H)) (C := [mu_is H (some q) 18]) rfl (show mu_is H (some q) 18 from is1) ?_
  refine mw_fr (f' := (137, [(0, .inr (.inr (some 169))), (1, .inr (.inr (some q))), (2, .inr (.inr (some (D.ip j))))], [.inr (.inr (some nb)), .inr (.inr (some 169))], H)) (by first | (rw [nr]; done) | (rw [nr]; rfl)) ?_
  refine mw_go mu_g411 (k := 1) (f1 := (138, [(0, .inr (.inr (some 169))), (1, .inr (.inr (some q))), (2, .inr (.inr (some (D.ip j))))], [.inr (.inr (some (D.ip j))), .inr (.inr (some nb)), .inr (.inr (some 169))], H)) (C := []) rfl trivial ?_
  refine mw_cE (as := [.inr (.inr (some nb)), .inr (.inr (some (D.ip j)))]) (o := (some 169)) (S1 := []) rfl rfl rfl rfl (Nat.le_of_ble_eq_true rfl) (by decide) (show mu_is H (some 169) 1 from hv.1.2.2.1.1) rfl (by decide) (rp_variableOf (d := f + 2 * l) hv.1 hj nm2 hns (hw.2.1.f nk)) (fun E9 e9 => by
    obtain ⟨⟨x, x1, x2⟩, _⟩ := e9
    obtain ⟨_, x', y1, y2⟩ := hw.2.2.2.1 ek
    rw [x1] at y1
    cases y1
    exact absurd x2 y2) (fun v9 H2 e9 => ?_)
  obtain ⟨a, rfl, ⟨x, x1, rfl, x3⟩, p2⟩ := e9
  show mu_W _ mu_m411 (141, [(0, .inr (.inr (some 169))), (1, .inr (.inr (some q))), (2, .inr (.inr (some (D.ip j))))], [.inl x.1], H2) _
  have hv2 := hv.ff p2
  obtain ⟨v, hvv, ev⟩ := (fno_b hb hj x1).1.resolve_left (fun e => x3 (by rw [e]; decide))
  rw [ev]
  show mu_W _ mu_m411 (141, [(0, .inr (.inr (some 169))), (1, .inr (.inr (some q))), (2, .inr (.inr (some (D.ip j))))], [.inl (nI v)], H2) _
  have tt := (hw.2.2.2.1 ek).1
  obtain ⟨kk, kh3, ke3⟩ := hv2.2.2.2.2 tt v hvv
  have kx3 : mu_i H2 pt (nI v).toNatClampNeg = nI kk := by rw [nI_clamp (show v < 2 ^ 31 by omega)]; exact ke3
  refine mw_go mu_g411 (k := 5) (f1 := (148, [(3, .inl (nI v)), (0, .inr (.inr (some 169))), (1, .inr (.inr (some q))), (2, .inr (.inr (some (D.ip j))))], [.inr (.inr (mu_r H2 169 31)), .inl (nI v), .inr (.inr (some 169))], H2)) (C := [mu_is H2 (some 169) 1]) rfl (show mu_is H2 (some 169) 1 from hv2.1.2.2.1.1) ?_
  refine mw_fr (f' := (148, [(3, .inl (nI v)), (0, .inr (.inr (some 169))), (1, .inr (.inr (some q))), (2, .inr (.inr (some (D.ip j))))], [.inr (.inr (some pt)), .inl (nI v), .inr (.inr (some 169))], H2)) (by first | (rw [hv2.2.1.2.1.1]; done) | (rw [hv2.2.1.2.1.1]; rfl)) ?_
  refine mw_go mu_g411 (k := 2) (f1 := (150, [(3, .inl (nI v)), (0, .inr (.inr (some 169))), (1, .inr (.inr (some q))), (2, .inr (.inr (some (D.ip j))))], [.inl (mu_i H2 pt (nI v).toNatClampNeg), .inl (nI v), .inr (.inr (some 169))], H2)) (C := [mu_isr H2 (some pt) 100, vp_in (nI v) (mu_n H2 pt)]) rfl (show (mu_isr H2 (some pt) 100) ∧ (vp_in (nI v) (mu_n H2 pt)) from ⟨⟨rfl, Or.inl hv2.2.1.2.1.2.1.2.1, hv2.2.1.2.1.2.2.2.1⟩, (vp_in_nI (Nat.lt_of_lt_of_le hvv hv2.2.1.2.1.2.2.2.2.1) hv2.2.1.2.1.2.2.2.2.2)⟩) ?_
  refine mw_fr (f' := (150, [(3, .inl (nI v)), (0, .inr (.inr (some 169))), (1, .inr (.inr (some q))), (2, .inr (.inr (some (D.ip j))))], [.inl (nI kk), .inl (nI v), .inr (.inr (some 169))], H2)) (by first | (rw [kx3]; done) | (rw [kx3]; rfl)) ?_
  refine mw_cI (fun _ => rfl) (show mu_is H2 (some 169) 1 from hv2.1.2.2.1.1) (rp_valueAt (d := f + 2 * l + 3) hb hy hv2.1 hvv kh3) (fun x9 H9 q9 => ?_)
  rw [q9]
  show mu_W _ mu_m411 (153, [(3, .inl (nI v)), (0, .inr (.inr (some 169))), (1, .inr (.inr (some q))), (2, .inr (.inr (some (D.ip j))))], [.inl x9], H2) _
  exact mw_of (fun _ => mu_ret rfl trivial ⟨_, _, rfl, hv2, (ffr.vk (pk := pk) (pa := pa) p2)⟩)
