/-! The reference: sortOf, variableOf -/
/-- PathProverModel.sortOf(I)I -/
abbrev mu_m469 : ev_M := (3, (some .int), [], ev_b469)
theorem mu_g469 : mu_good mu_m469 := mu_goodk ev_k469
/-- PathProverModel.variableOf([Ljava/lang/String;LPathProverModel$Instance;)I -/
abbrev mu_m436 : ev_M := (3, (some .int), [], ev_b436)
theorem mu_g436 : mu_good mu_m436 := mu_goodk ev_k436
/-- the TYPE of the VARIABLE v -/
def typ (D : MD) (v : Nat) : Tre := (pth2 (D.pr 1) v).1
/-- the TYPES are TYPES, and none is a MODULE's name -/
def mdy (D : MD) : Prop := ∀ v, v < (D.pr 1).length → tyw (typ D v) ∧ ¬ tkd (typ D v) = 72
/-- the sort of a VARIABLE: 1 truth, 2 number, 3 named -/
def sof (D : MD) (v : Nat) : Int32 := if tkd (typ D v) = 39 then 1 else if tkd (typ D v) = 69 ∧ tkd (tkk (typ D v) 0) = 70 then 3 else 2
theorem tyw.set {c : Tre} (h : tyw c) (hk : tkd c = 69) : 0 < tsn c := by
  rcases h with z | z | z | z
  · rw [z.1] at hk; exact absurd hk (by decide)
  · exact z.2.1
  · rw [z.1] at hk; exact absurd hk (by decide)
  · rw [z.1] at hk; exact absurd hk (by decide)
theorem rp_sortOf {Hb H : mu_H} {D : MD} {d v : Nat} (hb : mdb D) (hy : mdy D) (hr : rms Hb D H) (hv : v < (D.pr 1).length) : mu_TI (mu_D (d + 4)) 469 [.inr (.inr (some 169)), .inl (nI v)] H (fun x H1 => x = sof D v ∧ H1 = H) := by
  refine mu_meth (M := mu_m469) rfl rfl ?_
  refine mw_ht (mu_fn_of (show [0, 1].Nodup by decide)) ?_
  have b4 := hb.2.2.1
  obtain ⟨om1, ⟨om0_1, om1_1⟩, ol1, on1, oc1, oj1⟩ := hr.mod
  obtain ⟨⟨pa2, pb2, pc2⟩, ⟨pd2, pe2, pf2⟩, pg2, ph2, pi2⟩ := hr.row (k := 1) (by decide)
  obtain ⟨q, qr3, qn3⟩ := pf2 v hv
  obtain ⟨ra3, rb3, rc3, rd3⟩ := ar_at (i := v) pd2 (by decide) (by omega) (by omega)
  have re3 : mu_r H (D.loc 3) (nI v).toNatClampNeg = some q := by rw [rd3]; exact qr3
  obtain ⟨kd4, ⟨is4, nF4, lt4⟩, ⟨st4, sr4, sf4⟩, ⟨n2_4, n3_4, n7_4⟩, nm4, ar4, aq4, aF4, ai4, ⟨al4, am4, ax4⟩, ch4, dp4⟩ := nd.ra (c := (typ D v)) qn3 hr.2.1
  refine mw_go mu_g469 (k := 2) (f1 := (4, [(0, .inr (.inr (some 169))), (1, .inl (nI v))], [.inr (.inr (mu_r H 169 18))], H)) (C := [mu_is H (some 169) 1]) rfl (show mu_is H (some 169) 1 from hr.2.2.1.1) ?_
  refine mw_fr (f' := (4, [(0, .inr (.inr (some 169))), (1, .inl (nI v))], [.inr (.inr (some D.mp))], H)) (by first | (rw [hr.2.2.1.2]; done) | (rw [hr.2.2.1.2]; rfl)) ?_
  refine mw_go mu_g469 (k := 1) (f1 := (7, [(0, .inr (.inr (some 169))), (1, .inl (nI v))], [.inr (.inr (mu_r H D.mp 4))], H)) (C := [mu_is H (some D.mp) 16]) rfl (show mu_is H (some D.mp) 16 from om1) ?_
  refine mw_fr (f' := (7, [(0, .inr (.inr (some 169))), (1, .inl (nI v))], [.inr (.inr (some (D.loc 3)))], H)) (by first | (rw [(show mu_r H D.mp 4 = some (D.loc 3) from pa2)]; done) | (rw [(show mu_r H D.mp 4 = some (D.loc 3) from pa2)]; rfl)) ?_
  refine mw_go mu_g469 (k := 2) (f1 := (9, [(0, .inr (.inr (some 169))), (1, .inl (nI v))], [.inr (.inr (mu_r H (D.loc 3) (nI v).toNatClampNeg))], H)) (C := [mu_is H (some (D.loc 3)) (mu_k H (D.loc 3)), 103 ≤ mu_k H (D.loc 3) ∧ mu_k H (D.loc 3) ≤ 110 ∧ mu_k H (D.loc 3) ≠ 108, vp_in (nI v) (mu_n H (D.loc 3))]) rfl (show (mu_is H (some (D.loc 3)) (mu_k H (D.loc 3))) ∧ (103 ≤ mu_k H (D.loc 3) ∧ mu_k H (D.loc 3) ≤ 110 ∧ mu_k H (D.loc 3) ≠ 108) ∧ (vp_in (nI v) (mu_n H (D.loc 3))) from ⟨ra3, rb3, rc3⟩) ?_
  refine mw_fr (f' := (9, [(0, .inr (.inr (some 169))), (1, .inl (nI v))], [.inr (.inr (some q))], H)) (by first | (rw [re3]; done) | (rw [re3]; rfl)) ?_
  refine mw_go mu_g469 (k := 3) (f1 := (13, [(2, .inr (.inr (some q))), (0, .inr (.inr (some 169))), (1, .inl (nI v))], [.inr (.inr (some 1000039)), .inr (.inr (some q))], H)) (C := []) rfl trivial ?_
  refine mw_cIe (fun _ => rfl) (show mu_is H (some q) 18 from is4) (agr.isL (e := d) (j := 39) qn3 hr.2.1 (by decide)) ?_
  refine mw_if (P := (if tkd (typ D v) = 39 then 1 else 0) = 0) (a := 23) (b := 19) (fun _ => rfl) trivial (fun hi5 => ?_) (fun hi5 => ?_)
  · -- 23
    have ek5 : ¬ tkd (typ D v) = 39 := fun e => by rw [if_pos e] at hi5; exact absurd hi5 (by decide)
    refine mw_go mu_g469 (k := 2) (f1 := (27, [(2, .inr (.inr (some q))), (0, .inr (.inr (some 169))), (1, .inl (nI v))], [.inr (.inr (some 1000069)), .inr (.inr (some q))], H)) (C := []) rfl trivial ?_
    refine mw_cIe (fun _ => rfl) (show mu_is H (some q) 18 from is4) (agr.isL (e := d) (j := 69) qn3 hr.2.1 (by decide)) ?_
    refine mw_if (P := (if tkd (typ D v) = 69 then 1 else 0) = 0) (a := 52) (b := 33) (fun _ => rfl) trivial (fun hi6 => ?_) (fun hi6 => ?_)
    · -- 52
      have ek6 : ¬ tkd (typ D v) = 69 := fun e => by rw [if_pos e] at hi6; exact absurd hi6 (by decide)
      refine mw_go mu_g469 (k := 1) (f1 := (53, [(2, .inr (.inr (some q))), (0, .inr (.inr (some 169))), (1, .inl (nI v))], [.inl (2 : Int32)], H)) (C := []) rfl trivial ?_
      exact mw_of (fun _ => mu_ret rfl trivial ⟨_, _, rfl, (by rw [sof, if_neg ek5, if_neg (fun z => ek6 z.1)]), rfl⟩)
    · -- 33
      have ek6 : tkd (typ D v) = 69 := Decidable.byContradiction (fun e => hi6 (if_neg e))
      have t0 := (hy v hv).1.set ek6
      obtain ⟨y, yr7, yn7⟩ := ch4 0 t0
      have yn7 : nd Hb D.G (D.lv - 1) y (tkk (typ D v) 0) := yn7
      obtain ⟨b1_7, b2_7, b3_7, b4_7⟩ := ar_at ai4 (by decide) (Nat.lt_of_lt_of_le t0 al4) (Nat.lt_of_le_of_lt ax4 (by decide))
      have y2_7 : mu_r H ar4 (0 : Int32).toNatClampNeg = some y := yr7
      obtain ⟨kd8, ⟨is8, nF8, lt8⟩, ⟨st8, sr8, sf8⟩, ⟨n2_8, n3_8, n7_8⟩, nm8, ar8, aq8, aF8, ai8, ⟨al8, am8, ax8⟩, ch8, dp8⟩ := nd.ra (c := (tkk (typ D v) 0)) yn7 hr.2.1
      refine mw_go mu_g469 (k := 2) (f1 := (37, [(2, .inr (.inr (some q))), (0, .inr (.inr (some 169))), (1, .inl (nI v))], [.inr (.inr (mu_r H q 1))], H)) (C := [mu_is H (some q) 18]) rfl (show mu_is H (some q) 18 from is4) ?_
      refine mw_fr (f' := (37, [(2, .inr (.inr (some q))), (0, .inr (.inr (some 169))), (1, .inl (nI v))], [.inr (.inr (some ar4))], H)) (by first | (rw [aq4]; done) | (rw [aq4]; rfl)) ?_
      refine mw_go mu_g469 (k := 2) (f1 := (39, [(2, .inr (.inr (some q))), (0, .inr (.inr (some 169))), (1, .inl (nI v))], [.inr (.inr (mu_r H ar4 (0 : Int32).toNatClampNeg))], H)) (C := [mu_is H (some ar4) (mu_k H ar4), 103 ≤ mu_k H ar4 ∧ mu_k H ar4 ≤ 110 ∧ mu_k H ar4 ≠ 108, vp_in (0 : Int32) (mu_n H ar4)]) rfl (show (mu_is H (some ar4) (mu_k H ar4)) ∧ (103 ≤ mu_k H ar4 ∧ mu_k H ar4 ≤ 110 ∧ mu_k H ar4 ≠ 108) ∧ (vp_in (0 : Int32) (mu_n H ar4)) from ⟨b1_7, b2_7, b3_7⟩) ?_
      refine mw_fr (f' := (39, [(2, .inr (.inr (some q))), (0, .inr (.inr (some 169))), (1, .inl (nI v))], [.inr (.inr (some y))], H)) (by first | (rw [y2_7]; done) | (rw [y2_7]; rfl)) ?_
      refine mw_go mu_g469 (k := 1) (f1 := (42, [(2, .inr (.inr (some q))), (0, .inr (.inr (some 169))), (1, .inl (nI v))], [.inr (.inr (some 1000070)), .inr (.inr (some y))], H)) (C := []) rfl trivial ?_
      refine mw_cIe (fun _ => rfl) (show mu_is H (some y) 18 from is8) (agr.isL (e := d) (j := 70) yn7 hr.2.1 (by decide)) ?_
      refine mw_if (P := (if tkd (tkk (typ D v) 0) = 70 then 1 else 0) = 0) (a := 52) (b := 48) (fun _ => rfl) trivial (fun hi9 => ?_) (fun hi9 => ?_)
      · -- 52
        have ek9 : ¬ tkd (tkk (typ D v) 0) = 70 := fun e => by rw [if_pos e] at hi9; exact absurd hi9 (by decide)
        refine mw_go mu_g469 (k := 1) (f1 := (53, [(2, .inr (.inr (some q))), (0, .inr (.inr (some 169))), (1, .inl (nI v))], [.inl (2 : Int32)], H)) (C := []) rfl trivial ?_
        exact mw_of (fun _ => mu_ret rfl trivial ⟨_, _, rfl, (by rw [sof, if_neg ek5, if_neg (fun z => ek9 z.2)]), rfl⟩)
      · -- 48
        have ek9 : tkd (tkk (typ D v) 0) = 70 := Decidable.byContradiction (fun e => hi9 (if_neg e))
        refine mw_go mu_g469 (k := 2) (f1 := (53, [(2, .inr (.inr (some q))), (0, .inr (.inr (some 169))), (1, .inl (nI v))], [.inl (3 : Int32)], H)) (C := []) rfl trivial ?_
        exact mw_of (fun _ => mu_ret rfl trivial ⟨_, _, rfl, (by rw [sof, if_neg ek5, if_pos ⟨ek6, ek9⟩]), rfl⟩)
  · -- 19
    have ek5 : tkd (typ D v) = 39 := Decidable.byContradiction (fun e => hi5 (if_neg e))
    refine mw_go mu_g469 (k := 2) (f1 := (53, [(2, .inr (.inr (some q))), (0, .inr (.inr (some 169))), (1, .inl (nI v))], [.inl (1 : Int32)], H)) (C := []) rfl trivial ?_
    exact mw_of (fun _ => mu_ret rfl trivial ⟨_, _, rfl, (by rw [sof, if_pos ek5]), rfl⟩)
theorem rp_variableOf {Hb H : mu_H} {D : MD} {d j nb : Nat} {ns : List (List Int32)} (hr : rms Hb D H) (hj : j < D.n) (hnm : nmf H D.G (some nb) ns) (hns : 0 < ns.length) (hf : ¬ fno D j ns = none) : mu_TE 2 (mu_D (d + 7)) 436 [.inr (.inr (some 169)), .inr (.inr (some nb)), .inr (.inr (some (D.ip j)))] H (fun H1 => (∃ x, fno D j ns = some x ∧ x.1 < 0) ∧ ffr 1 H H1) (fun v H1 => ∃ a, v = some (.inl a) ∧ (∃ x, fno D j ns = some x ∧ x.1 = a ∧ ¬ a < 0) ∧ ffr 0 H H1) := by
  refine mu_meth (M := mu_m436) rfl rfl ?_
  refine mw_ht (mu_fn_of (show [0, 1, 2].Nodup by decide)) ?_
  refine mw_go mu_g436 (k := 3) (f1 := (3, [(0, .inr (.inr (some 169))), (1, .inr (.inr (some nb))), (2, .inr (.inr (some (D.ip j))))], [.inr (.inr (some nb)), .inr (.inr (some (D.ip j))), .inr (.inr (some 169))], H)) (C := []) rfl trivial ?_
  refine mw_cE (as := [.inr (.inr (some (D.ip j))), .inr (.inr (some nb))]) (o := (some 169)) (S1 := []) rfl rfl rfl rfl (Nat.le_of_ble_eq_true rfl) (by decide) (show mu_is H (some 169) 1 from hr.2.2.1.1) rfl (by decide) (rp_fnd (d := d) hr hj hnm hns) (fun E9 e9 => absurd e9.1 hf) (fun v9 H1 e9 => ?_)
  obtain ⟨rfl, p1, p2⟩ := e9
  show mu_W _ mu_m436 (6, [(0, .inr (.inr (some 169))), (1, .inr (.inr (some nb))), (2, .inr (.inr (some (D.ip j))))], [], H1) _
  have hr2 := p1.rms hr
  obtain ⟨a, ea⟩ : ∃ a, mu_i H1 169 19 = a := ⟨_, rfl⟩
  rw [ea] at p2
  refine mw_go mu_g436 (k := 3) (f1 := (11, [(0, .inr (.inr (some 169))), (1, .inr (.inr (some nb))), (2, .inr (.inr (some (D.ip j))))], [.inl (mu_i H1 169 19), .inr (.inr (some 169))], H1)) (C := [mu_is H1 (some 169) 1]) rfl (show mu_is H1 (some 169) 1 from hr2.2.2.1.1) ?_
  refine mw_fr (f' := (11, [(0, .inr (.inr (some 169))), (1, .inr (.inr (some nb))), (2, .inr (.inr (some (D.ip j))))], [.inl a, .inr (.inr (some 169))], H1)) (by first | (rw [ea]; done) | (rw [ea]; rfl)) ?_
  refine mw_if (P := a < 0) (a := 18) (b := 14) (fun _ => rfl) trivial (fun h1 => ?_) (fun h1 => ?_)
  · -- 18
    refine mw_go mu_g436 (k := 1) (f1 := (19, [(0, .inr (.inr (some 169))), (1, .inr (.inr (some nb))), (2, .inr (.inr (some (D.ip j))))], [.inl (0 : Int32), .inr (.inr (some 169))], H1)) (C := []) rfl trivial ?_
    exact mw_cE (as := [.inl (0 : Int32)]) (o := some 169) (S1 := []) rfl rfl rfl rfl (Nat.le_of_ble_eq_true rfl) (by decide) hr2.2.2.1.1 rfl (by decide) (rp_sound (x := 0)) (fun H9 e9 => by rw [e9.2]; exact Or.inl ⟨_, rfl, ⟨_, p2, h1⟩, (p1.ex)⟩) (fun v9 H9 e9 => absurd rfl e9.1)
  · -- 14
    refine mw_go mu_g436 (k := 2) (f1 := (19, [(0, .inr (.inr (some 169))), (1, .inr (.inr (some nb))), (2, .inr (.inr (some (D.ip j))))], [.inl (1 : Int32), .inr (.inr (some 169))], H1)) (C := []) rfl trivial ?_
    refine mw_cE (as := [.inl (1 : Int32)]) (o := some 169) (S1 := []) rfl rfl rfl rfl (Nat.le_of_ble_eq_true rfl) (by decide) hr2.2.2.1.1 rfl (by decide) (rp_sound (x := 1)) (fun H9 e9 => absurd e9.1 (by decide)) (fun v9 H9 e9 => ?_)
    obtain ⟨_, rfl, e9⟩ := e9
    rw [e9]
    clear e9 H9
    show mu_W _ mu_m436 (22, [(0, .inr (.inr (some 169))), (1, .inr (.inr (some nb))), (2, .inr (.inr (some (D.ip j))))], [], H1) _
    refine mw_go mu_g436 (k := 2) (f1 := (26, [(0, .inr (.inr (some 169))), (1, .inr (.inr (some nb))), (2, .inr (.inr (some (D.ip j))))], [.inl (mu_i H1 169 19)], H1)) (C := [mu_is H1 (some 169) 1]) rfl (show mu_is H1 (some 169) 1 from hr2.2.2.1.1) ?_
    refine mw_fr (f' := (26, [(0, .inr (.inr (some 169))), (1, .inr (.inr (some nb))), (2, .inr (.inr (some (D.ip j))))], [.inl a], H1)) (by first | (rw [ea]; done) | (rw [ea]; rfl)) ?_
    exact mw_of (fun _ => mu_ret rfl trivial (Or.inr ⟨_, _, rfl, a, rfl, ⟨_, p2, rfl, h1⟩, p1⟩))
