/-! The reference: sort, the first kinds -/
theorem rp_sr1 {Hb H : mu_H} {D : MD} {sp : Nat} {ss : Nat → Int32} {j l d dd q : Nat} {wh pl : Int32} {c : Tre} {R : Option Int32} (hb : mdb D) (hy : mdy D) (hj : j < D.n) (hp : pl = 0 ∨ pl = 1) (hr : rms Hb D H) (hh : sts H D sp ss) (hn : nd Hb D.G dd q c) (hx : exw (l + 1) c) (hk : nmk D j c) (hR : srt D j ss wh (l + 1) pl c = R) (hnx : ¬ tkd c = 63 → ¬ (tkd c = 54 ∨ tkd c = 55) → ¬ tkd c = 64 → ¬ tkd c = 33 → mu_W (mu_D (d + 2 * l + 9)) mu_m467 (127, [(0, .inr (.inr (some 169))), (1, .inr (.inr (some q))), (2, .inr (.inr (some (D.ip j)))), (3, .inl wh), (4, .inl pl)], [], H) (fun r => (∃ H1, r = (.inr 2, H1) ∧ R = none ∧ ffr 1 H H1) ∨ ∃ v H1, r = (.inl v, H1) ∧ ∃ x, v = some (.inl x) ∧ R = some x ∧ ffr 0 H H1)) : mu_W (mu_D (d + 2 * l + 9)) mu_m467 (0, [(0, .inr (.inr (some 169))), (1, .inr (.inr (some q))), (2, .inr (.inr (some (D.ip j)))), (3, .inl wh), (4, .inl pl)], [], H) (fun r => (∃ H1, r = (.inr 2, H1) ∧ R = none ∧ ffr 1 H H1) ∨ ∃ v H1, r = (.inl v, H1) ∧ ∃ x, v = some (.inl x) ∧ R = some x ∧ ffr 0 H H1) := by
  obtain ⟨kd1, ⟨is1, nF1, lt1⟩, ⟨st1, sr1, sf1⟩, ⟨n2_1, n3_1, n7_1⟩, nm1, ar1, aq1, aF1, ai1, ⟨al1, am1, ax1⟩, ch1, dp1⟩ := nd.ra (c := c) hn hr.2.1
  refine mw_go mu_g467 (k := 2) (f1 := (4, [(0, .inr (.inr (some 169))), (1, .inr (.inr (some q))), (2, .inr (.inr (some (D.ip j)))), (3, .inl wh), (4, .inl pl)], [.inr (.inr (some 1000063)), .inr (.inr (some q))], H)) (C := []) rfl trivial ?_
  refine mw_cIe (fun _ => rfl) (show mu_is H (some q) 18 from is1) (agr.isL (e := d + 2 * l + 6) (j := 63) hn hr.2.1 (by decide)) ?_
  refine mw_if (P := (if tkd c = 63 then 1 else 0) = 0) (a := 12) (b := 10) (fun _ => rfl) trivial (fun hi2 => ?_) (fun hi2 => ?_)
  · -- 12
    have ek2 : ¬ tkd c = 63 := fun e => by rw [if_pos e] at hi2; exact absurd hi2 (by decide)
    refine mw_go mu_g467 (k := 2) (f1 := (15, [(0, .inr (.inr (some 169))), (1, .inr (.inr (some q))), (2, .inr (.inr (some (D.ip j)))), (3, .inl wh), (4, .inl pl)], [.inr (.inr (some 1000054)), .inr (.inr (some q))], H)) (C := []) rfl trivial ?_
    refine mw_cIe (fun _ => rfl) (show mu_is H (some q) 18 from is1) (agr.isL (e := d + 2 * l + 6) (j := 54) hn hr.2.1 (by decide)) ?_
    refine mw_if (P := (if tkd c = 54 then 1 else 0) = 0) (a := 21) (b := 30) (fun _ => rfl) trivial (fun hi3 => ?_) (fun hi3 => ?_)
    · -- 21
      have ek3 : ¬ tkd c = 54 := fun e => by rw [if_pos e] at hi3; exact absurd hi3 (by decide)
      refine mw_go mu_g467 (k := 2) (f1 := (24, [(0, .inr (.inr (some 169))), (1, .inr (.inr (some q))), (2, .inr (.inr (some (D.ip j)))), (3, .inl wh), (4, .inl pl)], [.inr (.inr (some 1000055)), .inr (.inr (some q))], H)) (C := []) rfl trivial ?_
      refine mw_cIe (fun _ => rfl) (show mu_is H (some q) 18 from is1) (agr.isL (e := d + 2 * l + 6) (j := 55) hn hr.2.1 (by decide)) ?_
      refine mw_if (P := (if tkd c = 55 then 1 else 0) = 0) (a := 32) (b := 30) (fun _ => rfl) trivial (fun hi4 => ?_) (fun hi4 => ?_)
      · -- 32
        have ek4 : ¬ tkd c = 55 := fun e => by rw [if_pos e] at hi4; exact absurd hi4 (by decide)
        have n45 : ¬ (tkd c = 54 ∨ tkd c = 55) := fun z => z.elim ek3 ek4
        refine mw_go mu_g467 (k := 2) (f1 := (36, [(0, .inr (.inr (some 169))), (1, .inr (.inr (some q))), (2, .inr (.inr (some (D.ip j)))), (3, .inl wh), (4, .inl pl)], [.inr (.inr (some 1000064)), .inr (.inr (some q))], H)) (C := []) rfl trivial ?_
        refine mw_cIe (fun _ => rfl) (show mu_is H (some q) 18 from is1) (agr.isL (e := d + 2 * l + 6) (j := 64) hn hr.2.1 (by decide)) ?_
        refine mw_if (P := (if tkd c = 64 then 1 else 0) = 0) (a := 90) (b := 42) (fun _ => rfl) trivial (fun hi5 => ?_) (fun hi5 => ?_)
        · -- 90
          have ek5 : ¬ tkd c = 64 := fun e => by rw [if_pos e] at hi5; exact absurd hi5 (by decide)
          refine mw_go mu_g467 (k := 2) (f1 := (93, [(0, .inr (.inr (some 169))), (1, .inr (.inr (some q))), (2, .inr (.inr (some (D.ip j)))), (3, .inl wh), (4, .inl pl)], [.inr (.inr (some 1000033)), .inr (.inr (some q))], H)) (C := []) rfl trivial ?_
          refine mw_cIe (fun _ => rfl) (show mu_is H (some q) 18 from is1) (agr.isL (e := d + 2 * l + 6) (j := 33) hn hr.2.1 (by decide)) ?_
          refine mw_if (P := (if tkd c = 33 then 1 else 0) = 0) (a := 127) (b := 99) (fun _ => rfl) trivial (fun hi6 => ?_) (fun hi6 => ?_)
          · -- 127
            have ek6 : ¬ tkd c = 33 := fun e => by rw [if_pos e] at hi6; exact absurd hi6 (by decide)
            exact hnx ek2 n45 ek5 ek6
          · -- 99
            have ek6 : tkd c = 33 := Decidable.byContradiction (fun e => hi6 (if_neg e))
            have nk : tkd c ∈ [64, 33] := by rw [ek6]; decide
            have hns : 0 < (tns c).length := (hx.toN.1 nk).1
            obtain ⟨nb, nr, _⟩ := nm1.rd hns
            have nm2 := nm1
            rw [nr] at nm2
            rw [srt, if_neg ek2, if_neg n45, if_neg ek5, if_pos ek6] at hR
            refine mw_go mu_g467 (k := 3) (f1 := (102, [(0, .inr (.inr (some 169))), (1, .inr (.inr (some q))), (2, .inr (.inr (some (D.ip j)))), (3, .inl wh), (4, .inl pl)], [.inl (1 : Int32), .inl wh, .inr (.inr (some 169))], H)) (C := []) rfl trivial ?_
            refine mw_if (P := wh = (1 : Int32)) (a := 105) (b := 109) (fun _ => rfl) trivial (fun h5 => ?_) (fun h5 => ?_)
            · -- 105
              rw [if_pos h5] at hR
              refine mw_go mu_g467 (k := 2) (f1 := (110, [(0, .inr (.inr (some 169))), (1, .inr (.inr (some q))), (2, .inr (.inr (some (D.ip j)))), (3, .inl wh), (4, .inl pl)], [.inl (1 : Int32), .inr (.inr (some 169))], H)) (C := []) rfl trivial ?_
              refine mw_cE (as := [.inl (1 : Int32)]) (o := some 169) (S1 := []) rfl rfl rfl rfl (Nat.le_of_ble_eq_true rfl) (by decide) hr.2.2.1.1 rfl (by decide) (rp_sound (x := 1)) (fun H9 e9 => absurd e9.1 (by decide)) (fun v9 H9 e9 => ?_)
              obtain ⟨_, rfl, e9⟩ := e9
              rw [e9]
              clear e9 H9
              show mu_W _ mu_m467 (113, [(0, .inr (.inr (some 169))), (1, .inr (.inr (some q))), (2, .inr (.inr (some (D.ip j)))), (3, .inl wh), (4, .inl pl)], [], H) _
              refine mw_go mu_g467 (k := 4) (f1 := (119, [(0, .inr (.inr (some 169))), (1, .inr (.inr (some q))), (2, .inr (.inr (some (D.ip j)))), (3, .inl wh), (4, .inl pl)], [.inr (.inr (mu_r H q 4)), .inr (.inr (some 169)), .inr (.inr (some 169))], H)) (C := [mu_is H (some q) 18]) rfl (show mu_is H (some q) 18 from is1) ?_
              refine mw_fr (f' := (119, [(0, .inr (.inr (some 169))), (1, .inr (.inr (some q))), (2, .inr (.inr (some (D.ip j)))), (3, .inl wh), (4, .inl pl)], [.inr (.inr (some nb)), .inr (.inr (some 169)), .inr (.inr (some 169))], H)) (by first | (rw [nr]; done) | (rw [nr]; rfl)) ?_
              refine mw_go mu_g467 (k := 1) (f1 := (120, [(0, .inr (.inr (some 169))), (1, .inr (.inr (some q))), (2, .inr (.inr (some (D.ip j)))), (3, .inl wh), (4, .inl pl)], [.inr (.inr (some (D.ip j))), .inr (.inr (some nb)), .inr (.inr (some 169)), .inr (.inr (some 169))], H)) (C := []) rfl trivial ?_
              refine mw_cE (as := [.inr (.inr (some nb)), .inr (.inr (some (D.ip j)))]) (o := (some 169)) (S1 := [.inr (.inr (some 169))]) rfl rfl rfl rfl (Nat.le_of_ble_eq_true rfl) (by decide) (show mu_is H (some 169) 1 from hr.2.2.1.1) rfl (by decide) (rp_variableOf (d := d + 2 * l + 2) hr hj nm2 hns (hk.f nk)) (fun E9 e9 => by
                obtain ⟨⟨x, x1, x2⟩, x3⟩ := e9
                refine Or.inl ⟨_, rfl, ?_, x3⟩
                rw [x1] at hR
                dsimp only at hR
                rw [if_pos x2] at hR
                exact hR.symm) (fun v9 H7 e9 => ?_)
              obtain ⟨a, rfl, ⟨x, x1, rfl, x3⟩, p2⟩ := e9
              show mu_W _ mu_m467 (123, [(0, .inr (.inr (some 169))), (1, .inr (.inr (some q))), (2, .inr (.inr (some (D.ip j)))), (3, .inl wh), (4, .inl pl)], [.inl x.1, .inr (.inr (some 169))], H7) _
              have hr2 := p2.rms hr
              rw [x1] at hR
              dsimp only at hR
              rw [if_neg x3] at hR
              have b5 := hb.2.2.1
              obtain ⟨v, hv, ev⟩ := (fno_b hb hj x1).1.resolve_left (fun e => x3 (by rw [e]; decide))
              rw [ev, nI_clamp (show v < 2 ^ 31 by omega)] at hR
              rw [ev]
              show mu_W _ mu_m467 (123, [(0, .inr (.inr (some 169))), (1, .inr (.inr (some q))), (2, .inr (.inr (some (D.ip j)))), (3, .inl wh), (4, .inl pl)], [.inl (nI v), .inr (.inr (some 169))], H7) _
              refine mw_cIe (fun _ => rfl) (show mu_is H7 (some 169) 1 from hr2.2.2.1.1) (rp_sortOf (d := d + 2 * l + 5) hb hy hr2 hv) ?_
              exact mw_of (fun _ => mu_ret rfl trivial (Or.inr ⟨_, _, rfl, _, rfl, hR.symm, p2⟩))
            · -- 109
              rw [if_neg h5] at hR
              refine mw_go mu_g467 (k := 1) (f1 := (110, [(0, .inr (.inr (some 169))), (1, .inr (.inr (some q))), (2, .inr (.inr (some (D.ip j)))), (3, .inl wh), (4, .inl pl)], [.inl (0 : Int32), .inr (.inr (some 169))], H)) (C := []) rfl trivial ?_
              exact mw_cE (as := [.inl (0 : Int32)]) (o := some 169) (S1 := []) rfl rfl rfl rfl (Nat.le_of_ble_eq_true rfl) (by decide) hr.2.2.1.1 rfl (by decide) (rp_sound (x := 0)) (fun H9 e9 => by rw [e9.2]; exact Or.inl ⟨_, rfl, hR.symm, ffr.rf.ex⟩) (fun v9 H9 e9 => absurd rfl e9.1)
        · -- 42
          have ek5 : tkd c = 64 := Decidable.byContradiction (fun e => hi5 (if_neg e))
          have nk : tkd c ∈ [64, 33] := by rw [ek5]; decide
          have hns : 0 < (tns c).length := (hx.toN.1 nk).1
          obtain ⟨nb, nr, _⟩ := nm1.rd hns
          have nm2 := nm1
          rw [nr] at nm2
          refine mw_go mu_g467 (k := 4) (f1 := (48, [(0, .inr (.inr (some 169))), (1, .inr (.inr (some q))), (2, .inr (.inr (some (D.ip j)))), (3, .inl wh), (4, .inl pl)], [.inr (.inr (mu_r H q 4)), .inr (.inr (some (D.ip j))), .inr (.inr (some 169))], H)) (C := [mu_is H (some q) 18]) rfl (show mu_is H (some q) 18 from is1) ?_
          refine mw_fr (f' := (48, [(0, .inr (.inr (some 169))), (1, .inr (.inr (some q))), (2, .inr (.inr (some (D.ip j)))), (3, .inl wh), (4, .inl pl)], [.inr (.inr (some nb)), .inr (.inr (some (D.ip j))), .inr (.inr (some 169))], H)) (by first | (rw [nr]; done) | (rw [nr]; rfl)) ?_
          refine mw_cE (as := [.inr (.inr (some (D.ip j))), .inr (.inr (some nb))]) (o := (some 169)) (S1 := []) rfl rfl rfl rfl (Nat.le_of_ble_eq_true rfl) (by decide) (show mu_is H (some 169) 1 from hr.2.2.1.1) rfl (by decide) (rp_fnd (d := d + 2 * l + 3) hr hj nm2 hns) (fun E9 e9 => absurd e9.1 (hk.f nk)) (fun v9 H8 e9 => ?_)
          obtain ⟨rfl, p1, p2⟩ := e9
          show mu_W _ mu_m467 (51, [(0, .inr (.inr (some 169))), (1, .inr (.inr (some q))), (2, .inr (.inr (some (D.ip j)))), (3, .inl wh), (4, .inl pl)], [], H8) _
          have hr2 := p1.rms hr
          have hh2 := hh.ff p1
          rw [srt, if_neg ek2, if_neg n45, if_pos ek5, p2] at hR
          dsimp only at hR
          have fb := fno_b hb hj p2
          have b4 := hb.2.1
          have b5 := hb.2.2.1
          obtain ⟨a, ea⟩ : ∃ a, mu_i H8 169 19 = a := ⟨_, rfl⟩
          obtain ⟨y, ey⟩ : ∃ y, mu_i H8 169 20 = y := ⟨_, rfl⟩
          obtain ⟨s, es⟩ : ∃ s, mu_i H8 169 21 = s := ⟨_, rfl⟩
          rw [ea, ey, es] at fb hR
          refine mw_go mu_g467 (k := 2) (f1 := (55, [(0, .inr (.inr (some 169))), (1, .inr (.inr (some q))), (2, .inr (.inr (some (D.ip j)))), (3, .inl wh), (4, .inl pl)], [.inl (mu_i H8 169 19)], H8)) (C := [mu_is H8 (some 169) 1]) rfl (show mu_is H8 (some 169) 1 from hr2.2.2.1.1) ?_
          refine mw_fr (f' := (55, [(0, .inr (.inr (some 169))), (1, .inr (.inr (some q))), (2, .inr (.inr (some (D.ip j)))), (3, .inl wh), (4, .inl pl)], [.inl a], H8)) (by first | (rw [ea]; done) | (rw [ea]; rfl)) ?_
          refine mw_if (P := a < 0) (a := 69) (b := 58) (fun _ => rfl) trivial (fun h5 => ?_) (fun h5 => ?_)
          · -- 69
            rw [if_pos h5] at hR
            refine mw_go mu_g467 (k := 2) (f1 := (73, [(0, .inr (.inr (some 169))), (1, .inr (.inr (some q))), (2, .inr (.inr (some (D.ip j)))), (3, .inl wh), (4, .inl pl)], [.inl (mu_i H8 169 20)], H8)) (C := [mu_is H8 (some 169) 1]) rfl (show mu_is H8 (some 169) 1 from hr2.2.2.1.1) ?_
            refine mw_fr (f' := (73, [(0, .inr (.inr (some 169))), (1, .inr (.inr (some q))), (2, .inr (.inr (some (D.ip j)))), (3, .inl wh), (4, .inl pl)], [.inl y], H8)) (by first | (rw [ey]; done) | (rw [ey]; rfl)) ?_
            refine mw_if (P := y < 0) (a := 80) (b := 76) (fun _ => rfl) trivial (fun h6 => ?_) (fun h6 => ?_)
            · -- 80
              rw [if_pos h6] at hR
              have hs0 : ¬ s < 0 := fb.2.2.2.elim (fun z => absurd h5 z) (fun z => z.elim (fun z => absurd h6 z) id)
              obtain ⟨v, hv, rfl⟩ := fb.2.2.1.resolve_left (fun e => hs0 (by rw [e]; decide))
              have hc : (nI v).toNatClampNeg = v := nI_clamp (by omega)
              rw [hc] at hR
              have ew : mu_i H8 sp (nI v).toNatClampNeg = ss v := by rw [hc]; exact hh2.2 v hv
              have hi9 : vp_in (nI v) (mu_n H8 sp) := vp_in_nI (Nat.lt_of_lt_of_le hv hh2.1.2.2.2.2.1) hh2.1.2.2.2.2.2
              refine mw_go mu_g467 (k := 2) (f1 := (84, [(0, .inr (.inr (some 169))), (1, .inr (.inr (some q))), (2, .inr (.inr (some (D.ip j)))), (3, .inl wh), (4, .inl pl)], [.inr (.inr (mu_r H8 169 27))], H8)) (C := [mu_is H8 (some 169) 1]) rfl (show mu_is H8 (some 169) 1 from hr2.2.2.1.1) ?_
              refine mw_fr (f' := (84, [(0, .inr (.inr (some 169))), (1, .inr (.inr (some q))), (2, .inr (.inr (some (D.ip j)))), (3, .inl wh), (4, .inl pl)], [.inr (.inr (some sp))], H8)) (by first | (rw [hh2.1.1]; done) | (rw [hh2.1.1]; rfl)) ?_
              refine mw_go mu_g467 (k := 2) (f1 := (88, [(0, .inr (.inr (some 169))), (1, .inr (.inr (some q))), (2, .inr (.inr (some (D.ip j)))), (3, .inl wh), (4, .inl pl)], [.inl (mu_i H8 169 21), .inr (.inr (some sp))], H8)) (C := [mu_is H8 (some 169) 1]) rfl (show mu_is H8 (some 169) 1 from hr2.2.2.1.1) ?_
              refine mw_fr (f' := (88, [(0, .inr (.inr (some 169))), (1, .inr (.inr (some q))), (2, .inr (.inr (some (D.ip j)))), (3, .inl wh), (4, .inl pl)], [.inl (nI v), .inr (.inr (some sp))], H8)) (by first | (rw [es]; done) | (rw [es]; rfl)) ?_
              refine mw_go mu_g467 (k := 1) (f1 := (89, [(0, .inr (.inr (some 169))), (1, .inr (.inr (some q))), (2, .inr (.inr (some (D.ip j)))), (3, .inl wh), (4, .inl pl)], [.inl (mu_i H8 sp (nI v).toNatClampNeg)], H8)) (C := [mu_isr H8 (some sp) 100, vp_in (nI v) (mu_n H8 sp)]) rfl (show (mu_isr H8 (some sp) 100) ∧ (vp_in (nI v) (mu_n H8 sp)) from ⟨⟨rfl, Or.inl hh2.1.2.1.2.1, hh2.1.2.2.2.1⟩, hi9⟩) ?_
              refine mw_fr (f' := (89, [(0, .inr (.inr (some 169))), (1, .inr (.inr (some q))), (2, .inr (.inr (some (D.ip j)))), (3, .inl wh), (4, .inl pl)], [.inl (ss v)], H8)) (by first | (rw [ew]; done) | (rw [ew]; rfl)) ?_
              exact mw_of (fun _ => mu_ret rfl trivial (Or.inr ⟨_, _, rfl, _, rfl, hR.symm, p1⟩))
            · -- 76
              rw [if_neg h6] at hR
              refine mw_go mu_g467 (k := 2) (f1 := (89, [(0, .inr (.inr (some 169))), (1, .inr (.inr (some q))), (2, .inr (.inr (some (D.ip j)))), (3, .inl wh), (4, .inl pl)], [.inl (3 : Int32)], H8)) (C := []) rfl trivial ?_
              exact mw_of (fun _ => mu_ret rfl trivial (Or.inr ⟨_, _, rfl, _, rfl, hR.symm, p1⟩))
          · -- 58
            obtain ⟨v, hv, rfl⟩ := fb.1.resolve_left (fun e => h5 (by rw [e]; decide))
            rw [if_neg h5, nI_clamp (show v < 2 ^ 31 by omega)] at hR
            refine mw_go mu_g467 (k := 3) (f1 := (63, [(0, .inr (.inr (some 169))), (1, .inr (.inr (some q))), (2, .inr (.inr (some (D.ip j)))), (3, .inl wh), (4, .inl pl)], [.inl (mu_i H8 169 19), .inr (.inr (some 169))], H8)) (C := [mu_is H8 (some 169) 1]) rfl (show mu_is H8 (some 169) 1 from hr2.2.2.1.1) ?_
            refine mw_fr (f' := (63, [(0, .inr (.inr (some 169))), (1, .inr (.inr (some q))), (2, .inr (.inr (some (D.ip j)))), (3, .inl wh), (4, .inl pl)], [.inl (nI v), .inr (.inr (some 169))], H8)) (by first | (rw [ea]; done) | (rw [ea]; rfl)) ?_
            refine mw_cIe (fun _ => rfl) (show mu_is H8 (some 169) 1 from hr2.2.2.1.1) (rp_sortOf (d := d + 2 * l + 5) hb hy hr2 hv) ?_
            refine mw_go mu_g467 (k := 1) (f1 := (89, [(0, .inr (.inr (some 169))), (1, .inr (.inr (some q))), (2, .inr (.inr (some (D.ip j)))), (3, .inl wh), (4, .inl pl)], [.inl (sof D v)], H8)) (C := []) rfl trivial ?_
            exact mw_of (fun _ => mu_ret rfl trivial (Or.inr ⟨_, _, rfl, _, rfl, hR.symm, p1⟩))
      · -- 30
        have ek4 : tkd c = 55 := Decidable.byContradiction (fun e => hi4 (if_neg e))
        refine mw_go mu_g467 (k := 1) (f1 := (31, [(0, .inr (.inr (some 169))), (1, .inr (.inr (some q))), (2, .inr (.inr (some (D.ip j)))), (3, .inl wh), (4, .inl pl)], [.inl (1 : Int32)], H)) (C := []) rfl trivial ?_
        exact mw_of (fun _ => mu_ret rfl trivial (Or.inr ⟨_, _, rfl, _, rfl, (by rw [← hR, srt, if_neg ek2, if_pos (Or.inr ek4)]), ffr.rf⟩))
    · -- 30
      have ek3 : tkd c = 54 := Decidable.byContradiction (fun e => hi3 (if_neg e))
      refine mw_go mu_g467 (k := 1) (f1 := (31, [(0, .inr (.inr (some 169))), (1, .inr (.inr (some q))), (2, .inr (.inr (some (D.ip j)))), (3, .inl wh), (4, .inl pl)], [.inl (1 : Int32)], H)) (C := []) rfl trivial ?_
      exact mw_of (fun _ => mu_ret rfl trivial (Or.inr ⟨_, _, rfl, _, rfl, (by rw [← hR, srt, if_neg ek2, if_pos (Or.inl ek3)]), ffr.rf⟩))
  · -- 10
    have ek2 : tkd c = 63 := Decidable.byContradiction (fun e => hi2 (if_neg e))
    refine mw_go mu_g467 (k := 1) (f1 := (11, [(0, .inr (.inr (some 169))), (1, .inr (.inr (some q))), (2, .inr (.inr (some (D.ip j)))), (3, .inl wh), (4, .inl pl)], [.inl (2 : Int32)], H)) (C := []) rfl trivial ?_
    exact mw_of (fun _ => mu_ret rfl trivial (Or.inr ⟨_, _, rfl, _, rfl, (by rw [← hR, srt, if_pos ek2]), ffr.rf⟩))
