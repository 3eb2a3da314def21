/-! The reference: named, the Node is not done yet -/
theorem rp_namedN {T : Nat → Int32} {n d dep f s w k : Nat} {bw : List Int32} {t : Tok} {F : Nat → Prop} {H : mu_H} (hs : pst T n t dep F H) (hk : stf H F s (txt k)) (hk79 : k < 79) (hw : stf H F w bw) (hz : mu_z H + 10 ≤ 1000000) : mu_TA (mu_D (d + 5)) 487 [.inr (.inr (some 169)), .inr (.inr (some s)), .inr (.inr (some w)), .inr (.inr none)] H (fun v H1 => ∃ q a F1, v = some q ∧ pst T n t dep F1 H1 ∧ nun H H1 F1 f q a 2 s k 0 [bw] [] [] ∧ pfr 3 F F1 H H1) := by
  have g200 := hs.1.1
  have p0 : pfr 0 F F H H := pfr.rf
  have z0 := p0.z
  refine mu_meth (M := mu_m487) rfl rfl ?_
  refine mw_ht (mu_fn_of (show [0, 1, 2, 3].Nodup by decide)) ?_
  refine mw_newo rfl (by decide) (by omega) ?_
  show mu_W _ mu_m487 (3, [(0, .inr (.inr (some 169))), (1, .inr (.inr (some s))), (2, .inr (.inr (some w))), (3, .inr (.inr none))], [.inr (.inr (some (mu_z H)))], (mu_nw H 18 0 8)) _
  have kn11 : kep (fun _ => False) (0 + 1) (0 + 8) H (mu_nw H 18 0 8) := kep.rf.nw (by omega)
  have sn11 : pst T n t dep F (mu_nw H 18 0 8) := hs.kp kn11 (fun _ z => z.elim)
  refine mw_go mu_g487 (k := 2) (f1 := (5, [(0, .inr (.inr (some 169))), (1, .inr (.inr (some s))), (2, .inr (.inr (some w))), (3, .inr (.inr none))], [.inr (.inr (some s)), .inr (.inr (some (mu_z H))), .inr (.inr (some (mu_z H)))], (mu_nw H 18 0 8))) (C := []) rfl trivial ?_
  refine mw_cV (fun _ => rfl) ⟨rfl, Nat.lt_succ_self _⟩ (nd_newS (H0 := H) (f := f) hs (by omega) (by omega) hk hk79) (fun H11 q11 => ?_)
  obtain ⟨v11, s11, k11⟩ := q11
  have f11 : pfr (0 + 2) F F H H11 := pfr.rf.kp k11 (fun p z => z) (by omega) (by omega)
  have p11 := p0.tr f11
  have z11 := p11.z
  show mu_W _ mu_m487 (8, [(0, .inr (.inr (some 169))), (1, .inr (.inr (some s))), (2, .inr (.inr (some w))), (3, .inr (.inr none))], [.inr (.inr (some (mu_z H)))], H11) _
  have hw1 := hw.keep hs f11
  refine mw_go mu_g487 (k := 4) (f1 := (16, [(4, .inr (.inr (some (mu_z H)))), (0, .inr (.inr (some 169))), (1, .inr (.inr (some s))), (2, .inr (.inr (some w))), (3, .inr (.inr none))], [.inr (.inr (some (mu_z H11))), .inr (.inr (some (mu_z H)))], (mu_nw H11 103 (1 : Int32).toNatClampNeg (1 : Int32).toNatClampNeg))) (C := [¬ (1 : Int32) < 0, (1 : Int32).toNatClampNeg * ev_bytes 3 ≤ 536870912, mu_z H11 + 1 ≤ 1000000]) rfl (show (¬ (1 : Int32) < 0) ∧ ((1 : Int32).toNatClampNeg * ev_bytes 3 ≤ 536870912) ∧ (mu_z H11 + 1 ≤ 1000000) from ⟨(by decide), (by decide), (by omega)⟩) ?_
  refine mw_fr (f' := (16, [(4, .inr (.inr (some (mu_z H)))), (0, .inr (.inr (some 169))), (1, .inr (.inr (some s))), (2, .inr (.inr (some w))), (3, .inr (.inr none))], [.inr (.inr (some (mu_z H11))), .inr (.inr (some (mu_z H)))], (mu_nw H11 103 1 1))) (by first | (rw [(show (1 : Int32).toNatClampNeg = 1 from rfl)]; done) | (rw [(show (1 : Int32).toNatClampNeg = 1 from rfl)]; rfl)) ?_
  refine mw_go mu_g487 (k := 3) (f1 := (19, [(4, .inr (.inr (some (mu_z H)))), (0, .inr (.inr (some 169))), (1, .inr (.inr (some s))), (2, .inr (.inr (some w))), (3, .inr (.inr none))], [.inr (.inr (some w)), .inl (0 : Int32), .inr (.inr (some (mu_z H11))), .inr (.inr (some (mu_z H11))), .inr (.inr (some (mu_z H)))], (mu_nw H11 103 1 1))) (C := []) rfl trivial ?_
  obtain ⟨r, r1, ⟨r2, r3⟩, r4, r5, r6⟩ := s11.2.2.2.2.2
  have kn : kep (fun x => x = mu_z H ∨ x = (mu_z H11)) (0 + 1) (0 + 1) H11 (mu_nw H11 103 1 1) := (kep.rf (H := H11)).nw (by omega)
  have hw2 : stf (mu_nw H11 103 1 1) F w bw := hw1.kp kn (fun x e => ⟨fun y => by have := (s11.fz x y).2.1.1; have := hs.fz x; rcases e with e | e <;> subst e <;> first | omega | exact absurd y (v11).2.2.2.2.1.1, by rcases e with e | e <;> omega⟩)
  refine mw_aastS (i := 0) rfl (mu_is_new H11 103 1 1) hw2.1.1 (by show vp_in (nI 0) (mu_n (mu_nw H11 103 1 1) (mu_z H11)); rw [mu_n_nw, if_pos rfl]; exact vp_in_nI (by decide) (by decide)) ?_
  rw [show mu_p (some (mu_z H11)) = (mu_z H11) from rfl, show (0 : Int32).toNatClampNeg = 0 from rfl]
  show mu_W _ mu_m487 (20, [(4, .inr (.inr (some (mu_z H)))), (0, .inr (.inr (some 169))), (1, .inr (.inr (some s))), (2, .inr (.inr (some w))), (3, .inr (.inr none))], [.inr (.inr (some (mu_z H11))), .inr (.inr (some (mu_z H)))], (mu_sr (mu_nw H11 103 1 1) (mu_z H11) 0 (some w))) _
  refine mw_go mu_g487 (k := 1) (f1 := (23, [(4, .inr (.inr (some (mu_z H)))), (0, .inr (.inr (some 169))), (1, .inr (.inr (some s))), (2, .inr (.inr (some w))), (3, .inr (.inr none))], [], (mu_sr (mu_sr (mu_nw H11 103 1 1) (mu_z H11) 0 (some w)) (mu_z H) 4 (some (mu_z H11))))) (C := [mu_is (mu_nw H11 103 1 1) (some (mu_z H)) 18]) rfl (show mu_is (mu_nw H11 103 1 1) (some (mu_z H)) 18 from (mu_is_nw (len := 1) (sl := 1) v11.is)) ?_
  obtain ⟨u1, u3, u4, ⟨u5, u6, u7⟩, ⟨u8, u9⟩, ⟨u10, u11⟩, u12, u13⟩ := v11
  have rq : r ≠ mu_z H := fun e => u12 (by rw [r1, e])
  have ra : r ≠ mu_z H + 1 := fun e => u13 (by rw [r1, e])
  have z1 := p11.z
  have hQ : mu_z H < mu_z H11 := u1.1.1.2.1
  have hQa : mu_z H + 1 < mu_z H11 := u1.2.1.1.2.1
  have k3 : kep (fun x => x = mu_z H ∨ x = (mu_z H11)) (0 + 1) (0 + 1) H11 (mu_sr (mu_sr (mu_nw H11 103 1 1) (mu_z H11) 0 (some w)) (mu_z H) 4 (some (mu_z H11))) := (kn.sr (Or.inl (Or.inr rfl))).sr (Or.inl (Or.inl rfl))
  have zF : ¬ F (mu_z H11) := fun y => by have := (s11.fz _ y).2.1.1; omega
  have hW : ∀ x, (x = mu_z H ∨ x = (mu_z H11)) → ¬ F x ∧ 200 < x ∧ x < 1000000 ∧ mu_r H11 169 13 ≠ some x := by
    intro x y
    rcases y with y | y
    · subst y; exact ⟨u8, by omega, by omega, u12⟩
    · subst y; exact ⟨zF, by omega, by omega, fun e => by rw [r1] at e; cases e; omega⟩
  have hW2 : ∀ x, (x = mu_z H ∨ x = (mu_z H11)) → ¬ F x ∧ x < 1000000 := fun x y => ⟨(hW x y).1, (hW x y).2.2.1⟩
  have sk := s11.kp k3 hW
  have hw3 := hw1.kp k3 hW2
  have hs3 := u4.kp k3 hW2
  have pk3 := p11.kp k3 (fun x y => ⟨by omega, (hW x y).2.2.1⟩) (by omega) (by omega)
  have zk : mu_z H11 < mu_z (mu_sr (mu_sr (mu_nw H11 103 1 1) (mu_z H11) 0 (some w)) (mu_z H) 4 (some (mu_z H11))) := Nat.lt_succ_self _
  have zz : mu_z (mu_sr (mu_sr (mu_nw H11 103 1 1) (mu_z H11) 0 (some w)) (mu_z H) 4 (some (mu_z H11))) = mu_z H11 + 1 := rfl
  have aq : ¬ (mu_z H + 1 = mu_z H ∨ mu_z H + 1 = (mu_z H11)) := fun y => by omega
  have e13 : mu_r (mu_sr (mu_sr (mu_nw H11 103 1 1) (mu_z H11) 0 (some w)) (mu_z H) 4 (some (mu_z H11))) 169 13 = some r := (k3.r (Or.inl (by omega)) (fun y => by omega) 13).trans r1
  have on : ndo (mu_sr (mu_sr (mu_nw H11 103 1 1) (mu_z H11) 0 (some w)) (mu_z H) 4 (some (mu_z H11))) (mu_z H) (mu_z H + 1) 2 s (txt k) [] := by
    obtain ⟨a1, a2, a3, a4, a5, a6, ⟨a7, a8⟩, a9⟩ := u1
    refine ⟨⟨mu_is_nw (len := 1) (sl := 1) a1.1, a1.2⟩, ⟨k3.is a2.1 aq, a2.2⟩, ?_, ?_, ?_, ?_, ⟨(k3.len (Or.inl a2.1.2.1) aq).trans a7, a8⟩, fun i hi => absurd hi (Nat.not_lt_zero _)⟩
    · rw [mu_r_sr, if_neg (fun y => absurd y.2 (by decide)), mu_r_sr, if_neg (fun y => by have := y.1; omega), mu_r_nw, if_neg (by omega)]; exact a3
    · rw [mu_r_sr, if_neg (fun y => absurd y.2 (by decide)), mu_r_sr, if_neg (fun y => by have := y.1; omega), mu_r_nw, if_neg (by omega)]; exact a4
    · show mu_i (mu_nw H11 103 1 1) (mu_z H) 2 = _
      rw [mu_i_nw, if_neg (by omega)]; exact a5
    · show mu_i (mu_nw H11 103 1 1) (mu_z H) 7 = _
      rw [mu_i_nw, if_neg (by omega)]; exact a6
  have x3 : mu_i (mu_sr (mu_sr (mu_nw H11 103 1 1) (mu_z H11) 0 (some w)) (mu_z H) 4 (some (mu_z H11))) (mu_z H) 3 = 0 := by
    show mu_i (mu_nw H11 103 1 1) (mu_z H) 3 = _
    rw [mu_i_nw, if_neg (by omega)]; exact u5
  have x4 : mu_r (mu_sr (mu_sr (mu_nw H11 103 1 1) (mu_z H11) 0 (some w)) (mu_z H) 4 (some (mu_z H11))) (mu_z H) 4 = some (mu_z H11) := by rw [mu_r_sr, if_pos ⟨rfl, rfl⟩]
  have xz : mu_is (mu_sr (mu_sr (mu_nw H11 103 1 1) (mu_z H11) 0 (some w)) (mu_z H) 4 (some (mu_z H11))) (some (mu_z H11)) 103 ∧ mu_n (mu_sr (mu_sr (mu_nw H11 103 1 1) (mu_z H11) 0 (some w)) (mu_z H) 4 (some (mu_z H11))) (mu_z H11) = 1 ∧ mu_r (mu_sr (mu_sr (mu_nw H11 103 1 1) (mu_z H11) 0 (some w)) (mu_z H) 4 (some (mu_z H11))) (mu_z H11) 0 = some w := ⟨mu_is_new H11 103 1 1, by show mu_n (mu_nw H11 103 1 1) (mu_z H11) = 1; rw [mu_n_nw, if_pos rfl], by rw [mu_r_sr, if_neg (fun y => absurd y.2 (by decide)), mu_r_sr, if_pos ⟨rfl, rfl⟩]⟩
  generalize (mu_sr (mu_sr (mu_nw H11 103 1 1) (mu_z H11) 0 (some w)) (mu_z H) 4 (some (mu_z H11))) = H3 at k3 sk hw3 hs3 pk3 zk zz e13 on x3 x4 xz ⊢
  refine mw_go mu_g487 (k := 1) (f1 := (24, [(4, .inr (.inr (some (mu_z H)))), (0, .inr (.inr (some 169))), (1, .inr (.inr (some s))), (2, .inr (.inr (some w))), (3, .inr (.inr none))], [.inr (.inr none)], H3)) (C := []) rfl trivial ?_
  refine mw_if (P := none = none) (a := 27) (b := 32) (fun _ => rfl) (show none ≠ some 3000000 from fun z => by cases z) (fun h9 => ?_) (fun h9 => absurd rfl h9)
  refine mw_go mu_g487 (k := 2) (f1 := (38, [(4, .inr (.inr (some (mu_z H)))), (0, .inr (.inr (some 169))), (1, .inr (.inr (some s))), (2, .inr (.inr (some w))), (3, .inr (.inr none))], [.inr (.inr (some (mu_z H)))], H3)) (C := []) rfl trivial ?_
  have hm : ∀ p, F p → F p ∨ p = (mu_z H11) := fun p y => Or.inl y
  have nm : nmf H3 (fun p => F p ∨ p = (mu_z H11)) (mu_r H3 (mu_z H) 4) [bw] := by
    rw [x4]
    refine Or.inr ⟨_, rfl, Or.inr rfl, xz.1, xz.2.1, ⟨Nat.succ_pos _, show 1 ≤ 65536 by decide⟩, fun i hi => ?_⟩
    have e : i = 0 := by have hi : i < 1 := hi; omega
    subst e
    exact ⟨w, xz.2.2, hw3.mono hm⟩
  have g1 : pst T n t dep (fun p => F p ∨ p = (mu_z H11)) H3 := sk.mono hm (fun p y => by
    rcases y with y | y
    · exact Or.inl y
    · subst y; exact Or.inr ⟨by omega, ⟨by omega, by omega⟩, by rw [e13]; intro e; have e := Option.some.inj e; omega⟩)
  have g3 := pk3.fz hm (fun p y => by
    rcases y with y | y
    · exact Or.inl y
    · subst y; exact Or.inr (by omega))
  have g2 : nun H H3 (fun p => F p ∨ p = (mu_z H11)) f (mu_z H) (mu_z H + 1) 2 s k 0 [bw] [] [] := ⟨on, nds.nil, hs3.mono hm, ⟨x3, nm, hk79⟩, ⟨fun y => y.elim u8 (by omega), fun y => y.elim u9 (by omega)⟩, ⟨Nat.le_refl _, Nat.le_add_right _ _⟩, by rw [e13]; intro e; have e := Option.some.inj e; omega, by rw [e13]; intro e; have e := Option.some.inj e; omega⟩
  exact mw_of (fun _ => mu_ret rfl trivial ⟨_, _, rfl, mu_z H, mu_z H + 1, _, rfl, g1, g2, g3.wk (by omega)⟩)
