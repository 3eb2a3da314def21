/-! The reference: named (a Node with one name) -/
/-- PathProverModel.named(Ljava/lang/String;Ljava/lang/String;LPathProverModel$Node;)LPathProverModel$Node; -/
abbrev mu_m487 : ev_M := (5, (some (.object "PathProverModel$Node")), [], ev_b487)
theorem mu_g487 : mu_good mu_m487 := mu_goodk ev_k487
/-- a Node with one name is done -/
theorem nd_fin {H0 H : mu_H} {F0 F : Nat → Prop} {f q a c s k z w A n dep : Nat} {x : Int32} {b : List Int32} {qs : List Nat} {cs : List Tre} {T : Nat → Int32} {t : Tok} (ho : ndo H q a c s (txt k) qs) (hd : nds H F f qs cs) (hs : stf H F s (txt k)) (hk : k < 79) (hx : mu_i H q 3 = x) (h4 : mu_r H q 4 = some z) (hz : mu_is H (some z) 103 ∧ mu_n H z = 1 ∧ mu_r H z 0 = some w) (hw : stf H F w b) (h0 : mu_z H0 ≤ q ∧ mu_z H0 ≤ a ∧ mu_z H0 ≤ z ∧ z < 1000000) (h2 : 200 < mu_z H0) (hn : mu_r H 169 13 ≠ some q ∧ mu_r H 169 13 ≠ some a ∧ mu_r H 169 13 ≠ some z) (hp : pst T n t dep F H) (hf : pfr A F0 F H0 H) : ∃ F1, pst T n t dep F1 H ∧ nd H F1 (f + 1) q (tmk k x [b] cs) ∧ pfr A F0 F1 H0 H := by
  have hm : ∀ p, F p → F p ∨ p = q ∨ p = a ∨ p = z := fun p y => Or.inl y
  have hqz : q < mu_z H := ho.1.1.2.1
  have haz : a < mu_z H := ho.2.1.1.2.1
  have hzz : z < mu_z H := hz.1.2.1
  refine ⟨fun p => F p ∨ p = q ∨ p = a ∨ p = z, hp.mono hm (fun p y => ?_), (hd.mono hm).done ho hk (hs.mono hm) hx ?_ (Or.inr (Or.inl rfl)) (Or.inr (Or.inr (Or.inl rfl))), hf.fz hm (fun p y => ?_)⟩
  · rcases y with y | y | y | y
    · exact Or.inl y
    · subst y; exact Or.inr ⟨by omega, ⟨hqz, ho.1.2⟩, hn.1⟩
    · subst y; exact Or.inr ⟨by omega, ⟨haz, ho.2.1.2⟩, hn.2.1⟩
    · subst y; exact Or.inr ⟨by omega, ⟨hzz, h0.2.2.2⟩, hn.2.2⟩
  · rw [h4]
    refine Or.inr ⟨z, rfl, Or.inr (Or.inr (Or.inr rfl)), hz.1, hz.2.1, ⟨Nat.succ_pos _, show 1 ≤ 65536 by decide⟩, fun i hi => ?_⟩
    have e : i = 0 := by have hi : i < 1 := hi; omega
    subst e
    exact ⟨w, hz.2.2, hw.mono hm⟩
  · rcases y with y | y | y | y
    · exact Or.inl y
    · subst y; exact Or.inr h0.1
    · subst y; exact Or.inr h0.2.1
    · subst y; exact Or.inr h0.2.2.1
theorem rp_named0 {T : Nat → Int32} {n d dep f s w k : Nat} {bw : List Int32} {t : Tok} {F : Nat → Prop} {H : mu_H} (hs : pst T n t dep F H) (hk : stf H F s (txt k)) (hk79 : k < 79) (hw : stf H F w bw) (hz : mu_z H + 10 ≤ 1000000) : mu_TA (mu_D (d + 5)) 487 [.inr (.inr (some 169)), .inr (.inr (some s)), .inr (.inr (some w)), .inr (.inr none)] H (fun v H1 => ∃ q F1, v = some q ∧ pst T n t dep F1 H1 ∧ nd H1 F1 (f + 1) q (tmk k 0 [bw] []) ∧ pfr 5 F F1 H H1) := by
  have g200 := hs.1.1
  have p0 : pfr 0 F F H H := pfr.rf
  have z0 := p0.z
  refine mu_meth (M := mu_m487) rfl rfl ?_
  refine mw_ht (mu_fn_of (show [0, 1, 2, 3].Nodup by decide)) ?_
  refine mw_newo rfl (by decide) (by omega) ?_
  show mu_W _ mu_m487 (3, [(0, .inr (.inr (some 169))), (1, .inr (.inr (some s))), (2, .inr (.inr (some w))), (3, .inr (.inr none))], [.inr (.inr (some (mu_z H)))], (mu_nw H 18 0 8)) _
  have kn11 : kep (fun _ => False) (0 + 1) (0 + 8) H (mu_nw H 18 0 8) := kep.rf.nw (by omega)
  have sn11 : pst T n t dep F (mu_nw H 18 0 8) := hs.kp kn11 (fun _ z => z.elim)
  refine mw_go mu_g487 (k := 2) (f1 := (5, [(0, .inr (.inr (some 169))), (1, .inr (.inr (some s))), (2, .inr (.inr (some w))), (3, .inr (.inr none))], [.inr (.inr (some s)), .inr (.inr (some (mu_z H))), .inr (.inr (some (mu_z H)))], (mu_nw H 18 0 8))) (C := []) rfl trivial ?_
  refine mw_cV (fun _ => rfl) ⟨rfl, Nat.lt_succ_self _⟩ (nd_newS (H0 := H) (f := f) hs (by omega) (by omega) hk hk79) (fun H11 q11 => ?_)
  obtain ⟨v11, s11, k11⟩ := q11
  have f11 : pfr (0 + 2) F F H H11 := pfr.rf.kp k11 (fun p z => z) (by omega) (by omega)
  have p11 := p0.tr f11
  have z11 := p11.z
  show mu_W _ mu_m487 (8, [(0, .inr (.inr (some 169))), (1, .inr (.inr (some s))), (2, .inr (.inr (some w))), (3, .inr (.inr none))], [.inr (.inr (some (mu_z H)))], H11) _
  have hw1 := hw.keep hs f11
  refine mw_go mu_g487 (k := 4) (f1 := (16, [(4, .inr (.inr (some (mu_z H)))), (0, .inr (.inr (some 169))), (1, .inr (.inr (some s))), (2, .inr (.inr (some w))), (3, .inr (.inr none))], [.inr (.inr (some (mu_z H11))), .inr (.inr (some (mu_z H)))], (mu_nw H11 103 (1 : Int32).toNatClampNeg (1 : Int32).toNatClampNeg))) (C := [¬ (1 : Int32) < 0, (1 : Int32).toNatClampNeg * ev_bytes 3 ≤ 536870912, mu_z H11 + 1 ≤ 1000000]) rfl (show (¬ (1 : Int32) < 0) ∧ ((1 : Int32).toNatClampNeg * ev_bytes 3 ≤ 536870912) ∧ (mu_z H11 + 1 ≤ 1000000) from ⟨(by decide), (by decide), (by omega)⟩) ?_
  refine mw_fr (f' := (16, [(4, .inr (.inr (some (mu_z H)))), (0, .inr (.inr (some 169))), (1, .inr (.inr (some s))), (2, .inr (.inr (some w))), (3, .inr (.inr none))], [.inr (.inr (some (mu_z H11))), .inr (.inr (some (mu_z H)))], (mu_nw H11 103 1 1))) (by first | (rw [(show (1 : Int32).toNatClampNeg = 1 from rfl)]; done) | (rw [(show (1 : Int32).toNatClampNeg = 1 from rfl)]; rfl)) ?_
  refine mw_go mu_g487 (k := 3) (f1 := (19, [(4, .inr (.inr (some (mu_z H)))), (0, .inr (.inr (some 169))), (1, .inr (.inr (some s))), (2, .inr (.inr (some w))), (3, .inr (.inr none))], [.inr (.inr (some w)), .inl (0 : Int32), .inr (.inr (some (mu_z H11))), .inr (.inr (some (mu_z H11))), .inr (.inr (some (mu_z H)))], (mu_nw H11 103 1 1))) (C := []) rfl trivial ?_
  obtain ⟨r, r1, ⟨r2, r3⟩, r4, r5, r6⟩ := s11.2.2.2.2.2
  have kn : kep (fun x => x = mu_z H ∨ x = (mu_z H11)) (0 + 1) (0 + 1) H11 (mu_nw H11 103 1 1) := (kep.rf (H := H11)).nw (by omega)
  have hw2 : stf (mu_nw H11 103 1 1) F w bw := hw1.kp kn (fun x e => ⟨fun y => by have := (s11.fz x y).2.1.1; have := hs.fz x; rcases e with e | e <;> subst e <;> first | omega | exact absurd y (v11).2.2.2.2.1.1, by rcases e with e | e <;> omega⟩)
  refine mw_aastS (i := 0) rfl (mu_is_new H11 103 1 1) hw2.1.1 (by show vp_in (nI 0) (mu_n (mu_nw H11 103 1 1) (mu_z H11)); rw [mu_n_nw, if_pos rfl]; exact vp_in_nI (by decide) (by decide)) ?_
  rw [show mu_p (some (mu_z H11)) = (mu_z H11) from rfl, show (0 : Int32).toNatClampNeg = 0 from rfl]
  show mu_W _ mu_m487 (20, [(4, .inr (.inr (some (mu_z H)))), (0, .inr (.inr (some 169))), (1, .inr (.inr (some s))), (2, .inr (.inr (some w))), (3, .inr (.inr none))], [.inr (.inr (some (mu_z H11))), .inr (.inr (some (mu_z H)))], (mu_sr (mu_nw H11 103 1 1) (mu_z H11) 0 (some w))) _
  refine mw_go mu_g487 (k := 1) (f1 := (23, [(4, .inr (.inr (some (mu_z H)))), (0, .inr (.inr (some 169))), (1, .inr (.inr (some s))), (2, .inr (.inr (some w))), (3, .inr (.inr none))], [], (mu_sr (mu_sr (mu_nw H11 103 1 1) (mu_z H11) 0 (some w)) (mu_z H) 4 (some (mu_z H11))))) (C := [mu_is (mu_nw H11 103 1 1) (some (mu_z H)) 18]) rfl (show mu_is (mu_nw H11 103 1 1) (some (mu_z H)) 18 from (mu_is_nw (len := 1) (sl := 1) v11.is)) ?_
  obtain ⟨u1, u3, u4, ⟨u5, u6, u7⟩, ⟨u8, u9⟩, ⟨u10, u11⟩, u12, u13⟩ := v11
  have rq : r ≠ mu_z H := fun e => u12 (by rw [r1, e])
  have ra : r ≠ mu_z H + 1 := fun e => u13 (by rw [r1, e])
  have z1 := p11.z
  have hQ : mu_z H < mu_z H11 := u1.1.1.2.1
  have hQa : mu_z H + 1 < mu_z H11 := u1.2.1.1.2.1
  have k3 : kep (fun x => x = mu_z H ∨ x = (mu_z H11)) (0 + 1) (0 + 1) H11 (mu_sr (mu_sr (mu_nw H11 103 1 1) (mu_z H11) 0 (some w)) (mu_z H) 4 (some (mu_z H11))) := (kn.sr (Or.inl (Or.inr rfl))).sr (Or.inl (Or.inl rfl))
  have zF : ¬ F (mu_z H11) := fun y => by have := (s11.fz _ y).2.1.1; omega
  have hW : ∀ x, (x = mu_z H ∨ x = (mu_z H11)) → ¬ F x ∧ 200 < x ∧ x < 1000000 ∧ mu_r H11 169 13 ≠ some x := by
    intro x y
    rcases y with y | y
    · subst y; exact ⟨u8, by omega, by omega, u12⟩
    · subst y; exact ⟨zF, by omega, by omega, fun e => by rw [r1] at e; cases e; omega⟩
  have hW2 : ∀ x, (x = mu_z H ∨ x = (mu_z H11)) → ¬ F x ∧ x < 1000000 := fun x y => ⟨(hW x y).1, (hW x y).2.2.1⟩
  have sk := s11.kp k3 hW
  have hw3 := hw1.kp k3 hW2
  have hs3 := u4.kp k3 hW2
  have pk3 := p11.kp k3 (fun x y => ⟨by omega, (hW x y).2.2.1⟩) (by omega) (by omega)
  have zk : mu_z H11 < mu_z (mu_sr (mu_sr (mu_nw H11 103 1 1) (mu_z H11) 0 (some w)) (mu_z H) 4 (some (mu_z H11))) := Nat.lt_succ_self _
  have zz : mu_z (mu_sr (mu_sr (mu_nw H11 103 1 1) (mu_z H11) 0 (some w)) (mu_z H) 4 (some (mu_z H11))) = mu_z H11 + 1 := rfl
  have aq : ¬ (mu_z H + 1 = mu_z H ∨ mu_z H + 1 = (mu_z H11)) := fun y => by omega
  have e13 : mu_r (mu_sr (mu_sr (mu_nw H11 103 1 1) (mu_z H11) 0 (some w)) (mu_z H) 4 (some (mu_z H11))) 169 13 = some r := (k3.r (Or.inl (by omega)) (fun y => by omega) 13).trans r1
  have on : ndo (mu_sr (mu_sr (mu_nw H11 103 1 1) (mu_z H11) 0 (some w)) (mu_z H) 4 (some (mu_z H11))) (mu_z H) (mu_z H + 1) 2 s (txt k) [] := by
    obtain ⟨a1, a2, a3, a4, a5, a6, ⟨a7, a8⟩, a9⟩ := u1
    refine ⟨⟨mu_is_nw (len := 1) (sl := 1) a1.1, a1.2⟩, ⟨k3.is a2.1 aq, a2.2⟩, ?_, ?_, ?_, ?_, ⟨(k3.len (Or.inl a2.1.2.1) aq).trans a7, a8⟩, fun i hi => absurd hi (Nat.not_lt_zero _)⟩
    · rw [mu_r_sr, if_neg (fun y => absurd y.2 (by decide)), mu_r_sr, if_neg (fun y => by have := y.1; omega), mu_r_nw, if_neg (by omega)]; exact a3
    · rw [mu_r_sr, if_neg (fun y => absurd y.2 (by decide)), mu_r_sr, if_neg (fun y => by have := y.1; omega), mu_r_nw, if_neg (by omega)]; exact a4
    · show mu_i (mu_nw H11 103 1 1) (mu_z H) 2 = _
      rw [mu_i_nw, if_neg (by omega)]; exact a5
    · show mu_i (mu_nw H11 103 1 1) (mu_z H) 7 = _
      rw [mu_i_nw, if_neg (by omega)]; exact a6
  have x3 : mu_i (mu_sr (mu_sr (mu_nw H11 103 1 1) (mu_z H11) 0 (some w)) (mu_z H) 4 (some (mu_z H11))) (mu_z H) 3 = 0 := by
    show mu_i (mu_nw H11 103 1 1) (mu_z H) 3 = _
    rw [mu_i_nw, if_neg (by omega)]; exact u5
  have x4 : mu_r (mu_sr (mu_sr (mu_nw H11 103 1 1) (mu_z H11) 0 (some w)) (mu_z H) 4 (some (mu_z H11))) (mu_z H) 4 = some (mu_z H11) := by rw [mu_r_sr, if_pos ⟨rfl, rfl⟩]
  have xz : mu_is (mu_sr (mu_sr (mu_nw H11 103 1 1) (mu_z H11) 0 (some w)) (mu_z H) 4 (some (mu_z H11))) (some (mu_z H11)) 103 ∧ mu_n (mu_sr (mu_sr (mu_nw H11 103 1 1) (mu_z H11) 0 (some w)) (mu_z H) 4 (some (mu_z H11))) (mu_z H11) = 1 ∧ mu_r (mu_sr (mu_sr (mu_nw H11 103 1 1) (mu_z H11) 0 (some w)) (mu_z H) 4 (some (mu_z H11))) (mu_z H11) 0 = some w := ⟨mu_is_new H11 103 1 1, by show mu_n (mu_nw H11 103 1 1) (mu_z H11) = 1; rw [mu_n_nw, if_pos rfl], by rw [mu_r_sr, if_neg (fun y => absurd y.2 (by decide)), mu_r_sr, if_pos ⟨rfl, rfl⟩]⟩
  generalize (mu_sr (mu_sr (mu_nw H11 103 1 1) (mu_z H11) 0 (some w)) (mu_z H) 4 (some (mu_z H11))) = H3 at k3 sk hw3 hs3 pk3 zk zz e13 on x3 x4 xz ⊢
  refine mw_go mu_g487 (k := 1) (f1 := (24, [(4, .inr (.inr (some (mu_z H)))), (0, .inr (.inr (some 169))), (1, .inr (.inr (some s))), (2, .inr (.inr (some w))), (3, .inr (.inr none))], [.inr (.inr none)], H3)) (C := []) rfl trivial ?_
  refine mw_if (P := none = none) (a := 27) (b := 32) (fun _ => rfl) (show none ≠ some 3000000 from fun z => by cases z) (fun h9 => ?_) (fun h9 => absurd rfl h9)
  refine mw_go mu_g487 (k := 2) (f1 := (38, [(4, .inr (.inr (some (mu_z H)))), (0, .inr (.inr (some 169))), (1, .inr (.inr (some s))), (2, .inr (.inr (some w))), (3, .inr (.inr none))], [.inr (.inr (some (mu_z H)))], H3)) (C := []) rfl trivial ?_
  obtain ⟨F1, g1, g2, g3⟩ := nd_fin on (nds.nil (d := f)) hs3 hk79 x3 x4 xz hw3 ⟨Nat.le_refl _, Nat.le_add_right _ _, by omega, by omega⟩ g200 ⟨by rw [e13]; intro e; have e := Option.some.inj e; omega, by rw [e13]; intro e; have e := Option.some.inj e; omega, by rw [e13]; intro e; have e := Option.some.inj e; omega⟩ sk pk3
  exact mw_of (fun _ => mu_ret rfl trivial ⟨_, _, rfl, mu_z H, F1, rfl, g1, g2, g3.wk (by omega)⟩)
theorem rp_named1 {T : Nat → Int32} {n d dep f s w k : Nat} {bw : List Int32} {t : Tok} {F : Nat → Prop} {H : mu_H} (hs : pst T n t dep F H) (hk : stf H F s (txt k)) (hk79 : k < 79) (hw : stf H F w bw) (hz : mu_z H + 10 ≤ 1000000) {y : Nat} {cy : Tre} (hy : nd H F f y cy) : mu_TA (mu_D (d + 5)) 487 [.inr (.inr (some 169)), .inr (.inr (some s)), .inr (.inr (some w)), .inr (.inr (some y))] H (fun v H1 => ∃ q F1, v = some q ∧ pst T n t dep F1 H1 ∧ nd H1 F1 (f + 1) q (tmk k 0 [bw] [cy]) ∧ pfr 5 F F1 H H1) := by
  have g200 := hs.1.1
  have p0 : pfr 0 F F H H := pfr.rf
  have z0 := p0.z
  refine mu_meth (M := mu_m487) rfl rfl ?_
  refine mw_ht (mu_fn_of (show [0, 1, 2, 3].Nodup by decide)) ?_
  refine mw_newo rfl (by decide) (by omega) ?_
  show mu_W _ mu_m487 (3, [(0, .inr (.inr (some 169))), (1, .inr (.inr (some s))), (2, .inr (.inr (some w))), (3, .inr (.inr (some y)))], [.inr (.inr (some (mu_z H)))], (mu_nw H 18 0 8)) _
  have kn11 : kep (fun _ => False) (0 + 1) (0 + 8) H (mu_nw H 18 0 8) := kep.rf.nw (by omega)
  have sn11 : pst T n t dep F (mu_nw H 18 0 8) := hs.kp kn11 (fun _ z => z.elim)
  refine mw_go mu_g487 (k := 2) (f1 := (5, [(0, .inr (.inr (some 169))), (1, .inr (.inr (some s))), (2, .inr (.inr (some w))), (3, .inr (.inr (some y)))], [.inr (.inr (some s)), .inr (.inr (some (mu_z H))), .inr (.inr (some (mu_z H)))], (mu_nw H 18 0 8))) (C := []) rfl trivial ?_
  refine mw_cV (fun _ => rfl) ⟨rfl, Nat.lt_succ_self _⟩ (nd_newS (H0 := H) (f := f) hs (by omega) (by omega) hk hk79) (fun H11 q11 => ?_)
  obtain ⟨v11, s11, k11⟩ := q11
  have f11 : pfr (0 + 2) F F H H11 := pfr.rf.kp k11 (fun p z => z) (by omega) (by omega)
  have n11_1 := hy.keep hs f11
  have p11 := p0.tr f11
  have z11 := p11.z
  show mu_W _ mu_m487 (8, [(0, .inr (.inr (some 169))), (1, .inr (.inr (some s))), (2, .inr (.inr (some w))), (3, .inr (.inr (some y)))], [.inr (.inr (some (mu_z H)))], H11) _
  have hw1 := hw.keep hs f11
  refine mw_go mu_g487 (k := 4) (f1 := (16, [(4, .inr (.inr (some (mu_z H)))), (0, .inr (.inr (some 169))), (1, .inr (.inr (some s))), (2, .inr (.inr (some w))), (3, .inr (.inr (some y)))], [.inr (.inr (some (mu_z H11))), .inr (.inr (some (mu_z H)))], (mu_nw H11 103 (1 : Int32).toNatClampNeg (1 : Int32).toNatClampNeg))) (C := [¬ (1 : Int32) < 0, (1 : Int32).toNatClampNeg * ev_bytes 3 ≤ 536870912, mu_z H11 + 1 ≤ 1000000]) rfl (show (¬ (1 : Int32) < 0) ∧ ((1 : Int32).toNatClampNeg * ev_bytes 3 ≤ 536870912) ∧ (mu_z H11 + 1 ≤ 1000000) from ⟨(by decide), (by decide), (by omega)⟩) ?_
  refine mw_fr (f' := (16, [(4, .inr (.inr (some (mu_z H)))), (0, .inr (.inr (some 169))), (1, .inr (.inr (some s))), (2, .inr (.inr (some w))), (3, .inr (.inr (some y)))], [.inr (.inr (some (mu_z H11))), .inr (.inr (some (mu_z H)))], (mu_nw H11 103 1 1))) (by first | (rw [(show (1 : Int32).toNatClampNeg = 1 from rfl)]; done) | (rw [(show (1 : Int32).toNatClampNeg = 1 from rfl)]; rfl)) ?_
  refine mw_go mu_g487 (k := 3) (f1 := (19, [(4, .inr (.inr (some (mu_z H)))), (0, .inr (.inr (some 169))), (1, .inr (.inr (some s))), (2, .inr (.inr (some w))), (3, .inr (.inr (some y)))], [.inr (.inr (some w)), .inl (0 : Int32), .inr (.inr (some (mu_z H11))), .inr (.inr (some (mu_z H11))), .inr (.inr (some (mu_z H)))], (mu_nw H11 103 1 1))) (C := []) rfl trivial ?_
  obtain ⟨r, r1, ⟨r2, r3⟩, r4, r5, r6⟩ := s11.2.2.2.2.2
  have kn : kep (fun x => x = mu_z H ∨ x = (mu_z H11)) (0 + 1) (0 + 1) H11 (mu_nw H11 103 1 1) := (kep.rf (H := H11)).nw (by omega)
  have hw2 : stf (mu_nw H11 103 1 1) F w bw := hw1.kp kn (fun x e => ⟨fun y => by have := (s11.fz x y).2.1.1; have := hs.fz x; rcases e with e | e <;> subst e <;> first | omega | exact absurd y (v11).2.2.2.2.1.1, by rcases e with e | e <;> omega⟩)
  refine mw_aastS (i := 0) rfl (mu_is_new H11 103 1 1) hw2.1.1 (by show vp_in (nI 0) (mu_n (mu_nw H11 103 1 1) (mu_z H11)); rw [mu_n_nw, if_pos rfl]; exact vp_in_nI (by decide) (by decide)) ?_
  rw [show mu_p (some (mu_z H11)) = (mu_z H11) from rfl, show (0 : Int32).toNatClampNeg = 0 from rfl]
  show mu_W _ mu_m487 (20, [(4, .inr (.inr (some (mu_z H)))), (0, .inr (.inr (some 169))), (1, .inr (.inr (some s))), (2, .inr (.inr (some w))), (3, .inr (.inr (some y)))], [.inr (.inr (some (mu_z H11))), .inr (.inr (some (mu_z H)))], (mu_sr (mu_nw H11 103 1 1) (mu_z H11) 0 (some w))) _
  refine mw_go mu_g487 (k := 1) (f1 := (23, [(4, .inr (.inr (some (mu_z H)))), (0, .inr (.inr (some 169))), (1, .inr (.inr (some s))), (2, .inr (.inr (some w))), (3, .inr (.inr (some y)))], [], (mu_sr (mu_sr (mu_nw H11 103 1 1) (mu_z H11) 0 (some w)) (mu_z H) 4 (some (mu_z H11))))) (C := [mu_is (mu_nw H11 103 1 1) (some (mu_z H)) 18]) rfl (show mu_is (mu_nw H11 103 1 1) (some (mu_z H)) 18 from (mu_is_nw (len := 1) (sl := 1) v11.is)) ?_
  obtain ⟨u1, u3, u4, ⟨u5, u6, u7⟩, ⟨u8, u9⟩, ⟨u10, u11⟩, u12, u13⟩ := v11
  have rq : r ≠ mu_z H := fun e => u12 (by rw [r1, e])
  have ra : r ≠ mu_z H + 1 := fun e => u13 (by rw [r1, e])
  have z1 := p11.z
  have hQ : mu_z H < mu_z H11 := u1.1.1.2.1
  have hQa : mu_z H + 1 < mu_z H11 := u1.2.1.1.2.1
  have k3 : kep (fun x => x = mu_z H ∨ x = (mu_z H11)) (0 + 1) (0 + 1) H11 (mu_sr (mu_sr (mu_nw H11 103 1 1) (mu_z H11) 0 (some w)) (mu_z H) 4 (some (mu_z H11))) := (kn.sr (Or.inl (Or.inr rfl))).sr (Or.inl (Or.inl rfl))
  have zF : ¬ F (mu_z H11) := fun y => by have := (s11.fz _ y).2.1.1; omega
  have hW : ∀ x, (x = mu_z H ∨ x = (mu_z H11)) → ¬ F x ∧ 200 < x ∧ x < 1000000 ∧ mu_r H11 169 13 ≠ some x := by
    intro x y
    rcases y with y | y
    · subst y; exact ⟨u8, by omega, by omega, u12⟩
    · subst y; exact ⟨zF, by omega, by omega, fun e => by rw [r1] at e; cases e; omega⟩
  have hW2 : ∀ x, (x = mu_z H ∨ x = (mu_z H11)) → ¬ F x ∧ x < 1000000 := fun x y => ⟨(hW x y).1, (hW x y).2.2.1⟩
  have sk := s11.kp k3 hW
  have hw3 := hw1.kp k3 hW2
  have hs3 := u4.kp k3 hW2
  have pk3 := p11.kp k3 (fun x y => ⟨by omega, (hW x y).2.2.1⟩) (by omega) (by omega)
  have zk : mu_z H11 < mu_z (mu_sr (mu_sr (mu_nw H11 103 1 1) (mu_z H11) 0 (some w)) (mu_z H) 4 (some (mu_z H11))) := Nat.lt_succ_self _
  have zz : mu_z (mu_sr (mu_sr (mu_nw H11 103 1 1) (mu_z H11) 0 (some w)) (mu_z H) 4 (some (mu_z H11))) = mu_z H11 + 1 := rfl
  have aq : ¬ (mu_z H + 1 = mu_z H ∨ mu_z H + 1 = (mu_z H11)) := fun y => by omega
  have e13 : mu_r (mu_sr (mu_sr (mu_nw H11 103 1 1) (mu_z H11) 0 (some w)) (mu_z H) 4 (some (mu_z H11))) 169 13 = some r := (k3.r (Or.inl (by omega)) (fun y => by omega) 13).trans r1
  have on : ndo (mu_sr (mu_sr (mu_nw H11 103 1 1) (mu_z H11) 0 (some w)) (mu_z H) 4 (some (mu_z H11))) (mu_z H) (mu_z H + 1) 2 s (txt k) [] := by
    obtain ⟨a1, a2, a3, a4, a5, a6, ⟨a7, a8⟩, a9⟩ := u1
    refine ⟨⟨mu_is_nw (len := 1) (sl := 1) a1.1, a1.2⟩, ⟨k3.is a2.1 aq, a2.2⟩, ?_, ?_, ?_, ?_, ⟨(k3.len (Or.inl a2.1.2.1) aq).trans a7, a8⟩, fun i hi => absurd hi (Nat.not_lt_zero _)⟩
    · rw [mu_r_sr, if_neg (fun y => absurd y.2 (by decide)), mu_r_sr, if_neg (fun y => by have := y.1; omega), mu_r_nw, if_neg (by omega)]; exact a3
    · rw [mu_r_sr, if_neg (fun y => absurd y.2 (by decide)), mu_r_sr, if_neg (fun y => by have := y.1; omega), mu_r_nw, if_neg (by omega)]; exact a4
    · show mu_i (mu_nw H11 103 1 1) (mu_z H) 2 = _
      rw [mu_i_nw, if_neg (by omega)]; exact a5
    · show mu_i (mu_nw H11 103 1 1) (mu_z H) 7 = _
      rw [mu_i_nw, if_neg (by omega)]; exact a6
  have x3 : mu_i (mu_sr (mu_sr (mu_nw H11 103 1 1) (mu_z H11) 0 (some w)) (mu_z H) 4 (some (mu_z H11))) (mu_z H) 3 = 0 := by
    show mu_i (mu_nw H11 103 1 1) (mu_z H) 3 = _
    rw [mu_i_nw, if_neg (by omega)]; exact u5
  have x4 : mu_r (mu_sr (mu_sr (mu_nw H11 103 1 1) (mu_z H11) 0 (some w)) (mu_z H) 4 (some (mu_z H11))) (mu_z H) 4 = some (mu_z H11) := by rw [mu_r_sr, if_pos ⟨rfl, rfl⟩]
  have xz : mu_is (mu_sr (mu_sr (mu_nw H11 103 1 1) (mu_z H11) 0 (some w)) (mu_z H) 4 (some (mu_z H11))) (some (mu_z H11)) 103 ∧ mu_n (mu_sr (mu_sr (mu_nw H11 103 1 1) (mu_z H11) 0 (some w)) (mu_z H) 4 (some (mu_z H11))) (mu_z H11) = 1 ∧ mu_r (mu_sr (mu_sr (mu_nw H11 103 1 1) (mu_z H11) 0 (some w)) (mu_z H) 4 (some (mu_z H11))) (mu_z H11) 0 = some w := ⟨mu_is_new H11 103 1 1, by show mu_n (mu_nw H11 103 1 1) (mu_z H11) = 1; rw [mu_n_nw, if_pos rfl], by rw [mu_r_sr, if_neg (fun y => absurd y.2 (by decide)), mu_r_sr, if_pos ⟨rfl, rfl⟩]⟩
  have hy3 := n11_1.kp k3 hW2
  generalize (mu_sr (mu_sr (mu_nw H11 103 1 1) (mu_z H11) 0 (some w)) (mu_z H) 4 (some (mu_z H11))) = H3 at k3 sk hw3 hs3 pk3 zk zz e13 on x3 x4 xz hy3 ⊢
  refine mw_go mu_g487 (k := 1) (f1 := (24, [(4, .inr (.inr (some (mu_z H)))), (0, .inr (.inr (some 169))), (1, .inr (.inr (some s))), (2, .inr (.inr (some w))), (3, .inr (.inr (some y)))], [.inr (.inr (some y))], H3)) (C := []) rfl trivial ?_
  refine mw_if (P := (some y) = none) (a := 27) (b := 32) (fun _ => rfl) (show some y ≠ some 3000000 from fun z => by have h8 := (hs.fz _ hy.is.2).2.1.2; cases z; omega) (fun h9 => by cases h9) (fun h9 => ?_)
  refine mw_go mu_g487 (k := 2) (f1 := (35, [(4, .inr (.inr (some (mu_z H)))), (0, .inr (.inr (some 169))), (1, .inr (.inr (some s))), (2, .inr (.inr (some w))), (3, .inr (.inr (some y)))], [.inr (.inr (some y)), .inr (.inr (some (mu_z H)))], H3)) (C := []) rfl trivial ?_
  refine mw_cA (fun _ => rfl) (show mu_is H3 (some (mu_z H)) 18 from on.1.1) (nd_add (d := d + 3) on hy3.is.1 (by decide) (by omega)) (fun v H4 q4 => ?_)
  obtain ⟨rfl, a4, c4, o4, hc4, k4, ha4, y4, y3⟩ := q4
  have hcap : c4 ≤ 2 * 1 + 2 := o4.2.2.2.2.2.2.1.2.2.2.1
  have aF : ¬ F (mu_z H + 1) := u9
  have hV : ∀ x, (x = mu_z H ∨ x = mu_z H + 1) → ¬ F x ∧ 200 < x ∧ x < 1000000 ∧ mu_r H3 169 13 ≠ some x := by
    intro x y
    rcases y with y | y
    · subst y; exact ⟨u8, by omega, by omega, by rw [e13]; intro e; have e := Option.some.inj e; omega⟩
    · subst y; exact ⟨aF, by omega, by omega, by rw [e13]; intro e; have e := Option.some.inj e; omega⟩
  have hV2 : ∀ x, (x = mu_z H ∨ x = mu_z H + 1) → ¬ F x ∧ x < 1000000 := fun x y => ⟨(hV x y).1, (hV x y).2.2.1⟩
  have zq : ¬ ((mu_z H11) = mu_z H ∨ (mu_z H11) = mu_z H + 1) := fun y => by omega
  have e14 : mu_r H4 169 13 = some r := (k4.r (Or.inl (by omega)) (fun y => by omega) 13).trans e13
  have rn : r ≠ mu_z H + 1 := fun e => u13 (by rw [r1, e])
  obtain ⟨F1, g1, g2, g3⟩ := nd_fin o4 ((nds.nil (d := f)).add hy3 |>.kp k4 hV2) (hs3.kp k4 hV2) hk79 (y3.trans x3) (y4.trans x4) ⟨k4.is xz.1 zq, (k4.len (Or.inl xz.1.2.1) zq).trans xz.2.1, (k4.r (Or.inl xz.1.2.1) zq 0).trans xz.2.2⟩ (hw3.kp k4 hV2) ⟨Nat.le_refl _, by rcases ha4 with e | e <;> omega, by omega, by omega⟩ g200 ⟨by rw [e14]; intro e; have e := Option.some.inj e; omega, by rw [e14]; intro e; have e := Option.some.inj e; rcases ha4 with e9 | e9 <;> omega, by rw [e14]; intro e; have e := Option.some.inj e; omega⟩ (sk.kp k4 hV) (pk3.kp k4 (fun x y => ⟨by omega, (hV x y).2.2.1⟩) (by omega) (by omega))
  show mu_W _ mu_m487 (38, [(4, .inr (.inr (some (mu_z H)))), (0, .inr (.inr (some 169))), (1, .inr (.inr (some s))), (2, .inr (.inr (some w))), (3, .inr (.inr (some y)))], [.inr (.inr (some (mu_z H)))], H4) _
  exact mw_of (fun _ => mu_ret rfl trivial ⟨_, _, rfl, mu_z H, F1, rfl, g1, g2, g3.wk (by omega)⟩)
