/-! The reference: Module.<init> -/
/-- PathProverModel$Module.<init>(Ljava/lang/String;)V -/
abbrev mu_m517 : ev_M := (2, none, [], ev_b517)
theorem mu_g517 : mu_good mu_m517 := mu_goodk ev_k517
theorem rp_minit {T : Nat → Int32} {n d dep ff A cap m w : Nat} {t : Tok} {F F0 : Nat → Prop} {H H0 : mu_H} {sy : List (List Int32)} (hs : pst T n t dep F H) (hy : syr H F cap sy) (hp : qfr A F0 F H0 H) (hm : mce H F m) (h0 : mu_z H0 ≤ m) (g200 : 200 < mu_z H0) (hz : mu_z H + 10 ≤ 1000000) : mu_TV (mu_D (d + 5)) 517 [.inr (.inr (some m)), .inr (.inr (some w))] H (fun H1 => ∃ A1 p ap q aq, pst T n t dep (fz2 F m m) H1 ∧ syr H1 (fz2 F m m) cap sy ∧ qfr A1 F0 (fz2 F m m) H0 H1 ∧ A1 ≤ A + 4 ∧ ktf H F H1 (fz2 F m m) ∧ mdo H1 (fz2 F m m) m w p q ∧ nun H0 H1 (fz2 F m m) ff p ap 2 (1000000 + 62) 62 0 [] [] [] ∧ nun H0 H1 (fz2 F m m) ff q aq 2 (1000000 + 67) 67 0 [] [] [] ∧ p ≠ q ∧ ap ≠ aq) := by
  have hAz := hp.z
  refine mu_meth (M := mu_m517) rfl rfl ?_
  refine mw_ht (mu_fn_of (show [0, 1].Nodup by decide)) ?_
  have hk : ktf H F H F := ktf.rf
  refine mw_go mu_g517 (k := 1) (f1 := (1, [(0, .inr (.inr (some m))), (1, .inr (.inr (some w)))], [.inr (.inr (some m))], H)) (C := []) rfl trivial ?_
  refine mw_obj rfl ⟨rfl, hm.1.2.1⟩ (by decide) ?_
  show mu_W _ mu_m517 (4, [(0, .inr (.inr (some m))), (1, .inr (.inr (some w)))], [], H) _
  refine mw_go mu_g517 (k := 1) (f1 := (5, [(0, .inr (.inr (some m))), (1, .inr (.inr (some w)))], [.inr (.inr (some m))], H)) (C := []) rfl trivial ?_
  refine mw_newo rfl (by decide) (by omega) ?_
  show mu_W _ mu_m517 (8, [(0, .inr (.inr (some m))), (1, .inr (.inr (some w)))], [.inr (.inr (some (mu_z H))), .inr (.inr (some m))], (mu_nw H 18 0 8)) _
  refine mw_go mu_g517 (k := 2) (f1 := (11, [(0, .inr (.inr (some m))), (1, .inr (.inr (some w)))], [.inr (.inr (some 1000062)), .inr (.inr (some (mu_z H))), .inr (.inr (some (mu_z H))), .inr (.inr (some m))], (mu_nw H 18 0 8))) (C := []) rfl trivial ?_
  refine mw_cV (fun _ => rfl) ⟨rfl, Nat.lt_succ_self _⟩ (nd_newL (j := 62) (H0 := H0) (f := ff) hs (by omega) (by omega) (by decide)) (fun H11 q11 => ?_)
  obtain ⟨v11, s11, k11⟩ := q11
  have f11 : pfr (0 + 2) F F H H11 := pfr.rf.kp k11 (fun p z => z) (by omega) (by omega)
  have mc11 := hm.keep hs f11
  have y11 := hy.keep hs f11
  have kt11 := hk.tr (ktf.pf hs f11)
  have zm11 := f11.z
  have p11 := hp.tr f11
  have z11 := p11.z
  show mu_W _ mu_m517 (14, [(0, .inr (.inr (some m))), (1, .inr (.inr (some w)))], [.inr (.inr (some (mu_z H))), .inr (.inr (some m))], H11) _
  have w11 := v11.nun
  have aw11 : (mu_z H) + 1 < mu_z H11 := w11.1.2.1.1.2.1
  refine mw_go mu_g517 (k := 1) (f1 := (17, [(0, .inr (.inr (some m))), (1, .inr (.inr (some w)))], [], (mu_sr H11 m 1 (some (mu_z H))))) (C := [mu_is H11 (some m) 17]) rfl (show mu_is H11 (some m) 17 from mc11.1) ?_
  obtain ⟨s12, y12, p12, mc12, kk12, ox12⟩ := mce.sr (j := 1) (x := (some (mu_z H))) mc11 s11 y11 p11 h0 g200
  have o12_0 := ox12 w11
  have g12_1 : mu_r (mu_sr H11 m 1 (some (mu_z H))) m 1 = (some (mu_z H)) := by rw [mu_r_sr, if_pos ⟨rfl, rfl⟩]
  have kt12 := kt11.tr kk12
  clear ox12
  obtain ⟨H12, eH12⟩ : ∃ K, K = mu_sr H11 m 1 (some (mu_z H)) := ⟨_, rfl⟩
  rw [← eH12] at s12 y12 p12 mc12 kt12 o12_0 g12_1 ⊢
  have z12 := p12.z
  have ze12 : mu_z H12 = mu_z H11 := by rw [eH12]; rfl
  show mu_W _ mu_m517 (17, [(0, .inr (.inr (some m))), (1, .inr (.inr (some w)))], [], H12) _
  refine mw_go mu_g517 (k := 1) (f1 := (18, [(0, .inr (.inr (some m))), (1, .inr (.inr (some w)))], [.inr (.inr (some m))], H12)) (C := []) rfl trivial ?_
  refine mw_newo rfl (by decide) (by omega) ?_
  show mu_W _ mu_m517 (21, [(0, .inr (.inr (some m))), (1, .inr (.inr (some w)))], [.inr (.inr (some (mu_z H12))), .inr (.inr (some m))], (mu_nw H12 18 0 8)) _
  refine mw_go mu_g517 (k := 2) (f1 := (24, [(0, .inr (.inr (some m))), (1, .inr (.inr (some w)))], [.inr (.inr (some 1000067)), .inr (.inr (some (mu_z H12))), .inr (.inr (some (mu_z H12))), .inr (.inr (some m))], (mu_nw H12 18 0 8))) (C := []) rfl trivial ?_
  refine mw_cV (fun _ => rfl) ⟨rfl, Nat.lt_succ_self _⟩ (nd_newL (j := 67) (H0 := H0) (f := ff) s12 (by omega) (by omega) (by decide)) (fun H13 q13 => ?_)
  obtain ⟨v13, s13, k13⟩ := q13
  have f13 : pfr (0 + 2) F F H12 H13 := pfr.rf.kp k13 (fun p z => z) (by omega) (by omega)
  have g13_1 : mu_r H13 m 1 = (some (mu_z H)) := (f13.1.1.r (Or.inl mc12.1.2.1) (fun z => z.elim (fun e => by have := mc12.2.2.1; have e : m = 169 := e; omega) mc12.2.2.2.2) 1).trans g12_1
  have mc13 := mc12.keep s12 f13
  have y13 := y12.keep s12 f13
  have kt13 := kt12.tr (ktf.pf s12 f13)
  have zm13 := f13.z
  have u13_0 := o12_0.keep s12 g200 f13
  have p13 := p12.tr f13
  have z13 := p13.z
  show mu_W _ mu_m517 (27, [(0, .inr (.inr (some m))), (1, .inr (.inr (some w)))], [.inr (.inr (some (mu_z H12))), .inr (.inr (some m))], H13) _
  have w13 := v13.nun
  have aw13 : (mu_z H12) + 1 < mu_z H13 := w13.1.2.1.1.2.1
  refine mw_go mu_g517 (k := 1) (f1 := (30, [(0, .inr (.inr (some m))), (1, .inr (.inr (some w)))], [], (mu_sr H13 m 2 (some (mu_z H12))))) (C := [mu_is H13 (some m) 17]) rfl (show mu_is H13 (some m) 17 from mc13.1) ?_
  obtain ⟨s14, y14, p14, mc14, kk14, ox14⟩ := mce.sr (j := 2) (x := (some (mu_z H12))) mc13 s13 y13 p13 h0 g200
  have o14_0 := ox14 u13_0
  have o14_1 := ox14 w13
  have g14_1 : mu_r (mu_sr H13 m 2 (some (mu_z H12))) m 1 = (some (mu_z H)) := by rw [mu_r_sr, if_neg (fun z => absurd z.2 (by decide))]; exact g13_1
  have g14_2 : mu_r (mu_sr H13 m 2 (some (mu_z H12))) m 2 = (some (mu_z H12)) := by rw [mu_r_sr, if_pos ⟨rfl, rfl⟩]
  have kt14 := kt13.tr kk14
  clear ox14
  obtain ⟨H14, eH14⟩ : ∃ K, K = mu_sr H13 m 2 (some (mu_z H12)) := ⟨_, rfl⟩
  rw [← eH14] at s14 y14 p14 mc14 kt14 o14_0 o14_1 g14_1 g14_2 ⊢
  have z14 := p14.z
  have ze14 : mu_z H14 = mu_z H13 := by rw [eH14]; rfl
  show mu_W _ mu_m517 (30, [(0, .inr (.inr (some m))), (1, .inr (.inr (some w)))], [], H14) _
  refine mw_go mu_g517 (k := 3) (f1 := (35, [(0, .inr (.inr (some m))), (1, .inr (.inr (some w)))], [], (mu_sr H14 m 0 (some w)))) (C := [mu_is H14 (some m) 17]) rfl (show mu_is H14 (some m) 17 from mc14.1) ?_
  obtain ⟨s15, y15, p15, mc15, kk15, ox15⟩ := mce.sr (j := 0) (x := (some w)) mc14 s14 y14 p14 h0 g200
  have o15_0 := ox15 o14_0
  have o15_1 := ox15 o14_1
  have g15_1 : mu_r (mu_sr H14 m 0 (some w)) m 1 = (some (mu_z H)) := by rw [mu_r_sr, if_neg (fun z => absurd z.2 (by decide))]; exact g14_1
  have g15_2 : mu_r (mu_sr H14 m 0 (some w)) m 2 = (some (mu_z H12)) := by rw [mu_r_sr, if_neg (fun z => absurd z.2 (by decide))]; exact g14_2
  have g15_0 : mu_r (mu_sr H14 m 0 (some w)) m 0 = (some w) := by rw [mu_r_sr, if_pos ⟨rfl, rfl⟩]
  have kt15 := kt14.tr kk15
  clear ox15
  obtain ⟨H15, eH15⟩ : ∃ K, K = mu_sr H14 m 0 (some w) := ⟨_, rfl⟩
  rw [← eH15] at s15 y15 p15 mc15 kt15 o15_0 o15_1 g15_1 g15_2 g15_0 ⊢
  have z15 := p15.z
  have ze15 : mu_z H15 = mu_z H14 := by rw [eH15]; rfl
  show mu_W _ mu_m517 (35, [(0, .inr (.inr (some m))), (1, .inr (.inr (some w)))], [], H15) _
  obtain ⟨s16, y16, p16, kk16, ox16⟩ := mc15.fz s15 y15 p15 h0
  have kt16 := kt15.tr kk16
  exact mw_of (fun _ => mu_ret rfl trivial ⟨_, rfl, _, (mu_z H), (mu_z H) + 1, (mu_z H12), (mu_z H12) + 1, s16, y16, p16, by omega, kt16, ⟨Or.inr (Or.inl rfl), ⟨mc15.1, mc15.2.1⟩, g15_0, g15_1, g15_2⟩, ox16 o15_0, ox16 o15_1, by omega, by omega⟩)
