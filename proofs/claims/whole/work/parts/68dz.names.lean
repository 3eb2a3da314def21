/-! The reference: names -/
/-- PathProverModel.names(LPathProverModel$Node;LPathProverModel$Instance;)V -/
abbrev mu_m476 : ev_M := (4, none, [], ev_b476)
theorem mu_g476 : mu_good mu_m476 := mu_goodk ev_k476
theorem mu_Dc {x n m j : Nat} {as : List mu_V} {H : mu_H} {E : mu_H → Prop} {Q : Option mu_V → mu_H → Prop} (e : n = m) (h : mu_TE x (mu_D n) j as H E Q) : mu_TE x (mu_D m) j as H E Q := by rw [← e]; exact h
theorem mu_Wc {n m : Nat} {M : ev_M} {f : mu_F} {Φ : mu_R → Prop} (e : n = m) (h : mu_W (mu_D n) M f Φ) : mu_W (mu_D m) M f Φ := by rw [← e]; exact h
/-- all names are found, l levels deep -/
def nmo (D : MD) (j : Nat) : Nat → Tre → Prop
  | 0, _ => False
  | l + 1, c => (tkd c ∈ [64, 33] → ¬ fno D j (tns c) = none) ∧ ∀ i, i < tsn c → nmo D j l (tkk c i)
theorem rp_names0 {Hb H0 : mu_H} {D : MD} {j l d dd q : Nat} {c : Tre} (hj : j < D.n) (hn : nd Hb D.G dd q c) (hw : ∀ i, i < tsn c → nwf l (tkk c i)) (ih : ∀ q c H dd, rms Hb D H → nd Hb D.G dd q c → nwf l c → mu_TE 2 (mu_D (d + l + 7)) 476 [.inr (.inr (some 169)), .inr (.inr (some q)), .inr (.inr (some (D.ip j)))] H (fun H1 => ¬ nmo D j l c ∧ ffr 1 H H1) (fun v H1 => v = none ∧ nmo D j l c ∧ ffr 0 H H1)) : ∀ m_ k H, k + m_ = tsn c → rms Hb D H → ffr 0 H0 H → (∀ i, i < k → nmo D j l (tkk c i)) → mu_W (mu_D (d + l + 7)) mu_m476 (19, [(3, .inl (nI k)), (2, .inr (.inr (some (D.ip j)))), (1, .inr (.inr (some q))), (0, .inr (.inr (some 169)))], [], H) (fun r => (∃ H1, r = (.inr 2, H1) ∧ ¬ (∀ i, i < tsn c → nmo D j l (tkk c i)) ∧ ffr 1 H0 H1) ∨ ∃ v H1, r = (.inl v, H1) ∧ v = none ∧ (∀ i, i < tsn c → nmo D j l (tkk c i)) ∧ ffr 0 H0 H1)
  | 0, k, H, hm_, hr, hf, hd => by
    obtain ⟨kd1, ⟨is1, nF1, lt1⟩, ⟨st1, sr1, sf1⟩, ⟨n2_1, n3_1, n7_1⟩, nm1, ar1, aq1, aF1, ai1, ⟨al1, am1, ax1⟩, ch1, dp1⟩ := nd.ra (c := c) hn hr.2.1
    have hl := hn.s26
    refine mw_go mu_g476 (k := 3) (f1 := (24, [(3, .inl (nI k)), (2, .inr (.inr (some (D.ip j)))), (1, .inr (.inr (some q))), (0, .inr (.inr (some 169)))], [.inl (mu_i H q 2), .inl (nI k)], H)) (C := [mu_is H (some q) 18]) rfl (show mu_is H (some q) 18 from is1) ?_
    refine mw_fr (f' := (24, [(3, .inl (nI k)), (2, .inr (.inr (some (D.ip j)))), (1, .inr (.inr (some q))), (0, .inr (.inr (some 169)))], [.inl (nI (tsn c)), .inl (nI k)], H)) (by first | (rw [n2_1]; done) | (rw [n2_1]; rfl)) ?_
    refine mw_if (P := (nI k) < (nI (tsn c))) (a := 27) (b := 44) (fun _ => rfl) trivial (fun h1 => absurd h1 (by rw [show k = tsn c by omega]; exact Int32.lt_irrefl)) (fun h1 => ?_)
    exact mw_of (fun _ => mu_ret rfl trivial (Or.inr ⟨_, _, rfl, rfl, fun i hi => hd i (by omega), hf⟩))
  | m_ + 1, k, H, hm_, hr, hf, hd => by
    obtain ⟨kd1, ⟨is1, nF1, lt1⟩, ⟨st1, sr1, sf1⟩, ⟨n2_1, n3_1, n7_1⟩, nm1, ar1, aq1, aF1, ai1, ⟨al1, am1, ax1⟩, ch1, dp1⟩ := nd.ra (c := c) hn hr.2.1
    have hl := hn.s26
    have hk : k < tsn c := by omega
    refine mw_go mu_g476 (k := 3) (f1 := (24, [(3, .inl (nI k)), (2, .inr (.inr (some (D.ip j)))), (1, .inr (.inr (some q))), (0, .inr (.inr (some 169)))], [.inl (mu_i H q 2), .inl (nI k)], H)) (C := [mu_is H (some q) 18]) rfl (show mu_is H (some q) 18 from is1) ?_
    refine mw_fr (f' := (24, [(3, .inl (nI k)), (2, .inr (.inr (some (D.ip j)))), (1, .inr (.inr (some q))), (0, .inr (.inr (some 169)))], [.inl (nI (tsn c)), .inl (nI k)], H)) (by first | (rw [n2_1]; done) | (rw [n2_1]; rfl)) ?_
    refine mw_if (P := (nI k) < (nI (tsn c))) (a := 27) (b := 44) (fun _ => rfl) trivial (fun h1 => ?_) (fun h1 => absurd (nI_lt hk (by omega)) h1)
    obtain ⟨y, yr2, yn2⟩ := ch1 k hk
    have yn2 : nd Hb D.G (dd - 1) y (tkk c k) := yn2
    obtain ⟨b1_2, b2_2, b3_2, b4_2⟩ := ar_at ai1 (by decide) (Nat.lt_of_lt_of_le hk al1) (Nat.lt_of_le_of_lt ax1 (by decide))
    have y2_2 : mu_r H ar1 (nI k).toNatClampNeg = some y := by rw [b4_2]; exact yr2
    refine mw_go mu_g476 (k := 3) (f1 := (32, [(3, .inl (nI k)), (2, .inr (.inr (some (D.ip j)))), (1, .inr (.inr (some q))), (0, .inr (.inr (some 169)))], [.inr (.inr (mu_r H q 1)), .inr (.inr (some 169))], H)) (C := [mu_is H (some q) 18]) rfl (show mu_is H (some q) 18 from is1) ?_
    refine mw_fr (f' := (32, [(3, .inl (nI k)), (2, .inr (.inr (some (D.ip j)))), (1, .inr (.inr (some q))), (0, .inr (.inr (some 169)))], [.inr (.inr (some ar1)), .inr (.inr (some 169))], H)) (by first | (rw [aq1]; done) | (rw [aq1]; rfl)) ?_
    refine mw_go mu_g476 (k := 2) (f1 := (34, [(3, .inl (nI k)), (2, .inr (.inr (some (D.ip j)))), (1, .inr (.inr (some q))), (0, .inr (.inr (some 169)))], [.inr (.inr (mu_r H ar1 (nI k).toNatClampNeg)), .inr (.inr (some 169))], H)) (C := [mu_is H (some ar1) (mu_k H ar1), 103 ≤ mu_k H ar1 ∧ mu_k H ar1 ≤ 110 ∧ mu_k H ar1 ≠ 108, vp_in (nI k) (mu_n H ar1)]) rfl (show (mu_is H (some ar1) (mu_k H ar1)) ∧ (103 ≤ mu_k H ar1 ∧ mu_k H ar1 ≤ 110 ∧ mu_k H ar1 ≠ 108) ∧ (vp_in (nI k) (mu_n H ar1)) from ⟨b1_2, b2_2, b3_2⟩) ?_
    refine mw_fr (f' := (34, [(3, .inl (nI k)), (2, .inr (.inr (some (D.ip j)))), (1, .inr (.inr (some q))), (0, .inr (.inr (some 169)))], [.inr (.inr (some y)), .inr (.inr (some 169))], H)) (by first | (rw [y2_2]; done) | (rw [y2_2]; rfl)) ?_
    refine mw_go mu_g476 (k := 1) (f1 := (35, [(3, .inl (nI k)), (2, .inr (.inr (some (D.ip j)))), (1, .inr (.inr (some q))), (0, .inr (.inr (some 169)))], [.inr (.inr (some (D.ip j))), .inr (.inr (some y)), .inr (.inr (some 169))], H)) (C := []) rfl trivial ?_
    refine mw_cE (as := [.inr (.inr (some y)), .inr (.inr (some (D.ip j)))]) (o := (some 169)) (S1 := []) rfl rfl rfl rfl (Nat.le_of_ble_eq_true rfl) (by decide) (show mu_is H (some 169) 1 from hr.2.2.1.1) rfl (by decide) (ih y (tkk c k) H (dd - 1) hr yn2 (hw k hk)) (fun E9 e9 => Or.inl ⟨_, rfl, fun z => e9.1 (z k hk), (hf.tr e9.2).wk (by decide)⟩) (fun v9 H3 e9 => ?_)
    obtain ⟨rfl, p1, p2⟩ := e9
    show mu_W _ mu_m476 (38, [(3, .inl (nI k)), (2, .inr (.inr (some (D.ip j)))), (1, .inr (.inr (some q))), (0, .inr (.inr (some 169)))], [], H3) _
    refine mw_go mu_g476 (k := 2) (f1 := (19, [(3, .inl ((nI k) + 1)), (2, .inr (.inr (some (D.ip j)))), (1, .inr (.inr (some q))), (0, .inr (.inr (some 169)))], [], H3)) (C := []) rfl trivial ?_
    refine mw_sub (L' := [(3, .inl (nI (k + 1))), (2, .inr (.inr (some (D.ip j)))), (1, .inr (.inr (some q))), (0, .inr (.inr (some 169)))]) (by intro x hx; simp only [List.mem_cons, List.not_mem_nil, or_false] at hx ⊢; rcases hx with rfl | rfl | rfl | rfl <;> simp [nI_add, show (1 : Int32) = nI 1 from rfl]) ?_
    exact rp_names0 hj hn hw ih m_ (k + 1) _ (by omega) (p2.rms hr) (hf.tr p2) (fun i hi => by
        by_cases e : i = k
        · subst e; exact p1
        · exact hd i (by omega))
theorem rp_names {Hb : mu_H} {D : MD} {j d : Nat} : ∀ l {H : mu_H} {dd q : Nat} {c : Tre}, rms Hb D H → j < D.n → nd Hb D.G dd q c → nwf l c → mu_TE 2 (mu_D (d + l + 7)) 476 [.inr (.inr (some 169)), .inr (.inr (some q)), .inr (.inr (some (D.ip j)))] H (fun H1 => ¬ nmo D j l c ∧ ffr 1 H H1) (fun v H1 => v = none ∧ nmo D j l c ∧ ffr 0 H H1)
  | 0, _, _, _, _, _, _, _, hw => hw.elim
  | l + 1, H, dd, q, c, hr, hj, hn, hw => by
    refine mu_meth (M := mu_m476) rfl rfl ?_
    refine mw_ht (mu_fn_of (show [0, 1, 2].Nodup by decide)) ?_
    obtain ⟨kd1, ⟨is1, nF1, lt1⟩, ⟨st1, sr1, sf1⟩, ⟨n2_1, n3_1, n7_1⟩, nm1, ar1, aq1, aF1, ai1, ⟨al1, am1, ax1⟩, ch1, dp1⟩ := nd.ra (c := c) hn hr.2.1
    refine mw_go mu_g476 (k := 2) (f1 := (2, [(0, .inr (.inr (some 169))), (1, .inr (.inr (some q))), (2, .inr (.inr (some (D.ip j))))], [.inr (.inr (some q)), .inr (.inr (some 169))], H)) (C := []) rfl trivial ?_
    refine mw_cIe (fun _ => rfl) (show mu_is H (some 169) 1 from hr.2.2.1.1) (rq_named (d := d + l + 3) hn hr.2.1) ?_
    refine mw_if (P := (if tkd c ∈ [64, 33] then 1 else 0) = 0) (a := 17) (b := 8) (fun _ => rfl) trivial (fun h1 => ?_) (fun h1 => ?_)
    · -- 17
      have nk : ¬ tkd c ∈ [64, 33] := fun e => by rw [if_pos e] at h1; exact absurd h1 (by decide)
      refine mw_go mu_g476 (k := 2) (f1 := (19, [(3, .inl (0 : Int32)), (0, .inr (.inr (some 169))), (1, .inr (.inr (some q))), (2, .inr (.inr (some (D.ip j))))], [], H)) (C := []) rfl trivial ?_
      refine mw_sub (L' := [(3, .inl (nI 0)), (2, .inr (.inr (some (D.ip j)))), (1, .inr (.inr (some q))), (0, .inr (.inr (some 169)))]) (by simp [nI]) ?_
      refine mw_imp (fun r z => ?_) (rp_names0 hj hn hw.2 (fun q c H dd hr hn hw => rp_names l hr hj hn hw) (tsn c) 0 _ (Nat.zero_add _) (ffr.rf.rms hr) ffr.rf (fun i hi => absurd hi (Nat.not_lt_zero _)))
      rcases z with ⟨H9, e, z1, z2⟩ | ⟨v9, H9, e, z1, z2, z3⟩
      · exact Or.inl ⟨H9, e, fun z => z1 z.2, z2⟩
      · exact Or.inr ⟨v9, H9, e, z1, ⟨fun e => absurd e nk, z2⟩, z3⟩
    · -- 8
      have nk : tkd c ∈ [64, 33] := Decidable.byContradiction (fun e => h1 (if_neg e))
      have hns := (hw.1 nk).1
      obtain ⟨nb, nr, _⟩ := nm1.rd hns
      have nm2 := nm1
      rw [nr] at nm2
      refine mw_go mu_g476 (k := 4) (f1 := (14, [(0, .inr (.inr (some 169))), (1, .inr (.inr (some q))), (2, .inr (.inr (some (D.ip j))))], [.inr (.inr (mu_r H q 4)), .inr (.inr (some (D.ip j))), .inr (.inr (some 169))], H)) (C := [mu_is H (some q) 18]) rfl (show mu_is H (some q) 18 from is1) ?_
      refine mw_fr (f' := (14, [(0, .inr (.inr (some 169))), (1, .inr (.inr (some q))), (2, .inr (.inr (some (D.ip j))))], [.inr (.inr (some nb)), .inr (.inr (some (D.ip j))), .inr (.inr (some 169))], H)) (by first | (rw [nr]; done) | (rw [nr]; rfl)) ?_
      refine mw_cE (as := [.inr (.inr (some (D.ip j))), .inr (.inr (some nb))]) (o := (some 169)) (S1 := []) rfl rfl rfl rfl (Nat.le_of_ble_eq_true rfl) (by decide) (show mu_is H (some 169) 1 from hr.2.2.1.1) rfl (by decide) (rp_fnd (d := d + l + 1) hr hj nm2 hns) (fun E9 e9 => Or.inl ⟨_, rfl, fun z => z.1 nk e9.1, e9.2⟩) (fun v9 H2 e9 => ?_)
      obtain ⟨rfl, p1, p2⟩ := e9
      show mu_W _ mu_m476 (17, [(0, .inr (.inr (some 169))), (1, .inr (.inr (some q))), (2, .inr (.inr (some (D.ip j))))], [], H2) _
      refine mw_go mu_g476 (k := 2) (f1 := (19, [(3, .inl (0 : Int32)), (0, .inr (.inr (some 169))), (1, .inr (.inr (some q))), (2, .inr (.inr (some (D.ip j))))], [], H2)) (C := []) rfl trivial ?_
      refine mw_sub (L' := [(3, .inl (nI 0)), (2, .inr (.inr (some (D.ip j)))), (1, .inr (.inr (some q))), (0, .inr (.inr (some 169)))]) (by simp [nI]) ?_
      refine mw_imp (fun r z => ?_) (rp_names0 hj hn hw.2 (fun q c H dd hr hn hw => rp_names l hr hj hn hw) (tsn c) 0 _ (Nat.zero_add _) (p1.rms hr) p1 (fun i hi => absurd hi (Nat.not_lt_zero _)))
      rcases z with ⟨H9, e, z1, z2⟩ | ⟨v9, H9, e, z1, z2, z3⟩
      · exact Or.inl ⟨H9, e, fun z => z1 z.2, z2⟩
      · exact Or.inr ⟨v9, H9, e, z1, ⟨fun _ e => (by rw [e] at p2; cases p2), z2⟩, z3⟩
