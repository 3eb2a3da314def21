/-! The reference: choiceSort -/
/-- PathProverModel.choiceSort(LPathProverModel$Node;LPathProverModel$Instance;I)V -/
abbrev mu_m470 : ev_M := (5, none, [], ev_b470)
theorem mu_g470 : mu_good mu_m470 := mu_goodk ev_k470
/-- a choice is sound for the sort wt -/
def chzs (D : MD) (j : Nat) (ss : Nat → Int32) (wt : Int32) : Nat → Tre → Prop
  | 0, _ => False
  | l + 1, c => (tkd c = 10 → ∀ k, k < tsn c → srt D j ss 0 l 0 (tkk c k) = some wt) ∧ (tkd c = 52 → ∀ k, k < tsn c → (k % 2 = 0 → srt D j ss 0 l 1 (tkk c k) = some 1) ∧ (k % 2 = 1 → chzs D j ss wt l (tkk c k))) ∧ (¬ tkd c = 10 → ¬ tkd c = 52 → srt D j ss 0 (l + 1) 0 c = some wt)
def czk (Hb : mu_H) (D : MD) (sp : Nat) (ss : Nat → Int32) (j : Nat) (wt : Int32) (l : Nat) : Prop := ∀ (d q : Nat) (c : Tre) (H : mu_H) (dd : Nat), rms Hb D H → sts H D sp ss → nd Hb D.G dd q c → chw l c → nmk D j c → mu_TE 2 (mu_D (d + 2 * l + 9)) 470 [.inr (.inr (some 169)), .inr (.inr (some q)), .inr (.inr (some (D.ip j))), .inl wt] H (fun H1 => ¬ chzs D j ss wt l c ∧ ffr 1 H H1) (fun v H1 => v = none ∧ chzs D j ss wt l c ∧ ffr 0 H H1)
theorem chw_even {l : Nat} {c : Tre} (h : chw (l + 1) c) (hc : tkd c = 52) : tsn c % 2 = 0 := by
  rcases h with h | h | h
  · rw [h.1] at hc; exact absurd hc (by decide)
  · exact h.2.1
  · have no : ∀ {ks : List Nat}, tkd c ∈ ks → 52 ∈ ks := fun h1 => by rw [← hc]; exact h1
    rcases h with h | h | h | h | h | h | h
    · exact absurd (no h.1) (by decide)
    · exact absurd (no h.1) (by decide)
    · exact absurd (no h.1) (by decide)
    · exact absurd (no h.1) (by decide)
    · exact absurd (no h.1) (by decide)
    · exact h.2.1
    · rw [h.1] at hc; exact absurd hc (by decide)
theorem rp_cz1 {Hb H0 : mu_H} {D : MD} {sp : Nat} {ss : Nat → Int32} {j l d dd q : Nat} {wt : Int32} {c : Tre} {R : Prop} (hb : mdb D) (hy : mdy D) (hj : j < D.n) (hh : sts H0 D sp ss) (hn : nd Hb D.G dd q c) (hx : chw (l + 1) c) (hk : nmk D j c) (hc : tkd c = 10) (hR : R ↔ ∀ k, k < tsn c → srt D j ss 0 l 0 (tkk c k) = some wt) : ∀ m_ k H, k + m_ = tsn c → rms Hb D H → ffr 0 H0 H → (∀ i, i < k → srt D j ss 0 l 0 (tkk c i) = some wt) → mu_W (mu_D (d + 2 * l + 10)) mu_m470 (12, [(4, .inl (nI k)), (3, .inl wt), (2, .inr (.inr (some (D.ip j)))), (1, .inr (.inr (some q))), (0, .inr (.inr (some 169)))], [], H) (fun r => (∃ H1, r = (.inr 2, H1) ∧ ¬ R ∧ ffr 1 H0 H1) ∨ ∃ v H1, r = (.inl v, H1) ∧ v = none ∧ R ∧ ffr 0 H0 H1)
  | 0, k, H, hm_, hr, hf, hd => by
    obtain ⟨kd1, ⟨is1, nF1, lt1⟩, ⟨st1, sr1, sf1⟩, ⟨n2_1, n3_1, n7_1⟩, nm1, ar1, aq1, aF1, ai1, ⟨al1, am1, ax1⟩, ch1, dp1⟩ := nd.ra (c := c) hn hr.2.1
    have hl := hn.s26
    refine mw_go mu_g470 (k := 3) (f1 := (18, [(4, .inl (nI k)), (3, .inl wt), (2, .inr (.inr (some (D.ip j)))), (1, .inr (.inr (some q))), (0, .inr (.inr (some 169)))], [.inl (mu_i H q 2), .inl (nI k)], H)) (C := [mu_is H (some q) 18]) rfl (show mu_is H (some q) 18 from is1) ?_
    refine mw_fr (f' := (18, [(4, .inl (nI k)), (3, .inl wt), (2, .inr (.inr (some (D.ip j)))), (1, .inr (.inr (some q))), (0, .inr (.inr (some 169)))], [.inl (nI (tsn c)), .inl (nI k)], H)) (by first | (rw [n2_1]; done) | (rw [n2_1]; rfl)) ?_
    refine mw_if (P := (nI k) < (nI (tsn c))) (a := 21) (b := 54) (fun _ => rfl) trivial (fun h1 => absurd h1 (by rw [show k = tsn c by omega]; exact Int32.lt_irrefl)) (fun h1 => ?_)
    refine mw_go mu_g470 (k := 1) (f1 := (150, [(4, .inl (nI k)), (3, .inl wt), (2, .inr (.inr (some (D.ip j)))), (1, .inr (.inr (some q))), (0, .inr (.inr (some 169)))], [], H)) (C := []) rfl trivial ?_
    exact mw_of (fun _ => mu_ret rfl trivial (Or.inr ⟨_, _, rfl, rfl, hR.mpr (fun i hi => hd i (by omega)), hf⟩))
  | m_ + 1, k, H, hm_, hr, hf, hd => by
    obtain ⟨kd1, ⟨is1, nF1, lt1⟩, ⟨st1, sr1, sf1⟩, ⟨n2_1, n3_1, n7_1⟩, nm1, ar1, aq1, aF1, ai1, ⟨al1, am1, ax1⟩, ch1, dp1⟩ := nd.ra (c := c) hn hr.2.1
    have hl := hn.s26
    have kt : k < tsn c := by omega
    have xk : exw l (tkk c k) := (hx.pt kt (Or.inl hc)).1 (fun z => by rw [hc] at z; exact absurd z.1 (by decide))
    refine mw_go mu_g470 (k := 3) (f1 := (18, [(4, .inl (nI k)), (3, .inl wt), (2, .inr (.inr (some (D.ip j)))), (1, .inr (.inr (some q))), (0, .inr (.inr (some 169)))], [.inl (mu_i H q 2), .inl (nI k)], H)) (C := [mu_is H (some q) 18]) rfl (show mu_is H (some q) 18 from is1) ?_
    refine mw_fr (f' := (18, [(4, .inl (nI k)), (3, .inl wt), (2, .inr (.inr (some (D.ip j)))), (1, .inr (.inr (some q))), (0, .inr (.inr (some 169)))], [.inl (nI (tsn c)), .inl (nI k)], H)) (by first | (rw [n2_1]; done) | (rw [n2_1]; rfl)) ?_
    refine mw_if (P := (nI k) < (nI (tsn c))) (a := 21) (b := 54) (fun _ => rfl) trivial (fun h1 => ?_) (fun h1 => absurd (nI_lt kt (by omega)) h1)
    obtain ⟨y, yr2, yn2⟩ := ch1 k kt
    have yn2 : nd Hb D.G (dd - 1) y (tkk c k) := yn2
    obtain ⟨b1_2, b2_2, b3_2, b4_2⟩ := ar_at ai1 (by decide) (Nat.lt_of_lt_of_le kt al1) (Nat.lt_of_le_of_lt ax1 (by decide))
    have y2_2 : mu_r H ar1 (nI k).toNatClampNeg = some y := by rw [b4_2]; exact yr2
    refine mw_go mu_g470 (k := 4) (f1 := (27, [(4, .inl (nI k)), (3, .inl wt), (2, .inr (.inr (some (D.ip j)))), (1, .inr (.inr (some q))), (0, .inr (.inr (some 169)))], [.inr (.inr (mu_r H q 1)), .inr (.inr (some 169)), .inr (.inr (some 169))], H)) (C := [mu_is H (some q) 18]) rfl (show mu_is H (some q) 18 from is1) ?_
    refine mw_fr (f' := (27, [(4, .inl (nI k)), (3, .inl wt), (2, .inr (.inr (some (D.ip j)))), (1, .inr (.inr (some q))), (0, .inr (.inr (some 169)))], [.inr (.inr (some ar1)), .inr (.inr (some 169)), .inr (.inr (some 169))], H)) (by first | (rw [aq1]; done) | (rw [aq1]; rfl)) ?_
    refine mw_go mu_g470 (k := 2) (f1 := (30, [(4, .inl (nI k)), (3, .inl wt), (2, .inr (.inr (some (D.ip j)))), (1, .inr (.inr (some q))), (0, .inr (.inr (some 169)))], [.inr (.inr (mu_r H ar1 (nI k).toNatClampNeg)), .inr (.inr (some 169)), .inr (.inr (some 169))], H)) (C := [mu_is H (some ar1) (mu_k H ar1), 103 ≤ mu_k H ar1 ∧ mu_k H ar1 ≤ 110 ∧ mu_k H ar1 ≠ 108, vp_in (nI k) (mu_n H ar1)]) rfl (show (mu_is H (some ar1) (mu_k H ar1)) ∧ (103 ≤ mu_k H ar1 ∧ mu_k H ar1 ≤ 110 ∧ mu_k H ar1 ≠ 108) ∧ (vp_in (nI k) (mu_n H ar1)) from ⟨b1_2, b2_2, b3_2⟩) ?_
    refine mw_fr (f' := (30, [(4, .inl (nI k)), (3, .inl wt), (2, .inr (.inr (some (D.ip j)))), (1, .inr (.inr (some q))), (0, .inr (.inr (some 169)))], [.inr (.inr (some y)), .inr (.inr (some 169)), .inr (.inr (some 169))], H)) (by first | (rw [y2_2]; done) | (rw [y2_2]; rfl)) ?_
    refine mw_go mu_g470 (k := 3) (f1 := (33, [(4, .inl (nI k)), (3, .inl wt), (2, .inr (.inr (some (D.ip j)))), (1, .inr (.inr (some q))), (0, .inr (.inr (some 169)))], [.inl (0 : Int32), .inl (0 : Int32), .inr (.inr (some (D.ip j))), .inr (.inr (some y)), .inr (.inr (some 169)), .inr (.inr (some 169))], H)) (C := []) rfl trivial ?_
    refine mw_cE (as := [.inr (.inr (some y)), .inr (.inr (some (D.ip j))), .inl (0 : Int32), .inl (0 : Int32)]) (o := (some 169)) (S1 := [.inr (.inr (some 169))]) rfl rfl rfl rfl (Nat.le_of_ble_eq_true rfl) (by decide) (show mu_is H (some 169) 1 from hr.2.2.1.1) rfl (by decide) (mu_Dc (show d + 2 + 2 * l + 8 = d + 2 * l + 10 by omega) (rp_sort (Hb := Hb) (sp := sp) (ss := ss) hb hy hj l (d + 2) y (tkk c k) H (dd - 1) 0 (Or.inl rfl) hr (hh.ff hf) yn2 xk (hk.k kt))) (fun E9 e9 => Or.inl ⟨_, rfl, fun z => (by have := hR.mp z k kt; rw [e9.1] at this; cases this), (hf.tr e9.2).wk (by decide)⟩) (fun v9 H3 e9 => ?_)
    obtain ⟨s, rfl, p1, p2⟩ := e9
    show mu_W _ mu_m470 (36, [(4, .inl (nI k)), (3, .inl wt), (2, .inr (.inr (some (D.ip j)))), (1, .inr (.inr (some q))), (0, .inr (.inr (some 169)))], [.inl s, .inr (.inr (some 169))], H3) _
    have hr2 := p2.rms hr
    refine mw_go mu_g470 (k := 1) (f1 := (37, [(4, .inl (nI k)), (3, .inl wt), (2, .inr (.inr (some (D.ip j)))), (1, .inr (.inr (some q))), (0, .inr (.inr (some 169)))], [.inl wt, .inl s, .inr (.inr (some 169))], H3)) (C := []) rfl trivial ?_
    refine mw_if (P := s = wt) (a := 40) (b := 44) (fun _ => rfl) trivial (fun h2 => ?_) (fun h2 => ?_)
    · -- 40
      refine mw_go mu_g470 (k := 2) (f1 := (45, [(4, .inl (nI k)), (3, .inl wt), (2, .inr (.inr (some (D.ip j)))), (1, .inr (.inr (some q))), (0, .inr (.inr (some 169)))], [.inl (1 : Int32), .inr (.inr (some 169))], H3)) (C := []) rfl trivial ?_
      refine mw_cE (as := [.inl (1 : Int32)]) (o := some 169) (S1 := []) rfl rfl rfl rfl (Nat.le_of_ble_eq_true rfl) (by decide) hr2.2.2.1.1 rfl (by decide) (rp_sound (x := 1)) (fun H9 e9 => absurd e9.1 (by decide)) (fun v9 H9 e9 => ?_)
      obtain ⟨_, rfl, e9⟩ := e9
      rw [e9]
      clear e9 H9
      show mu_W _ mu_m470 (48, [(4, .inl (nI k)), (3, .inl wt), (2, .inr (.inr (some (D.ip j)))), (1, .inr (.inr (some q))), (0, .inr (.inr (some 169)))], [], H3) _
      refine mw_go mu_g470 (k := 2) (f1 := (12, [(4, .inl ((nI k) + 1)), (3, .inl wt), (2, .inr (.inr (some (D.ip j)))), (1, .inr (.inr (some q))), (0, .inr (.inr (some 169)))], [], H3)) (C := []) rfl trivial ?_
      refine mw_sub (L' := [(4, .inl (nI (k + 1))), (3, .inl wt), (2, .inr (.inr (some (D.ip j)))), (1, .inr (.inr (some q))), (0, .inr (.inr (some 169)))]) (by intro x hx; simp only [List.mem_cons, List.not_mem_nil, or_false] at hx ⊢; rcases hx with rfl | rfl | rfl | rfl | rfl <;> first | (simp [nI_add, show (1 : Int32) = nI 1 from rfl]; done) | simp [nI]) ?_
      exact rp_cz1 hb hy hj hh hn hx hk hc hR m_ (k + 1) _ (by omega) hr2 (hf.tr p2) (fun i hi => by
          by_cases e : i = k
          · subst e; rw [p1, h2]
          · exact hd i (by omega))
    · -- 44
      refine mw_go mu_g470 (k := 1) (f1 := (45, [(4, .inl (nI k)), (3, .inl wt), (2, .inr (.inr (some (D.ip j)))), (1, .inr (.inr (some q))), (0, .inr (.inr (some 169)))], [.inl (0 : Int32), .inr (.inr (some 169))], H3)) (C := []) rfl trivial ?_
      exact mw_cE (as := [.inl (0 : Int32)]) (o := some 169) (S1 := []) rfl rfl rfl rfl (Nat.le_of_ble_eq_true rfl) (by decide) hr2.2.2.1.1 rfl (by decide) (rp_sound (x := 0)) (fun H9 e9 => by rw [e9.2]; exact Or.inl ⟨_, rfl, fun z => (by have y9 := hR.mp z k kt; rw [p1] at y9; exact h2 (Option.some.inj y9)), (hf.tr p2).ex⟩) (fun v9 H9 e9 => absurd rfl e9.1)
theorem rp_cz2 {Hb H0 : mu_H} {D : MD} {sp : Nat} {ss : Nat → Int32} {j l d dd q : Nat} {wt : Int32} {c : Tre} {R : Prop} (hb : mdb D) (hy : mdy D) (hj : j < D.n) (hh : sts H0 D sp ss) (hn : nd Hb D.G dd q c) (hx : chw (l + 1) c) (hk : nmk D j c) (hc : tkd c = 52) (hR : R ↔ ∀ k, k < tsn c → (k % 2 = 0 → srt D j ss 0 l 1 (tkk c k) = some 1) ∧ (k % 2 = 1 → chzs D j ss wt l (tkk c k))) (ih : czk Hb D sp ss j wt l) : ∀ m_ k H, k + 2 * m_ = tsn c → k % 2 = 0 → rms Hb D H → ffr 0 H0 H → (∀ i, i < k → (i % 2 = 0 → srt D j ss 0 l 1 (tkk c i) = some 1) ∧ (i % 2 = 1 → chzs D j ss wt l (tkk c i))) → mu_W (mu_D (d + 2 * l + 10)) mu_m470 (69, [(4, .inl (nI k)), (3, .inl wt), (2, .inr (.inr (some (D.ip j)))), (1, .inr (.inr (some q))), (0, .inr (.inr (some 169)))], [], H) (fun r => (∃ H1, r = (.inr 2, H1) ∧ ¬ R ∧ ffr 1 H0 H1) ∨ ∃ v H1, r = (.inl v, H1) ∧ v = none ∧ R ∧ ffr 0 H0 H1)
  | 0, k, H, hm_, hev, hr, hf, hd => by
    obtain ⟨kd1, ⟨is1, nF1, lt1⟩, ⟨st1, sr1, sf1⟩, ⟨n2_1, n3_1, n7_1⟩, nm1, ar1, aq1, aF1, ai1, ⟨al1, am1, ax1⟩, ch1, dp1⟩ := nd.ra (c := c) hn hr.2.1
    have hl := hn.s26
    refine mw_go mu_g470 (k := 3) (f1 := (75, [(4, .inl (nI k)), (3, .inl wt), (2, .inr (.inr (some (D.ip j)))), (1, .inr (.inr (some q))), (0, .inr (.inr (some 169)))], [.inl (mu_i H q 2), .inl (nI k)], H)) (C := [mu_is H (some q) 18]) rfl (show mu_is H (some q) 18 from is1) ?_
    refine mw_fr (f' := (75, [(4, .inl (nI k)), (3, .inl wt), (2, .inr (.inr (some (D.ip j)))), (1, .inr (.inr (some q))), (0, .inr (.inr (some 169)))], [.inl (nI (tsn c)), .inl (nI k)], H)) (by first | (rw [n2_1]; done) | (rw [n2_1]; rfl)) ?_
    refine mw_if (P := (nI k) < (nI (tsn c))) (a := 78) (b := 126) (fun _ => rfl) trivial (fun h1 => absurd h1 (by rw [show k = tsn c by omega]; exact Int32.lt_irrefl)) (fun h1 => ?_)
    refine mw_go mu_g470 (k := 1) (f1 := (150, [(4, .inl (nI k)), (3, .inl wt), (2, .inr (.inr (some (D.ip j)))), (1, .inr (.inr (some q))), (0, .inr (.inr (some 169)))], [], H)) (C := []) rfl trivial ?_
    exact mw_of (fun _ => mu_ret rfl trivial (Or.inr ⟨_, _, rfl, rfl, hR.mpr (fun i hi => hd i (by omega)), hf⟩))
  | m_ + 1, k, H, hm_, hev, hr, hf, hd => by
    obtain ⟨kd1, ⟨is1, nF1, lt1⟩, ⟨st1, sr1, sf1⟩, ⟨n2_1, n3_1, n7_1⟩, nm1, ar1, aq1, aF1, ai1, ⟨al1, am1, ax1⟩, ch1, dp1⟩ := nd.ra (c := c) hn hr.2.1
    have hl := hn.s26
    have kt : k < tsn c := by omega
    have k1t : k + 1 < tsn c := by omega
    have ke : k % 2 = 0 := hev
    have xk : exw l (tkk c k) := (hx.pt kt (Or.inr hc)).1 (fun z => by omega)
    have x1 : chw l (tkk c (k + 1)) := (hx.pt k1t (Or.inr hc)).2 ⟨hc, by omega⟩
    refine mw_go mu_g470 (k := 3) (f1 := (75, [(4, .inl (nI k)), (3, .inl wt), (2, .inr (.inr (some (D.ip j)))), (1, .inr (.inr (some q))), (0, .inr (.inr (some 169)))], [.inl (mu_i H q 2), .inl (nI k)], H)) (C := [mu_is H (some q) 18]) rfl (show mu_is H (some q) 18 from is1) ?_
    refine mw_fr (f' := (75, [(4, .inl (nI k)), (3, .inl wt), (2, .inr (.inr (some (D.ip j)))), (1, .inr (.inr (some q))), (0, .inr (.inr (some 169)))], [.inl (nI (tsn c)), .inl (nI k)], H)) (by first | (rw [n2_1]; done) | (rw [n2_1]; rfl)) ?_
    refine mw_if (P := (nI k) < (nI (tsn c))) (a := 78) (b := 126) (fun _ => rfl) trivial (fun h1 => ?_) (fun h1 => absurd (nI_lt kt (by omega)) h1)
    obtain ⟨y, yr2, yn2⟩ := ch1 k kt
    have yn2 : nd Hb D.G (dd - 1) y (tkk c k) := yn2
    obtain ⟨b1_2, b2_2, b3_2, b4_2⟩ := ar_at ai1 (by decide) (Nat.lt_of_lt_of_le kt al1) (Nat.lt_of_le_of_lt ax1 (by decide))
    have y2_2 : mu_r H ar1 (nI k).toNatClampNeg = some y := by rw [b4_2]; exact yr2
    refine mw_go mu_g470 (k := 4) (f1 := (84, [(4, .inl (nI k)), (3, .inl wt), (2, .inr (.inr (some (D.ip j)))), (1, .inr (.inr (some q))), (0, .inr (.inr (some 169)))], [.inr (.inr (mu_r H q 1)), .inr (.inr (some 169)), .inr (.inr (some 169))], H)) (C := [mu_is H (some q) 18]) rfl (show mu_is H (some q) 18 from is1) ?_
    refine mw_fr (f' := (84, [(4, .inl (nI k)), (3, .inl wt), (2, .inr (.inr (some (D.ip j)))), (1, .inr (.inr (some q))), (0, .inr (.inr (some 169)))], [.inr (.inr (some ar1)), .inr (.inr (some 169)), .inr (.inr (some 169))], H)) (by first | (rw [aq1]; done) | (rw [aq1]; rfl)) ?_
    refine mw_go mu_g470 (k := 2) (f1 := (87, [(4, .inl (nI k)), (3, .inl wt), (2, .inr (.inr (some (D.ip j)))), (1, .inr (.inr (some q))), (0, .inr (.inr (some 169)))], [.inr (.inr (mu_r H ar1 (nI k).toNatClampNeg)), .inr (.inr (some 169)), .inr (.inr (some 169))], H)) (C := [mu_is H (some ar1) (mu_k H ar1), 103 ≤ mu_k H ar1 ∧ mu_k H ar1 ≤ 110 ∧ mu_k H ar1 ≠ 108, vp_in (nI k) (mu_n H ar1)]) rfl (show (mu_is H (some ar1) (mu_k H ar1)) ∧ (103 ≤ mu_k H ar1 ∧ mu_k H ar1 ≤ 110 ∧ mu_k H ar1 ≠ 108) ∧ (vp_in (nI k) (mu_n H ar1)) from ⟨b1_2, b2_2, b3_2⟩) ?_
    refine mw_fr (f' := (87, [(4, .inl (nI k)), (3, .inl wt), (2, .inr (.inr (some (D.ip j)))), (1, .inr (.inr (some q))), (0, .inr (.inr (some 169)))], [.inr (.inr (some y)), .inr (.inr (some 169)), .inr (.inr (some 169))], H)) (by first | (rw [y2_2]; done) | (rw [y2_2]; rfl)) ?_
    refine mw_go mu_g470 (k := 3) (f1 := (90, [(4, .inl (nI k)), (3, .inl wt), (2, .inr (.inr (some (D.ip j)))), (1, .inr (.inr (some q))), (0, .inr (.inr (some 169)))], [.inl (1 : Int32), .inl (0 : Int32), .inr (.inr (some (D.ip j))), .inr (.inr (some y)), .inr (.inr (some 169)), .inr (.inr (some 169))], H)) (C := []) rfl trivial ?_
    refine mw_cE (as := [.inr (.inr (some y)), .inr (.inr (some (D.ip j))), .inl (0 : Int32), .inl (1 : Int32)]) (o := (some 169)) (S1 := [.inr (.inr (some 169))]) rfl rfl rfl rfl (Nat.le_of_ble_eq_true rfl) (by decide) (show mu_is H (some 169) 1 from hr.2.2.1.1) rfl (by decide) (mu_Dc (show d + 2 + 2 * l + 8 = d + 2 * l + 10 by omega) (rp_sort (Hb := Hb) (sp := sp) (ss := ss) hb hy hj l (d + 2) y (tkk c k) H (dd - 1) 1 (Or.inr rfl) hr (hh.ff hf) yn2 xk (hk.k kt))) (fun E9 e9 => Or.inl ⟨_, rfl, fun z => (by have := (hR.mp z k kt).1 ke; rw [e9.1] at this; cases this), (hf.tr e9.2).wk (by decide)⟩) (fun v9 H3 e9 => ?_)
    obtain ⟨s, rfl, p1, p2⟩ := e9
    show mu_W _ mu_m470 (93, [(4, .inl (nI k)), (3, .inl wt), (2, .inr (.inr (some (D.ip j)))), (1, .inr (.inr (some q))), (0, .inr (.inr (some 169)))], [.inl s, .inr (.inr (some 169))], H3) _
    have hr2 := p2.rms hr
    refine mw_go mu_g470 (k := 1) (f1 := (94, [(4, .inl (nI k)), (3, .inl wt), (2, .inr (.inr (some (D.ip j)))), (1, .inr (.inr (some q))), (0, .inr (.inr (some 169)))], [.inl (1 : Int32), .inl s, .inr (.inr (some 169))], H3)) (C := []) rfl trivial ?_
    refine mw_if (P := s = (1 : Int32)) (a := 97) (b := 101) (fun _ => rfl) trivial (fun h2 => ?_) (fun h2 => ?_)
    · -- 97
      refine mw_go mu_g470 (k := 2) (f1 := (102, [(4, .inl (nI k)), (3, .inl wt), (2, .inr (.inr (some (D.ip j)))), (1, .inr (.inr (some q))), (0, .inr (.inr (some 169)))], [.inl (1 : Int32), .inr (.inr (some 169))], H3)) (C := []) rfl trivial ?_
      refine mw_cE (as := [.inl (1 : Int32)]) (o := some 169) (S1 := []) rfl rfl rfl rfl (Nat.le_of_ble_eq_true rfl) (by decide) hr2.2.2.1.1 rfl (by decide) (rp_sound (x := 1)) (fun H9 e9 => absurd e9.1 (by decide)) (fun v9 H9 e9 => ?_)
      obtain ⟨_, rfl, e9⟩ := e9
      rw [e9]
      clear e9 H9
      show mu_W _ mu_m470 (105, [(4, .inl (nI k)), (3, .inl wt), (2, .inr (.inr (some (D.ip j)))), (1, .inr (.inr (some q))), (0, .inr (.inr (some 169)))], [], H3) _
      obtain ⟨kd4, ⟨is4, nF4, lt4⟩, ⟨st4, sr4, sf4⟩, ⟨n2_4, n3_4, n7_4⟩, nm4, ar4, aq4, aF4, ai4, ⟨al4, am4, ax4⟩, ch4, dp4⟩ := nd.ra (c := c) hn hr2.2.1
      have e1 : nI k + (1 : Int32) = nI (k + 1) := nI_add _ _
      obtain ⟨y1, yr5, yn5⟩ := ch4 (k + 1) k1t
      have yn5 : nd Hb D.G (dd - 1) y1 (tkk c (k + 1)) := yn5
      obtain ⟨b1_5, b2_5, b3_5, b4_5⟩ := ar_at ai4 (by decide) (Nat.lt_of_lt_of_le k1t al4) (Nat.lt_of_le_of_lt ax4 (by decide))
      have y2_5 : mu_r H3 ar4 (nI (k + 1)).toNatClampNeg = some y1 := by rw [b4_5]; exact yr5
      refine mw_go mu_g470 (k := 3) (f1 := (110, [(4, .inl (nI k)), (3, .inl wt), (2, .inr (.inr (some (D.ip j)))), (1, .inr (.inr (some q))), (0, .inr (.inr (some 169)))], [.inr (.inr (mu_r H3 q 1)), .inr (.inr (some 169))], H3)) (C := [mu_is H3 (some q) 18]) rfl (show mu_is H3 (some q) 18 from is4) ?_
      refine mw_fr (f' := (110, [(4, .inl (nI k)), (3, .inl wt), (2, .inr (.inr (some (D.ip j)))), (1, .inr (.inr (some q))), (0, .inr (.inr (some 169)))], [.inr (.inr (some ar4)), .inr (.inr (some 169))], H3)) (by first | (rw [aq4]; done) | (rw [aq4]; rfl)) ?_
      refine mw_go mu_g470 (k := 3) (f1 := (114, [(4, .inl (nI k)), (3, .inl wt), (2, .inr (.inr (some (D.ip j)))), (1, .inr (.inr (some q))), (0, .inr (.inr (some 169)))], [.inl ((nI k) + (1 : Int32)), .inr (.inr (some ar4)), .inr (.inr (some 169))], H3)) (C := []) rfl trivial ?_
      refine mw_fr (f' := (114, [(4, .inl (nI k)), (3, .inl wt), (2, .inr (.inr (some (D.ip j)))), (1, .inr (.inr (some q))), (0, .inr (.inr (some 169)))], [.inl (nI (k + 1)), .inr (.inr (some ar4)), .inr (.inr (some 169))], H3)) (by first | (rw [e1]; done) | (rw [e1]; rfl)) ?_
      refine mw_go mu_g470 (k := 1) (f1 := (115, [(4, .inl (nI k)), (3, .inl wt), (2, .inr (.inr (some (D.ip j)))), (1, .inr (.inr (some q))), (0, .inr (.inr (some 169)))], [.inr (.inr (mu_r H3 ar4 (nI (k + 1)).toNatClampNeg)), .inr (.inr (some 169))], H3)) (C := [mu_is H3 (some ar4) (mu_k H3 ar4), 103 ≤ mu_k H3 ar4 ∧ mu_k H3 ar4 ≤ 110 ∧ mu_k H3 ar4 ≠ 108, vp_in (nI (k + 1)) (mu_n H3 ar4)]) rfl (show (mu_is H3 (some ar4) (mu_k H3 ar4)) ∧ (103 ≤ mu_k H3 ar4 ∧ mu_k H3 ar4 ≤ 110 ∧ mu_k H3 ar4 ≠ 108) ∧ (vp_in (nI (k + 1)) (mu_n H3 ar4)) from ⟨b1_5, b2_5, b3_5⟩) ?_
      refine mw_fr (f' := (115, [(4, .inl (nI k)), (3, .inl wt), (2, .inr (.inr (some (D.ip j)))), (1, .inr (.inr (some q))), (0, .inr (.inr (some 169)))], [.inr (.inr (some y1)), .inr (.inr (some 169))], H3)) (by first | (rw [y2_5]; done) | (rw [y2_5]; rfl)) ?_
      refine mw_go mu_g470 (k := 2) (f1 := (117, [(4, .inl (nI k)), (3, .inl wt), (2, .inr (.inr (some (D.ip j)))), (1, .inr (.inr (some q))), (0, .inr (.inr (some 169)))], [.inl wt, .inr (.inr (some (D.ip j))), .inr (.inr (some y1)), .inr (.inr (some 169))], H3)) (C := []) rfl trivial ?_
      refine mw_cE (as := [.inr (.inr (some y1)), .inr (.inr (some (D.ip j))), .inl wt]) (o := (some 169)) (S1 := []) rfl rfl rfl rfl (Nat.le_of_ble_eq_true rfl) (by decide) (show mu_is H3 (some 169) 1 from hr2.2.2.1.1) rfl (by decide) (mu_Dc (show d + 1 + 2 * l + 9 = d + 2 * l + 10 by omega) (ih (d + 1) y1 (tkk c (k + 1)) _ _ hr2 (hh.ff (hf.tr p2)) yn5 x1 (hk.k k1t))) (fun E9 e9 => Or.inl ⟨_, rfl, fun z => e9.1 ((hR.mp z (k + 1) k1t).2 (by omega)), ((hf.tr p2).tr e9.2).wk (by decide)⟩) (fun v9 H6 e9 => ?_)
      obtain ⟨rfl, g1, g2⟩ := e9
      show mu_W _ mu_m470 (120, [(4, .inl (nI k)), (3, .inl wt), (2, .inr (.inr (some (D.ip j)))), (1, .inr (.inr (some q))), (0, .inr (.inr (some 169)))], [], H6) _
      refine mw_go mu_g470 (k := 2) (f1 := (69, [(4, .inl ((nI k) + 2)), (3, .inl wt), (2, .inr (.inr (some (D.ip j)))), (1, .inr (.inr (some q))), (0, .inr (.inr (some 169)))], [], H6)) (C := []) rfl trivial ?_
      refine mw_sub (L' := [(4, .inl (nI (k + 2))), (3, .inl wt), (2, .inr (.inr (some (D.ip j)))), (1, .inr (.inr (some q))), (0, .inr (.inr (some 169)))]) (by intro x hx; simp only [List.mem_cons, List.not_mem_nil, or_false] at hx ⊢; rcases hx with rfl | rfl | rfl | rfl | rfl <;> first | (simp [nI_add, show (2 : Int32) = nI 2 from rfl]; done) | simp [nI]) ?_
      exact rp_cz2 hb hy hj hh hn hx hk hc hR ih m_ (k + 2) _ (by omega) (by omega) (g2.rms hr2) ((hf.tr p2).tr g2) (fun i hi => by
          by_cases e : i = k
          · subst e; exact ⟨fun _ => by rw [p1, h2], fun z => by omega⟩
          · by_cases e2 : i = k + 1
            · subst e2; exact ⟨fun z => by omega, fun _ => g1⟩
            · exact hd i (by omega))
    · -- 101
      refine mw_go mu_g470 (k := 1) (f1 := (102, [(4, .inl (nI k)), (3, .inl wt), (2, .inr (.inr (some (D.ip j)))), (1, .inr (.inr (some q))), (0, .inr (.inr (some 169)))], [.inl (0 : Int32), .inr (.inr (some 169))], H3)) (C := []) rfl trivial ?_
      exact mw_cE (as := [.inl (0 : Int32)]) (o := some 169) (S1 := []) rfl rfl rfl rfl (Nat.le_of_ble_eq_true rfl) (by decide) hr2.2.2.1.1 rfl (by decide) (rp_sound (x := 0)) (fun H9 e9 => by rw [e9.2]; exact Or.inl ⟨_, rfl, fun z => (by have y9 := (hR.mp z k kt).1 ke; rw [p1] at y9; exact h2 (Option.some.inj y9)), (hf.tr p2).ex⟩) (fun v9 H9 e9 => absurd rfl e9.1)
theorem rp_choiceS {Hb : mu_H} {D : MD} {sp : Nat} {ss : Nat → Int32} {j : Nat} {wt : Int32} (hb : mdb D) (hy : mdy D) (hj : j < D.n) : ∀ l, czk Hb D sp ss j wt l
  | 0 => fun _ _ _ _ _ _ _ _ hx _ => hx.elim
  | l + 1 => fun d q c H dd hr hh hn hx hk => by
    have ih := rp_choiceS (Hb := Hb) (sp := sp) (ss := ss) (wt := wt) hb hy hj l
    refine mu_meth (M := mu_m470) rfl rfl ?_
    refine mw_ht (mu_fn_of (show [0, 1, 2, 3].Nodup by decide)) ?_
    refine mu_Wc (show d + 2 * l + 10 = d + 2 * (l + 1) + 8 by omega) ?_
    obtain ⟨kd1, ⟨is1, nF1, lt1⟩, ⟨st1, sr1, sf1⟩, ⟨n2_1, n3_1, n7_1⟩, nm1, ar1, aq1, aF1, ai1, ⟨al1, am1, ax1⟩, ch1, dp1⟩ := nd.ra (c := c) hn hr.2.1
    refine mw_go mu_g470 (k := 2) (f1 := (3, [(0, .inr (.inr (some 169))), (1, .inr (.inr (some q))), (2, .inr (.inr (some (D.ip j)))), (3, .inl wt)], [.inr (.inr (some 1000010)), .inr (.inr (some q))], H)) (C := []) rfl trivial ?_
    refine mw_cIe (fun _ => rfl) (show mu_is H (some q) 18 from is1) (agr.isL (e := d + 2 * l + 7) (j := 10) hn hr.2.1 (by decide)) ?_
    refine mw_if (P := (if tkd c = 10 then 1 else 0) = 0) (a := 57) (b := 9) (fun _ => rfl) trivial (fun hi2 => ?_) (fun hi2 => ?_)
    · -- 57
      have ek2 : ¬ tkd c = 10 := fun e => by rw [if_pos e] at hi2; exact absurd hi2 (by decide)
      refine mw_go mu_g470 (k := 2) (f1 := (60, [(0, .inr (.inr (some 169))), (1, .inr (.inr (some q))), (2, .inr (.inr (some (D.ip j)))), (3, .inl wt)], [.inr (.inr (some 1000052)), .inr (.inr (some q))], H)) (C := []) rfl trivial ?_
      refine mw_cIe (fun _ => rfl) (show mu_is H (some q) 18 from is1) (agr.isL (e := d + 2 * l + 7) (j := 52) hn hr.2.1 (by decide)) ?_
      refine mw_if (P := (if tkd c = 52 then 1 else 0) = 0) (a := 129) (b := 66) (fun _ => rfl) trivial (fun hi3 => ?_) (fun hi3 => ?_)
      · -- 129
        have ek3 : ¬ tkd c = 52 := fun e => by rw [if_pos e] at hi3; exact absurd hi3 (by decide)
        have xe := hx.no (fun z => z.elim ek2 ek3)
        refine mw_go mu_g470 (k := 6) (f1 := (135, [(0, .inr (.inr (some 169))), (1, .inr (.inr (some q))), (2, .inr (.inr (some (D.ip j)))), (3, .inl wt)], [.inl (0 : Int32), .inl (0 : Int32), .inr (.inr (some (D.ip j))), .inr (.inr (some q)), .inr (.inr (some 169)), .inr (.inr (some 169))], H)) (C := []) rfl trivial ?_
        refine mw_cE (as := [.inr (.inr (some q)), .inr (.inr (some (D.ip j))), .inl (0 : Int32), .inl (0 : Int32)]) (o := (some 169)) (S1 := [.inr (.inr (some 169))]) rfl rfl rfl rfl (Nat.le_of_ble_eq_true rfl) (by decide) (show mu_is H (some 169) 1 from hr.2.2.1.1) rfl (by decide) (mu_Dc (show d + 2 * (l + 1) + 8 = d + 2 * l + 10 by omega) (rp_sort (Hb := Hb) (sp := sp) (ss := ss) hb hy hj (l + 1) d q c H dd 0 (Or.inl rfl) hr hh hn xe hk)) (fun E9 e9 => Or.inl ⟨_, rfl, fun z => (by have := z.2.2 ek2 ek3; rw [e9.1] at this; cases this), e9.2⟩) (fun v9 H4 e9 => ?_)
        obtain ⟨s, rfl, p1, p2⟩ := e9
        show mu_W _ mu_m470 (138, [(0, .inr (.inr (some 169))), (1, .inr (.inr (some q))), (2, .inr (.inr (some (D.ip j)))), (3, .inl wt)], [.inl s, .inr (.inr (some 169))], H4) _
        have hr2 := p2.rms hr
        refine mw_go mu_g470 (k := 1) (f1 := (139, [(0, .inr (.inr (some 169))), (1, .inr (.inr (some q))), (2, .inr (.inr (some (D.ip j)))), (3, .inl wt)], [.inl wt, .inl s, .inr (.inr (some 169))], H4)) (C := []) rfl trivial ?_
        refine mw_if (P := s = wt) (a := 142) (b := 146) (fun _ => rfl) trivial (fun h2 => ?_) (fun h2 => ?_)
        · -- 142
          refine mw_go mu_g470 (k := 2) (f1 := (147, [(0, .inr (.inr (some 169))), (1, .inr (.inr (some q))), (2, .inr (.inr (some (D.ip j)))), (3, .inl wt)], [.inl (1 : Int32), .inr (.inr (some 169))], H4)) (C := []) rfl trivial ?_
          refine mw_cE (as := [.inl (1 : Int32)]) (o := some 169) (S1 := []) rfl rfl rfl rfl (Nat.le_of_ble_eq_true rfl) (by decide) hr2.2.2.1.1 rfl (by decide) (rp_sound (x := 1)) (fun H9 e9 => absurd e9.1 (by decide)) (fun v9 H9 e9 => ?_)
          obtain ⟨_, rfl, e9⟩ := e9
          rw [e9]
          clear e9 H9
          show mu_W _ mu_m470 (150, [(0, .inr (.inr (some 169))), (1, .inr (.inr (some q))), (2, .inr (.inr (some (D.ip j)))), (3, .inl wt)], [], H4) _
          exact mw_of (fun _ => mu_ret rfl trivial (Or.inr ⟨_, _, rfl, rfl, ⟨fun w => absurd w ek2, fun w => absurd w ek3, fun _ _ => by rw [p1, h2]⟩, p2⟩))
        · -- 146
          refine mw_go mu_g470 (k := 1) (f1 := (147, [(0, .inr (.inr (some 169))), (1, .inr (.inr (some q))), (2, .inr (.inr (some (D.ip j)))), (3, .inl wt)], [.inl (0 : Int32), .inr (.inr (some 169))], H4)) (C := []) rfl trivial ?_
          exact mw_cE (as := [.inl (0 : Int32)]) (o := some 169) (S1 := []) rfl rfl rfl rfl (Nat.le_of_ble_eq_true rfl) (by decide) hr2.2.2.1.1 rfl (by decide) (rp_sound (x := 0)) (fun H9 e9 => by rw [e9.2]; exact Or.inl ⟨_, rfl, fun z => (by have y9 := z.2.2 ek2 ek3; rw [p1] at y9; exact h2 (Option.some.inj y9)), p2.ex⟩) (fun v9 H9 e9 => absurd rfl e9.1)
      · -- 66
        have ek3 : tkd c = 52 := Decidable.byContradiction (fun e => hi3 (if_neg e))
        have ev := chw_even hx ek3
        refine mw_go mu_g470 (k := 2) (f1 := (69, [(4, .inl (0 : Int32)), (0, .inr (.inr (some 169))), (1, .inr (.inr (some q))), (2, .inr (.inr (some (D.ip j)))), (3, .inl wt)], [], H)) (C := []) rfl trivial ?_
        refine mw_sub (L' := [(4, .inl (nI 0)), (3, .inl wt), (2, .inr (.inr (some (D.ip j)))), (1, .inr (.inr (some q))), (0, .inr (.inr (some 169)))]) (by intro x hx; simp only [List.mem_cons, List.not_mem_nil, or_false] at hx ⊢; rcases hx with rfl | rfl | rfl | rfl | rfl <;> simp [nI]) ?_
        exact rp_cz2 hb hy hj hh hn hx hk ek3 ⟨fun z => z.2.1 ek3, fun z => ⟨fun w => absurd w ek2, fun _ => z, fun _ w => absurd ek3 w⟩⟩ ih (tsn c / 2) 0 _ (by omega) rfl hr ffr.rf (fun i hi => absurd hi (Nat.not_lt_zero _))
    · -- 9
      have ek2 : tkd c = 10 := Decidable.byContradiction (fun e => hi2 (if_neg e))
      refine mw_go mu_g470 (k := 2) (f1 := (12, [(4, .inl (0 : Int32)), (0, .inr (.inr (some 169))), (1, .inr (.inr (some q))), (2, .inr (.inr (some (D.ip j)))), (3, .inl wt)], [], H)) (C := []) rfl trivial ?_
      refine mw_sub (L' := [(4, .inl (nI 0)), (3, .inl wt), (2, .inr (.inr (some (D.ip j)))), (1, .inr (.inr (some q))), (0, .inr (.inr (some 169)))]) (by intro x hx; simp only [List.mem_cons, List.not_mem_nil, or_false] at hx ⊢; rcases hx with rfl | rfl | rfl | rfl | rfl <;> simp [nI]) ?_
      exact rp_cz1 hb hy hj hh hn hx hk ek2 ⟨fun z => z.1 ek2, fun z => ⟨fun _ => z, fun w => (by rw [w] at ek2; exact absurd ek2 (by decide)), fun w => absurd ek2 w⟩⟩ (tsn c) 0 _ (Nat.zero_add _) hr ffr.rf (fun i hi => absurd hi (Nat.not_lt_zero _))
