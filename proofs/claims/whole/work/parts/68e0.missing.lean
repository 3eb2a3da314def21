/-! The reference: missing -/
/-- PathProverModel.missing(LPathProverModel$Node;LPathProverModel$Instance;)I -/
abbrev mu_m478 : ev_M := (5, (some .int), [], ev_b478)
theorem mu_g478 : mu_good mu_m478 := mu_goodk ev_k478
/-- the bytes of met -/
def mts (H : mu_H) (mt N : Nat) (w : Nat → Int32) : Prop := mu_r H 169 24 = some mt ∧ (mt ≠ 169 ∧ mt < mu_z H ∧ mt < 1000000) ∧ mu_k H mt = 101 ∧ (N ≤ mu_n H mt ∧ mu_n H mt < 2 ^ 31) ∧ ∀ i, i < N → mu_i H mt i = w i
theorem mts.ff {a mt N : Nat} {H H1 : mu_H} {w : Nat → Int32} (h : mts H mt N w) (hf : ffr a H H1) : mts H1 mt N w := by
  obtain ⟨h1, ⟨h2, h3, h4⟩, h5, h6, h7⟩ := h
  have nw : ¬ (mt = 169 ∨ False) := fun z => z.elim h2 id
  exact ⟨(hf.2.2.1 24 (by decide)).trans h1, ⟨h2, Nat.lt_of_lt_of_le h3 hf.1.1, h4⟩, (hf.1.k (Or.inl h3) nw).trans h5, by rw [hf.1.len (Or.inl h3) nw]; exact h6, fun i hi => (hf.1.i (Or.inl h3) nw i).trans (h7 i hi)⟩
/-- the first that is no -1 -/
def msl (f : Nat → Option Int32) : Nat → Nat → Option Int32
  | 0, _ => some (-1)
  | m + 1, k => match f k with
    | none => none
    | some s => if s < 0 then msl f m (k + 1) else some s
/-- what an expression stands on that is not met yet; none: a name is not found -/
def mis (D : MD) (j : Nat) (w : Nat → Int32) : Nat → Tre → Option Int32
  | 0, _ => none
  | l + 1, c => if tkd c ∈ [64, 33] then (match fno D j (tns c) with
      | none => none
      | some x => some (if x.2.2 < 0 then -1 else if w x.2.2.toNatClampNeg < 2 then x.2.2 else -1))
    else msl (fun k => mis D j w l (tkk c k)) (tsn c) 0
theorem rp_missing0 {Hb H0 : mu_H} {D : MD} {mt N : Nat} {w : Nat → Int32} {j l d dd q : Nat} {c : Tre} {R : Option Int32} (hmt : mts H0 mt N w) (hj : j < D.n) (hn : nd Hb D.G dd q c) (hw : ∀ i, i < tsn c → nwf l (tkk c i)) (ih : ∀ q c H dd, rms Hb D H → mts H mt N w → nd Hb D.G dd q c → nwf l c → mu_TE 2 (mu_D (d + l + 7)) 478 [.inr (.inr (some 169)), .inr (.inr (some q)), .inr (.inr (some (D.ip j)))] H (fun H1 => mis D j w l c = none ∧ ffr 1 H H1) (fun v H1 => ∃ x, v = some (.inl x) ∧ mis D j w l c = some x ∧ ffr 0 H H1)) : ∀ m_ k H, k + m_ = tsn c → rms Hb D H → ffr 0 H0 H → msl (fun k => mis D j w l (tkk c k)) m_ k = R → mu_W (mu_D (d + l + 7)) mu_m478 (48, [(3, .inl (nI k)), (2, .inr (.inr (some (D.ip j)))), (1, .inr (.inr (some q))), (0, .inr (.inr (some 169)))], [], H) (fun r => (∃ H1, r = (.inr 2, H1) ∧ R = none ∧ ffr 1 H0 H1) ∨ ∃ v H1, r = (.inl v, H1) ∧ ∃ x, v = some (.inl x) ∧ R = some x ∧ ffr 0 H0 H1)
  | 0, k, H, hm_, hr, hf, hR => by
    obtain ⟨kd1, ⟨is1, nF1, lt1⟩, ⟨st1, sr1, sf1⟩, ⟨n2_1, n3_1, n7_1⟩, nm1, ar1, aq1, aF1, ai1, ⟨al1, am1, ax1⟩, ch1, dp1⟩ := nd.ra (c := c) hn hr.2.1
    have hl := hn.s26
    refine mw_go mu_g478 (k := 3) (f1 := (53, [(3, .inl (nI k)), (2, .inr (.inr (some (D.ip j)))), (1, .inr (.inr (some q))), (0, .inr (.inr (some 169)))], [.inl (mu_i H q 2), .inl (nI k)], H)) (C := [mu_is H (some q) 18]) rfl (show mu_is H (some q) 18 from is1) ?_
    refine mw_fr (f' := (53, [(3, .inl (nI k)), (2, .inr (.inr (some (D.ip j)))), (1, .inr (.inr (some q))), (0, .inr (.inr (some 169)))], [.inl (nI (tsn c)), .inl (nI k)], H)) (by first | (rw [n2_1]; done) | (rw [n2_1]; rfl)) ?_
    refine mw_if (P := (nI k) < (nI (tsn c))) (a := 56) (b := 83) (fun _ => rfl) trivial (fun h1 => absurd h1 (by rw [show k = tsn c by omega]; exact Int32.lt_irrefl)) (fun h1 => ?_)
    refine mw_go mu_g478 (k := 1) (f1 := (84, [(3, .inl (nI k)), (2, .inr (.inr (some (D.ip j)))), (1, .inr (.inr (some q))), (0, .inr (.inr (some 169)))], [.inl (-1 : Int32)], H)) (C := []) rfl trivial ?_
    exact mw_of (fun _ => mu_ret rfl trivial (Or.inr ⟨_, _, rfl, _, rfl, hR.symm, hf⟩))
  | m_ + 1, k, H, hm_, hr, hf, hR => by
    obtain ⟨kd1, ⟨is1, nF1, lt1⟩, ⟨st1, sr1, sf1⟩, ⟨n2_1, n3_1, n7_1⟩, nm1, ar1, aq1, aF1, ai1, ⟨al1, am1, ax1⟩, ch1, dp1⟩ := nd.ra (c := c) hn hr.2.1
    have hl := hn.s26
    have hk : k < tsn c := by omega
    refine mw_go mu_g478 (k := 3) (f1 := (53, [(3, .inl (nI k)), (2, .inr (.inr (some (D.ip j)))), (1, .inr (.inr (some q))), (0, .inr (.inr (some 169)))], [.inl (mu_i H q 2), .inl (nI k)], H)) (C := [mu_is H (some q) 18]) rfl (show mu_is H (some q) 18 from is1) ?_
    refine mw_fr (f' := (53, [(3, .inl (nI k)), (2, .inr (.inr (some (D.ip j)))), (1, .inr (.inr (some q))), (0, .inr (.inr (some 169)))], [.inl (nI (tsn c)), .inl (nI k)], H)) (by first | (rw [n2_1]; done) | (rw [n2_1]; rfl)) ?_
    refine mw_if (P := (nI k) < (nI (tsn c))) (a := 56) (b := 83) (fun _ => rfl) trivial (fun h1 => ?_) (fun h1 => absurd (nI_lt hk (by omega)) h1)
    obtain ⟨y, yr2, yn2⟩ := ch1 k hk
    have yn2 : nd Hb D.G (dd - 1) y (tkk c k) := yn2
    obtain ⟨b1_2, b2_2, b3_2, b4_2⟩ := ar_at ai1 (by decide) (Nat.lt_of_lt_of_le hk al1) (Nat.lt_of_le_of_lt ax1 (by decide))
    have y2_2 : mu_r H ar1 (nI k).toNatClampNeg = some y := by rw [b4_2]; exact yr2
    refine mw_go mu_g478 (k := 3) (f1 := (61, [(3, .inl (nI k)), (2, .inr (.inr (some (D.ip j)))), (1, .inr (.inr (some q))), (0, .inr (.inr (some 169)))], [.inr (.inr (mu_r H q 1)), .inr (.inr (some 169))], H)) (C := [mu_is H (some q) 18]) rfl (show mu_is H (some q) 18 from is1) ?_
    refine mw_fr (f' := (61, [(3, .inl (nI k)), (2, .inr (.inr (some (D.ip j)))), (1, .inr (.inr (some q))), (0, .inr (.inr (some 169)))], [.inr (.inr (some ar1)), .inr (.inr (some 169))], H)) (by first | (rw [aq1]; done) | (rw [aq1]; rfl)) ?_
    refine mw_go mu_g478 (k := 2) (f1 := (63, [(3, .inl (nI k)), (2, .inr (.inr (some (D.ip j)))), (1, .inr (.inr (some q))), (0, .inr (.inr (some 169)))], [.inr (.inr (mu_r H ar1 (nI k).toNatClampNeg)), .inr (.inr (some 169))], H)) (C := [mu_is H (some ar1) (mu_k H ar1), 103 ≤ mu_k H ar1 ∧ mu_k H ar1 ≤ 110 ∧ mu_k H ar1 ≠ 108, vp_in (nI k) (mu_n H ar1)]) rfl (show (mu_is H (some ar1) (mu_k H ar1)) ∧ (103 ≤ mu_k H ar1 ∧ mu_k H ar1 ≤ 110 ∧ mu_k H ar1 ≠ 108) ∧ (vp_in (nI k) (mu_n H ar1)) from ⟨b1_2, b2_2, b3_2⟩) ?_
    refine mw_fr (f' := (63, [(3, .inl (nI k)), (2, .inr (.inr (some (D.ip j)))), (1, .inr (.inr (some q))), (0, .inr (.inr (some 169)))], [.inr (.inr (some y)), .inr (.inr (some 169))], H)) (by first | (rw [y2_2]; done) | (rw [y2_2]; rfl)) ?_
    refine mw_go mu_g478 (k := 1) (f1 := (64, [(3, .inl (nI k)), (2, .inr (.inr (some (D.ip j)))), (1, .inr (.inr (some q))), (0, .inr (.inr (some 169)))], [.inr (.inr (some (D.ip j))), .inr (.inr (some y)), .inr (.inr (some 169))], H)) (C := []) rfl trivial ?_
    rw [msl] at hR
    refine mw_cE (as := [.inr (.inr (some y)), .inr (.inr (some (D.ip j)))]) (o := (some 169)) (S1 := []) rfl rfl rfl rfl (Nat.le_of_ble_eq_true rfl) (by decide) (show mu_is H (some 169) 1 from hr.2.2.1.1) rfl (by decide) (ih y (tkk c k) H (dd - 1) hr (hmt.ff hf) yn2 (hw k hk)) (fun E9 e9 => Or.inl ⟨_, rfl, by rw [e9.1] at hR; exact hR.symm, (hf.tr e9.2).wk (by decide)⟩) (fun v9 H3 e9 => ?_)
    obtain ⟨x, rfl, p1, p2⟩ := e9
    show mu_W _ mu_m478 (67, [(3, .inl (nI k)), (2, .inr (.inr (some (D.ip j)))), (1, .inr (.inr (some q))), (0, .inr (.inr (some 169)))], [.inl x], H3) _
    rw [p1] at hR
    dsimp only at hR
    refine mw_go mu_g478 (k := 2) (f1 := (71, [(4, .inl x), (3, .inl (nI k)), (2, .inr (.inr (some (D.ip j)))), (1, .inr (.inr (some q))), (0, .inr (.inr (some 169)))], [.inl x], H3)) (C := []) rfl trivial ?_
    refine mw_if (P := x < 0) (a := 77) (b := 74) (fun _ => rfl) trivial (fun h2 => ?_) (fun h2 => ?_)
    · -- 77
      rw [if_pos h2] at hR
      refine mw_go mu_g478 (k := 2) (f1 := (48, [(3, .inl ((nI k) + 1)), (4, .inl x), (2, .inr (.inr (some (D.ip j)))), (1, .inr (.inr (some q))), (0, .inr (.inr (some 169)))], [], H3)) (C := []) rfl trivial ?_
      refine mw_sub (L' := [(3, .inl (nI (k + 1))), (2, .inr (.inr (some (D.ip j)))), (1, .inr (.inr (some q))), (0, .inr (.inr (some 169)))]) (by intro x hx; simp only [List.mem_cons, List.not_mem_nil, or_false] at hx ⊢; rcases hx with rfl | rfl | rfl | rfl <;> simp [nI_add, show (1 : Int32) = nI 1 from rfl]) ?_
      exact rp_missing0 hmt hj hn hw ih m_ (k + 1) _ (by omega) (p2.rms hr) (hf.tr p2) hR
    · -- 74
      rw [if_neg h2] at hR
      refine mw_go mu_g478 (k := 1) (f1 := (76, [(4, .inl x), (3, .inl (nI k)), (2, .inr (.inr (some (D.ip j)))), (1, .inr (.inr (some q))), (0, .inr (.inr (some 169)))], [.inl x], H3)) (C := []) rfl trivial ?_
      exact mw_of (fun _ => mu_ret rfl trivial (Or.inr ⟨_, _, rfl, _, rfl, hR.symm, hf.tr p2⟩))
theorem rp_missing {Hb : mu_H} {D : MD} {mt N : Nat} {w : Nat → Int32} {j d : Nat} (hb : mdb D) (hN : (D.pr 0).length ≤ N) : ∀ l {H : mu_H} {dd q : Nat} {c : Tre}, rms Hb D H → mts H mt N w → j < D.n → nd Hb D.G dd q c → nwf l c → mu_TE 2 (mu_D (d + l + 7)) 478 [.inr (.inr (some 169)), .inr (.inr (some q)), .inr (.inr (some (D.ip j)))] H (fun H1 => mis D j w l c = none ∧ ffr 1 H H1) (fun v H1 => ∃ x, v = some (.inl x) ∧ mis D j w l c = some x ∧ ffr 0 H H1)
  | 0, _, _, _, _, _, _, _, _, hw => hw.elim
  | l + 1, H, dd, q, c, hr, hmt, hj, hn, hw => by
    refine mu_meth (M := mu_m478) rfl rfl ?_
    refine mw_ht (mu_fn_of (show [0, 1, 2].Nodup by decide)) ?_
    obtain ⟨kd1, ⟨is1, nF1, lt1⟩, ⟨st1, sr1, sf1⟩, ⟨n2_1, n3_1, n7_1⟩, nm1, ar1, aq1, aF1, ai1, ⟨al1, am1, ax1⟩, ch1, dp1⟩ := nd.ra (c := c) hn hr.2.1
    refine mw_go mu_g478 (k := 2) (f1 := (2, [(0, .inr (.inr (some 169))), (1, .inr (.inr (some q))), (2, .inr (.inr (some (D.ip j))))], [.inr (.inr (some q)), .inr (.inr (some 169))], H)) (C := []) rfl trivial ?_
    refine mw_cIe (fun _ => rfl) (show mu_is H (some 169) 1 from hr.2.2.1.1) (rq_named (d := d + l + 3) hn hr.2.1) ?_
    refine mw_if (P := (if tkd c ∈ [64, 33] then 1 else 0) = 0) (a := 46) (b := 8) (fun _ => rfl) trivial (fun h1 => ?_) (fun h1 => ?_)
    · -- 46
      have nk : ¬ tkd c ∈ [64, 33] := fun e => by rw [if_pos e] at h1; exact absurd h1 (by decide)
      have em : mis D j w (l + 1) c = msl (fun k => mis D j w l (tkk c k)) (tsn c) 0 := by rw [mis, if_neg nk]
      refine mw_go mu_g478 (k := 2) (f1 := (48, [(3, .inl (0 : Int32)), (0, .inr (.inr (some 169))), (1, .inr (.inr (some q))), (2, .inr (.inr (some (D.ip j))))], [], H)) (C := []) rfl trivial ?_
      rw [em]
      refine mw_sub (L' := [(3, .inl (nI 0)), (2, .inr (.inr (some (D.ip j)))), (1, .inr (.inr (some q))), (0, .inr (.inr (some 169)))]) (by simp [nI]) ?_
      exact rp_missing0 hmt hj hn hw.2 (fun q c H dd hr hmt hn hw => rp_missing hb hN l hr hmt hj hn hw) (tsn c) 0 _ (Nat.zero_add _) hr ffr.rf rfl
    · -- 8
      have nk : tkd c ∈ [64, 33] := Decidable.byContradiction (fun e => h1 (if_neg e))
      have hns := (hw.1 nk).1
      obtain ⟨nb, nr, _⟩ := nm1.rd hns
      have nm2 := nm1
      rw [nr] at nm2
      have em : mis D j w (l + 1) c = (match fno D j (tns c) with | none => none | some x => some (if x.2.2 < 0 then -1 else if w x.2.2.toNatClampNeg < 2 then x.2.2 else -1)) := by rw [mis, if_pos nk]
      refine mw_go mu_g478 (k := 4) (f1 := (14, [(0, .inr (.inr (some 169))), (1, .inr (.inr (some q))), (2, .inr (.inr (some (D.ip j))))], [.inr (.inr (mu_r H q 4)), .inr (.inr (some (D.ip j))), .inr (.inr (some 169))], H)) (C := [mu_is H (some q) 18]) rfl (show mu_is H (some q) 18 from is1) ?_
      refine mw_fr (f' := (14, [(0, .inr (.inr (some 169))), (1, .inr (.inr (some q))), (2, .inr (.inr (some (D.ip j))))], [.inr (.inr (some nb)), .inr (.inr (some (D.ip j))), .inr (.inr (some 169))], H)) (by first | (rw [nr]; done) | (rw [nr]; rfl)) ?_
      refine mw_cE (as := [.inr (.inr (some (D.ip j))), .inr (.inr (some nb))]) (o := (some 169)) (S1 := []) rfl rfl rfl rfl (Nat.le_of_ble_eq_true rfl) (by decide) (show mu_is H (some 169) 1 from hr.2.2.1.1) rfl (by decide) (rp_fnd (d := d + l + 1) hr hj nm2 hns) (fun E9 e9 => Or.inl ⟨_, rfl, by rw [em, e9.1], e9.2⟩) (fun v9 H2 e9 => ?_)
      obtain ⟨rfl, p1, p2⟩ := e9
      show mu_W _ mu_m478 (17, [(0, .inr (.inr (some 169))), (1, .inr (.inr (some q))), (2, .inr (.inr (some (D.ip j))))], [], H2) _
      have hr2 := p1.rms hr
      have hm2 := hmt.ff p1
      rw [p2] at em
      dsimp only at em
      have fb := (fno_b hb hj p2).2.2.1
      obtain ⟨s, es⟩ : ∃ s, mu_i H2 169 21 = s := ⟨_, rfl⟩
      rw [es] at em fb
      refine mw_go mu_g478 (k := 2) (f1 := (21, [(0, .inr (.inr (some 169))), (1, .inr (.inr (some q))), (2, .inr (.inr (some (D.ip j))))], [.inl (mu_i H2 169 21)], H2)) (C := [mu_is H2 (some 169) 1]) rfl (show mu_is H2 (some 169) 1 from hr2.2.2.1.1) ?_
      refine mw_fr (f' := (21, [(0, .inr (.inr (some 169))), (1, .inr (.inr (some q))), (2, .inr (.inr (some (D.ip j))))], [.inl s], H2)) (by first | (rw [es]; done) | (rw [es]; rfl)) ?_
      refine mw_if (P := s < 0) (a := 44) (b := 24) (fun _ => rfl) trivial (fun h2 => ?_) (fun h2 => ?_)
      · -- 44
        rw [if_pos h2] at em
        refine mw_go mu_g478 (k := 1) (f1 := (45, [(0, .inr (.inr (some 169))), (1, .inr (.inr (some q))), (2, .inr (.inr (some (D.ip j))))], [.inl (-1 : Int32)], H2)) (C := []) rfl trivial ?_
        exact mw_of (fun _ => mu_ret rfl trivial (Or.inr ⟨_, _, rfl, _, rfl, em, p1⟩))
      · -- 24
        rw [if_neg h2] at em
        obtain ⟨v, hv, rfl⟩ := fb.resolve_left (fun e => h2 (by rw [e]; decide))
        have hv31 : v < mu_n H2 mt := by have := hm2.2.2.2.1.1; omega
        have hc : (nI v).toNatClampNeg = v := nI_clamp (by have := hm2.2.2.2.1.2; omega)
        rw [hc] at em
        have ew : mu_i H2 mt (nI v).toNatClampNeg = w v := by rw [hc]; exact hm2.2.2.2.2 v (by omega)
        have hi9 : vp_in (nI v) (mu_n H2 mt) := vp_in_nI hv31 (by have := hm2.2.2.2.1.2; omega)
        refine mw_go mu_g478 (k := 2) (f1 := (28, [(0, .inr (.inr (some 169))), (1, .inr (.inr (some q))), (2, .inr (.inr (some (D.ip j))))], [.inr (.inr (mu_r H2 169 24))], H2)) (C := [mu_is H2 (some 169) 1]) rfl (show mu_is H2 (some 169) 1 from hr2.2.2.1.1) ?_
        refine mw_fr (f' := (28, [(0, .inr (.inr (some 169))), (1, .inr (.inr (some q))), (2, .inr (.inr (some (D.ip j))))], [.inr (.inr (some mt))], H2)) (by first | (rw [hm2.1]; done) | (rw [hm2.1]; rfl)) ?_
        refine mw_go mu_g478 (k := 2) (f1 := (32, [(0, .inr (.inr (some 169))), (1, .inr (.inr (some q))), (2, .inr (.inr (some (D.ip j))))], [.inl (mu_i H2 169 21), .inr (.inr (some mt))], H2)) (C := [mu_is H2 (some 169) 1]) rfl (show mu_is H2 (some 169) 1 from hr2.2.2.1.1) ?_
        refine mw_fr (f' := (32, [(0, .inr (.inr (some 169))), (1, .inr (.inr (some q))), (2, .inr (.inr (some (D.ip j))))], [.inl (nI v), .inr (.inr (some mt))], H2)) (by first | (rw [es]; done) | (rw [es]; rfl)) ?_
        refine mw_go mu_g478 (k := 1) (f1 := (33, [(0, .inr (.inr (some 169))), (1, .inr (.inr (some q))), (2, .inr (.inr (some (D.ip j))))], [.inl (mu_i H2 mt (nI v).toNatClampNeg)], H2)) (C := [mu_isr H2 (some mt) 101, vp_in (nI v) (mu_n H2 mt)]) rfl (show (mu_isr H2 (some mt) 101) ∧ (vp_in (nI v) (mu_n H2 mt)) from ⟨⟨rfl, Or.inl hm2.2.1.2.1, hm2.2.2.1⟩, hi9⟩) ?_
        refine mw_fr (f' := (33, [(0, .inr (.inr (some 169))), (1, .inr (.inr (some q))), (2, .inr (.inr (some (D.ip j))))], [.inl (w v)], H2)) (by first | (rw [ew]; done) | (rw [ew]; rfl)) ?_
        refine mw_go mu_g478 (k := 1) (f1 := (34, [(0, .inr (.inr (some 169))), (1, .inr (.inr (some q))), (2, .inr (.inr (some (D.ip j))))], [.inl (2 : Int32), .inl (w v)], H2)) (C := []) rfl trivial ?_
        refine mw_if (P := (w v) < (2 : Int32)) (a := 37) (b := 44) (fun _ => rfl) trivial (fun h3 => ?_) (fun h3 => ?_)
        · -- 37
          rw [if_pos h3] at em
          refine mw_go mu_g478 (k := 2) (f1 := (41, [(0, .inr (.inr (some 169))), (1, .inr (.inr (some q))), (2, .inr (.inr (some (D.ip j))))], [.inl (mu_i H2 169 21)], H2)) (C := [mu_is H2 (some 169) 1]) rfl (show mu_is H2 (some 169) 1 from hr2.2.2.1.1) ?_
          refine mw_fr (f' := (41, [(0, .inr (.inr (some 169))), (1, .inr (.inr (some q))), (2, .inr (.inr (some (D.ip j))))], [.inl (nI v)], H2)) (by first | (rw [es]; done) | (rw [es]; rfl)) ?_
          refine mw_go mu_g478 (k := 1) (f1 := (45, [(0, .inr (.inr (some 169))), (1, .inr (.inr (some q))), (2, .inr (.inr (some (D.ip j))))], [.inl (nI v)], H2)) (C := []) rfl trivial ?_
          exact mw_of (fun _ => mu_ret rfl trivial (Or.inr ⟨_, _, rfl, _, rfl, em, p1⟩))
        · -- 44
          rw [if_neg h3] at em
          refine mw_go mu_g478 (k := 1) (f1 := (45, [(0, .inr (.inr (some 169))), (1, .inr (.inr (some q))), (2, .inr (.inr (some (D.ip j))))], [.inl (-1 : Int32)], H2)) (C := []) rfl trivial ?_
          exact mw_of (fun _ => mu_ret rfl trivial (Or.inr ⟨_, _, rfl, _, rfl, em, p1⟩))
