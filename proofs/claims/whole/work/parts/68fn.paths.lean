/-! The reference: paths -/
/-- PathProverModel.paths(LPathProverModel$Node;LPathProverModel$Instance;)Z -/
abbrev mu_m409 : ev_M := (5, (some .boolean), [], ev_b409)
theorem mu_g409 : mu_good mu_m409 := mu_goodk ev_k409
/-- part i of a Node; in a chain, what stands behind its mark -/
def ptk (c : Tre) (i : Nat) : Tre := if tkd c = 66 ∧ 0 < i then tkk (tkk c i) 0 else tkk c i
/-- paths are spoken of, l levels deep -/
def ptp : Nat → Tre → Prop
  | 0, _ => False
  | l + 1, c => tkd c ∈ [41, 42, 43, 44, 45, 46, 47, 48] ∨ (¬ tkd c ∈ [64, 33] ∧ ∃ i, i < tsn c ∧ ptp l (ptk c i))
/-- chains have something behind each mark, l levels deep -/
def pwf : Nat → Tre → Prop
  | 0, _ => False
  | l + 1, c => ∀ i, i < tsn c → (tkd c = 66 → 0 < i → 0 < tsn (tkk c i)) ∧ pwf l (ptk c i)
theorem rp_pt0 {Hb H : mu_H} {D : MD} {l d dd q : Nat} {ins : Option Nat} {c : Tre} (hr : rms Hb D H) (hn : nd Hb D.G dd q c) (hw : pwf (l + 1) c) (ih : ∀ q c dd, nd Hb D.G dd q c → pwf l c → mu_TI (mu_D (d + l + 5)) 409 [.inr (.inr (some 169)), .inr (.inr (some q)), .inr (.inr ins)] H (fun x H1 => (x = 1 ∧ ptp l c ∨ x = 0 ∧ ¬ ptp l c) ∧ H1 = H)) : ∀ m_ k, k + m_ = tsn c → (∀ i, i < k → ¬ ptp l (ptk c i)) → mu_W (mu_D (d + l + 5)) mu_m409 (33, [(3, .inl (nI k)), (2, .inr (.inr ins)), (1, .inr (.inr (some q))), (0, .inr (.inr (some 169)))], [], H) (fun r => ∃ x H1, r = (.inl (some (.inl x)), H1) ∧ (x = 1 ∧ (∃ i, i < tsn c ∧ ptp l (ptk c i)) ∨ x = 0 ∧ ¬ (∃ i, i < tsn c ∧ ptp l (ptk c i))) ∧ H1 = H)
  | 0, k, hm_, hd => by
    obtain ⟨kd1, ⟨is1, nF1, lt1⟩, ⟨st1, sr1, sf1⟩, ⟨n2_1, n3_1, n7_1⟩, nm1, ar1, aq1, aF1, ai1, ⟨al1, am1, ax1⟩, ch1, dp1⟩ := nd.ra (c := c) hn hr.2.1
    have hl := hn.s26
    refine mw_go mu_g409 (k := 3) (f1 := (38, [(3, .inl (nI k)), (2, .inr (.inr ins)), (1, .inr (.inr (some q))), (0, .inr (.inr (some 169)))], [.inl (mu_i H q 2), .inl (nI k)], H)) (C := [mu_is H (some q) 18]) rfl (show mu_is H (some q) 18 from is1) ?_
    refine mw_fr (f' := (38, [(3, .inl (nI k)), (2, .inr (.inr ins)), (1, .inr (.inr (some q))), (0, .inr (.inr (some 169)))], [.inl (nI (tsn c)), .inl (nI k)], H)) (by first | (rw [n2_1]; done) | (rw [n2_1]; rfl)) ?_
    refine mw_if (P := (nI k) < (nI (tsn c))) (a := 41) (b := 95) (fun _ => rfl) trivial (fun h1 => absurd h1 (by rw [show k = tsn c by omega]; exact Int32.lt_irrefl)) (fun h1 => ?_)
    refine mw_go mu_g409 (k := 1) (f1 := (96, [(3, .inl (nI k)), (2, .inr (.inr ins)), (1, .inr (.inr (some q))), (0, .inr (.inr (some 169)))], [.inl (0 : Int32)], H)) (C := []) rfl trivial ?_
    exact mw_of (fun _ => mu_ret rfl (Or.inl rfl) ⟨_, _, rfl, Or.inr ⟨rfl, fun z => by obtain ⟨i, i1, i2⟩ := z; exact hd i (by omega) i2⟩, rfl⟩)
  | m_ + 1, k, hm_, hd => by
    obtain ⟨kd1, ⟨is1, nF1, lt1⟩, ⟨st1, sr1, sf1⟩, ⟨n2_1, n3_1, n7_1⟩, nm1, ar1, aq1, aF1, ai1, ⟨al1, am1, ax1⟩, ch1, dp1⟩ := nd.ra (c := c) hn hr.2.1
    have hl := hn.s26
    have hk : k < tsn c := by omega
    refine mw_go mu_g409 (k := 3) (f1 := (38, [(3, .inl (nI k)), (2, .inr (.inr ins)), (1, .inr (.inr (some q))), (0, .inr (.inr (some 169)))], [.inl (mu_i H q 2), .inl (nI k)], H)) (C := [mu_is H (some q) 18]) rfl (show mu_is H (some q) 18 from is1) ?_
    refine mw_fr (f' := (38, [(3, .inl (nI k)), (2, .inr (.inr ins)), (1, .inr (.inr (some q))), (0, .inr (.inr (some 169)))], [.inl (nI (tsn c)), .inl (nI k)], H)) (by first | (rw [n2_1]; done) | (rw [n2_1]; rfl)) ?_
    refine mw_if (P := (nI k) < (nI (tsn c))) (a := 41) (b := 95) (fun _ => rfl) trivial (fun h1 => ?_) (fun h1 => absurd (nI_lt hk (by omega)) h1)
    refine mw_go mu_g409 (k := 2) (f1 := (45, [(3, .inl (nI k)), (2, .inr (.inr ins)), (1, .inr (.inr (some q))), (0, .inr (.inr (some 169)))], [.inr (.inr (some 1000066)), .inr (.inr (some q))], H)) (C := []) rfl trivial ?_
    refine mw_cIe (fun _ => rfl) (show mu_is H (some q) 18 from is1) (agr.isL (e := d + l + 2) (j := 66) hn hr.2.1 (by decide)) ?_
    refine mw_if (P := (if tkd c = 66 then 1 else 0) = 0) (a := 69) (b := 51) (fun _ => rfl) trivial (fun hi2 => ?_) (fun hi2 => ?_)
    · -- 69
      have ek2 : ¬ tkd c = 66 := fun e => by rw [if_pos e] at hi2; exact absurd hi2 (by decide)
      obtain ⟨y, yr3, yn3⟩ := ch1 k hk
      have yn3 : nd Hb D.G (dd - 1) y (tkk c k) := yn3
      obtain ⟨b1_3, b2_3, b3_3, b4_3⟩ := ar_at ai1 (by decide) (Nat.lt_of_lt_of_le hk al1) (Nat.lt_of_le_of_lt ax1 (by decide))
      have y2_3 : mu_r H ar1 (nI k).toNatClampNeg = some y := by rw [b4_3]; exact yr3
      have ek : ptk c k = tkk c k := if_neg (fun z => ek2 z.1)
      have hn8 : nd Hb D.G (dd - 1) y (ptk c k) := by rw [ek]; exact yn3
      refine mw_go mu_g409 (k := 2) (f1 := (73, [(3, .inl (nI k)), (2, .inr (.inr ins)), (1, .inr (.inr (some q))), (0, .inr (.inr (some 169)))], [.inr (.inr (mu_r H q 1))], H)) (C := [mu_is H (some q) 18]) rfl (show mu_is H (some q) 18 from is1) ?_
      refine mw_fr (f' := (73, [(3, .inl (nI k)), (2, .inr (.inr ins)), (1, .inr (.inr (some q))), (0, .inr (.inr (some 169)))], [.inr (.inr (some ar1))], H)) (by first | (rw [aq1]; done) | (rw [aq1]; rfl)) ?_
      refine mw_go mu_g409 (k := 2) (f1 := (75, [(3, .inl (nI k)), (2, .inr (.inr ins)), (1, .inr (.inr (some q))), (0, .inr (.inr (some 169)))], [.inr (.inr (mu_r H ar1 (nI k).toNatClampNeg))], H)) (C := [mu_is H (some ar1) (mu_k H ar1), 103 ≤ mu_k H ar1 ∧ mu_k H ar1 ≤ 110 ∧ mu_k H ar1 ≠ 108, vp_in (nI k) (mu_n H ar1)]) rfl (show (mu_is H (some ar1) (mu_k H ar1)) ∧ (103 ≤ mu_k H ar1 ∧ mu_k H ar1 ≤ 110 ∧ mu_k H ar1 ≠ 108) ∧ (vp_in (nI k) (mu_n H ar1)) from ⟨b1_3, b2_3, b3_3⟩) ?_
      refine mw_fr (f' := (75, [(3, .inl (nI k)), (2, .inr (.inr ins)), (1, .inr (.inr (some q))), (0, .inr (.inr (some 169)))], [.inr (.inr (some y))], H)) (by first | (rw [y2_3]; done) | (rw [y2_3]; rfl)) ?_
      refine mw_go mu_g409 (k := 4) (f1 := (81, [(4, .inr (.inr (some y))), (3, .inl (nI k)), (2, .inr (.inr ins)), (1, .inr (.inr (some q))), (0, .inr (.inr (some 169)))], [.inr (.inr ins), .inr (.inr (some y)), .inr (.inr (some 169))], H)) (C := []) rfl trivial ?_
      refine mw_cI (fun _ => rfl) (show mu_is H (some 169) 1 from hr.2.2.1.1) (ih y (ptk c k) _ hn8 (hw k hk).2) (fun x9 H9 q9 => ?_)
      obtain ⟨q8, e9⟩ := q9
      rw [e9]
      clear e9 H9
      show mu_W _ mu_m409 (84, [(4, .inr (.inr (some y))), (3, .inl (nI k)), (2, .inr (.inr ins)), (1, .inr (.inr (some q))), (0, .inr (.inr (some 169)))], [.inl x9], H) _
      refine mw_if (P := x9 = 0) (a := 89) (b := 87) (fun _ => rfl) trivial (fun h9 => ?_) (fun h9 => ?_)
      · -- 89
        refine mw_go mu_g409 (k := 2) (f1 := (33, [(3, .inl ((nI k) + 1)), (4, .inr (.inr (some y))), (2, .inr (.inr ins)), (1, .inr (.inr (some q))), (0, .inr (.inr (some 169)))], [], H)) (C := []) rfl trivial ?_
        refine mw_sub (L' := [(3, .inl (nI (k + 1))), (2, .inr (.inr ins)), (1, .inr (.inr (some q))), (0, .inr (.inr (some 169)))]) (by intro x hx; simp only [List.mem_cons, List.not_mem_nil, or_false] at hx ⊢; rcases hx with rfl | rfl | rfl | rfl <;> first | (simp [nI_add, show (1 : Int32) = nI 1 from rfl]; done) | simp [nI]) ?_
        exact rp_pt0 hr hn hw ih m_ (k + 1) (by omega) (fun i hi => by
            by_cases e : i = k
            · subst e; exact q8.elim (fun z => absurd (z.1.symm.trans h9) (by decide)) (fun z => z.2)
            · exact hd i (by omega))
      · -- 87
        refine mw_go mu_g409 (k := 1) (f1 := (88, [(4, .inr (.inr (some y))), (3, .inl (nI k)), (2, .inr (.inr ins)), (1, .inr (.inr (some q))), (0, .inr (.inr (some 169)))], [.inl (1 : Int32)], H)) (C := []) rfl trivial ?_
        exact mw_of (fun _ => mu_ret rfl (Or.inr rfl) ⟨_, _, rfl, Or.inl ⟨rfl, k, hk, q8.elim (fun z => z.2) (fun z => absurd z.1 h9)⟩, rfl⟩)
    · -- 51
      have ek2 : tkd c = 66 := Decidable.byContradiction (fun e => hi2 (if_neg e))
      refine mw_go mu_g409 (k := 1) (f1 := (52, [(3, .inl (nI k)), (2, .inr (.inr ins)), (1, .inr (.inr (some q))), (0, .inr (.inr (some 169)))], [.inl (nI k)], H)) (C := []) rfl trivial ?_
      refine mw_if (P := 0 < (nI k)) (a := 55) (b := 69) (fun _ => rfl) trivial (fun h3 => ?_) (fun h3 => ?_)
      · -- 55
        have k0 : 0 < k := nI_below (a := 0) (by decide) (by omega) h3
        have hc0 := (hw k hk).1 ek2 k0
        obtain ⟨y, yr4, yn4⟩ := ch1 k hk
        have yn4 : nd Hb D.G (dd - 1) y (tkk c k) := yn4
        obtain ⟨b1_4, b2_4, b3_4, b4_4⟩ := ar_at ai1 (by decide) (Nat.lt_of_lt_of_le hk al1) (Nat.lt_of_le_of_lt ax1 (by decide))
        have y2_4 : mu_r H ar1 (nI k).toNatClampNeg = some y := by rw [b4_4]; exact yr4
        obtain ⟨kd5, ⟨is5, nF5, lt5⟩, ⟨st5, sr5, sf5⟩, ⟨n2_5, n3_5, n7_5⟩, nm5, ar5, aq5, aF5, ai5, ⟨al5, am5, ax5⟩, ch5, dp5⟩ := nd.ra (c := (tkk c k)) yn4 hr.2.1
        obtain ⟨z, yr6, yn6⟩ := ch5 0 hc0
        have yn6 : nd Hb D.G ((dd - 1) - 1) z (tkk (tkk c k) 0) := yn6
        obtain ⟨b1_6, b2_6, b3_6, b4_6⟩ := ar_at ai5 (by decide) (Nat.lt_of_lt_of_le hc0 al5) (Nat.lt_of_le_of_lt ax5 (by decide))
        have y2_6 : mu_r H ar5 (0 : Int32).toNatClampNeg = some z := yr6
        have ek : ptk c k = tkk (tkk c k) 0 := if_pos ⟨ek2, k0⟩
        have hn8 : nd Hb D.G (dd - 1 - 1) z (ptk c k) := by rw [ek]; exact yn6
        refine mw_go mu_g409 (k := 2) (f1 := (59, [(3, .inl (nI k)), (2, .inr (.inr ins)), (1, .inr (.inr (some q))), (0, .inr (.inr (some 169)))], [.inr (.inr (mu_r H q 1))], H)) (C := [mu_is H (some q) 18]) rfl (show mu_is H (some q) 18 from is1) ?_
        refine mw_fr (f' := (59, [(3, .inl (nI k)), (2, .inr (.inr ins)), (1, .inr (.inr (some q))), (0, .inr (.inr (some 169)))], [.inr (.inr (some ar1))], H)) (by first | (rw [aq1]; done) | (rw [aq1]; rfl)) ?_
        refine mw_go mu_g409 (k := 2) (f1 := (61, [(3, .inl (nI k)), (2, .inr (.inr ins)), (1, .inr (.inr (some q))), (0, .inr (.inr (some 169)))], [.inr (.inr (mu_r H ar1 (nI k).toNatClampNeg))], H)) (C := [mu_is H (some ar1) (mu_k H ar1), 103 ≤ mu_k H ar1 ∧ mu_k H ar1 ≤ 110 ∧ mu_k H ar1 ≠ 108, vp_in (nI k) (mu_n H ar1)]) rfl (show (mu_is H (some ar1) (mu_k H ar1)) ∧ (103 ≤ mu_k H ar1 ∧ mu_k H ar1 ≤ 110 ∧ mu_k H ar1 ≠ 108) ∧ (vp_in (nI k) (mu_n H ar1)) from ⟨b1_4, b2_4, b3_4⟩) ?_
        refine mw_fr (f' := (61, [(3, .inl (nI k)), (2, .inr (.inr ins)), (1, .inr (.inr (some q))), (0, .inr (.inr (some 169)))], [.inr (.inr (some y))], H)) (by first | (rw [y2_4]; done) | (rw [y2_4]; rfl)) ?_
        refine mw_go mu_g409 (k := 1) (f1 := (64, [(3, .inl (nI k)), (2, .inr (.inr ins)), (1, .inr (.inr (some q))), (0, .inr (.inr (some 169)))], [.inr (.inr (mu_r H y 1))], H)) (C := [mu_is H (some y) 18]) rfl (show mu_is H (some y) 18 from is5) ?_
        refine mw_fr (f' := (64, [(3, .inl (nI k)), (2, .inr (.inr ins)), (1, .inr (.inr (some q))), (0, .inr (.inr (some 169)))], [.inr (.inr (some ar5))], H)) (by first | (rw [aq5]; done) | (rw [aq5]; rfl)) ?_
        refine mw_go mu_g409 (k := 2) (f1 := (66, [(3, .inl (nI k)), (2, .inr (.inr ins)), (1, .inr (.inr (some q))), (0, .inr (.inr (some 169)))], [.inr (.inr (mu_r H ar5 (0 : Int32).toNatClampNeg))], H)) (C := [mu_is H (some ar5) (mu_k H ar5), 103 ≤ mu_k H ar5 ∧ mu_k H ar5 ≤ 110 ∧ mu_k H ar5 ≠ 108, vp_in (0 : Int32) (mu_n H ar5)]) rfl (show (mu_is H (some ar5) (mu_k H ar5)) ∧ (103 ≤ mu_k H ar5 ∧ mu_k H ar5 ≤ 110 ∧ mu_k H ar5 ≠ 108) ∧ (vp_in (0 : Int32) (mu_n H ar5)) from ⟨b1_6, b2_6, b3_6⟩) ?_
        refine mw_fr (f' := (66, [(3, .inl (nI k)), (2, .inr (.inr ins)), (1, .inr (.inr (some q))), (0, .inr (.inr (some 169)))], [.inr (.inr (some z))], H)) (by first | (rw [y2_6]; done) | (rw [y2_6]; rfl)) ?_
        refine mw_go mu_g409 (k := 5) (f1 := (81, [(4, .inr (.inr (some z))), (3, .inl (nI k)), (2, .inr (.inr ins)), (1, .inr (.inr (some q))), (0, .inr (.inr (some 169)))], [.inr (.inr ins), .inr (.inr (some z)), .inr (.inr (some 169))], H)) (C := []) rfl trivial ?_
        refine mw_cI (fun _ => rfl) (show mu_is H (some 169) 1 from hr.2.2.1.1) (ih z (ptk c k) _ hn8 (hw k hk).2) (fun x9 H9 q9 => ?_)
        obtain ⟨q8, e9⟩ := q9
        rw [e9]
        clear e9 H9
        show mu_W _ mu_m409 (84, [(4, .inr (.inr (some z))), (3, .inl (nI k)), (2, .inr (.inr ins)), (1, .inr (.inr (some q))), (0, .inr (.inr (some 169)))], [.inl x9], H) _
        refine mw_if (P := x9 = 0) (a := 89) (b := 87) (fun _ => rfl) trivial (fun h9 => ?_) (fun h9 => ?_)
        · -- 89
          refine mw_go mu_g409 (k := 2) (f1 := (33, [(3, .inl ((nI k) + 1)), (4, .inr (.inr (some z))), (2, .inr (.inr ins)), (1, .inr (.inr (some q))), (0, .inr (.inr (some 169)))], [], H)) (C := []) rfl trivial ?_
          refine mw_sub (L' := [(3, .inl (nI (k + 1))), (2, .inr (.inr ins)), (1, .inr (.inr (some q))), (0, .inr (.inr (some 169)))]) (by intro x hx; simp only [List.mem_cons, List.not_mem_nil, or_false] at hx ⊢; rcases hx with rfl | rfl | rfl | rfl <;> first | (simp [nI_add, show (1 : Int32) = nI 1 from rfl]; done) | simp [nI]) ?_
          exact rp_pt0 hr hn hw ih m_ (k + 1) (by omega) (fun i hi => by
              by_cases e : i = k
              · subst e; exact q8.elim (fun z => absurd (z.1.symm.trans h9) (by decide)) (fun z => z.2)
              · exact hd i (by omega))
        · -- 87
          refine mw_go mu_g409 (k := 1) (f1 := (88, [(4, .inr (.inr (some z))), (3, .inl (nI k)), (2, .inr (.inr ins)), (1, .inr (.inr (some q))), (0, .inr (.inr (some 169)))], [.inl (1 : Int32)], H)) (C := []) rfl trivial ?_
          exact mw_of (fun _ => mu_ret rfl (Or.inr rfl) ⟨_, _, rfl, Or.inl ⟨rfl, k, hk, q8.elim (fun z => z.2) (fun z => absurd z.1 h9)⟩, rfl⟩)
      · -- 69
        obtain ⟨y, yr7, yn7⟩ := ch1 k hk
        have yn7 : nd Hb D.G (dd - 1) y (tkk c k) := yn7
        obtain ⟨b1_7, b2_7, b3_7, b4_7⟩ := ar_at ai1 (by decide) (Nat.lt_of_lt_of_le hk al1) (Nat.lt_of_le_of_lt ax1 (by decide))
        have y2_7 : mu_r H ar1 (nI k).toNatClampNeg = some y := by rw [b4_7]; exact yr7
        have ek : ptk c k = tkk c k := if_neg (fun z => h3 (nI_lt (a := 0) z.2 (by omega)))
        have hn8 : nd Hb D.G (dd - 1) y (ptk c k) := by rw [ek]; exact yn7
        refine mw_go mu_g409 (k := 2) (f1 := (73, [(3, .inl (nI k)), (2, .inr (.inr ins)), (1, .inr (.inr (some q))), (0, .inr (.inr (some 169)))], [.inr (.inr (mu_r H q 1))], H)) (C := [mu_is H (some q) 18]) rfl (show mu_is H (some q) 18 from is1) ?_
        refine mw_fr (f' := (73, [(3, .inl (nI k)), (2, .inr (.inr ins)), (1, .inr (.inr (some q))), (0, .inr (.inr (some 169)))], [.inr (.inr (some ar1))], H)) (by first | (rw [aq1]; done) | (rw [aq1]; rfl)) ?_
        refine mw_go mu_g409 (k := 2) (f1 := (75, [(3, .inl (nI k)), (2, .inr (.inr ins)), (1, .inr (.inr (some q))), (0, .inr (.inr (some 169)))], [.inr (.inr (mu_r H ar1 (nI k).toNatClampNeg))], H)) (C := [mu_is H (some ar1) (mu_k H ar1), 103 ≤ mu_k H ar1 ∧ mu_k H ar1 ≤ 110 ∧ mu_k H ar1 ≠ 108, vp_in (nI k) (mu_n H ar1)]) rfl (show (mu_is H (some ar1) (mu_k H ar1)) ∧ (103 ≤ mu_k H ar1 ∧ mu_k H ar1 ≤ 110 ∧ mu_k H ar1 ≠ 108) ∧ (vp_in (nI k) (mu_n H ar1)) from ⟨b1_7, b2_7, b3_7⟩) ?_
        refine mw_fr (f' := (75, [(3, .inl (nI k)), (2, .inr (.inr ins)), (1, .inr (.inr (some q))), (0, .inr (.inr (some 169)))], [.inr (.inr (some y))], H)) (by first | (rw [y2_7]; done) | (rw [y2_7]; rfl)) ?_
        refine mw_go mu_g409 (k := 4) (f1 := (81, [(4, .inr (.inr (some y))), (3, .inl (nI k)), (2, .inr (.inr ins)), (1, .inr (.inr (some q))), (0, .inr (.inr (some 169)))], [.inr (.inr ins), .inr (.inr (some y)), .inr (.inr (some 169))], H)) (C := []) rfl trivial ?_
        refine mw_cI (fun _ => rfl) (show mu_is H (some 169) 1 from hr.2.2.1.1) (ih y (ptk c k) _ hn8 (hw k hk).2) (fun x9 H9 q9 => ?_)
        obtain ⟨q8, e9⟩ := q9
        rw [e9]
        clear e9 H9
        show mu_W _ mu_m409 (84, [(4, .inr (.inr (some y))), (3, .inl (nI k)), (2, .inr (.inr ins)), (1, .inr (.inr (some q))), (0, .inr (.inr (some 169)))], [.inl x9], H) _
        refine mw_if (P := x9 = 0) (a := 89) (b := 87) (fun _ => rfl) trivial (fun h9 => ?_) (fun h9 => ?_)
        · -- 89
          refine mw_go mu_g409 (k := 2) (f1 := (33, [(3, .inl ((nI k) + 1)), (4, .inr (.inr (some y))), (2, .inr (.inr ins)), (1, .inr (.inr (some q))), (0, .inr (.inr (some 169)))], [], H)) (C := []) rfl trivial ?_
          refine mw_sub (L' := [(3, .inl (nI (k + 1))), (2, .inr (.inr ins)), (1, .inr (.inr (some q))), (0, .inr (.inr (some 169)))]) (by intro x hx; simp only [List.mem_cons, List.not_mem_nil, or_false] at hx ⊢; rcases hx with rfl | rfl | rfl | rfl <;> first | (simp [nI_add, show (1 : Int32) = nI 1 from rfl]; done) | simp [nI]) ?_
          exact rp_pt0 hr hn hw ih m_ (k + 1) (by omega) (fun i hi => by
              by_cases e : i = k
              · subst e; exact q8.elim (fun z => absurd (z.1.symm.trans h9) (by decide)) (fun z => z.2)
              · exact hd i (by omega))
        · -- 87
          refine mw_go mu_g409 (k := 1) (f1 := (88, [(4, .inr (.inr (some y))), (3, .inl (nI k)), (2, .inr (.inr ins)), (1, .inr (.inr (some q))), (0, .inr (.inr (some 169)))], [.inl (1 : Int32)], H)) (C := []) rfl trivial ?_
          exact mw_of (fun _ => mu_ret rfl (Or.inr rfl) ⟨_, _, rfl, Or.inl ⟨rfl, k, hk, q8.elim (fun z => z.2) (fun z => absurd z.1 h9)⟩, rfl⟩)
theorem rp_paths {Hb H : mu_H} {D : MD} {d : Nat} {ins : Option Nat} : ∀ l {dd q : Nat} {c : Tre}, rms Hb D H → nd Hb D.G dd q c → pwf l c → mu_TI (mu_D (d + l + 5)) 409 [.inr (.inr (some 169)), .inr (.inr (some q)), .inr (.inr ins)] H (fun x H1 => (x = 1 ∧ ptp l c ∨ x = 0 ∧ ¬ ptp l c) ∧ H1 = H)
  | 0, _, _, _, _, _, hw => hw.elim
  | l + 1, dd, q, c, hr, hn, hw => by
    show mu_TI (mu_D (d + l + 5 + 1)) 409 _ H _
    refine mu_meth (M := mu_m409) rfl rfl ?_
    refine mw_ht (mu_fn_of (show [0, 1, 2].Nodup by decide)) ?_
    obtain ⟨kd1, ⟨is1, nF1, lt1⟩, ⟨st1, sr1, sf1⟩, ⟨n2_1, n3_1, n7_1⟩, nm1, ar1, aq1, aF1, ai1, ⟨al1, am1, ax1⟩, ch1, dp1⟩ := nd.ra (c := c) hn hr.2.1
    refine mw_go mu_g409 (k := 2) (f1 := (2, [(0, .inr (.inr (some 169))), (1, .inr (.inr (some q))), (2, .inr (.inr ins))], [.inr (.inr (some q)), .inr (.inr (some 169))], H)) (C := []) rfl trivial ?_
    refine mw_cIe (fun _ => rfl) (show mu_is H (some 169) 1 from hr.2.2.1.1) (rq_temporal (d := d + l + 1) hn hr.2.1) ?_
    refine mw_if (P := (if tkd c ∈ [41, 42, 43, 44, 45, 46, 47, 48] then 1 else 0) = 0) (a := 10) (b := 8) (fun _ => rfl) trivial (fun h1 => ?_) (fun h1 => ?_)
    · -- 10
      have tk : ¬ tkd c ∈ [41, 42, 43, 44, 45, 46, 47, 48] := fun e => by rw [if_pos e] at h1; exact absurd h1 (by decide)
      refine mw_go mu_g409 (k := 2) (f1 := (14, [(0, .inr (.inr (some 169))), (1, .inr (.inr (some q))), (2, .inr (.inr ins))], [.inr (.inr (some 1000064)), .inr (.inr (some q))], H)) (C := []) rfl trivial ?_
      refine mw_cIe (fun _ => rfl) (show mu_is H (some q) 18 from is1) (agr.isL (e := d + l + 2) (j := 64) hn hr.2.1 (by decide)) ?_
      refine mw_if (P := (if tkd c = 64 then 1 else 0) = 0) (a := 20) (b := 29) (fun _ => rfl) trivial (fun hi2 => ?_) (fun hi2 => ?_)
      · -- 20
        have ek2 : ¬ tkd c = 64 := fun e => by rw [if_pos e] at hi2; exact absurd hi2 (by decide)
        refine mw_go mu_g409 (k := 2) (f1 := (23, [(0, .inr (.inr (some 169))), (1, .inr (.inr (some q))), (2, .inr (.inr ins))], [.inr (.inr (some 1000033)), .inr (.inr (some q))], H)) (C := []) rfl trivial ?_
        refine mw_cIe (fun _ => rfl) (show mu_is H (some q) 18 from is1) (agr.isL (e := d + l + 2) (j := 33) hn hr.2.1 (by decide)) ?_
        refine mw_if (P := (if tkd c = 33 then 1 else 0) = 0) (a := 31) (b := 29) (fun _ => rfl) trivial (fun hi3 => ?_) (fun hi3 => ?_)
        · -- 31
          have ek3 : ¬ tkd c = 33 := fun e => by rw [if_pos e] at hi3; exact absurd hi3 (by decide)
          refine mw_go mu_g409 (k := 2) (f1 := (33, [(3, .inl (0 : Int32)), (0, .inr (.inr (some 169))), (1, .inr (.inr (some q))), (2, .inr (.inr ins))], [], H)) (C := []) rfl trivial ?_
          have nk : ¬ tkd c ∈ [64, 33] := fun z => by simp only [List.mem_cons, List.not_mem_nil, or_false] at z; exact z.elim ek2 ek3
          refine mw_sub (L' := [(3, .inl (nI 0)), (2, .inr (.inr ins)), (1, .inr (.inr (some q))), (0, .inr (.inr (some 169)))]) (by intro x hx; simp only [List.mem_cons, List.not_mem_nil, or_false] at hx ⊢; rcases hx with rfl | rfl | rfl | rfl <;> simp [nI]) ?_
          refine mw_imp (fun r z => ?_) (rp_pt0 (d := d) hr hn hw (fun q c dd hn hw => rp_paths l hr hn hw) (tsn c) 0 (Nat.zero_add _) (fun i hi => absurd hi (Nat.not_lt_zero _)))
          obtain ⟨x, H1, z1, z2, z3⟩ := z
          exact ⟨x, H1, z1, z2.imp (fun z => ⟨z.1, Or.inr ⟨nk, z.2⟩⟩) (fun z => ⟨z.1, fun y => y.elim tk (fun y => z.2 y.2)⟩), z3⟩
        · -- 29
          have ek3 : tkd c = 33 := Decidable.byContradiction (fun e => hi3 (if_neg e))
          refine mw_go mu_g409 (k := 1) (f1 := (30, [(0, .inr (.inr (some 169))), (1, .inr (.inr (some q))), (2, .inr (.inr ins))], [.inl (0 : Int32)], H)) (C := []) rfl trivial ?_
          exact mw_of (fun _ => mu_ret rfl (Or.inl rfl) ⟨_, _, rfl, Or.inr ⟨rfl, fun z => z.elim tk (fun z => z.1 (by rw [ek3]; decide))⟩, rfl⟩)
      · -- 29
        have ek2 : tkd c = 64 := Decidable.byContradiction (fun e => hi2 (if_neg e))
        refine mw_go mu_g409 (k := 1) (f1 := (30, [(0, .inr (.inr (some 169))), (1, .inr (.inr (some q))), (2, .inr (.inr ins))], [.inl (0 : Int32)], H)) (C := []) rfl trivial ?_
        exact mw_of (fun _ => mu_ret rfl (Or.inl rfl) ⟨_, _, rfl, Or.inr ⟨rfl, fun z => z.elim tk (fun z => z.1 (by rw [ek2]; decide))⟩, rfl⟩)
    · -- 8
      have tk : tkd c ∈ [41, 42, 43, 44, 45, 46, 47, 48] := Decidable.byContradiction (fun e => h1 (if_neg e))
      refine mw_go mu_g409 (k := 1) (f1 := (9, [(0, .inr (.inr (some 169))), (1, .inr (.inr (some q))), (2, .inr (.inr ins))], [.inl (1 : Int32)], H)) (C := []) rfl trivial ?_
      exact mw_of (fun _ => mu_ret rfl (Or.inr rfl) ⟨_, _, rfl, Or.inl ⟨rfl, Or.inl tk⟩, rfl⟩)
