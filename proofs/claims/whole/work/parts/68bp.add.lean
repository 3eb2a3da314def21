/-! The reference: Node.add -/
theorem nI_ne {a b : Nat} (ha : a < 2147483648) (hb : b < 2147483648) (h : ¬ nI a = nI b) : a ≠ b := fun e => h (by rw [e])
theorem getD_app {l : List Nat} {x i : Nat} : (l ++ [x]).getD i 0 = if i = l.length then x else l.getD i 0 := by
  by_cases e : i = l.length
  · subst e
    rw [if_pos rfl]
    simp [List.getD_eq_getElem?_getD]
  · rw [if_neg e]
    by_cases e2 : i < l.length
    · simp [List.getD_eq_getElem?_getD, List.getElem?_append_left e2]
    · have : l.length + 1 ≤ i := by omega
      simp [List.getD_eq_getElem?_getD, List.getElem?_eq_none (show (l ++ [x]).length ≤ i by simp; omega), List.getElem?_eq_none (show l.length ≤ i by omega)]
/-- the last step of add: the part is laid behind the others -/
theorem ndo.put {H : mu_H} {q a c s x : Nat} {k : List Int32} {qs : List Nat} (h : ndo H q a c s k qs) (hc : qs.length < c) (hx : mu_is H (some x) 18) : ndo (mu_sr (mu_si H q 2 (nI (qs.length + 1))) a qs.length (some x)) q a c s k (qs ++ [x]) := by
  obtain ⟨⟨h1, h1'⟩, ⟨h2, h2'⟩, h3, h4, h5, h6, ⟨h7, h8, h9, h10⟩, h11⟩ := h
  have hqa : q ≠ a := fun e => by
    have z1 : mu_k H q = 18 := h1.2.2
    have z2 : mu_k H a = 109 := h2.2.2
    rw [e, z2] at z1
    exact absurd z1 (by decide)
  refine ⟨⟨h1, h1'⟩, ⟨h2, h2'⟩, ?_, ?_, ?_, ?_, ⟨h7, by rw [List.length_append]; exact hc, h9, by rw [List.length_append]; show c ≤ 2 * (qs.length + 1) + 2 ∧ c ≤ 2 ^ 21; omega⟩, ?_⟩
  · rw [mu_r_sr, if_neg (fun z => hqa z.1)]; exact h3
  · rw [mu_r_sr, if_neg (fun z => hqa z.1)]; exact h4
  · rw [List.length_append]
    show mu_i (mu_si H q 2 (nI (qs.length + 1))) q 2 = _
    rw [mu_i_si, if_pos ⟨rfl, rfl⟩]
    rfl
  · show mu_i (mu_si H q 2 (nI (qs.length + 1))) q 7 = _
    rw [mu_i_si, if_neg (fun z => absurd z.2 (by decide))]
    exact h6
  · intro i hi
    rw [List.length_append] at hi
    have hi : i < qs.length + 1 := hi
    rw [getD_app, mu_r_sr]
    by_cases e : i = qs.length
    · rw [if_pos e, if_pos ⟨rfl, e⟩]
      exact ⟨rfl, hx⟩
    · rw [if_neg e, if_neg (fun z => e z.2)]
      exact h11 i (by omega)
/-- j parts are copied into the row z -/
def ncp (H : mu_H) (z C : Nat) (qs : List Nat) (j : Nat) (Hk : mu_H) : Prop := kep (fun p => p = z) 0 0 H Hk ∧ (∀ i, i < j → mu_r Hk z i = some (qs.getD i 0)) ∧ mu_is Hk (some z) 109 ∧ mu_n Hk z = C
theorem nd_cp0 {d q a c s x z C : Nat} {k : List Int32} {qs : List Nat} {H : mu_H} {Φ : mu_R → Prop} (h : ndo H q a c s k qs) (hqz : ¬ q = z) (haz : ¬ a = z) (hz : mu_is H (some z) 109) (hl : qs.length ≤ 2 ^ 29) (hcz : qs.length ≤ C ∧ C ≤ 2 ^ 31 - 1) (hfin : ∀ Hk, ncp H z C qs qs.length Hk → mu_W (mu_D d) mu_m520 (47, [(2, .inr (.inr (some z))), (1, .inr (.inr (some x))), (0, .inr (.inr (some q)))], [], Hk) Φ) : ∀ m j Hk, j + m = qs.length → ncp H z C qs j Hk → mu_W (mu_D d) mu_m520 (24, [(3, .inl (nI j)), (2, .inr (.inr (some z))), (1, .inr (.inr (some x))), (0, .inr (.inr (some q)))], [], Hk) Φ
  | 0, j, Hk, hm, hc => by
    obtain ⟨c1, c2, c3, c4⟩ := hc
    have g5 : mu_i Hk q 2 = nI qs.length := (c1.i (Or.inl h.1.1.2.1) hqz 2).trans h.2.2.2.2.1
    have g4 : mu_r Hk q 1 = some a := (c1.r (Or.inl h.1.1.2.1) hqz 1).trans h.2.2.2.1
    have gq : mu_is Hk (some q) 18 := c1.is h.1.1 hqz
    refine mw_go mu_g520 (k := 3) (f1 := (29, [(3, .inl (nI j)), (2, .inr (.inr (some z))), (1, .inr (.inr (some x))), (0, .inr (.inr (some q)))], [.inl (mu_i Hk q 2), .inl (nI j)], Hk)) (C := [mu_is Hk (some q) 18]) rfl (show mu_is Hk (some q) 18 from gq) ?_
    refine mw_fr (f' := (29, [(3, .inl (nI j)), (2, .inr (.inr (some z))), (1, .inr (.inr (some x))), (0, .inr (.inr (some q)))], [.inl (nI qs.length), .inl (nI j)], Hk)) (by first | (rw [g5]; done) | (rw [g5]; rfl)) ?_
    refine mw_if (P := (nI j) < (nI qs.length)) (a := 32) (b := 47) (fun _ => rfl) trivial (fun h1 => absurd h1 (by rw [show j = qs.length by omega]; exact Int32.lt_irrefl)) (fun h1 => ?_)
    refine mw_sub (L' := [(2, .inr (.inr (some z))), (1, .inr (.inr (some x))), (0, .inr (.inr (some q)))]) (by simp) ?_
    exact hfin Hk ⟨c1, fun i hi => c2 i (by omega), c3, c4⟩
  | m + 1, j, Hk, hm, hc => by
    obtain ⟨c1, c2, c3, c4⟩ := hc
    have g5 : mu_i Hk q 2 = nI qs.length := (c1.i (Or.inl h.1.1.2.1) hqz 2).trans h.2.2.2.2.1
    have g4 : mu_r Hk q 1 = some a := (c1.r (Or.inl h.1.1.2.1) hqz 1).trans h.2.2.2.1
    have gq : mu_is Hk (some q) 18 := c1.is h.1.1 hqz
    have hj : j < qs.length := by omega
    have hlz : qs.length ≤ 2 ^ 29 := hl
    have ga0 : mu_is Hk (some a) 109 := c1.is h.2.1.1 haz
    have ga : mu_is Hk (some a) (mu_k Hk a) := ⟨rfl, ga0.2.1, rfl⟩
    have ga2 : 103 ≤ mu_k Hk a ∧ mu_k Hk a ≤ 110 ∧ mu_k Hk a ≠ 108 := by rw [show mu_k Hk a = 109 from ga0.2.2]; decide
    have gan : mu_n Hk a = c := (c1.len (Or.inl h.2.1.1.2.1) haz).trans h.2.2.2.2.2.2.1.1
    have hcq := h.2.2.2.2.2.2.1.2
    have ga3 : vp_in (nI j) (mu_n Hk a) := by rw [gan]; exact vp_in_nI (by omega) (by omega)
    have g6 : mu_r Hk a (nI j).toNatClampNeg = some (qs.getD j 0) := by rw [nI_clamp (by omega)]; exact (c1.r (Or.inl h.2.1.1.2.1) haz j).trans (h.2.2.2.2.2.2.2 j hj).1
    have gx : mu_is Hk (some (qs.getD j 0)) 18 := c1.is (h.2.2.2.2.2.2.2 j hj).2 (fun e => by
      have z1 : mu_k H (qs.getD j 0) = 18 := (h.2.2.2.2.2.2.2 j hj).2.2.2
      have e : qs.getD j 0 = z := e
      rw [e, show mu_k H z = 109 from hz.2.2] at z1
      exact absurd z1 (by decide))
    have gz : mu_is Hk (some z) 109 := c3
    have gzn : vp_in (nI j) (mu_n Hk z) := by rw [c4]; exact vp_in_nI (by omega) (by omega)
    refine mw_go mu_g520 (k := 3) (f1 := (29, [(3, .inl (nI j)), (2, .inr (.inr (some z))), (1, .inr (.inr (some x))), (0, .inr (.inr (some q)))], [.inl (mu_i Hk q 2), .inl (nI j)], Hk)) (C := [mu_is Hk (some q) 18]) rfl (show mu_is Hk (some q) 18 from gq) ?_
    refine mw_fr (f' := (29, [(3, .inl (nI j)), (2, .inr (.inr (some z))), (1, .inr (.inr (some x))), (0, .inr (.inr (some q)))], [.inl (nI qs.length), .inl (nI j)], Hk)) (by first | (rw [g5]; done) | (rw [g5]; rfl)) ?_
    refine mw_if (P := (nI j) < (nI qs.length)) (a := 32) (b := 47) (fun _ => rfl) trivial (fun h1 => ?_) (fun h1 => absurd (show nI j < nI qs.length from nI_lt hj (by omega)) h1)
    refine mw_go mu_g520 (k := 5) (f1 := (39, [(3, .inl (nI j)), (2, .inr (.inr (some z))), (1, .inr (.inr (some x))), (0, .inr (.inr (some q)))], [.inl (nI j), .inr (.inr (mu_r Hk q 1)), .inl (nI j), .inr (.inr (some z))], Hk)) (C := [mu_is Hk (some q) 18]) rfl (show mu_is Hk (some q) 18 from gq) ?_
    refine mw_fr (f' := (39, [(3, .inl (nI j)), (2, .inr (.inr (some z))), (1, .inr (.inr (some x))), (0, .inr (.inr (some q)))], [.inl (nI j), .inr (.inr (some a)), .inl (nI j), .inr (.inr (some z))], Hk)) (by first | (rw [g4]; done) | (rw [g4]; rfl)) ?_
    refine mw_go mu_g520 (k := 1) (f1 := (40, [(3, .inl (nI j)), (2, .inr (.inr (some z))), (1, .inr (.inr (some x))), (0, .inr (.inr (some q)))], [.inr (.inr (mu_r Hk a (nI j).toNatClampNeg)), .inl (nI j), .inr (.inr (some z))], Hk)) (C := [mu_is Hk (some a) (mu_k Hk a), 103 ≤ mu_k Hk a ∧ mu_k Hk a ≤ 110 ∧ mu_k Hk a ≠ 108, vp_in (nI j) (mu_n Hk a)]) rfl (show (mu_is Hk (some a) (mu_k Hk a)) ∧ (103 ≤ mu_k Hk a ∧ mu_k Hk a ≤ 110 ∧ mu_k Hk a ≠ 108) ∧ (vp_in (nI j) (mu_n Hk a)) from ⟨ga, ga2, ga3⟩) ?_
    refine mw_fr (f' := (40, [(3, .inl (nI j)), (2, .inr (.inr (some z))), (1, .inr (.inr (some x))), (0, .inr (.inr (some q)))], [.inr (.inr (some (qs.getD j 0))), .inl (nI j), .inr (.inr (some z))], Hk)) (by first | (rw [g6]; done) | (rw [g6]; rfl)) ?_
    refine mw_aastO (t := 9) (ct := 18) rfl gz gx (by decide) gzn ?_
    rw [show mu_p (some z) = z from rfl, nI_clamp (show j < 2 ^ 31 by omega)]
    refine mw_go mu_g520 (k := 2) (f1 := (24, [(3, .inl ((nI j) + 1)), (2, .inr (.inr (some z))), (1, .inr (.inr (some x))), (0, .inr (.inr (some q)))], [], (mu_sr Hk z j (some (qs.getD j 0))))) (C := []) rfl trivial ?_
    refine mw_sub (L' := [(3, .inl (nI (j + 1))), (2, .inr (.inr (some z))), (1, .inr (.inr (some x))), (0, .inr (.inr (some q)))]) (by simp [← nI_add, show (1 : Int32) = nI 1 from rfl]) ?_
    refine nd_cp0 h hqz haz hz hl hcz hfin m (j + 1) _ (by omega) ⟨c1.sr (Or.inl rfl), fun i hi => ?_, c3, c4⟩
    rw [mu_r_sr]
    by_cases e : i = j
    · rw [if_pos ⟨rfl, e⟩, e]
    · rw [if_neg (fun y => e y.2)]
      exact c2 i (by omega)
theorem ndo.kp {H H1 : mu_H} {W : Nat → Prop} {q a c s a' b' : Nat} {k : List Int32} {qs : List Nat} (h : ndo H q a c s k qs) (hk : kep W a' b' H H1) (hq : ¬ W q) (ha : ¬ W a) (hs : ∀ i, i < qs.length → ¬ W (qs.getD i 0)) : ndo H1 q a c s k qs := by
  obtain ⟨⟨h1, h1'⟩, ⟨h2, h2'⟩, h3, h4, h5, h6, ⟨h7, h8⟩, h11⟩ := h
  exact ⟨⟨hk.is h1 hq, h1'⟩, ⟨hk.is h2 ha, h2'⟩, (hk.r (Or.inl h1.2.1) hq 0).trans h3, (hk.r (Or.inl h1.2.1) hq 1).trans h4, (hk.i (Or.inl h1.2.1) hq 2).trans h5, (hk.i (Or.inl h1.2.1) hq 7).trans h6, ⟨(hk.len (Or.inl h2.2.1) ha).trans h7, h8⟩, fun i hi => ⟨(hk.r (Or.inl h2.2.1) ha i).trans (h11 i hi).1, hk.is (h11 i hi).2 (hs i hi)⟩⟩
theorem ndo.ne {H : mu_H} {q a c s : Nat} {k : List Int32} {qs : List Nat} (h : ndo H q a c s k qs) : q ≠ a ∧ ∀ i, i < qs.length → qs.getD i 0 ≠ a := by
  have z2 : mu_k H a = 109 := h.2.1.1.2.2
  refine ⟨fun e => ?_, fun i hi e => ?_⟩
  · have z1 : mu_k H q = 18 := h.1.1.2.2
    rw [e, z2] at z1
    exact absurd z1 (by decide)
  · have z1 : mu_k H (qs.getD i 0) = 18 := (h.2.2.2.2.2.2.2 i hi).2.2.2
    rw [e, z2] at z1
    exact absurd z1 (by decide)
theorem nd_tail {d q a c s x : Nat} {k : List Int32} {qs : List Nat} {H : mu_H} (h : ndo H q a c s k qs) (hc : qs.length < c) (hx : mu_is H (some x) 18) (hl : c ≤ 2 ^ 30) : mu_W (mu_D d) mu_m520 (52, [(1, .inr (.inr (some x))), (0, .inr (.inr (some q)))], [], H) (fun r => ∃ y H1, r = (.inl (some (.inr (.inr y))), H1) ∧ y = some q ∧ H1 = mu_sr (mu_si H q 2 (nI (qs.length + 1))) a qs.length (some x)) := by
  have g5 := h.2.2.2.2.1
  have g4 := h.2.2.2.1
  have gn := h.2.2.2.2.2.2.1
  refine mw_go mu_g520 (k := 10) (f1 := (68, [(1, .inr (.inr (some x))), (0, .inr (.inr (some q)))], [.inr (.inr (some x)), .inl (mu_i H q 2), .inr (.inr (mu_r H q 1))], (mu_si H q 2 ((mu_i H q 2) + (1 : Int32))))) (C := [mu_is H (some q) 18, mu_is H (some q) 18, mu_is H (some q) 18]) rfl (show (mu_is H (some q) 18) ∧ (mu_is H (some q) 18) ∧ (mu_is H (some q) 18) from ⟨h.1.1, h.1.1, h.1.1⟩) ?_
  refine mw_fr (f' := (68, [(1, .inr (.inr (some x))), (0, .inr (.inr (some q)))], [.inr (.inr (some x)), .inl (nI qs.length), .inr (.inr (some a))], (mu_si H q 2 (nI (qs.length + 1))))) (by first | (rw [g5, g4, (show nI qs.length + (1 : Int32) = nI (qs.length + 1) from nI_add _ _)]; done) | (rw [g5, g4, (show nI qs.length + (1 : Int32) = nI (qs.length + 1) from nI_add _ _)]; rfl)) ?_
  have gv : vp_in (nI qs.length) (mu_n (mu_si H q 2 (nI (qs.length + 1))) (mu_p (some a))) := by
    show vp_in (nI qs.length) (mu_n H a)
    rw [gn.1]; exact vp_in_nI hc (by omega)
  refine mw_aastO (t := 9) (ct := 18) rfl h.2.1.1 hx (by decide) gv ?_
  rw [show mu_p (some a) = a from rfl, nI_clamp (show qs.length < 2 ^ 31 by omega)]
  refine mw_go mu_g520 (k := 1) (f1 := (70, [(1, .inr (.inr (some x))), (0, .inr (.inr (some q)))], [.inr (.inr (some q))], (mu_sr (mu_si H q 2 (nI (qs.length + 1))) a qs.length (some x)))) (C := []) rfl trivial ?_
  exact mw_of (fun _ => mu_ret rfl trivial ⟨_, _, rfl, rfl, rfl⟩)
theorem mw_imp {run : Nat → List ev_V → List ev_C → Option ev_R} {M : ev_M} {f : mu_F} {Φ Ψ : mu_R → Prop} (hi : ∀ r, Ψ r → Φ r) (h : mu_W run M f Ψ) : mu_W run M f Φ := fun L0 hs => mu_HT.imp (h L0 hs) hi
theorem nI_nn {a : Nat} (h : a < 2 ^ 31) : ¬ nI a < 0 := by
  rw [Int32.lt_iff_toInt_lt, show (nI a).toInt = (a : Int) from Int32.toInt_ofNat_of_lt h, show (0 : Int32).toInt = 0 from by decide]
  omega
/-- add -/
theorem nd_add {d q a c s x : Nat} {k : List Int32} {qs : List Nat} {H : mu_H} (h : ndo H q a c s k qs) (hx : mu_is H (some x) 18) (hl : c ≤ 2 ^ 20) (hz : mu_z H + 1 ≤ 1000000) : mu_TA (mu_D (d + 1)) 520 [.inr (.inr (some q)), .inr (.inr (some x))] H (fun y H1 => y = some q ∧ ∃ a1 c1, ndo H1 q a1 c1 s k (qs ++ [x]) ∧ c ≤ c1 ∧ kep (fun p => p = q ∨ p = a) (c1 - c) (2 * (c1 - c)) H H1 ∧ (a1 = a ∨ mu_z H ≤ a1 ∧ a1 < 1000000) ∧ mu_r H1 q 4 = mu_r H q 4 ∧ mu_i H1 q 3 = mu_i H q 3) := by
  refine mu_meth (M := mu_m520) rfl rfl ?_
  refine mw_ht (mu_fn_of (show [0, 1].Nodup by decide)) ?_
  have g5 := h.2.2.2.2.1
  have g4 := h.2.2.2.1
  have gn := h.2.2.2.2.2.2.1
  have hl' : c ≤ 2 ^ 20 := hl
  have gc : Int32.ofNat (mu_n H a) = nI c := by rw [gn.1]; rfl
  have ga : mu_isr H (some a) (mu_k H a) := ⟨rfl, Or.inl h.2.1.1.2.1, rfl⟩
  have ga2 : 100 ≤ mu_k H a := by rw [show mu_k H a = 109 from h.2.1.1.2.2]; decide
  have hne := h.ne
  have g2l : (2 : Int32) * nI qs.length = nI (2 * qs.length) := (Int32.ofNat_mul 2 qs.length).symm
  have gcl : (nI (2 * qs.length)).toNatClampNeg = 2 * qs.length := nI_clamp (by omega)
  have gnn : ¬ nI (2 * qs.length) < 0 := nI_nn (by omega)
  have gby : (nI (2 * qs.length)).toNatClampNeg * ev_bytes 9 ≤ 536870912 := by rw [gcl]; exact Nat.le_trans (Nat.mul_le_mul (Nat.le_refl _) (show ev_bytes 9 ≤ 8 by decide)) (by omega)
  refine mw_go mu_g520 (k := 4) (f1 := (8, [(0, .inr (.inr (some q))), (1, .inr (.inr (some x)))], [.inr (.inr (mu_r H q 1)), .inl (mu_i H q 2)], H)) (C := [mu_is H (some q) 18, mu_is H (some q) 18]) rfl (show (mu_is H (some q) 18) ∧ (mu_is H (some q) 18) from ⟨h.1.1, h.1.1⟩) ?_
  refine mw_fr (f' := (8, [(0, .inr (.inr (some q))), (1, .inr (.inr (some x)))], [.inr (.inr (some a)), .inl (nI qs.length)], H)) (by first | (rw [g5, g4]; done) | (rw [g5, g4]; rfl)) ?_
  refine mw_go mu_g520 (k := 1) (f1 := (9, [(0, .inr (.inr (some q))), (1, .inr (.inr (some x)))], [.inl (Int32.ofNat (mu_n H a)), .inl (nI qs.length)], H)) (C := [mu_isr H (some a) (mu_k H a), 100 ≤ mu_k H a]) rfl (show (mu_isr H (some a) (mu_k H a)) ∧ (100 ≤ mu_k H a) from ⟨ga, ga2⟩) ?_
  refine mw_fr (f' := (9, [(0, .inr (.inr (some q))), (1, .inr (.inr (some x)))], [.inl (nI c), .inl (nI qs.length)], H)) (by first | (rw [gc]; done) | (rw [gc]; rfl)) ?_
  refine mw_if (P := (nI qs.length) = (nI c)) (a := 12) (b := 52) (fun _ => rfl) trivial (fun h1 => ?_) (fun h1 => ?_)
  · -- 12
    have hcl : c = qs.length := (rI_inj (by omega) (by omega) h1).symm
    have hqz : q < mu_z H := h.1.1.2.1
    have haz : a < mu_z H := h.2.1.1.2.1
    refine mw_go mu_g520 (k := 4) (f1 := (18, [(0, .inr (.inr (some q))), (1, .inr (.inr (some x)))], [.inl ((2 : Int32) * (mu_i H q 2))], H)) (C := [mu_is H (some q) 18]) rfl (show mu_is H (some q) 18 from h.1.1) ?_
    refine mw_fr (f' := (18, [(0, .inr (.inr (some q))), (1, .inr (.inr (some x)))], [.inl (nI (2 * qs.length))], H)) (by first | (rw [g5, g2l]; done) | (rw [g5, g2l]; rfl)) ?_
    refine mw_go mu_g520 (k := 4) (f1 := (24, [(3, .inl (0 : Int32)), (2, .inr (.inr (some (mu_z H)))), (0, .inr (.inr (some q))), (1, .inr (.inr (some x)))], [], (mu_nw H 109 (nI (2 * qs.length)).toNatClampNeg (nI (2 * qs.length)).toNatClampNeg))) (C := [¬ (nI (2 * qs.length)) < 0, (nI (2 * qs.length)).toNatClampNeg * ev_bytes 9 ≤ 536870912, mu_z H + 1 ≤ 1000000]) rfl (show (¬ (nI (2 * qs.length)) < 0) ∧ ((nI (2 * qs.length)).toNatClampNeg * ev_bytes 9 ≤ 536870912) ∧ (mu_z H + 1 ≤ 1000000) from ⟨gnn, gby, hz⟩) ?_
    refine mw_fr (f' := (24, [(3, .inl (0 : Int32)), (2, .inr (.inr (some (mu_z H)))), (0, .inr (.inr (some q))), (1, .inr (.inr (some x)))], [], (mu_nw H 109 (2 * qs.length) (2 * qs.length)))) (by first | (rw [gcl]; done) | (rw [gcl]; rfl)) ?_
    have k0 : kep (fun _ => False) (0 + 1) (0 + 2 * qs.length) H (mu_nw H 109 (2 * qs.length) (2 * qs.length)) := (kep.rf (H := H)).nw (by omega)
    have hn : ndo (mu_nw H 109 (2 * qs.length) (2 * qs.length)) q a c s k qs := h.kp k0 id id (fun _ _ => id)
    refine mw_sub (L' := [(3, .inl (nI 0)), (2, .inr (.inr (some (mu_z H)))), (1, .inr (.inr (some x))), (0, .inr (.inr (some q)))]) (by simp [nI]) ?_
    refine nd_cp0 (C := 2 * qs.length) hn (by omega) (by omega) (mu_is_new H 109 _ _) (by omega) (by omega) (fun Hk hk => ?_) qs.length 0 _ (by omega) ⟨kep.rf, fun i hi => absurd hi (Nat.not_lt_zero _), mu_is_new H 109 _ _, by rw [mu_n_nw, if_pos rfl]⟩
    obtain ⟨c1, c2, c3, c4⟩ := hk
    have hqk : mu_is Hk (some q) 18 := c1.is hn.1.1 (by show ¬ q = mu_z H; omega)
    show mu_W _ mu_m520 (47, [(2, .inr (.inr (some (mu_z H)))), (1, .inr (.inr (some x))), (0, .inr (.inr (some q)))], [], Hk) _
    refine mw_go mu_g520 (k := 3) (f1 := (52, [(2, .inr (.inr (some (mu_z H)))), (1, .inr (.inr (some x))), (0, .inr (.inr (some q)))], [], (mu_sr Hk q 1 (some (mu_z H))))) (C := [mu_is Hk (some q) 18]) rfl (show mu_is Hk (some q) 18 from hqk) ?_
    have hn2 : ndo (mu_sr Hk q 1 (some (mu_z H))) q (mu_z H) (2 * qs.length) s k qs := by
      have nW : ¬ (fun p => p = mu_z H) q := by show ¬ q = mu_z H; omega
      refine ⟨⟨hqk, h.1.2⟩, ⟨c3, by omega⟩, ?_, ?_, (c1.i (Or.inl hn.1.1.2.1) nW 2).trans hn.2.2.2.2.1, (c1.i (Or.inl hn.1.1.2.1) nW 7).trans hn.2.2.2.2.2.1, ⟨c4, by omega, by omega, by omega⟩, fun i hi => ⟨?_, ?_⟩⟩
      · rw [mu_r_sr, if_neg (fun z => absurd z.2 (by decide))]
        exact (c1.r (Or.inl hn.1.1.2.1) nW 0).trans hn.2.2.1
      · rw [mu_r_sr, if_pos ⟨rfl, rfl⟩]
      · rw [mu_r_sr, if_neg (fun z => by have := z.1; omega)]
        exact c2 i hi
      · refine c1.is (hn.2.2.2.2.2.2.2 i hi).2 (fun e => ?_)
        have z : qs.getD i 0 < mu_z H := (h.2.2.2.2.2.2.2 i hi).2.2.1
        have e : qs.getD i 0 = mu_z H := e
        omega
    have hx2 : mu_is (mu_sr Hk q 1 (some (mu_z H))) (some x) 18 := c1.is (mu_is_nw hx) (by have : x < mu_z H := hx.2.1; show ¬ x = mu_z H; omega)
    refine mw_sub (L' := [(1, .inr (.inr (some x))), (0, .inr (.inr (some q)))]) (by simp) ?_
    refine mw_imp (fun r hr => ?_) (nd_tail (d := d) hn2 (by omega) hx2 (by omega))
    obtain ⟨y, H1, e1, e2, e3⟩ := hr
    refine ⟨y, H1, e1, e2, mu_z H, 2 * qs.length, by rw [e3]; exact hn2.put (by omega) hx2, by omega, ?_, Or.inr ⟨Nat.le_refl _, by omega⟩, ?_, ?_⟩
    · rw [e3]
      have k1 := (((k0.tr c1 (W := fun p => p = q ∨ p = a) (fun p hp z => z.elim (fun z => z.elim) (fun z => by have z : p = mu_z H := z; omega))).sr (q := q) (j := 1) (x := some (mu_z H)) (Or.inl (Or.inl rfl))).si (q := q) (j := 2) (x := nI (qs.length + 1)) (Or.inl (Or.inl rfl))).sr (q := mu_z H) (j := qs.length) (x := some x) (Or.inr (by omega))
      exact k1.wk (fun _ _ z => z) (by omega) (by omega)
    · rw [e3, mu_r_sr, if_neg (fun z => by have := z.1; omega)]
      show mu_r (mu_sr Hk q 1 (some (mu_z H))) q 4 = _
      rw [mu_r_sr, if_neg (fun z => absurd z.2 (by decide))]
      exact (c1.r (Or.inl hn.1.1.2.1) (by show ¬ q = mu_z H; omega) 4).trans (k0.r (Or.inl hqz) id 4)
    · rw [e3]
      show mu_i (mu_si (mu_sr Hk q 1 (some (mu_z H))) q 2 (nI (qs.length + 1))) q 3 = _
      rw [mu_i_si, if_neg (fun z => absurd z.2 (by decide))]
      exact (c1.i (Or.inl hn.1.1.2.1) (by show ¬ q = mu_z H; omega) 3).trans (k0.i (Or.inl hqz) id 3)
  · -- 52
    have hcl : qs.length < c := by have := nI_ne (by omega) (by omega) h1; omega
    refine mw_sub (L' := [(1, .inr (.inr (some x))), (0, .inr (.inr (some q)))]) (by simp) ?_
    refine mw_imp (fun r hr => ?_) (nd_tail (d := d) h hcl hx (by omega))
    obtain ⟨y, H1, e1, e2, e3⟩ := hr
    refine ⟨y, H1, e1, e2, a, c, by rw [e3]; exact h.put hcl hx, Nat.le_refl _, ?_, Or.inl rfl, ?_, ?_⟩
    · rw [e3]
      exact (((kep.rf (W := fun p => p = q ∨ p = a)).si (Or.inl (Or.inl rfl))).sr (Or.inl (Or.inr rfl))).wk (fun _ _ z => z) (by omega) (by omega)
    · rw [e3, mu_r_sr, if_neg (fun z => hne.1 z.1)]
      rfl
    · rw [e3]
      show mu_i (mu_si H q 2 (nI (qs.length + 1))) q 3 = _
      rw [mu_i_si, if_neg (fun z => absurd z.2 (by decide))]
