/-! THE MACHINE: choices are kept aside -/
def FCp : Uf := ⟨[], [], [(100, 8), (100, 12)], [], [], false⟩
section Choices
variable {H : mu_H} {m d A W l s t k o f O p n q sc cp : Nat} {C : Nat → Nat} {U V : Ud} {it sf : Nat → Nat}
theorem mc_copy2 (h : um m H) (e : ud m H = U) (hx : mx U A W l) (hs : s < A) (ht : t < A) : mu_TV (mu_D (d + 1)) 220 [.inr (.inr (some 100)), .inl (nI s), .inl (nI t)] H (fun H1 => um m H1 ∧ ur m C H H1 ∧ uq FCp U (ud m H1) ∧ (∀ j, j < l → cvl (ud m H1) W t j = cvl U W s j) ∧ ∀ s' k, s' ≠ t → k < W → ckp (ud m H1) U W s' k) := by
  refine (mc_copy (C := C) h e hx hs ht).imp (fun H1 qq => ?_)
  obtain ⟨q1, q2, q3⟩ := qq
  obtain ⟨hW, hl, hl1, hlW, hW2, hA8, c8, hA12, c12⟩ := hx
  refine ⟨q1, q2, by rw [q3]; exact ((uq.refl FCp U).A rfl).F rfl, fun j hj => ?_, fun s' k hs' hk => ?_⟩
  · rw [q3]
    show (if (if t = t then (U.2.2.1 100 12).2 s else (U.2.2.1 100 12).2 t) = 0 then (if t * W ≤ t * W ∧ t * W < t * W + (if (U.2.2.1 100 12).2 s = 0 then 1 else l) then (U.2.2.1 100 8).2 (s * W + (t * W - t * W)) else (U.2.2.1 100 8).2 (t * W)) else (if t * W ≤ t * W + j ∧ t * W + j < t * W + (if (U.2.2.1 100 12).2 s = 0 then 1 else l) then (U.2.2.1 100 8).2 (s * W + (t * W + j - t * W)) else (U.2.2.1 100 8).2 (t * W + j))) = cvl U W s j
    rw [if_pos (rfl : t = t)]
    unfold cvl
    by_cases hz : (U.2.2.1 100 12).2 s = 0
    · rw [if_pos hz, if_pos hz, if_pos hz, if_pos ⟨Nat.le_refl _, by omega⟩, Nat.sub_self, Nat.add_zero]
    · rw [if_neg hz, if_neg hz, if_neg hz, if_pos ⟨by omega, by omega⟩, Nat.add_sub_cancel_left]
  · rw [q3]
    have hn : (if (U.2.2.1 100 12).2 s = 0 then 1 else l) ≤ W := by
      by_cases hz : (U.2.2.1 100 12).2 s = 0
      · rw [if_pos hz]; omega
      · rw [if_neg hz]; omega
    have n1 := slt_ne (s := s') (s0 := t) hs' hk hn
    have n2 := slt_ne (s := s') (s0 := t) (k := 0) hs' (by omega) hn
    rw [Nat.add_zero] at n2
    refine ⟨?_, show (if s' = t then (U.2.2.1 100 12).2 s else (U.2.2.1 100 12).2 s') = _ by rw [if_neg hs'], show (if t * W ≤ s' * W + k ∧ s' * W + k < t * W + (if (U.2.2.1 100 12).2 s = 0 then 1 else l) then (U.2.2.1 100 8).2 (s * W + (s' * W + k - t * W)) else (U.2.2.1 100 8).2 (s' * W + k)) = _ by rw [if_neg n1]⟩
    show (if (if s' = t then (U.2.2.1 100 12).2 s else (U.2.2.1 100 12).2 s') = 0 then (if t * W ≤ s' * W ∧ s' * W < t * W + (if (U.2.2.1 100 12).2 s = 0 then 1 else l) then (U.2.2.1 100 8).2 (s * W + (s' * W - t * W)) else (U.2.2.1 100 8).2 (s' * W)) else (if t * W ≤ s' * W + k ∧ s' * W + k < t * W + (if (U.2.2.1 100 12).2 s = 0 then 1 else l) then (U.2.2.1 100 8).2 (s * W + (s' * W + k - t * W)) else (U.2.2.1 100 8).2 (s' * W + k))) = cvl U W s' k
    rw [if_neg hs', if_neg n1, if_neg n2]
    rfl
def F221a : Uf := ⟨[], [], [(100, 8), (100, 12)], [], [], false⟩
/-- PathProver$Machine.keepChoices(I)V -/
abbrev mu_m221 : ev_M := (4, none, [], ev_b221)
theorem mu_g221 : mu_good mu_m221 := mu_goodk ev_k221
def F221 : Uf := ⟨[], [(100, 16)], [(100, 8), (100, 12), (100, 15)], [], [], false⟩
theorem mc_keep (h : um m H) (e : ud m H = U) (hs : mst U A W l t it) (hO : U.2.1 100 7 = nI O) (hcp : U.2.1 100 5 = nI cp) (hsc : U.2.1 100 16 = nI sc) (hq : (U.2.2.1 100 15).2 sc = nI q) (hft : f ≤ t) (hqp : q + (t - f) ≤ cp) (hcO : cp ≤ O) (hOA : O ≤ A) (hA : A ≤ 16777216) (hsl : sc + 1 < (U.2.2.1 100 15).1) (hsl2 : (U.2.2.1 100 15).1 ≤ 16777216) (hit2 : ∀ k, k < t → it k < O - cp ∨ O ≤ it k) :
    mu_TV (mu_D (d + 2)) 221 [.inr (.inr (some 100)), .inl (nI f)] H (fun H1 => um m H1 ∧ ur m C H H1 ∧ uq F221 U (ud m H1) ∧ ((ud m H1).2.1 100 16 = nI (sc + 1) ∧ (∀ k, ((ud m H1).2.2.1 100 15).2 k = if k = sc + 1 then nI (q + (t - f)) else (U.2.2.1 100 15).2 k) ∧ (∀ i j, i < t - f → j < l → cvl (ud m H1) W (O - cp + (q + i)) j = cvl U W (it (f + i)) j) ∧ ∀ s k, (s < O - cp ∨ O ≤ s ∨ s < O - cp + q) → k < W → ckp (ud m H1) U W s k)) := by
  obtain ⟨hx, ht, ht13, c13, hit⟩ := hs
  obtain ⟨hW, hl, hl1, hlW, hW2, hA8, c8, hA12, c12⟩ := hx
  refine mu_meth (M := mu_m221) rfl rfl ?_
  refine mw_ht (mu_fn_of (show [0, 1].Nodup by decide)) ?_
  refine mw_go mu_g221 (k := 2) (f1 := (4, [(0, .inr (.inr (some 100))), (1, .inl (nI f))], [.inr (.inr (mu_r H 100 15))], H)) (C := [mu_is H (some 100) 5]) rfl (show mu_is H (some 100) 5 from (h.1.1.is rfl)) ?_
  rw [(show mu_r H 100 15 = (U.2.2.2.1 100 15) from (ud_q (U := U) (m := m) (P := 100) (j := 15) e rfl))]
  refine mw_go mu_g221 (k := 2) (f1 := (8, [(0, .inr (.inr (some 100))), (1, .inl (nI f))], [.inl (mu_i H 100 16), .inr (.inr (U.2.2.2.1 100 15))], H)) (C := [mu_is H (some 100) 5]) rfl (show mu_is H (some 100) 5 from (h.1.1.is rfl)) ?_
  rw [(show mu_i H 100 16 = (nI sc) from (ud_i (U := U) (m := m) (P := 100) (j := 16) e rfl).trans hsc)]
  refine mw_go mu_g221 (k := 1) (f1 := (9, [(0, .inr (.inr (some 100))), (1, .inl (nI f))], [.inl (mu_i H (mu_p (U.2.2.2.1 100 15)) (nI sc).toNatClampNeg)], H)) (C := [mu_isr H (U.2.2.2.1 100 15) 100, vp_in (nI sc) (mu_n H (mu_p (U.2.2.2.1 100 15)))]) rfl (show (mu_isr H (U.2.2.2.1 100 15) 100) ∧ (vp_in (nI sc) (mu_n H (mu_p (U.2.2.2.1 100 15)))) from ⟨((h.iA e rfl rfl (show U.2.2.2.1 100 15 = (U.2.2.2.1 100 15) from rfl))).r, (h.vA (i := sc) e rfl rfl (show U.2.2.2.1 100 15 = (U.2.2.2.1 100 15) from rfl) (show (U.2.2.1 100 15).1 = (U.2.2.1 100 15).1 from rfl) (by omega) (by omega))⟩) ?_
  rw [(show (mu_i H (mu_p (U.2.2.2.1 100 15)) (nI sc).toNatClampNeg) = (nI q) from ((congrArg (mu_i H (mu_p (U.2.2.2.1 100 15))) (show (nI sc).toNatClampNeg = sc from nI_clamp (by omega))).trans (h.gA e rfl rfl (show U.2.2.2.1 100 15 = (U.2.2.2.1 100 15) from rfl))).trans ((congrArg (fun z => z.2 sc) (show U.2.2.1 100 15 = (U.2.2.1 100 15) from rfl)).trans hq))]
  refine mw_go mu_g221 (k := 3) (f1 := (12, [(3, .inl (nI f)), (2, .inl (nI q)), (0, .inr (.inr (some 100))), (1, .inl (nI f))], [], H)) (C := []) rfl trivial ?_
  show mu_W _ _ (12, [(3, .inl (nI (f + 0))), (2, .inl (nI (q + 0))), (0, .inr (.inr (some 100))), (1, .inl (nI f))], [], H) _
  refine mw_sub (L' := [(3, .inl (nI (f + 0))), (2, .inl (nI (q + 0))), (0, .inr (.inr (some 100))), (1, .inl (nI f))]) (by simp) ?_
  refine mw_down (α := Nat × mu_H) (fun zs => (12, [(3, .inl (nI (f + zs.1))), (2, .inl (nI (q + zs.1))), (0, .inr (.inr (some 100))), (1, .inl (nI f))], [], zs.2)) (fun zs => t - (f + zs.1)) (fun zs => um m zs.2 ∧ ur m C H zs.2 ∧ (uq F221a U (ud m zs.2)) ∧ (f + zs.1 ≤ t) ∧ (∀ i j, i < zs.1 → j < l → cvl (ud m zs.2) W (O - cp + (q + i)) j = cvl U W (it (f + i)) j) ∧ (∀ s k, (s < O - cp + q ∨ O - cp + (q + zs.1) ≤ s) → k < W → ckp (ud m zs.2) U W s k)) (fun zs hza iha => ?_) (0, H) ⟨h, (ur.refl m C H), (show uq F221a U (ud m H) from by rw [e]; exact uq.refl _ _), (show f + 0 ≤ t from (by omega)), (show ∀ i j, i < 0 → j < l → cvl (ud m H) W (O - cp + (q + i)) j = cvl U W (it (f + i)) j from by rw [e]; exact (fun i j hi => absurd hi (Nat.not_lt_zero _))), (show ∀ s k, (s < O - cp + q ∨ O - cp + (q + 0) ≤ s) → k < W → ckp (ud m H) U W s k from by rw [e]; exact (fun s k _ _ => ckp.refl))⟩
  obtain ⟨n, Hsa⟩ := zs
  obtain ⟨ua, hta, da, hn, hA, hB⟩ := hza
  have ua : um m Hsa := ua
  have hta : ur m C H Hsa := hta
  have zza : uq F221a U (ud m Hsa) := da
  have hn : f + n ≤ t := hn
  have hA : ∀ i j, i < n → j < l → cvl (ud m Hsa) W (O - cp + (q + i)) j = cvl U W (it (f + i)) j := hA
  have hB : ∀ s k, (s < O - cp + q ∨ O - cp + (q + n) ≤ s) → k < W → ckp (ud m Hsa) U W s k := hB
  obtain ⟨Va, da⟩ : ∃ V, ud m Hsa = V := ⟨_, rfl⟩
  rw [da] at zza hA hB
  have qfa : uq F221 U Va := (uq.refl F221 U).tr zza rfl
  show mu_W _ _ (12, [(3, .inl (nI (f + n))), (2, .inl (nI (q + n))), (0, .inr (.inr (some 100))), (1, .inl (nI f))], [], Hsa) _
  refine mw_go mu_g221 (k := 3) (f1 := (17, [(3, .inl (nI (f + n))), (2, .inl (nI (q + n))), (0, .inr (.inr (some 100))), (1, .inl (nI f))], [.inl (mu_i Hsa 100 14), .inl (nI (f + n))], Hsa)) (C := [mu_is Hsa (some 100) 5]) rfl (show mu_is Hsa (some 100) 5 from (ua.1.1.is rfl)) ?_
  rw [(show mu_i Hsa 100 14 = (nI t) from (ud_i (U := Va) (m := m) (P := 100) (j := 14) da rfl).trans ((zza.i 100 14 rfl).trans ht))]
  refine mw_if (P := (nI (f + n)) < (nI t)) (a := 20) (b := 50) (fun _ => rfl) trivial (fun h1 => ?_) (fun h1 => ?_)
  · -- 20: (nI (f + n)) < (nI t)
    have nh1 : (f + n) < t := (nI_ltI (by omega) (by omega)).mp (show nI (f + n) < nI t from h1)
    refine mw_go mu_g221 (k := 3) (f1 := (25, [(3, .inl (nI (f + n))), (2, .inl (nI (q + n))), (0, .inr (.inr (some 100))), (1, .inl (nI f))], [.inr (.inr (mu_r Hsa 100 13)), .inr (.inr (some 100))], Hsa)) (C := [mu_is Hsa (some 100) 5]) rfl (show mu_is Hsa (some 100) 5 from (ua.1.1.is rfl)) ?_
    rw [(show mu_r Hsa 100 13 = (U.2.2.2.1 100 13) from (ud_q (U := Va) (m := m) (P := 100) (j := 13) da rfl).trans (zza.r 100 13 rfl))]
    refine mw_go mu_g221 (k := 2) (f1 := (27, [(3, .inl (nI (f + n))), (2, .inl (nI (q + n))), (0, .inr (.inr (some 100))), (1, .inl (nI f))], [.inl (mu_i Hsa (mu_p (U.2.2.2.1 100 13)) (nI (f + n)).toNatClampNeg), .inr (.inr (some 100))], Hsa)) (C := [mu_isr Hsa (U.2.2.2.1 100 13) 100, vp_in (nI (f + n)) (mu_n Hsa (mu_p (U.2.2.2.1 100 13)))]) rfl (show (mu_isr Hsa (U.2.2.2.1 100 13) 100) ∧ (vp_in (nI (f + n)) (mu_n Hsa (mu_p (U.2.2.2.1 100 13)))) from ⟨((ua.iA da rfl rfl (show Va.2.2.2.1 100 13 = (U.2.2.2.1 100 13) from (zza.r 100 13 rfl)))).r, (ua.vA (i := f + n) da rfl rfl (show Va.2.2.2.1 100 13 = (U.2.2.2.1 100 13) from (zza.r 100 13 rfl)) (show (Va.2.2.1 100 13).1 = (U.2.2.1 100 13).1 from (zza.n 100 13 rfl)) (by omega) (by omega))⟩) ?_
    rw [(show (mu_i Hsa (mu_p (U.2.2.2.1 100 13)) (nI (f + n)).toNatClampNeg) = (nI (it (f + n))) from ((congrArg (mu_i Hsa (mu_p (U.2.2.2.1 100 13))) (show (nI (f + n)).toNatClampNeg = f + n from nI_clamp (by omega))).trans (ua.gA da rfl rfl (show Va.2.2.2.1 100 13 = (U.2.2.2.1 100 13) from (zza.r 100 13 rfl)))).trans ((congrArg (fun z => z.2 (f + n)) (show Va.2.2.1 100 13 = (U.2.2.1 100 13) from (zza.a 100 13 rfl))).trans (hit (f + n) (by omega)).1))]
    have hJ1 := (hit (f + n) (by omega)).2
    refine mw_go mu_g221 (k := 2) (f1 := (31, [(3, .inl (nI (f + n))), (2, .inl (nI (q + n))), (0, .inr (.inr (some 100))), (1, .inl (nI f))], [.inl (mu_i Hsa 100 7), .inl (nI (it (f + n))), .inr (.inr (some 100))], Hsa)) (C := [mu_is Hsa (some 100) 5]) rfl (show mu_is Hsa (some 100) 5 from (ua.1.1.is rfl)) ?_
    rw [(show mu_i Hsa 100 7 = (nI O) from (ud_i (U := Va) (m := m) (P := 100) (j := 7) da rfl).trans ((zza.i 100 7 rfl).trans hO))]
    refine mw_go mu_g221 (k := 2) (f1 := (35, [(3, .inl (nI (f + n))), (2, .inl (nI (q + n))), (0, .inr (.inr (some 100))), (1, .inl (nI f))], [.inl (mu_i Hsa 100 5), .inl (nI O), .inl (nI (it (f + n))), .inr (.inr (some 100))], Hsa)) (C := [mu_is Hsa (some 100) 5]) rfl (show mu_is Hsa (some 100) 5 from (ua.1.1.is rfl)) ?_
    rw [(show mu_i Hsa 100 5 = (nI cp) from (ud_i (U := Va) (m := m) (P := 100) (j := 5) da rfl).trans ((zza.i 100 5 rfl).trans hcp))]
    refine mw_go mu_g221 (k := 1) (f1 := (36, [(3, .inl (nI (f + n))), (2, .inl (nI (q + n))), (0, .inr (.inr (some 100))), (1, .inl (nI f))], [.inl ((nI O) - (nI cp)), .inl (nI (it (f + n))), .inr (.inr (some 100))], Hsa)) (C := []) rfl trivial ?_
    rw [(show ((nI O) - (nI cp)) = (nI (O - cp)) from (nI_sub (a := O) (b := cp) (by omega)))]
    refine mw_go mu_g221 (k := 2) (f1 := (38, [(3, .inl (nI (f + n))), (2, .inl (nI (q + n))), (0, .inr (.inr (some 100))), (1, .inl (nI f))], [.inl ((nI (O - cp)) + (nI (q + n))), .inl (nI (it (f + n))), .inr (.inr (some 100))], Hsa)) (C := []) rfl trivial ?_
    rw [(show ((nI (O - cp)) + (nI (q + n))) = (nI ((O - cp) + (q + n))) from (nI_add (O - cp) (q + n)))]
    refine mw_cV (fun _ => rfl) (show mu_is Hsa (some 100) 5 from (ua.1.1.is rfl)) (mc_copy2 (d := d) (C := C) (s := it (f + n)) (t := (O - cp) + (q + n)) ua da (show mx Va A W l from ⟨((zza.i 100 17 rfl).trans hW), ((zza.i 100 18 rfl).trans hl), hl1, hlW, hW2, by rw [(show (Va.2.2.1 100 8).1 = (U.2.2.1 100 8).1 from (zza.n 100 8 rfl))]; exact hA8, by rw [(show (Va.2.2.1 100 8).1 = (U.2.2.1 100 8).1 from (zza.n 100 8 rfl))]; exact c8, by rw [(show (Va.2.2.1 100 12).1 = (U.2.2.1 100 12).1 from (zza.n 100 12 rfl))]; exact hA12, by rw [(show (Va.2.2.1 100 12).1 = (U.2.2.1 100 12).1 from (zza.n 100 12 rfl))]; exact c12⟩) (by omega) (by omega)) (fun Q2 q2 => ?_)
    obtain ⟨u2, r2, z2, ba2, bb2⟩ := q2
    have ht2 : ur m C H Q2 := hta.trans r2
    obtain ⟨V2, d2⟩ : ∃ V, ud m Q2 = V := ⟨_, rfl⟩
    rw [d2] at z2 ba2 bb2
    have qf2 : uq F221 U V2 := qfa.tr z2 rfl
    have nn2 := hit2 (f + n) (by omega)
    refine mw_go mu_g221 (k := 1) (f1 := (44, [(2, .inl ((nI (q + n)) + 1)), (3, .inl (nI (f + n))), (0, .inr (.inr (some 100))), (1, .inl (nI f))], [], Q2)) (C := []) rfl trivial ?_
    rw [(show ((nI (q + n)) + 1) = (nI ((q + n) + 1)) from (nI_add (q + n) 1))]
    refine mw_go mu_g221 (k := 1) (f1 := (47, [(3, .inl ((nI (f + n)) + 1)), (2, .inl (nI ((q + n) + 1))), (0, .inr (.inr (some 100))), (1, .inl (nI f))], [], Q2)) (C := []) rfl trivial ?_
    rw [(show ((nI (f + n)) + 1) = (nI ((f + n) + 1)) from (nI_add (f + n) 1))]
    refine mw_go mu_g221 (k := 1) (f1 := (12, [(3, .inl (nI ((f + n) + 1))), (2, .inl (nI ((q + n) + 1))), (0, .inr (.inr (some 100))), (1, .inl (nI f))], [], Q2)) (C := []) rfl trivial ?_
    show mu_W _ _ (12, [(3, .inl (nI (f + (n + 1)))), (2, .inl (nI (q + (n + 1)))), (0, .inr (.inr (some 100))), (1, .inl (nI f))], [], Q2) _
    exact mw_sub (by simp) (iha (n + 1, Q2) ⟨u2, ht2, (show uq F221a U (ud m Q2) from by rw [d2]; exact (zza.tr z2 rfl)), (show f + (n + 1) ≤ t from (by omega)), (show ∀ i j, i < (n + 1) → j < l → cvl (ud m Q2) W (O - cp + (q + i)) j = cvl U W (it (f + i)) j from by rw [d2]; exact (fun i j hi hj => by by_cases ei : i = n; exact (by rw [ei]; exact (ba2 j hj).trans (hB _ j (by omega) (by omega)).1); exact (bb2 _ j (by omega) (by omega)).1.trans (hA i j (by omega) hj))), (show ∀ s k, (s < O - cp + q ∨ O - cp + (q + (n + 1)) ≤ s) → k < W → ckp (ud m Q2) U W s k from by rw [d2]; exact (fun s k hs hk => (bb2 s k (by omega) hk).trans (hB s k (by omega) hk)))⟩ (by show t - (f + (n + 1)) < t - (f + n); omega))
  · -- 50: not (nI (f + n)) < (nI t)
    have nh1 : ¬ (f + n) < t := fun z => h1 (show nI (f + n) < nI t from (nI_ltI (by omega) (by omega)).mpr z)
    refine mw_go mu_g221 (k := 3) (f1 := (55, [(3, .inl (nI (f + n))), (2, .inl (nI (q + n))), (0, .inr (.inr (some 100))), (1, .inl (nI f))], [.inl (mu_i Hsa 100 16), .inr (.inr (some 100))], Hsa)) (C := [mu_is Hsa (some 100) 5]) rfl (show mu_is Hsa (some 100) 5 from (ua.1.1.is rfl)) ?_
    rw [(show mu_i Hsa 100 16 = (nI sc) from (ud_i (U := Va) (m := m) (P := 100) (j := 16) da rfl).trans ((zza.i 100 16 rfl).trans hsc))]
    refine mw_go mu_g221 (k := 2) (f1 := (57, [(3, .inl (nI (f + n))), (2, .inl (nI (q + n))), (0, .inr (.inr (some 100))), (1, .inl (nI f))], [.inl ((nI sc) + (1 : Int32)), .inr (.inr (some 100))], Hsa)) (C := []) rfl trivial ?_
    rw [(show ((nI sc) + (1 : Int32)) = (nI (sc + 1)) from (nI_add sc 1))]
    refine mw_go mu_g221 (k := 1) (f1 := (60, [(3, .inl (nI (f + n))), (2, .inl (nI (q + n))), (0, .inr (.inr (some 100))), (1, .inl (nI f))], [], (mu_si Hsa 100 16 (nI (sc + 1))))) (C := [mu_is Hsa (some 100) 5]) rfl (show mu_is Hsa (some 100) 5 from (ua.1.1.is rfl)) ?_
    obtain ⟨u3, r3, d3⟩ : um m (mu_si Hsa 100 16 (nI (sc + 1))) ∧ ur m C Hsa (mu_si Hsa 100 16 (nI (sc + 1))) ∧ ud m (mu_si Hsa 100 16 (nI (sc + 1))) = (upI Va 100 16 (nI (sc + 1))) := ua.sI (C := C) da rfl
    generalize (mu_si Hsa 100 16 (nI (sc + 1))) = Q3 at u3 r3 d3 ⊢
    have qf3 : uq F221 U (upI Va 100 16 (nI (sc + 1))) := qfa.I rfl
    have ht3 : ur m C H Q3 := hta.trans r3
    refine mw_go mu_g221 (k := 2) (f1 := (64, [(3, .inl (nI (f + n))), (2, .inl (nI (q + n))), (0, .inr (.inr (some 100))), (1, .inl (nI f))], [.inr (.inr (mu_r Q3 100 15))], Q3)) (C := [mu_is Q3 (some 100) 5]) rfl (show mu_is Q3 (some 100) 5 from (u3.1.1.is rfl)) ?_
    rw [(show mu_r Q3 100 15 = (U.2.2.2.1 100 15) from (ud_q (U := (upI Va 100 16 (nI (sc + 1)))) (m := m) (P := 100) (j := 15) d3 rfl).trans (zza.r 100 15 rfl))]
    refine mw_go mu_g221 (k := 2) (f1 := (68, [(3, .inl (nI (f + n))), (2, .inl (nI (q + n))), (0, .inr (.inr (some 100))), (1, .inl (nI f))], [.inl (mu_i Q3 100 16), .inr (.inr (U.2.2.2.1 100 15))], Q3)) (C := [mu_is Q3 (some 100) 5]) rfl (show mu_is Q3 (some 100) 5 from (u3.1.1.is rfl)) ?_
    rw [(show mu_i Q3 100 16 = (nI (sc + 1)) from (ud_i (U := (upI Va 100 16 (nI (sc + 1)))) (m := m) (P := 100) (j := 16) d3 rfl))]
    refine mw_go mu_g221 (k := 2) (f1 := (70, [(3, .inl (nI (f + n))), (2, .inl (nI (q + n))), (0, .inr (.inr (some 100))), (1, .inl (nI f))], [], (mu_si Q3 (mu_p (U.2.2.2.1 100 15)) (nI (sc + 1)).toNatClampNeg (nI (q + n))))) (C := [mu_is Q3 (U.2.2.2.1 100 15) 100, vp_in (nI (sc + 1)) (mu_n Q3 (mu_p (U.2.2.2.1 100 15)))]) rfl (show (mu_is Q3 (U.2.2.2.1 100 15) 100) ∧ (vp_in (nI (sc + 1)) (mu_n Q3 (mu_p (U.2.2.2.1 100 15)))) from ⟨(u3.iA d3 rfl rfl (show (upI Va 100 16 (nI (sc + 1))).2.2.2.1 100 15 = (U.2.2.2.1 100 15) from (zza.r 100 15 rfl))), (u3.vA (i := sc + 1) d3 rfl rfl (show (upI Va 100 16 (nI (sc + 1))).2.2.2.1 100 15 = (U.2.2.2.1 100 15) from (zza.r 100 15 rfl)) (show ((upI Va 100 16 (nI (sc + 1))).2.2.1 100 15).1 = (U.2.2.1 100 15).1 from (zza.n 100 15 rfl)) (by omega) (by omega))⟩) ?_
    rw [(show (nI (sc + 1)).toNatClampNeg = sc + 1 from nI_clamp (by omega))]
    obtain ⟨u4, r4, d4⟩ : um m (mu_si Q3 (mu_p (U.2.2.2.1 100 15)) (sc + 1) (nI (q + n))) ∧ ur m C Q3 (mu_si Q3 (mu_p (U.2.2.2.1 100 15)) (sc + 1) (nI (q + n))) ∧ ud m (mu_si Q3 (mu_p (U.2.2.2.1 100 15)) (sc + 1) (nI (q + n))) = (upA (upI Va 100 16 (nI (sc + 1))) 100 15 (sc + 1) (nI (q + n))) := u3.sA (C := C) d3 rfl rfl (show (upI Va 100 16 (nI (sc + 1))).2.2.2.1 100 15 = (U.2.2.2.1 100 15) from (zza.r 100 15 rfl))
    generalize (mu_si Q3 (mu_p (U.2.2.2.1 100 15)) (sc + 1) (nI (q + n))) = Q4 at u4 r4 d4 ⊢
    have qf4 : uq F221 U (upA (upI Va 100 16 (nI (sc + 1))) 100 15 (sc + 1) (nI (q + n))) := qf3.A rfl
    have ht4 : ur m C H Q4 := ht3.trans r4
    exact mw_of (fun _ => mu_ret rfl trivial ⟨Q4, rfl, u4, ht4, (by rw [d4]; exact qf4), (by rw [d4]; exact ⟨rfl, (fun k => by show (if k = sc + 1 then nI (q + n) else (Va.2.2.1 100 15).2 k) = _; rw [show Va.2.2.1 100 15 = U.2.2.1 100 15 from (zza.a 100 15 rfl), show q + n = q + (t - f) by omega]), (fun i j hi hj => hA i j (by omega) hj), (fun s k hs hk => hB s k (by omega) hk)⟩)⟩)
end Choices
