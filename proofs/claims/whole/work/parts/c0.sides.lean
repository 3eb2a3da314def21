/-! THE MACHINE: all sides -/
/-- the sides of a mask: their slots, weights and marks -/
def sds (U : Ud) (W P S0 : Nat) (f : Nat → Nat) (mk : Int32) (sd wt : Nat → Nat) : Prop :=
  (U.1 22).1 = 28 ∧ (∀ k, k < 28 → ¬ mb mk k = 0 → k % 14 < P ∧ (U.1 22).2 k 0 = nI (sd k) ∧ sd k < S0 ∧ fck U W k (sd k) (wt k) (f (k % 14)) (sm f 0 (k % 14)) ∧ wt k * f (k % 14) ≤ 268435456) ∧
  (∀ k, k < 28 → (U.1 22).2 k 1 = nI (wt k)) ∧ ∀ k k', k < 28 → k' < 28 → ¬ mb mk k = 0 → ¬ mb mk k' = 0 → sd k = sd k' → k = k'
section Sides
variable {H : mu_H} {m d A W l k n P S0 at0 tot : Nat} {C : Nat → Nat} {U V V1 : Ud} {f sd wt : Nat → Nat} {mk : Int32}
/-- the first n sides have been laid out -/
def sdi (U V : Ud) (W l P S0 : Nat) (f : Nat → Nat) (mk : Int32) (sd wt : Nat → Nat) (at0 : Nat) (on : Nat → Prop) : Prop :=
  sds V W P S0 f mk sd wt ∧ (∀ r c, c ≠ 3 → (V.1 22).2 r c = (U.1 22).2 r c) ∧
  (∀ k j, k < 28 → ¬ mb mk k = 0 → on k → j < l → cvl V W (sd k) j = sdv U k (wt k) at0 (f (k % 14)) (sm f 0 (k % 14)) j) ∧
  ∀ s j, (∀ k, k < 28 → ¬ mb mk k = 0 → s ≠ sd k) → j < W → cvl V W s j = cvl U W s j
theorem sdi_step {on : Nat → Prop} (h : sdi U V W l P S0 f mk sd wt at0 on) (hl : l ≤ W) (hk : k < 28) (hb : ¬ mb mk k = 0) (hq : flq V V1 W l k (sd k) (wt k) (f (k % 14)) (sm f 0 (k % 14)) (sdv V k (wt k) at0 (f (k % 14)) (sm f 0 (k % 14)))) (h98 : V1.2.2.1 99 8 = V.2.2.1 99 8) (h98' : V.2.2.1 99 8 = U.2.2.1 99 8) : sdi U V1 W l P S0 f mk sd wt at0 (fun q => on q ∨ q = k) := by
  obtain ⟨⟨s1, s2, s3, s4⟩, h2, h3, h4⟩ := h
  obtain ⟨q1, q2, ⟨q3, q4⟩, q5, q6⟩ := hq
  refine ⟨⟨q3.trans s1, fun r hr hb' => ?_, fun r hr => ?_, s4⟩, fun r c hc => (q4 r c (fun z => hc z.2)).trans (h2 r c hc), fun r j hr hb' ho hj => ?_, fun s j hs hj => ?_⟩
  · obtain ⟨y1, y2, y3, y4, y5⟩ := s2 r hr hb'
    refine ⟨y1, (q4 r 0 (fun z => absurd z.2 (by decide))).trans y2, y3, ?_, y5⟩
    by_cases e : r = k
    · rw [e]; exact q5
    · intro q hq1 hq2
      rw [q4 r 3 (fun z => e z.1)] at hq1
      obtain ⟨w1, w2⟩ := y4 q hq1 hq2
      refine ⟨w1, fun j hj => ?_⟩
      rw [q6 (sd r) j (fun z => e (s4 r k hr hk hb' hb z)) hj, h98]
      exact w2 j hj
  · rw [q4 r 1 (fun z => absurd z.2 (by decide))]; exact s3 r hr
  · by_cases e : r = k
    · rw [e, q1 j hj]
      unfold sdv
      rw [h2 k 2 (by decide), h98']
    · rw [q2 (sd r) j (fun z => e (s4 r k hr hk hb' hb z)) (by omega)]
      exact h3 r j hr hb' (ho.resolve_right e) hj
  · rw [q2 s j (hs k hk hb) hj]
    exact h4 s j hs hj
theorem spx_keep (h : spx m U P f) (h4 : V.2.1 99 4 = U.2.1 99 4) (h10 : V.2.1 99 10 = U.2.1 99 10) (h11 : V.2.1 99 11 = U.2.1 99 11) (h12 : V.2.1 99 12 = U.2.1 99 12) (h5 : V.2.2.1 99 5 = U.2.2.1 99 5) (h7 : V.2.2.1 99 7 = U.2.2.1 99 7) (h6 : V.2.2.1 99 6 = U.2.2.1 99 6) (n8 : (V.2.2.1 99 8).1 = (U.2.2.1 99 8).1) (n18 : (V.2.2.1 99 18).1 = (U.2.2.1 99 18).1) (r1 : V.2.2.2.1 100 0 = U.2.2.2.1 100 0) (r2 : V.2.2.2.1 99 0 = U.2.2.2.1 99 0) : spx m V P f := by
  unfold spx
  rw [h4, h10, h11, h12, h5, h7, h6, n8, n18, r1, r2]
  exact h
theorem sdi_on {on on' : Nat → Prop} (h : sdi U V W l P S0 f mk sd wt at0 on) (ho : ∀ q, on' q → on q) : sdi U V W l P S0 f mk sd wt at0 on' := ⟨h.1, h.2.1, fun q j hq hb hq2 hj => h.2.2.1 q j hq hb (ho q hq2) hj, h.2.2.2⟩
def F212a : Uf := ⟨[22], [], [(100, 8), (100, 12)], [], [], false⟩
/-- PathProver$Machine.fillAll()V -/
abbrev mu_m212 : ev_M := (2, none, [], ev_b212)
theorem mu_g212 : mu_good mu_m212 := mu_goodk ev_k212
def F212 : Uf := ⟨[22], [(100, 18), (100, 21)], [(100, 8), (100, 12)], [], [], false⟩
theorem mc_fillAll (h : um m H) (e : ud m H = U) (hS : spx m U P f) (hW : U.2.1 100 17 = nI W) (hW1 : 1 ≤ W) (hW2 : W ≤ 1024) (hA8 : A * W ≤ (U.2.2.1 100 8).1) (c8 : (U.2.2.1 100 8).1 ≤ 16777216) (hA12 : A ≤ (U.2.2.1 100 12).1) (c12 : (U.2.2.1 100 12).1 ≤ 16777216) (hmk : U.2.1 100 4 = mk) (hsd : sds U W P S0 f mk sd wt) (hSA : S0 ≤ A) (htot : U.2.1 100 20 = nI tot) (hat : U.2.1 100 19 = nI at0) (hat2 : at0 < tot) (ht2 : tot ≤ 268435456) (hl : l = min W (tot - at0)) :
    mu_TV (mu_D (d + 4)) 212 [.inr (.inr (some 100))] H (fun H1 => um m H1 ∧ ur m C H H1 ∧ uq F212 U (ud m H1) ∧ (ud m H1).2.1 100 18 = nI l ∧ (ud m H1).2.1 100 21 = 1 ∧ sdi U (ud m H1) W l P S0 f mk sd wt at0 (fun q => q < 28)) := by
  have hlW0 : l ≤ W := by omega
  have hl1 : 1 ≤ l := by omega
  have hlW := hlW0
  refine mu_meth (M := mu_m212) rfl rfl ?_
  refine mw_ht (mu_fn_of (show [0].Nodup by decide)) ?_
  refine mw_go mu_g212 (k := 3) (f1 := (5, [(0, .inr (.inr (some 100)))], [.inl (mu_i H 100 17), .inr (.inr (some 100))], H)) (C := [mu_is H (some 100) 5]) rfl (show mu_is H (some 100) 5 from (h.1.1.is rfl)) ?_
  rw [(show mu_i H 100 17 = (nI W) from (ud_i (U := U) (m := m) (P := 100) (j := 17) e rfl).trans hW)]
  refine mw_go mu_g212 (k := 2) (f1 := (9, [(0, .inr (.inr (some 100)))], [.inl (mu_i H 100 20), .inl (nI W), .inr (.inr (some 100))], H)) (C := [mu_is H (some 100) 5]) rfl (show mu_is H (some 100) 5 from (h.1.1.is rfl)) ?_
  rw [(show mu_i H 100 20 = (nI tot) from (ud_i (U := U) (m := m) (P := 100) (j := 20) e rfl).trans htot)]
  refine mw_go mu_g212 (k := 2) (f1 := (13, [(0, .inr (.inr (some 100)))], [.inl (mu_i H 100 19), .inl (nI tot), .inl (nI W), .inr (.inr (some 100))], H)) (C := [mu_is H (some 100) 5]) rfl (show mu_is H (some 100) 5 from (h.1.1.is rfl)) ?_
  rw [(show mu_i H 100 19 = (nI at0) from (ud_i (U := U) (m := m) (P := 100) (j := 19) e rfl).trans hat)]
  refine mw_go mu_g212 (k := 1) (f1 := (14, [(0, .inr (.inr (some 100)))], [.inl ((nI tot) - (nI at0)), .inl (nI W), .inr (.inr (some 100))], H)) (C := []) rfl trivial ?_
  rw [(show ((nI tot) - (nI at0)) = (nI (tot - at0)) from (nI_sub (a := tot) (b := at0) (by omega)))]
  refine mw_cIe (fun _ => rfl) trivial (mu_min_ok (d := (d + 2)) (nI W) (nI (tot - at0))) ?_
  rw [show (mu_min (nI W) (nI (tot - at0))) = nI (min W (tot - at0)) from mu_min_n (a := W) (b := tot - at0) (by omega) (by omega)]
  rw [show min W (tot - at0) = l from hl.symm]
  refine mw_go mu_g212 (k := 1) (f1 := (20, [(0, .inr (.inr (some 100)))], [], (mu_si H 100 18 (nI l)))) (C := [mu_is H (some 100) 5]) rfl (show mu_is H (some 100) 5 from (h.1.1.is rfl)) ?_
  obtain ⟨u2, r2, d2⟩ : um m (mu_si H 100 18 (nI l)) ∧ ur m C H (mu_si H 100 18 (nI l)) ∧ ud m (mu_si H 100 18 (nI l)) = (upI U 100 18 (nI l)) := h.sI (C := C) e rfl
  generalize (mu_si H 100 18 (nI l)) = Q2 at u2 r2 d2 ⊢
  have qf2 : uq F212 U (upI U 100 18 (nI l)) := (uq.refl F212 U).I rfl
  have ht2 : ur m C H Q2 := (ur.refl m C H).trans r2
  refine mw_go mu_g212 (k := 3) (f1 := (25, [(0, .inr (.inr (some 100)))], [], (mu_si Q2 100 21 (1 : Int32)))) (C := [mu_is Q2 (some 100) 5, (1 : Int32) = 0 ∨ (1 : Int32) = 1]) rfl (show (mu_is Q2 (some 100) 5) ∧ ((1 : Int32) = 0 ∨ (1 : Int32) = 1) from ⟨(u2.1.1.is rfl), Or.inr rfl⟩) ?_
  obtain ⟨u3, r3, d3⟩ : um m (mu_si Q2 100 21 (1 : Int32)) ∧ ur m C Q2 (mu_si Q2 100 21 (1 : Int32)) ∧ ud m (mu_si Q2 100 21 (1 : Int32)) = (upI (upI U 100 18 (nI l)) 100 21 (1 : Int32)) := u2.sI (C := C) d2 rfl
  generalize (mu_si Q2 100 21 (1 : Int32)) = Q3 at u3 r3 d3 ⊢
  have qf3 : uq F212 U (upI (upI U 100 18 (nI l)) 100 21 (1 : Int32)) := qf2.I rfl
  have ht3 : ur m C H Q3 := ht2.trans r3
  refine mw_go mu_g212 (k := 2) (f1 := (27, [(1, .inl (0 : Int32)), (0, .inr (.inr (some 100)))], [], Q3)) (C := []) rfl trivial ?_
  show mu_W _ _ (27, [(1, .inl (nI 0)), (0, .inr (.inr (some 100)))], [], Q3) _
  refine mw_sub (L' := [(1, .inl (nI 0)), (0, .inr (.inr (some 100)))]) (by simp) ?_
  refine mw_down (α := Nat × mu_H) (fun zs => (27, [(1, .inl (nI zs.1)), (0, .inr (.inr (some 100)))], [], zs.2)) (fun zs => 28 - zs.1) (fun zs => um m zs.2 ∧ ur m C H zs.2 ∧ (uq F212a (upI (upI U 100 18 (nI l)) 100 21 (1 : Int32)) (ud m zs.2)) ∧ (zs.1 ≤ 28) ∧ (sdi U (ud m zs.2) W l P S0 f mk sd wt at0 (fun q => q < zs.1))) (fun zs hza iha => ?_) (0, Q3) ⟨u3, ht3, (show uq F212a (upI (upI U 100 18 (nI l)) 100 21 (1 : Int32)) (ud m Q3) from by rw [d3]; exact uq.refl _ _), (show 0 ≤ 28 from (by omega)), (show sdi U (ud m Q3) W l P S0 f mk sd wt at0 (fun q => q < 0) from by rw [d3]; exact ⟨hsd, fun _ _ _ => rfl, fun q j hq hb ho hj => absurd ho (Nat.not_lt_zero _), fun s j _ _ => rfl⟩)⟩
  obtain ⟨k, Hsa⟩ := zs
  obtain ⟨ua, hta, da, hk, hi⟩ := hza
  have ua : um m Hsa := ua
  have hta : ur m C H Hsa := hta
  have zza : uq F212a (upI (upI U 100 18 (nI l)) 100 21 (1 : Int32)) (ud m Hsa) := da
  have hk : k ≤ 28 := hk
  have hi : sdi U (ud m Hsa) W l P S0 f mk sd wt at0 (fun q => q < k) := hi
  obtain ⟨Va, da⟩ : ∃ V, ud m Hsa = V := ⟨_, rfl⟩
  rw [da] at zza hi
  have qfa : uq F212 U Va := qf3.tr zza rfl
  show mu_W _ _ (27, [(1, .inl (nI k)), (0, .inr (.inr (some 100)))], [], Hsa) _
  refine mw_go mu_g212 (k := 2) (f1 := (30, [(1, .inl (nI k)), (0, .inr (.inr (some 100)))], [.inl (28 : Int32), .inl (nI k)], Hsa)) (C := []) rfl trivial ?_
  refine mw_if (P := (nI k) < (28 : Int32)) (a := 33) (b := 55) (fun _ => rfl) trivial (fun h4 => ?_) (fun h4 => ?_)
  · -- 33: (nI k) < (28 : Int32)
    have nh4 : k < 28 := (nI_ltI (by omega) (by omega)).mp (show nI k < nI 28 from h4)
    refine mw_go mu_g212 (k := 2) (f1 := (37, [(1, .inl (nI k)), (0, .inr (.inr (some 100)))], [.inl (mu_i Hsa 100 4)], Hsa)) (C := [mu_is Hsa (some 100) 5]) rfl (show mu_is Hsa (some 100) 5 from (ua.1.1.is rfl)) ?_
    rw [(show mu_i Hsa 100 4 = mk from (ud_i (U := Va) (m := m) (P := 100) (j := 4) da rfl).trans ((zza.i 100 4 rfl).trans hmk))]
    refine mw_go mu_g212 (k := 4) (f1 := (41, [(1, .inl (nI k)), (0, .inr (.inr (some 100)))], [.inl (((mk.toUInt32 >>> ((nI k).toUInt32 &&& Int32.toUInt32 31)).toInt32) &&& (1 : Int32))], Hsa)) (C := []) rfl trivial ?_
    refine mw_if (P := (((mk.toUInt32 >>> ((nI k).toUInt32 &&& Int32.toUInt32 31)).toInt32) &&& (1 : Int32)) = 0) (a := 49) (b := 44) (fun _ => rfl) trivial (fun h5 => ?_) (fun h5 => ?_)
    · -- 49: (((mk.toUInt32 >>> ((nI k).toUInt32 &&& Int32.toUInt32 31)).toInt32) &&& (1 : Int32)) = 0
      refine mw_go mu_g212 (k := 1) (f1 := (52, [(1, .inl ((nI k) + 1)), (0, .inr (.inr (some 100)))], [], Hsa)) (C := []) rfl trivial ?_
      rw [(show ((nI k) + 1) = (nI (k + 1)) from (nI_add k 1))]
      refine mw_go mu_g212 (k := 1) (f1 := (27, [(1, .inl (nI (k + 1))), (0, .inr (.inr (some 100)))], [], Hsa)) (C := []) rfl trivial ?_
      exact mw_sub (by simp) (iha (k + 1, Hsa) ⟨ua, hta, (show uq F212a (upI (upI U 100 18 (nI l)) 100 21 (1 : Int32)) (ud m Hsa) from by rw [da]; exact zza), (show (k + 1) ≤ 28 from (by omega)), (show sdi U (ud m Hsa) W l P S0 f mk sd wt at0 (fun q => q < (k + 1)) from by rw [da]; exact ⟨hi.1, hi.2.1, fun q j hq hb ho hj => hi.2.2.1 q j hq hb (by by_cases eq : q = k; exact absurd (by rw [eq]; exact h5) hb; omega) hj, hi.2.2.2⟩)⟩ (by show 28 - (k + 1) < 28 - k; omega))
    · -- 44: not (((mk.toUInt32 >>> ((nI k).toUInt32 &&& Int32.toUInt32 31)).toInt32) &&& (1 : Int32)) = 0
      refine mw_go mu_g212 (k := 2) (f1 := (46, [(1, .inl (nI k)), (0, .inr (.inr (some 100)))], [.inl (nI k), .inr (.inr (some 100))], Hsa)) (C := []) rfl trivial ?_
      have hsk := hi.1.2.1 k (by omega) (show ¬ mb mk k = 0 from h5)
      have hwk := hi.1.2.2.1 k (by omega)
      refine mw_cV (fun _ => rfl) (show mu_is Hsa (some 100) 5 from (ua.1.1.is rfl)) (mc_fillL (d := d) (C := C) (at0 := at0) (sl := sd k) (w := wt k) ua da (spx_keep hS (zza.i 99 4 rfl) (zza.i 99 10 rfl) (zza.i 99 11 rfl) (zza.i 99 12 rfl) (zza.a 99 5 rfl) (zza.a 99 7 rfl) (zza.a 99 6 rfl) (zza.n 99 8 rfl) (zza.n 99 18 rfl) (zza.r 100 0 rfl) (zza.r 99 0 rfl)) (show mx Va A W l from ⟨((zza.i 100 17 rfl).trans hW), (zza.i 100 18 rfl), hl1, hlW, hW2, by rw [(show (Va.2.2.1 100 8).1 = (U.2.2.1 100 8).1 from (zza.n 100 8 rfl))]; exact hA8, by rw [(show (Va.2.2.1 100 8).1 = (U.2.2.1 100 8).1 from (zza.n 100 8 rfl))]; exact c8, by rw [(show (Va.2.2.1 100 12).1 = (U.2.2.1 100 12).1 from (zza.n 100 12 rfl))]; exact hA12, by rw [(show (Va.2.2.1 100 12).1 = (U.2.2.1 100 12).1 from (zza.n 100 12 rfl))]; exact c12⟩) hsk.1 (by omega) hsk.2.1 (Nat.lt_of_lt_of_le hsk.2.2.1 hSA) hwk hsk.2.2.2.2 ((zza.i 100 19 rfl).trans hat) (by omega) hi.1.1 hsk.2.2.2.1) (fun Q6 q6 => ?_)
      obtain ⟨u6, r6, z6, fq⟩ := q6
      have ht6 : ur m C H Q6 := hta.trans r6
      obtain ⟨V6, d6⟩ : ∃ V, ud m Q6 = V := ⟨_, rfl⟩
      rw [d6] at z6 fq
      have qf6 : uq F212 U V6 := qfa.tr z6 rfl
      refine mw_go mu_g212 (k := 1) (f1 := (52, [(1, .inl ((nI k) + 1)), (0, .inr (.inr (some 100)))], [], Q6)) (C := []) rfl trivial ?_
      rw [(show ((nI k) + 1) = (nI (k + 1)) from (nI_add k 1))]
      refine mw_go mu_g212 (k := 1) (f1 := (27, [(1, .inl (nI (k + 1))), (0, .inr (.inr (some 100)))], [], Q6)) (C := []) rfl trivial ?_
      exact mw_sub (by simp) (iha (k + 1, Q6) ⟨u6, ht6, (show uq F212a (upI (upI U 100 18 (nI l)) 100 21 (1 : Int32)) (ud m Q6) from by rw [d6]; exact (zza.tr z6 rfl)), (show (k + 1) ≤ 28 from (by omega)), (show sdi U (ud m Q6) W l P S0 f mk sd wt at0 (fun q => q < (k + 1)) from by rw [d6]; exact (sdi_on (sdi_step hi hlW0 (by omega) (show ¬ mb mk k = 0 from h5) fq (z6.a 99 8 rfl) (show Va.2.2.1 99 8 = U.2.2.1 99 8 from (zza.a 99 8 rfl))) (fun q hq => by omega)))⟩ (by show 28 - (k + 1) < 28 - k; omega))
  · -- 55: not (nI k) < (28 : Int32)
    have nh4 : ¬ k < 28 := fun z => h4 (show nI k < nI 28 from (nI_ltI (by omega) (by omega)).mpr z)
    exact mw_of (fun _ => mu_ret rfl trivial ⟨Hsa, rfl, ua, hta, (by rw [da]; exact qfa), (by rw [da]; exact ⟨(zza.i 100 18 rfl), (zza.i 100 21 rfl), sdi_on hi (fun q hq => by omega)⟩)⟩)
end Sides
