/-! The reference: row beside a search, always -/
/-- row(), beside a search -/
theorem rp_rowL {tr : Prop} {Hb H : mu_H} {D : MD} {ph pt pk pa mm st d k m : Nat} {rr : Nat → Nat × Nat} {R : Nat → Prop} (hs : sst tr Hb D ph pt pk pa mm st H) (hg : gos D st H) (hw : rwv D ph pt pk st H k m rr) (hk : k ≤ 256) (hz : mu_z H + 3 ≤ 1000000) : mu_TA (mu_D (d + 2)) 406 [.inr (.inr (some 169))] H (fun y H1 => ∃ m1 rr1, y = some (rr1 k).1 ∧ sst tr Hb D ph pt pk pa mm st H1 ∧ gos D st H1 ∧ rwv D ph pt pk st H1 (k + 1) m1 rr1 ∧ k < m1 ∧ lnt D ph pt pk pa mm st k m rr R H m1 rr1 H1 ∧ ∀ q r, btk D ph pt pk st H q r → btk D ph pt pk st H1 q r ∧ ∀ s, bst H1 r s = bst H r s) := by
  obtain ⟨rb, cap, w1, w2, w3⟩ := hw
  refine mu_MT.imp (rp_row hs.2.2.1.1.is w1 hk hz) (fun r0 hq0 => ?_)
  obtain ⟨y, H1, er, hq⟩ := hq0
  refine ⟨y, H1, er, ?_⟩
  obtain ⟨rb1, cap1, m1, rr1, e1, e2, e3, e4, e5⟩ := hq
  obtain ⟨s1, s2, s3, s4⟩ := hs.rw hg e2 w1.1.2.1 w2
  have hc : cap ≤ 512 := w1.2.2.1.2.2.1
  have hGz : ∀ p, D.G p → p < mu_z H := fun p hp => Nat.lt_of_lt_of_le (hs.1.1.2.1.2.2.2 p hp).2.1 hs.1.1.2.1.1.1
  have gz : 200 < mu_z H := hs.2.2.1.1.1
  obtain ⟨l1, l2, l3, l4⟩ : ph < mu_z H ∧ pt < mu_z H ∧ pk < mu_z H ∧ st < mu_z H := ⟨hs.1.2.1.1.2.1.2.1, hs.1.2.1.2.1.2.1.2.1, hs.1.2.1.2.2.1.2.1.2.1, hs.2.2.2.1.2.1.2.1⟩
  have zz : mu_z H1 ≤ mu_z H + 3 := e2.1.2.2.1.1
  rcases e5 with ⟨y1, y2, y3, y4⟩ | ⟨y1, y2, ⟨y3, y4⟩, y5⟩
  · subst y2
    subst y3
    refine ⟨m1, rr1, e1, s1, s2, ⟨rb1, cap1, e3, w2, fun i hi => ?_⟩, y1, ⟨⟨Nat.le_refl _, e4, fun i h1 h2 => absurd h2 (by omega)⟩, Or.inl (y4.2.2.1 51 (List.not_mem_nil)), y4.wk (fun k z => by simp only [List.mem_cons, List.not_mem_nil, or_false] at z ⊢; omega) (fun _ z => nomatch z) (fun p _ z => Or.inr (Or.inl (by rw [show p = rb1 from z]; exact w1.1.1))) (Nat.zero_le _) (Nat.zero_le _), s3, fun q r z => (s4 q r z).1⟩, s4⟩
    rw [e4 i hi]
    exact (s4 _ _ (w3 i hi)).1
  · have r1 : rb1 ∉ gndl ∧ rb1 < 1000000 ∧ ¬ D.G rb1 := by
      rcases y5 with y5 | y5
      · rw [y5]; exact w2
      · have : rb1 < mu_z H1 := e3.1.2.1.2.1
        exact ⟨fun z => by simp only [gndl, List.mem_cons, List.not_mem_nil, or_false] at z; omega, by omega, fun z => by have := hGz _ z; omega⟩
    refine ⟨m1, rr1, e1, s1, s2, ⟨rb1, cap1, e3, r1, fun i hi => ?_⟩, by omega, ⟨⟨by omega, e4, fun i h1 h2 => by rw [show i = m by omega]; exact y4⟩, ?_, e2.wk (fun k z => by simp only [List.mem_cons, List.not_mem_nil, or_false] at z ⊢; omega) (fun _ z => z) (fun p _ z => Or.inr (Or.inl (by rw [show p = rb from z]; exact w1.1.1))) (by omega) (by omega), s3, fun q r z => (s4 q r z).1⟩, s4⟩
    rotate_left
    · rcases y5 with y5 | y5
      · exact Or.inl (by rw [e3.1.1, y5, w1.1.1])
      · exact Or.inr ⟨rb1, e3.1.1, y5, r1.2.1⟩
    by_cases e : i < m
    · rw [e4 i e]
      exact (s4 _ _ (w3 i e)).1
    · have ei : i = m := by omega
      subst ei
      have bt := (e3.2.2.2.1 i hi).2
      have : (rr1 i).2 < mu_z H1 := bt.2.2.1.2.1
      exact ⟨bt, ⟨by omega, by omega, by omega, by omega, by omega, by omega⟩, ⟨by omega, fun z => by have := hGz _ z; omega⟩, by omega⟩
/-- a row is given back -/
theorem rwv.dec {tr : Prop} {Hb H : mu_H} {D : MD} {ph pt pk pa mm st k m : Nat} {rr : Nat → Nat × Nat} {R : Nat → Prop} (h : rwv D ph pt pk st H (k + 1) m rr) (hs : sst tr Hb D ph pt pk pa mm st H) (hg : gos D st H) : sst tr Hb D ph pt pk pa mm st (mu_si H 169 52 (nI k)) ∧ gos D st (mu_si H 169 52 (nI k)) ∧ rwv D ph pt pk st (mu_si H 169 52 (nI k)) k m rr ∧ lnt D ph pt pk pa mm st k m rr R H m rr (mu_si H 169 52 (nI k)) := by
  obtain ⟨rb, cap, ⟨w1, w2, w3, w4, w5, w6⟩, w9, w0⟩ := h
  have f0 : rfr [52] [51] (fun p => p = rb) 0 0 H (mu_si H 169 52 (nI k)) := rfr.si (rfr.rf) (by simp)
  have f1 : rfr [52] [] (lnw D ph pt pk pa mm st k m rr R H) 0 0 H (mu_si H 169 52 (nI k)) := rfr.si (rfr.rf) (by simp)
  obtain ⟨s1, s2, s3, s4⟩ := hs.rw hg f0 w1.2.1 w9
  exact ⟨s1, s2, ⟨rb, cap, ⟨w1, by rw [mu_i_si, if_pos ⟨rfl, rfl⟩], ⟨by omega, w3.2⟩, fun i hi => ⟨(w4 i hi).1, (s4 _ _ (w0 i hi)).1.1⟩, w5, w6⟩, w9, fun i hi => (s4 _ _ (w0 i hi)).1⟩, ⟨Nat.le_refl _, fun _ _ => rfl, fun i h1 h2 => absurd h2 (by omega)⟩, Or.inl rfl, f1.wk (fun k z => by simp only [List.mem_cons, List.not_mem_nil, or_false] at z ⊢; omega) (fun _ z => nomatch z) (fun _ _ z => z) (Nat.zero_le _) (Nat.zero_le _), s3, fun q r z => (s4 q r z).1⟩
theorem rp_awC {tr : Prop} {Hb H0 : mu_H} {D : MD} {ph pt pk pa mm st f : Nat} (hNS : prd D (D.pr 1).length ≤ 16384) {qp rp qo ro : Nat} {Φ : mu_R → Prop} (hnx : ∀ H, sst tr Hb D ph pt pk pa mm st H → gos D st H → btk D ph pt pk st H qp rp → btk D ph pt pk st H qo ro → zfr D ph pt pk pa mm st (fun p => p = ro) H0 H → mu_W (mu_D (f + 913)) mu_m416 (26, [(2, .inr (.inr (some qo))), (0, .inr (.inr (some 169)))], [], H) Φ) : ∀ m_ s H, s + m_ = (prd D (D.pr 1).length) → sst tr Hb D ph pt pk pa mm st H → gos D st H → btk D ph pt pk st H qp rp → btk D ph pt pk st H qo ro → zfr D ph pt pk pa mm st (fun p => p = ro) H0 H → mu_W (mu_D (f + 913)) mu_m416 (2, [(3, .inl (nI s)), (2, .inr (.inr (some qo))), (1, .inr (.inr (some qp))), (0, .inr (.inr (some 169)))], [], H) Φ
  | 0, s, H, hm_, hs, hg, hp, hq, hf => by
    refine mw_go mu_g416 (k := 3) (f1 := (7, [(3, .inl (nI s)), (2, .inr (.inr (some qo))), (1, .inr (.inr (some qp))), (0, .inr (.inr (some 169)))], [.inl (mu_i H 169 28), .inl (nI s)], H)) (C := [mu_is H (some 169) 1]) rfl (show mu_is H (some 169) 1 from hs.1.1.2.2.1.1) ?_
    refine mw_fr (f' := (7, [(3, .inl (nI s)), (2, .inr (.inr (some qo))), (1, .inr (.inr (some qp))), (0, .inr (.inr (some 169)))], [.inl (nI (prd D (D.pr 1).length)), .inl (nI s)], H)) (by first | (rw [hs.2.2.1.2]; done) | (rw [hs.2.2.1.2]; rfl)) ?_
    refine mw_if (P := (nI s) < (nI (prd D (D.pr 1).length))) (a := 10) (b := 26) (fun _ => rfl) trivial (fun h1 => absurd h1 (by rw [show s = (prd D (D.pr 1).length) by omega]; exact Int32.lt_irrefl)) (fun h1 => ?_)
    refine mw_sub (L' := [(2, .inr (.inr (some qo))), (0, .inr (.inr (some 169)))]) (by simp) ?_
    exact hnx _ hs hg hp hq hf
  | m_ + 1, s, H, hm_, hs, hg, hp, hq, hf => by
    have sl : s < (prd D (D.pr 1).length) := by omega
    have s14 : s < 16384 := by omega
    refine mw_go mu_g416 (k := 3) (f1 := (7, [(3, .inl (nI s)), (2, .inr (.inr (some qo))), (1, .inr (.inr (some qp))), (0, .inr (.inr (some 169)))], [.inl (mu_i H 169 28), .inl (nI s)], H)) (C := [mu_is H (some 169) 1]) rfl (show mu_is H (some 169) 1 from hs.1.1.2.2.1.1) ?_
    refine mw_fr (f' := (7, [(3, .inl (nI s)), (2, .inr (.inr (some qo))), (1, .inr (.inr (some qp))), (0, .inr (.inr (some 169)))], [.inl (nI (prd D (D.pr 1).length)), .inl (nI s)], H)) (by first | (rw [hs.2.2.1.2]; done) | (rw [hs.2.2.1.2]; rfl)) ?_
    refine mw_if (P := (nI s) < (nI (prd D (D.pr 1).length))) (a := 10) (b := 26) (fun _ => rfl) trivial (fun h1 => ?_) (fun h1 => absurd (nI_lt sl (by omega)) h1)
    refine mw_go mu_g416 (k := 4) (f1 := (14, [(3, .inl (nI s)), (2, .inr (.inr (some qo))), (1, .inr (.inr (some qp))), (0, .inr (.inr (some 169)))], [.inl (nI s), .inr (.inr (some qp)), .inl (nI s), .inr (.inr (some qo))], H)) (C := []) rfl trivial ?_
    refine mw_cIe (fun _ => rfl) (show mu_is H (some qp) 14 from hp.1.1) (rp_has (d := f + 912) hp.1 s14) ?_
    refine mw_cV (fun _ => rfl) (show mu_is H (some qo) 14 from hq.1.1) (rp_put (d := f + 911) (v := (bst H rp s)) hq.1 s14) (fun H1 q1 => ?_)
    obtain ⟨d1_1, d2_1, d3_1⟩ := sst.put (R := (fun p => p = ro)) hs hg hq q1 rfl
    have hf1 := zfr.tr2 hf d3_1
    have hp_1 := d3_1.2.2.1 _ _ hp
    have hq_1 := d3_1.2.2.1 _ _ hq
    refine mw_go mu_g416 (k := 2) (f1 := (2, [(3, .inl ((nI s) + 1)), (2, .inr (.inr (some qo))), (1, .inr (.inr (some qp))), (0, .inr (.inr (some 169)))], [], H1)) (C := []) rfl trivial ?_
    refine mw_sub (L' := [(3, .inl (nI (s + 1))), (2, .inr (.inr (some qo))), (1, .inr (.inr (some qp))), (0, .inr (.inr (some 169)))]) (by intro x hx; simp only [List.mem_cons, List.not_mem_nil, or_false] at hx ⊢; rcases hx with rfl | rfl | rfl | rfl <;> first | (simp [nI_add, show (1 : Int32) = nI 1 from rfl]; done) | simp [nI]) ?_
    exact rp_awC hNS hnx m_ (s + 1) _ (by omega) d1_1 d2_1 hp_1 hq_1 hf1
theorem rp_always {tr : Prop} {Hb H : mu_H} {D : MD} {ph pt pk pa mm st f : Nat} (hb : mdb D) (hy : mdy D) (hmd : mdn D) (hNS : prd D (D.pr 1).length ≤ 16384) (hma : mda D) (hval : valk tr Hb D ph pt pk pa f) (hvw : mvw tr D) (hvt : valk True Hb D ph pt pk pa f) (hwt : mvw True D) (hfw : mvf tr D) {qp rp qo ro k m : Nat} {rr : Nat → Nat × Nat} (hs : sst tr Hb D ph pt pk pa mm st H) (hg : gos D st H) (hp : btk D ph pt pk st H qp rp) (hq : btk D ph pt pk st H qo ro) (hw : rwv D ph pt pk st H k m rr) (hk : k ≤ 256) (hz : mu_z H + 3 ≤ 1000000) (hro : ∀ i, k ≤ i → i < m → ro ≠ (rr i).2) : mu_TV (mu_D (f + 914)) 416 [.inr (.inr (some 169)), .inr (.inr (some qp)), .inr (.inr (some qo))] H (fun H1 => ∃ m1 rr1, sst tr Hb D ph pt pk pa mm st H1 ∧ gos D st H1 ∧ rwv D ph pt pk st H1 k m1 rr1 ∧ lnt D ph pt pk pa mm st k m rr (fun p => p = ro) H m1 rr1 H1) := by
  refine mu_meth (M := mu_m416) rfl rfl ?_
  refine mw_ht (mu_fn_of (show [0, 1, 2].Nodup by decide)) ?_
  refine mw_go mu_g416 (k := 2) (f1 := (2, [(3, .inl (0 : Int32)), (0, .inr (.inr (some 169))), (1, .inr (.inr (some qp))), (2, .inr (.inr (some qo)))], [], H)) (C := []) rfl trivial ?_
  refine mw_sub (L' := [(3, .inl (nI 0)), (2, .inr (.inr (some qo))), (1, .inr (.inr (some qp))), (0, .inr (.inr (some 169)))]) (by intro x hx; simp only [List.mem_cons, List.not_mem_nil, or_false] at hx ⊢; rcases hx with rfl | rfl | rfl | rfl <;> simp [nI]) ?_
  refine rp_awC hNS (fun H2 s2 g2 p2 o2 f2 => ?_) (prd D (D.pr 1).length) 0 _ (Nat.zero_add _) hs hg hp hq zfr.rf
  have rk : ∀ p, p = ro → mu_k H p = 100 := fun p e => by rw [e]; exact hq.1.2.2.1.2.2
  have w2 := hw.zf f2 hs rk
  have z2 : mu_z H2 + 3 ≤ 1000000 := by have := f2.1.1.2.2.1.1; omega
  refine mw_go mu_g416 (k := 1) (f1 := (27, [(2, .inr (.inr (some qo))), (0, .inr (.inr (some 169)))], [.inr (.inr (some 169))], H2)) (C := []) rfl trivial ?_
  refine mw_cA (fun _ => rfl) (show mu_is H2 (some 169) 1 from s2.1.1.2.2.1.1) (rp_rowL (d := f + 911) (R := (fun p => p = ro)) s2 g2 w2 hk z2) (fun y3 H3 q3 => ?_)
  obtain ⟨m1, rr1, e3, s3, g3, w3, l3, t3, b3⟩ := q3
  subst e3
  have o3 := (b3 _ _ o2).1
  have G3 : btk D ph pt pk st H3 (rr1 k).1 (rr1 k).2 := by
    obtain ⟨_, _, _, _, w⟩ := w3
    exact w k l3
  have hne : ro ≠ (rr1 k).2 := fun e => by
    by_cases c : k < m
    · rw [t3.1.2.1 k c] at e; exact hro k (Nat.le_refl _) c e
    · have a1 := t3.1.2.2 k (by omega) l3
      have a2 : ro < mu_z H2 := o2.1.2.2.1.2.1
      omega
  refine mw_go mu_g416 (k := 3) (f1 := (34, [(4, .inl (1 : Int32)), (3, .inr (.inr (some (rr1 k).1))), (2, .inr (.inr (some qo))), (0, .inr (.inr (some 169)))], [], H3)) (C := []) rfl trivial ?_
  refine mw_sub (L' := [(4, .inl (1 : Int32)), (3, .inr (.inr (some (rr1 k).1))), (2, .inr (.inr (some qo))), (0, .inr (.inr (some 169)))]) (by simp) ?_
  refine rp_awW hb hy hmd hNS hma hval hvw hvt hwt hfw hne (fun H4 s4 g4 o4 G4 f4 => ?_) ((prd D (D.pr 1).length) + 1) _ (by omega) s3 g3 o3 G3 zfr.rf
  have rk3 : ∀ p, p = ro ∨ p = (rr1 k).2 → mu_k H3 p = 100 := fun p e => e.elim (fun e => by rw [e]; exact o3.1.2.2.1.2.2) (fun e => by rw [e]; exact G3.1.2.2.1.2.2)
  have w4 := w3.zf f4 s3 rk3
  obtain ⟨s5, g5, w5, t5⟩ := rwv.dec (R := (fun p => p = ro)) w4 s4 g4
  have i52 : mu_i H4 169 52 = nI (k + 1) := by
    obtain ⟨_, _, w, _, _⟩ := w4
    exact w.2.1
  have kd : nI (k + 1) - 1 = nI k := by rw [← nI_add, show nI 1 = (1 : Int32) from rfl, Int32.add_sub_cancel]
  refine mw_go mu_g416 (k := 3) (f1 := (173, [(0, .inr (.inr (some 169)))], [.inl (mu_i H4 169 52), .inr (.inr (some 169))], H4)) (C := [mu_is H4 (some 169) 1]) rfl (show mu_is H4 (some 169) 1 from s4.1.1.2.2.1.1) ?_
  refine mw_fr (f' := (173, [(0, .inr (.inr (some 169)))], [.inl (nI (k + 1)), .inr (.inr (some 169))], H4)) (by first | (rw [i52]; done) | (rw [i52]; rfl)) ?_
  refine mw_go mu_g416 (k := 2) (f1 := (175, [(0, .inr (.inr (some 169)))], [.inl ((nI (k + 1)) - (1 : Int32)), .inr (.inr (some 169))], H4)) (C := []) rfl trivial ?_
  refine mw_fr (f' := (175, [(0, .inr (.inr (some 169)))], [.inl (nI k), .inr (.inr (some 169))], H4)) (by first | (rw [kd]; done) | (rw [kd]; rfl)) ?_
  refine mw_go mu_g416 (k := 1) (f1 := (178, [(0, .inr (.inr (some 169)))], [], (mu_si H4 169 52 (nI k)))) (C := [mu_is H4 (some 169) 1]) rfl (show mu_is H4 (some 169) 1 from s4.1.1.2.2.1.1) ?_
  -- (mu_si H4 169 52 (nI k))
  have L1 : lnt D ph pt pk pa mm st k m rr (fun p => p = ro) H m rr H2 := zfr.lnt f2
  have L2 := lnt.tr2 L1 t3 (Nat.le_refl _) (fun p z => Or.inl z) (fun i hi => hw.lt i hi)
  have L3 : lnt D ph pt pk pa mm st k m1 rr1 _ H3 m1 rr1 H4 := zfr.lnt f4
  have L4 := lnt.tr2 L2 L3 (Nat.le_refl _) (fun p z => z.elim (fun e => Or.inl e) (fun e => Or.inr ⟨k, Nat.le_refl _, l3, e⟩)) (fun i hi => w3.lt i hi)
  have L5 := lnt.tr2 L4 t5 (Nat.le_refl _) (fun p z => Or.inl z) (fun i hi => w3.lt i hi)
  exact mw_of (fun _ => mu_ret rfl trivial ⟨_, rfl, m1, rr1, s5, g5, w5, L5⟩)
