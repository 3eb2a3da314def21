/-! The reference: until, fairs, fairAt -/
theorem rp_un0 {tr : Prop} {Hb H0 : mu_H} {D : MD} {ph pt pk pa mm st f : Nat} (hb : mdb D) (hy : mdy D) (hmd : mdn D) (hNS : prd D (D.pr 1).length ≤ 16384) (hma : mda D) (hval : valk tr Hb D ph pt pk pa f) (hvw : mvw tr D) (hvt : valk True Hb D ph pt pk pa f) (hwt : mvw True D) {qp rp qq rq qo ro : Nat} : ∀ m_ s H, s + m_ = (prd D (D.pr 1).length) → sst tr Hb D ph pt pk pa mm st H → gos D st H → btk D ph pt pk st H qp rp → btk D ph pt pk st H qq rq → btk D ph pt pk st H qo ro → zfr D ph pt pk pa mm st (fun p => p = ro) H0 H → mu_W (mu_D (f + 913)) mu_m415 (3, [(4, .inl (nI s)), (3, .inr (.inr (some qo))), (2, .inr (.inr (some qq))), (1, .inr (.inr (some qp))), (0, .inr (.inr (some 169)))], [], H) (fun r => ∃ H1, r = (.inl none, H1) ∧ sst tr Hb D ph pt pk pa mm st H1 ∧ gos D st H1 ∧ zfr D ph pt pk pa mm st (fun p => p = ro) H0 H1)
  | 0, s, H, hm_, hs, hg, hp, hz, hq, hf => by
    refine mw_go mu_g415 (k := 3) (f1 := (9, [(4, .inl (nI s)), (3, .inr (.inr (some qo))), (2, .inr (.inr (some qq))), (1, .inr (.inr (some qp))), (0, .inr (.inr (some 169)))], [.inl (mu_i H 169 28), .inl (nI s)], H)) (C := [mu_is H (some 169) 1]) rfl (show mu_is H (some 169) 1 from hs.1.1.2.2.1.1) ?_
    refine mw_fr (f' := (9, [(4, .inl (nI s)), (3, .inr (.inr (some qo))), (2, .inr (.inr (some qq))), (1, .inr (.inr (some qp))), (0, .inr (.inr (some 169)))], [.inl (nI (prd D (D.pr 1).length)), .inl (nI s)], H)) (by first | (rw [hs.2.2.1.2]; done) | (rw [hs.2.2.1.2]; rfl)) ?_
    refine mw_if (P := (nI s) < (nI (prd D (D.pr 1).length))) (a := 12) (b := 50) (fun _ => rfl) trivial (fun h1 => absurd h1 (by rw [show s = (prd D (D.pr 1).length) by omega]; exact Int32.lt_irrefl)) (fun h1 => ?_)
    refine mw_go mu_g415 (k := 3) (f1 := (53, [(4, .inl (nI s)), (3, .inr (.inr (some qo))), (2, .inr (.inr (some qq))), (1, .inr (.inr (some qp))), (0, .inr (.inr (some 169)))], [.inr (.inr (some qo)), .inr (.inr (some qp)), .inr (.inr (some 169))], H)) (C := []) rfl trivial ?_
    refine mw_cV (fun _ => rfl) (show mu_is H (some 169) 1 from hs.1.1.2.2.1.1) (rp_growS hb hy hmd hNS hma hval hvw hvt hwt hs hg hp hq) (fun H7 q7 => ?_)
    obtain ⟨c1, c2, c3⟩ := q7
    exact mw_of (fun _ => mu_ret rfl trivial ⟨_, rfl, c1, c2, zfr.tr2 hf c3⟩)
  | m_ + 1, s, H, hm_, hs, hg, hp, hz, hq, hf => by
    have sl : s < (prd D (D.pr 1).length) := by omega
    have s14 : s < 16384 := by omega
    refine mw_go mu_g415 (k := 3) (f1 := (9, [(4, .inl (nI s)), (3, .inr (.inr (some qo))), (2, .inr (.inr (some qq))), (1, .inr (.inr (some qp))), (0, .inr (.inr (some 169)))], [.inl (mu_i H 169 28), .inl (nI s)], H)) (C := [mu_is H (some 169) 1]) rfl (show mu_is H (some 169) 1 from hs.1.1.2.2.1.1) ?_
    refine mw_fr (f' := (9, [(4, .inl (nI s)), (3, .inr (.inr (some qo))), (2, .inr (.inr (some qq))), (1, .inr (.inr (some qp))), (0, .inr (.inr (some 169)))], [.inl (nI (prd D (D.pr 1).length)), .inl (nI s)], H)) (by first | (rw [hs.2.2.1.2]; done) | (rw [hs.2.2.1.2]; rfl)) ?_
    refine mw_if (P := (nI s) < (nI (prd D (D.pr 1).length))) (a := 12) (b := 50) (fun _ => rfl) trivial (fun h1 => ?_) (fun h1 => absurd (nI_lt sl (by omega)) h1)
    refine mw_go mu_g415 (k := 4) (f1 := (18, [(4, .inl (nI s)), (3, .inr (.inr (some qo))), (2, .inr (.inr (some qq))), (1, .inr (.inr (some qp))), (0, .inr (.inr (some 169)))], [.inl (nI s), .inr (.inr (some qq)), .inl (nI s), .inr (.inr (some qo))], H)) (C := []) rfl trivial ?_
    refine mw_cIe (fun _ => rfl) (show mu_is H (some qq) 14 from hz.1.1) (rp_has (d := f + 912) hz.1 s14) ?_
    refine mw_if (P := (bI (bst H rq s)) = 0) (a := 40) (b := 24) (fun _ => rfl) trivial (fun h2 => ?_) (fun h2 => ?_)
    · -- 40
      refine mw_go mu_g415 (k := 1) (f1 := (41, [(4, .inl (nI s)), (3, .inr (.inr (some qo))), (2, .inr (.inr (some qq))), (1, .inr (.inr (some qp))), (0, .inr (.inr (some 169)))], [.inl (0 : Int32), .inl (nI s), .inr (.inr (some qo))], H)) (C := []) rfl trivial ?_
      refine mw_fr (f' := (41, [(4, .inl (nI s)), (3, .inr (.inr (some qo))), (2, .inr (.inr (some qq))), (1, .inr (.inr (some qp))), (0, .inr (.inr (some 169)))], [.inl (bI false), .inl (nI s), .inr (.inr (some qo))], H)) (rfl) ?_
      refine mw_cV (fun _ => rfl) (show mu_is H (some qo) 14 from hq.1.1) (rp_put (d := f + 911) (v := false) hq.1 s14) (fun H1 q1 => ?_)
      obtain ⟨d1_1, d2_1, d3_1⟩ := sst.put (R := (fun p => p = ro)) hs hg hq q1 rfl
      have hf1 := zfr.tr2 hf d3_1
      have hp_1 := d3_1.2.2.1 _ _ hp
      have hz_1 := d3_1.2.2.1 _ _ hz
      have hq_1 := d3_1.2.2.1 _ _ hq
      refine mw_go mu_g415 (k := 2) (f1 := (3, [(4, .inl ((nI s) + 1)), (3, .inr (.inr (some qo))), (2, .inr (.inr (some qq))), (1, .inr (.inr (some qp))), (0, .inr (.inr (some 169)))], [], H1)) (C := []) rfl trivial ?_
      refine mw_sub (L' := [(4, .inl (nI (s + 1))), (3, .inr (.inr (some qo))), (2, .inr (.inr (some qq))), (1, .inr (.inr (some qp))), (0, .inr (.inr (some 169)))]) (by intro x hx; simp only [List.mem_cons, List.not_mem_nil, or_false] at hx ⊢; rcases hx with rfl | rfl | rfl | rfl | rfl <;> first | (simp [nI_add, show (1 : Int32) = nI 1 from rfl]; done) | simp [nI]) ?_
      exact rp_un0 hb hy hmd hNS hma hval hvw hvt hwt m_ (s + 1) _ (by omega) d1_1 d2_1 hp_1 hz_1 hq_1 hf1
    · -- 24
      refine mw_go mu_g415 (k := 2) (f1 := (28, [(4, .inl (nI s)), (3, .inr (.inr (some qo))), (2, .inr (.inr (some qq))), (1, .inr (.inr (some qp))), (0, .inr (.inr (some 169)))], [.inr (.inr (mu_r H 169 34)), .inl (nI s), .inr (.inr (some qo))], H)) (C := [mu_is H (some 169) 1]) rfl (show mu_is H (some 169) 1 from hs.1.1.2.2.1.1) ?_
      refine mw_fr (f' := (28, [(4, .inl (nI s)), (3, .inr (.inr (some qo))), (2, .inr (.inr (some qq))), (1, .inr (.inr (some qp))), (0, .inr (.inr (some 169)))], [.inr (.inr (some 187)), .inl (nI s), .inr (.inr (some qo))], H)) (by first | (rw [(show mu_r H 169 34 = some 187 from (rgd_bt (k := 2) hs.2.2.1.1 (by decide)).1)]; done) | (rw [(show mu_r H 169 34 = some 187 from (rgd_bt (k := 2) hs.2.2.1.1 (by decide)).1)]; rfl)) ?_
      refine mw_go mu_g415 (k := 1) (f1 := (30, [(4, .inl (nI s)), (3, .inr (.inr (some qo))), (2, .inr (.inr (some qq))), (1, .inr (.inr (some qp))), (0, .inr (.inr (some 169)))], [.inl (nI s), .inr (.inr (some 187)), .inl (nI s), .inr (.inr (some qo))], H)) (C := []) rfl trivial ?_
      refine mw_cIe (fun _ => rfl) (show mu_is H (some 187) 14 from (rgd_bt (k := 2) hs.2.2.1.1 (by decide)).2.1) (rp_has (d := f + 912) (show btr H 187 188 from (rgd_bt (k := 2) hs.2.2.1.1 (by decide)).2) s14) ?_
      refine mw_if (P := (bI (bst H 188 s)) = 0) (a := 40) (b := 36) (fun _ => rfl) trivial (fun h3 => ?_) (fun h3 => ?_)
      · -- 40
        refine mw_go mu_g415 (k := 1) (f1 := (41, [(4, .inl (nI s)), (3, .inr (.inr (some qo))), (2, .inr (.inr (some qq))), (1, .inr (.inr (some qp))), (0, .inr (.inr (some 169)))], [.inl (0 : Int32), .inl (nI s), .inr (.inr (some qo))], H)) (C := []) rfl trivial ?_
        refine mw_fr (f' := (41, [(4, .inl (nI s)), (3, .inr (.inr (some qo))), (2, .inr (.inr (some qq))), (1, .inr (.inr (some qp))), (0, .inr (.inr (some 169)))], [.inl (bI false), .inl (nI s), .inr (.inr (some qo))], H)) (rfl) ?_
        refine mw_cV (fun _ => rfl) (show mu_is H (some qo) 14 from hq.1.1) (rp_put (d := f + 911) (v := false) hq.1 s14) (fun H2 q2 => ?_)
        obtain ⟨d1_2, d2_2, d3_2⟩ := sst.put (R := (fun p => p = ro)) hs hg hq q2 rfl
        have hf2 := zfr.tr2 hf d3_2
        have hp_2 := d3_2.2.2.1 _ _ hp
        have hz_2 := d3_2.2.2.1 _ _ hz
        have hq_2 := d3_2.2.2.1 _ _ hq
        refine mw_go mu_g415 (k := 2) (f1 := (3, [(4, .inl ((nI s) + 1)), (3, .inr (.inr (some qo))), (2, .inr (.inr (some qq))), (1, .inr (.inr (some qp))), (0, .inr (.inr (some 169)))], [], H2)) (C := []) rfl trivial ?_
        refine mw_sub (L' := [(4, .inl (nI (s + 1))), (3, .inr (.inr (some qo))), (2, .inr (.inr (some qq))), (1, .inr (.inr (some qp))), (0, .inr (.inr (some 169)))]) (by intro x hx; simp only [List.mem_cons, List.not_mem_nil, or_false] at hx ⊢; rcases hx with rfl | rfl | rfl | rfl | rfl <;> first | (simp [nI_add, show (1 : Int32) = nI 1 from rfl]; done) | simp [nI]) ?_
        exact rp_un0 hb hy hmd hNS hma hval hvw hvt hwt m_ (s + 1) _ (by omega) d1_2 d2_2 hp_2 hz_2 hq_2 hf2
      · -- 36
        refine mw_go mu_g415 (k := 2) (f1 := (41, [(4, .inl (nI s)), (3, .inr (.inr (some qo))), (2, .inr (.inr (some qq))), (1, .inr (.inr (some qp))), (0, .inr (.inr (some 169)))], [.inl (1 : Int32), .inl (nI s), .inr (.inr (some qo))], H)) (C := []) rfl trivial ?_
        refine mw_fr (f' := (41, [(4, .inl (nI s)), (3, .inr (.inr (some qo))), (2, .inr (.inr (some qq))), (1, .inr (.inr (some qp))), (0, .inr (.inr (some 169)))], [.inl (bI true), .inl (nI s), .inr (.inr (some qo))], H)) (rfl) ?_
        refine mw_cV (fun _ => rfl) (show mu_is H (some qo) 14 from hq.1.1) (rp_put (d := f + 911) (v := true) hq.1 s14) (fun H3 q3 => ?_)
        obtain ⟨d1_3, d2_3, d3_3⟩ := sst.put (R := (fun p => p = ro)) hs hg hq q3 rfl
        have hf3 := zfr.tr2 hf d3_3
        have hp_3 := d3_3.2.2.1 _ _ hp
        have hz_3 := d3_3.2.2.1 _ _ hz
        have hq_3 := d3_3.2.2.1 _ _ hq
        refine mw_go mu_g415 (k := 2) (f1 := (3, [(4, .inl ((nI s) + 1)), (3, .inr (.inr (some qo))), (2, .inr (.inr (some qq))), (1, .inr (.inr (some qp))), (0, .inr (.inr (some 169)))], [], H3)) (C := []) rfl trivial ?_
        refine mw_sub (L' := [(4, .inl (nI (s + 1))), (3, .inr (.inr (some qo))), (2, .inr (.inr (some qq))), (1, .inr (.inr (some qp))), (0, .inr (.inr (some 169)))]) (by intro x hx; simp only [List.mem_cons, List.not_mem_nil, or_false] at hx ⊢; rcases hx with rfl | rfl | rfl | rfl | rfl <;> first | (simp [nI_add, show (1 : Int32) = nI 1 from rfl]; done) | simp [nI]) ?_
        exact rp_un0 hb hy hmd hNS hma hval hvw hvt hwt m_ (s + 1) _ (by omega) d1_3 d2_3 hp_3 hz_3 hq_3 hf3
theorem rp_until {tr : Prop} {Hb H : mu_H} {D : MD} {ph pt pk pa mm st f : Nat} (hb : mdb D) (hy : mdy D) (hmd : mdn D) (hNS : prd D (D.pr 1).length ≤ 16384) (hma : mda D) (hval : valk tr Hb D ph pt pk pa f) (hvw : mvw tr D) (hvt : valk True Hb D ph pt pk pa f) (hwt : mvw True D) {qp rp qq rq qo ro : Nat} (hs : sst tr Hb D ph pt pk pa mm st H) (hg : gos D st H) (hp : btk D ph pt pk st H qp rp) (hz : btk D ph pt pk st H qq rq) (hq : btk D ph pt pk st H qo ro) : mu_TV (mu_D (f + 914)) 415 [.inr (.inr (some 169)), .inr (.inr (some qp)), .inr (.inr (some qq)), .inr (.inr (some qo))] H (fun H1 => sst tr Hb D ph pt pk pa mm st H1 ∧ gos D st H1 ∧ zfr D ph pt pk pa mm st (fun p => p = ro) H H1) := by
  refine mu_meth (M := mu_m415) rfl rfl ?_
  refine mw_ht (mu_fn_of (show [0, 1, 2, 3].Nodup by decide)) ?_
  refine mw_go mu_g415 (k := 2) (f1 := (3, [(4, .inl (0 : Int32)), (0, .inr (.inr (some 169))), (1, .inr (.inr (some qp))), (2, .inr (.inr (some qq))), (3, .inr (.inr (some qo)))], [], H)) (C := []) rfl trivial ?_
  refine mw_sub (L' := [(4, .inl (nI 0)), (3, .inr (.inr (some qo))), (2, .inr (.inr (some qq))), (1, .inr (.inr (some qp))), (0, .inr (.inr (some 169)))]) (by intro x hx; simp only [List.mem_cons, List.not_mem_nil, or_false] at hx ⊢; rcases hx with rfl | rfl | rfl | rfl | rfl <;> simp [nI]) ?_
  exact rp_un0 hb hy hmd hNS hma hval hvw hvt hwt (prd D (D.pr 1).length) 0 _ (Nat.zero_add _) hs hg hp hz hq zfr.rf
/-- how many FAIRNESS conditions are gone through -/
def frs (D : MD) : Nat := if (D.pr 3).length = 0 then 1 else (D.pr 3).length
theorem rp_fairs {Hb H : mu_H} {D : MD} {d : Nat} (h3 : (D.pr 3).length ≤ 4000) (hr : rms Hb D H) : mu_TI (mu_D (d + 1)) 419 [.inr (.inr (some 169))] H (fun x H1 => x = nI (frs D) ∧ H1 = H) := by
  refine mu_meth (M := mu_m419) rfl rfl ?_
  refine mw_ht (mu_fn_of (show [0].Nodup by decide)) ?_
  obtain ⟨om1, ⟨om0_1, om1_1⟩, ol1, on1, oc1, oj1⟩ := hr.mod
  obtain ⟨⟨pa2, pb2, pc2⟩, ⟨pd2, pe2, pf2⟩, pg2, ph2, pi2⟩ := hr.row (k := 3) (by decide)
  refine mw_go mu_g419 (k := 2) (f1 := (4, [(0, .inr (.inr (some 169)))], [.inr (.inr (mu_r H 169 18))], H)) (C := [mu_is H (some 169) 1]) rfl (show mu_is H (some 169) 1 from hr.2.2.1.1) ?_
  refine mw_fr (f' := (4, [(0, .inr (.inr (some 169)))], [.inr (.inr (some D.mp))], H)) (by first | (rw [hr.2.2.1.2]; done) | (rw [hr.2.2.1.2]; rfl)) ?_
  refine mw_go mu_g419 (k := 1) (f1 := (7, [(0, .inr (.inr (some 169)))], [.inl (mu_i H D.mp 15)], H)) (C := [mu_is H (some D.mp) 16]) rfl (show mu_is H (some D.mp) 16 from om1) ?_
  refine mw_fr (f' := (7, [(0, .inr (.inr (some 169)))], [.inl (nI (D.pr 3).length)], H)) (by first | (rw [(show mu_i H D.mp 15 = nI (D.pr 3).length from pc2)]; done) | (rw [(show mu_i H D.mp 15 = nI (D.pr 3).length from pc2)]; rfl)) ?_
  refine mw_if (P := (nI (D.pr 3).length) = 0) (a := 10) (b := 14) (fun _ => rfl) trivial (fun h1 => ?_) (fun h1 => ?_)
  · -- 10
    refine mw_go mu_g419 (k := 2) (f1 := (21, [(0, .inr (.inr (some 169)))], [.inl (1 : Int32)], H)) (C := []) rfl trivial ?_
    exact mw_of (fun _ => mu_ret rfl trivial ⟨_, _, rfl, by unfold frs; rw [if_pos (nI_is (j := 0) (x := (0 : Int32)) (by omega) h1 (by decide))]; rfl, rfl⟩)
  · -- 14
    refine mw_go mu_g419 (k := 2) (f1 := (18, [(0, .inr (.inr (some 169)))], [.inr (.inr (mu_r H 169 18))], H)) (C := [mu_is H (some 169) 1]) rfl (show mu_is H (some 169) 1 from hr.2.2.1.1) ?_
    refine mw_fr (f' := (18, [(0, .inr (.inr (some 169)))], [.inr (.inr (some D.mp))], H)) (by first | (rw [hr.2.2.1.2]; done) | (rw [hr.2.2.1.2]; rfl)) ?_
    refine mw_go mu_g419 (k := 1) (f1 := (21, [(0, .inr (.inr (some 169)))], [.inl (mu_i H D.mp 15)], H)) (C := [mu_is H (some D.mp) 16]) rfl (show mu_is H (some D.mp) 16 from om1) ?_
    refine mw_fr (f' := (21, [(0, .inr (.inr (some 169)))], [.inl (nI (D.pr 3).length)], H)) (by first | (rw [(show mu_i H D.mp 15 = nI (D.pr 3).length from pc2)]; done) | (rw [(show mu_i H D.mp 15 = nI (D.pr 3).length from pc2)]; rfl)) ?_
    exact mw_of (fun _ => mu_ret rfl trivial ⟨_, _, rfl, by unfold frs; rw [if_neg (fun z => h1 (by rw [z]; rfl))], rfl⟩)
theorem gos.dh {tr : Prop} {Hb H H1 : mu_H} {D : MD} {ph pt pk pa mm st : Nat} (h : gos D st H) (hs : sst tr Hb D ph pt pk pa mm st H) (hf : dfr ph H H1) : gos D st H1 := by
  have e := hf.1.2.1 45 (List.not_mem_nil)
  rcases h with ⟨g1, n, g2⟩ | g1
  · exact Or.inl ⟨e.trans g1, n, g2.dh hs hf⟩
  · exact Or.inr (e.trans g1)
theorem gos.tf {tr : Prop} {Hb H H1 : mu_H} {D : MD} {ph pt pk pa mm st : Nat} (h : gos D st H) (hs : sst tr Hb D ph pt pk pa mm st H) (hf : tff pt pk pa H H1) : gos D st H1 := by
  have e := hf.2.1 45 (by decide)
  rcases h with ⟨g1, n, g2⟩ | g1
  · exact Or.inl ⟨e.trans g1, n, g2.tf hs hf⟩
  · exact Or.inr (e.trans g1)
/-- FAIRNESS can be told -/
def mvf (tr : Prop) (D : MD) : Prop := (D.pr 3).length ≤ 4000 ∧ ∀ i, i < (D.pr 3).length → vcq tr D (pth2 (D.pr 3) i).2 (pth2 (D.pr 3) i).1
theorem rp_fairAt {tr : Prop} {Hb H : mu_H} {D : MD} {ph pt pk pa mm st f i s : Nat} (hb : mdb D) (hy : mdy D) (hmd : mdn D) (hval : valk tr Hb D ph pt pk pa f) (hfw : mvf tr D) (hs : sst tr Hb D ph pt pk pa mm st H) (hg : gos D st H) (hi : i < frs D) (hsl : s < 16384) : mu_TI (mu_D (f + 7)) 420 [.inr (.inr (some 169)), .inl (nI i), .inl (nI s)] H (fun x H1 => (x = 0 ∨ x = 1) ∧ sst tr Hb D ph pt pk pa mm st H1 ∧ gos D st H1 ∧ gfr D ph pt pk pa mm st H H1) := by
  refine mu_meth (M := mu_m420) rfl rfl ?_
  refine mw_ht (mu_fn_of (show [0, 1, 2].Nodup by decide)) ?_
  have f4 := hfw.1
  obtain ⟨om1, ⟨om0_1, om1_1⟩, ol1, on1, oc1, oj1⟩ := hs.1.1.mod
  obtain ⟨⟨pa2, pb2, pc2⟩, ⟨pd2, pe2, pf2⟩, pg2, ph2, pi2⟩ := hs.1.1.row (k := 3) (by decide)
  refine mw_go mu_g420 (k := 2) (f1 := (4, [(0, .inr (.inr (some 169))), (1, .inl (nI i)), (2, .inl (nI s))], [.inr (.inr (mu_r H 169 18))], H)) (C := [mu_is H (some 169) 1]) rfl (show mu_is H (some 169) 1 from hs.1.1.2.2.1.1) ?_
  refine mw_fr (f' := (4, [(0, .inr (.inr (some 169))), (1, .inl (nI i)), (2, .inl (nI s))], [.inr (.inr (some D.mp))], H)) (by first | (rw [hs.1.1.2.2.1.2]; done) | (rw [hs.1.1.2.2.1.2]; rfl)) ?_
  refine mw_go mu_g420 (k := 1) (f1 := (7, [(0, .inr (.inr (some 169))), (1, .inl (nI i)), (2, .inl (nI s))], [.inl (mu_i H D.mp 15)], H)) (C := [mu_is H (some D.mp) 16]) rfl (show mu_is H (some D.mp) 16 from om1) ?_
  refine mw_fr (f' := (7, [(0, .inr (.inr (some 169))), (1, .inl (nI i)), (2, .inl (nI s))], [.inl (nI (D.pr 3).length)], H)) (by first | (rw [(show mu_i H D.mp 15 = nI (D.pr 3).length from pc2)]; done) | (rw [(show mu_i H D.mp 15 = nI (D.pr 3).length from pc2)]; rfl)) ?_
  refine mw_if (P := (nI (D.pr 3).length) = 0) (a := 10) (b := 12) (fun _ => rfl) trivial (fun h1 => ?_) (fun h1 => ?_)
  · -- 10
    refine mw_go mu_g420 (k := 1) (f1 := (11, [(0, .inr (.inr (some 169))), (1, .inl (nI i)), (2, .inl (nI s))], [.inl (1 : Int32)], H)) (C := []) rfl trivial ?_
    exact mw_of (fun _ => mu_ret rfl (Or.inr rfl) ⟨_, _, rfl, Or.inr rfl, hs, hg, gfr.rf⟩)
  · -- 12
    have nz : ¬ (D.pr 3).length = 0 := fun z => h1 (by rw [z]; rfl)
    have il : i < (D.pr 3).length := by unfold frs at hi; rw [if_neg nz] at hi; exact hi
    refine mw_go mu_g420 (k := 2) (f1 := (14, [(0, .inr (.inr (some 169))), (1, .inl (nI i)), (2, .inl (nI s))], [.inl (nI s), .inr (.inr (some 169))], H)) (C := []) rfl trivial ?_
    refine mw_cV (fun _ => rfl) (show mu_is H (some 169) 1 from hs.1.1.2.2.1.1) (rp_enter (d := f) hb hy hmd (show s < 2147483648 by omega) (vsta.z hs.1 hs.2.2.2.2.1)) (fun H7 q7 => ?_)
    obtain ⟨e1, e2⟩ := q7
    obtain ⟨hs7, gf7⟩ := hs.dh e2 e1
    have hg7 := hg.dh hs e2
    obtain ⟨om3, ⟨om0_3, om1_3⟩, ol3, on3, oc3, oj3⟩ := hs7.1.1.mod
    obtain ⟨⟨pa4, pb4, pc4⟩, ⟨pd4, pe4, pf4⟩, pg4, ph4, pi4⟩ := hs7.1.1.row (k := 3) (by decide)
    obtain ⟨q, qr5, qn5⟩ := pf4 i il
    obtain ⟨ra5, rb5, rc5, rd5⟩ := ar_at (i := i) pd4 (by decide) (by omega) (by omega)
    have re5 : mu_r H7 (D.loc 7) (nI i).toNatClampNeg = some q := by rw [rd5]; exact qr5
    obtain ⟨sa5, sb5, sc5, sd5⟩ := ar_at (i := i) pg4 (by decide) (by omega) (by omega)
    have se5 : mu_r H7 (D.loc 8) (nI i).toNatClampNeg = some (D.ip (pth2 (D.pr 3) i).2) := by rw [sd5]; exact (pi4 i il).1
    have sj5 : (pth2 (D.pr 3) i).2 < D.n := (pi4 i il).2
    refine mw_go mu_g420 (k := 3) (f1 := (22, [(0, .inr (.inr (some 169))), (1, .inl (nI i)), (2, .inl (nI s))], [.inr (.inr (mu_r H7 169 18)), .inr (.inr (some 169))], H7)) (C := [mu_is H7 (some 169) 1]) rfl (show mu_is H7 (some 169) 1 from hs7.1.1.2.2.1.1) ?_
    refine mw_fr (f' := (22, [(0, .inr (.inr (some 169))), (1, .inl (nI i)), (2, .inl (nI s))], [.inr (.inr (some D.mp)), .inr (.inr (some 169))], H7)) (by first | (rw [hs7.1.1.2.2.1.2]; done) | (rw [hs7.1.1.2.2.1.2]; rfl)) ?_
    refine mw_go mu_g420 (k := 1) (f1 := (25, [(0, .inr (.inr (some 169))), (1, .inl (nI i)), (2, .inl (nI s))], [.inr (.inr (mu_r H7 D.mp 13)), .inr (.inr (some 169))], H7)) (C := [mu_is H7 (some D.mp) 16]) rfl (show mu_is H7 (some D.mp) 16 from om3) ?_
    refine mw_fr (f' := (25, [(0, .inr (.inr (some 169))), (1, .inl (nI i)), (2, .inl (nI s))], [.inr (.inr (some (D.loc 7))), .inr (.inr (some 169))], H7)) (by first | (rw [(show mu_r H7 D.mp 13 = some (D.loc 7) from pa4)]; done) | (rw [(show mu_r H7 D.mp 13 = some (D.loc 7) from pa4)]; rfl)) ?_
    refine mw_go mu_g420 (k := 2) (f1 := (27, [(0, .inr (.inr (some 169))), (1, .inl (nI i)), (2, .inl (nI s))], [.inr (.inr (mu_r H7 (D.loc 7) (nI i).toNatClampNeg)), .inr (.inr (some 169))], H7)) (C := [mu_is H7 (some (D.loc 7)) (mu_k H7 (D.loc 7)), 103 ≤ mu_k H7 (D.loc 7) ∧ mu_k H7 (D.loc 7) ≤ 110 ∧ mu_k H7 (D.loc 7) ≠ 108, vp_in (nI i) (mu_n H7 (D.loc 7))]) rfl (show (mu_is H7 (some (D.loc 7)) (mu_k H7 (D.loc 7))) ∧ (103 ≤ mu_k H7 (D.loc 7) ∧ mu_k H7 (D.loc 7) ≤ 110 ∧ mu_k H7 (D.loc 7) ≠ 108) ∧ (vp_in (nI i) (mu_n H7 (D.loc 7))) from ⟨ra5, rb5, rc5⟩) ?_
    refine mw_fr (f' := (27, [(0, .inr (.inr (some 169))), (1, .inl (nI i)), (2, .inl (nI s))], [.inr (.inr (some q)), .inr (.inr (some 169))], H7)) (by first | (rw [re5]; done) | (rw [re5]; rfl)) ?_
    refine mw_go mu_g420 (k := 2) (f1 := (31, [(0, .inr (.inr (some 169))), (1, .inl (nI i)), (2, .inl (nI s))], [.inr (.inr (mu_r H7 169 18)), .inr (.inr (some q)), .inr (.inr (some 169))], H7)) (C := [mu_is H7 (some 169) 1]) rfl (show mu_is H7 (some 169) 1 from hs7.1.1.2.2.1.1) ?_
    refine mw_fr (f' := (31, [(0, .inr (.inr (some 169))), (1, .inl (nI i)), (2, .inl (nI s))], [.inr (.inr (some D.mp)), .inr (.inr (some q)), .inr (.inr (some 169))], H7)) (by first | (rw [hs7.1.1.2.2.1.2]; done) | (rw [hs7.1.1.2.2.1.2]; rfl)) ?_
    refine mw_go mu_g420 (k := 1) (f1 := (34, [(0, .inr (.inr (some 169))), (1, .inl (nI i)), (2, .inl (nI s))], [.inr (.inr (mu_r H7 D.mp 14)), .inr (.inr (some q)), .inr (.inr (some 169))], H7)) (C := [mu_is H7 (some D.mp) 16]) rfl (show mu_is H7 (some D.mp) 16 from om3) ?_
    refine mw_fr (f' := (34, [(0, .inr (.inr (some 169))), (1, .inl (nI i)), (2, .inl (nI s))], [.inr (.inr (some (D.loc 8))), .inr (.inr (some q)), .inr (.inr (some 169))], H7)) (by first | (rw [(show mu_r H7 D.mp 14 = some (D.loc 8) from pb4)]; done) | (rw [(show mu_r H7 D.mp 14 = some (D.loc 8) from pb4)]; rfl)) ?_
    refine mw_go mu_g420 (k := 2) (f1 := (36, [(0, .inr (.inr (some 169))), (1, .inl (nI i)), (2, .inl (nI s))], [.inr (.inr (mu_r H7 (D.loc 8) (nI i).toNatClampNeg)), .inr (.inr (some q)), .inr (.inr (some 169))], H7)) (C := [mu_is H7 (some (D.loc 8)) (mu_k H7 (D.loc 8)), 103 ≤ mu_k H7 (D.loc 8) ∧ mu_k H7 (D.loc 8) ≤ 110 ∧ mu_k H7 (D.loc 8) ≠ 108, vp_in (nI i) (mu_n H7 (D.loc 8))]) rfl (show (mu_is H7 (some (D.loc 8)) (mu_k H7 (D.loc 8))) ∧ (103 ≤ mu_k H7 (D.loc 8) ∧ mu_k H7 (D.loc 8) ≤ 110 ∧ mu_k H7 (D.loc 8) ≠ 108) ∧ (vp_in (nI i) (mu_n H7 (D.loc 8))) from ⟨sa5, sb5, sc5⟩) ?_
    refine mw_fr (f' := (36, [(0, .inr (.inr (some 169))), (1, .inl (nI i)), (2, .inl (nI s))], [.inr (.inr (some (D.ip (pth2 (D.pr 3) i).2))), .inr (.inr (some q)), .inr (.inr (some 169))], H7)) (by first | (rw [se5]; done) | (rw [se5]; rfl)) ?_
    refine mw_cI (fun _ => rfl) (show mu_is H7 (some 169) 1 from hs7.1.1.2.2.1.1) (mu_TI.up (show f ≤ f + 6 by omega) (hval _ _ _ _ _ sj5 hs7.1 qn5 (hfw.2 i il))) (fun x6 H6 q6 => ?_)
    obtain ⟨e3, e4⟩ := q6
    obtain ⟨hw6, _⟩ := hs7.2.1.vk hs7.1 e4
    obtain ⟨hs6, gf6⟩ := hs7.tf (vfk.tf e4) e3 hw6
    have hg6 := hg7.tf hs7 (vfk.tf e4)
    have gg6 := gfr.tr2 gf7 gf6
    refine mw_go mu_g420 (k := 1) (f1 := (40, [(0, .inr (.inr (some 169))), (1, .inl (nI i)), (2, .inl (nI s))], [.inl (1 : Int32), .inl x6], H6)) (C := []) rfl trivial ?_
    refine mw_if (P := x6 = (1 : Int32)) (a := 43) (b := 47) (fun _ => rfl) trivial (fun h4 => ?_) (fun h4 => ?_)
    · -- 43
      refine mw_go mu_g420 (k := 2) (f1 := (48, [(0, .inr (.inr (some 169))), (1, .inl (nI i)), (2, .inl (nI s))], [.inl (1 : Int32)], H6)) (C := []) rfl trivial ?_
      exact mw_of (fun _ => mu_ret rfl (Or.inr rfl) ⟨_, _, rfl, Or.inr rfl, hs6, hg6, gg6⟩)
    · -- 47
      refine mw_go mu_g420 (k := 1) (f1 := (48, [(0, .inr (.inr (some 169))), (1, .inl (nI i)), (2, .inl (nI s))], [.inl (0 : Int32)], H6)) (C := []) rfl trivial ?_
      exact mw_of (fun _ => mu_ret rfl (Or.inl rfl) ⟨_, _, rfl, Or.inl rfl, hs6, hg6, gg6⟩)
