/-! The reference: values are told, whatever they are -/
/-- PathProverModel.valueAt(II)I -/
abbrev mu_m432 : ev_M := (4, (some .int), [], ev_b432)
theorem mu_g432 : mu_good mu_m432 := mu_goodk ev_k432
/-- PathProverModel.wrap(I)I -/
abbrev mu_m437 : ev_M := (1, (some .int), [], ev_b437)
theorem mu_g437 : mu_good mu_m437 := mu_goodk ev_k437
/-- PathProverModel.truth(Z)I -/
abbrev mu_m438 : ev_M := (2, (some .int), [], ev_b438)
theorem mu_g438 : mu_good mu_m438 := mu_goodk ev_k438
section Sw
variable {run : Nat → List ev_V → List ev_C → Option ev_R} {M : ev_M}
theorem mw_swi {pc d0 i q : Nat} {dflt lo hi : Int} {offs : Array Int} {ts : List Nat} {L : mu_L} {S : List mu_V} {x : Int32} {H : mu_H} {Φ : mu_R → Prop} (hf : ev_find M.2.2.2 pc = some (.tableswitch dflt lo hi offs, d0 :: ts)) (hl : hi - lo < ts.length) (hq : ts[i]? = some q) (hx : x.toInt = lo + i) (hi2 : lo + i ≤ hi) (h : mu_W run M (q, L, S, H) Φ) : mu_W run M (pc, L, .inl x :: S, H) Φ :=
  fun L0 hs => mu_sw hf hl (fun z => absurd z (by omega)) (fun i' q' hq' hx' => by
    have e : i' = i := by omega
    subst e
    rw [hq] at hq'
    cases hq'
    exact h L0 hs)
theorem mw_swd {pc d0 : Nat} {dflt lo hi : Int} {offs : Array Int} {ts : List Nat} {L : mu_L} {S : List mu_V} {x : Int32} {H : mu_H} {Φ : mu_R → Prop} (hf : ev_find M.2.2.2 pc = some (.tableswitch dflt lo hi offs, d0 :: ts)) (hl : hi - lo < ts.length) (hn : lo + ts.length ≤ hi + 1) (hx : x.toInt < lo ∨ hi < x.toInt) (h : mu_W run M (d0, L, S, H) Φ) : mu_W run M (pc, L, .inl x :: S, H) Φ :=
  fun L0 hs => mu_sw hf hl (fun _ => h L0 hs) (fun i' q' hq' hx' => by
    have : i' < ts.length := (List.getElem?_eq_some_iff.mp hq').1
    omega)
end Sw
/-- nothing temporal; next of VARIABLES alone -/
def nxo (tr : Prop) (D : MD) (j : Nat) : Nat → Tre → Prop
  | 0, _ => False
  | l + 1, c => ¬ tkd c ∈ [41, 42, 43, 44, 45, 46, 47, 48] ∧ (tkd c = 33 → tr ∧ ∃ x, fno D j (tns c) = some x ∧ ¬ x.1 < 0) ∧ ∀ k, k < tsn c → nxo tr D j l (lkp c k)
/-- an expression whose value can be told -/
def vcw (tr : Prop) (D : MD) (j l : Nat) (c : Tre) : Prop := exw l c ∧ nmk D j c ∧ nxo tr D j l c
theorem vcw.p {tr : Prop} {D : MD} {j l k : Nat} {c : Tre} (h : vcw tr D j (l + 1) c) (hk : k < tsn c) : vcw tr D j l (lkp c k) := ⟨(h.1.lk hk).1, h.2.1.p h.1 hk, h.2.2.2.2 k hk⟩
/-- while values are told: rows here, there, kept, keptAt -/
def vsta (tr : Prop) (Hb : mu_H) (D : MD) (ph pt pk pa : Nat) (H : mu_H) : Prop := rms Hb D H ∧ (oar H D.G 30 100 ph (D.pr 1).length ∧ oar H D.G 31 100 pt (D.pr 1).length ∧ oar H D.G 40 100 pk (D.pr 0).length ∧ oar H D.G 41 102 pa (D.pr 0).length) ∧ (ph ≠ pk ∧ pt ≠ pk) ∧ (∀ v, v < (D.pr 1).length → ∃ k, k < hmn (typ D v) ∧ mu_i H ph v = nI k) ∧ (tr → ∀ v, v < (D.pr 1).length → ∃ k, k < hmn (typ D v) ∧ mu_i H pt v = nI k)
/-- what telling a value changes -/
def vfk (pk pa : Nat) (H H1 : mu_H) : Prop := rfr [19, 20, 21] [] (fun p => p = pk ∨ p = pa) 0 0 H H1
section Vst
variable {Hb H H1 H2 : mu_H} {D : MD} {ph pt pk pa s : Nat} {x : Int32} {y : Int64}
theorem vfk.rf : vfk pk pa H H := rfr.rf
theorem vfk.tr (h1 : vfk pk pa H H1) (h2 : vfk pk pa H1 H2) : vfk pk pa H H2 := rfr.tr h1 h2 (fun k z => z.elim id id) (fun k z => z.elim id id) (fun p _ z => z.elim id id)
theorem ffr.vk (h : ffr 0 H H1) : vfk pk pa H H1 := rfr.wk h (fun _ z => z) (fun _ z => z) (fun _ _ z => z.elim) (Nat.le_refl _) (Nat.le_refl _)
theorem vsta.ne {tr : Prop} (h : vsta tr Hb D ph pt pk pa H) : ph ≠ pa ∧ pt ≠ pa ∧ pk ≠ pa := by
  obtain ⟨_, ⟨a1, a2, a3, a4⟩, _⟩ := h
  refine ⟨fun e => ?_, fun e => ?_, fun e => ?_⟩
  · have z := a1.2.2.2.1; rw [e, a4.2.2.2.1] at z; exact absurd z (by decide)
  · have z := a2.2.2.2.1; rw [e, a4.2.2.2.1] at z; exact absurd z (by decide)
  · have z := a3.2.2.2.1; rw [e, a4.2.2.2.1] at z; exact absurd z (by decide)
theorem vsta.ff {tr : Prop} {a : Nat} (h : vsta tr Hb D ph pt pk pa H) (hf : ffr a H H1) : vsta tr Hb D ph pt pk pa H1 := by
  obtain ⟨h1, ⟨a1, a2, a3, a4⟩, h3, h4, h5⟩ := h
  have ci : ∀ p, p ∉ gndl → p < mu_z H → ∀ j, mu_i H1 p j = mu_i H p j := fun p hp hz j => hf.1.i (Or.inl hz) (fun z => z.elim (gndl9 hp) id) j
  exact ⟨hf.rms h1, ⟨a1.ff hf, a2.ff hf, a3.ff hf, a4.ff hf⟩, h3, fun v hv => by rw [ci ph a1.2.1.1 a1.2.1.2.1]; exact h4 v hv, fun tt v hv => by rw [ci pt a2.2.1.1 a2.2.1.2.1]; exact h5 tt v hv⟩
theorem vsta.wk {tr : Prop} (h : vsta tr Hb D ph pt pk pa H) : vsta tr Hb D ph pt pk pa (mu_si H pk s x) := by
  obtain ⟨h1, ⟨a1, a2, a3, a4⟩, h3, h4, h5⟩ := h
  exact ⟨h1.siW ⟨a3.2.2.1, a3.2.1.2.2, gndl9 a3.2.1.1⟩, ⟨a1, a2, a3, a4⟩, h3, fun v hv => by rw [mu_i_si, if_neg (fun z => h3.1 z.1)]; exact h4 v hv, fun tt v hv => by rw [mu_i_si, if_neg (fun z => h3.2 z.1)]; exact h5 tt v hv⟩
theorem rms.slW {p j : Nat} (h : rms Hb D H) (hp : ¬ D.G p ∧ p < 1000000 ∧ p ≠ 169) : rms Hb D (mu_sl H p j y) := h.fr (Fi := []) (Fr := []) (W := fun q => q = p) (a := 0) (b := 0) ⟨kep.sl (kep.rf) (Or.inl (Or.inr rfl)), fun k _ => rfl, fun _ _ => rfl, rfl⟩ (fun q e => by subst e; exact ⟨hp.1, hp.2.1⟩) (List.not_mem_nil) ⟨List.not_mem_nil, List.not_mem_nil⟩
theorem vsta.wa {tr : Prop} (h : vsta tr Hb D ph pt pk pa H) : vsta tr Hb D ph pt pk pa (mu_sl H pa s y) := by
  obtain ⟨h1, ⟨a1, a2, a3, a4⟩, h3, h4, h5⟩ := h
  exact ⟨h1.slW ⟨a4.2.2.1, a4.2.1.2.2, gndl9 a4.2.1.1⟩, ⟨a1, a2, a3, a4⟩, h3, h4, h5⟩
theorem vfk.wk (h : vfk pk pa H H1) (h9 : pk ≠ 169) : vfk pk pa H (mu_si H1 pk s x) := rfr.siW h ⟨Or.inl rfl, h9⟩
theorem vfk.wa (h : vfk pk pa H H1) : vfk pk pa H (mu_sl H1 pa s y) := ⟨h.1.sl (Or.inl (Or.inr (Or.inr rfl))), h.2⟩
end Vst
theorem rp_valueAt {Hb H : mu_H} {D : MD} {d v k : Nat} (hb : mdb D) (hy : mdy D) (hr : rms Hb D H) (hv : v < (D.pr 1).length) (hk : k < hmn (typ D v)) : mu_TI (mu_D (d + 4)) 432 [.inr (.inr (some 169)), .inl (nI v), .inl (nI k)] H (fun _ H1 => H1 = H) := by
  refine mu_meth (M := mu_m432) rfl rfl ?_
  refine mw_ht (mu_fn_of (show [0, 1, 2].Nodup by decide)) ?_
  have b4 := hb.2.2.1
  have ty := hy v hv
  obtain ⟨om1, ⟨om0_1, om1_1⟩, ol1, on1, oc1, oj1⟩ := hr.mod
  obtain ⟨⟨pa2, pb2, pc2⟩, ⟨pd2, pe2, pf2⟩, pg2, ph2, pi2⟩ := hr.row (k := 1) (by decide)
  obtain ⟨q, qr3, qn3⟩ := pf2 v hv
  obtain ⟨ra3, rb3, rc3, rd3⟩ := ar_at (i := v) pd2 (by decide) (by omega) (by omega)
  have re3 : mu_r H (D.loc 3) (nI v).toNatClampNeg = some q := by rw [rd3]; exact qr3
  obtain ⟨kd4, ⟨is4, nF4, lt4⟩, ⟨st4, sr4, sf4⟩, ⟨n2_4, n3_4, n7_4⟩, nm4, ar4, aq4, aF4, ai4, ⟨al4, am4, ax4⟩, ch4, dp4⟩ := nd.ra (c := (typ D v)) qn3 hr.2.1
  refine mw_go mu_g432 (k := 2) (f1 := (4, [(0, .inr (.inr (some 169))), (1, .inl (nI v)), (2, .inl (nI k))], [.inr (.inr (mu_r H 169 18))], H)) (C := [mu_is H (some 169) 1]) rfl (show mu_is H (some 169) 1 from hr.2.2.1.1) ?_
  refine mw_fr (f' := (4, [(0, .inr (.inr (some 169))), (1, .inl (nI v)), (2, .inl (nI k))], [.inr (.inr (some D.mp))], H)) (by first | (rw [hr.2.2.1.2]; done) | (rw [hr.2.2.1.2]; rfl)) ?_
  refine mw_go mu_g432 (k := 1) (f1 := (7, [(0, .inr (.inr (some 169))), (1, .inl (nI v)), (2, .inl (nI k))], [.inr (.inr (mu_r H D.mp 4))], H)) (C := [mu_is H (some D.mp) 16]) rfl (show mu_is H (some D.mp) 16 from om1) ?_
  refine mw_fr (f' := (7, [(0, .inr (.inr (some 169))), (1, .inl (nI v)), (2, .inl (nI k))], [.inr (.inr (some (D.loc 3)))], H)) (by first | (rw [(show mu_r H D.mp 4 = some (D.loc 3) from pa2)]; done) | (rw [(show mu_r H D.mp 4 = some (D.loc 3) from pa2)]; rfl)) ?_
  refine mw_go mu_g432 (k := 2) (f1 := (9, [(0, .inr (.inr (some 169))), (1, .inl (nI v)), (2, .inl (nI k))], [.inr (.inr (mu_r H (D.loc 3) (nI v).toNatClampNeg))], H)) (C := [mu_is H (some (D.loc 3)) (mu_k H (D.loc 3)), 103 ≤ mu_k H (D.loc 3) ∧ mu_k H (D.loc 3) ≤ 110 ∧ mu_k H (D.loc 3) ≠ 108, vp_in (nI v) (mu_n H (D.loc 3))]) rfl (show (mu_is H (some (D.loc 3)) (mu_k H (D.loc 3))) ∧ (103 ≤ mu_k H (D.loc 3) ∧ mu_k H (D.loc 3) ≤ 110 ∧ mu_k H (D.loc 3) ≠ 108) ∧ (vp_in (nI v) (mu_n H (D.loc 3))) from ⟨ra3, rb3, rc3⟩) ?_
  refine mw_fr (f' := (9, [(0, .inr (.inr (some 169))), (1, .inl (nI v)), (2, .inl (nI k))], [.inr (.inr (some q))], H)) (by first | (rw [re3]; done) | (rw [re3]; rfl)) ?_
  refine mw_go mu_g432 (k := 3) (f1 := (13, [(3, .inr (.inr (some q))), (0, .inr (.inr (some 169))), (1, .inl (nI v)), (2, .inl (nI k))], [.inr (.inr (some 1000039)), .inr (.inr (some q))], H)) (C := []) rfl trivial ?_
  refine mw_cIe (fun _ => rfl) (show mu_is H (some q) 18 from is4) (agr.isL (e := d) (j := 39) qn3 hr.2.1 (by decide)) ?_
  refine mw_if (P := (if tkd (typ D v) = 39 then 1 else 0) = 0) (a := 23) (b := 19) (fun _ => rfl) trivial (fun hi5 => ?_) (fun hi5 => ?_)
  · -- 23
    have ek5 : ¬ tkd (typ D v) = 39 := fun e => by rw [if_pos e] at hi5; exact absurd hi5 (by decide)
    refine mw_go mu_g432 (k := 2) (f1 := (27, [(3, .inr (.inr (some q))), (0, .inr (.inr (some 169))), (1, .inl (nI v)), (2, .inl (nI k))], [.inr (.inr (some 1000071)), .inr (.inr (some q))], H)) (C := []) rfl trivial ?_
    refine mw_cIe (fun _ => rfl) (show mu_is H (some q) 18 from is4) (agr.isL (e := d) (j := 71) qn3 hr.2.1 (by decide)) ?_
    refine mw_if (P := (if tkd (typ D v) = 71 then 1 else 0) = 0) (a := 47) (b := 33) (fun _ => rfl) trivial (fun hi6 => ?_) (fun hi6 => ?_)
    · -- 47
      have ek6 : ¬ tkd (typ D v) = 71 := fun e => by rw [if_pos e] at hi6; exact absurd hi6 (by decide)
      have kt : k < tsn (typ D v) := by
        have z := hk
        unfold hmn at z
        rw [if_neg ek5, if_neg ek6] at z
        exact z
      obtain ⟨y, yr7, yn7⟩ := ch4 k kt
      have yn7 : nd Hb D.G (D.lv - 1) y (tkk (typ D v) k) := yn7
      obtain ⟨b1_7, b2_7, b3_7, b4_7⟩ := ar_at ai4 (by decide) (Nat.lt_of_lt_of_le kt al4) (Nat.lt_of_le_of_lt ax4 (by decide))
      have y2_7 : mu_r H ar4 (nI k).toNatClampNeg = some y := by rw [b4_7]; exact yr7
      obtain ⟨kd8, ⟨is8, nF8, lt8⟩, ⟨st8, sr8, sf8⟩, ⟨n2_8, n3_8, n7_8⟩, nm8, ar8, aq8, aF8, ai8, ⟨al8, am8, ax8⟩, ch8, dp8⟩ := nd.ra (c := (tkk (typ D v) k)) yn7 hr.2.1
      refine mw_go mu_g432 (k := 2) (f1 := (51, [(3, .inr (.inr (some q))), (0, .inr (.inr (some 169))), (1, .inl (nI v)), (2, .inl (nI k))], [.inr (.inr (mu_r H q 1))], H)) (C := [mu_is H (some q) 18]) rfl (show mu_is H (some q) 18 from is4) ?_
      refine mw_fr (f' := (51, [(3, .inr (.inr (some q))), (0, .inr (.inr (some 169))), (1, .inl (nI v)), (2, .inl (nI k))], [.inr (.inr (some ar4))], H)) (by first | (rw [aq4]; done) | (rw [aq4]; rfl)) ?_
      refine mw_go mu_g432 (k := 2) (f1 := (53, [(3, .inr (.inr (some q))), (0, .inr (.inr (some 169))), (1, .inl (nI v)), (2, .inl (nI k))], [.inr (.inr (mu_r H ar4 (nI k).toNatClampNeg))], H)) (C := [mu_is H (some ar4) (mu_k H ar4), 103 ≤ mu_k H ar4 ∧ mu_k H ar4 ≤ 110 ∧ mu_k H ar4 ≠ 108, vp_in (nI k) (mu_n H ar4)]) rfl (show (mu_is H (some ar4) (mu_k H ar4)) ∧ (103 ≤ mu_k H ar4 ∧ mu_k H ar4 ≤ 110 ∧ mu_k H ar4 ≠ 108) ∧ (vp_in (nI k) (mu_n H ar4)) from ⟨b1_7, b2_7, b3_7⟩) ?_
      refine mw_fr (f' := (53, [(3, .inr (.inr (some q))), (0, .inr (.inr (some 169))), (1, .inl (nI v)), (2, .inl (nI k))], [.inr (.inr (some y))], H)) (by first | (rw [y2_7]; done) | (rw [y2_7]; rfl)) ?_
      refine mw_go mu_g432 (k := 1) (f1 := (56, [(3, .inr (.inr (some q))), (0, .inr (.inr (some 169))), (1, .inl (nI v)), (2, .inl (nI k))], [.inl (mu_i H y 3)], H)) (C := [mu_is H (some y) 18]) rfl (show mu_is H (some y) 18 from is8) ?_
      exact mw_of (fun _ => mu_ret rfl trivial ⟨_, _, rfl, rfl⟩)
    · -- 33
      have ek6 : tkd (typ D v) = 71 := Decidable.byContradiction (fun e => hi6 (if_neg e))
      obtain ⟨t1, t2, t3⟩ := ty.1.rng ek6
      obtain ⟨y, yr9, yn9⟩ := ch4 0 (show 0 < tsn (typ D v) by omega)
      have yn9 : nd Hb D.G (D.lv - 1) y (tkk (typ D v) 0) := yn9
      obtain ⟨b1_9, b2_9, b3_9, b4_9⟩ := ar_at ai4 (by decide) (Nat.lt_of_lt_of_le (show 0 < tsn (typ D v) by omega) al4) (Nat.lt_of_le_of_lt ax4 (by decide))
      have y2_9 : mu_r H ar4 (0 : Int32).toNatClampNeg = some y := yr9
      obtain ⟨kd10, ⟨is10, nF10, lt10⟩, ⟨st10, sr10, sf10⟩, ⟨n2_10, n3_10, n7_10⟩, nm10, ar10, aq10, aF10, ai10, ⟨al10, am10, ax10⟩, ch10, dp10⟩ := nd.ra (c := (tkk (typ D v) 0)) yn9 hr.2.1
      refine mw_go mu_g432 (k := 2) (f1 := (37, [(3, .inr (.inr (some q))), (0, .inr (.inr (some 169))), (1, .inl (nI v)), (2, .inl (nI k))], [.inr (.inr (mu_r H q 1))], H)) (C := [mu_is H (some q) 18]) rfl (show mu_is H (some q) 18 from is4) ?_
      refine mw_fr (f' := (37, [(3, .inr (.inr (some q))), (0, .inr (.inr (some 169))), (1, .inl (nI v)), (2, .inl (nI k))], [.inr (.inr (some ar4))], H)) (by first | (rw [aq4]; done) | (rw [aq4]; rfl)) ?_
      refine mw_go mu_g432 (k := 2) (f1 := (39, [(3, .inr (.inr (some q))), (0, .inr (.inr (some 169))), (1, .inl (nI v)), (2, .inl (nI k))], [.inr (.inr (mu_r H ar4 (0 : Int32).toNatClampNeg))], H)) (C := [mu_is H (some ar4) (mu_k H ar4), 103 ≤ mu_k H ar4 ∧ mu_k H ar4 ≤ 110 ∧ mu_k H ar4 ≠ 108, vp_in (0 : Int32) (mu_n H ar4)]) rfl (show (mu_is H (some ar4) (mu_k H ar4)) ∧ (103 ≤ mu_k H ar4 ∧ mu_k H ar4 ≤ 110 ∧ mu_k H ar4 ≠ 108) ∧ (vp_in (0 : Int32) (mu_n H ar4)) from ⟨b1_9, b2_9, b3_9⟩) ?_
      refine mw_fr (f' := (39, [(3, .inr (.inr (some q))), (0, .inr (.inr (some 169))), (1, .inl (nI v)), (2, .inl (nI k))], [.inr (.inr (some y))], H)) (by first | (rw [y2_9]; done) | (rw [y2_9]; rfl)) ?_
      refine mw_go mu_g432 (k := 4) (f1 := (56, [(3, .inr (.inr (some q))), (0, .inr (.inr (some 169))), (1, .inl (nI v)), (2, .inl (nI k))], [.inl ((mu_i H y 3) + (nI k))], H)) (C := [mu_is H (some y) 18]) rfl (show mu_is H (some y) 18 from is10) ?_
      exact mw_of (fun _ => mu_ret rfl trivial ⟨_, _, rfl, rfl⟩)
  · -- 19
    have ek5 : tkd (typ D v) = 39 := Decidable.byContradiction (fun e => hi5 (if_neg e))
    refine mw_go mu_g432 (k := 2) (f1 := (56, [(3, .inr (.inr (some q))), (0, .inr (.inr (some 169))), (1, .inl (nI v)), (2, .inl (nI k))], [.inl (nI k)], H)) (C := []) rfl trivial ?_
    exact mw_of (fun _ => mu_ret rfl trivial ⟨_, _, rfl, rfl⟩)
theorem rp_wrap {d : Nat} {x : Int32} {H : mu_H} : mu_TI (mu_D (d + 1)) 437 [.inl x] H (fun y H1 => y = x.toInt16.toInt32 ∧ H1 = H) := by
  refine mu_meth (M := mu_m437) rfl rfl ?_
  refine mw_ht (mu_fn_of (show [0].Nodup by decide)) ?_
  refine mw_go mu_g437 (k := 2) (f1 := (2, [(0, .inl x)], [.inl (x.toInt16.toInt32)], H)) (C := []) rfl trivial ?_
  exact mw_of (fun _ => mu_ret rfl trivial ⟨_, _, rfl, rfl, rfl⟩)
theorem rp_truth {d : Nat} {x : Int32} {H : mu_H} : mu_TI (mu_D (d + 1)) 438 [.inr (.inr (some 169)), .inl x] H (fun y H1 => y = (if x = 0 then 0 else 1) ∧ H1 = H) := by
  refine mu_meth (M := mu_m438) rfl rfl ?_
  refine mw_ht (mu_fn_of (show [0, 1].Nodup by decide)) ?_
  refine mw_go mu_g438 (k := 1) (f1 := (1, [(0, .inr (.inr (some 169))), (1, .inl x)], [.inl x], H)) (C := []) rfl trivial ?_
  refine mw_if (P := x = 0) (a := 8) (b := 4) (fun _ => rfl) trivial (fun h1 => ?_) (fun h1 => ?_)
  · -- 8
    refine mw_go mu_g438 (k := 1) (f1 := (9, [(0, .inr (.inr (some 169))), (1, .inl x)], [.inl (0 : Int32)], H)) (C := []) rfl trivial ?_
    exact mw_of (fun _ => mu_ret rfl trivial ⟨_, _, rfl, (if_pos h1).symm, rfl⟩)
  · -- 4
    refine mw_go mu_g438 (k := 2) (f1 := (9, [(0, .inr (.inr (some 169))), (1, .inl x)], [.inl (1 : Int32)], H)) (C := []) rfl trivial ?_
    exact mw_of (fun _ => mu_ret rfl trivial ⟨_, _, rfl, (if_neg h1).symm, rfl⟩)
