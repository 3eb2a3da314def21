/-! GRAPH: visit, while a sweep is under way -/
section VisitSweep
variable {H : mu_H} {U V W : Ud} {m d T R wn ga gi gq ev nf en ps ls p nr xr ph N fb bf bt t0 : Nat} {C : Nat → Nat} {rx mb me pa pl pp ix lw cu ld rk : Nat → Nat} {RB : Nat → Nat → Prop} {A g0 St Gd : Nat → Prop} {FS : Nat → Nat → Bool}
theorem ite01 {P : Prop} [Decidable P] : (if P then 1 else 0 : Nat) ≤ 1 := by
  by_cases h : P
  · rw [if_pos h]; exact Nat.le_refl _
  · rw [if_neg h]; exact Nat.zero_le _
theorem cpt_cong {pa pa' cu cu' : Nat → Nat} : ∀ n, (∀ j, j < n → pa' j = pa j ∧ cu' (pa j) = cu (pa j)) → cpt pa' cu' T n = cpt pa cu T n
  | 0, _ => rfl
  | n + 1, h => by
    show cpt pa' cu' T n + (if cu' (pa' n) < T then 1 else 0) = cpt pa cu T n + (if cu (pa n) < T then 1 else 0)
    rw [cpt_cong n (fun j hj => h j (by omega)), (h n (by omega)).1, (h n (by omega)).2]
theorem word_zero {L L' : Nat → Int64} {i : Nat} (h : ∀ t, bts L' t = true → bts L t = true) (h0 : L i = 0) : L' i = 0 := by
  refine btz_ext (fun b hb => ?_)
  rw [btz_0]
  cases hx : btz (L' i) b
  · rfl
  · have y := h (64 * i + b)
    unfold bts at y
    rw [show (64 * i + b) / 64 = i by omega, show (64 * i + b) % 64 = b by omega, h0, btz_0] at y
    exact (y hx).symm
theorem SWS.inj (h : SWS U T R wn rx mb me ga gi gq RB A g0 ev nf FS en ps ls pa pl pp ix lw cu ld St Gd rk nr xr) {i j : Nat} (hi : i < ps) (hj : j < ps) (he : pa i = pa j) : i = j := by
  obtain ⟨-, -, -, p3⟩ := h.pile
  have q := h.2.2.2.2.2.2.1
  have e := p3 (pp i) (pp j) (q.1 i hi).1 (q.1 j hj).1 (by rw [(q.1 i hi).2, (q.1 j hj).2, he])
  rcases Nat.lt_or_ge i j with y | y
  · have := q.2.1 i j y hj
    omega
  · rcases Nat.lt_or_ge j i with z | z
    · have := q.2.1 j i z hi
      omega
    · omega
def F310 : Uf := ⟨[], [(147, 14), (147, 15), (147, 16), (147, 17), (147, 18), (147, 20), (147, 21), (147, 22)], [(147, 10), (147, 12)], [], [150, 152, 151, 148, 162], true⟩
def F310c : Uf := ⟨[], [(147, 14), (147, 15)], [(147, 10)], [], [], false⟩
def F310n : Uf := ⟨[], [(147, 14), (147, 15), (147, 16), (147, 17), (147, 18), (147, 20), (147, 21), (147, 22)], [(147, 10), (147, 12)], [], [150, 152, 151], false⟩
theorem SWJ.up {ph' : Nat} (h : SWJ V T R wn rx mb me ga gi gq RB A g0 ev nf FS ph) (hp : ph ≤ ph') : SWJ V T R wn rx mb me ga gi gq RB A g0 ev nf FS ph' := by
  rcases h with ⟨h1, en, ps, ls, pa, pl, pp, ix, lw, cu, ld, St, Gd, rk, nr, xr, h2, h3, h4, h5⟩ | ⟨h1, en, p, ls, pa, pl, pp, ix, lw, cu, ld, St, Gd, rk, nr, h2, h3, h4, h5⟩ | ⟨en, p, ls, pa, pl, pp, ix, lw, cu, ld, St, Gd, rk, nr, h1, h2, h3, h4, hd, c, tl, qu, h5, h6, h7, h8, h9, h10, h11, h12⟩
  · exact Or.inl ⟨h1, en, ps, ls, pa, pl, pp, ix, lw, cu, ld, St, Gd, rk, nr, xr, h2, h3, by omega, h5⟩
  · exact Or.inr (Or.inl ⟨h1, en, p, ls, pa, pl, pp, ix, lw, cu, ld, St, Gd, rk, nr, h2, h3, by omega, h5⟩)
  · exact Or.inr (Or.inr ⟨en, p, ls, pa, pl, pp, ix, lw, cu, ld, St, Gd, rk, nr, h1, h2, h3, h4, hd, c, tl, qu, h5, h6, h7, h8, h9, h10, h11, by omega⟩)
/-- PathProver$Graph.visit()V -/
abbrev mu_m310 : ev_M := (1, none, [], ev_b310)
theorem mu_g310 : mu_good mu_m310 := mu_goodk ev_k310
theorem gr_visit2 (h : um m H) (e : ud m H = U) (hN : U.2.1 113 2 = nI N) (hfb : U.2.1 113 8 = nI fb) (hfN : fb ≤ N) (hR : R = N - fb) (hjob : U.2.1 147 14 = 2) (hS : SWS U T R wn rx mb me ga gi gq RB A g0 ev nf FS en ps ls pa pl pp ix lw cu ld St Gd rk nr xr) (hC : CUR U wn) (hph : 8 * (R - en) + 2 * cpt pa cu T ps + 2 * ls ≤ ph) (ht0 : t0 < T) (hu0 : bts (U.2.2.2.2.1 150) t0 = true) (hwa : U.2.1 147 15 = nI (rx t0)) (hed : ∀ j, j + 1 = ps → RT (EDG RB A rx) (pa j) (rx t0)) (hxr : ∀ t, t < T → bts (U.2.2.2.2.1 150) t = true → rx t = xr → rx t = rx t0) (hrow : ROW U RB (rx t0) bf bt) : mu_TV (mu_D (d + 8)) 310 [.inr (.inr (some 147))] H (fun H1 => um m H1 ∧ ur m C H H1 ∧ uq F310 U (ud m H1) ∧ GKP ga gi U (ud m H1) ∧ 1 ≤ ph ∧ SWJ (ud m H1) T R wn rx mb me ga gi gq RB A g0 ev nf FS (ph - 1)) := by
  obtain ⟨⟨b1, b2, b3⟩, p1, p2, p3⟩ := hS.pile
  obtain ⟨⟨hG, hgl, hgo, hF⟩, ⟨hs20, hs21, hs22, hs9, hev1⟩, ⟨hA, hAT, hRBT, hg0T, hT150⟩, hCEL, hTJ⟩ := id hS
  have hTT : T ≤ 16384 := hG.1.2.2
  refine mu_meth (M := mu_m310) rfl rfl ?_
  refine mw_ht (mu_fn_of (show [0].Nodup by decide)) ?_
  refine mw_go mu_g310 (k := 2) (f1 := (4, [(0, .inr (.inr (some 147)))], [.inl (mu_i H 147 14)], H)) (C := [mu_is H (some 147) 2]) rfl (show mu_is H (some 147) 2 from (h.1.1.is rfl)) ?_
  rw [(show mu_i H 147 14 = (2 : Int32) from (ud_i (U := U) (m := m) (P := 147) (j := 14) e rfl).trans hjob)]
  refine mw_tsw2 rfl (by decide) (fun hx => absurd hx (by decide)) ⟨(fun z => absurd z (by decide)), (fun z => absurd z (by decide)), fun _ => ?_, (fun z => absurd z (by decide)), (fun z => absurd z (by decide)), trivial⟩
  refine mw_go mu_g310 (k := 3) (f1 := (59, [(0, .inr (.inr (some 147)))], [.inl (mu_i H 147 15), .inr (.inr (some 147))], H)) (C := [mu_is H (some 147) 2]) rfl (show mu_is H (some 147) 2 from (h.1.1.is rfl)) ?_
  rw [(show mu_i H 147 15 = (nI (rx t0)) from (ud_i (U := U) (m := m) (P := 147) (j := 15) e rfl).trans hwa)]
  have hrR : rx t0 < R := (hG.2.1.2 t0 ht0).2
  have hrn : ∀ i, i < ls → ¬ pl i = rx t0 := fun i hi z => ((hTJ.1.2.1 t0).mp ⟨ht0, hu0⟩).2.2 ⟨i, hi, z⟩
  have hmono : ∀ i, i < ls → ix (pl 0) ≤ ix (pl i) := fun i hi => by
    rcases Nat.eq_zero_or_pos i with y | y
    · rw [y]; exact Nat.le_refl _
    · exact Nat.le_of_lt (hTJ.2.1.2 0 i y hi)
  have hpi0 : ∀ t, t < T → (bts (U.2.2.2.2.1 151) t = true ↔ bts (U.2.2.2.2.1 153) t = true ∧ ∃ i, i < ls ∧ pl i = rx t) := fun t ht => by
    have y := hTJ.1.1 t
    constructor
    · intro z; have w := y.mp ⟨ht, z⟩; exact ⟨(hA t ht).mpr w.1, w.2⟩
    · intro z; exact (y.mpr ⟨(hA t ht).mp z.1, z.2⟩).2
  refine mw_cV (fun _ => rfl) (show mu_is H (some 147) 2 from (h.1.1.is rfl)) (gr_enter (d := (d + 3)) (C := C) (T := T) (R := R) (bf := bf) (bt := bt) (en := en) (ps := ps) (ls := ls) (r := rx t0) (pl := pl) (ix := ix) h e hG hrow.1 hgl hgo hs22 hs20 hs21 b1 b2 b3 hrR p1 p2 hmono hrn hpi0 (fun s hs y => hRBT _ s ((hrow.2 s hs).mp y))) (fun Q1 q1 => ?_)
  obtain ⟨u1, r1, z1, he22, he20, he21, lo, ldv, hece, heun, hepi, held, hel1, hel2, helo, hemin, heat⟩ := q1
  have ht1 : ur m C H Q1 := (ur.refl m C H).trans r1
  obtain ⟨V1, d1⟩ : ∃ V, ud m Q1 = V := ⟨_, rfl⟩
  rw [d1] at z1 he22 he20 he21 hece heun hepi hemin heat
  have hS1 := hS.enter (xr2 := R) hxr hrow ht0 hu0 rfl hed z1 he22 he20 he21 hece heun hepi held hel1 hel2 helo hemin heat
  obtain ⟨PA, hPA⟩ : ∃ y, y = (fun j => if j = ps then rx t0 else pa j) := ⟨_, rfl⟩
  obtain ⟨CU, hCU⟩ : ∃ y, y = (fun x => if x = rx t0 then 0 else cu x) := ⟨_, rfl⟩
  rw [← hPA, ← hCU] at hS1
  have PAo : ∀ j, j < ps → PA j = pa j := fun j hj => by rw [hPA]; exact if_neg (by omega)
  have PAn : PA ps = rx t0 := by rw [hPA]; exact if_pos rfl
  have CUo : ∀ x, ¬ x = rx t0 → CU x = cu x := fun x hx => by rw [hCU]; exact if_neg hx
  have CUn : CU (rx t0) = 0 := by rw [hCU]; exact if_pos rfl
  clear hPA hCU
  replace hel1 := HID.mk hel1
  replace hel2 := HID.mk hel2
  replace heat := HID.mk heat
  have hC1 : CUR V1 wn := by
    obtain ⟨c, c1, c2, c3⟩ := hC
    exact ⟨c, (z1.i 147 16 rfl).trans c1, c2, fun i hi => word_zero heun.2 (c3 i hi)⟩
  have hrow1 : ROW V1 RB (rx t0) bf bt := hrow.keep z1 rfl rfl rfl
  have hw1 : V1.2.1 147 15 = nI (rx t0) := (z1.i 147 15 rfl).trans hwa
  refine mw_go mu_g310 (k := 3) (f1 := (67, [(0, .inr (.inr (some 147)))], [.inl (mu_i Q1 147 15), .inr (.inr (some 147))], Q1)) (C := [mu_is Q1 (some 147) 2]) rfl (show mu_is Q1 (some 147) 2 from (u1.1.1.is rfl)) ?_
  rw [(show mu_i Q1 147 15 = (nI (rx t0)) from (ud_i (U := V1) (m := m) (P := 147) (j := 15) d1 rfl).trans hw1)]
  obtain ⟨⟨k1, k2, k3, k4⟩, k5, ⟨k6a, k6b, k6c, k6d, k6e⟩, ⟨k7, k8, k9, k10⟩, k11⟩ := hS1.top
  rw [PAn, CUn] at k6d
  have hG1 := hS1.1.1
  refine mw_cV (fun _ => rfl) (show mu_is Q1 (some 147) 2 from (u1.1.1.is rfl)) (gr_descend (d := (d + 3)) (C := C) (T := T) (R := R) (bf := bf) (bt := bt) (r := rx t0) (cr := 0) u1 d1 hG1 hrow1.1 hrR k6d (Nat.zero_le _) (fun s hs y => hRBT _ s ((hrow1.2 s hs).mp y))) (fun Q2 q2 => ?_)
  obtain ⟨u2, r2, hda⟩ := q2
  have ht2 : ur m C H Q2 := ht1.trans r2
  rcases hda with ⟨hdn, d2⟩ | ⟨t, htT, hct, hbt, hft, c2, hc2, hlt, d2⟩
  · -- descend 0
    have hS2 := hS1.cursor (xr2 := R) (c2 := T) (fun t ht _ hx => absurd (hG.2.1.2 t ht).2 (by omega)) (Nat.le_refl _) (fun t ht hb hu => absurd (show BUN V1 t = true from by unfold BUN; rw [(hrow1.2 t (by omega)).mpr (by rw [PAn] at hb; exact hb), hu]; rfl) (hdn t (Nat.zero_le _) (by omega)))
    rw [PAn] at hS2
    have hrm := hS2.2.2.2.2.room
    have hS3 := hS2.keep (V := (upI (upA V1 147 10 ((rx t0) * 7 + 3) (nI T)) 147 14 (5 : Int32))) (F := F321) ((uq.refl _ _).I rfl) rfl (fun _ => rfl) (fun _ => rfl)
    have hcp : cpt PA (fun x => if x = rx t0 then T else CU x) T (ps + 1) = cpt pa cu T ps := by
      show cpt PA _ T ps + (if (if PA ps = rx t0 then T else CU (PA ps)) < T then 1 else 0) = _
      rw [if_pos PAn, if_neg (Nat.lt_irrefl T), Nat.add_zero]
      refine cpt_cong ps (fun j hj => ⟨PAo j hj, ?_⟩)
      have hne : ¬ pa j = rx t0 := fun z => hrn (pp j) (hTJ.2.2.1.1 j hj).1 ((hTJ.2.2.1.1 j hj).2.trans z)
      show (if pa j = rx t0 then T else CU (pa j)) = cu (pa j)
      rw [if_neg hne, CUo _ hne]
    have hXc : SWX (upI (upA V1 147 10 ((rx t0) * 7 + 3) (nI T)) 147 14 (5 : Int32)) T R wn rx mb me ga gi gq RB A g0 ev nf FS R (ph - 2) := ⟨en + 1, ps + 1, ls + 1, _, _, _, _, _, _, _, _, _, _, _, hS3, hC1.keep (F := F310c) (((uq.refl _ _).A rfl).I rfl) rfl rfl, by omega, by rw [hcp]; omega⟩
    refine mw_go mu_g310 (k := 3) (f1 := (100, [(0, .inr (.inr (some 147)))], [.inl (mu_i Q2 147 14)], Q2)) (C := [mu_is Q2 (some 147) 2]) rfl (show mu_is Q2 (some 147) 2 from (u2.1.1.is rfl)) ?_
    rw [(show mu_i Q2 147 14 = (5 : Int32) from (ud_i (U := (upI (upA V1 147 10 ((rx t0) * 7 + 3) (nI T)) 147 14 (5 : Int32))) (m := m) (P := 147) (j := 14) d2 rfl))]
    refine mw_go mu_g310 (k := 1) (f1 := (101, [(0, .inr (.inr (some 147)))], [.inl (5 : Int32), .inl (5 : Int32)], Q2)) (C := []) rfl trivial ?_
    refine mw_if (P := (5 : Int32) = (5 : Int32)) (a := 104) (b := 108) (fun _ => rfl) trivial (fun h3 => ?_) (fun h3 => absurd (by decide) h3)
    refine mw_go mu_g310 (k := 1) (f1 := (105, [(0, .inr (.inr (some 147)))], [.inr (.inr (some 147))], Q2)) (C := []) rfl trivial ?_
    refine mw_cV (fun _ => rfl) (show mu_is Q2 (some 147) 2 from (u2.1.1.is rfl)) (gr_climb (d := d) (C := C) (N := N) (fb := fb) (ph := ph - 2) u2 d2 ((show ((upI (upA V1 147 10 ((rx t0) * 7 + 3) (nI T)) 147 14 (5 : Int32)).2.1 113 2) = (U.2.1 113 2) from (z1.i 113 2 rfl)).trans hN) ((show ((upI (upA V1 147 10 ((rx t0) * 7 + 3) (nI T)) 147 14 (5 : Int32)).2.1 113 8) = (U.2.1 113 8) from (z1.i 113 8 rfl)).trans hfb) hfN hR (by have := hG.2.2.1.1; omega) hXc) (fun Q4 q4 => ?_)
    obtain ⟨u4, r4, z4, hgkb, hJ⟩ := q4
    have ht4 : ur m C H Q4 := ht2.trans r4
    have hJ : SWJ (ud m Q4) T R wn rx mb me ga gi gq RB A g0 ev nf FS (ph - 1) := hJ.up (by omega)
    have hqz : uq F310 U (upI (upA V1 147 10 ((rx t0) * 7 + 3) (nI T)) 147 14 (5 : Int32)) := (show uq F310 U (upI (upA V1 147 10 ((rx t0) * 7 + 3) (nI T)) 147 14 (5 : Int32)) from ((((uq.refl F310 U).tr z1 rfl).A rfl).I rfl))
    have hgz : GKP ga gi U (upI (upA V1 147 10 ((rx t0) * 7 + 3) (nI T)) 147 14 (5 : Int32)) := gkp_q (show uq F310n U (upI (upA V1 147 10 ((rx t0) * 7 + 3) (nI T)) 147 14 (5 : Int32)) from ((((uq.refl F310n U).tr z1 rfl).A rfl).I rfl)) rfl rfl rfl
    exact mw_of (fun _ => mu_ret rfl trivial ⟨Q4, rfl, u4, ht4, (hqz.tr z4 rfl), hgz.trans hgkb, by omega, hJ⟩)
  · -- descend 1
    have hS2 := hS1.cursor (xr2 := rx t) (c2 := c2) (fun t ht _ hx => absurd (hG.2.1.2 t ht).2 (by omega)) hc2 (fun t1 ht1 hb hu => (by
        have hB : BUN V1 t1 = true := by unfold BUN; rw [(hrow1.2 t1 (by omega)).mpr (by rw [PAn] at hb; exact hb), hu]; rfl
        rcases Nat.lt_or_ge t1 t with y | y
        · exact absurd hB (hft t1 (Nat.zero_le _) y)
        · rcases Nat.lt_or_ge t t1 with z | z
          · exact Or.inl (hlt t1 z (by omega) hB)
          · exact Or.inr (by rw [show t1 = t by omega])))
    rw [PAn] at hS2
    have hrm := hS2.2.2.2.2.room
    have hS3 := hS2.keep (V := (upI (upI (upA V1 147 10 ((rx t0) * 7 + 3) (nI c2)) 147 14 (2 : Int32)) 147 15 (nI (rx t)))) (F := F321) (((uq.refl _ _).I rfl).I rfl) rfl (fun _ => rfl) (fun _ => rfl)
    have hbb := hbt
    unfold BUN at hbb
    rw [Bool.and_eq_true] at hbb
    have hAt : A t := ((hS1.2.2.2.2.1.2.1 t).mp ⟨htT, hbb.2⟩).1
    have hcp : cpt PA (fun x => if x = rx t0 then c2 else CU x) T (ps + 1) ≤ cpt pa cu T ps + 1 := by
      show cpt PA _ T ps + (if _ < T then 1 else 0) ≤ _
      rw [cpt_cong (pa := pa) (cu := cu) ps (fun j hj => ⟨PAo j hj, (by
        have hne : ¬ pa j = rx t0 := fun z => hrn (pp j) (hTJ.2.2.1.1 j hj).1 ((hTJ.2.2.1.1 j hj).2.trans z)
        show (if pa j = rx t0 then c2 else CU (pa j)) = cu (pa j)
        rw [if_neg hne, CUo _ hne])⟩)]
      exact Nat.add_le_add_left ite01 _
    have hJ : SWJ (upI (upI (upA V1 147 10 ((rx t0) * 7 + 3) (nI c2)) 147 14 (2 : Int32)) 147 15 (nI (rx t))) T R wn rx mb me ga gi gq RB A g0 ev nf FS (ph - 1) := Or.inl ⟨rfl, en + 1, ps + 1, ls + 1, _, _, _, _, _, _, _, _, _, _, _, _, hS3, hC1.keep (F := F310c) ((((uq.refl _ _).A rfl).I rfl).I rfl) rfl rfl, by omega, Or.inr ⟨t, htT, hbb.2, rfl, fun j hj => (by rw [show j = ps by omega, PAn]; exact RT.one ⟨t, (hrow1.2 t (by omega)).mp hbb.1, hAt, rfl⟩), fun t1 _ _ hx => hx⟩⟩
    refine mw_go mu_g310 (k := 3) (f1 := (100, [(0, .inr (.inr (some 147)))], [.inl (mu_i Q2 147 14)], Q2)) (C := [mu_is Q2 (some 147) 2]) rfl (show mu_is Q2 (some 147) 2 from (u2.1.1.is rfl)) ?_
    rw [(show mu_i Q2 147 14 = (2 : Int32) from (ud_i (U := (upI (upI (upA V1 147 10 ((rx t0) * 7 + 3) (nI c2)) 147 14 (2 : Int32)) 147 15 (nI (rx t)))) (m := m) (P := 147) (j := 14) d2 rfl))]
    refine mw_go mu_g310 (k := 1) (f1 := (101, [(0, .inr (.inr (some 147)))], [.inl (5 : Int32), .inl (2 : Int32)], Q2)) (C := []) rfl trivial ?_
    refine mw_if (P := (2 : Int32) = (5 : Int32)) (a := 104) (b := 108) (fun _ => rfl) trivial (fun h5 => absurd h5 (by decide)) (fun h5 => ?_)
    have hqz : uq F310 U (upI (upI (upA V1 147 10 ((rx t0) * 7 + 3) (nI c2)) 147 14 (2 : Int32)) 147 15 (nI (rx t))) := (show uq F310 U (upI (upI (upA V1 147 10 ((rx t0) * 7 + 3) (nI c2)) 147 14 (2 : Int32)) 147 15 (nI (rx t))) from (((((uq.refl F310 U).tr z1 rfl).A rfl).I rfl).I rfl))
    exact mw_of (fun _ => mu_ret rfl trivial ⟨Q2, rfl, u2, ht2, (by rw [d2]; exact hqz), (by rw [d2]; exact gkp_q (show uq F310n U (upI (upI (upA V1 147 10 ((rx t0) * 7 + 3) (nI c2)) 147 14 (2 : Int32)) 147 15 (nI (rx t))) from (((((uq.refl F310n U).tr z1 rfl).A rfl).I rfl).I rfl)) rfl rfl rfl), by omega, (by rw [d2]; exact hJ)⟩)
theorem gr_visit3 (h : um m H) (e : ud m H = U) (hN : U.2.1 113 2 = nI N) (hfb : U.2.1 113 8 = nI fb) (hfN : fb ≤ N) (hR : R = N - fb) (hjob : U.2.1 147 14 = 3) (hS : SWS U T R wn rx mb me ga gi gq RB A g0 ev nf FS en (p + 1) ls pa pl pp ix lw cu ld St Gd rk nr R) (hC : CUR U wn) (hph : 8 * (R - en) + 2 * cpt pa cu T (p + 1) + 2 * ls + 1 ≤ ph) (hwa : U.2.1 147 15 = nI (pa p)) (hcuT : cu (pa p) < T) (hrow : ROW U RB (pa p) bf bt) : mu_TV (mu_D (d + 8)) 310 [.inr (.inr (some 147))] H (fun H1 => um m H1 ∧ ur m C H H1 ∧ uq F310 U (ud m H1) ∧ GKP ga gi U (ud m H1) ∧ 1 ≤ ph ∧ SWJ (ud m H1) T R wn rx mb me ga gi gq RB A g0 ev nf FS (ph - 1)) := by
  obtain ⟨⟨b1, b2, b3⟩, p1, p2, p3⟩ := hS.pile
  obtain ⟨⟨hG, hgl, hgo, hF⟩, ⟨hs20, hs21, hs22, hs9, hev1⟩, ⟨hA, hAT, hRBT, hg0T, hT150⟩, hCEL, hTJ⟩ := id hS
  have hTT : T ≤ 16384 := hG.1.2.2
  obtain ⟨⟨t1, t2, t3, t4⟩, t5, ⟨t6a, t6b, t6c, t6d, t6e⟩, ⟨t7, t8, t9, t10⟩, t11⟩ := hS.top
  have hcuL : ∀ t, t < T → RB (pa p) t → bts (U.2.2.2.2.1 150) t = true → cu (pa p) ≤ t := fun t ht hb hu => by
    have y := (hTJ.2.2.2.2.1.2.2 (pp p) p t t1 (own_at hTJ.2.2.1.2.1 (by omega)) (by rw [t2]; exact hb) ⟨ht, hu⟩).2
    have y2 := (hG.2.1.2 t ht).2
    rcases y with y | y <;> omega
  have hpge : 1 ≤ cpt pa cu T (p + 1) := by
    show 1 ≤ cpt pa cu T p + (if cu (pa p) < T then 1 else 0)
    rw [if_pos hcuT]
    omega
  refine mu_meth (M := mu_m310) rfl rfl ?_
  refine mw_ht (mu_fn_of (show [0].Nodup by decide)) ?_
  refine mw_go mu_g310 (k := 2) (f1 := (4, [(0, .inr (.inr (some 147)))], [.inl (mu_i H 147 14)], H)) (C := [mu_is H (some 147) 2]) rfl (show mu_is H (some 147) 2 from (h.1.1.is rfl)) ?_
  rw [(show mu_i H 147 14 = (3 : Int32) from (ud_i (U := U) (m := m) (P := 147) (j := 14) e rfl).trans hjob)]
  refine mw_tsw2 rfl (by decide) (fun hx => absurd hx (by decide)) ⟨(fun z => absurd z (by decide)), (fun z => absurd z (by decide)), (fun z => absurd z (by decide)), fun _ => ?_, (fun z => absurd z (by decide)), trivial⟩
  refine mw_go mu_g310 (k := 3) (f1 := (78, [(0, .inr (.inr (some 147)))], [.inl (mu_i H 147 15), .inr (.inr (some 147))], H)) (C := [mu_is H (some 147) 2]) rfl (show mu_is H (some 147) 2 from (h.1.1.is rfl)) ?_
  rw [(show mu_i H 147 15 = (nI (pa p)) from (ud_i (U := U) (m := m) (P := 147) (j := 15) e rfl).trans hwa)]
  have hcrT : cu (pa p) ≤ T := t9
  refine mw_cV (fun _ => rfl) (show mu_is H (some 147) 2 from (h.1.1.is rfl)) (gr_descend (d := (d + 3)) (C := C) (T := T) (R := R) (bf := bf) (bt := bt) (r := pa p) (cr := cu (pa p)) h e hG hrow.1 t3 t6d t9 (fun s hs y => hRBT _ s ((hrow.2 s hs).mp y))) (fun Q1 q1 => ?_)
  obtain ⟨u1, r1, hda⟩ := q1
  have ht1 : ur m C H Q1 := (ur.refl m C H).trans r1
  rcases hda with ⟨hdn, d1⟩ | ⟨t, htT, hct, hbt, hft, c2, hc2, hlt, d1⟩
  · -- descend 0
    have hS2 := hS.cursor (xr2 := R) (c2 := T) (fun t ht _ hx => absurd (hG.2.1.2 t ht).2 (by omega)) (Nat.le_refl _) (fun t ht hb hu => absurd (show BUN U t = true from by unfold BUN; rw [(hrow.2 t (by omega)).mpr hb, hu]; rfl) (hdn t (hcuL t ht hb hu) (by omega)))
    have hrm := hS2.2.2.2.2.room
    have hS3 := hS2.keep (V := (upI (upA U 147 10 ((pa p) * 7 + 3) (nI T)) 147 14 (5 : Int32))) (F := F321) ((uq.refl _ _).I rfl) rfl (fun _ => rfl) (fun _ => rfl)
    have hcp : cpt pa (fun x => if x = pa p then T else cu x) T (p + 1) + 1 = cpt pa cu T (p + 1) := by
      show cpt pa _ T p + (if (if pa p = pa p then T else cu (pa p)) < T then 1 else 0) + 1 = cpt pa cu T p + (if cu (pa p) < T then 1 else 0)
      rw [if_pos rfl, if_neg (Nat.lt_irrefl T), if_pos hcuT, Nat.add_zero]
      rw [cpt_cong (pa := pa) (pa' := pa) (cu := cu) (cu' := fun x => if x = pa p then T else cu x) p (fun j hj => ⟨rfl, if_neg (fun z => by have := hS.inj (i := j) (j := p) (by omega) (by omega) z; omega)⟩)]
    have hXc : SWX (upI (upA U 147 10 ((pa p) * 7 + 3) (nI T)) 147 14 (5 : Int32)) T R wn rx mb me ga gi gq RB A g0 ev nf FS R (ph - 2) := ⟨en, p + 1, ls, _, _, _, _, _, _, _, _, _, _, _, hS3, hC.keep (F := F310c) (((uq.refl _ _).A rfl).I rfl) rfl rfl, by omega, by omega⟩
    refine mw_go mu_g310 (k := 3) (f1 := (100, [(0, .inr (.inr (some 147)))], [.inl (mu_i Q1 147 14)], Q1)) (C := [mu_is Q1 (some 147) 2]) rfl (show mu_is Q1 (some 147) 2 from (u1.1.1.is rfl)) ?_
    rw [(show mu_i Q1 147 14 = (5 : Int32) from (ud_i (U := (upI (upA U 147 10 ((pa p) * 7 + 3) (nI T)) 147 14 (5 : Int32))) (m := m) (P := 147) (j := 14) d1 rfl))]
    refine mw_go mu_g310 (k := 1) (f1 := (101, [(0, .inr (.inr (some 147)))], [.inl (5 : Int32), .inl (5 : Int32)], Q1)) (C := []) rfl trivial ?_
    refine mw_if (P := (5 : Int32) = (5 : Int32)) (a := 104) (b := 108) (fun _ => rfl) trivial (fun h2 => ?_) (fun h2 => absurd (by decide) h2)
    refine mw_go mu_g310 (k := 1) (f1 := (105, [(0, .inr (.inr (some 147)))], [.inr (.inr (some 147))], Q1)) (C := []) rfl trivial ?_
    refine mw_cV (fun _ => rfl) (show mu_is Q1 (some 147) 2 from (u1.1.1.is rfl)) (gr_climb (d := d) (C := C) (N := N) (fb := fb) (ph := ph - 2) u1 d1 ((show ((upI (upA U 147 10 ((pa p) * 7 + 3) (nI T)) 147 14 (5 : Int32)).2.1 113 2) = (U.2.1 113 2) from rfl).trans hN) ((show ((upI (upA U 147 10 ((pa p) * 7 + 3) (nI T)) 147 14 (5 : Int32)).2.1 113 8) = (U.2.1 113 8) from rfl).trans hfb) hfN hR (by have := hG.2.2.1.1; omega) hXc) (fun Q3 q3 => ?_)
    obtain ⟨u3, r3, z3, hgkb, hJ⟩ := q3
    have ht3 : ur m C H Q3 := ht1.trans r3
    have hJ : SWJ (ud m Q3) T R wn rx mb me ga gi gq RB A g0 ev nf FS (ph - 1) := hJ.up (by omega)
    have hqz : uq F310 U (upI (upA U 147 10 ((pa p) * 7 + 3) (nI T)) 147 14 (5 : Int32)) := (show uq F310 U (upI (upA U 147 10 ((pa p) * 7 + 3) (nI T)) 147 14 (5 : Int32)) from (((uq.refl F310 U).A rfl).I rfl))
    have hgz : GKP ga gi U (upI (upA U 147 10 ((pa p) * 7 + 3) (nI T)) 147 14 (5 : Int32)) := gkp_q (show uq F310n U (upI (upA U 147 10 ((pa p) * 7 + 3) (nI T)) 147 14 (5 : Int32)) from (((uq.refl F310n U).A rfl).I rfl)) rfl rfl rfl
    exact mw_of (fun _ => mu_ret rfl trivial ⟨Q3, rfl, u3, ht3, (hqz.tr z3 rfl), hgz.trans hgkb, by omega, hJ⟩)
  · -- descend 1
    have hS2 := hS.cursor (xr2 := rx t) (c2 := c2) (fun t ht _ hx => absurd (hG.2.1.2 t ht).2 (by omega)) hc2 (fun t1 ht1 hb hu => (by
        have hB : BUN U t1 = true := by unfold BUN; rw [(hrow.2 t1 (by omega)).mpr hb, hu]; rfl
        rcases Nat.lt_or_ge t1 t with y | y
        · exact absurd hB (hft t1 (hcuL t1 ht1 hb hu) y)
        · rcases Nat.lt_or_ge t t1 with z | z
          · exact Or.inl (hlt t1 z (by omega) hB)
          · exact Or.inr (by rw [show t1 = t by omega])))
    have hS3 := hS2.keep (V := (upI (upI (upA U 147 10 ((pa p) * 7 + 3) (nI c2)) 147 14 (2 : Int32)) 147 15 (nI (rx t)))) (F := F321) (((uq.refl _ _).I rfl).I rfl) rfl (fun _ => rfl) (fun _ => rfl)
    have hbb := hbt
    unfold BUN at hbb
    rw [Bool.and_eq_true] at hbb
    have hAt : A t := ((hTJ.1.2.1 t).mp ⟨htT, hbb.2⟩).1
    have hcp : cpt pa (fun x => if x = pa p then c2 else cu x) T (p + 1) ≤ cpt pa cu T (p + 1) := by
      show cpt pa _ T p + (if (if pa p = pa p then c2 else cu (pa p)) < T then 1 else 0) ≤ cpt pa cu T p + (if cu (pa p) < T then 1 else 0)
      rw [if_pos hcuT, cpt_cong (pa := pa) (pa' := pa) (cu := cu) (cu' := fun x => if x = pa p then c2 else cu x) p (fun j hj => ⟨rfl, if_neg (fun z => by have := hS.inj (i := j) (j := p) (by omega) (by omega) z; omega)⟩)]
      exact Nat.add_le_add_left ite01 _
    have hJ : SWJ (upI (upI (upA U 147 10 ((pa p) * 7 + 3) (nI c2)) 147 14 (2 : Int32)) 147 15 (nI (rx t))) T R wn rx mb me ga gi gq RB A g0 ev nf FS (ph - 1) := Or.inl ⟨rfl, en, p + 1, ls, _, _, _, _, _, _, _, _, _, _, _, _, hS3, hC.keep (F := F310c) ((((uq.refl _ _).A rfl).I rfl).I rfl) rfl rfl, by omega, Or.inr ⟨t, htT, hbb.2, rfl, fun j hj => (by rw [show j = p by omega]; exact RT.one ⟨t, (hrow.2 t (by omega)).mp hbb.1, hAt, rfl⟩), fun t1 _ _ hx => hx⟩⟩
    refine mw_go mu_g310 (k := 3) (f1 := (100, [(0, .inr (.inr (some 147)))], [.inl (mu_i Q1 147 14)], Q1)) (C := [mu_is Q1 (some 147) 2]) rfl (show mu_is Q1 (some 147) 2 from (u1.1.1.is rfl)) ?_
    rw [(show mu_i Q1 147 14 = (2 : Int32) from (ud_i (U := (upI (upI (upA U 147 10 ((pa p) * 7 + 3) (nI c2)) 147 14 (2 : Int32)) 147 15 (nI (rx t)))) (m := m) (P := 147) (j := 14) d1 rfl))]
    refine mw_go mu_g310 (k := 1) (f1 := (101, [(0, .inr (.inr (some 147)))], [.inl (5 : Int32), .inl (2 : Int32)], Q1)) (C := []) rfl trivial ?_
    refine mw_if (P := (2 : Int32) = (5 : Int32)) (a := 104) (b := 108) (fun _ => rfl) trivial (fun h4 => absurd h4 (by decide)) (fun h4 => ?_)
    have hqz : uq F310 U (upI (upI (upA U 147 10 ((pa p) * 7 + 3) (nI c2)) 147 14 (2 : Int32)) 147 15 (nI (rx t))) := (show uq F310 U (upI (upI (upA U 147 10 ((pa p) * 7 + 3) (nI c2)) 147 14 (2 : Int32)) 147 15 (nI (rx t))) from ((((uq.refl F310 U).A rfl).I rfl).I rfl))
    exact mw_of (fun _ => mu_ret rfl trivial ⟨Q1, rfl, u1, ht1, (by rw [d1]; exact hqz), (by rw [d1]; exact gkp_q (show uq F310n U (upI (upI (upA U 147 10 ((pa p) * 7 + 3) (nI c2)) 147 14 (2 : Int32)) 147 15 (nI (rx t))) from ((((uq.refl F310n U).A rfl).I rfl).I rfl)) rfl rfl rfl), by omega, (by rw [d1]; exact hJ)⟩)
theorem gr_visit4 (h : um m H) (e : ud m H = U) (hN : U.2.1 113 2 = nI N) (hfb : U.2.1 113 8 = nI fb) (hfN : fb ≤ N) (hR : R = N - fb) {hd c tl : Nat} {qu : Nat → Nat} (hS : SWS U T R wn rx mb me ga gi gq RB A g0 ev nf FS en (p + 1) ls pa pl pp ix lw cu ld St Gd rk nr R) (hjob : U.2.1 147 14 = 4) (heq : lw (pa p) = ix (pa p)) (hc3 : ld (pa p) % 2 = 0) (hev : ¬ ev = 0) (hnf : ¬ nf = 0) (hring : ¬ pl (ls - 1) = pa p ∨ 2 ≤ ld (pa p)) (hn : ∀ t, t < T → RB (pa p) t → ¬ bts (U.2.2.2.2.1 150) t = true) (hhk : pp p ≤ hd) (hhl : hd < ls) (hhd : U.2.1 147 17 = nI hd) (hcur : U.2.1 147 16 = nI c) (hcw : c ≤ wn) (hzc : ∀ i, i < c → U.2.2.2.2.1 152 i = 0) (htail : U.2.1 147 18 = nI tl) (htlT : tl ≤ T) (hqu : ∀ i, i < tl → (U.2.2.1 147 12).2 i = nI (qu i) ∧ qu i < T) (hqj : ∀ i j, i < tl → j < tl → qu i = qu j → i = j) (hqs : ∀ t, (∃ i, i < tl ∧ qu i = t) ↔ A t ∧ SCC pl (pp p) ls (rx t) ∧ ∃ i, pp p ≤ i ∧ i < hd ∧ RB (pl i) t) (har : ∀ t, t < T → (bts (U.2.2.2.2.1 152) t = true ↔ A t ∧ SCC pl (pp p) ls (rx t) ∧ ¬ ∃ i, pp p ≤ i ∧ i < hd ∧ RB (pl i) t)) (hT152 : ∀ s, s < 64 * wn → bts (U.2.2.2.2.1 152) s = true → s < T) (hph : 8 * (R - en) + 2 * cpt pa cu T (p + 1) + 2 * ls ≤ ph + (hd - pp p)) (hrow : ROW U RB (pl hd) bf bt) : mu_TV (mu_D (d + 8)) 310 [.inr (.inr (some 147))] H (fun H1 => um m H1 ∧ ur m C H H1 ∧ uq F310 U (ud m H1) ∧ GKP ga gi U (ud m H1) ∧ 1 ≤ ph ∧ SWJ (ud m H1) T R wn rx mb me ga gi gq RB A g0 ev nf FS (ph - 1)) := by
  obtain ⟨⟨b1, b2, b3⟩, p1, p2, p3⟩ := hS.pile
  obtain ⟨⟨hG, hgl, hgo, hF⟩, ⟨hs20, hs21, hs22, hs9, hev1⟩, ⟨hA, hAT, hRBT, hg0T, hT150⟩, hCEL, hTJ⟩ := id hS
  have hTT : T ≤ 16384 := hG.1.2.2
  obtain ⟨⟨t1, t2, t3, t4⟩, t5, ⟨t6a, t6b, t6c, t6d, t6e⟩, ⟨t7, t8, t9, t10⟩, t11⟩ := hS.top
  refine mu_meth (M := mu_m310) rfl rfl ?_
  refine mw_ht (mu_fn_of (show [0].Nodup by decide)) ?_
  refine mw_go mu_g310 (k := 2) (f1 := (4, [(0, .inr (.inr (some 147)))], [.inl (mu_i H 147 14)], H)) (C := [mu_is H (some 147) 2]) rfl (show mu_is H (some 147) 2 from (h.1.1.is rfl)) ?_
  rw [(show mu_i H 147 14 = (4 : Int32) from (ud_i (U := U) (m := m) (P := 147) (j := 14) e rfl).trans hjob)]
  refine mw_tsw2 rfl (by decide) (fun hx => absurd hx (by decide)) ⟨(fun z => absurd z (by decide)), (fun z => absurd z (by decide)), (fun z => absurd z (by decide)), (fun z => absurd z (by decide)), fun _ => ?_, trivial⟩
  refine mw_go mu_g310 (k := 1) (f1 := (85, [(0, .inr (.inr (some 147)))], [.inr (.inr (some 147))], H)) (C := []) rfl trivial ?_
  have hnot : ∀ i, i < tl → ¬ bts (U.2.2.2.2.1 152) (qu i) = true := fun i hi z => by
    have y1 := (hqs (qu i)).mp ⟨i, hi, rfl⟩
    have y2 := (har (qu i) (hqu i hi).2).mp z
    exact y2.2.2 y1.2.2
  have hT146 : ∀ s, s < 16384 → bts (U.2.2.2.2.1 146) s = true → s < T := fun s hs y => hRBT _ s ((hrow.2 s hs).mp y)
  have hlwb : lw (pa (p - 1)) < 2147483648 := by
    by_cases hp0 : 0 < p
    · have := (t11 hp0).2.2.2.2.2.1; omega
    · rw [show p - 1 = p by omega]; omega
  have hld4 : ld (pa (p - 1)) < 4 := by
    by_cases hp0 : 0 < p
    · exact (t11 hp0).2.2.2.2.2.2
    · rw [show p - 1 = p by omega]; exact t10
  refine mw_cV (fun _ => rfl) (show mu_is H (some 147) 2 from (h.1.1.is rfl)) (gr_circle (d := (d + 2)) (C := C) (T := T) (R := R) (wn := wn) (bf := bf) (bt := bt) (ls := ls) (r := pa p) (k := pp p) (lv := ld (pa p)) (p := p) (hd := hd) (tl := tl) (c := c) (nf := nf) (FS := FS) (ab := pa (p - 1)) (la := lw (pa (p - 1))) (dab := ld (pa (p - 1))) (lr := lw (pa p)) (pl := pl) (qu := qu) (ga := ga) (gi := gi) h e hG hgl hgo hs21 b3 p1 t3 t1 t2 t5 t6e t10 hc3 hs20 t4 t6a (fun hp0 => (by obtain ⟨y1, y2, y3, y4, y5, -⟩ := t11 hp0; exact ⟨y1, y2, y3, y4, y5⟩)) hlwb hld4 t6c (by omega) hF htail htlT hqu hrow.1 hT146 hhd hhl hcur hcw hzc hqj hnot hT152) (fun Q1 q1 => ?_)
  obtain ⟨u1, r1, z1, hca⟩ := q1
  have ht1 : ur m C H Q1 := (ur.refl m C H).trans r1
  obtain ⟨V1, d1⟩ : ∃ V, ud m Q1 = V := ⟨_, rfl⟩
  rw [d1] at z1 hca
  have hstep : ∀ t, (A t ∧ SCC pl (pp p) ls (rx t) ∧ ∃ i, pp p ≤ i ∧ i < hd + 1 ∧ RB (pl i) t) ↔ (∃ i, i < tl ∧ qu i = t) ∨ (t < T ∧ bts (U.2.2.2.2.1 146) t = true ∧ bts (U.2.2.2.2.1 152) t = true) := fun t => by
    rw [hqs t]
    constructor
    · rintro ⟨y1, y2, i, i1, i2, i3⟩
      by_cases y : ∃ i, pp p ≤ i ∧ i < hd ∧ RB (pl i) t
      · exact Or.inl ⟨y1, y2, y⟩
      · have hi : i = hd := Classical.byContradiction (fun z => y ⟨i, i1, by omega, i3⟩)
        have htT := hAT t y1
        rw [hi] at i3
        exact Or.inr ⟨htT, (hrow.2 t (by omega)).mpr i3, (har t htT).mpr ⟨y1, y2, y⟩⟩
    · rintro (⟨y1, y2, i, i1, i2, i3⟩ | ⟨y1, y2, y3⟩)
      · exact ⟨y1, y2, i, i1, by omega, i3⟩
      · have w := (har t y1).mp y3
        exact ⟨w.1, w.2.1, hd, hhk, by omega, (hrow.2 t (by omega)).mp y2⟩
  replace hca := HID.mk hca
  rcases hca.out with hca1 | hca2
  · clear hca
    obtain ⟨k1, k2, k3, ⟨c4, k4, k5, k6⟩, k7, k8, tl1, q1, k9, k10, k11, k12, k13, k14, k15⟩ := hca1
    have hj4 : V1.2.1 147 14 = (4 : Int32) := (k8.i 147 14 rfl).trans hjob
    have hS1 := hS.keep k8 rfl (fun _ => rfl) (fun _ => rfl)
    have hJ : SWJ V1 T R wn rx mb me ga gi gq RB A g0 ev nf FS (ph - 1) := by
      refine Or.inr (Or.inr ⟨en, p, ls, pa, pl, pp, ix, lw, cu, ld, St, Gd, rk, nr, hS1, hj4, ⟨heq, hc3, hev, hnf, hring⟩, (by rw [k8.l 150 rfl]; exact hn), hd + 1, c4, tl1, q1, k3, ⟨by omega, k1, k2⟩, ⟨k4, k5, k6⟩, ⟨k9, k11, k10, k12⟩, fun t => (k13 t).trans (hstep t).symm, fun t ht => ?_, k15, by omega⟩)
      refine (k14 t ht).trans ?_
      rw [har t ht]
      constructor
      · rintro ⟨⟨y1, y2, y3⟩, y4⟩
        refine ⟨y1, y2, fun ⟨i, i1, i2, i3⟩ => ?_⟩
        by_cases w : i = hd
        · rw [w] at i3; exact y4 ((hrow.2 t (by omega)).mpr i3)
        · exact y3 ⟨i, i1, by omega, i3⟩
      · rintro ⟨y1, y2, y3⟩
        exact ⟨⟨y1, y2, fun ⟨i, i1, i2, i3⟩ => y3 ⟨i, i1, by omega, i3⟩⟩, fun w => y3 ⟨hd, hhk, by omega, (hrow.2 t (by omega)).mp w⟩⟩
    refine mw_go mu_g310 (k := 3) (f1 := (100, [(0, .inr (.inr (some 147)))], [.inl (mu_i Q1 147 14)], Q1)) (C := [mu_is Q1 (some 147) 2]) rfl (show mu_is Q1 (some 147) 2 from (u1.1.1.is rfl)) ?_
    rw [(show mu_i Q1 147 14 = (4 : Int32) from (ud_i (U := V1) (m := m) (P := 147) (j := 14) d1 rfl).trans hj4)]
    refine mw_go mu_g310 (k := 1) (f1 := (101, [(0, .inr (.inr (some 147)))], [.inl (5 : Int32), .inl (4 : Int32)], Q1)) (C := []) rfl trivial ?_
    refine mw_if (P := (4 : Int32) = (5 : Int32)) (a := 104) (b := 108) (fun _ => rfl) trivial (fun h2 => absurd h2 (by decide)) (fun h2 => ?_)
    have hqz : uq F310 U V1 := (show uq F310 U V1 from ((uq.refl F310 U).tr z1 rfl))
    exact mw_of (fun _ => mu_ret rfl trivial ⟨Q1, rfl, u1, ht1, (by rw [d1]; exact hqz), (by rw [d1]; exact gkp_q k8 rfl rfl rfl), by omega, (by rw [d1]; exact hJ)⟩)
  · clear hca
    obtain ⟨k1, k2, k3, k4, tl1, q1, k5, k6, lvx, k7, k8, k9, k10, k11, k12, k13⟩ := hca2
    have hset : ∀ t, (∃ i, i < tl1 ∧ q1 i = t) ↔ A t ∧ SCC pl (pp p) ls (rx t) ∧ ∃ i, pp p ≤ i ∧ i < hd + 1 ∧ RB (pl i) t := fun t => (k5 t).trans (hstep t).symm
    have hall : ∀ i t, pp p ≤ i → i < ls → RB (pl i) t → A t → SCC pl (pp p) ls (rx t) → ∃ j, j < tl1 ∧ q1 j = t := fun i t i1 i2 i3 i4 i5 => by
      rcases k6 with y | y
      · exact (hset t).mpr ⟨i4, i5, i, i1, by omega, i3⟩
      · refine (k5 t).mpr ?_
        have htT := hAT t i4
        by_cases w : ∃ i, pp p ≤ i ∧ i < hd ∧ RB (pl i) t
        · exact Or.inl ((hqs t).mpr ⟨i4, i5, w⟩)
        · have w2 := (har t htT).mpr ⟨i4, i5, w⟩
          exact Or.inr ⟨htT, Classical.byContradiction (fun v => y t htT ⟨w2, v⟩), w2⟩
    replace k6 := HID.mk k6
    have k7c : lvx = ld (pa p) + 1 ∨ lvx = ld (pa p) := by
      rcases k7 with y | y
      · exact Or.inl y.1
      · exact Or.inr y.1
    replace k7 := HID.mk k7
    obtain ⟨lw2, ld2, St2, Gd2, rk2, hS1⟩ := hS.settle (V := V1) (F := F327) (lvx := lvx) hn heq (fun y => (by
        rcases k7.out with ⟨w1, w2⟩ | ⟨w1, w2⟩
        · refine is_ring hS heq hev hring (fun f hf => ?_)
          obtain ⟨i, i1, i2⟩ := w2 f hf
          obtain ⟨v1, v2, j, j1, j2, j3⟩ := (hset (q1 i)).mp ⟨i, i1, rfl⟩
          exact ⟨j, q1 i, j1, by omega, j3, v1, v2, i2⟩
        · rw [w1] at y; omega)) (fun y => absurd y (by omega)) (fun y => (by
        rcases k7.out with ⟨w1, w2⟩ | ⟨w1, f, w2, w3⟩
        · rw [w1] at y; omega
        · refine Or.inr (Or.inl ⟨f, w2, fun i t i1 i2 i3 i4 i5 => ?_⟩)
          obtain ⟨j, j1, j2⟩ := hall i t i1 i2 i3 i4 i5
          have v := w3 j j1
          rw [j2] at v
          rw [v]
          exact fun z => by cases z)) z1 rfl (fun _ => rfl) (fun _ => rfl) k2 k3 k8 k9 k10 k11 k12 k13
    have hrm := hS1.2.2.2.2.room
    have hcp : cpt pa cu T p ≤ cpt pa cu T (p + 1) := Nat.le_add_right _ _
    have hXc : SWX V1 T R wn rx mb me ga gi gq RB A g0 ev nf FS R (ph - 2) := ⟨en, p, pp p, pa, pl, pp, ix, lw2, cu, ld2, St2, Gd2, rk2, nr + 1, hS1, ⟨0, k4, Nat.zero_le _, fun i hi => absurd hi (Nat.not_lt_zero i)⟩, by omega, by omega⟩
    refine mw_go mu_g310 (k := 3) (f1 := (100, [(0, .inr (.inr (some 147)))], [.inl (mu_i Q1 147 14)], Q1)) (C := [mu_is Q1 (some 147) 2]) rfl (show mu_is Q1 (some 147) 2 from (u1.1.1.is rfl)) ?_
    rw [(show mu_i Q1 147 14 = (5 : Int32) from (ud_i (U := V1) (m := m) (P := 147) (j := 14) d1 rfl).trans k1)]
    refine mw_go mu_g310 (k := 1) (f1 := (101, [(0, .inr (.inr (some 147)))], [.inl (5 : Int32), .inl (5 : Int32)], Q1)) (C := []) rfl trivial ?_
    refine mw_if (P := (5 : Int32) = (5 : Int32)) (a := 104) (b := 108) (fun _ => rfl) trivial (fun h3 => ?_) (fun h3 => absurd (by decide) h3)
    refine mw_go mu_g310 (k := 1) (f1 := (105, [(0, .inr (.inr (some 147)))], [.inr (.inr (some 147))], Q1)) (C := []) rfl trivial ?_
    refine mw_cV (fun _ => rfl) (show mu_is Q1 (some 147) 2 from (u1.1.1.is rfl)) (gr_climb (d := d) (C := C) (N := N) (fb := fb) (ph := ph - 2) u1 d1 ((show (V1.2.1 113 2) = (U.2.1 113 2) from (z1.i 113 2 rfl)).trans hN) ((show (V1.2.1 113 8) = (U.2.1 113 8) from (z1.i 113 8 rfl)).trans hfb) hfN hR (by have := hG.2.2.1.1; omega) hXc) (fun Q4 q4 => ?_)
    obtain ⟨u4, r4, z4, hgkb, hJ⟩ := q4
    have ht4 : ur m C H Q4 := ht1.trans r4
    have hJ : SWJ (ud m Q4) T R wn rx mb me ga gi gq RB A g0 ev nf FS (ph - 1) := hJ.up (by omega)
    have hqz : uq F310 U V1 := (show uq F310 U V1 from ((uq.refl F310 U).tr z1 rfl))
    have hgz : GKP ga gi U V1 := k9
    exact mw_of (fun _ => mu_ret rfl trivial ⟨Q4, rfl, u4, ht4, (hqz.tr z4 rfl), hgz.trans hgkb, by omega, hJ⟩)
/-- a visit while a sweep is under way -/
theorem gr_visitS (h : um m H) (e : ud m H = U) (hN : U.2.1 113 2 = nI N) (hfb : U.2.1 113 8 = nI fb) (hfN : fb ≤ N) (hR : R = N - fb) {r : Nat} (hw : U.2.1 147 15 = nI r) (hrR : r < R) (hRb : R ≤ 20000) (hJ : SWJ U T R wn rx mb me ga gi gq RB A g0 ev nf FS ph) (hrow : ROW U RB r bf bt) : mu_TV (mu_D (d + 8)) 310 [.inr (.inr (some 147))] H (fun H1 => um m H1 ∧ ur m C H H1 ∧ uq F310 U (ud m H1) ∧ GKP ga gi U (ud m H1) ∧ 1 ≤ ph ∧ SWJ (ud m H1) T R wn rx mb me ga gi gq RB A g0 ev nf FS (ph - 1)) := by
  rcases hJ with ⟨h1, en, ps, ls, pa, pl, pp, ix, lw, cu, ld, St, Gd, rk, nr, xr, h2, h3, h4, h5⟩ | ⟨h1, en, p, ls, pa, pl, pp, ix, lw, cu, ld, St, Gd, rk, nr, h2, h3, h4, h5, h6⟩ | ⟨en, p, ls, pa, pl, pp, ix, lw, cu, ld, St, Gd, rk, nr, h1, h2, ⟨h3a, h3b, h3c, h3d, h3e⟩, h4, hd, c, tl, qu, h5, ⟨h6a, h6b, h6c⟩, ⟨h7a, h7b, h7c⟩, ⟨h8a, h8b, h8c, h8d⟩, h9, h10, h11, h12⟩
  · rcases h5 with ⟨y1, -⟩ | ⟨t0, y1, y2, y3, y4, y5⟩
    · rw [hw] at y1
      exact absurd y1 (fun z => by have z2 := nI_pos (n := r) (by omega); rw [z] at z2; exact z2 (by decide))
    · have er : r = rx t0 := (nI_eq (by omega) (by have := (h2.1.1.2.1.2 t0 y1).2; omega)).mp (hw.symm.trans y3)
      rw [er] at hrow
      exact gr_visit2 h e hN hfb hfN hR h1 h2 h3 h4 y1 y2 y3 y4 y5 hrow
  · have er : r = pa p := (nI_eq (by omega) (by have := h2.top.1.2.2.1; omega)).mp (hw.symm.trans h5)
    rw [er] at hrow
    exact gr_visit3 h e hN hfb hfN hR h1 h2 h3 h4 h5 h6 hrow
  · have er : r = pl hd := (nI_eq (by omega) (by have := (h1.pile.2.1 hd h6b).2; omega)).mp (hw.symm.trans h5)
    rw [er] at hrow
    exact gr_visit4 h e hN hfb hfN hR h1 h2 h3a h3b h3c h3d h3e h4 h6a h6b h6c h7a h7b h7c h8a h8b h8c h8d h9 h10 h11 h12 hrow
end VisitSweep
