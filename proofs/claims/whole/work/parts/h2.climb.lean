/-! GRAPH: climb -/
/-- how many rows of the path have more to be seen -/
def cpt (pa cu : Nat → Nat) (T : Nat) : Nat → Nat
  | 0 => 0
  | n + 1 => cpt pa cu T n + (if cu (pa n) < T then 1 else 0)
/-- a sweep that climbs -/
def SWX (V : Ud) (T R wn : Nat) (rx mb me : Nat → Nat) (ga gi gq : Nat) (RB : Nat → Nat → Prop) (A g0 : Nat → Prop) (ev nf : Nat) (FS : Nat → Nat → Bool) (iv ph : Nat) : Prop := ∃ en ps ls pa pl pp ix lw cu ld St Gd rk nr, SWS V T R wn rx mb me ga gi gq RB A g0 ev nf FS en ps ls pa pl pp ix lw cu ld St Gd rk nr R ∧ CUR V wn ∧ ps ≤ iv ∧ 8 * (R - en) + 2 * cpt pa cu T ps + 2 * ls ≤ ph
/-- a ring that is gone round -/
def SWC (V : Ud) (T R wn : Nat) (rx mb me : Nat → Nat) (ga gi gq : Nat) (RB : Nat → Nat → Prop) (A g0 : Nat → Prop) (ev nf : Nat) (FS : Nat → Nat → Bool) (ph : Nat) : Prop := ∃ en p ls pa pl pp ix lw cu ld St Gd rk nr, SWS V T R wn rx mb me ga gi gq RB A g0 ev nf FS en (p + 1) ls pa pl pp ix lw cu ld St Gd rk nr R ∧ V.2.1 147 14 = 4 ∧ (lw (pa p) = ix (pa p) ∧ ld (pa p) % 2 = 0 ∧ ¬ ev = 0 ∧ ¬ nf = 0 ∧ (¬ pl (ls - 1) = pa p ∨ 2 ≤ ld (pa p))) ∧ (∀ t, t < T → RB (pa p) t → ¬ bts (V.2.2.2.2.1 150) t = true) ∧ ∃ (hd c tl : Nat) (qu : Nat → Nat), V.2.1 147 15 = nI (pl hd) ∧ (pp p ≤ hd ∧ hd < ls ∧ V.2.1 147 17 = nI hd) ∧ (V.2.1 147 16 = nI c ∧ c ≤ wn ∧ ∀ i, i < c → V.2.2.2.2.1 152 i = 0) ∧ (V.2.1 147 18 = nI tl ∧ tl ≤ T ∧ (∀ i, i < tl → (V.2.2.1 147 12).2 i = nI (qu i) ∧ qu i < T) ∧ ∀ i j, i < tl → j < tl → qu i = qu j → i = j) ∧ (∀ t, (∃ i, i < tl ∧ qu i = t) ↔ A t ∧ SCC pl (pp p) ls (rx t) ∧ ∃ i, pp p ≤ i ∧ i < hd ∧ RB (pl i) t) ∧ (∀ t, t < T → (bts (V.2.2.2.2.1 152) t = true ↔ A t ∧ SCC pl (pp p) ls (rx t) ∧ ¬ ∃ i, pp p ≤ i ∧ i < hd ∧ RB (pl i) t)) ∧ (∀ s, s < 64 * wn → bts (V.2.2.2.2.1 152) s = true → s < T) ∧ 8 * (R - en) + 2 * cpt pa cu T (p + 1) + 2 * ls ≤ ph + (hd - pp p)
section Climb
variable {H : mu_H} {U V W : Ud} {m d T R wn ga gi gq ev nf en ls p nr iv ph lvx N fb : Nat} {C : Nat → Nat} {rx mb me pa pl pp ix lw cu ld rk : Nat → Nat} {RB : Nat → Nat → Prop} {A g0 St Gd : Nat → Prop} {FS : Nat → Nat → Bool}
theorem RT.first {E : Nat → Nat → Prop} {a b : Nat} (h : RT E a b) : a = b ∨ ∃ y, E a y ∧ RT E y b := by
  refine h (fun z => a = z ∨ ∃ y, E a y ∧ RT E y z) (Or.inl rfl) (fun x y hx he => ?_)
  rcases hx with rfl | ⟨w, w1, w2⟩
  · exact Or.inr ⟨y, he, RT.refl y⟩
  · exact Or.inr ⟨w, w1, w2.trans (RT.one he)⟩
def F328 : Uf := ⟨[], [(147, 14), (147, 15), (147, 16), (147, 17), (147, 18), (147, 20), (147, 21)], [(147, 10), (147, 12)], [], [152, 151, 148, 162], true⟩
def F328w : Uf := ⟨[], [(147, 16), (147, 18)], [(147, 10), (147, 12)], [], [152], false⟩
/-- PathProver$Graph.climb()V -/
abbrev mu_m328 : ev_M := (3, none, [], ev_b328)
theorem mu_g328 : mu_good mu_m328 := mu_goodk ev_k328
theorem gr_climbS {Φ : mu_R → Prop} (h : um m H) (e : ud m H = W) (hS : SWS U T R wn rx mb me ga gi gq RB A g0 ev nf FS en (p + 1) ls pa pl pp ix lw cu ld St Gd rk nr R) (hn : ∀ t, t < T → RB (pa p) t → ¬ bts (U.2.2.2.2.1 150) t = true) (hiv : p + 1 ≤ iv) (hivb : iv ≤ 20000) (hph : 8 * (R - en) + 2 * cpt pa cu T (p + 1) + 2 * ls ≤ ph) (heq : lw (pa p) = ix (pa p)) (hqw : uq F328w U W) (hC : CUR W wn) (hcw : ∀ j, (W.2.2.1 147 10).2 j = if j = pa p * 7 + 4 then nI lvx else (U.2.2.1 147 10).2 j) (hlvx : lvx < 4) (hf1 : lvx % 2 = 1 → GDR RB A rx g0 (¬ ev = 0) nf (fun f t => FS f t = true) (pa p)) (hf0 : ld (pa p) % 2 = 1 → lvx % 2 = 1) (hf2 : ¬ lvx % 2 = 1 → ¬ ¬ ev = 0 ∨ (∃ f, f < nf ∧ ∀ i t, pp p ≤ i → i < ls → RB (pl i) t → A t → SCC pl (pp p) ls (rx t) → ¬ FS f t = true) ∨ ∀ i t, pp p ≤ i → i < ls → RB (pl i) t → A t → ¬ SCC pl (pp p) ls (rx t)) (hback : ∀ H1, um m H1 → ur m C H H1 → uq F328 U (ud m H1) → GKP ga gi U (ud m H1) → SWX (ud m H1) T R wn rx mb me ga gi gq RB A g0 ev nf FS (iv - 1) ph → mu_W (mu_D (d + 6)) mu_m328 (8, [(1, .inl (nI (iv - 1))), (0, .inr (.inr (some 147)))], [], H1) Φ) : mu_W (mu_D (d + 6)) mu_m328 (133, [(2, .inl (nI (pa p))), (1, .inl (nI iv)), (0, .inr (.inr (some 147)))], [], H) Φ := by
  replace hf2 := HID.mk hf2
  obtain ⟨⟨t1, t2, t3, t4⟩, t5, ⟨t6a, t6b, t6c, t6d, t6e⟩, ⟨t7, t8, t9, t10⟩, t11⟩ := hS.top
  obtain ⟨⟨b1, b2, b3⟩, p1, p2, p3⟩ := hS.pile
  obtain ⟨⟨hG, hgl, hgo, hF⟩, ⟨hs20, hs21, hs22, hs9, hev1⟩, ⟨hA, hAT, hRBT, hg0T, hT150⟩, hCEL, hTJ⟩ := id hS
  have hlwb : lw (pa (p - 1)) < 2147483648 := by
    by_cases hp0 : 0 < p
    · have := (t11 hp0).2.2.2.2.2.1; omega
    · rw [show p - 1 = p by omega]; omega
  have hTT : T ≤ 16384 := hG.1.2.2
  refine mw_go mu_g328 (k := 2) (f1 := (135, [(2, .inl (nI (pa p))), (1, .inl (nI iv)), (0, .inr (.inr (some 147)))], [.inl (nI (pa p)), .inr (.inr (some 147))], H)) (C := []) rfl trivial ?_
  have hgls := hgl.q hqw (fun _ => rfl) (fun _ => rfl) rfl
  have hlfs : lgf W ga gi = lgf U ga gi := lsf_q hgl hqw rfl rfl rfl
  have hNKs : NK U W := fun j hj => by rw [hcw, if_neg (by omega)]
  refine mw_cV (fun _ => rfl) (show mu_is H (some 147) 2 from (h.1.1.is rfl)) (gr_settle (d := (d + 3)) (C := C) (T := T) (R := R) (ls := ls) (r := pa p) (k := pp p) (lv := lvx) (pl := pl) (ga := ga) (gi := gi) h e (hG.keep hqw rfl hNKs) hgls ((hqw.r 147 8 rfl).trans hgo) ((hqw.i 147 21 rfl).trans hs21) b3 (fun i hi => ⟨(by rw [hcw, if_neg (by omega)]; exact (p1 i hi).1), (p1 i hi).2⟩) t3 t1 t2 t5 (by rw [hcw, if_pos rfl]) hlvx) (fun Q1 q1 => ?_)
  obtain ⟨u1, r1, z1, hs21n, hsg, hsl, hs51, hsv, hsv2⟩ := q1
  rw [hqw.l 153 rfl, hqw.l 151 rfl] at hs51
  rw [hqw.l 153 rfl, hlfs] at hsv
  rw [hlfs] at hsv2
  have hsg2 : GKP ga gi U (ud m Q1) := (gkp_q hqw rfl rfl rfl).trans hsg
  have ht1 : ur m C H Q1 := (ur.refl m C H).trans r1
  obtain ⟨V1, d1⟩ : ∃ V, ud m Q1 = V := ⟨_, rfl⟩
  rw [d1] at z1 hs21n hsg2 hsl hs51 hsv hsv2
  have qf1 : uq F328 U V1 := (hqw.mono (G := F328) rfl).tr z1 rfl
  have hcs2 : ∀ j, (V1.2.2.1 147 10).2 j = if j = pa p * 7 + 4 then nI lvx else (U.2.2.1 147 10).2 j := fun j => by rw [z1.a 147 10 rfl]; exact hcw j
  refine mw_go mu_g328 (k := 2) (f1 := (140, [(2, .inl (nI (pa p))), (1, .inl (nI iv)), (0, .inr (.inr (some 147)))], [.inl (nI (pa p)), .inr (.inr (some 147))], Q1)) (C := []) rfl trivial ?_
  have hNKl : NK U V1 := fun j hj => by rw [hcs2, if_neg (by omega)]
  refine mw_cV (fun _ => rfl) (show mu_is Q1 (some 147) 2 from (u1.1.1.is rfl)) (gr_leave (d := (d + 4)) (C := C) (T := T) (R := R) (pz := p) (r := pa p) (ab := pa (p - 1)) (la := lw (pa (p - 1))) (da := if 0 < p then ld (pa (p - 1)) else 0) (lr := lw (pa p)) (dr := lvx) u1 d1 (hG.keep qf1 rfl hNKl) ((z1.i 147 20 rfl).trans ((hqw.i 147 20 rfl).trans hs20)) (by omega) t3 (fun hp0 => (by obtain ⟨y1, y2, y3, y4, y5, y6, y7⟩ := t11 hp0; rw [if_pos hp0]; exact ⟨(by rw [hcs2, if_neg (by omega)]; exact y1), y2, (by rw [hcs2, if_neg (by omega)]; exact y3), (by rw [hcs2, if_neg (by omega)]; exact y4)⟩)) hlwb (by by_cases hp0 : 0 < p; (rw [if_pos hp0]; exact (t11 hp0).2.2.2.2.2.2); (rw [if_neg hp0]; decide)) (by rw [hcs2, if_neg (by omega)]; exact t6c) (by omega) (by rw [hcs2, if_pos rfl]) hlvx) (fun Q2 q2 => ?_)
  obtain ⟨u2, r2, z2, hl20, hlc⟩ := q2
  have ht2 : ur m C H Q2 := ht1.trans r2
  obtain ⟨V2, d2⟩ : ∃ V, ud m Q2 = V := ⟨_, rfl⟩
  rw [d2] at z2 hl20 hlc
  have hclv : CLV V2 U p (pa p) lvx (pa (p - 1)) (lw (pa (p - 1))) (ld (pa (p - 1))) (lw (pa p)) := by
    rcases hlc with ⟨y1, y2⟩ | ⟨y1, y2⟩
    · exact Or.inl ⟨y1, fun j => by rw [y2]; exact hcs2 j⟩
    · exact Or.inr ⟨y1, fun j => by have w := y2 j; rw [if_pos y1, hcs2 j] at w; exact w⟩
  have qf2 : uq F328 U V2 := qf1.tr z2 rfl
  have hgke : GKP ga gi U V2 := hsg2.trans (gkp_q z2 rfl rfl rfl)
  have hlse : lgf V2 ga gi = lgf V1 ga gi := lsf_q hsl z2 rfl rfl rfl
  obtain ⟨lw2, ld2, St2, Gd2, rk2, hS2⟩ := hS.settle (V := V2) (F := F328) (lvx := lvx) hn heq hf1 hf0 hf2.out qf2 rfl (fun _ => rfl) (fun _ => rfl) hl20 ((z2.i 147 21 rfl).trans hs21n) hclv hgke (hsl.q z2 (fun _ => rfl) (fun _ => rfl) rfl) (by rw [z2.l 151 rfl]; exact hs51) (by rw [hlse]; exact hsv) (by rw [hlse]; exact hsv2)
  have hCn : CUR V2 wn := by
    obtain ⟨c, y1, y2, y3⟩ := hC
    exact ⟨c, (z2.i 147 16 rfl).trans ((z1.i 147 16 rfl).trans y1), y2, by rw [qf2.l 150 rfl, ← hqw.l 150 rfl]; exact y3⟩
  have hX2 : SWX V2 T R wn rx mb me ga gi gq RB A g0 ev nf FS (iv - 1) ph := ⟨en, p, pp p, pa, pl, pp, ix, lw2, cu, ld2, St2, Gd2, rk2, nr + 1, hS2, hCn, by omega, (by have y : cpt pa cu T (p + 1) = cpt pa cu T p + (if cu (pa p) < T then 1 else 0) := rfl; by_cases w : cu (pa p) < T; (rw [if_pos w] at y; omega); (rw [if_neg w] at y; omega))⟩
  refine mw_go mu_g328 (k := 1) (f1 := (146, [(1, .inl ((nI iv) + (-1))), (2, .inl (nI (pa p))), (0, .inr (.inr (some 147)))], [], Q2)) (C := []) rfl trivial ?_
  rw [(show ((nI iv) + (-1)) = (nI (iv - 1)) from ((Int32.sub_eq_add_neg _ _).symm.trans (nI_sub (a := iv) (b := 1) (by omega))))]
  refine mw_go mu_g328 (k := 1) (f1 := (8, [(1, .inl (nI (iv - 1))), (2, .inl (nI (pa p))), (0, .inr (.inr (some 147)))], [], Q2)) (C := []) rfl trivial ?_
  exact mw_sub (by simp) (hback Q2 u2 ht2 (by rw [d2]; exact qf2) (by rw [d2]; exact hgke) (by rw [d2]; exact hX2))
def F328c : Uf := ⟨[], [], [(147, 10)], [], [], false⟩
/-- a row alone that does not lead to itself is no ring -/
theorem no_ring (hS : SWS U T R wn rx mb me ga gi gq RB A g0 ev nf FS en (p + 1) ls pa pl pp ix lw cu ld St Gd rk nr R) (hr : ¬ (¬ pl (ls - 1) = pa p ∨ 2 ≤ ld (pa p))) (i t : Nat) (i1 : pp p ≤ i) (i2 : i < ls) (hb : RB (pl i) t) (ha : A t) : ¬ SCC pl (pp p) ls (rx t) := by
  obtain ⟨⟨t1, t2, t3, t4⟩, t5, -⟩ := hS.top
  obtain ⟨-, -, -, p3⟩ := hS.pile
  have h1 : pl (ls - 1) = pa p := Classical.byContradiction (fun z => hr (Or.inl z))
  have h2 : ¬ 2 ≤ ld (pa p) := fun z => hr (Or.inr z)
  have e := p3 (ls - 1) (pp p) (by omega) t1 (h1.trans t2.symm)
  rintro ⟨j, j1, j2, j3⟩
  have ei : i = pp p := by omega
  have ej : j = pp p := by omega
  have hl := (hS.2.2.2.2.2.2.2.2.2.2.1.2.2 (pp p) t1).2
  rw [t2] at hl
  rw [ei, t2] at hb
  rw [ej, t2] at j3
  exact h2 (hl.mpr ⟨t, ha, j3.symm, hb⟩)
/-- a ring with each FAIRNESS in it is fair -/
theorem is_ring (hS : SWS U T R wn rx mb me ga gi gq RB A g0 ev nf FS en (p + 1) ls pa pl pp ix lw cu ld St Gd rk nr R) (heq : lw (pa p) = ix (pa p)) (he : ¬ ev = 0) (hr : ¬ pl (ls - 1) = pa p ∨ 2 ≤ ld (pa p)) (hf : ∀ f, f < nf → ∃ i t, pp p ≤ i ∧ i < ls ∧ RB (pl i) t ∧ A t ∧ SCC pl (pp p) ls (rx t) ∧ FS f t = true) : GDR RB A rx g0 (¬ ev = 0) nf (fun f t => FS f t = true) (pa p) := by
  obtain ⟨⟨t1, t2, t3, t4⟩, t5, -⟩ := hS.top
  have hring := fun x (hx : SCC pl (pp p) ls x) => hS.2.2.2.2.ring hx
  refine GDR.ring ⟨he, ?_, fun f hf2 => ?_⟩
  · rcases hr with y | y
    · obtain ⟨z1, z2⟩ := hring (pl (ls - 1)) ⟨ls - 1, by omega, by omega, rfl⟩
      rcases z1.first with w | ⟨w, w1, w2⟩
      · exact absurd w.symm y
      · exact ⟨w, w1, w2.trans z2⟩
    · have hl := (hS.2.2.2.2.2.2.2.2.2.2.1.2.2 (pp p) t1).2
      rw [t2] at hl
      obtain ⟨t, z1, z2, z3⟩ := hl.mp y
      exact ⟨pa p, ⟨t, z3, z1, z2⟩, RT.refl _⟩
  · obtain ⟨i, t, i1, i2, i3, i4, i5, i6⟩ := hf f hf2
    exact ⟨pl i, t, (hring _ ⟨i, i1, i2, rfl⟩).1, i3, i4, i6, (hring _ i5).2⟩
def F328k : Uf := ⟨[], [(147, 14), (147, 15), (147, 16), (147, 17), (147, 18)], [(147, 12)], [], [152], false⟩
theorem gr_climbT {Φ : mu_R → Prop} (h : um m H) (e : ud m H = U) (hS : SWS U T R wn rx mb me ga gi gq RB A g0 ev nf FS en (p + 1) ls pa pl pp ix lw cu ld St Gd rk nr R) (hn : ∀ t, t < T → RB (pa p) t → ¬ bts (U.2.2.2.2.1 150) t = true) (hiv : p + 1 ≤ iv) (hivb : iv ≤ 20000) (hph : 8 * (R - en) + 2 * cpt pa cu T (p + 1) + 2 * ls ≤ ph) (hC : CUR U wn) (hback : ∀ H1, um m H1 → ur m C H H1 → uq F328 U (ud m H1) → GKP ga gi U (ud m H1) → SWX (ud m H1) T R wn rx mb me ga gi gq RB A g0 ev nf FS (iv - 1) ph → mu_W (mu_D (d + 6)) mu_m328 (8, [(1, .inl (nI (iv - 1))), (0, .inr (.inr (some 147)))], [], H1) Φ) (hΦ : ∀ H1, (um m H1 ∧ ur m C H H1 ∧ uq F328 U (ud m H1) ∧ GKP ga gi U (ud m H1) ∧ SWC (ud m H1) T R wn rx mb me ga gi gq RB A g0 ev nf FS ph) → Φ (.inl none, H1)) : mu_W (mu_D (d + 6)) mu_m328 (69, [(2, .inl (nI (pa p))), (1, .inl (nI iv)), (0, .inr (.inr (some 147)))], [], H) Φ := by
  obtain ⟨⟨t1, t2, t3, t4⟩, t5, ⟨t6a, t6b, t6c, t6d, t6e⟩, ⟨t7, t8, t9, t10⟩, t11⟩ := hS.top
  obtain ⟨⟨b1, b2, b3⟩, p1, p2, p3⟩ := hS.pile
  obtain ⟨⟨hG, hgl, hgo, hF⟩, ⟨hs20, hs21, hs22, hs9, hev1⟩, ⟨hA, hAT, hRBT, hg0T, hT150⟩, hCEL, hTJ⟩ := id hS
  have hlwb : lw (pa (p - 1)) < 2147483648 := by
    by_cases hp0 : 0 < p
    · have := (t11 hp0).2.2.2.2.2.1; omega
    · rw [show p - 1 = p by omega]; omega
  have hTT : T ≤ 16384 := hG.1.2.2
  have g10a := hG.2.2.1.2.1
  have g10b := hG.2.2.1.2.2
  have hRT := hG.2.2.1.1
  refine mw_go mu_g328 (k := 3) (f1 := (72, [(2, .inl (nI (pa p))), (1, .inl (nI iv)), (0, .inr (.inr (some 147)))], [.inl (2 : Int32), .inl (nI (pa p)), .inr (.inr (some 147))], H)) (C := []) rfl trivial ?_
  refine mw_cIe (fun _ => rfl) (show mu_is H (some 147) 2 from (h.1.1.is rfl)) (gr_node (d := (d + 5)) (r := pa p) (c := 2) h e (by omega) (by omega)) ?_
  rw [show (U.2.2.1 147 10).2 ((pa p) * 7 + 2) = nI (lw (pa p)) from t6c]
  refine mw_go mu_g328 (k := 3) (f1 := (78, [(2, .inl (nI (pa p))), (1, .inl (nI iv)), (0, .inr (.inr (some 147)))], [.inl (1 : Int32), .inl (nI (pa p)), .inr (.inr (some 147)), .inl (nI (lw (pa p)))], H)) (C := []) rfl trivial ?_
  refine mw_cIe (fun _ => rfl) (show mu_is H (some 147) 2 from (h.1.1.is rfl)) (gr_node (d := (d + 5)) (r := pa p) (c := 1) h e (by omega) (by omega)) ?_
  rw [show (U.2.2.1 147 10).2 ((pa p) * 7 + 1) = nI (ix (pa p)) from t6b]
  refine mw_if (P := (nI (lw (pa p))) = (nI (ix (pa p)))) (a := 84) (b := 138) (fun _ => rfl) trivial (fun h3 => ?_) (fun h3 => ?_)
  · -- 84: (nI (lw (pa p))) = (nI (ix (pa p)))
    have nh3 : (lw (pa p)) = (ix (pa p)) := (nI_eq (by omega) (by omega)).mp (show nI (lw (pa p)) = nI (ix (pa p)) from h3)
    have heq := nh3
    refine mw_go mu_g328 (k := 2) (f1 := (86, [(2, .inl (nI (pa p))), (1, .inl (nI iv)), (0, .inr (.inr (some 147)))], [.inl (nI (pa p)), .inr (.inr (some 147))], H)) (C := []) rfl trivial ?_
    refine mw_cI (fun _ => rfl) (show mu_is H (some 147) 2 from (h.1.1.is rfl)) (gr_openRing (d := (d + 3)) (C := C) (T := T) (R := R) (wn := wn) (ls := ls) (r := pa p) (k := pp p) (lv := ld (pa p)) (ev := ev) (nf := nf) (pl := pl) h e hG hs21 b3 p1 p3 t3 t1 t2 t5 t6e t10 hs9 hev1 hF.1.1 hF.1.2) (fun x4 Q4 q4 => ?_)
    obtain ⟨u4, r4, ho⟩ := q4
    have ht4 : ur m C H Q4 := (ur.refl m C H).trans r4
    rcases ho with ⟨rfl, d4, hco⟩ | ⟨rfl, d4, ho1, ho2, ho3, ho4⟩ | ⟨rfl, ho1, ho2, ho3, ho4, z4, tl, qu, hQ⟩
    · -- 0
      replace hco := HID.mk hco
      refine mw_if (P := (0 : Int32) = 0) (a := 133) (b := 92) (fun _ => rfl) trivial (fun h5 => ?_) (fun h5 => absurd (by decide) h5)
      refine mw_sub (L' := [(2, .inl (nI (pa p))), (1, .inl (nI iv)), (0, .inr (.inr (some 147)))]) (by simp) ?_
      refine gr_climbS (d := d) (C := C) (T := T) (R := R) (wn := wn) (en := en) (ls := ls) (p := p) (pa := pa) (pl := pl) (pp := pp) (ix := ix) (lw := lw) (cu := cu) (ld := ld) (St := St) (Gd := Gd) (rk := rk) (nr := nr) (U := U) (lvx := ld (pa p)) u4 d4 hS hn hiv hivb hph heq (uq.refl _ _) hC (fun j => ?_) t10 (fun y => hTJ.2.2.2.2.2.2.1.1 p (by omega) y) (fun y => y) (fun y => ?_) (fun H1 y1 y2 y3 y4 y5 => hback H1 y1 (ht4.trans y2) y3 y4 y5)
      · by_cases y : j = pa p * 7 + 4
        · rw [if_pos y, y]; exact t6e
        · rw [if_neg y]
      · rcases hco.out with z | z | z
        · exact absurd z y
        · exact Or.inl (fun w => w z)
        · exact Or.inr (Or.inr (no_ring hS z))
    · -- 1
      refine mw_if (P := (0 : Int32) = 0) (a := 133) (b := 92) (fun _ => rfl) trivial (fun h6 => ?_) (fun h6 => absurd (by decide) h6)
      refine mw_sub (L' := [(2, .inl (nI (pa p))), (1, .inl (nI iv)), (0, .inr (.inr (some 147)))]) (by simp) ?_
      refine gr_climbS (d := d) (C := C) (T := T) (R := R) (wn := wn) (en := en) (ls := ls) (p := p) (pa := pa) (pl := pl) (pp := pp) (ix := ix) (lw := lw) (cu := cu) (ld := ld) (St := St) (Gd := Gd) (rk := rk) (nr := nr) (U := U) (lvx := ld (pa p) + 1) u4 d4 hS hn hiv hivb hph heq ((uq.refl F328w U).A rfl) (hC.keep (F := F328c) ((uq.refl F328c U).A rfl) rfl rfl) (fun j => rfl) (by omega) (fun _ => is_ring hS heq ho2 ho3 (fun f hf => absurd hf (by omega))) (fun y => absurd y (by omega)) (fun y => absurd y (by omega)) (fun H1 y1 y2 y3 y4 y5 => hback H1 y1 (ht4.trans y2) y3 y4 y5)
    · -- 2
      obtain ⟨V4, d4⟩ : ∃ V, ud m Q4 = V := ⟨_, rfl⟩
      rw [d4] at z4 hQ
      have hq18 : V4.2.1 147 18 = nI tl := hQ.1
      have hqr := hQ.room
      refine mw_if (P := (1 : Int32) = 0) (a := 133) (b := 92) (fun _ => rfl) trivial (fun h7 => absurd h7 (by decide)) (fun h7 => ?_)
      refine mw_go mu_g328 (k := 3) (f1 := (97, [(2, .inl (nI (pa p))), (1, .inl (nI iv)), (0, .inr (.inr (some 147)))], [.inl (mu_i Q4 147 18), .inr (.inr (some 147))], Q4)) (C := [mu_is Q4 (some 147) 2]) rfl (show mu_is Q4 (some 147) 2 from (u4.1.1.is rfl)) ?_
      rw [(show mu_i Q4 147 18 = (nI tl) from (ud_i (U := V4) (m := m) (P := 147) (j := 18) d4 rfl).trans hq18)]
      have hTT : T ≤ 16384 := hG.1.2.2
      obtain ⟨qk1, qk2, qk3, qk4, qk5, qk6⟩ := id hQ
      refine mw_cI (fun _ => rfl) (show mu_is Q4 (some 147) 2 from (u4.1.1.is rfl)) (gr_isFair (d := (d + 2)) (mn := tl) (qu := qu) (T := T) (nf := nf) (FS := FS) u4 d4 (hF.eq (z4.i 99 19 rfl) (z4.a 113 3 rfl) (fun c => by rw [z4.2.2.2.2.2 rfl])) hTT (by rw [z4.n 147 12 rfl]; have := hG.2.2.2.2.1.1; omega) (by rw [z4.n 147 12 rfl]; exact hG.2.2.2.2.1.2) qk2 (fun t ht => (qk5 t ht).trans (qk4 t).symm)) (fun x8 H8 q8 => ?_)
      obtain ⟨he8, hfr⟩ := q8
      rw [he8]
      rcases hfr with ⟨rfl, hfr⟩ | ⟨rfl, hfr⟩
      all_goals replace hfr := HID.mk hfr
      · -- fair (1 : Int32)
        refine mw_if (P := (1 : Int32) = 0) (a := 133) (b := 103) (fun _ => rfl) trivial (fun h9 => absurd h9 (by decide)) (fun h9 => ?_)
        refine mw_go mu_g328 (k := 3) (f1 := (108, [(2, .inl (nI (pa p))), (1, .inl (nI iv)), (0, .inr (.inr (some 147)))], [], (mu_si Q4 147 14 (4 : Int32)))) (C := [mu_is Q4 (some 147) 2]) rfl (show mu_is Q4 (some 147) 2 from (u4.1.1.is rfl)) ?_
        obtain ⟨u10, r10, d10⟩ : um m (mu_si Q4 147 14 (4 : Int32)) ∧ ur m C Q4 (mu_si Q4 147 14 (4 : Int32)) ∧ ud m (mu_si Q4 147 14 (4 : Int32)) = (upI V4 147 14 (4 : Int32)) := u4.sI (C := C) d4 rfl
        generalize (mu_si Q4 147 14 (4 : Int32)) = Q10 at u10 r10 d10 ⊢
        have ht10 : ur m C H Q10 := ht4.trans r10
        refine mw_go mu_g328 (k := 3) (f1 := (113, [(2, .inl (nI (pa p))), (1, .inl (nI iv)), (0, .inr (.inr (some 147)))], [], (mu_si Q10 147 16 (0 : Int32)))) (C := [mu_is Q10 (some 147) 2]) rfl (show mu_is Q10 (some 147) 2 from (u10.1.1.is rfl)) ?_
        obtain ⟨u11, r11, d11⟩ : um m (mu_si Q10 147 16 (0 : Int32)) ∧ ur m C Q10 (mu_si Q10 147 16 (0 : Int32)) ∧ ud m (mu_si Q10 147 16 (0 : Int32)) = (upI (upI V4 147 14 (4 : Int32)) 147 16 (0 : Int32)) := u10.sI (C := C) d10 rfl
        generalize (mu_si Q10 147 16 (0 : Int32)) = Q11 at u11 r11 d11 ⊢
        have ht11 : ur m C H Q11 := ht10.trans r11
        refine mw_go mu_g328 (k := 3) (f1 := (116, [(2, .inl (nI (pa p))), (1, .inl (nI iv)), (0, .inr (.inr (some 147)))], [.inl (nI (pa p)), .inr (.inr (some 147)), .inr (.inr (some 147))], Q11)) (C := []) rfl trivial ?_
        refine mw_cIe (fun _ => rfl) (show mu_is Q11 (some 147) 2 from (u11.1.1.is rfl)) (gr_ring (d := (d + 4)) (ps := ls) (pl := pl) (r := pa p) (q := pp p) u11 d11 ((show ((upI (upI V4 147 14 (4 : Int32)) 147 16 (0 : Int32)).2.1 147 21) = (U.2.1 147 21) from (z4.i 147 21 rfl)).trans hs21) (by rw [(show ((upI (upI V4 147 14 (4 : Int32)) 147 16 (0 : Int32)).2.2.1 147 10).1 = (U.2.2.1 147 10).1 from (z4.n 147 10 rfl))]; have := hG.2.2.1.2.1; omega) (by rw [(show ((upI (upI V4 147 14 (4 : Int32)) 147 16 (0 : Int32)).2.2.1 147 10).1 = (U.2.2.1 147 10).1 from (z4.n 147 10 rfl))]; exact hG.2.2.1.2.2) (fun i hi => by rw [(show ((upI (upI V4 147 14 (4 : Int32)) 147 16 (0 : Int32)).2.2.1 147 10) = (U.2.2.1 147 10) from (z4.a 147 10 rfl))]; exact ⟨(p1 i hi).1, by have := (p1 i hi).2; omega⟩) (by omega) t1 t2 t5) ?_
        refine mw_go mu_g328 (k := 1) (f1 := (122, [(2, .inl (nI (pa p))), (1, .inl (nI iv)), (0, .inr (.inr (some 147)))], [], (mu_si Q11 147 17 (nI (pp p))))) (C := [mu_is Q11 (some 147) 2]) rfl (show mu_is Q11 (some 147) 2 from (u11.1.1.is rfl)) ?_
        obtain ⟨u13, r13, d13⟩ : um m (mu_si Q11 147 17 (nI (pp p))) ∧ ur m C Q11 (mu_si Q11 147 17 (nI (pp p))) ∧ ud m (mu_si Q11 147 17 (nI (pp p))) = (upI (upI (upI V4 147 14 (4 : Int32)) 147 16 (0 : Int32)) 147 17 (nI (pp p))) := u11.sI (C := C) d11 rfl
        generalize (mu_si Q11 147 17 (nI (pp p))) = Q13 at u13 r13 d13 ⊢
        have ht13 : ur m C H Q13 := ht11.trans r13
        refine mw_go mu_g328 (k := 3) (f1 := (127, [(2, .inl (nI (pa p))), (1, .inl (nI iv)), (0, .inr (.inr (some 147)))], [], (mu_si Q13 147 18 (0 : Int32)))) (C := [mu_is Q13 (some 147) 2]) rfl (show mu_is Q13 (some 147) 2 from (u13.1.1.is rfl)) ?_
        obtain ⟨u14, r14, d14⟩ : um m (mu_si Q13 147 18 (0 : Int32)) ∧ ur m C Q13 (mu_si Q13 147 18 (0 : Int32)) ∧ ud m (mu_si Q13 147 18 (0 : Int32)) = (upI (upI (upI (upI V4 147 14 (4 : Int32)) 147 16 (0 : Int32)) 147 17 (nI (pp p))) 147 18 (0 : Int32)) := u13.sI (C := C) d13 rfl
        generalize (mu_si Q13 147 18 (0 : Int32)) = Q14 at u14 r14 d14 ⊢
        have ht14 : ur m C H Q14 := ht13.trans r14
        refine mw_go mu_g328 (k := 3) (f1 := (132, [(2, .inl (nI (pa p))), (1, .inl (nI iv)), (0, .inr (.inr (some 147)))], [], (mu_si Q14 147 15 (nI (pa p))))) (C := [mu_is Q14 (some 147) 2]) rfl (show mu_is Q14 (some 147) 2 from (u14.1.1.is rfl)) ?_
        obtain ⟨u15, r15, d15⟩ : um m (mu_si Q14 147 15 (nI (pa p))) ∧ ur m C Q14 (mu_si Q14 147 15 (nI (pa p))) ∧ ud m (mu_si Q14 147 15 (nI (pa p))) = (upI (upI (upI (upI (upI V4 147 14 (4 : Int32)) 147 16 (0 : Int32)) 147 17 (nI (pp p))) 147 18 (0 : Int32)) 147 15 (nI (pa p))) := u14.sI (C := C) d14 rfl
        generalize (mu_si Q14 147 15 (nI (pa p))) = Q15 at u15 r15 d15 ⊢
        have ht15 : ur m C H Q15 := ht14.trans r15
        have hqk : uq F328 U (upI (upI (upI (upI (upI V4 147 14 (4 : Int32)) 147 16 (0 : Int32)) 147 17 (nI (pp p))) 147 18 (0 : Int32)) 147 15 (nI (pa p))) := (show uq F328 U (upI (upI (upI (upI (upI V4 147 14 (4 : Int32)) 147 16 (0 : Int32)) 147 17 (nI (pp p))) 147 18 (0 : Int32)) 147 15 (nI (pa p))) from (((((((uq.refl F328 U).tr z4 rfl).I rfl).I rfl).I rfl).I rfl).I rfl))
        have hqs : uq F328k U (upI (upI (upI (upI (upI V4 147 14 (4 : Int32)) 147 16 (0 : Int32)) 147 17 (nI (pp p))) 147 18 (0 : Int32)) 147 15 (nI (pa p))) := (show uq F328k U (upI (upI (upI (upI (upI V4 147 14 (4 : Int32)) 147 16 (0 : Int32)) 147 17 (nI (pp p))) 147 18 (0 : Int32)) 147 15 (nI (pa p))) from (((((((uq.refl F328k U).tr z4 rfl).I rfl).I rfl).I rfl).I rfl).I rfl))
        refine mw_of (fun _ => mu_ret rfl trivial (hΦ Q15 ⟨u15, ht15, (by rw [d15]; exact hqk), (by rw [d15]; exact gkp_q hqs rfl rfl rfl), ?_⟩))
        rw [d15]
        refine ⟨en, p, ls, pa, pl, pp, ix, lw, cu, ld, St, Gd, rk, nr, hS.keep hqs rfl (fun _ => rfl) (fun _ => rfl), rfl, ⟨heq, ho1, ho2, ho4, ho3⟩, (by rw [hqs.l 150 rfl]; exact hn), pp p, 0, 0, fun _ => 0, (by rw [t2]; exact rfl), ⟨Nat.le_refl _, t1, rfl⟩, ⟨rfl, Nat.zero_le _, fun i hi => absurd hi (Nat.not_lt_zero i)⟩, ⟨rfl, Nat.zero_le _, fun i hi => absurd hi (Nat.not_lt_zero i), fun i j hi => absurd hi (Nat.not_lt_zero i)⟩, fun t => ⟨fun ⟨i, hi, _⟩ => absurd hi (Nat.not_lt_zero i), fun ⟨_, _, i, i1, i2, _⟩ => absurd i2 (by omega)⟩, fun t ht => ?_, qk6, by omega⟩
        refine (qk5 t ht).trans ⟨fun y => ⟨(hA t ht).mp y.2.1, y.2.2, fun ⟨i, i1, i2, _⟩ => absurd i2 (by omega)⟩, fun y => ⟨ht, (hA t ht).mpr y.1, y.2.1⟩⟩
      · -- fair (0 : Int32)
        refine mw_if (P := (0 : Int32) = 0) (a := 133) (b := 103) (fun _ => rfl) trivial (fun h16 => ?_) (fun h16 => absurd (by decide) h16)
        refine mw_sub (L' := [(2, .inl (nI (pa p))), (1, .inl (nI iv)), (0, .inr (.inr (some 147)))]) (by simp) ?_
        refine gr_climbS (d := d) (C := C) (T := T) (R := R) (wn := wn) (en := en) (ls := ls) (p := p) (pa := pa) (pl := pl) (pp := pp) (ix := ix) (lw := lw) (cu := cu) (ld := ld) (St := St) (Gd := Gd) (rk := rk) (nr := nr) (U := U) (lvx := ld (pa p)) u4 d4 hS hn hiv hivb hph heq (z4.mono (G := F328w) rfl) (hC.keep z4 rfl rfl) (fun j => ?_) t10 (fun y => absurd y (by omega)) (fun y => y) (fun _ => Or.inr (Or.inl ?_)) (fun H1 y1 y2 y3 y4 y5 => hback H1 y1 (ht4.trans y2) y3 y4 y5)
        · rw [z4.a 147 10 rfl]
          by_cases y : j = pa p * 7 + 4
          · rw [if_pos y, y]; exact t6e
          · rw [if_neg y]
        · obtain ⟨f, f1, f2⟩ := hfr.out
          refine ⟨f, f1, fun i t i1 i2 hb ha hsc => ?_⟩
          obtain ⟨j, j1, j2⟩ := (qk4 t).mpr ⟨hAT t ha, (hA t (hAT t ha)).mpr ha, hsc⟩
          have y := f2 j j1
          rw [j2] at y
          rw [y]
          exact fun w => by cases w
  · -- 138: not (nI (lw (pa p))) = (nI (ix (pa p)))
    have nh3 : ¬ (lw (pa p)) = (ix (pa p)) := fun z => h3 (show nI (lw (pa p)) = nI (ix (pa p)) from (nI_eq (by omega) (by omega)).mpr z)
    have hlne := nh3
    refine mw_go mu_g328 (k := 2) (f1 := (140, [(2, .inl (nI (pa p))), (1, .inl (nI iv)), (0, .inr (.inr (some 147)))], [.inl (nI (pa p)), .inr (.inr (some 147))], H)) (C := []) rfl trivial ?_
    refine mw_cV (fun _ => rfl) (show mu_is H (some 147) 2 from (h.1.1.is rfl)) (gr_leave (d := (d + 4)) (C := C) (T := T) (R := R) (pz := p) (r := pa p) (ab := pa (p - 1)) (la := lw (pa (p - 1))) (da := if 0 < p then ld (pa (p - 1)) else 0) (lr := lw (pa p)) (dr := ld (pa p)) h e hG hs20 (by omega) t3 (fun hp0 => (by obtain ⟨y1, y2, y3, y4, y5, y6, y7⟩ := t11 hp0; rw [if_pos hp0]; exact ⟨y1, y2, y3, y4⟩)) hlwb (by by_cases hp0 : 0 < p; (rw [if_pos hp0]; exact (t11 hp0).2.2.2.2.2.2); (rw [if_neg hp0]; decide)) t6c (by omega) t6e t10) (fun Q17 q17 => ?_)
    obtain ⟨u17, r17, z17, hl20, hlc⟩ := q17
    have ht17 : ur m C H Q17 := (ur.refl m C H).trans r17
    obtain ⟨V17, d17⟩ : ∃ V, ud m Q17 = V := ⟨_, rfl⟩
    rw [d17] at z17 hl20 hlc
    have qf17 : uq F328 U V17 := (z17.mono (G := F328) rfl)
    have hgke : GKP ga gi U V17 := gkp_q z17 rfl rfl rfl
    obtain ⟨lw2, ld2, hS2⟩ := hS.merge (V := V17) hn hlne z17 hl20 (hlc.imp id (fun y => ⟨y.1, fun j => by have w := y.2 j; rw [if_pos y.1] at w; exact w⟩))
    have hCn : CUR V17 wn := hC.keep z17 rfl rfl
    have hX2 : SWX V17 T R wn rx mb me ga gi gq RB A g0 ev nf FS (iv - 1) ph := ⟨en, p, ls, pa, pl, pp, ix, lw2, cu, ld2, St, Gd, rk, nr, hS2, hCn, by omega, (by have y : cpt pa cu T (p + 1) = cpt pa cu T p + (if cu (pa p) < T then 1 else 0) := rfl; by_cases w : cu (pa p) < T; (rw [if_pos w] at y; omega); (rw [if_neg w] at y; omega))⟩
    refine mw_go mu_g328 (k := 1) (f1 := (146, [(1, .inl ((nI iv) + (-1))), (2, .inl (nI (pa p))), (0, .inr (.inr (some 147)))], [], Q17)) (C := []) rfl trivial ?_
    rw [(show ((nI iv) + (-1)) = (nI (iv - 1)) from ((Int32.sub_eq_add_neg _ _).symm.trans (nI_sub (a := iv) (b := 1) (by omega))))]
    refine mw_go mu_g328 (k := 1) (f1 := (8, [(1, .inl (nI (iv - 1))), (2, .inl (nI (pa p))), (0, .inr (.inr (some 147)))], [], Q17)) (C := []) rfl trivial ?_
    exact mw_sub (by simp) (hback Q17 u17 ht17 (by rw [d17]; exact qf17) (by rw [d17]; exact hgke) (by rw [d17]; exact hX2))
/-- a sweep between two visits; ph bounds the visits that are left -/
def SWJ (V : Ud) (T R wn : Nat) (rx mb me : Nat → Nat) (ga gi gq : Nat) (RB : Nat → Nat → Prop) (A g0 : Nat → Prop) (ev nf : Nat) (FS : Nat → Nat → Bool) (ph : Nat) : Prop :=
  (V.2.1 147 14 = 2 ∧ ∃ en ps ls pa pl pp ix lw cu ld St Gd rk nr xr, SWS V T R wn rx mb me ga gi gq RB A g0 ev nf FS en ps ls pa pl pp ix lw cu ld St Gd rk nr xr ∧ CUR V wn ∧ 8 * (R - en) + 2 * cpt pa cu T ps + 2 * ls ≤ ph ∧ ((V.2.1 147 15 = -1 ∧ ls = 0 ∧ ∀ t, ¬ (t < T ∧ bts (V.2.2.2.2.1 150) t = true)) ∨ ∃ t0, t0 < T ∧ bts (V.2.2.2.2.1 150) t0 = true ∧ V.2.1 147 15 = nI (rx t0) ∧ (∀ j, j + 1 = ps → RT (EDG RB A rx) (pa j) (rx t0)) ∧ ∀ t, t < T → bts (V.2.2.2.2.1 150) t = true → rx t = xr → rx t = rx t0)) ∨
  (V.2.1 147 14 = 3 ∧ ∃ en p ls pa pl pp ix lw cu ld St Gd rk nr, SWS V T R wn rx mb me ga gi gq RB A g0 ev nf FS en (p + 1) ls pa pl pp ix lw cu ld St Gd rk nr R ∧ CUR V wn ∧ 8 * (R - en) + 2 * cpt pa cu T (p + 1) + 2 * ls + 1 ≤ ph ∧ V.2.1 147 15 = nI (pa p) ∧ cu (pa p) < T) ∨
  SWC V T R wn rx mb me ga gi gq RB A g0 ev nf FS ph
theorem swc_up (h : SWC V T R wn rx mb me ga gi gq RB A g0 ev nf FS ph) : SWC V T R wn rx mb me ga gi gq RB A g0 ev nf FS (ph + 1) := by
  obtain ⟨en, p, ls, pa, pl, pp, ix, lw, cu, ld, St, Gd, rk, nr, h1, h2, h3, h4, hd, c, tl, qu, h5, h6, h7, h8, h9, h10, h11, h12⟩ := h
  exact ⟨en, p, ls, pa, pl, pp, ix, lw, cu, ld, St, Gd, rk, nr, h1, h2, h3, h4, hd, c, tl, qu, h5, h6, h7, h8, h9, h10, h11, by omega⟩
def F328a : Uf := ⟨[], [(147, 14), (147, 15), (147, 16), (147, 17), (147, 18), (147, 20), (147, 21)], [(147, 10), (147, 12)], [], [152, 151, 148, 162], true⟩
theorem gr_climb (h : um m H) (e : ud m H = U) (hN : U.2.1 113 2 = nI N) (hfb : U.2.1 113 8 = nI fb) (hfN : fb ≤ N) (hR : R = N - fb) (hRb : R ≤ 20000) (hX0 : SWX U T R wn rx mb me ga gi gq RB A g0 ev nf FS R ph) : mu_TV (mu_D (d + 7)) 328 [.inr (.inr (some 147))] H (fun H1 => um m H1 ∧ ur m C H H1 ∧ uq F328 U (ud m H1) ∧ GKP ga gi U (ud m H1) ∧ SWJ (ud m H1) T R wn rx mb me ga gi gq RB A g0 ev nf FS (ph + 1)) := by
  refine mu_meth (M := mu_m328) rfl rfl ?_
  refine mw_ht (mu_fn_of (show [0].Nodup by decide)) ?_
  refine mw_go mu_g328 (k := 2) (f1 := (4, [(0, .inr (.inr (some 147)))], [.inr (.inr (mu_r H 147 1))], H)) (C := [mu_is H (some 147) 2]) rfl (show mu_is H (some 147) 2 from (h.1.1.is rfl)) ?_
  rw [(h.1.1.r (p := 147) (j := 1) (q := 129) rfl)]
  refine mw_cIe (fun _ => rfl) (show mu_is H (some 129) 9 from (h.1.1.is rfl)) (rl_rows (d := (d + 5)) h e hfb hN hfN) ?_
  rw [show nI (N - fb) = nI R from congrArg nI hR.symm]
  refine mw_go mu_g328 (k := 1) (f1 := (8, [(1, .inl (nI R)), (0, .inr (.inr (some 147)))], [], H)) (C := []) rfl trivial ?_
  refine mw_sub (L' := [(1, .inl (nI R)), (0, .inr (.inr (some 147)))]) (by simp) ?_
  refine mw_down (α := Nat × mu_H) (fun zs => (8, [(1, .inl (nI zs.1)), (0, .inr (.inr (some 147)))], [], zs.2)) (fun zs => zs.1) (fun zs => um m zs.2 ∧ ur m C H zs.2 ∧ (uq F328a U (ud m zs.2)) ∧ (zs.1 ≤ 20000) ∧ (GKP ga gi U (ud m zs.2)) ∧ (SWX (ud m zs.2) T R wn rx mb me ga gi gq RB A g0 ev nf FS zs.1 ph)) (fun zs hza iha => ?_) (R, H) ⟨h, (ur.refl m C H), (show uq F328a U (ud m H) from by rw [e]; exact uq.refl _ _), (show R ≤ 20000 from (by omega)), (show GKP ga gi U (ud m H) from by rw [e]; exact (GKP.refl _ _ _)), (show SWX (ud m H) T R wn rx mb me ga gi gq RB A g0 ev nf FS R ph from by rw [e]; exact hX0)⟩
  obtain ⟨iv, Hsa⟩ := zs
  obtain ⟨ua, hta, da, hiv, hka, hX⟩ := hza
  have ua : um m Hsa := ua
  have hta : ur m C H Hsa := hta
  have zza : uq F328a U (ud m Hsa) := da
  have hiv : iv ≤ 20000 := hiv
  have hka : GKP ga gi U (ud m Hsa) := hka
  have hX : SWX (ud m Hsa) T R wn rx mb me ga gi gq RB A g0 ev nf FS iv ph := hX
  obtain ⟨Va, da⟩ : ∃ V, ud m Hsa = V := ⟨_, rfl⟩
  rw [da] at zza hka hX
  have qfa : uq F328 U Va := (uq.refl F328 U).tr zza rfl
  show mu_W _ _ (8, [(1, .inl (nI iv)), (0, .inr (.inr (some 147)))], [], Hsa) _
  obtain ⟨en, ps, ls, pa, pl, pp, ix, lw, cu, ld, St, Gd, rk, nr, hS, hC, hpi, hph⟩ := id hX
  replace hX := HID.mk hX
  have hs20 : Va.2.1 147 20 = nI ps := hS.2.1.1
  have hpsR : ps ≤ T + 1 := hS.pile.1.2.1
  have hg11 : Va.2.1 99 11 = nI T := hS.1.1.1.1.2
  have hTT : T ≤ 16384 := hS.1.1.1.2.2
  have g10a := hS.1.1.2.2.1.2.1
  have g10b := hS.1.1.2.2.1.2.2
  have hRT := hS.1.1.2.2.1.1
  refine mw_go mu_g328 (k := 1) (f1 := (9, [(1, .inl (nI iv)), (0, .inr (.inr (some 147)))], [.inl (nI iv)], Hsa)) (C := []) rfl trivial ?_
  refine mw_if (P := (nI iv) < 0) (a := 149) (b := 12) (fun _ => rfl) trivial (fun h2 => absurd h2 (show ¬ (nI iv) < 0 from nI_pos (by omega))) (fun h2 => ?_)
  refine mw_go mu_g328 (k := 2) (f1 := (16, [(1, .inl (nI iv)), (0, .inr (.inr (some 147)))], [.inl (mu_i Hsa 147 20)], Hsa)) (C := [mu_is Hsa (some 147) 2]) rfl (show mu_is Hsa (some 147) 2 from (ua.1.1.is rfl)) ?_
  rw [(show mu_i Hsa 147 20 = (nI ps) from (ud_i (U := Va) (m := m) (P := 147) (j := 20) da rfl).trans hs20)]
  refine mw_if (P := 0 < (nI ps)) (a := 19) (b := 149) (fun _ => rfl) trivial (fun h3 => ?_) (fun h3 => ?_)
  · -- 19: 0 < (nI ps)
    have nh3 : 0 < ps := (nI_ltI (by omega) (by omega)).mp (show nI 0 < nI ps from h3)
    obtain ⟨p, hpe⟩ : ∃ p, ps = p + 1 := ⟨ps - 1, by omega⟩
    subst hpe
    obtain ⟨⟨t1, t2, t3, t4⟩, t5, ⟨t6a, t6b, t6c, t6d, t6e⟩, ⟨t7, t8, t9, t10⟩, t11⟩ := hS.top
    refine mw_go mu_g328 (k := 3) (f1 := (24, [(1, .inl (nI iv)), (0, .inr (.inr (some 147)))], [.inl (mu_i Hsa 147 20), .inr (.inr (some 147))], Hsa)) (C := [mu_is Hsa (some 147) 2]) rfl (show mu_is Hsa (some 147) 2 from (ua.1.1.is rfl)) ?_
    rw [(show mu_i Hsa 147 20 = (nI (p + 1)) from (ud_i (U := Va) (m := m) (P := 147) (j := 20) da rfl).trans hs20)]
    refine mw_go mu_g328 (k := 2) (f1 := (26, [(1, .inl (nI iv)), (0, .inr (.inr (some 147)))], [.inl ((nI (p + 1)) - (1 : Int32)), .inr (.inr (some 147))], Hsa)) (C := []) rfl trivial ?_
    rw [(show ((nI (p + 1)) - (1 : Int32)) = (nI p) from ((nI_sub (a := p + 1) (b := 1) (by omega)).trans (congrArg nI (by omega))))]
    refine mw_go mu_g328 (k := 1) (f1 := (27, [(1, .inl (nI iv)), (0, .inr (.inr (some 147)))], [.inl (5 : Int32), .inl (nI p), .inr (.inr (some 147))], Hsa)) (C := []) rfl trivial ?_
    refine mw_cIe (fun _ => rfl) (show mu_is Hsa (some 147) 2 from (ua.1.1.is rfl)) (gr_node (d := (d + 5)) (r := p) (c := 5) ua da (by omega) (by omega)) ?_
    rw [show (Va.2.2.1 147 10).2 (p * 7 + 5) = nI (pa p) from t6a]
    refine mw_go mu_g328 (k := 4) (f1 := (34, [(2, .inl (nI (pa p))), (1, .inl (nI iv)), (0, .inr (.inr (some 147)))], [.inl (3 : Int32), .inl (nI (pa p)), .inr (.inr (some 147))], Hsa)) (C := []) rfl trivial ?_
    refine mw_cIe (fun _ => rfl) (show mu_is Hsa (some 147) 2 from (ua.1.1.is rfl)) (gr_node (d := (d + 5)) (r := pa p) (c := 3) ua da (by omega) (by omega)) ?_
    rw [show (Va.2.2.1 147 10).2 ((pa p) * 7 + 3) = nI (cu (pa p)) from t6d]
    refine mw_go mu_g328 (k := 2) (f1 := (41, [(2, .inl (nI (pa p))), (1, .inl (nI iv)), (0, .inr (.inr (some 147)))], [.inr (.inr (mu_r Hsa 147 0)), .inl (nI (cu (pa p)))], Hsa)) (C := [mu_is Hsa (some 147) 2]) rfl (show mu_is Hsa (some 147) 2 from (ua.1.1.is rfl)) ?_
    rw [(ua.1.1.r (p := 147) (j := 0) (q := 99) rfl)]
    refine mw_go mu_g328 (k := 1) (f1 := (44, [(2, .inl (nI (pa p))), (1, .inl (nI iv)), (0, .inr (.inr (some 147)))], [.inl (mu_i Hsa 99 11), .inl (nI (cu (pa p)))], Hsa)) (C := [mu_is Hsa (some 99) 13]) rfl (show mu_is Hsa (some 99) 13 from (ua.1.1.is rfl)) ?_
    rw [(show mu_i Hsa 99 11 = (nI T) from (ud_i (U := Va) (m := m) (P := 99) (j := 11) da rfl).trans hg11)]
    refine mw_if (P := (nI (cu (pa p))) < (nI T)) (a := 47) (b := 69) (fun _ => rfl) trivial (fun h6 => ?_) (fun h6 => ?_)
    · -- 47: (nI (cu (pa p))) < (nI T)
      have nh6 : (cu (pa p)) < T := (nI_ltI (by omega) (by omega)).mp (show nI (cu (pa p)) < nI T from h6)
      refine mw_go mu_g328 (k := 3) (f1 := (52, [(2, .inl (nI (pa p))), (1, .inl (nI iv)), (0, .inr (.inr (some 147)))], [.inr (.inr (mu_r Hsa 147 4)), .inr (.inr (some 147))], Hsa)) (C := [mu_is Hsa (some 147) 2]) rfl (show mu_is Hsa (some 147) 2 from (ua.1.1.is rfl)) ?_
      rw [(ua.1.1.r (p := 147) (j := 4) (q := 150) rfl)]
      obtain ⟨c, hc1, hc2, hc3⟩ := id hC
      replace hC := HID.mk hC
      refine mw_cI (fun _ => rfl) (show mu_is Hsa (some 147) 2 from (ua.1.1.is rfl)) (gr_emptied150 (d := (d + 5)) (C := C) (wn := wn) (c := c) ua da hS.1.1.1.1.1 (by have := hS.1.1.1.2.1; omega) hc1 hc2 hc3) (fun x7 Q7 q7 => ?_)
      obtain ⟨u7, r7, z7, x0, hx1, hx2, hx16, hx0, hxa⟩ := q7
      have ht7 : ur m C H Q7 := hta.trans r7
      obtain ⟨V7, d7⟩ : ∃ V, ud m Q7 = V := ⟨_, rfl⟩
      rw [d7] at z7 hx16
      have hS7 := hS.keep z7 rfl (fun _ => rfl) (fun _ => rfl)
      have hC7 : CUR V7 wn := ⟨x0, hx16, hx2, by rw [z7.l 150 rfl]; exact hx0⟩
      have qe7 : uq F328 U V7 := qfa.tr z7 rfl
      have hk7 : GKP ga gi U V7 := hka.trans (gkp_q z7 rfl rfl rfl)
      rcases hxa with ⟨rfl, hx3, hx4⟩ | ⟨rfl, hx3⟩
      · -- emptied (0 : Int32)
        refine mw_if (P := (0 : Int32) = 0) (a := 58) (b := 69) (fun _ => rfl) trivial (fun h8 => ?_) (fun h8 => absurd (by decide) h8)
        refine mw_go mu_g328 (k := 3) (f1 := (63, [(2, .inl (nI (pa p))), (1, .inl (nI iv)), (0, .inr (.inr (some 147)))], [], (mu_si Q7 147 14 (3 : Int32)))) (C := [mu_is Q7 (some 147) 2]) rfl (show mu_is Q7 (some 147) 2 from (u7.1.1.is rfl)) ?_
        obtain ⟨u9, r9, d9⟩ : um m (mu_si Q7 147 14 (3 : Int32)) ∧ ur m C Q7 (mu_si Q7 147 14 (3 : Int32)) ∧ ud m (mu_si Q7 147 14 (3 : Int32)) = (upI V7 147 14 (3 : Int32)) := u7.sI (C := C) d7 rfl
        generalize (mu_si Q7 147 14 (3 : Int32)) = Q9 at u9 r9 d9 ⊢
        have qf9 : uq F328 U (upI V7 147 14 (3 : Int32)) := qe7.I rfl
        have ht9 : ur m C H Q9 := ht7.trans r9
        refine mw_go mu_g328 (k := 3) (f1 := (68, [(2, .inl (nI (pa p))), (1, .inl (nI iv)), (0, .inr (.inr (some 147)))], [], (mu_si Q9 147 15 (nI (pa p))))) (C := [mu_is Q9 (some 147) 2]) rfl (show mu_is Q9 (some 147) 2 from (u9.1.1.is rfl)) ?_
        obtain ⟨u10, r10, d10⟩ : um m (mu_si Q9 147 15 (nI (pa p))) ∧ ur m C Q9 (mu_si Q9 147 15 (nI (pa p))) ∧ ud m (mu_si Q9 147 15 (nI (pa p))) = (upI (upI V7 147 14 (3 : Int32)) 147 15 (nI (pa p))) := u9.sI (C := C) d9 rfl
        generalize (mu_si Q9 147 15 (nI (pa p))) = Q10 at u10 r10 d10 ⊢
        have qf10 : uq F328 U (upI (upI V7 147 14 (3 : Int32)) 147 15 (nI (pa p))) := qf9.I rfl
        have ht10 : ur m C H Q10 := ht9.trans r10
        have hqs : uq F321 V7 (upI (upI V7 147 14 (3 : Int32)) 147 15 (nI (pa p))) := (show uq F321 V7 (upI (upI V7 147 14 (3 : Int32)) 147 15 (nI (pa p))) from (((uq.refl F321 V7).I rfl).I rfl))
        refine mw_of (fun _ => mu_ret rfl trivial ⟨Q10, rfl, u10, ht10, (by rw [d10]; exact qe7.tr hqs rfl), (by rw [d10]; exact hk7.trans (gkp_q hqs rfl rfl rfl)), ?_⟩)
        rw [d10]
        exact Or.inr (Or.inl ⟨rfl, en, p, ls, pa, pl, pp, ix, lw, cu, ld, St, Gd, rk, nr, hS7.keep hqs rfl (fun _ => rfl) (fun _ => rfl), ⟨x0, hx16, hx2, by rw [hqs.l 150 rfl, z7.l 150 rfl]; exact hx0⟩, by omega, rfl, by omega⟩)
      · -- emptied (1 : Int32)
        refine mw_if (P := (1 : Int32) = 0) (a := 58) (b := 69) (fun _ => rfl) trivial (fun h11 => absurd h11 (by decide)) (fun h11 => ?_)
        refine mw_sub (L' := [(2, .inl (nI (pa p))), (1, .inl (nI iv)), (0, .inr (.inr (some 147)))]) (by simp) ?_
        refine gr_climbT (d := d) (C := C) (iv := iv) (ph := ph) u7 d7 hS7 (fun t ht hb hu => (by rw [z7.l 150 rfl] at hu; exact emp52 hS.1.1.1.2.1 ht (fun i hi => hx0 i (by omega)) hu)) (by omega) hiv hph hC7 (fun H1 y1 y2 y3 y4 y5 => ?_) (fun H1 y => ?_)
        · refine iha (iv - 1, H1) ⟨y1, ht7.trans y2, (zza.tr z7 rfl).tr y3 rfl, (show iv - 1 ≤ 20000 by omega), hk7.trans y4, y5⟩ (by show iv - 1 < iv; omega)
        · obtain ⟨y1, y2, y3, y4, y5⟩ := y
          exact ⟨H1, rfl, y1, ht7.trans y2, qe7.tr y3 rfl, hk7.trans y4, Or.inr (Or.inr (swc_up y5))⟩
    · -- 69: not (nI (cu (pa p))) < (nI T)
      have nh6 : ¬ (cu (pa p)) < T := fun z => h6 (show nI (cu (pa p)) < nI T from (nI_ltI (by omega) (by omega)).mpr z)
      refine mw_sub (L' := [(2, .inl (nI (pa p))), (1, .inl (nI iv)), (0, .inr (.inr (some 147)))]) (by simp) ?_
      refine gr_climbT (d := d) (C := C) (iv := iv) (ph := ph) ua da hS (fun t ht hb hu => (by have y := (hS.2.2.2.2.2.2.2.2.1.2.2 (pp p) p t t1 (own_at hS.2.2.2.2.2.2.1.2.1 (by omega)) (by rw [t2]; exact hb) ⟨ht, hu⟩).2; have y2 := (hS.1.1.2.1.2 t ht).2; rcases y with y | y <;> omega)) (by omega) hiv hph hC (fun H1 y1 y2 y3 y4 y5 => ?_) (fun H1 y => ?_)
      · refine iha (iv - 1, H1) ⟨y1, hta.trans y2, zza.tr y3 rfl, (show iv - 1 ≤ 20000 by omega), hka.trans y4, y5⟩ (by show iv - 1 < iv; omega)
      · obtain ⟨y1, y2, y3, y4, y5⟩ := y
        exact ⟨H1, rfl, y1, hta.trans y2, qfa.tr y3 rfl, hka.trans y4, Or.inr (Or.inr (swc_up y5))⟩
  · -- 149: not 0 < (nI ps)
    have nh3 : ¬ 0 < ps := fun z => h3 (show nI 0 < nI ps from (nI_ltI (by omega) (by omega)).mpr z)
    have hps0 : ps = 0 := by omega
    subst hps0
    refine mw_go mu_g328 (k := 1) (f1 := (150, [(1, .inl (nI iv)), (0, .inr (.inr (some 147)))], [.inr (.inr (some 147))], Hsa)) (C := []) rfl trivial ?_
    obtain ⟨c, hc1, hc2, hc3⟩ := id hC
    replace hC := HID.mk hC
    obtain ⟨-, -, -, -, hT150⟩ := hS.2.2.1
    refine mw_cV (fun _ => rfl) (show mu_is Hsa (some 147) 2 from (ua.1.1.is rfl)) (gr_enterNext (d := (d + 3)) (C := C) (wn := wn) (c := c) (T := T) (R := R) (rx := rx) ua da hS.1.1.1.1.1 (by have := hS.1.1.1.2.1; omega) hc1 hc2 hc3 hTT (fun s hs y => hT150 s hs (Or.inl y)) hS.1.1.2.1.1.1 hS.1.1.2.1.1.2 hS.1.1.2.1.2) (fun Q12 q12 => ?_)
    obtain ⟨u12, r12, z12, hj14, x0, hx16, hx1, hx2, hx0, hxa⟩ := q12
    have ht12 : ur m C H Q12 := hta.trans r12
    obtain ⟨V12, d12⟩ : ∃ V, ud m Q12 = V := ⟨_, rfl⟩
    rw [d12] at z12 hj14 hx16 hxa
    replace hxa := HID.mk hxa
    have qe12 : uq F328 U V12 := qfa.tr z12 rfl
    have hl0 : ls = 0 := by
      rcases Nat.eq_zero_or_pos ls with y | y
      · exact y
      · exact absurd (hS.2.2.2.2.2.2.1.2.2 y).1 (Nat.lt_irrefl 0)
    refine mw_of (fun _ => mu_ret rfl trivial ⟨Q12, rfl, u12, ht12, (by rw [d12]; exact qe12), (by rw [d12]; exact hka.trans (gkp_q z12 rfl rfl rfl)), ?_⟩)
    rw [d12]
    refine Or.inl ⟨hj14, en, 0, ls, pa, pl, pp, ix, lw, cu, ld, St, Gd, rk, nr, R, hS.keep z12 rfl (fun _ => rfl) (fun _ => rfl), ⟨x0, hx16, hx2, by rw [z12.l 150 rfl]; exact hx0⟩, by omega, ?_⟩
    rw [z12.l 150 rfl]
    rcases hxa.out with ⟨y1, y2⟩ | ⟨t0, y1, y2, y3, y4⟩
    · exact Or.inl ⟨y1, hl0, fun t y => emp52 hS.1.1.1.2.1 y.1 (fun i hi => hx0 i (by omega)) y.2⟩
    · exact Or.inr ⟨t0, y1, y2, y4, fun j hj => absurd hj (by omega), fun t ht _ hx => absurd (hS.1.1.2.1.2 t ht).2 (by omega)⟩
end Climb
