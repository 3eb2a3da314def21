/-! drive: one visit -/
section Drive
variable {H : mu_H} {U : Ud} {m d P q fb nf nw nb N us r s i T R wd : Nat} {C : Nat → Nat} {Y : Ts} {f od bs lv lc wa wn wi cl ro z mb me : Nat → Nat} {es : Nat → Int32} {nm tm : Nat → Int32} {wk p : Nat → Bool} {S : Nat → Nat → Bool} {bo oid : Nat → Nat → Nat} {Gr : Nat → Nat → Prop} {al : Nat → Prop} {PV : Ud → Prop} {Φ : mu_R → Prop}
def F376 : Uf := ⟨[22, 24, 21], [(129, 11), (129, 19), (129, 20), (129, 21), (100, 4), (100, 5), (100, 6), (100, 7), (100, 17), (100, 18), (100, 21), (100, 19), (100, 20), (100, 14), (100, 16)], [(129, 16), (129, 13), (129, 12), (100, 3), (100, 8), (100, 12), (100, 13), (100, 15), (100, 9), (100, 10), (100, 11), (129, 10)], [(100, 3), (100, 8), (100, 12), (100, 13), (100, 15)], [126, 146], false⟩
/-- PathProver.drive()V -/
abbrev mu_m376 : ev_M := (2, none, [], ev_b376)
theorem mu_g376 : mu_good mu_m376 := mu_goodk ev_k376
/-- the row is there -/
theorem dr_stepY (h : um m H) (e : ud m H = U) (hi : i < 1073741824) (hG : GRB U T R wd ro mb me) (hR : RDX U m od Y es P f fb q Gr N us S z p nf nm tm bs lv lc oid nw wa wn wi wk nb bo cl al ro) (hq : q = pd f 0 P) (hT : T = pd f 0 P) (hRN : R = N - fb) (hwa : U.2.1 147 15 = nI r) (hr : r < R) (hvis : ∀ (H2 : mu_H) (V : Ud) (bf bt : Nat), um m H2 → ud m H2 = V → uq F376 U V → RDX V m od Y es P f fb q Gr N us S z p nf nm tm bs lv lc oid nw wa wn wi wk nb bo cl al ro → ROW V (fun r x => S (fb + r) x = true) r bf bt → mu_TV (mu_D (d + 20)) 310 [.inr (.inr (some 147))] H2 (fun H3 => um m H3 ∧ ur m C H2 H3 ∧ PV (ud m H3))) (hback : ∀ H3, um m H3 → ur m C H H3 → PV (ud m H3) → mu_W (mu_D (d + 20)) mu_m376 (2, [(1, .inl (nI (i + 1))), (0, .inr (.inr (some 0)))], [], H3) Φ) {st : Nat} {fc : Nat → Int64} (hsat : sat U (fb + r) st fc) (hstz : stz fc st (S (fb + r))) : mu_W (mu_D (d + 20)) mu_m376 (2, [(1, .inl (nI i)), (0, .inr (.inr (some 0)))], [], H) Φ := by
  obtain ⟨⟨⟨hg12, hg11⟩, hgwn, hTb⟩, ⟨⟨g6a, g6b⟩, hrx⟩, ⟨hRT, g10a, g10b⟩, ⟨g11a, g11b⟩, ⟨g12a, g12b⟩, ⟨g13a, g13b⟩, hmb, hme, hmp1, hmp2, hmp3, hmp4⟩ := id hG
  have hN524 : N ≤ 524288 := hR.1.1.2.2.2.2.2.2.1.1.2.2.2
  have hS16 : ∀ x, S (fb + r) x = true → x < 16384 := fun x hx => by
    obtain ⟨ls, -, l2, l3⟩ := hR.1.1.2.2.2.2.2.2.1.2.2.2.2.2.2 (fb + r) (by omega)
    rw [l3] at hx
    obtain ⟨j, j1, j2⟩ := (lmz_iff _).mp hx
    rw [← j2]; exact l2 j j1
  refine mw_go mu_g376 (k := 2) (f1 := (6, [(1, .inl (nI i)), (0, .inr (.inr (some 0)))], [.inl (1073741824 : Int32), .inl (nI i)], H)) (C := []) rfl trivial ?_
  refine mw_if (P := (nI i) < (1073741824 : Int32)) (a := 9) (b := 161) (fun _ => rfl) trivial (fun h1 => ?_) (fun h1 => absurd (show nI i < nI 1073741824 from (nI_ltI (by omega) (by decide)).mpr hi) h1)
  refine mw_go mu_g376 (k := 2) (f1 := (13, [(1, .inl (nI i)), (0, .inr (.inr (some 0)))], [.inr (.inr (mu_r H 0 10))], H)) (C := [mu_is H (some 0) 0]) rfl (show mu_is H (some 0) 0 from (h.1.1.is rfl)) ?_
  rw [(h.1.1.r (p := 0) (j := 10) (q := 147) rfl)]
  refine mw_go mu_g376 (k := 1) (f1 := (16, [(1, .inl (nI i)), (0, .inr (.inr (some 0)))], [.inl (mu_i H 147 15)], H)) (C := [mu_is H (some 147) 2]) rfl (show mu_is H (some 147) 2 from (h.1.1.is rfl)) ?_
  rw [(show mu_i H 147 15 = (nI r) from (ud_i (U := U) (m := m) (P := 147) (j := 15) e rfl).trans hwa)]
  refine mw_if (P := (nI r) < 0) (a := 88) (b := 19) (fun _ => rfl) trivial (fun h2 => absurd h2 (show ¬ (nI r) < 0 from nI_pos (by omega))) (fun h2 => ?_)
  refine mw_go mu_g376 (k := 2) (f1 := (23, [(1, .inl (nI i)), (0, .inr (.inr (some 0)))], [.inr (.inr (mu_r H 0 9))], H)) (C := [mu_is H (some 0) 0]) rfl (show mu_is H (some 0) 0 from (h.1.1.is rfl)) ?_
  rw [(h.1.1.r (p := 0) (j := 9) (q := 129) rfl)]
  refine mw_go mu_g376 (k := 2) (f1 := (27, [(1, .inl (nI i)), (0, .inr (.inr (some 0)))], [.inr (.inr (mu_r H 0 10)), .inr (.inr (some 129))], H)) (C := [mu_is H (some 0) 0]) rfl (show mu_is H (some 0) 0 from (h.1.1.is rfl)) ?_
  rw [(h.1.1.r (p := 0) (j := 10) (q := 147) rfl)]
  refine mw_go mu_g376 (k := 1) (f1 := (30, [(1, .inl (nI i)), (0, .inr (.inr (some 0)))], [.inl (mu_i H 147 15), .inr (.inr (some 129))], H)) (C := [mu_is H (some 147) 2]) rfl (show mu_is H (some 147) 2 from (h.1.1.is rfl)) ?_
  rw [(show mu_i H 147 15 = (nI r) from (ud_i (U := U) (m := m) (P := 147) (j := 15) e rfl).trans hwa)]
  refine mw_cIe (fun _ => rfl) (show mu_is H (some 129) 9 from (h.1.1.is rfl)) (rl_absN (d := d + 18) (id := fb + r) (F0 := fb) h e hR.2.1.2.2.2.1 rfl hsat) ?_
  refine mw_if (P := (0 : Int32) = 0) (a := 64) (b := 36) (fun _ => rfl) trivial (fun h4 => ?_) (fun h4 => absurd (by decide) h4)
  refine mw_go mu_g376 (k := 2) (f1 := (68, [(1, .inl (nI i)), (0, .inr (.inr (some 0)))], [.inr (.inr (mu_r H 0 9))], H)) (C := [mu_is H (some 0) 0]) rfl (show mu_is H (some 0) 0 from (h.1.1.is rfl)) ?_
  rw [(h.1.1.r (p := 0) (j := 9) (q := 129) rfl)]
  refine mw_go mu_g376 (k := 2) (f1 := (72, [(1, .inl (nI i)), (0, .inr (.inr (some 0)))], [.inr (.inr (mu_r H 0 10)), .inr (.inr (some 129))], H)) (C := [mu_is H (some 0) 0]) rfl (show mu_is H (some 0) 0 from (h.1.1.is rfl)) ?_
  rw [(h.1.1.r (p := 0) (j := 10) (q := 147) rfl)]
  refine mw_go mu_g376 (k := 1) (f1 := (75, [(1, .inl (nI i)), (0, .inr (.inr (some 0)))], [.inl (mu_i H 147 15), .inr (.inr (some 129))], H)) (C := [mu_is H (some 147) 2]) rfl (show mu_is H (some 147) 2 from (h.1.1.is rfl)) ?_
  rw [(show mu_i H 147 15 = (nI r) from (ud_i (U := U) (m := m) (P := 147) (j := 15) e rfl).trans hwa)]
  refine mw_cV (fun _ => rfl) (show mu_is H (some 129) 9 from (h.1.1.is rfl)) (dr_recall (d := d + 16) (C := C) (r := r) h e hR hsat hstz hS16) (fun Q5 q5 => ?_)
  obtain ⟨u5, r5, z5, hRx, bf, bt, hrow⟩ := q5
  have ht5 : ur m C H Q5 := (ur.refl m C H).trans r5
  obtain ⟨V5, d5⟩ : ∃ V, ud m Q5 = V := ⟨_, rfl⟩
  rw [d5] at z5 hRx hrow
  refine mw_go mu_g376 (k := 2) (f1 := (82, [(1, .inl (nI i)), (0, .inr (.inr (some 0)))], [.inr (.inr (mu_r Q5 0 10))], Q5)) (C := [mu_is Q5 (some 0) 0]) rfl (show mu_is Q5 (some 0) 0 from (u5.1.1.is rfl)) ?_
  rw [(u5.1.1.r (p := 0) (j := 10) (q := 147) rfl)]
  refine mw_cV (fun _ => rfl) (show mu_is Q5 (some 147) 2 from (u5.1.1.is rfl)) (hvis Q5 V5 _ _ u5 d5 (show uq F376 U V5 from (show uq F376 U V5 from ((uq.refl F376 U).tr z5 rfl))) hRx hrow) (fun Q6 q6 => ?_)
  obtain ⟨u6, r6, hPV⟩ := q6
  have ht6 : ur m C H Q6 := ht5.trans r6
  refine mw_go mu_g376 (k := 2) (f1 := (158, [(1, .inl ((nI i) + 1)), (0, .inr (.inr (some 0)))], [], Q6)) (C := []) rfl trivial ?_
  rw [(show ((nI i) + 1) = (nI (i + 1)) from (nI_add i 1))]
  refine mw_go mu_g376 (k := 1) (f1 := (2, [(1, .inl (nI (i + 1))), (0, .inr (.inr (some 0)))], [], Q6)) (C := []) rfl trivial ?_
  exact mw_sub (by simp) (hback Q6 u6 ht6 hPV)
/-- the row found no room -/
theorem dr_stepN (h : um m H) (e : ud m H = U) (hi : i < 1073741824) (hG : GRB U T R wd ro mb me) (hR : RDX U m od Y es P f fb q Gr N us S z p nf nm tm bs lv lc oid nw wa wn wi wk nb bo cl al ro) (hq : q = pd f 0 P) (hT : T = pd f 0 P) (hRN : R = N - fb) (hwa : U.2.1 147 15 = nI r) (hr : r < R) (hvis : ∀ (H2 : mu_H) (V : Ud) (bf bt : Nat), um m H2 → ud m H2 = V → uq F376 U V → RDX V m od Y es P f fb q Gr N us S z p nf nm tm bs lv lc oid nw wa wn wi wk nb bo cl al ro → ROW V (fun r x => S (fb + r) x = true) r bf bt → mu_TV (mu_D (d + 20)) 310 [.inr (.inr (some 147))] H2 (fun H3 => um m H3 ∧ ur m C H2 H3 ∧ PV (ud m H3))) (hback : ∀ H3, um m H3 → ur m C H H3 → PV (ud m H3) → mu_W (mu_D (d + 20)) mu_m376 (2, [(1, .inl (nI (i + 1))), (0, .inr (.inr (some 0)))], [], H3) Φ) {an : Nat} (hr0 : ¬ r = 0) (hsab : sab U (fb + r) an) (hmem : ∃ s, s < T ∧ ro s = r) (hC21 : 2 * (((Y 13).1 + 2) * 4) + 4 ≤ C 21) (hC21b : C 21 ≤ 8388608) : mu_W (mu_D (d + 20)) mu_m376 (2, [(1, .inl (nI i)), (0, .inr (.inr (some 0)))], [], H) Φ := by
  obtain ⟨⟨⟨hg12, hg11⟩, hgwn, hTb⟩, ⟨⟨g6a, g6b⟩, hrx⟩, ⟨hRT, g10a, g10b⟩, ⟨g11a, g11b⟩, ⟨g12a, g12b⟩, ⟨g13a, g13b⟩, hmb, hme, hmp1, hmp2, hmp3, hmp4⟩ := id hG
  have hN524 : N ≤ 524288 := hR.1.1.2.2.2.2.2.2.1.1.2.2.2
  obtain ⟨s, hs1, hs2⟩ := hmem
  obtain ⟨i0, hm1, hm2, -⟩ := hmp3 s hs1
  rw [hs2] at hm1 hm2
  have hmR := hmp1 r hr
  have hmb2 : mb r < T := by omega
  have hro : ro (me (mb r)) = r := hmp2 r (mb r) hr (Nat.le_refl _) (by omega)
  have hmT : me (mb r) < T := (hme (mb r) hmb2).2
  have hmq : me (mb r) < pd f 0 P := by omega
  have hag := fun t => hR.again (s := me (mb r)) (by omega) (by omega) (by rw [hro]; exact hr0) t
  rw [hro] at hag
  refine mw_go mu_g376 (k := 2) (f1 := (6, [(1, .inl (nI i)), (0, .inr (.inr (some 0)))], [.inl (1073741824 : Int32), .inl (nI i)], H)) (C := []) rfl trivial ?_
  refine mw_if (P := (nI i) < (1073741824 : Int32)) (a := 9) (b := 161) (fun _ => rfl) trivial (fun h1 => ?_) (fun h1 => absurd (show nI i < nI 1073741824 from (nI_ltI (by omega) (by decide)).mpr hi) h1)
  refine mw_go mu_g376 (k := 2) (f1 := (13, [(1, .inl (nI i)), (0, .inr (.inr (some 0)))], [.inr (.inr (mu_r H 0 10))], H)) (C := [mu_is H (some 0) 0]) rfl (show mu_is H (some 0) 0 from (h.1.1.is rfl)) ?_
  rw [(h.1.1.r (p := 0) (j := 10) (q := 147) rfl)]
  refine mw_go mu_g376 (k := 1) (f1 := (16, [(1, .inl (nI i)), (0, .inr (.inr (some 0)))], [.inl (mu_i H 147 15)], H)) (C := [mu_is H (some 147) 2]) rfl (show mu_is H (some 147) 2 from (h.1.1.is rfl)) ?_
  rw [(show mu_i H 147 15 = (nI r) from (ud_i (U := U) (m := m) (P := 147) (j := 15) e rfl).trans hwa)]
  refine mw_if (P := (nI r) < 0) (a := 88) (b := 19) (fun _ => rfl) trivial (fun h2 => absurd h2 (show ¬ (nI r) < 0 from nI_pos (by omega))) (fun h2 => ?_)
  refine mw_go mu_g376 (k := 2) (f1 := (23, [(1, .inl (nI i)), (0, .inr (.inr (some 0)))], [.inr (.inr (mu_r H 0 9))], H)) (C := [mu_is H (some 0) 0]) rfl (show mu_is H (some 0) 0 from (h.1.1.is rfl)) ?_
  rw [(h.1.1.r (p := 0) (j := 9) (q := 129) rfl)]
  refine mw_go mu_g376 (k := 2) (f1 := (27, [(1, .inl (nI i)), (0, .inr (.inr (some 0)))], [.inr (.inr (mu_r H 0 10)), .inr (.inr (some 129))], H)) (C := [mu_is H (some 0) 0]) rfl (show mu_is H (some 0) 0 from (h.1.1.is rfl)) ?_
  rw [(h.1.1.r (p := 0) (j := 10) (q := 147) rfl)]
  refine mw_go mu_g376 (k := 1) (f1 := (30, [(1, .inl (nI i)), (0, .inr (.inr (some 0)))], [.inl (mu_i H 147 15), .inr (.inr (some 129))], H)) (C := [mu_is H (some 147) 2]) rfl (show mu_is H (some 147) 2 from (h.1.1.is rfl)) ?_
  rw [(show mu_i H 147 15 = (nI r) from (ud_i (U := U) (m := m) (P := 147) (j := 15) e rfl).trans hwa)]
  refine mw_cIe (fun _ => rfl) (show mu_is H (some 129) 9 from (h.1.1.is rfl)) (rl_absY (d := d + 18) (id := fb + r) (F0 := fb) h e hR.2.1.2.2.2.1 rfl hsab) ?_
  refine mw_if (P := (1 : Int32) = 0) (a := 64) (b := 36) (fun _ => rfl) trivial (fun h4 => absurd h4 (by decide)) (fun h4 => ?_)
  refine mw_go mu_g376 (k := 3) (f1 := (41, [(1, .inl (nI i)), (0, .inr (.inr (some 0)))], [.inr (.inr (mu_r H 0 10)), .inr (.inr (some 0))], H)) (C := [mu_is H (some 0) 0]) rfl (show mu_is H (some 0) 0 from (h.1.1.is rfl)) ?_
  rw [(h.1.1.r (p := 0) (j := 10) (q := 147) rfl)]
  refine mw_go mu_g376 (k := 2) (f1 := (45, [(1, .inl (nI i)), (0, .inr (.inr (some 0)))], [.inr (.inr (mu_r H 0 10)), .inr (.inr (some 147)), .inr (.inr (some 0))], H)) (C := [mu_is H (some 0) 0]) rfl (show mu_is H (some 0) 0 from (h.1.1.is rfl)) ?_
  rw [(h.1.1.r (p := 0) (j := 10) (q := 147) rfl)]
  refine mw_go mu_g376 (k := 1) (f1 := (48, [(1, .inl (nI i)), (0, .inr (.inr (some 0)))], [.inl (mu_i H 147 15), .inr (.inr (some 147)), .inr (.inr (some 0))], H)) (C := [mu_is H (some 147) 2]) rfl (show mu_is H (some 147) 2 from (h.1.1.is rfl)) ?_
  rw [(show mu_i H 147 15 = (nI r) from (ud_i (U := U) (m := m) (P := 147) (j := 15) e rfl).trans hwa)]
  refine mw_cIe (fun _ => rfl) (show mu_is H (some 147) 2 from (h.1.1.is rfl)) (gr_member (d := d + 18) (mb := mb r) h e (by omega) g10b (hmb r (by omega)) (by omega) g11b) ?_
  rw [(hme (mb r) (by omega)).1]
  refine mw_cV (fun _ => rfl) (show mu_is H (some 0) 0 from (h.1.1.is rfl)) (pv_mrowE (d := d) (C := C) (s := me (mb r)) h e hR.1.1 hmq hC21 hC21b) (fun Q6 q6 => ?_)
  obtain ⟨u6, r6, z6, hRS, nn, h11, hLS⟩ := q6
  have ht6 : ur m C H Q6 := (ur.refl m C H).trans r6
  obtain ⟨V6, d6⟩ : ∃ V, ud m Q6 = V := ⟨_, rfl⟩
  rw [d6] at z6 hRS h11 hLS
  have hR1 : RDX V6 m od Y es P f fb q Gr N us S z p nf nm tm bs lv lc oid nw wa wn wi wk nb bo cl al ro := hR.mrow z6 hRS
  refine mw_go mu_g376 (k := 2) (f1 := (58, [(1, .inl (nI i)), (0, .inr (.inr (some 0)))], [.inr (.inr (mu_r Q6 0 9))], Q6)) (C := [mu_is Q6 (some 0) 0]) rfl (show mu_is Q6 (some 0) 0 from (u6.1.1.is rfl)) ?_
  rw [(u6.1.1.r (p := 0) (j := 9) (q := 129) rfl)]
  refine mw_cV (fun _ => rfl) (show mu_is Q6 (some 129) 9 from (u6.1.1.is rfl)) (dr_lay (d := d + 16) (C := C) u6 d6 hR1 h11 hLS) (fun Q7 q7 => ?_)
  obtain ⟨u7, r7, z7, hRx, bf, bt, hz, hbt⟩ := q7
  have ht7 : ur m C H Q7 := ht6.trans r7
  obtain ⟨V7, d7⟩ : ∃ V, ud m Q7 = V := ⟨_, rfl⟩
  rw [d7] at z7 hRx hz hbt
  have hrow : ROW V7 (fun r x => S (fb + r) x = true) r bf bt := ⟨hz, fun t ht => by rw [hbt t ht, hag t]⟩
  refine mw_go mu_g376 (k := 3) (f1 := (82, [(1, .inl (nI i)), (0, .inr (.inr (some 0)))], [.inr (.inr (mu_r Q7 0 10))], Q7)) (C := [mu_is Q7 (some 0) 0]) rfl (show mu_is Q7 (some 0) 0 from (u7.1.1.is rfl)) ?_
  rw [(u7.1.1.r (p := 0) (j := 10) (q := 147) rfl)]
  refine mw_cV (fun _ => rfl) (show mu_is Q7 (some 147) 2 from (u7.1.1.is rfl)) (hvis Q7 V7 _ _ u7 d7 (show uq F376 U V7 from (show uq F376 U V7 from (((uq.refl F376 U).tr z6 rfl).tr z7 rfl))) hRx hrow) (fun Q8 q8 => ?_)
  obtain ⟨u8, r8, hPV⟩ := q8
  have ht8 : ur m C H Q8 := ht7.trans r8
  refine mw_go mu_g376 (k := 2) (f1 := (158, [(1, .inl ((nI i) + 1)), (0, .inr (.inr (some 0)))], [], Q8)) (C := []) rfl trivial ?_
  rw [(show ((nI i) + 1) = (nI (i + 1)) from (nI_add i 1))]
  refine mw_go mu_g376 (k := 1) (f1 := (2, [(1, .inl (nI (i + 1))), (0, .inr (.inr (some 0)))], [], Q8)) (C := []) rfl trivial ?_
  exact mw_sub (by simp) (hback Q8 u8 ht8 hPV)
end Drive
