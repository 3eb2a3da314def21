/-! RELATION: spell -/
section Spell
variable {H : mu_H} {U V : Ud} {m d P n k st fre N us nf fr fk x nb b : Nat} {C : Nat → Nat} {bo : Nat → Nat → Nat} {f dg lc on : Nat → Nat} {tm : Nat → Int32} {oc ls : Nat → Nat} {ol : Nat → Nat → Nat} {S : Nat → Nat → Bool} {z : Nat → Nat} {p : Nat → Bool} {L : Nat → Int64} {A : Nat → Nat → Prop} {B : Nat → Prop} {Q Q' : Nat → Prop}
/-- options that are listed -/
def OPL (V : Ud) (fr fk k : Nat) (A : Nat → Prop) : Prop := ∃ n ls, (V.2.2.1 129 13).2 k = nI n ∧ (∀ i, i < n → (V.2.2.1 129 12).2 (fr + i) = nI (ls i)) ∧ (∀ i j, i < j → j < n → ls i < ls j) ∧ ∀ x, lmz ls n x = true ↔ x < fk ∧ A x
theorem OPL.other (h : OPL U fr fk k B) (h13 : (V.2.2.1 129 13).2 k = (U.2.2.1 129 13).2 k) (h12 : ∀ q, fr ≤ q → q < fr + fk → (V.2.2.1 129 12).2 q = (U.2.2.1 129 12).2 q) : OPL V fr fk k B := by
  obtain ⟨n, ls, h1, h2, h3, h4⟩ := h
  have hn := lm_len h3 h4
  exact ⟨n, ls, h13.trans h1, fun i hi => (h12 (fr + i) (by omega) (by omega)).trans (h2 i hi), h3, h4⟩
theorem lmz_id : ∀ n, lmz (fun i => i) n x = true ↔ x < n := fun n => by
  rw [lmz_iff]
  exact ⟨fun ⟨i, a, b⟩ => by omega, fun a => ⟨x, a, rfl⟩⟩
theorem LSO.congr (h : LSO V n st Q) (hx : ∀ x, x < st → (Q x ↔ Q' x)) : LSO V n st Q' := by
  obtain ⟨ls, h1, h2, h3⟩ := h
  refine ⟨ls, h1, h2, fun x => ?_⟩
  rw [h3 x]
  exact ⟨fun y => ⟨y.1, (hx x y.1).mp y.2⟩, fun y => ⟨y.1, (hx x y.1).mpr y.2⟩⟩
theorem pick_opl (h : ∀ j, j < fre → OPL V (sm f 0 j) (f j) j (A j)) : ∃ (on : Nat → Nat) (ol : Nat → Nat → Nat), ∀ j, j < fre → (V.2.2.1 129 13).2 j = nI (on j) ∧ (∀ i, i < on j → (V.2.2.1 129 12).2 (sm f 0 j + i) = nI (ol j i)) ∧ (∀ i i', i < i' → i' < on j → ol j i < ol j i') ∧ ∀ x, lmz (ol j) (on j) x = true ↔ x < f j ∧ A j x := by
  have h2 : ∀ j : Nat, ∃ y : Nat × (Nat → Nat), j < fre → (V.2.2.1 129 13).2 j = nI y.1 ∧ (∀ i, i < y.1 → (V.2.2.1 129 12).2 (sm f 0 j + i) = nI (y.2 i)) ∧ (∀ i i', i < i' → i' < y.1 → y.2 i < y.2 i') ∧ ∀ x, lmz y.2 y.1 x = true ↔ x < f j ∧ A j x := fun j => by
    by_cases e : j < fre
    · obtain ⟨n, ls, h1⟩ := h j e
      exact ⟨(n, ls), fun _ => h1⟩
    · exact ⟨(0, fun _ => 0), fun y => absurd y e⟩
  obtain ⟨g, hg⟩ := Classical.axiomOfChoice h2
  exact ⟨fun j => (g j).1, fun j => (g j).2, hg⟩
def F277 : Uf := ⟨[], [(129, 11)], [(129, 10), (129, 12), (129, 13), (129, 16)], [], [], false⟩
def F277a : Uf := ⟨[], [], [(129, 12), (129, 13)], [], [], false⟩
def F277b : Uf := ⟨[], [], [(129, 12)], [], [], false⟩
/-- PathProver$Relation.spell()V -/
abbrev mu_m277 : ev_M := (4, none, [], ev_b277)
theorem mu_g277 : mu_good mu_m277 := mu_goodk ev_k277
theorem rl_spell (h : um m H) (e : ud m H = U) (hS : spx m U P f) (hf1 : ∀ k, 1 ≤ f k) (hop : ∀ k, k < P → OPT U (sm f 0 k) (f k) k (A k)) (hSK : SOK U N us S z p) (h24 : (U.1 24).1 = nf ∧ nf ≤ 67108864) (hch : CHN U P nf lc) (hpm : ∀ r, r < nf → pm (tm r) f P ≤ 67108864 ∧ (lc r < P → ∀ j, lc r < j → j < P → mb (tm r) j = 0)) (htm : ∀ r, r < nf → (U.1 24).2 r 1 = tm r) (hoc : ∀ r, r < nf → fin nb bo b 0 nf r → (U.1 24).2 r 3 = nI (oc r) ∧ oc r < N ∧ p (oc r) = true) (hB : BRT U nb bo) (hBI : BIN nb b) (hBO : BOK nb bo 0 nf) (hbr : U.2.1 129 21 = nI b) (hl12 : sm f 0 P ≤ (U.2.2.1 129 12).1) (hl12b : (U.2.2.1 129 12).1 < 2147483648) (hl10 : pd f 0 P + 4 ≤ (U.2.2.1 129 10).1) (hl10b : (U.2.2.1 129 10).1 < 2147483648) (hLL : U.2.2.2.2.1 124 = L) (hdg : ∀ j, j < P → (U.2.2.1 129 16).2 j = nI (dg j) ∧ dg j < f j) : mu_TV (mu_D (d + 19)) 277 [.inr (.inr (some 129))] H (fun H1 => um m H1 ∧ ur m C H H1 ∧ uq F277 U (ud m H1) ∧ ∃ n, (ud m H1).2.1 129 11 = nI n ∧ LSO (ud m H1) n (pd f 0 P) (fun t => bts L t = true ∧ ∀ j, j < P → A j (dgzU f P t j) ∧ ∀ r, r < nf → lc r = j → fin nb bo b 0 nf r → S (oc r) (ixz (tm r) f (dgzU f P t) P) = true)) := by
  obtain ⟨⟨s4, s10, s11, s12⟩, hk5, ⟨g8, g8b, g18, g18b⟩, ⟨gP, gpd, gsm⟩, hsp, hmo⟩ := (show spx m U P f from hS)
  refine mu_meth (M := mu_m277) rfl rfl ?_
  refine mw_ht (mu_fn_of (show [0].Nodup by decide)) ?_
  refine mw_go mu_g277 (k := 4) (f1 := (4, [(2, .inl (0 : Int32)), (1, .inl (0 : Int32)), (0, .inr (.inr (some 129)))], [], H)) (C := []) rfl trivial ?_
  show mu_W _ _ (4, [(2, .inl (nI 0)), (1, .inl (nI 0)), (0, .inr (.inr (some 129)))], [], H) _
  refine mw_sub (L' := [(2, .inl (nI 0)), (1, .inl (nI 0)), (0, .inr (.inr (some 129)))]) (by simp) ?_
  refine mw_down (α := Nat × Nat) (fun zs => (4, [(2, .inl (nI zs.1)), (1, .inl (nI zs.2)), (0, .inr (.inr (some 129)))], [], H)) (fun zs => P - zs.1) (fun zs => (zs.1 ≤ P ∧ zs.2 ≤ zs.1) ∧ (∀ j, zs.2 ≤ j → j < zs.1 → (U.2.2.1 129 13).2 j < 0 ∧ lsf lc j nf < 0)) (fun zs hzc ihc => ?_) (0, 0) ⟨(show 0 ≤ P ∧ 0 ≤ 0 from (by omega)), (show ∀ j, 0 ≤ j → j < 0 → (U.2.2.1 129 13).2 j < 0 ∧ lsf lc j nf < 0 from (fun j _ hj => absurd hj (Nat.not_lt_zero _)))⟩
  obtain ⟨w, fre⟩ := zs
  obtain ⟨hw, hfr⟩ := hzc
  have hw : w ≤ P ∧ fre ≤ w := hw
  have hfr : ∀ j, fre ≤ j → j < w → (U.2.2.1 129 13).2 j < 0 ∧ lsf lc j nf < 0 := hfr
  show mu_W _ _ (4, [(2, .inl (nI w)), (1, .inl (nI fre)), (0, .inr (.inr (some 129)))], [], H) _
  refine mw_go mu_g277 (k := 3) (f1 := (9, [(2, .inl (nI w)), (1, .inl (nI fre)), (0, .inr (.inr (some 129)))], [.inr (.inr (mu_r H 129 0)), .inl (nI w)], H)) (C := [mu_is H (some 129) 9]) rfl (show mu_is H (some 129) 9 from (h.1.1.is rfl)) ?_
  rw [(h.1.1.r (p := 129) (j := 0) (q := 99) rfl)]
  refine mw_go mu_g277 (k := 1) (f1 := (12, [(2, .inl (nI w)), (1, .inl (nI fre)), (0, .inr (.inr (some 129)))], [.inl (mu_i H 99 4), .inl (nI w)], H)) (C := [mu_is H (some 99) 13]) rfl (show mu_is H (some 99) 13 from (h.1.1.is rfl)) ?_
  rw [(show mu_i H 99 4 = (nI P) from (ud_i (U := U) (m := m) (P := 99) (j := 4) e rfl).trans s4)]
  refine mw_if (P := (nI w) < (nI P)) (a := 15) (b := 47) (fun _ => rfl) trivial (fun h1 => ?_) (fun h1 => ?_)
  · -- 15: (nI w) < (nI P)
    have nh1 : w < P := (nI_ltI (by omega) (by omega)).mp (show nI w < nI P from h1)
    refine mw_go mu_g277 (k := 2) (f1 := (19, [(2, .inl (nI w)), (1, .inl (nI fre)), (0, .inr (.inr (some 129)))], [.inr (.inr (mu_r H 129 13))], H)) (C := [mu_is H (some 129) 9]) rfl (show mu_is H (some 129) 9 from (h.1.1.is rfl)) ?_
    rw [(h.1.1.r (p := 129) (j := 13) (q := 141) rfl)]
    refine mw_go mu_g277 (k := 2) (f1 := (21, [(2, .inl (nI w)), (1, .inl (nI fre)), (0, .inr (.inr (some 129)))], [.inl (mu_i H 141 (nI w).toNatClampNeg)], H)) (C := [mu_isr H (some 141) 100, vp_in (nI w) (mu_n H 141)]) rfl (show (mu_isr H (some 141) 100) ∧ (vp_in (nI w) (mu_n H 141)) from ⟨((h.iA e rfl rfl ((ud_q (m := m) (P := 129) (j := 13) e rfl).symm.trans (h.1.1.r (p := 129) (j := 13) (q := 141) rfl)))).r, (by rw [show mu_n H 141 = 14 from (h.1.1.a (p := 141) (x := (100, 14)) rfl).2]; exact vp_in_nI (n := w) (by omega) (by decide))⟩) ?_
    rw [(show (mu_i H 141 (nI w).toNatClampNeg) = ((U.2.2.1 129 13).2 w) from ((congrArg (mu_i H 141) (show (nI w).toNatClampNeg = w from nI_clamp (by omega))).trans (h.gA e rfl rfl ((ud_q (m := m) (P := 129) (j := 13) e rfl).symm.trans (h.1.1.r (p := 129) (j := 13) (q := 141) rfl)))).trans ((congrArg (fun z => z.2 w) (show U.2.2.1 129 13 = (U.2.2.1 129 13) from rfl)).trans rfl))]
    refine mw_if (P := ((U.2.2.1 129 13).2 w) < 0) (a := 24) (b := 33) (fun _ => rfl) trivial (fun h2 => ?_) (fun h2 => ?_)
    · -- 24: ((U.2.2.1 129 13).2 w) < 0
      refine mw_go mu_g277 (k := 2) (f1 := (28, [(2, .inl (nI w)), (1, .inl (nI fre)), (0, .inr (.inr (some 129)))], [.inr (.inr (mu_r H 129 15))], H)) (C := [mu_is H (some 129) 9]) rfl (show mu_is H (some 129) 9 from (h.1.1.is rfl)) ?_
      rw [(h.1.1.r (p := 129) (j := 15) (q := 143) rfl)]
      refine mw_go mu_g277 (k := 2) (f1 := (30, [(2, .inl (nI w)), (1, .inl (nI fre)), (0, .inr (.inr (some 129)))], [.inl (mu_i H 143 (nI w).toNatClampNeg)], H)) (C := [mu_isr H (some 143) 100, vp_in (nI w) (mu_n H 143)]) rfl (show (mu_isr H (some 143) 100) ∧ (vp_in (nI w) (mu_n H 143)) from ⟨((h.iA e rfl rfl ((ud_q (m := m) (P := 129) (j := 15) e rfl).symm.trans (h.1.1.r (p := 129) (j := 15) (q := 143) rfl)))).r, (by rw [show mu_n H 143 = 14 from (h.1.1.a (p := 143) (x := (100, 14)) rfl).2]; exact vp_in_nI (n := w) (by omega) (by decide))⟩) ?_
      rw [(show (mu_i H 143 (nI w).toNatClampNeg) = (lsf lc w nf) from ((congrArg (mu_i H 143) (show (nI w).toNatClampNeg = w from nI_clamp (by omega))).trans (h.gA e rfl rfl ((ud_q (m := m) (P := 129) (j := 15) e rfl).symm.trans (h.1.1.r (p := 129) (j := 15) (q := 143) rfl)))).trans ((congrArg (fun z => z.2 w) (show U.2.2.1 129 15 = (U.2.2.1 129 15) from rfl)).trans (hch.1 w (by omega))))]
      refine mw_if (P := (lsf lc w nf) < 0) (a := 39) (b := 33) (fun _ => rfl) trivial (fun h3 => ?_) (fun h3 => ?_)
      · -- 39: (lsf lc w nf) < 0
        refine mw_go mu_g277 (k := 3) (f1 := (44, [(2, .inl ((nI w) + 1)), (1, .inl (nI fre)), (0, .inr (.inr (some 129)))], [], H)) (C := []) rfl trivial ?_
        rw [(show ((nI w) + 1) = (nI (w + 1)) from (nI_add w 1))]
        refine mw_go mu_g277 (k := 1) (f1 := (4, [(2, .inl (nI (w + 1))), (1, .inl (nI fre)), (0, .inr (.inr (some 129)))], [], H)) (C := []) rfl trivial ?_
        exact mw_sub (by simp) (ihc (w + 1, fre) ⟨(show (w + 1) ≤ P ∧ fre ≤ (w + 1) from (by omega)), (show ∀ j, fre ≤ j → j < (w + 1) → (U.2.2.1 129 13).2 j < 0 ∧ lsf lc j nf < 0 from (fun j k1 k2 => by by_cases e0 : j = w; (rw [e0]; exact ⟨h2, h3⟩); exact hfr j k1 (by omega)))⟩ (by show P - (w + 1) < P - w; omega))
      · -- 33: not (lsf lc w nf) < 0
        refine mw_go mu_g277 (k := 3) (f1 := (36, [(2, .inl (nI w)), (1, .inl (nI fre)), (0, .inr (.inr (some 129)))], [.inl ((nI w) + (1 : Int32))], H)) (C := []) rfl trivial ?_
        rw [(show ((nI w) + (1 : Int32)) = (nI (w + 1)) from (nI_add w 1))]
        refine mw_go mu_g277 (k := 3) (f1 := (44, [(2, .inl ((nI w) + 1)), (1, .inl (nI (w + 1))), (0, .inr (.inr (some 129)))], [], H)) (C := []) rfl trivial ?_
        rw [(show ((nI w) + 1) = (nI (w + 1)) from (nI_add w 1))]
        refine mw_go mu_g277 (k := 1) (f1 := (4, [(2, .inl (nI (w + 1))), (1, .inl (nI (w + 1))), (0, .inr (.inr (some 129)))], [], H)) (C := []) rfl trivial ?_
        exact mw_sub (by simp) (ihc (w + 1, w + 1) ⟨(show (w + 1) ≤ P ∧ (w + 1) ≤ (w + 1) from (by omega)), (show ∀ j, (w + 1) ≤ j → j < (w + 1) → (U.2.2.1 129 13).2 j < 0 ∧ lsf lc j nf < 0 from (fun j h1 h2 => absurd h1 (by omega)))⟩ (by show P - (w + 1) < P - w; omega))
    · -- 33: not ((U.2.2.1 129 13).2 w) < 0
      refine mw_go mu_g277 (k := 3) (f1 := (36, [(2, .inl (nI w)), (1, .inl (nI fre)), (0, .inr (.inr (some 129)))], [.inl ((nI w) + (1 : Int32))], H)) (C := []) rfl trivial ?_
      rw [(show ((nI w) + (1 : Int32)) = (nI (w + 1)) from (nI_add w 1))]
      refine mw_go mu_g277 (k := 3) (f1 := (44, [(2, .inl ((nI w) + 1)), (1, .inl (nI (w + 1))), (0, .inr (.inr (some 129)))], [], H)) (C := []) rfl trivial ?_
      rw [(show ((nI w) + 1) = (nI (w + 1)) from (nI_add w 1))]
      refine mw_go mu_g277 (k := 1) (f1 := (4, [(2, .inl (nI (w + 1))), (1, .inl (nI (w + 1))), (0, .inr (.inr (some 129)))], [], H)) (C := []) rfl trivial ?_
      exact mw_sub (by simp) (ihc (w + 1, w + 1) ⟨(show (w + 1) ≤ P ∧ (w + 1) ≤ (w + 1) from (by omega)), (show ∀ j, (w + 1) ≤ j → j < (w + 1) → (U.2.2.1 129 13).2 j < 0 ∧ lsf lc j nf < 0 from (fun j h1 h2 => absurd h1 (by omega)))⟩ (by show P - (w + 1) < P - w; omega))
  · -- 47: not (nI w) < (nI P)
    have nh1 : ¬ w < P := fun z => h1 (show nI w < nI P from (nI_ltI (by omega) (by omega)).mpr z)
    refine mw_go mu_g277 (k := 2) (f1 := (49, [(2, .inl (0 : Int32)), (1, .inl (nI fre)), (0, .inr (.inr (some 129)))], [], H)) (C := []) rfl trivial ?_
    show mu_W _ _ (49, [(2, .inl (nI 0)), (1, .inl (nI fre)), (0, .inr (.inr (some 129)))], [], H) _
    refine mw_sub (L' := [(2, .inl (nI 0)), (0, .inr (.inr (some 129))), (1, .inl (nI fre))]) (by simp) ?_
    refine mw_down (α := Nat × mu_H) (fun zs => (49, [(2, .inl (nI zs.1)), (0, .inr (.inr (some 129))), (1, .inl (nI fre))], [], zs.2)) (fun zs => fre - zs.1) (fun zs => um m zs.2 ∧ ur m C H zs.2 ∧ (uq F277a U (ud m zs.2)) ∧ (zs.1 ≤ fre) ∧ (∀ j, j < zs.1 → OPL (ud m zs.2) (sm f 0 j) (f j) j (A j)) ∧ (∀ j, zs.1 ≤ j → j < P → OPT (ud m zs.2) (sm f 0 j) (f j) j (A j))) (fun zs hza iha => ?_) (0, H) ⟨h, (ur.refl m C H), (show uq F277a U (ud m H) from by rw [e]; exact uq.refl _ _), (show 0 ≤ fre from (by omega)), (show ∀ j, j < 0 → OPL (ud m H) (sm f 0 j) (f j) j (A j) from by rw [e]; exact (fun j hj => absurd hj (Nat.not_lt_zero _))), (show ∀ j, 0 ≤ j → j < P → OPT (ud m H) (sm f 0 j) (f j) j (A j) from by rw [e]; exact (fun j _ hj => hop j hj))⟩
    obtain ⟨k, Hsa⟩ := zs
    obtain ⟨ua, hta, da, hk, hD, hU⟩ := hza
    have ua : um m Hsa := ua
    have hta : ur m C H Hsa := hta
    have zza : uq F277a U (ud m Hsa) := da
    have hk : k ≤ fre := hk
    have hD : ∀ j, j < k → OPL (ud m Hsa) (sm f 0 j) (f j) j (A j) := hD
    have hU : ∀ j, k ≤ j → j < P → OPT (ud m Hsa) (sm f 0 j) (f j) j (A j) := hU
    obtain ⟨Va, da⟩ : ∃ V, ud m Hsa = V := ⟨_, rfl⟩
    rw [da] at zza hD hU
    have qfa : uq F277 U Va := (uq.refl F277 U).tr zza rfl
    show mu_W _ _ (49, [(2, .inl (nI k)), (0, .inr (.inr (some 129))), (1, .inl (nI fre))], [], Hsa) _
    refine mw_go mu_g277 (k := 2) (f1 := (51, [(2, .inl (nI k)), (0, .inr (.inr (some 129))), (1, .inl (nI fre))], [.inl (nI fre), .inl (nI k)], Hsa)) (C := []) rfl trivial ?_
    refine mw_if (P := (nI k) < (nI fre)) (a := 54) (b := 122) (fun _ => rfl) trivial (fun h4 => ?_) (fun h4 => ?_)
    · -- 54: (nI k) < (nI fre)
      have nh4 : k < fre := (nI_ltI (by omega) (by omega)).mp (show nI k < nI fre from h4)
      have hkP : k < P := by omega
      have hsk := sm_seg (f := f) hkP
      have hk7 := hk5 k hkP
      have hfb := sm_part (f := f) hkP
      rcases hU k (Nat.le_refl _) hkP with ⟨hoc1, hoc2⟩ | ⟨nn, lls, hoc1, hoc3, hoc4, hoc5⟩
      · -- all
        refine mw_go mu_g277 (k := 2) (f1 := (58, [(2, .inl (nI k)), (0, .inr (.inr (some 129))), (1, .inl (nI fre))], [.inr (.inr (mu_r Hsa 129 13))], Hsa)) (C := [mu_is Hsa (some 129) 9]) rfl (show mu_is Hsa (some 129) 9 from (ua.1.1.is rfl)) ?_
        rw [(ua.1.1.r (p := 129) (j := 13) (q := 141) rfl)]
        refine mw_go mu_g277 (k := 2) (f1 := (60, [(2, .inl (nI k)), (0, .inr (.inr (some 129))), (1, .inl (nI fre))], [.inl (mu_i Hsa 141 (nI k).toNatClampNeg)], Hsa)) (C := [mu_isr Hsa (some 141) 100, vp_in (nI k) (mu_n Hsa 141)]) rfl (show (mu_isr Hsa (some 141) 100) ∧ (vp_in (nI k) (mu_n Hsa 141)) from ⟨((ua.iA da rfl rfl ((ud_q (m := m) (P := 129) (j := 13) da rfl).symm.trans (ua.1.1.r (p := 129) (j := 13) (q := 141) rfl)))).r, (by rw [show mu_n Hsa 141 = 14 from (ua.1.1.a (p := 141) (x := (100, 14)) rfl).2]; exact vp_in_nI (n := k) (by omega) (by decide))⟩) ?_
        rw [(show (mu_i Hsa 141 (nI k).toNatClampNeg) = (-1 : Int32) from ((congrArg (mu_i Hsa 141) (show (nI k).toNatClampNeg = k from nI_clamp (by omega))).trans (ua.gA da rfl rfl ((ud_q (m := m) (P := 129) (j := 13) da rfl).symm.trans (ua.1.1.r (p := 129) (j := 13) (q := 141) rfl)))).trans ((congrArg (fun z => z.2 k) (show Va.2.2.1 129 13 = (Va.2.2.1 129 13) from rfl)).trans hoc1))]
        refine mw_if (P := (-1 : Int32) < 0) (a := 63) (b := 116) (fun _ => rfl) trivial (fun h5 => ?_) (fun h5 => absurd (by decide) h5)
        refine mw_go mu_g277 (k := 2) (f1 := (67, [(2, .inl (nI k)), (0, .inr (.inr (some 129))), (1, .inl (nI fre))], [.inr (.inr (mu_r Hsa 129 13))], Hsa)) (C := [mu_is Hsa (some 129) 9]) rfl (show mu_is Hsa (some 129) 9 from (ua.1.1.is rfl)) ?_
        rw [(ua.1.1.r (p := 129) (j := 13) (q := 141) rfl)]
        refine mw_go mu_g277 (k := 3) (f1 := (72, [(2, .inl (nI k)), (0, .inr (.inr (some 129))), (1, .inl (nI fre))], [.inr (.inr (mu_r Hsa 129 0)), .inl (nI k), .inr (.inr (some 141))], Hsa)) (C := [mu_is Hsa (some 129) 9]) rfl (show mu_is Hsa (some 129) 9 from (ua.1.1.is rfl)) ?_
        rw [(ua.1.1.r (p := 129) (j := 0) (q := 99) rfl)]
        refine mw_go mu_g277 (k := 1) (f1 := (75, [(2, .inl (nI k)), (0, .inr (.inr (some 129))), (1, .inl (nI fre))], [.inr (.inr (mu_r Hsa 99 5)), .inl (nI k), .inr (.inr (some 141))], Hsa)) (C := [mu_is Hsa (some 99) 13]) rfl (show mu_is Hsa (some 99) 13 from (ua.1.1.is rfl)) ?_
        rw [(ua.1.1.r (p := 99) (j := 5) (q := 120) rfl)]
        refine mw_go mu_g277 (k := 2) (f1 := (77, [(2, .inl (nI k)), (0, .inr (.inr (some 129))), (1, .inl (nI fre))], [.inl (mu_i Hsa 120 (nI k).toNatClampNeg), .inl (nI k), .inr (.inr (some 141))], Hsa)) (C := [mu_isr Hsa (some 120) 100, vp_in (nI k) (mu_n Hsa 120)]) rfl (show (mu_isr Hsa (some 120) 100) ∧ (vp_in (nI k) (mu_n Hsa 120)) from ⟨((ua.iA da rfl rfl ((ud_q (m := m) (P := 99) (j := 5) da rfl).symm.trans (ua.1.1.r (p := 99) (j := 5) (q := 120) rfl)))).r, (by rw [show mu_n Hsa 120 = 14 from (ua.1.1.a (p := 120) (x := (100, 14)) rfl).2]; exact vp_in_nI (n := k) (by omega) (by decide))⟩) ?_
        rw [(show (mu_i Hsa 120 (nI k).toNatClampNeg) = (nI (f k)) from ((congrArg (mu_i Hsa 120) (show (nI k).toNatClampNeg = k from nI_clamp (by omega))).trans (ua.gA da rfl rfl ((ud_q (m := m) (P := 99) (j := 5) da rfl).symm.trans (ua.1.1.r (p := 99) (j := 5) (q := 120) rfl)))).trans ((congrArg (fun z => z.2 k) (show Va.2.2.1 99 5 = (U.2.2.1 99 5) from (zza.a 99 5 rfl))).trans (hk5 k (by omega)).1))]
        refine mw_go mu_g277 (k := 1) (f1 := (78, [(2, .inl (nI k)), (0, .inr (.inr (some 129))), (1, .inl (nI fre))], [], (mu_si Hsa 141 (nI k).toNatClampNeg (nI (f k))))) (C := [mu_is Hsa (some 141) 100, vp_in (nI k) (mu_n Hsa 141)]) rfl (show (mu_is Hsa (some 141) 100) ∧ (vp_in (nI k) (mu_n Hsa 141)) from ⟨(ua.iA da rfl rfl ((ud_q (m := m) (P := 129) (j := 13) da rfl).symm.trans (ua.1.1.r (p := 129) (j := 13) (q := 141) rfl))), (by rw [show mu_n Hsa 141 = 14 from (ua.1.1.a (p := 141) (x := (100, 14)) rfl).2]; exact vp_in_nI (n := k) (by omega) (by decide))⟩) ?_
        rw [(show (nI k).toNatClampNeg = k from nI_clamp (by omega))]
        obtain ⟨u6, r6, d6⟩ : um m (mu_si Hsa 141 k (nI (f k))) ∧ ur m C Hsa (mu_si Hsa 141 k (nI (f k))) ∧ ud m (mu_si Hsa 141 k (nI (f k))) = (upA Va 129 13 k (nI (f k))) := ua.sA (C := C) da rfl rfl ((ud_q (m := m) (P := 129) (j := 13) da rfl).symm.trans (ua.1.1.r (p := 129) (j := 13) (q := 141) rfl))
        generalize (mu_si Hsa 141 k (nI (f k))) = Q6 at u6 r6 d6 ⊢
        have qf6 : uq F277 U (upA Va 129 13 k (nI (f k))) := qfa.A rfl
        have ht6 : ur m C H Q6 := hta.trans r6
        refine mw_go mu_g277 (k := 2) (f1 := (80, [(3, .inl (0 : Int32)), (2, .inl (nI k)), (0, .inr (.inr (some 129))), (1, .inl (nI fre))], [], Q6)) (C := []) rfl trivial ?_
        show mu_W _ _ (80, [(3, .inl (nI 0)), (2, .inl (nI k)), (0, .inr (.inr (some 129))), (1, .inl (nI fre))], [], Q6) _
        refine mw_sub (L' := [(3, .inl (nI 0)), (0, .inr (.inr (some 129))), (1, .inl (nI fre)), (2, .inl (nI k))]) (by simp) ?_
        refine mw_down (α := Nat × mu_H) (fun zs => (80, [(3, .inl (nI zs.1)), (0, .inr (.inr (some 129))), (1, .inl (nI fre)), (2, .inl (nI k))], [], zs.2)) (fun zs => f k - zs.1) (fun zs => um m zs.2 ∧ ur m C H zs.2 ∧ (uq F277b (upA Va 129 13 k (nI (f k))) (ud m zs.2)) ∧ (zs.1 ≤ f k) ∧ (∀ i, i < zs.1 → ((ud m zs.2).2.2.1 129 12).2 (sm f 0 k + i) = nI i) ∧ (∀ j, (j < sm f 0 k ∨ sm f 0 k + f k ≤ j) → ((ud m zs.2).2.2.1 129 12).2 j = (Va.2.2.1 129 12).2 j)) (fun zs hzb ihb => ?_) (0, Q6) ⟨u6, ht6, (show uq F277b (upA Va 129 13 k (nI (f k))) (ud m Q6) from by rw [d6]; exact uq.refl _ _), (show 0 ≤ f k from (by omega)), (show ∀ i, i < 0 → ((ud m Q6).2.2.1 129 12).2 (sm f 0 k + i) = nI i from by rw [d6]; exact (fun i hi => absurd hi (Nat.not_lt_zero _))), (show ∀ j, (j < sm f 0 k ∨ sm f 0 k + f k ≤ j) → ((ud m Q6).2.2.1 129 12).2 j = (Va.2.2.1 129 12).2 j from by rw [d6]; exact (fun j _ => rfl))⟩
        obtain ⟨y, Hsb⟩ := zs
        obtain ⟨ub, htb, db, hy, hV, hO⟩ := hzb
        have ub : um m Hsb := ub
        have htb : ur m C H Hsb := htb
        have zzb : uq F277b (upA Va 129 13 k (nI (f k))) (ud m Hsb) := db
        have hy : y ≤ f k := hy
        have hV : ∀ i, i < y → ((ud m Hsb).2.2.1 129 12).2 (sm f 0 k + i) = nI i := hV
        have hO : ∀ j, (j < sm f 0 k ∨ sm f 0 k + f k ≤ j) → ((ud m Hsb).2.2.1 129 12).2 j = (Va.2.2.1 129 12).2 j := hO
        obtain ⟨Vb, db⟩ : ∃ V, ud m Hsb = V := ⟨_, rfl⟩
        rw [db] at zzb hV hO
        have qfb : uq F277 U Vb := qf6.tr zzb rfl
        show mu_W _ _ (80, [(3, .inl (nI y)), (0, .inr (.inr (some 129))), (1, .inl (nI fre)), (2, .inl (nI k))], [], Hsb) _
        refine mw_go mu_g277 (k := 3) (f1 := (85, [(3, .inl (nI y)), (0, .inr (.inr (some 129))), (1, .inl (nI fre)), (2, .inl (nI k))], [.inr (.inr (mu_r Hsb 129 0)), .inl (nI y)], Hsb)) (C := [mu_is Hsb (some 129) 9]) rfl (show mu_is Hsb (some 129) 9 from (ub.1.1.is rfl)) ?_
        rw [(ub.1.1.r (p := 129) (j := 0) (q := 99) rfl)]
        refine mw_go mu_g277 (k := 1) (f1 := (88, [(3, .inl (nI y)), (0, .inr (.inr (some 129))), (1, .inl (nI fre)), (2, .inl (nI k))], [.inr (.inr (mu_r Hsb 99 5)), .inl (nI y)], Hsb)) (C := [mu_is Hsb (some 99) 13]) rfl (show mu_is Hsb (some 99) 13 from (ub.1.1.is rfl)) ?_
        rw [(ub.1.1.r (p := 99) (j := 5) (q := 120) rfl)]
        refine mw_go mu_g277 (k := 2) (f1 := (90, [(3, .inl (nI y)), (0, .inr (.inr (some 129))), (1, .inl (nI fre)), (2, .inl (nI k))], [.inl (mu_i Hsb 120 (nI k).toNatClampNeg), .inl (nI y)], Hsb)) (C := [mu_isr Hsb (some 120) 100, vp_in (nI k) (mu_n Hsb 120)]) rfl (show (mu_isr Hsb (some 120) 100) ∧ (vp_in (nI k) (mu_n Hsb 120)) from ⟨((ub.iA db rfl rfl ((ud_q (m := m) (P := 99) (j := 5) db rfl).symm.trans (ub.1.1.r (p := 99) (j := 5) (q := 120) rfl)))).r, (by rw [show mu_n Hsb 120 = 14 from (ub.1.1.a (p := 120) (x := (100, 14)) rfl).2]; exact vp_in_nI (n := k) (by omega) (by decide))⟩) ?_
        rw [(show (mu_i Hsb 120 (nI k).toNatClampNeg) = (nI (f k)) from ((congrArg (mu_i Hsb 120) (show (nI k).toNatClampNeg = k from nI_clamp (by omega))).trans (ub.gA db rfl rfl ((ud_q (m := m) (P := 99) (j := 5) db rfl).symm.trans (ub.1.1.r (p := 99) (j := 5) (q := 120) rfl)))).trans ((congrArg (fun z => z.2 k) (show Vb.2.2.1 99 5 = (U.2.2.1 99 5) from ((zzb.a 99 5 rfl).trans (zza.a 99 5 rfl)))).trans (hk5 k (by omega)).1))]
        refine mw_if (P := (nI y) < (nI (f k))) (a := 93) (b := 116) (fun _ => rfl) trivial (fun h7 => ?_) (fun h7 => ?_)
        · -- 93: (nI y) < (nI (f k))
          have nh7 : y < (f k) := (nI_ltI (by omega) (by omega)).mp (show nI y < nI (f k) from h7)
          refine mw_go mu_g277 (k := 2) (f1 := (97, [(3, .inl (nI y)), (0, .inr (.inr (some 129))), (1, .inl (nI fre)), (2, .inl (nI k))], [.inr (.inr (mu_r Hsb 129 12))], Hsb)) (C := [mu_is Hsb (some 129) 9]) rfl (show mu_is Hsb (some 129) 9 from (ub.1.1.is rfl)) ?_
          rw [(show mu_r Hsb 129 12 = (U.2.2.2.1 129 12) from (ud_q (U := Vb) (m := m) (P := 129) (j := 12) db rfl).trans ((zzb.r 129 12 rfl).trans (zza.r 129 12 rfl)))]
          refine mw_go mu_g277 (k := 2) (f1 := (101, [(3, .inl (nI y)), (0, .inr (.inr (some 129))), (1, .inl (nI fre)), (2, .inl (nI k))], [.inr (.inr (mu_r Hsb 129 0)), .inr (.inr (U.2.2.2.1 129 12))], Hsb)) (C := [mu_is Hsb (some 129) 9]) rfl (show mu_is Hsb (some 129) 9 from (ub.1.1.is rfl)) ?_
          rw [(ub.1.1.r (p := 129) (j := 0) (q := 99) rfl)]
          refine mw_go mu_g277 (k := 1) (f1 := (104, [(3, .inl (nI y)), (0, .inr (.inr (some 129))), (1, .inl (nI fre)), (2, .inl (nI k))], [.inr (.inr (mu_r Hsb 99 7)), .inr (.inr (U.2.2.2.1 129 12))], Hsb)) (C := [mu_is Hsb (some 99) 13]) rfl (show mu_is Hsb (some 99) 13 from (ub.1.1.is rfl)) ?_
          rw [(ub.1.1.r (p := 99) (j := 7) (q := 122) rfl)]
          refine mw_go mu_g277 (k := 2) (f1 := (106, [(3, .inl (nI y)), (0, .inr (.inr (some 129))), (1, .inl (nI fre)), (2, .inl (nI k))], [.inl (mu_i Hsb 122 (nI k).toNatClampNeg), .inr (.inr (U.2.2.2.1 129 12))], Hsb)) (C := [mu_isr Hsb (some 122) 100, vp_in (nI k) (mu_n Hsb 122)]) rfl (show (mu_isr Hsb (some 122) 100) ∧ (vp_in (nI k) (mu_n Hsb 122)) from ⟨((ub.iA db rfl rfl ((ud_q (m := m) (P := 99) (j := 7) db rfl).symm.trans (ub.1.1.r (p := 99) (j := 7) (q := 122) rfl)))).r, (by rw [show mu_n Hsb 122 = 14 from (ub.1.1.a (p := 122) (x := (100, 14)) rfl).2]; exact vp_in_nI (n := k) (by omega) (by decide))⟩) ?_
          rw [(show (mu_i Hsb 122 (nI k).toNatClampNeg) = (nI (sm f 0 k)) from ((congrArg (mu_i Hsb 122) (show (nI k).toNatClampNeg = k from nI_clamp (by omega))).trans (ub.gA db rfl rfl ((ud_q (m := m) (P := 99) (j := 7) db rfl).symm.trans (ub.1.1.r (p := 99) (j := 7) (q := 122) rfl)))).trans ((congrArg (fun z => z.2 k) (show Vb.2.2.1 99 7 = (U.2.2.1 99 7) from ((zzb.a 99 7 rfl).trans (zza.a 99 7 rfl)))).trans (hk5 k (by omega)).2.1))]
          refine mw_go mu_g277 (k := 2) (f1 := (108, [(3, .inl (nI y)), (0, .inr (.inr (some 129))), (1, .inl (nI fre)), (2, .inl (nI k))], [.inl ((nI (sm f 0 k)) + (nI y)), .inr (.inr (U.2.2.2.1 129 12))], Hsb)) (C := []) rfl trivial ?_
          rw [(show ((nI (sm f 0 k)) + (nI y)) = (nI ((sm f 0 k) + y)) from (nI_add (sm f 0 k) y))]
          refine mw_go mu_g277 (k := 2) (f1 := (110, [(3, .inl (nI y)), (0, .inr (.inr (some 129))), (1, .inl (nI fre)), (2, .inl (nI k))], [], (mu_si Hsb (mu_p (U.2.2.2.1 129 12)) (nI ((sm f 0 k) + y)).toNatClampNeg (nI y)))) (C := [mu_is Hsb (U.2.2.2.1 129 12) 100, vp_in (nI ((sm f 0 k) + y)) (mu_n Hsb (mu_p (U.2.2.2.1 129 12)))]) rfl (show (mu_is Hsb (U.2.2.2.1 129 12) 100) ∧ (vp_in (nI ((sm f 0 k) + y)) (mu_n Hsb (mu_p (U.2.2.2.1 129 12)))) from ⟨(ub.iA db rfl rfl (show Vb.2.2.2.1 129 12 = (U.2.2.2.1 129 12) from ((zzb.r 129 12 rfl).trans (zza.r 129 12 rfl)))), (ub.vA (i := (sm f 0 k) + y) db rfl rfl (show Vb.2.2.2.1 129 12 = (U.2.2.2.1 129 12) from ((zzb.r 129 12 rfl).trans (zza.r 129 12 rfl))) (show (Vb.2.2.1 129 12).1 = (U.2.2.1 129 12).1 from ((zzb.n 129 12 rfl).trans (zza.n 129 12 rfl))) (by omega) (by omega))⟩) ?_
          rw [(show (nI ((sm f 0 k) + y)).toNatClampNeg = (sm f 0 k) + y from nI_clamp (by omega))]
          obtain ⟨u8, r8, d8⟩ : um m (mu_si Hsb (mu_p (U.2.2.2.1 129 12)) ((sm f 0 k) + y) (nI y)) ∧ ur m C Hsb (mu_si Hsb (mu_p (U.2.2.2.1 129 12)) ((sm f 0 k) + y) (nI y)) ∧ ud m (mu_si Hsb (mu_p (U.2.2.2.1 129 12)) ((sm f 0 k) + y) (nI y)) = (upA Vb 129 12 ((sm f 0 k) + y) (nI y)) := ub.sA (C := C) db rfl rfl (show Vb.2.2.2.1 129 12 = (U.2.2.2.1 129 12) from ((zzb.r 129 12 rfl).trans (zza.r 129 12 rfl)))
          generalize (mu_si Hsb (mu_p (U.2.2.2.1 129 12)) ((sm f 0 k) + y) (nI y)) = Q8 at u8 r8 d8 ⊢
          have qf8 : uq F277 U (upA Vb 129 12 ((sm f 0 k) + y) (nI y)) := qfb.A rfl
          have ht8 : ur m C H Q8 := htb.trans r8
          refine mw_go mu_g277 (k := 1) (f1 := (113, [(3, .inl ((nI y) + 1)), (0, .inr (.inr (some 129))), (1, .inl (nI fre)), (2, .inl (nI k))], [], Q8)) (C := []) rfl trivial ?_
          rw [(show ((nI y) + 1) = (nI (y + 1)) from (nI_add y 1))]
          refine mw_go mu_g277 (k := 1) (f1 := (80, [(3, .inl (nI (y + 1))), (0, .inr (.inr (some 129))), (1, .inl (nI fre)), (2, .inl (nI k))], [], Q8)) (C := []) rfl trivial ?_
          exact mw_sub (by simp) (ihb (y + 1, Q8) ⟨u8, ht8, (show uq F277b (upA Va 129 13 k (nI (f k))) (ud m Q8) from by rw [d8]; exact (zzb.A rfl)), (show (y + 1) ≤ f k from (by omega)), (show ∀ i, i < (y + 1) → ((ud m Q8).2.2.1 129 12).2 (sm f 0 k + i) = nI i from by rw [d8]; exact (fun i hi => (by show (if sm f 0 k + i = sm f 0 k + y then nI y else (Vb.2.2.1 129 12).2 (sm f 0 k + i)) = nI i; by_cases e0 : i = y; (rw [if_pos (by omega), e0]); (rw [if_neg (by omega)]; exact hV i (by omega))))), (show ∀ j, (j < sm f 0 k ∨ sm f 0 k + f k ≤ j) → ((ud m Q8).2.2.1 129 12).2 j = (Va.2.2.1 129 12).2 j from by rw [d8]; exact (fun j hj => (by show (if j = sm f 0 k + y then nI y else (Vb.2.2.1 129 12).2 j) = _; rw [if_neg (by omega)]; exact hO j hj)))⟩ (by show f k - (y + 1) < f k - y; omega))
        · -- 116: not (nI y) < (nI (f k))
          have nh7 : ¬ y < (f k) := fun z => h7 (show nI y < nI (f k) from (nI_ltI (by omega) (by omega)).mpr z)
          refine mw_go mu_g277 (k := 1) (f1 := (119, [(2, .inl ((nI k) + 1)), (3, .inl (nI y)), (0, .inr (.inr (some 129))), (1, .inl (nI fre))], [], Hsb)) (C := []) rfl trivial ?_
          rw [(show ((nI k) + 1) = (nI (k + 1)) from (nI_add k 1))]
          refine mw_go mu_g277 (k := 1) (f1 := (49, [(2, .inl (nI (k + 1))), (3, .inl (nI y)), (0, .inr (.inr (some 129))), (1, .inl (nI fre))], [], Hsb)) (C := []) rfl trivial ?_
          exact mw_sub (by simp) (iha (k + 1, Hsb) ⟨ub, htb, (show uq F277a U (ud m Hsb) from by rw [db]; exact ((zza.A rfl).tr zzb rfl)), (show (k + 1) ≤ fre from (by omega)), (show ∀ j, j < (k + 1) → OPL (ud m Hsb) (sm f 0 j) (f j) j (A j) from by rw [db]; exact (fun j hj => by by_cases e0 : j = k; (rw [e0]; exact ⟨f k, fun i => i, (congrArg (fun q => q.2 k) (show Vb.2.2.1 129 13 = (upA Va 129 13 k (nI (f k))).2.2.1 129 13 from zzb.a 129 13 rfl)).trans (if_pos rfl), fun i hi => hV i (by omega), fun i j h1 _ => h1, fun x => by rw [lmz_id]; exact ⟨fun q => ⟨q, hoc2 x q⟩, fun q => q.1⟩⟩); exact (hD j (by omega)).other ((congrArg (fun q => q.2 j) (show Vb.2.2.1 129 13 = (upA Va 129 13 k (nI (f k))).2.2.1 129 13 from zzb.a 129 13 rfl)).trans (if_neg (by omega))) (fun q h1 h2 => hO q (by have y1 := sm_seg (f := f) (k := j) (P := k); have y2 := sm_seg (f := f) (k := k) (P := j); omega)))), (show ∀ j, (k + 1) ≤ j → j < P → OPT (ud m Hsb) (sm f 0 j) (f j) j (A j) from by rw [db]; exact (fun j h1 h2 => (hU j (by omega) h2).other ((congrArg (fun q => q.2 j) (show Vb.2.2.1 129 13 = (upA Va 129 13 k (nI (f k))).2.2.1 129 13 from zzb.a 129 13 rfl)).trans (if_neg (by omega))) (fun q h1 h2 => hO q (by have y1 := sm_seg (f := f) (k := j) (P := k); have y2 := sm_seg (f := f) (k := k) (P := j); omega))))⟩ (by show fre - (k + 1) < fre - k; omega))
      · -- a list
        have hnn := lm_len hoc4 hoc5
        refine mw_go mu_g277 (k := 2) (f1 := (58, [(2, .inl (nI k)), (0, .inr (.inr (some 129))), (1, .inl (nI fre))], [.inr (.inr (mu_r Hsa 129 13))], Hsa)) (C := [mu_is Hsa (some 129) 9]) rfl (show mu_is Hsa (some 129) 9 from (ua.1.1.is rfl)) ?_
        rw [(ua.1.1.r (p := 129) (j := 13) (q := 141) rfl)]
        refine mw_go mu_g277 (k := 2) (f1 := (60, [(2, .inl (nI k)), (0, .inr (.inr (some 129))), (1, .inl (nI fre))], [.inl (mu_i Hsa 141 (nI k).toNatClampNeg)], Hsa)) (C := [mu_isr Hsa (some 141) 100, vp_in (nI k) (mu_n Hsa 141)]) rfl (show (mu_isr Hsa (some 141) 100) ∧ (vp_in (nI k) (mu_n Hsa 141)) from ⟨((ua.iA da rfl rfl ((ud_q (m := m) (P := 129) (j := 13) da rfl).symm.trans (ua.1.1.r (p := 129) (j := 13) (q := 141) rfl)))).r, (by rw [show mu_n Hsa 141 = 14 from (ua.1.1.a (p := 141) (x := (100, 14)) rfl).2]; exact vp_in_nI (n := k) (by omega) (by decide))⟩) ?_
        rw [(show (mu_i Hsa 141 (nI k).toNatClampNeg) = (nI nn) from ((congrArg (mu_i Hsa 141) (show (nI k).toNatClampNeg = k from nI_clamp (by omega))).trans (ua.gA da rfl rfl ((ud_q (m := m) (P := 129) (j := 13) da rfl).symm.trans (ua.1.1.r (p := 129) (j := 13) (q := 141) rfl)))).trans ((congrArg (fun z => z.2 k) (show Va.2.2.1 129 13 = (Va.2.2.1 129 13) from rfl)).trans hoc1))]
        refine mw_if (P := (nI nn) < 0) (a := 63) (b := 116) (fun _ => rfl) trivial (fun h9 => absurd h9 (nI_pos (by omega))) (fun h9 => ?_)
        refine mw_go mu_g277 (k := 1) (f1 := (119, [(2, .inl ((nI k) + 1)), (0, .inr (.inr (some 129))), (1, .inl (nI fre))], [], Hsa)) (C := []) rfl trivial ?_
        rw [(show ((nI k) + 1) = (nI (k + 1)) from (nI_add k 1))]
        refine mw_go mu_g277 (k := 1) (f1 := (49, [(2, .inl (nI (k + 1))), (0, .inr (.inr (some 129))), (1, .inl (nI fre))], [], Hsa)) (C := []) rfl trivial ?_
        exact mw_sub (by simp) (iha (k + 1, Hsa) ⟨ua, hta, (show uq F277a U (ud m Hsa) from by rw [da]; exact zza), (show (k + 1) ≤ fre from (by omega)), (show ∀ j, j < (k + 1) → OPL (ud m Hsa) (sm f 0 j) (f j) j (A j) from by rw [da]; exact (fun j hj => by by_cases e0 : j = k; (rw [e0]; exact ⟨nn, lls, hoc1, hoc3, hoc4, hoc5⟩); exact hD j (by omega))), (show ∀ j, (k + 1) ≤ j → j < P → OPT (ud m Hsa) (sm f 0 j) (f j) j (A j) from by rw [da]; exact (fun j h1 h2 => hU j (by omega) h2))⟩ (by show fre - (k + 1) < fre - k; omega))
    · -- 122: not (nI k) < (nI fre)
      have nh4 : ¬ k < fre := fun z => h4 (show nI k < nI fre from (nI_ltI (by omega) (by omega)).mpr z)
      refine mw_go mu_g277 (k := 6) (f1 := (128, [(2, .inl (nI k)), (0, .inr (.inr (some 129))), (1, .inl (nI fre))], [.inl (nI fre), .inl (0 : Int32), .inl (0 : Int32), .inl (0 : Int32), .inr (.inr (some 129)), .inr (.inr (some 129))], Hsa)) (C := []) rfl trivial ?_
      have hke : k = fre := by omega
      rw [hke] at hD
      obtain ⟨on, ol, hon⟩ := pick_opl hD
      have hE : EXS Va m P f fre N us S z p nf tm lc oc on ol L nb bo b := ⟨spx_keep hS (zza.i 99 4 rfl) (zza.i 99 10 rfl) (zza.i 99 11 rfl) (zza.i 99 12 rfl) (zza.a 99 5 rfl) (zza.a 99 7 rfl) (zza.a 99 6 rfl) (zza.n 99 8 rfl) (zza.n 99 18 rfl) (zza.r 100 0 rfl) (zza.r 99 0 rfl), hSK.q zza rfl rfl rfl rfl rfl rfl, (by rw [zza.t 24 rfl]; exact h24), (by unfold CHN at hch ⊢; rw [zza.a 129 15 rfl, zza.t 24 rfl]; exact hch), hpm, (fun r hr => by rw [zza.t 24 rfl]; exact ⟨htm r hr, hoc r hr⟩), (fun j hj => ⟨(hon j hj).1, (hon j hj).2.1, (hon j hj).2.2.1, fun i hi => lm_lt (hon j hj).2.2.2 i hi⟩), (by rw [zza.n 129 12 rfl, zza.n 129 10 rfl]; exact ⟨⟨hl12, hl12b⟩, hl10, hl10b⟩), ⟨⟨(zza.i 129 21 rfl).trans hbr, hBI, hBO, hB.eq (zza.t 27 rfl)⟩, by omega⟩, (zza.l 124 rfl).trans hLL⟩
      have hB0 : Bk f P 0 = pd f 0 P := rfl
      have hAA : EXA m P f fre N us S z p nf tm lc oc on ol L nb bo b Hsa Va 0 0 0 dg := ⟨ua, da, hE, (fun j hj => by rw [zza.a 129 16 rfl]; exact hdg j hj), (fun j hj => absurd hj (Nat.not_lt_zero _)), ⟨0, rfl⟩, (by rw [hB0]; omega), (fun t _ _ j hj => absurd hj (Nat.not_lt_zero _)), ⟨fun _ => 0, fun i hi => absurd hi (Nat.not_lt_zero _), fun i j _ hj => absurd hj (Nat.not_lt_zero _), fun x => ⟨fun q => (by cases q), fun q => absurd q.1 (Nat.not_lt_zero _)⟩⟩⟩
      refine mw_cI (fun _ => rfl) (show mu_is Hsa (some 129) 9 from (ua.1.1.is rfl)) (by have q := rl_ext (d := d + (14 - fre)) (C := C) hf1 fre (by omega) hAA; rw [show d + (14 - fre) + fre + 4 = d + 18 by omega] at q; exact q) (fun x10 Q10 q10 => ?_)
      obtain ⟨n9, rfl, u10, r10, z10, hl9, dg9, hdg9, -⟩ := q10
      have ht10 : ur m C H Q10 := hta.trans r10
      obtain ⟨V10, d10⟩ : ∃ V, ud m Q10 = V := ⟨_, rfl⟩
      rw [d10] at z10 hl9 hdg9
      have qf10 : uq F277 U V10 := qfa.tr z10 rfl
      refine mw_go mu_g277 (k := 1) (f1 := (134, [(2, .inl (nI k)), (0, .inr (.inr (some 129))), (1, .inl (nI fre))], [], (mu_si Q10 129 11 (nI n9)))) (C := [mu_is Q10 (some 129) 9]) rfl (show mu_is Q10 (some 129) 9 from (u10.1.1.is rfl)) ?_
      obtain ⟨u11, r11, d11⟩ : um m (mu_si Q10 129 11 (nI n9)) ∧ ur m C Q10 (mu_si Q10 129 11 (nI n9)) ∧ ud m (mu_si Q10 129 11 (nI n9)) = (upI V10 129 11 (nI n9)) := u10.sI (C := C) d10 rfl
      generalize (mu_si Q10 129 11 (nI n9)) = Q11 at u11 r11 d11 ⊢
      have qf11 : uq F277 U (upI V10 129 11 (nI n9)) := qf10.I rfl
      have ht11 : ur m C H Q11 := ht10.trans r11
      rw [hB0, Nat.zero_add] at hl9
      have hbey : ∀ j, fre ≤ j → j < P → (∀ x, x < f j → A j x) ∧ ∀ r, r < nf → ¬ lc r = j := fun j h1 h2 => ⟨(by rcases hop j h2 with ⟨_, y2⟩ | ⟨nn, lls, y1, y4, y5, y6⟩; (exact y2); (have y3 := (hfr j h1 (by omega)).1; rw [y1] at y3; have y7 := lm_len y5 y6; have y8 := sm_part (f := f) h2; exact absurd y3 (nI_pos (by omega)))), fun r hr => lsf_none h24.2 (hfr j h1 (by omega)).2 hr⟩
      have hfin : LSO (upI V10 129 11 (nI n9)) n9 (pd f 0 P) (fun t => bts L t = true ∧ ∀ j, j < P → A j (dgzU f P t j) ∧ ∀ r, r < nf → lc r = j → fin nb bo b 0 nf r → S (oc r) (ixz (tm r) f (dgzU f P t) P) = true) := (show LSO (upI V10 129 11 (nI n9)) n9 (pd f 0 P) _ from hl9).congr (fun t ht => ⟨fun q => ⟨q.1, fun j hj => by by_cases e0 : j < fre; (exact ⟨(((hon j e0).2.2.2 _).mp (q.2 j e0).1).2, (q.2 j e0).2⟩); (exact ⟨(hbey j (by omega) hj).1 _ (dgz_lt hf1), fun r hr g1 => absurd g1 ((hbey j (by omega) hj).2 r hr)⟩)⟩, fun q => ⟨q.1, fun j hj => ⟨((hon j hj).2.2.2 _).mpr ⟨dgz_lt hf1, (q.2 j (by omega)).1⟩, (q.2 j (by omega)).2⟩⟩⟩)
      exact mw_of (fun _ => mu_ret rfl trivial ⟨Q11, rfl, u11, ht11, (by rw [d11]; exact qf11), n9, (by rw [d11]; rfl), (by rw [d11]; exact hfin)⟩)
end Spell
