/-! RELATION: sift -/
/-- the wide truths leave a STATE -/
def WTR (Y : Ts) (U : Ud) (f : Nat → Nat) (P : Nat) (od wa wn wi : Nat → Nat) (s w t : Nat) : Prop := ∀ r, r < w → (U.1 25).2 r 3 = -1 → ¬ trs Y U f P od (wi r) (wa r) (wn r) s t = 0
section Sift
variable {H : mu_H} {U V : Ud} {m d P s nw w t nn : Nat} {C : Nat → Nat} {Y : Ts} {f od wa wn wi : Nat → Nat} {es : Nat → Int32} {Q : Nat → Prop}
theorem WTR.skip {pl : Nat} (h3 : (U.1 25).2 w 3 = nI pl) (hp : pl < 14) : WTR Y U f P od wa wn wi s w t ↔ WTR Y U f P od wa wn wi s (w + 1) t := by
  constructor
  · intro h r hr he
    by_cases e : r = w
    · rw [e, h3] at he
      exact absurd he (nI_neg1 (by omega))
    · exact h r (by omega) he
  · exact fun h r hr => h r (by omega)
theorem WTR.hit (h3 : (U.1 25).2 w 3 = -1) : (WTR Y U f P od wa wn wi s w t ∧ ¬ trs Y U f P od (wi w) (wa w) (wn w) s t = 0) ↔ WTR Y U f P od wa wn wi s (w + 1) t := by
  constructor
  · rintro ⟨h, h1⟩ r hr he
    by_cases e : r = w
    · rw [e]
      exact h1
    · exact h r (by omega) he
  · exact fun h => ⟨fun r hr => h r (by omega), h w (by omega) h3⟩
/-- truths as numbers -/
def tvz (Y : Ts) (U : Ud) (f : Nat → Nat) (P : Nat) (od : Nat → Nat) (i a N s : Nat) (ls : Nat → Nat) (q : Nat) : Nat := if trs Y U f P od i a N s (ls q) = 0 then 0 else 1
theorem tvz_le {i a N q : Nat} {ls : Nat → Nat} : tvz Y U f P od i a N s ls q ≤ 1 := by
  unfold tvz
  split <;> decide
theorem tvz_n {i a N q : Nat} {ls : Nat → Nat} (h : trs Y U f P od i a N s (ls q) = 0 ∨ trs Y U f P od i a N s (ls q) = 1) : trs Y U f P od i a N s (ls q) = nI (tvz Y U f P od i a N s ls q) := by
  unfold tvz
  rcases h with y | y
  · rw [if_pos y, y]; rfl
  · rw [if_neg (by rw [y]; decide), y]; rfl
theorem tvz_or {i a N q : Nat} {ls : Nat → Nat} : (tvz Y U f P od i a N s ls q = 1 ∧ ¬ trs Y U f P od i a N s (ls q) = 0) ∨ (tvz Y U f P od i a N s ls q = 0 ∧ ¬ ¬ trs Y U f P od i a N s (ls q) = 0) := by
  unfold tvz
  by_cases y : trs Y U f P od i a N s (ls q) = 0
  · exact Or.inr ⟨if_pos y, fun z => z y⟩
  · exact Or.inl ⟨if_neg y, y⟩
theorem FLTR.same {lf a : Nat} {ls : Nat → Nat} (h : FLTR U lf a ls Q) (e : V.2.2.1 129 10 = U.2.2.1 129 10) : FLTR V lf a ls Q := by
  unfold FLTR at h ⊢
  rw [e]
  exact h
def F278 : Uf := ⟨[21, 22], [(100, 4), (100, 5), (100, 6), (100, 7), (100, 17), (100, 21), (100, 18), (100, 19), (100, 14), (100, 16), (129, 11)], [(100, 3), (100, 8), (100, 12), (100, 13), (100, 15), (100, 9), (100, 10), (100, 11), (129, 10)], [(100, 3), (100, 8), (100, 12), (100, 13), (100, 15)], [], false⟩
def F278a : Uf := ⟨[21, 22], [(100, 4), (100, 5), (100, 6), (100, 7), (100, 17), (100, 21), (100, 18), (100, 19), (100, 14), (100, 16), (129, 11)], [(100, 3), (100, 8), (100, 12), (100, 13), (100, 15), (100, 9), (100, 10), (100, 11), (129, 10)], [(100, 3), (100, 8), (100, 12), (100, 13), (100, 15)], [], false⟩
def F278b : Uf := ⟨[22], [(100, 18), (100, 19), (100, 14), (100, 16), (100, 21)], [(100, 8), (100, 12), (100, 9), (100, 10), (100, 11), (100, 13), (100, 15), (129, 10)], [], [], false⟩
/-- PathProver$Relation.sift()V -/
abbrev mu_m278 : ev_M := (6, none, [], ev_b278)
theorem mu_g278 : mu_good mu_m278 := mu_goodk ev_k278
theorem rl_sift (h : um m H) (e : ud m H = U) (hK : KNV m U Y P f od es) (hM : MCS U) (hL : MLD U Y P f od) (hP0 : PSV U P f s) (hWD : WID Y es P (U.1 25) nw wa wn wi) (hn : U.2.1 129 11 = nI nn) (hLS0 : LSO U nn (pd f 0 P) Q) (hl10 : pd f 0 P + 4 ≤ (U.2.2.1 129 10).1) (hl10b : (U.2.2.1 129 10).1 ≤ 16777216) (hC21 : 2 * (((Y 13).1 + 2) * 4) + 4 ≤ C 21) (hC21b : C 21 ≤ 8388608) : mu_TV (mu_D (d + 7)) 278 [.inr (.inr (some 129))] H (fun H1 => um m H1 ∧ ur m C H H1 ∧ uq F278 U (ud m H1) ∧ KNV m (ud m H1) Y P f od es ∧ MCS (ud m H1) ∧ MLD (ud m H1) Y P f od ∧ PSV (ud m H1) P f s ∧ ∃ n2, (ud m H1).2.1 129 11 = nI n2 ∧ LSO (ud m H1) n2 (pd f 0 P) (fun t => Q t ∧ WTR Y U f P od wa wn wi s nw t)) := by
  have hS := hK.1
  obtain ⟨⟨s4, s10, s11, s12⟩, hk5, ⟨g8, g8b, g18, g18b⟩, ⟨gP, gpd, gsm⟩, hsp, hmo⟩ := (show spx m U P f from hS)
  have hf1 := hK.2.1
  have hnw := hWD.1.1
  have hnw2 := hWD.1.2
  refine mu_meth (M := mu_m278) rfl rfl ?_
  refine mw_ht (mu_fn_of (show [0].Nodup by decide)) ?_
  refine mw_go mu_g278 (k := 2) (f1 := (2, [(1, .inl (0 : Int32)), (0, .inr (.inr (some 129)))], [], H)) (C := []) rfl trivial ?_
  show mu_W _ _ (2, [(1, .inl (nI 0)), (0, .inr (.inr (some 129)))], [], H) _
  refine mw_sub (L' := [(1, .inl (nI 0)), (0, .inr (.inr (some 129)))]) (by simp) ?_
  refine mw_down (α := Nat × mu_H) (fun zs => (2, [(1, .inl (nI zs.1)), (0, .inr (.inr (some 129)))], [], zs.2)) (fun zs => nw - zs.1) (fun zs => um m zs.2 ∧ ur m C H zs.2 ∧ (uq F278a U (ud m zs.2)) ∧ (zs.1 ≤ nw) ∧ (KNV m (ud m zs.2) Y P f od es) ∧ (MCS (ud m zs.2)) ∧ (MLD (ud m zs.2) Y P f od) ∧ (PSV (ud m zs.2) P f s) ∧ (∃ n2, (ud m zs.2).2.1 129 11 = nI n2 ∧ LSO (ud m zs.2) n2 (pd f 0 P) (fun t => Q t ∧ WTR Y U f P od wa wn wi s zs.1 t))) (fun zs hza iha => ?_) (0, H) ⟨h, (ur.refl m C H), (show uq F278a U (ud m H) from by rw [e]; exact uq.refl _ _), (show 0 ≤ nw from (by omega)), (show KNV m (ud m H) Y P f od es from by rw [e]; exact hK), (show MCS (ud m H) from by rw [e]; exact hM), (show MLD (ud m H) Y P f od from by rw [e]; exact hL), (show PSV (ud m H) P f s from by rw [e]; exact hP0), (show ∃ n2, (ud m H).2.1 129 11 = nI n2 ∧ LSO (ud m H) n2 (pd f 0 P) (fun t => Q t ∧ WTR Y U f P od wa wn wi s 0 t) from by rw [e]; exact ⟨nn, hn, LSO.congr hLS0 (fun x _ => ⟨fun y => ⟨y, fun r hr => absurd hr (Nat.not_lt_zero _)⟩, fun y => y.1⟩)⟩)⟩
  obtain ⟨w, Hsa⟩ := zs
  obtain ⟨ua, hta, da, hw, hKN, hMC, hLD, hPS, hLS⟩ := hza
  have ua : um m Hsa := ua
  have hta : ur m C H Hsa := hta
  have zza : uq F278a U (ud m Hsa) := da
  have hw : w ≤ nw := hw
  have hKN : KNV m (ud m Hsa) Y P f od es := hKN
  have hMC : MCS (ud m Hsa) := hMC
  have hLD : MLD (ud m Hsa) Y P f od := hLD
  have hPS : PSV (ud m Hsa) P f s := hPS
  have hLS : ∃ n2, (ud m Hsa).2.1 129 11 = nI n2 ∧ LSO (ud m Hsa) n2 (pd f 0 P) (fun t => Q t ∧ WTR Y U f P od wa wn wi s w t) := hLS
  obtain ⟨Va, da⟩ : ∃ V, ud m Hsa = V := ⟨_, rfl⟩
  rw [da] at zza hKN hMC hLD hPS hLS
  have qfa : uq F278 U Va := (uq.refl F278 U).tr zza rfl
  show mu_W _ _ (2, [(1, .inl (nI w)), (0, .inr (.inr (some 129)))], [], Hsa) _
  refine mw_go mu_g278 (k := 3) (f1 := (7, [(1, .inl (nI w)), (0, .inr (.inr (some 129)))], [.inr (.inr (mu_r Hsa 129 3)), .inl (nI w)], Hsa)) (C := [mu_is Hsa (some 129) 9]) rfl (show mu_is Hsa (some 129) 9 from (ua.1.1.is rfl)) ?_
  rw [(ua.1.1.r (p := 129) (j := 3) (q := 132) rfl)]
  refine mw_go mu_g278 (k := 1) (f1 := (10, [(1, .inl (nI w)), (0, .inr (.inr (some 129)))], [.inl (mu_i Hsa 132 2), .inl (nI w)], Hsa)) (C := [mu_is Hsa (some 132) 10]) rfl (show mu_is Hsa (some 132) 10 from (ua.1.1.is rfl)) ?_
  rw [(show mu_i Hsa 132 2 = (nI nw) from (ua.size da (j := 25) (by decide) rfl).trans (congrArg nI ((congrArg Prod.fst (show Va.1 25 = (U.1 25) from (zza.t 25 rfl))).trans hnw)))]
  refine mw_if (P := (nI w) < (nI nw)) (a := 13) (b := 175) (fun _ => rfl) trivial (fun h1 => ?_) (fun h1 => ?_)
  · -- 13: (nI w) < (nI nw)
    have nh1 : w < nw := (nI_ltI (by omega) (by omega)).mp (show nI w < nI nw from h1)
    obtain ⟨⟨hw0, hw1, hw2, hwi⟩, hcase⟩ := hWD.2 w (by omega)
    obtain ⟨nL, hnL, hLO⟩ := hLS
    have hnT := hLO.le
    obtain ⟨ls, hlv, hlr, hlm⟩ := id hLO
    have hlb : ∀ i, i < nL → ls i < 16384 := fun i hi => by have y := ((hlm (ls i)).mp ((lmz_iff nL).mpr ⟨i, hi, rfl⟩)).1; omega
    rcases hcase with ⟨hw3, hrg, rs, hsr, hst⟩ | ⟨pl, hpl, hw3, hrg, rs, hsr⟩
    · -- E
      have htp : tpz Y (wa w) (wn w) = 1 := by have y := rg_1 hrg; rw [Nat.add_sub_cancel_left] at y; exact y
      refine mw_go mu_g278 (k := 2) (f1 := (17, [(1, .inl (nI w)), (0, .inr (.inr (some 129)))], [.inr (.inr (mu_r Hsa 129 3))], Hsa)) (C := [mu_is Hsa (some 129) 9]) rfl (show mu_is Hsa (some 129) 9 from (ua.1.1.is rfl)) ?_
      rw [(ua.1.1.r (p := 129) (j := 3) (q := 132) rfl)]
      refine mw_go mu_g278 (k := 2) (f1 := (19, [(1, .inl (nI w)), (0, .inr (.inr (some 129)))], [.inl (3 : Int32), .inl (nI w), .inr (.inr (some 132))], Hsa)) (C := []) rfl trivial ?_
      refine mw_cIe (fun _ => rfl) (show mu_is Hsa (some 132) 10 from (ua.1.1.is rfl)) (ua.getr (d := (d + 5)) da (j := 25) (by decide) rfl (nI w) (c := 3) (by decide)) ?_
      rw [show (tget (Va.1 25) (nI w) 3) = (-1 : Int32) from ((congrArg (fun z => tget z (nI w) 3) (show Va.1 25 = (U.1 25) from (zza.t 25 rfl))).trans (tget_nI (by omega))).trans hw3]
      refine mw_if (P := (-1 : Int32) < 0) (a := 28) (b := 25) (fun _ => rfl) trivial (fun h3 => ?_) (fun h3 => absurd (by decide) h3)
      refine mw_go mu_g278 (k := 2) (f1 := (32, [(1, .inl (nI w)), (0, .inr (.inr (some 129)))], [.inr (.inr (mu_r Hsa 129 0))], Hsa)) (C := [mu_is Hsa (some 129) 9]) rfl (show mu_is Hsa (some 129) 9 from (ua.1.1.is rfl)) ?_
      rw [(ua.1.1.r (p := 129) (j := 0) (q := 99) rfl)]
      refine mw_go mu_g278 (k := 1) (f1 := (35, [(1, .inl (nI w)), (0, .inr (.inr (some 129)))], [.inr (.inr (mu_r Hsa 99 1))], Hsa)) (C := [mu_is Hsa (some 99) 13]) rfl (show mu_is Hsa (some 99) 13 from (ua.1.1.is rfl)) ?_
      rw [(ua.1.1.r (p := 99) (j := 1) (q := 100) rfl)]
      refine mw_go mu_g278 (k := 2) (f1 := (39, [(1, .inl (nI w)), (0, .inr (.inr (some 129)))], [.inr (.inr (mu_r Hsa 129 3)), .inr (.inr (some 100))], Hsa)) (C := [mu_is Hsa (some 129) 9]) rfl (show mu_is Hsa (some 129) 9 from (ua.1.1.is rfl)) ?_
      rw [(ua.1.1.r (p := 129) (j := 3) (q := 132) rfl)]
      refine mw_go mu_g278 (k := 2) (f1 := (41, [(1, .inl (nI w)), (0, .inr (.inr (some 129)))], [.inl (0 : Int32), .inl (nI w), .inr (.inr (some 132)), .inr (.inr (some 100))], Hsa)) (C := []) rfl trivial ?_
      refine mw_cIe (fun _ => rfl) (show mu_is Hsa (some 132) 10 from (ua.1.1.is rfl)) (ua.getr (d := (d + 5)) da (j := 25) (by decide) rfl (nI w) (c := 0) (by decide)) ?_
      rw [show (tget (Va.1 25) (nI w) 0) = (nI (wa w)) from ((congrArg (fun z => tget z (nI w) 0) (show Va.1 25 = (U.1 25) from (zza.t 25 rfl))).trans (tget_nI (by omega))).trans hw0]
      refine mw_go mu_g278 (k := 2) (f1 := (48, [(1, .inl (nI w)), (0, .inr (.inr (some 129)))], [.inr (.inr (mu_r Hsa 129 3)), .inl (nI (wa w)), .inr (.inr (some 100))], Hsa)) (C := [mu_is Hsa (some 129) 9]) rfl (show mu_is Hsa (some 129) 9 from (ua.1.1.is rfl)) ?_
      rw [(ua.1.1.r (p := 129) (j := 3) (q := 132) rfl)]
      refine mw_go mu_g278 (k := 2) (f1 := (50, [(1, .inl (nI w)), (0, .inr (.inr (some 129)))], [.inl (1 : Int32), .inl (nI w), .inr (.inr (some 132)), .inl (nI (wa w)), .inr (.inr (some 100))], Hsa)) (C := []) rfl trivial ?_
      refine mw_cIe (fun _ => rfl) (show mu_is Hsa (some 132) 10 from (ua.1.1.is rfl)) (ua.getr (d := (d + 5)) da (j := 25) (by decide) rfl (nI w) (c := 1) (by decide)) ?_
      rw [show (tget (Va.1 25) (nI w) 1) = (nI (wa w + wn w)) from ((congrArg (fun z => tget z (nI w) 1) (show Va.1 25 = (U.1 25) from (zza.t 25 rfl))).trans (tget_nI (by omega))).trans hw1]
      refine mw_go mu_g278 (k := 2) (f1 := (57, [(1, .inl (nI w)), (0, .inr (.inr (some 129)))], [.inr (.inr (mu_r Hsa 129 3)), .inl (nI (wa w + wn w)), .inl (nI (wa w)), .inr (.inr (some 100))], Hsa)) (C := [mu_is Hsa (some 129) 9]) rfl (show mu_is Hsa (some 129) 9 from (ua.1.1.is rfl)) ?_
      rw [(ua.1.1.r (p := 129) (j := 3) (q := 132) rfl)]
      refine mw_go mu_g278 (k := 2) (f1 := (59, [(1, .inl (nI w)), (0, .inr (.inr (some 129)))], [.inl (2 : Int32), .inl (nI w), .inr (.inr (some 132)), .inl (nI (wa w + wn w)), .inl (nI (wa w)), .inr (.inr (some 100))], Hsa)) (C := []) rfl trivial ?_
      refine mw_cIe (fun _ => rfl) (show mu_is Hsa (some 132) 10 from (ua.1.1.is rfl)) (ua.getr (d := (d + 5)) da (j := 25) (by decide) rfl (nI w) (c := 2) (by decide)) ?_
      rw [show (tget (Va.1 25) (nI w) 2) = (nI (wi w)) from ((congrArg (fun z => tget z (nI w) 2) (show Va.1 25 = (U.1 25) from (zza.t 25 rfl))).trans (tget_nI (by omega))).trans hw2]
      refine mw_cV (fun _ => rfl) (show mu_is Hsa (some 100) 5 from (ua.1.1.is rfl)) (mc_load2 (d := (d + 1)) (C := C) (a0 := wa w) (N0 := wn w) (i0 := wi w) ua da hKN hMC hLD hwi hrg hC21 hC21b) (fun Q7 q7 => ?_)
      obtain ⟨u7, r7, z7, hKN1, hMC1, hLD1, hKC1⟩ := q7
      have ht7 : ur m C H Q7 := hta.trans r7
      obtain ⟨V7, d7⟩ : ∃ V, ud m Q7 = V := ⟨_, rfl⟩
      rw [d7] at z7 hKN1 hMC1 hLD1 hKC1
      have qf7 : uq F278 U V7 := qfa.tr z7 rfl
      have hPS1 : PSV V7 P f s := fun r hr => by rw [hKC1 r 2 (by decide) (by decide), show V7.2.2.1 99 8 = Va.2.2.1 99 8 from z7.a 99 8 rfl]; exact hPS r hr
      refine mw_go mu_g278 (k := 2) (f1 := (69, [(1, .inl (nI w)), (0, .inr (.inr (some 129)))], [.inr (.inr (mu_r Q7 129 0))], Q7)) (C := [mu_is Q7 (some 129) 9]) rfl (show mu_is Q7 (some 129) 9 from (u7.1.1.is rfl)) ?_
      rw [(u7.1.1.r (p := 129) (j := 0) (q := 99) rfl)]
      refine mw_go mu_g278 (k := 1) (f1 := (72, [(1, .inl (nI w)), (0, .inr (.inr (some 129)))], [.inr (.inr (mu_r Q7 99 1))], Q7)) (C := [mu_is Q7 (some 99) 13]) rfl (show mu_is Q7 (some 99) 13 from (u7.1.1.is rfl)) ?_
      rw [(u7.1.1.r (p := 99) (j := 1) (q := 100) rfl)]
      refine mw_cV (fun _ => rfl) (show mu_is Q7 (some 100) 5 from (u7.1.1.is rfl)) (mc_begin2 (d := (d + 2)) (C := C) (a0 := wa w) (N0 := wn w) (i0 := wi w) (s := s) u7 d7 hKN1 hMC1 hLD1 hPS1) (fun Q8 q8 => ?_)
      obtain ⟨u8, r8, z8, hKN2, hMC2, hPS2, hLS2⟩ := q8
      have ht8 : ur m C H Q8 := ht7.trans r8
      obtain ⟨V8, d8⟩ : ∃ V, ud m Q8 = V := ⟨_, rfl⟩
      rw [d8] at z8 hKN2 hMC2 hPS2 hLS2
      have qf8 : uq F278 U V8 := qf7.tr z8 rfl
      refine mw_go mu_g278 (k := 6) (f1 := (82, [(4, .inl (0 : Int32)), (3, .inl (0 : Int32)), (2, .inl (0 : Int32)), (1, .inl (nI w)), (0, .inr (.inr (some 129)))], [], Q8)) (C := []) rfl trivial ?_
      show mu_W _ _ (82, [(4, .inl (nI 0)), (3, .inl (nI 0)), (2, .inl (nI 0)), (1, .inl (nI w)), (0, .inr (.inr (some 129)))], [], Q8) _
      refine mw_sub (L' := [(4, .inl (nI 0)), (3, .inl (nI 0)), (2, .inl (nI 0)), (0, .inr (.inr (some 129))), (1, .inl (nI w))]) (by simp) ?_
      refine mw_down (α := Nat × Nat × Nat × mu_H) (fun zs => (82, [(4, .inl (nI zs.1)), (3, .inl (nI zs.2.1)), (2, .inl (nI zs.2.2.1)), (0, .inr (.inr (some 129))), (1, .inl (nI w))], [], zs.2.2.2)) (fun zs => nL - zs.2.1) (fun zs => um m zs.2.2.2 ∧ ur m C H zs.2.2.2 ∧ (uq F278b V8 (ud m zs.2.2.2)) ∧ (zs.2.1 ≤ nL) ∧ (zs.1 ≤ zs.2.1) ∧ (zs.2.2.1 ≤ zs.2.1) ∧ (KNV m (ud m zs.2.2.2) Y P f od es) ∧ (MCS (ud m zs.2.2.2)) ∧ (PSV (ud m zs.2.2.2) P f s) ∧ (LSK (ud m zs.2.2.2) Y P f od (wa w) (wn w) (wi w) s (nL - zs.2.1)) ∧ (∀ j, zs.2.1 ≤ j → j < nL → ((ud m zs.2.2.2).2.2.1 129 10).2 j = nI (ls j)) ∧ (FLTR (ud m zs.2.2.2) zs.2.2.1 zs.2.1 ls (fun t => ¬ trs Y U f P od (wi w) (wa w) (wn w) s t = 0))) (fun zs hzb ihb => ?_) (0, 0, 0, Q8) ⟨u8, ht8, (show uq F278b V8 (ud m Q8) from by rw [d8]; exact uq.refl _ _), (show 0 ≤ nL from (by omega)), (show 0 ≤ 0 from (by omega)), (show 0 ≤ 0 from (by omega)), (show KNV m (ud m Q8) Y P f od es from by rw [d8]; exact hKN2), (show MCS (ud m Q8) from by rw [d8]; exact hMC2), (show PSV (ud m Q8) P f s from by rw [d8]; exact hPS2), (show LSK (ud m Q8) Y P f od (wa w) (wn w) (wi w) s (nL - 0) from by rw [d8]; exact (hLS2 _)), (show ∀ j, 0 ≤ j → j < nL → ((ud m Q8).2.2.1 129 10).2 j = nI (ls j) from by rw [d8]; exact (fun j _ hj => by rw [(show (V8.2.2.1 129 10) = (Va.2.2.1 129 10) from ((z8.a 129 10 rfl).trans (z7.a 129 10 rfl)))]; exact hlv j hj)), (show FLTR (ud m Q8) 0 0 ls (fun t => ¬ trs Y U f P od (wi w) (wa w) (wn w) s t = 0) from by rw [d8]; exact ⟨fun _ => 0, fun j hj => absurd hj (Nat.not_lt_zero _), fun i j _ hj => absurd hj (Nat.not_lt_zero _), fun x => ⟨fun y => (by cases y), fun y => (by cases y.1)⟩⟩)⟩
      obtain ⟨iy, ay, lf, Hsb⟩ := zs
      obtain ⟨ub, htb, db, hay, hiy, hlf, hKI, hMI, hPI, hLI, hTI, hFI⟩ := hzb
      have ub : um m Hsb := ub
      have htb : ur m C H Hsb := htb
      have zzb : uq F278b V8 (ud m Hsb) := db
      have hay : ay ≤ nL := hay
      have hiy : iy ≤ ay := hiy
      have hlf : lf ≤ ay := hlf
      have hKI : KNV m (ud m Hsb) Y P f od es := hKI
      have hMI : MCS (ud m Hsb) := hMI
      have hPI : PSV (ud m Hsb) P f s := hPI
      have hLI : LSK (ud m Hsb) Y P f od (wa w) (wn w) (wi w) s (nL - ay) := hLI
      have hTI : ∀ j, ay ≤ j → j < nL → ((ud m Hsb).2.2.1 129 10).2 j = nI (ls j) := hTI
      have hFI : FLTR (ud m Hsb) lf ay ls (fun t => ¬ trs Y U f P od (wi w) (wa w) (wn w) s t = 0) := hFI
      obtain ⟨Vb, db⟩ : ∃ V, ud m Hsb = V := ⟨_, rfl⟩
      rw [db] at zzb hKI hMI hPI hLI hTI hFI
      have qfb : uq F278 U Vb := qf8.tr zzb rfl
      show mu_W _ _ (82, [(4, .inl (nI iy)), (3, .inl (nI ay)), (2, .inl (nI lf)), (0, .inr (.inr (some 129))), (1, .inl (nI w))], [], Hsb) _
      refine mw_go mu_g278 (k := 3) (f1 := (88, [(4, .inl (nI iy)), (3, .inl (nI ay)), (2, .inl (nI lf)), (0, .inr (.inr (some 129))), (1, .inl (nI w))], [.inl (mu_i Hsb 129 11), .inl (nI iy)], Hsb)) (C := [mu_is Hsb (some 129) 9]) rfl (show mu_is Hsb (some 129) 9 from (ub.1.1.is rfl)) ?_
      rw [(show mu_i Hsb 129 11 = (nI nL) from (ud_i (U := Vb) (m := m) (P := 129) (j := 11) db rfl).trans ((zzb.i 129 11 rfl).trans ((z8.i 129 11 rfl).trans ((z7.i 129 11 rfl).trans hnL))))]
      refine mw_if (P := (nI iy) < (nI nL)) (a := 91) (b := 164) (fun _ => rfl) trivial (fun h9 => ?_) (fun h9 => ?_)
      · -- 91: (nI iy) < (nI nL)
        have nh9 : iy < nL := (nI_ltI (by omega) (by omega)).mp (show nI iy < nI nL from h9)
        refine mw_go mu_g278 (k := 3) (f1 := (96, [(4, .inl (nI iy)), (3, .inl (nI ay)), (2, .inl (nI lf)), (0, .inr (.inr (some 129))), (1, .inl (nI w))], [.inl (mu_i Hsb 129 11), .inl (nI ay)], Hsb)) (C := [mu_is Hsb (some 129) 9]) rfl (show mu_is Hsb (some 129) 9 from (ub.1.1.is rfl)) ?_
        rw [(show mu_i Hsb 129 11 = (nI nL) from (ud_i (U := Vb) (m := m) (P := 129) (j := 11) db rfl).trans ((zzb.i 129 11 rfl).trans ((z8.i 129 11 rfl).trans ((z7.i 129 11 rfl).trans hnL))))]
        refine mw_if (P := (nI ay) < (nI nL)) (a := 99) (b := 164) (fun _ => rfl) trivial (fun h10 => ?_) (fun h10 => ?_)
        · -- 99: (nI ay) < (nI nL)
          have nh10 : ay < nL := (nI_ltI (by omega) (by omega)).mp (show nI ay < nI nL from h10)
          refine mw_go mu_g278 (k := 2) (f1 := (103, [(4, .inl (nI iy)), (3, .inl (nI ay)), (2, .inl (nI lf)), (0, .inr (.inr (some 129))), (1, .inl (nI w))], [.inr (.inr (mu_r Hsb 129 0))], Hsb)) (C := [mu_is Hsb (some 129) 9]) rfl (show mu_is Hsb (some 129) 9 from (ub.1.1.is rfl)) ?_
          rw [(ub.1.1.r (p := 129) (j := 0) (q := 99) rfl)]
          refine mw_go mu_g278 (k := 1) (f1 := (106, [(4, .inl (nI iy)), (3, .inl (nI ay)), (2, .inl (nI lf)), (0, .inr (.inr (some 129))), (1, .inl (nI w))], [.inr (.inr (mu_r Hsb 99 1))], Hsb)) (C := [mu_is Hsb (some 99) 13]) rfl (show mu_is Hsb (some 99) 13 from (ub.1.1.is rfl)) ?_
          rw [(ub.1.1.r (p := 99) (j := 1) (q := 100) rfl)]
          refine mw_go mu_g278 (k := 2) (f1 := (110, [(4, .inl (nI iy)), (3, .inl (nI ay)), (2, .inl (nI lf)), (0, .inr (.inr (some 129))), (1, .inl (nI w))], [.inr (.inr (mu_r Hsb 129 10)), .inr (.inr (some 100))], Hsb)) (C := [mu_is Hsb (some 129) 9]) rfl (show mu_is Hsb (some 129) 9 from (ub.1.1.is rfl)) ?_
          rw [(show mu_r Hsb 129 10 = (U.2.2.2.1 129 10) from (ud_q (U := Vb) (m := m) (P := 129) (j := 10) db rfl).trans ((zzb.r 129 10 rfl).trans ((z8.r 129 10 rfl).trans ((z7.r 129 10 rfl).trans (zza.r 129 10 rfl)))))]
          refine mw_go mu_g278 (k := 3) (f1 := (115, [(4, .inl (nI iy)), (3, .inl (nI ay)), (2, .inl (nI lf)), (0, .inr (.inr (some 129))), (1, .inl (nI w))], [.inl (mu_i Hsb 129 11), .inl (nI ay), .inr (.inr (U.2.2.2.1 129 10)), .inr (.inr (some 100))], Hsb)) (C := [mu_is Hsb (some 129) 9]) rfl (show mu_is Hsb (some 129) 9 from (ub.1.1.is rfl)) ?_
          rw [(show mu_i Hsb 129 11 = (nI nL) from (ud_i (U := Vb) (m := m) (P := 129) (j := 11) db rfl).trans ((zzb.i 129 11 rfl).trans ((z8.i 129 11 rfl).trans ((z7.i 129 11 rfl).trans hnL))))]
          refine mw_go mu_g278 (k := 2) (f1 := (117, [(4, .inl (nI iy)), (3, .inl (nI ay)), (2, .inl (nI lf)), (0, .inr (.inr (some 129))), (1, .inl (nI w))], [.inl ((nI nL) - (nI ay)), .inl (nI ay), .inr (.inr (U.2.2.2.1 129 10)), .inr (.inr (some 100))], Hsb)) (C := []) rfl trivial ?_
          rw [(show ((nI nL) - (nI ay)) = (nI (nL - ay)) from (nI_sub (a := nL) (b := ay) (by omega)))]
          refine mw_cI (fun _ => rfl) (show mu_is Hsb (some 100) 5 from (ub.1.1.is rfl)) (by have q := mc_take2 (d := (d + 1)) (C := C) (a0 := wa w) (N0 := wn w) (i0 := wi w) (s := s) (n := nL - ay) (st := ay) (rem := nL - ay) (ls := fun i => ls (ay + i)) ub db hKI hMI hLI hPI (fun i hi => ⟨hTI (ay + i) (by omega) (by omega), hlb (ay + i) (by omega)⟩) (fun i j h1 h2 => hlr (ay + i) (ay + j) (by omega) (by omega)) (by omega) (Nat.le_refl _) (by rw [(show (Vb.2.2.1 129 10).1 = (U.2.2.1 129 10).1 from ((zzb.n 129 10 rfl).trans ((z8.n 129 10 rfl).trans ((z7.n 129 10 rfl).trans (zza.n 129 10 rfl)))))]; omega) (by rw [(show (Vb.2.2.1 129 10).1 = (U.2.2.1 129 10).1 from ((zzb.n 129 10 rfl).trans ((z8.n 129 10 rfl).trans ((z7.n 129 10 rfl).trans (zza.n 129 10 rfl)))))]; exact hl10b); rw [(show (Vb.2.2.2.1 129 10) = (U.2.2.2.1 129 10) from ((zzb.r 129 10 rfl).trans ((z8.r 129 10 rfl).trans ((z7.r 129 10 rfl).trans (zza.r 129 10 rfl)))))] at q; exact q) (fun x11 Q11 q11 => ?_)
          obtain ⟨l, ⟨rfl, hl1, hlnn, hl2⟩, u11, r11, z11, hKI1, hMI1, hPI1, hRT⟩ := q11
          have ht11 : ur m C H Q11 := htb.trans r11
          obtain ⟨V11, d11⟩ : ∃ V, ud m Q11 = V := ⟨_, rfl⟩
          rw [d11] at z11 hKI1 hMI1 hPI1 hRT
          have qf11 : uq F278 U V11 := qfb.tr z11 rfl
          refine mw_go mu_g278 (k := 3) (f1 := (126, [(5, .inl (nI l)), (4, .inl (nI iy)), (3, .inl (nI ay)), (2, .inl (nI lf)), (0, .inr (.inr (some 129))), (1, .inl (nI w))], [.inr (.inr (mu_r Q11 129 0))], Q11)) (C := [mu_is Q11 (some 129) 9]) rfl (show mu_is Q11 (some 129) 9 from (u11.1.1.is rfl)) ?_
          rw [(u11.1.1.r (p := 129) (j := 0) (q := 99) rfl)]
          refine mw_go mu_g278 (k := 1) (f1 := (129, [(5, .inl (nI l)), (4, .inl (nI iy)), (3, .inl (nI ay)), (2, .inl (nI lf)), (0, .inr (.inr (some 129))), (1, .inl (nI w))], [.inr (.inr (mu_r Q11 99 1))], Q11)) (C := [mu_is Q11 (some 99) 13]) rfl (show mu_is Q11 (some 99) 13 from (u11.1.1.is rfl)) ?_
          rw [(u11.1.1.r (p := 99) (j := 1) (q := 100) rfl)]
          refine mw_cV (fun _ => rfl) (show mu_is Q11 (some 100) 5 from (u11.1.1.is rfl)) (mc_run3 (d := d) (C := C) (a0 := wa w) (N0 := wn w) (i0 := wi w) (s := s) (al := 1) (n := nL - ay) (l := l) u11 d11 hKI1 hMI1 hRT hPI1 hwi hrg hsr (by decide)) (fun Q12 q12 => ?_)
          obtain ⟨u12, r12, z12, hKI2, hMI2, hPI2, hLI2, hRS⟩ := q12
          have ht12 : ur m C H Q12 := ht11.trans r12
          obtain ⟨V12, d12⟩ : ∃ V, ud m Q12 = V := ⟨_, rfl⟩
          rw [d12] at z12 hKI2 hMI2 hPI2 hLI2 hRS
          have qf12 : uq F278 U V12 := qf11.tr z12 rfl
          refine mw_go mu_g278 (k := 4) (f1 := (138, [(5, .inl (nI l)), (4, .inl (nI iy)), (3, .inl (nI ay)), (2, .inl (nI lf)), (0, .inr (.inr (some 129))), (1, .inl (nI w))], [.inr (.inr (mu_r Q12 129 0)), .inr (.inr (some 129)), .inl (nI lf)], Q12)) (C := [mu_is Q12 (some 129) 9]) rfl (show mu_is Q12 (some 129) 9 from (u12.1.1.is rfl)) ?_
          rw [(u12.1.1.r (p := 129) (j := 0) (q := 99) rfl)]
          refine mw_go mu_g278 (k := 1) (f1 := (141, [(5, .inl (nI l)), (4, .inl (nI iy)), (3, .inl (nI ay)), (2, .inl (nI lf)), (0, .inr (.inr (some 129))), (1, .inl (nI w))], [.inr (.inr (mu_r Q12 99 1)), .inr (.inr (some 129)), .inl (nI lf)], Q12)) (C := [mu_is Q12 (some 99) 13]) rfl (show mu_is Q12 (some 99) 13 from (u12.1.1.is rfl)) ?_
          rw [(u12.1.1.r (p := 99) (j := 1) (q := 100) rfl)]
          refine mw_cA (fun _ => rfl) (show mu_is Q12 (some 100) 5 from (u12.1.1.is rfl)) (mc_results2 (d := (d + 2)) (C := C) u12 d12 hRS htp) (fun x13 Q13 q13 => ?_)
          obtain ⟨rfl, u13, r13, z13, hres⟩ := q13
          have ht13 : ur m C H Q13 := ht12.trans r13
          obtain ⟨V13, d13⟩ : ∃ V, ud m Q13 = V := ⟨_, rfl⟩
          rw [d13] at z13 hres
          have qf13 : uq F278 U V13 := qf12.tr z13 rfl
          have htv : ∀ q, q < l → (V13.2.2.1 100 9).2 q = nI ((tvz Y U f P od (wi w) (wa w) (wn w) s (fun i => ls (ay + i))) q) ∧ (tvz Y U f P od (wi w) (wa w) (wn w) s (fun i => ls (ay + i))) q ≤ 1 := fun q hq => ⟨(hres q hq).trans ((show _ = trs Y V11 f P od (wi w) (wa w) (wn w) s (ls (ay + q)) from rfl).trans ((trs_same (show (V11.1 15) = (U.1 15) from ((z11.t 15 rfl).trans ((zzb.t 15 rfl).trans ((z8.t 15 rfl).trans ((z7.t 15 rfl).trans (zza.t 15 rfl)))))) (show (V11.2.2.1 99 8) = (U.2.2.1 99 8) from ((z11.a 99 8 rfl).trans ((zzb.a 99 8 rfl).trans ((z8.a 99 8 rfl).trans ((z7.a 99 8 rfl).trans (zza.a 99 8 rfl))))))).trans (tvz_n (ls := fun i => ls (ay + i)) (trs_01 hK hrg hsr (by decide) hst)))), tvz_le⟩
          refine mw_go mu_g278 (k := 3) (f1 := (148, [(5, .inl (nI l)), (4, .inl (nI iy)), (3, .inl (nI ay)), (2, .inl (nI lf)), (0, .inr (.inr (some 129))), (1, .inl (nI w))], [.inl (nI lf), .inl (nI l), .inl (nI ay), .inr (.inr (some 107)), .inr (.inr (some 129)), .inl (nI lf)], Q13)) (C := []) rfl trivial ?_
          refine mw_cI (fun _ => rfl) (show mu_is Q13 (some 129) 9 from (u13.1.1.is rfl)) (rl_leave (d := (d + 5)) (C := C) (fr := ay) (mn := l) (tq := lf) (tv := (tvz Y U f P od (wi w) (wa w) (wn w) s (fun i => ls (ay + i)))) u13 d13 htv hl2 hlf (by rw [(show (V13.2.2.1 129 10).1 = (U.2.2.1 129 10).1 from ((z13.n 129 10 rfl).trans ((z12.n 129 10 rfl).trans ((z11.n 129 10 rfl).trans ((zzb.n 129 10 rfl).trans ((z8.n 129 10 rfl).trans ((z7.n 129 10 rfl).trans (zza.n 129 10 rfl))))))))]; omega) (by rw [(show (V13.2.2.1 129 10).1 = (U.2.2.1 129 10).1 from ((z13.n 129 10 rfl).trans ((z12.n 129 10 rfl).trans ((z11.n 129 10 rfl).trans ((zzb.n 129 10 rfl).trans ((z8.n 129 10 rfl).trans ((z7.n 129 10 rfl).trans (zza.n 129 10 rfl))))))))]; exact hl10b)) (fun x14 Q14 q14 => ?_)
          obtain ⟨rfl, u14, r14, z14, hLV⟩ := q14
          have ht14 : ur m C H Q14 := ht13.trans r14
          obtain ⟨V14, d14⟩ : ∃ V, ud m Q14 = V := ⟨_, rfl⟩
          rw [d14] at z14 hLV
          have qf14 : uq F278 U V14 := qf13.tr z14 rfl
          have hcl := ctv_le (fun q (_ : q < l) => (tvz_le : (tvz Y U f P od (wi w) (wa w) (wn w) s (fun i => ls (ay + i))) q ≤ 1)) (Nat.le_refl l)
          refine mw_go mu_g278 (k := 1) (f1 := (152, [(5, .inl (nI l)), (4, .inl (nI iy)), (3, .inl (nI ay)), (2, .inl (nI lf)), (0, .inr (.inr (some 129))), (1, .inl (nI w))], [.inl ((nI lf) + (nI (ctv (tvz Y U f P od (wi w) (wa w) (wn w) s (fun i => ls (ay + i))) l)))], Q14)) (C := []) rfl trivial ?_
          rw [(show ((nI lf) + (nI (ctv (tvz Y U f P od (wi w) (wa w) (wn w) s (fun i => ls (ay + i))) l))) = (nI (lf + (ctv (tvz Y U f P od (wi w) (wa w) (wn w) s (fun i => ls (ay + i))) l))) from (nI_add lf (ctv (tvz Y U f P od (wi w) (wa w) (wn w) s (fun i => ls (ay + i))) l)))]
          refine mw_go mu_g278 (k := 4) (f1 := (157, [(2, .inl (nI (lf + (ctv (tvz Y U f P od (wi w) (wa w) (wn w) s (fun i => ls (ay + i))) l)))), (5, .inl (nI l)), (4, .inl (nI iy)), (3, .inl (nI ay)), (0, .inr (.inr (some 129))), (1, .inl (nI w))], [.inl ((nI ay) + (nI l))], Q14)) (C := []) rfl trivial ?_
          rw [(show ((nI ay) + (nI l)) = (nI (ay + l)) from (nI_add ay l))]
          refine mw_go mu_g278 (k := 2) (f1 := (161, [(4, .inl ((nI iy) + 1)), (3, .inl (nI (ay + l))), (2, .inl (nI (lf + (ctv (tvz Y U f P od (wi w) (wa w) (wn w) s (fun i => ls (ay + i))) l)))), (5, .inl (nI l)), (0, .inr (.inr (some 129))), (1, .inl (nI w))], [], Q14)) (C := []) rfl trivial ?_
          rw [(show ((nI iy) + 1) = (nI (iy + 1)) from (nI_add iy 1))]
          refine mw_go mu_g278 (k := 1) (f1 := (82, [(4, .inl (nI (iy + 1))), (3, .inl (nI (ay + l))), (2, .inl (nI (lf + (ctv (tvz Y U f P od (wi w) (wa w) (wn w) s (fun i => ls (ay + i))) l)))), (5, .inl (nI l)), (0, .inr (.inr (some 129))), (1, .inl (nI w))], [], Q14)) (C := []) rfl trivial ?_
          exact mw_sub (by simp) (ihb (iy + 1, ay + l, lf + (ctv (tvz Y U f P od (wi w) (wa w) (wn w) s (fun i => ls (ay + i))) l), Q14) ⟨u14, ht14, (show uq F278b V8 (ud m Q14) from by rw [d14]; exact ((((zzb.tr z11 rfl).tr z12 rfl).tr z13 rfl).tr z14 rfl)), (show (ay + l) ≤ nL from (by omega)), (show (iy + 1) ≤ (ay + l) from (by omega)), (show (lf + (ctv (tvz Y U f P od (wi w) (wa w) (wn w) s (fun i => ls (ay + i))) l)) ≤ (ay + l) from (by omega)), (show KNV m (ud m Q14) Y P f od es from by rw [d14]; exact ((hKI2.q z13 rfl).q z14 rfl)), (show MCS (ud m Q14) from by rw [d14]; exact (mcs_keep hMI2 (by rw [(show (V14.1 22) = (V12.1 22) from ((z14.t 22 rfl).trans (z13.t 22 rfl)))]; exact hMI2.1) (show (V14.2.2.1 100 3).1 = (V12.2.2.1 100 3).1 from ((z14.n 100 3 rfl).trans (z13.n 100 3 rfl))) (show (V14.2.2.1 100 8).1 = (V12.2.2.1 100 8).1 from ((z14.n 100 8 rfl).trans (z13.n 100 8 rfl))) (show (V14.2.2.1 100 12).1 = (V12.2.2.1 100 12).1 from ((z14.n 100 12 rfl).trans (z13.n 100 12 rfl))) (show (V14.2.2.1 100 13).1 = (V12.2.2.1 100 13).1 from ((z14.n 100 13 rfl).trans (z13.n 100 13 rfl))) (show (V14.2.2.1 100 15).1 = (V12.2.2.1 100 15).1 from ((z14.n 100 15 rfl).trans (z13.n 100 15 rfl))))), (show PSV (ud m Q14) P f s from by rw [d14]; exact (fun r hr => by rw [(show (V14.1 22) = (V12.1 22) from ((z14.t 22 rfl).trans (z13.t 22 rfl))), (show (V14.2.2.1 99 8) = (V12.2.2.1 99 8) from ((z14.a 99 8 rfl).trans (z13.a 99 8 rfl)))]; exact hPI2 r hr)), (show LSK (ud m Q14) Y P f od (wa w) (wn w) (wi w) s (nL - (ay + l)) from by rw [d14]; exact (by rw [show nL - (ay + l) = nL - ay - l by omega]; exact hLI2.keep (show (V14.1 21) = (V12.1 21) from ((z14.t 21 rfl).trans (z13.t 21 rfl))) (show (V14.1 22) = (V12.1 22) from ((z14.t 22 rfl).trans (z13.t 22 rfl))) (show (V14.1 15) = (V12.1 15) from ((z14.t 15 rfl).trans (z13.t 15 rfl))) (show (V14.2.2.1 100 3) = (V12.2.2.1 100 3) from ((z14.a 100 3 rfl).trans (z13.a 100 3 rfl))) (show (V14.2.1 100 5) = (V12.2.1 100 5) from ((z14.i 100 5 rfl).trans (z13.i 100 5 rfl))) (show (V14.2.1 100 7) = (V12.2.1 100 7) from ((z14.i 100 7 rfl).trans (z13.i 100 7 rfl))) (show (V14.2.1 100 17) = (V12.2.1 100 17) from ((z14.i 100 17 rfl).trans (z13.i 100 17 rfl))) (show (V14.2.1 100 4) = (V12.2.1 100 4) from ((z14.i 100 4 rfl).trans (z13.i 100 4 rfl))) (show (V14.2.2.1 100 8) = (V12.2.2.1 100 8) from ((z14.a 100 8 rfl).trans (z13.a 100 8 rfl))) (show (V14.2.2.1 100 12) = (V12.2.2.1 100 12) from ((z14.a 100 12 rfl).trans (z13.a 100 12 rfl))) (show (V14.2.2.1 100 13).1 = (V12.2.2.1 100 13).1 from ((z14.n 100 13 rfl).trans (z13.n 100 13 rfl))) (show (V14.2.2.1 100 15).1 = (V12.2.2.1 100 15).1 from ((z14.n 100 15 rfl).trans (z13.n 100 15 rfl))) (show (V14.2.2.1 99 8) = (V12.2.2.1 99 8) from ((z14.a 99 8 rfl).trans (z13.a 99 8 rfl))) (show (V14.2.1 100 21) = (V12.2.1 100 21) from ((z14.i 100 21 rfl).trans (z13.i 100 21 rfl))))), (show ∀ j, (ay + l) ≤ j → j < nL → ((ud m Q14).2.2.1 129 10).2 j = nI (ls j) from by rw [d14]; exact (fun j h1 h2 => (hLV.2.2 j h1).trans ((congrArg (fun q => q.2 j) (show (V13.2.2.1 129 10) = (Vb.2.2.1 129 10) from ((z13.a 129 10 rfl).trans ((z12.a 129 10 rfl).trans (z11.a 129 10 rfl))))).trans (hTI j (by omega) h2)))), (show FLTR (ud m Q14) (lf + (ctv (tvz Y U f P od (wi w) (wa w) (wn w) s (fun i => ls (ay + i))) l)) (ay + l) ls (fun t => ¬ trs Y U f P od (wi w) (wa w) (wn w) s t = 0) from by rw [d14]; exact (FLTR.step (hFI.same (show (V13.2.2.1 129 10) = (Vb.2.2.1 129 10) from ((z13.a 129 10 rfl).trans ((z12.a 129 10 rfl).trans (z11.a 129 10 rfl))))) hLV (fun q _ => tvz_or (ls := fun i => ls (ay + i))) hlr (by omega) (fun j h1 h2 => (congrArg (fun q => q.2 j) (show (V13.2.2.1 129 10) = (Vb.2.2.1 129 10) from ((z13.a 129 10 rfl).trans ((z12.a 129 10 rfl).trans (z11.a 129 10 rfl))))).trans (hTI j h1 h2))))⟩ (by show nL - (ay + l) < nL - ay; omega))
        · -- 164: not (nI ay) < (nI nL)
          have nh10 : ¬ ay < nL := fun z => h10 (show nI ay < nI nL from (nI_ltI (by omega) (by omega)).mpr z)
          refine mw_go mu_g278 (k := 3) (f1 := (169, [(4, .inl (nI iy)), (3, .inl (nI ay)), (2, .inl (nI lf)), (0, .inr (.inr (some 129))), (1, .inl (nI w))], [], (mu_si Hsb 129 11 (nI lf)))) (C := [mu_is Hsb (some 129) 9]) rfl (show mu_is Hsb (some 129) 9 from (ub.1.1.is rfl)) ?_
          obtain ⟨u15, r15, d15⟩ : um m (mu_si Hsb 129 11 (nI lf)) ∧ ur m C Hsb (mu_si Hsb 129 11 (nI lf)) ∧ ud m (mu_si Hsb 129 11 (nI lf)) = (upI Vb 129 11 (nI lf)) := ub.sI (C := C) db rfl
          generalize (mu_si Hsb 129 11 (nI lf)) = Q15 at u15 r15 d15 ⊢
          have qf15 : uq F278 U (upI Vb 129 11 (nI lf)) := qfb.I rfl
          have ht15 : ur m C H Q15 := htb.trans r15
          refine mw_go mu_g278 (k := 1) (f1 := (172, [(1, .inl ((nI w) + 1)), (4, .inl (nI iy)), (3, .inl (nI ay)), (2, .inl (nI lf)), (0, .inr (.inr (some 129)))], [], Q15)) (C := []) rfl trivial ?_
          rw [(show ((nI w) + 1) = (nI (w + 1)) from (nI_add w 1))]
          refine mw_go mu_g278 (k := 1) (f1 := (2, [(1, .inl (nI (w + 1))), (4, .inl (nI iy)), (3, .inl (nI ay)), (2, .inl (nI lf)), (0, .inr (.inr (some 129)))], [], Q15)) (C := []) rfl trivial ?_
          exact mw_sub (by simp) (iha (w + 1, Q15) ⟨u15, ht15, (show uq F278a U (ud m Q15) from by rw [d15]; exact ((((zza.tr z7 rfl).tr z8 rfl).tr zzb rfl).I rfl)), (show (w + 1) ≤ nw from (by omega)), (show KNV m (ud m Q15) Y P f od es from by rw [d15]; exact (hKI.to (fun j hj h16 => rfl) ⟨rfl, fun i c _ => rfl⟩ (show ((upI Vb 129 11 (nI lf)).2.1 99 4) = (Vb.2.1 99 4) from rfl) (show ((upI Vb 129 11 (nI lf)).2.1 99 10) = (Vb.2.1 99 10) from rfl) (show ((upI Vb 129 11 (nI lf)).2.1 99 11) = (Vb.2.1 99 11) from rfl) (show ((upI Vb 129 11 (nI lf)).2.1 99 12) = (Vb.2.1 99 12) from rfl) (show ((upI Vb 129 11 (nI lf)).2.2.1 99 5) = (Vb.2.2.1 99 5) from rfl) (show ((upI Vb 129 11 (nI lf)).2.2.1 99 6) = (Vb.2.2.1 99 6) from rfl) (show ((upI Vb 129 11 (nI lf)).2.2.1 99 7) = (Vb.2.2.1 99 7) from rfl) (show ((upI Vb 129 11 (nI lf)).2.2.1 99 8) = (Vb.2.2.1 99 8) from rfl) (show ((upI Vb 129 11 (nI lf)).2.2.1 99 18).1 = (Vb.2.2.1 99 18).1 from rfl) (show ((upI Vb 129 11 (nI lf)).2.2.2.1 100 0) = (Vb.2.2.2.1 100 0) from rfl) (show ((upI Vb 129 11 (nI lf)).2.2.2.1 99 0) = (Vb.2.2.2.1 99 0) from rfl))), (show MCS (ud m Q15) from by rw [d15]; exact (mcs_keep hMI (by rw [(show ((upI Vb 129 11 (nI lf)).1 22) = (Vb.1 22) from rfl)]; exact hMI.1) (show ((upI Vb 129 11 (nI lf)).2.2.1 100 3).1 = (Vb.2.2.1 100 3).1 from rfl) (show ((upI Vb 129 11 (nI lf)).2.2.1 100 8).1 = (Vb.2.2.1 100 8).1 from rfl) (show ((upI Vb 129 11 (nI lf)).2.2.1 100 12).1 = (Vb.2.2.1 100 12).1 from rfl) (show ((upI Vb 129 11 (nI lf)).2.2.1 100 13).1 = (Vb.2.2.1 100 13).1 from rfl) (show ((upI Vb 129 11 (nI lf)).2.2.1 100 15).1 = (Vb.2.2.1 100 15).1 from rfl))), (show MLD (ud m Q15) Y P f od from by rw [d15]; exact (Or.inr ⟨_, _, _, hrg.2.1, hwi, (hLI.ldd hf1).keep (show ((upI Vb 129 11 (nI lf)).1 21) = (Vb.1 21) from rfl) (show ((upI Vb 129 11 (nI lf)).1 22) = (Vb.1 22) from rfl) (show ((upI Vb 129 11 (nI lf)).1 15) = (Vb.1 15) from rfl) (show ((upI Vb 129 11 (nI lf)).2.2.1 100 3) = (Vb.2.2.1 100 3) from rfl) (show ((upI Vb 129 11 (nI lf)).2.1 100 5) = (Vb.2.1 100 5) from rfl) (show ((upI Vb 129 11 (nI lf)).2.1 100 7) = (Vb.2.1 100 7) from rfl) (show ((upI Vb 129 11 (nI lf)).2.1 100 17) = (Vb.2.1 100 17) from rfl) (show ((upI Vb 129 11 (nI lf)).2.1 100 4) = (Vb.2.1 100 4) from rfl) (show ((upI Vb 129 11 (nI lf)).2.2.1 100 8) = (Vb.2.2.1 100 8) from rfl) (show ((upI Vb 129 11 (nI lf)).2.2.1 100 12).1 = (Vb.2.2.1 100 12).1 from rfl) (show ((upI Vb 129 11 (nI lf)).2.2.1 100 13).1 = (Vb.2.2.1 100 13).1 from rfl) (show ((upI Vb 129 11 (nI lf)).2.2.1 100 15).1 = (Vb.2.2.1 100 15).1 from rfl) (show ((upI Vb 129 11 (nI lf)).2.2.1 99 8) = (Vb.2.2.1 99 8) from rfl)⟩)), (show PSV (ud m Q15) P f s from by rw [d15]; exact (fun r hr => by rw [(show ((upI Vb 129 11 (nI lf)).1 22) = (Vb.1 22) from rfl), (show ((upI Vb 129 11 (nI lf)).2.2.1 99 8) = (Vb.2.2.1 99 8) from rfl)]; exact hPI r hr)), (show ∃ n2, (ud m Q15).2.1 129 11 = nI n2 ∧ LSO (ud m Q15) n2 (pd f 0 P) (fun t => Q t ∧ WTR Y U f P od wa wn wi s (w + 1) t) from by rw [d15]; exact (by obtain ⟨gg, g1, g2, g3⟩ := hFI; refine ⟨lf, rfl, gg, g1, g2, fun x => ?_⟩; rw [g3 x, show ay = nL by omega, hlm x]; exact ⟨fun y => ⟨y.1.1, y.1.2.1, (WTR.hit hw3).mp ⟨y.1.2.2, y.2⟩⟩, fun y => ⟨⟨y.1, y.2.1, ((WTR.hit hw3).mpr y.2.2).1⟩, ((WTR.hit hw3).mpr y.2.2).2⟩⟩))⟩ (by show nw - (w + 1) < nw - w; omega))
      · -- 164: not (nI iy) < (nI nL)
        have nh9 : ¬ iy < nL := fun z => h9 (show nI iy < nI nL from (nI_ltI (by omega) (by omega)).mpr z)
        refine mw_go mu_g278 (k := 3) (f1 := (169, [(4, .inl (nI iy)), (3, .inl (nI ay)), (2, .inl (nI lf)), (0, .inr (.inr (some 129))), (1, .inl (nI w))], [], (mu_si Hsb 129 11 (nI lf)))) (C := [mu_is Hsb (some 129) 9]) rfl (show mu_is Hsb (some 129) 9 from (ub.1.1.is rfl)) ?_
        obtain ⟨u16, r16, d16⟩ : um m (mu_si Hsb 129 11 (nI lf)) ∧ ur m C Hsb (mu_si Hsb 129 11 (nI lf)) ∧ ud m (mu_si Hsb 129 11 (nI lf)) = (upI Vb 129 11 (nI lf)) := ub.sI (C := C) db rfl
        generalize (mu_si Hsb 129 11 (nI lf)) = Q16 at u16 r16 d16 ⊢
        have qf16 : uq F278 U (upI Vb 129 11 (nI lf)) := qfb.I rfl
        have ht16 : ur m C H Q16 := htb.trans r16
        refine mw_go mu_g278 (k := 1) (f1 := (172, [(1, .inl ((nI w) + 1)), (4, .inl (nI iy)), (3, .inl (nI ay)), (2, .inl (nI lf)), (0, .inr (.inr (some 129)))], [], Q16)) (C := []) rfl trivial ?_
        rw [(show ((nI w) + 1) = (nI (w + 1)) from (nI_add w 1))]
        refine mw_go mu_g278 (k := 1) (f1 := (2, [(1, .inl (nI (w + 1))), (4, .inl (nI iy)), (3, .inl (nI ay)), (2, .inl (nI lf)), (0, .inr (.inr (some 129)))], [], Q16)) (C := []) rfl trivial ?_
        exact mw_sub (by simp) (iha (w + 1, Q16) ⟨u16, ht16, (show uq F278a U (ud m Q16) from by rw [d16]; exact ((((zza.tr z7 rfl).tr z8 rfl).tr zzb rfl).I rfl)), (show (w + 1) ≤ nw from (by omega)), (show KNV m (ud m Q16) Y P f od es from by rw [d16]; exact (hKI.to (fun j hj h16 => rfl) ⟨rfl, fun i c _ => rfl⟩ (show ((upI Vb 129 11 (nI lf)).2.1 99 4) = (Vb.2.1 99 4) from rfl) (show ((upI Vb 129 11 (nI lf)).2.1 99 10) = (Vb.2.1 99 10) from rfl) (show ((upI Vb 129 11 (nI lf)).2.1 99 11) = (Vb.2.1 99 11) from rfl) (show ((upI Vb 129 11 (nI lf)).2.1 99 12) = (Vb.2.1 99 12) from rfl) (show ((upI Vb 129 11 (nI lf)).2.2.1 99 5) = (Vb.2.2.1 99 5) from rfl) (show ((upI Vb 129 11 (nI lf)).2.2.1 99 6) = (Vb.2.2.1 99 6) from rfl) (show ((upI Vb 129 11 (nI lf)).2.2.1 99 7) = (Vb.2.2.1 99 7) from rfl) (show ((upI Vb 129 11 (nI lf)).2.2.1 99 8) = (Vb.2.2.1 99 8) from rfl) (show ((upI Vb 129 11 (nI lf)).2.2.1 99 18).1 = (Vb.2.2.1 99 18).1 from rfl) (show ((upI Vb 129 11 (nI lf)).2.2.2.1 100 0) = (Vb.2.2.2.1 100 0) from rfl) (show ((upI Vb 129 11 (nI lf)).2.2.2.1 99 0) = (Vb.2.2.2.1 99 0) from rfl))), (show MCS (ud m Q16) from by rw [d16]; exact (mcs_keep hMI (by rw [(show ((upI Vb 129 11 (nI lf)).1 22) = (Vb.1 22) from rfl)]; exact hMI.1) (show ((upI Vb 129 11 (nI lf)).2.2.1 100 3).1 = (Vb.2.2.1 100 3).1 from rfl) (show ((upI Vb 129 11 (nI lf)).2.2.1 100 8).1 = (Vb.2.2.1 100 8).1 from rfl) (show ((upI Vb 129 11 (nI lf)).2.2.1 100 12).1 = (Vb.2.2.1 100 12).1 from rfl) (show ((upI Vb 129 11 (nI lf)).2.2.1 100 13).1 = (Vb.2.2.1 100 13).1 from rfl) (show ((upI Vb 129 11 (nI lf)).2.2.1 100 15).1 = (Vb.2.2.1 100 15).1 from rfl))), (show MLD (ud m Q16) Y P f od from by rw [d16]; exact (Or.inr ⟨_, _, _, hrg.2.1, hwi, (hLI.ldd hf1).keep (show ((upI Vb 129 11 (nI lf)).1 21) = (Vb.1 21) from rfl) (show ((upI Vb 129 11 (nI lf)).1 22) = (Vb.1 22) from rfl) (show ((upI Vb 129 11 (nI lf)).1 15) = (Vb.1 15) from rfl) (show ((upI Vb 129 11 (nI lf)).2.2.1 100 3) = (Vb.2.2.1 100 3) from rfl) (show ((upI Vb 129 11 (nI lf)).2.1 100 5) = (Vb.2.1 100 5) from rfl) (show ((upI Vb 129 11 (nI lf)).2.1 100 7) = (Vb.2.1 100 7) from rfl) (show ((upI Vb 129 11 (nI lf)).2.1 100 17) = (Vb.2.1 100 17) from rfl) (show ((upI Vb 129 11 (nI lf)).2.1 100 4) = (Vb.2.1 100 4) from rfl) (show ((upI Vb 129 11 (nI lf)).2.2.1 100 8) = (Vb.2.2.1 100 8) from rfl) (show ((upI Vb 129 11 (nI lf)).2.2.1 100 12).1 = (Vb.2.2.1 100 12).1 from rfl) (show ((upI Vb 129 11 (nI lf)).2.2.1 100 13).1 = (Vb.2.2.1 100 13).1 from rfl) (show ((upI Vb 129 11 (nI lf)).2.2.1 100 15).1 = (Vb.2.2.1 100 15).1 from rfl) (show ((upI Vb 129 11 (nI lf)).2.2.1 99 8) = (Vb.2.2.1 99 8) from rfl)⟩)), (show PSV (ud m Q16) P f s from by rw [d16]; exact (fun r hr => by rw [(show ((upI Vb 129 11 (nI lf)).1 22) = (Vb.1 22) from rfl), (show ((upI Vb 129 11 (nI lf)).2.2.1 99 8) = (Vb.2.2.1 99 8) from rfl)]; exact hPI r hr)), (show ∃ n2, (ud m Q16).2.1 129 11 = nI n2 ∧ LSO (ud m Q16) n2 (pd f 0 P) (fun t => Q t ∧ WTR Y U f P od wa wn wi s (w + 1) t) from by rw [d16]; exact (by obtain ⟨gg, g1, g2, g3⟩ := hFI; refine ⟨lf, rfl, gg, g1, g2, fun x => ?_⟩; rw [g3 x, show ay = nL by omega, hlm x]; exact ⟨fun y => ⟨y.1.1, y.1.2.1, (WTR.hit hw3).mp ⟨y.1.2.2, y.2⟩⟩, fun y => ⟨⟨y.1, y.2.1, ((WTR.hit hw3).mpr y.2.2).1⟩, ((WTR.hit hw3).mpr y.2.2).2⟩⟩))⟩ (by show nw - (w + 1) < nw - w; omega))
    · -- C
      refine mw_go mu_g278 (k := 2) (f1 := (17, [(1, .inl (nI w)), (0, .inr (.inr (some 129)))], [.inr (.inr (mu_r Hsa 129 3))], Hsa)) (C := [mu_is Hsa (some 129) 9]) rfl (show mu_is Hsa (some 129) 9 from (ua.1.1.is rfl)) ?_
      rw [(ua.1.1.r (p := 129) (j := 3) (q := 132) rfl)]
      refine mw_go mu_g278 (k := 2) (f1 := (19, [(1, .inl (nI w)), (0, .inr (.inr (some 129)))], [.inl (3 : Int32), .inl (nI w), .inr (.inr (some 132))], Hsa)) (C := []) rfl trivial ?_
      refine mw_cIe (fun _ => rfl) (show mu_is Hsa (some 132) 10 from (ua.1.1.is rfl)) (ua.getr (d := (d + 5)) da (j := 25) (by decide) rfl (nI w) (c := 3) (by decide)) ?_
      rw [show (tget (Va.1 25) (nI w) 3) = (nI pl) from ((congrArg (fun z => tget z (nI w) 3) (show Va.1 25 = (U.1 25) from (zza.t 25 rfl))).trans (tget_nI (by omega))).trans hw3]
      refine mw_if (P := (nI pl) < 0) (a := 28) (b := 25) (fun _ => rfl) trivial (fun h18 => absurd h18 (nI_pos (by omega))) (fun h18 => ?_)
      refine mw_go mu_g278 (k := 2) (f1 := (172, [(1, .inl ((nI w) + 1)), (0, .inr (.inr (some 129)))], [], Hsa)) (C := []) rfl trivial ?_
      rw [(show ((nI w) + 1) = (nI (w + 1)) from (nI_add w 1))]
      refine mw_go mu_g278 (k := 1) (f1 := (2, [(1, .inl (nI (w + 1))), (0, .inr (.inr (some 129)))], [], Hsa)) (C := []) rfl trivial ?_
      exact mw_sub (by simp) (iha (w + 1, Hsa) ⟨ua, hta, (show uq F278a U (ud m Hsa) from by rw [da]; exact zza), (show (w + 1) ≤ nw from (by omega)), (show KNV m (ud m Hsa) Y P f od es from by rw [da]; exact hKN), (show MCS (ud m Hsa) from by rw [da]; exact hMC), (show MLD (ud m Hsa) Y P f od from by rw [da]; exact hLD), (show PSV (ud m Hsa) P f s from by rw [da]; exact hPS), (show ∃ n2, (ud m Hsa).2.1 129 11 = nI n2 ∧ LSO (ud m Hsa) n2 (pd f 0 P) (fun t => Q t ∧ WTR Y U f P od wa wn wi s (w + 1) t) from by rw [da]; exact ⟨nL, hnL, LSO.congr hLO (fun x _ => and_congr Iff.rfl (WTR.skip hw3 (by omega)))⟩)⟩ (by show nw - (w + 1) < nw - w; omega))
  · -- 175: not (nI w) < (nI nw)
    have nh1 : ¬ w < nw := fun z => h1 (show nI w < nI nw from (nI_ltI (by omega) (by omega)).mpr z)
    obtain ⟨n2, hn2, hLO⟩ := hLS
    exact mw_of (fun _ => mu_ret rfl trivial ⟨Hsa, rfl, ua, hta, (by rw [da]; exact qfa), (by rw [da]; exact ⟨hKN, hMC, hLD, hPS, n2, hn2, by have y := hLO; rw [show w = nw by omega] at y; exact y⟩)⟩)
end Sift
