/-! RELATION: choose, over LDW -/
/-- the rows of wide: truths (column 3 is -1) and choices: CHOICES (wk), or several E -/
def WIDw (Y : Ts) (es : Nat → Int32) (P : Nat) (t15 t : Tb) (nw : Nat) (wa wn wi : Nat → Nat) (wk : Nat → Bool) : Prop := (t.1 = nw ∧ nw ≤ 16777216) ∧ ∀ r, r < nw → (t.2 r 0 = nI (wa r) ∧ t.2 r 1 = nI (wa r + wn r) ∧ t.2 r 2 = nI (wi r) ∧ wi r < (Y 11).1) ∧ ((t.2 r 3 = -1 ∧ rg Y (im Y (wi r)) false (wa r) (wa r + wn r) ∧ ∃ rs, SRT Y es (wi r) 1 (wa r) rs (wn r) ∧ stk Y rs (wa r) (wn r) 0 = 1) ∨ ∃ pl, pl < P ∧ t.2 r 3 = nI pl ∧ ¬ NXW Y t15 P (wa r) (wn r) (wi r) ∧ ∃ al Lk rs, ¬ al = 2 ∧ rgs Y (im Y (wi r)) Lk (wa r) (wa r + wn r) ∧ 1 ≤ Lk.length ∧ SRT Y es (wi r) al (wa r) rs (wn r) ∧ (wk r = true → Lk = [true]) ∧ (wk r = false → ¬ true ∈ Lk))
/-- a value is among those of a row of choices in a STATE -/
def CHSw (Y : Ts) (U : Ud) (f : Nat → Nat) (P : Nat) (od : Nat → Nat) (b : Bool) (a N i s : Nat) (v : Int32) : Prop := CHW Y b (lvl Y (vst U f P s) (vst U f P s) (evz Y od (vst U f P s)) i) a N v
/-- the wide choices of a place leave a digit -/
def WCHw (Y : Ts) (U : Ud) (f : Nat → Nat) (P : Nat) (od wa wn wi : Nat → Nat) (wk : Nat → Bool) (s w k x : Nat) : Prop := ∀ r, r < w → (U.1 25).2 r 3 = nI k → CHSw Y U f P od (wk r) (wa r) (wn r) (wi r) s ((U.2.2.1 99 8).2 (sm f 0 k + x))
section ChooseW
variable {H : mu_H} {U V : Ud} {m d P s nw bf bt w k x : Nat} {C : Nat → Nat} {Y : Ts} {f od wa wn wi : Nat → Nat} {wk : Nat → Bool} {es : Nat → Int32} {A : Nat → Nat → Prop}
theorem WCHw.skip (h3 : (U.1 25).2 w 3 = -1) (hk : k < 14) : WCHw Y U f P od wa wn wi wk s w k x ↔ WCHw Y U f P od wa wn wi wk s (w + 1) k x := by
  constructor
  · intro h r hr he
    by_cases e : r = w
    · rw [e, h3] at he
      exact absurd he.symm (nI_neg1 (by omega))
    · exact h r (by omega) he
  · exact fun h r hr => h r (by omega)
theorem WCHw.other {pl : Nat} (h3 : (U.1 25).2 w 3 = nI pl) (hp : pl < 14) (hk : k < 14) (hn : ¬ k = pl) : WCHw Y U f P od wa wn wi wk s w k x ↔ WCHw Y U f P od wa wn wi wk s (w + 1) k x := by
  constructor
  · intro h r hr he
    by_cases e : r = w
    · rw [e, h3] at he
      exact absurd (nI_inj (by omega) (by omega) he).symm hn
    · exact h r (by omega) he
  · exact fun h r hr => h r (by omega)
theorem WCHw.hit {pl : Nat} (h3 : (U.1 25).2 w 3 = nI pl) : (WCHw Y U f P od wa wn wi wk s w pl x ∧ CHSw Y U f P od (wk w) (wa w) (wn w) (wi w) s ((U.2.2.1 99 8).2 (sm f 0 pl + x))) ↔ WCHw Y U f P od wa wn wi wk s (w + 1) pl x := by
  constructor
  · rintro ⟨h, h1⟩ r hr he
    by_cases e : r = w
    · rw [e]
      exact h1
    · exact h r (by omega) he
  · exact fun h => ⟨fun r hr => h r (by omega), h w (by omega) h3⟩
theorem rl_choosew (h : um m H) (e : ud m H = U) (hK : KNV m U Y P f od es) (hM : MCS U) (hL : MLW U Y P f od) (hP0 : PSV U P f s) (hR : VDF U P f) (hz : BZ U bf bt) (hWD : WIDw Y es P (U.1 15) (U.1 25) nw wa wn wi wk) (hop : ∀ k, k < P → OPT U (sm f 0 k) (f k) k (A k)) (hl12 : sm f 0 P ≤ (U.2.2.1 129 12).1) (hl12b : (U.2.2.1 129 12).1 < 2147483648) (hl10 : pd f 0 P + 4 ≤ (U.2.2.1 129 10).1) (hl10b : (U.2.2.1 129 10).1 < 2147483648) (hC21 : 2 * (((Y 13).1 + 2) * 4) + 4 ≤ C 21) (hC21b : C 21 ≤ 8388608) : mu_TV (mu_D (d + 7)) 276 [.inr (.inr (some 129))] H (fun H1 => um m H1 ∧ ur m C H H1 ∧ uq F276 U (ud m H1) ∧ KNV m (ud m H1) Y P f od es ∧ MCS (ud m H1) ∧ MLW (ud m H1) Y P f od ∧ PSV (ud m H1) P f s ∧ (∃ bf' bt', BZ (ud m H1) bf' bt') ∧ ∀ k, k < P → OPT (ud m H1) (sm f 0 k) (f k) k (fun x => A k x ∧ WCHw Y U f P od wa wn wi wk s nw k x)) := by
  have hS := hK.1
  obtain ⟨⟨s4, s10, s11, s12⟩, hk5, ⟨g8, g8b, g18, g18b⟩, ⟨gP, gpd, gsm⟩, hsp, hmo⟩ := (show spx m U P f from hS)
  have hf1 := hK.2.1
  have hnw := hWD.1.1
  have hnw2 := hWD.1.2
  have hCc : Cc Y := hK.2.2.2.1.1.2.2.2.2.2.1.2
  have hVLS : VLS Y (vst U f P s) := VLS_vst hK.2.2.2.2.2.1 gP hf1
  refine mu_meth (M := mu_m276) rfl rfl ?_
  refine mw_ht (mu_fn_of (show [0].Nodup by decide)) ?_
  refine mw_go mu_g276 (k := 2) (f1 := (2, [(1, .inl (0 : Int32)), (0, .inr (.inr (some 129)))], [], H)) (C := []) rfl trivial ?_
  show mu_W _ _ (2, [(1, .inl (nI 0)), (0, .inr (.inr (some 129)))], [], H) _
  refine mw_sub (L' := [(1, .inl (nI 0)), (0, .inr (.inr (some 129)))]) (by simp) ?_
  refine mw_down (α := Nat × mu_H) (fun zs => (2, [(1, .inl (nI zs.1)), (0, .inr (.inr (some 129)))], [], zs.2)) (fun zs => nw - zs.1) (fun zs => um m zs.2 ∧ ur m C H zs.2 ∧ (uq F276a U (ud m zs.2)) ∧ (zs.1 ≤ nw) ∧ (KNV m (ud m zs.2) Y P f od es) ∧ (MCS (ud m zs.2)) ∧ (MLW (ud m zs.2) Y P f od) ∧ (PSV (ud m zs.2) P f s) ∧ (∃ bf' bt', BZ (ud m zs.2) bf' bt') ∧ (∀ k, k < P → OPT (ud m zs.2) (sm f 0 k) (f k) k (fun x => A k x ∧ WCHw Y U f P od wa wn wi wk s zs.1 k x))) (fun zs hza iha => ?_) (0, H) ⟨h, (ur.refl m C H), (show uq F276a U (ud m H) from by rw [e]; exact uq.refl _ _), (show 0 ≤ nw from (by omega)), (show KNV m (ud m H) Y P f od es from by rw [e]; exact hK), (show MCS (ud m H) from by rw [e]; exact hM), (show MLW (ud m H) Y P f od from by rw [e]; exact hL), (show PSV (ud m H) P f s from by rw [e]; exact hP0), (show ∃ bf' bt', BZ (ud m H) bf' bt' from by rw [e]; exact ⟨bf, bt, hz⟩), (show ∀ k, k < P → OPT (ud m H) (sm f 0 k) (f k) k (fun x => A k x ∧ WCHw Y U f P od wa wn wi wk s 0 k x) from by rw [e]; exact (fun k hk => (hop k hk).congr (fun x _ => ⟨fun y => ⟨y, fun r hr => absurd hr (Nat.not_lt_zero _)⟩, fun y => y.1⟩)))⟩
  obtain ⟨w, Hsa⟩ := zs
  obtain ⟨ua, hta, da, hw, hKN, hMC, hLD, hPS, hBZ, hOP⟩ := hza
  have ua : um m Hsa := ua
  have hta : ur m C H Hsa := hta
  have zza : uq F276a U (ud m Hsa) := da
  have hw : w ≤ nw := hw
  have hKN : KNV m (ud m Hsa) Y P f od es := hKN
  have hMC : MCS (ud m Hsa) := hMC
  have hLD : MLW (ud m Hsa) Y P f od := hLD
  have hPS : PSV (ud m Hsa) P f s := hPS
  have hBZ : ∃ bf' bt', BZ (ud m Hsa) bf' bt' := hBZ
  have hOP : ∀ k, k < P → OPT (ud m Hsa) (sm f 0 k) (f k) k (fun x => A k x ∧ WCHw Y U f P od wa wn wi wk s w k x) := hOP
  obtain ⟨Va, da⟩ : ∃ V, ud m Hsa = V := ⟨_, rfl⟩
  rw [da] at zza hKN hMC hLD hPS hBZ hOP
  have qfa : uq F276 U Va := (uq.refl F276 U).tr zza rfl
  show mu_W _ _ (2, [(1, .inl (nI w)), (0, .inr (.inr (some 129)))], [], Hsa) _
  refine mw_go mu_g276 (k := 3) (f1 := (7, [(1, .inl (nI w)), (0, .inr (.inr (some 129)))], [.inr (.inr (mu_r Hsa 129 3)), .inl (nI w)], Hsa)) (C := [mu_is Hsa (some 129) 9]) rfl (show mu_is Hsa (some 129) 9 from (ua.1.1.is rfl)) ?_
  rw [(ua.1.1.r (p := 129) (j := 3) (q := 132) rfl)]
  refine mw_go mu_g276 (k := 1) (f1 := (10, [(1, .inl (nI w)), (0, .inr (.inr (some 129)))], [.inl (mu_i Hsa 132 2), .inl (nI w)], Hsa)) (C := [mu_is Hsa (some 132) 10]) rfl (show mu_is Hsa (some 132) 10 from (ua.1.1.is rfl)) ?_
  rw [(show mu_i Hsa 132 2 = (nI nw) from (ua.size da (j := 25) (by decide) rfl).trans (congrArg nI ((congrArg Prod.fst (show Va.1 25 = (U.1 25) from (zza.t 25 rfl))).trans hnw)))]
  refine mw_if (P := (nI w) < (nI nw)) (a := 13) (b := 107) (fun _ => rfl) trivial (fun h1 => ?_) (fun h1 => ?_)
  · -- 13: (nI w) < (nI nw)
    have nh1 : w < nw := (nI_ltI (by omega) (by omega)).mp (show nI w < nI nw from h1)
    obtain ⟨⟨hw0, hw1, hw2, hwi⟩, hcase⟩ := hWD.2 w (by omega)
    rcases hcase with ⟨hw3, hrg, rs, hsr, hst⟩ | ⟨pl, hpl, hw3, hnx0, al, Lk, rs, hal, hrg, hLk, hsr, hwk⟩
    · -- E
      refine mw_go mu_g276 (k := 2) (f1 := (17, [(1, .inl (nI w)), (0, .inr (.inr (some 129)))], [.inr (.inr (mu_r Hsa 129 3))], Hsa)) (C := [mu_is Hsa (some 129) 9]) rfl (show mu_is Hsa (some 129) 9 from (ua.1.1.is rfl)) ?_
      rw [(ua.1.1.r (p := 129) (j := 3) (q := 132) rfl)]
      refine mw_go mu_g276 (k := 2) (f1 := (19, [(1, .inl (nI w)), (0, .inr (.inr (some 129)))], [.inl (3 : Int32), .inl (nI w), .inr (.inr (some 132))], Hsa)) (C := []) rfl trivial ?_
      refine mw_cIe (fun _ => rfl) (show mu_is Hsa (some 132) 10 from (ua.1.1.is rfl)) (ua.getr (d := (d + 5)) da (j := 25) (by decide) rfl (nI w) (c := 3) (by decide)) ?_
      rw [show (tget (Va.1 25) (nI w) 3) = (-1 : Int32) from ((congrArg (fun z => tget z (nI w) 3) (show Va.1 25 = (U.1 25) from (zza.t 25 rfl))).trans (tget_nI (by omega))).trans hw3]
      refine mw_go mu_g276 (k := 2) (f1 := (24, [(2, .inl (-1 : Int32)), (1, .inl (nI w)), (0, .inr (.inr (some 129)))], [.inl (-1 : Int32)], Hsa)) (C := []) rfl trivial ?_
      refine mw_if (P := (-1 : Int32) < 0) (a := 101) (b := 27) (fun _ => rfl) trivial (fun h3 => ?_) (fun h3 => absurd (by decide) h3)
      refine mw_go mu_g276 (k := 1) (f1 := (104, [(1, .inl ((nI w) + 1)), (2, .inl (-1 : Int32)), (0, .inr (.inr (some 129)))], [], Hsa)) (C := []) rfl trivial ?_
      rw [(show ((nI w) + 1) = (nI (w + 1)) from (nI_add w 1))]
      refine mw_go mu_g276 (k := 1) (f1 := (2, [(1, .inl (nI (w + 1))), (2, .inl (-1 : Int32)), (0, .inr (.inr (some 129)))], [], Hsa)) (C := []) rfl trivial ?_
      exact mw_sub (by simp) (iha (w + 1, Hsa) ⟨ua, hta, (show uq F276a U (ud m Hsa) from by rw [da]; exact zza), (show (w + 1) ≤ nw from (by omega)), (show KNV m (ud m Hsa) Y P f od es from by rw [da]; exact hKN), (show MCS (ud m Hsa) from by rw [da]; exact hMC), (show MLW (ud m Hsa) Y P f od from by rw [da]; exact hLD), (show PSV (ud m Hsa) P f s from by rw [da]; exact hPS), (show ∃ bf' bt', BZ (ud m Hsa) bf' bt' from by rw [da]; exact hBZ), (show ∀ k, k < P → OPT (ud m Hsa) (sm f 0 k) (f k) k (fun x => A k x ∧ WCHw Y U f P od wa wn wi wk s (w + 1) k x) from by rw [da]; exact (fun k hk => (hOP k hk).congr (fun x _ => and_congr Iff.rfl (WCHw.skip hw3 (by omega)))))⟩ (by show nw - (w + 1) < nw - w; omega))
    · -- C
      have hfp := fk_pd hpl gP hf1
      refine mw_go mu_g276 (k := 2) (f1 := (17, [(1, .inl (nI w)), (0, .inr (.inr (some 129)))], [.inr (.inr (mu_r Hsa 129 3))], Hsa)) (C := [mu_is Hsa (some 129) 9]) rfl (show mu_is Hsa (some 129) 9 from (ua.1.1.is rfl)) ?_
      rw [(ua.1.1.r (p := 129) (j := 3) (q := 132) rfl)]
      refine mw_go mu_g276 (k := 2) (f1 := (19, [(1, .inl (nI w)), (0, .inr (.inr (some 129)))], [.inl (3 : Int32), .inl (nI w), .inr (.inr (some 132))], Hsa)) (C := []) rfl trivial ?_
      refine mw_cIe (fun _ => rfl) (show mu_is Hsa (some 132) 10 from (ua.1.1.is rfl)) (ua.getr (d := (d + 5)) da (j := 25) (by decide) rfl (nI w) (c := 3) (by decide)) ?_
      rw [show (tget (Va.1 25) (nI w) 3) = (nI pl) from ((congrArg (fun z => tget z (nI w) 3) (show Va.1 25 = (U.1 25) from (zza.t 25 rfl))).trans (tget_nI (by omega))).trans hw3]
      refine mw_go mu_g276 (k := 2) (f1 := (24, [(2, .inl (nI pl)), (1, .inl (nI w)), (0, .inr (.inr (some 129)))], [.inl (nI pl)], Hsa)) (C := []) rfl trivial ?_
      refine mw_if (P := (nI pl) < 0) (a := 101) (b := 27) (fun _ => rfl) trivial (fun h5 => absurd h5 (nI_pos (by omega))) (fun h5 => ?_)
      refine mw_go mu_g276 (k := 2) (f1 := (31, [(2, .inl (nI pl)), (1, .inl (nI w)), (0, .inr (.inr (some 129)))], [.inr (.inr (mu_r Hsa 129 0))], Hsa)) (C := [mu_is Hsa (some 129) 9]) rfl (show mu_is Hsa (some 129) 9 from (ua.1.1.is rfl)) ?_
      rw [(ua.1.1.r (p := 129) (j := 0) (q := 99) rfl)]
      refine mw_go mu_g276 (k := 1) (f1 := (34, [(2, .inl (nI pl)), (1, .inl (nI w)), (0, .inr (.inr (some 129)))], [.inr (.inr (mu_r Hsa 99 1))], Hsa)) (C := [mu_is Hsa (some 99) 13]) rfl (show mu_is Hsa (some 99) 13 from (ua.1.1.is rfl)) ?_
      rw [(ua.1.1.r (p := 99) (j := 1) (q := 100) rfl)]
      refine mw_go mu_g276 (k := 2) (f1 := (38, [(2, .inl (nI pl)), (1, .inl (nI w)), (0, .inr (.inr (some 129)))], [.inr (.inr (mu_r Hsa 129 3)), .inr (.inr (some 100))], Hsa)) (C := [mu_is Hsa (some 129) 9]) rfl (show mu_is Hsa (some 129) 9 from (ua.1.1.is rfl)) ?_
      rw [(ua.1.1.r (p := 129) (j := 3) (q := 132) rfl)]
      refine mw_go mu_g276 (k := 2) (f1 := (40, [(2, .inl (nI pl)), (1, .inl (nI w)), (0, .inr (.inr (some 129)))], [.inl (0 : Int32), .inl (nI w), .inr (.inr (some 132)), .inr (.inr (some 100))], Hsa)) (C := []) rfl trivial ?_
      refine mw_cIe (fun _ => rfl) (show mu_is Hsa (some 132) 10 from (ua.1.1.is rfl)) (ua.getr (d := (d + 5)) da (j := 25) (by decide) rfl (nI w) (c := 0) (by decide)) ?_
      rw [show (tget (Va.1 25) (nI w) 0) = (nI (wa w)) from ((congrArg (fun z => tget z (nI w) 0) (show Va.1 25 = (U.1 25) from (zza.t 25 rfl))).trans (tget_nI (by omega))).trans hw0]
      refine mw_go mu_g276 (k := 2) (f1 := (47, [(2, .inl (nI pl)), (1, .inl (nI w)), (0, .inr (.inr (some 129)))], [.inr (.inr (mu_r Hsa 129 3)), .inl (nI (wa w)), .inr (.inr (some 100))], Hsa)) (C := [mu_is Hsa (some 129) 9]) rfl (show mu_is Hsa (some 129) 9 from (ua.1.1.is rfl)) ?_
      rw [(ua.1.1.r (p := 129) (j := 3) (q := 132) rfl)]
      refine mw_go mu_g276 (k := 2) (f1 := (49, [(2, .inl (nI pl)), (1, .inl (nI w)), (0, .inr (.inr (some 129)))], [.inl (1 : Int32), .inl (nI w), .inr (.inr (some 132)), .inl (nI (wa w)), .inr (.inr (some 100))], Hsa)) (C := []) rfl trivial ?_
      refine mw_cIe (fun _ => rfl) (show mu_is Hsa (some 132) 10 from (ua.1.1.is rfl)) (ua.getr (d := (d + 5)) da (j := 25) (by decide) rfl (nI w) (c := 1) (by decide)) ?_
      rw [show (tget (Va.1 25) (nI w) 1) = (nI (wa w + wn w)) from ((congrArg (fun z => tget z (nI w) 1) (show Va.1 25 = (U.1 25) from (zza.t 25 rfl))).trans (tget_nI (by omega))).trans hw1]
      refine mw_go mu_g276 (k := 2) (f1 := (56, [(2, .inl (nI pl)), (1, .inl (nI w)), (0, .inr (.inr (some 129)))], [.inr (.inr (mu_r Hsa 129 3)), .inl (nI (wa w + wn w)), .inl (nI (wa w)), .inr (.inr (some 100))], Hsa)) (C := [mu_is Hsa (some 129) 9]) rfl (show mu_is Hsa (some 129) 9 from (ua.1.1.is rfl)) ?_
      rw [(ua.1.1.r (p := 129) (j := 3) (q := 132) rfl)]
      refine mw_go mu_g276 (k := 2) (f1 := (58, [(2, .inl (nI pl)), (1, .inl (nI w)), (0, .inr (.inr (some 129)))], [.inl (2 : Int32), .inl (nI w), .inr (.inr (some 132)), .inl (nI (wa w + wn w)), .inl (nI (wa w)), .inr (.inr (some 100))], Hsa)) (C := []) rfl trivial ?_
      refine mw_cIe (fun _ => rfl) (show mu_is Hsa (some 132) 10 from (ua.1.1.is rfl)) (ua.getr (d := (d + 5)) da (j := 25) (by decide) rfl (nI w) (c := 2) (by decide)) ?_
      rw [show (tget (Va.1 25) (nI w) 2) = (nI (wi w)) from ((congrArg (fun z => tget z (nI w) 2) (show Va.1 25 = (U.1 25) from (zza.t 25 rfl))).trans (tget_nI (by omega))).trans hw2]
      refine mw_cV (fun _ => rfl) (show mu_is Hsa (some 100) 5 from (ua.1.1.is rfl)) (mc_load3 (d := (d + 1)) (C := C) (a0 := wa w) (N0 := wn w) (i0 := wi w) ua da hKN hMC hLD hwi hrg hC21 hC21b) (fun Q9 q9 => ?_)
      obtain ⟨u9, r9, z9, hKN1, hMC1, hLD1, hKC1⟩ := q9
      have ht9 : ur m C H Q9 := hta.trans r9
      obtain ⟨V9, d9⟩ : ∃ V, ud m Q9 = V := ⟨_, rfl⟩
      rw [d9] at z9 hKN1 hMC1 hLD1 hKC1
      have qf9 : uq F276 U V9 := qfa.tr z9 rfl
      have hnx : ¬ NXW Y (V9.1 15) P (wa w) (wn w) (wi w) := fun q => hnx0 (NXW.of ((z9.t 15 rfl).trans (show (Va.1 15) = (U.1 15) from (zza.t 15 rfl))) q)
      have hPS1 : PSV V9 P f s := fun r hr => by rw [hKC1 r 2 (by decide) (by decide), show V9.2.2.1 99 8 = Va.2.2.1 99 8 from z9.a 99 8 rfl]; exact hPS r hr
      refine mw_go mu_g276 (k := 2) (f1 := (68, [(2, .inl (nI pl)), (1, .inl (nI w)), (0, .inr (.inr (some 129)))], [.inr (.inr (mu_r Q9 129 0))], Q9)) (C := [mu_is Q9 (some 129) 9]) rfl (show mu_is Q9 (some 129) 9 from (u9.1.1.is rfl)) ?_
      rw [(u9.1.1.r (p := 129) (j := 0) (q := 99) rfl)]
      refine mw_go mu_g276 (k := 1) (f1 := (71, [(2, .inl (nI pl)), (1, .inl (nI w)), (0, .inr (.inr (some 129)))], [.inr (.inr (mu_r Q9 99 1))], Q9)) (C := [mu_is Q9 (some 99) 13]) rfl (show mu_is Q9 (some 99) 13 from (u9.1.1.is rfl)) ?_
      rw [(u9.1.1.r (p := 99) (j := 1) (q := 100) rfl)]
      refine mw_go mu_g276 (k := 1) (f1 := (72, [(2, .inl (nI pl)), (1, .inl (nI w)), (0, .inr (.inr (some 129)))], [.inl (0 : Int32), .inr (.inr (some 100))], Q9)) (C := []) rfl trivial ?_
      refine mw_cI (fun _ => rfl) (show mu_is Q9 (some 100) 5 from (u9.1.1.is rfl)) (mc_pose0w (d := (d + 1)) (C := C) (a0 := wa w) (N0 := wn w) (i0 := wi w) (s := s) u9 d9 hKN1 hMC1 hLD1 hnx hPS1) (fun x10 Q10 q10 => ?_)
      obtain ⟨⟨qx, rfl⟩, u10, r10, z10, hKN2, hMC2, hPS2, hRD⟩ := q10
      have ht10 : ur m C H Q10 := ht9.trans r10
      obtain ⟨V10, d10⟩ : ∃ V, ud m Q10 = V := ⟨_, rfl⟩
      rw [d10] at z10 hKN2 hMC2 hPS2 hRD
      have qf10 : uq F276 U V10 := qf9.tr z10 rfl
      rw [vst_same (f := f) (P := P) (s := s) (show (V9.1 15) = (U.1 15) from ((z9.t 15 rfl).trans (zza.t 15 rfl))) (show (V9.2.2.1 99 8) = (U.2.2.1 99 8) from ((z9.a 99 8 rfl).trans (zza.a 99 8 rfl)))] at hRD
      refine mw_go mu_g276 (k := 3) (f1 := (80, [(2, .inl (nI pl)), (1, .inl (nI w)), (0, .inr (.inr (some 129)))], [.inr (.inr (mu_r Q10 129 0))], Q10)) (C := [mu_is Q10 (some 129) 9]) rfl (show mu_is Q10 (some 129) 9 from (u10.1.1.is rfl)) ?_
      rw [(u10.1.1.r (p := 129) (j := 0) (q := 99) rfl)]
      refine mw_go mu_g276 (k := 1) (f1 := (83, [(2, .inl (nI pl)), (1, .inl (nI w)), (0, .inr (.inr (some 129)))], [.inr (.inr (mu_r Q10 99 1))], Q10)) (C := [mu_is Q10 (some 99) 13]) rfl (show mu_is Q10 (some 99) 13 from (u10.1.1.is rfl)) ?_
      rw [(u10.1.1.r (p := 99) (j := 1) (q := 100) rfl)]
      refine mw_cV (fun _ => rfl) (show mu_is Q10 (some 100) 5 from (u10.1.1.is rfl)) (mc_run2w (d := d) (C := C) (a0 := wa w) (N0 := wn w) (i0 := wi w) (al := al) u10 d10 hKN2 hMC2 hRD hwi hrg hLk hsr hal (fun _ _ => hVLS) (fun _ _ => hVLS)) (fun Q11 q11 => ?_)
      obtain ⟨u11, r11, z11, hKN3, hMC3, hLD3, hRS⟩ := q11
      have ht11 : ur m C H Q11 := ht10.trans r11
      obtain ⟨V11, d11⟩ : ∃ V, ud m Q11 = V := ⟨_, rfl⟩
      rw [d11] at z11 hKN3 hMC3 hLD3 hRS
      have qf11 : uq F276 U V11 := qf10.tr z11 rfl
      have hPS3 : PSV V11 P f s := fun r hr => by rw [show V11.1 22 = V10.1 22 from z11.t 22 rfl, show V11.2.2.1 99 8 = V10.2.2.1 99 8 from z11.a 99 8 rfl]; exact hPS2 r hr
      obtain ⟨K, cv, hCH, hKb, hcv⟩ := chv_any (m := m) (b := wk w) hRS (show 0 < 1 by decide) hCc hrg hwk
      have hV3 : V11.2.2.1 99 8 = U.2.2.1 99 8 := (show V11.2.2.1 99 8 = V10.2.2.1 99 8 from z11.a 99 8 rfl).trans (show (V10.2.2.1 99 8) = (U.2.2.1 99 8) from ((z10.a 99 8 rfl).trans ((z9.a 99 8 rfl).trans (zza.a 99 8 rfl))))
      refine mw_go mu_g276 (k := 3) (f1 := (89, [(2, .inl (nI pl)), (1, .inl (nI w)), (0, .inr (.inr (some 129)))], [.inl (0 : Int32), .inl (nI pl), .inr (.inr (some 129))], Q11)) (C := []) rfl trivial ?_
      obtain ⟨bf1, bt1, hz1⟩ := hBZ
      refine mw_cV (fun _ => rfl) (show mu_is Q11 (some 129) 9 from (u11.1.1.is rfl)) (rl_listd (d := (d + 2)) (C := C) (k := pl) (lane := 0) (bf := bf1) (bt := bt1) u11 d11 hKN3.1 hpl (by unfold VDF at hR ⊢; rw [(show (V11.2.1 99 9) = (U.2.1 99 9) from ((z11.i 99 9 rfl).trans ((z10.i 99 9 rfl).trans ((z9.i 99 9 rfl).trans (zza.i 99 9 rfl))))), (show (V11.2.2.1 99 8) = (U.2.2.1 99 8) from ((z11.a 99 8 rfl).trans ((z10.a 99 8 rfl).trans ((z9.a 99 8 rfl).trans (zza.a 99 8 rfl)))))]; exact hR) (show BZ V11 bf1 bt1 from ⟨⟨(show (V11.2.1 129 19) = (Va.2.1 129 19) from ((z11.i 129 19 rfl).trans ((z10.i 129 19 rfl).trans (z9.i 129 19 rfl)))).trans hz1.1.1, (show (V11.2.1 129 20) = (Va.2.1 129 20) from ((z11.i 129 20 rfl).trans ((z10.i 129 20 rfl).trans (z9.i 129 20 rfl)))).trans hz1.1.2.1, hz1.1.2.2⟩, by rw [(show (V11.2.2.2.2.1 146) = (Va.2.2.2.2.1 146) from ((z11.l 146 rfl).trans ((z10.l 146 rfl).trans (z9.l 146 rfl))))]; exact hz1.2⟩) hCH hKb (by rw [(show (V11.2.2.1 129 10).1 = (U.2.2.1 129 10).1 from ((z11.n 129 10 rfl).trans ((z10.n 129 10 rfl).trans ((z9.n 129 10 rfl).trans (zza.n 129 10 rfl)))))]; exact hl10) (by rw [(show (V11.2.2.1 129 10).1 = (U.2.2.1 129 10).1 from ((z11.n 129 10 rfl).trans ((z10.n 129 10 rfl).trans ((z9.n 129 10 rfl).trans (zza.n 129 10 rfl)))))]; exact hl10b) (fk_pd hpl gP hf1)) (fun Q12 q12 => ?_)
      obtain ⟨u12, r12, z12, ⟨bf2, bt2, hz2⟩, n, ls, hn11, hls, hlr, hlm⟩ := q12
      have ht12 : ur m C H Q12 := ht11.trans r12
      obtain ⟨V12, d12⟩ : ∃ V, ud m Q12 = V := ⟨_, rfl⟩
      rw [d12] at z12 hz2 hn11 hls
      have qf12 : uq F276 U V12 := qf11.tr z12 rfl
      have hnf := lm_len hlr hlm
      have hlb : ∀ i, i < n → ls i < f pl := fun i hi => ((hlm (ls i)).mp ((lmz_iff n).mpr ⟨i, hi, rfl⟩)).1
      refine mw_go mu_g276 (k := 1) (f1 := (93, [(2, .inl (nI pl)), (1, .inl (nI w)), (0, .inr (.inr (some 129)))], [.inr (.inr (some 129))], Q12)) (C := []) rfl trivial ?_
      refine mw_cV (fun _ => rfl) (show mu_is Q12 (some 129) 9 from (u12.1.1.is rfl)) (rl_lay (d := (d + 2)) (C := C) (n := n) (ls := ls) u12 d12 hz2 hn11 hls (by rw [(show (V12.2.2.1 129 10).1 = (U.2.2.1 129 10).1 from ((z12.n 129 10 rfl).trans ((z11.n 129 10 rfl).trans ((z10.n 129 10 rfl).trans ((z9.n 129 10 rfl).trans (zza.n 129 10 rfl))))))]; omega) (by rw [(show (V12.2.2.1 129 10).1 = (U.2.2.1 129 10).1 from ((z12.n 129 10 rfl).trans ((z11.n 129 10 rfl).trans ((z10.n 129 10 rfl).trans ((z9.n 129 10 rfl).trans (zza.n 129 10 rfl))))))]; exact hl10b) (fun i hi => by have y := hlb i hi; omega) hlr) (fun Q13 q13 => ?_)
      obtain ⟨u13, r13, z13, bf3, bt3, hz3, hbb⟩ := q13
      have ht13 : ur m C H Q13 := ht12.trans r13
      obtain ⟨V13, d13⟩ : ∃ V, ud m Q13 = V := ⟨_, rfl⟩
      rw [d13] at z13 hz3 hbb
      have qf13 : uq F276 U V13 := qf12.tr z13 rfl
      have hB : ∀ t, t < 16384 → (bts (V13.2.2.2.2.1 146) t = true ↔ t < f pl ∧ CHSw Y U f P od (wk w) (wa w) (wn w) (wi w) s ((U.2.2.1 99 8).2 (sm f 0 pl + t))) := fun t ht => by rw [hbb t ht, hlm t]; unfold CHD; rw [hV3]; exact and_congr Iff.rfl (hcv _)
      refine mw_go mu_g276 (k := 2) (f1 := (98, [(2, .inl (nI pl)), (1, .inl (nI w)), (0, .inr (.inr (some 129)))], [.inl (nI pl), .inr (.inr (some 129))], Q13)) (C := []) rfl trivial ?_
      refine mw_cV (fun _ => rfl) (show mu_is Q13 (some 129) 9 from (u13.1.1.is rfl)) (rl_narrow (d := (d + 2)) (C := C) (k := pl) (A := fun x => A pl x ∧ WCHw Y U f P od wa wn wi wk s w pl x) u13 d13 (spx_keep hS (show (V13.2.1 99 4) = (U.2.1 99 4) from ((z13.i 99 4 rfl).trans ((z12.i 99 4 rfl).trans ((z11.i 99 4 rfl).trans ((z10.i 99 4 rfl).trans ((z9.i 99 4 rfl).trans (zza.i 99 4 rfl))))))) (show (V13.2.1 99 10) = (U.2.1 99 10) from ((z13.i 99 10 rfl).trans ((z12.i 99 10 rfl).trans ((z11.i 99 10 rfl).trans ((z10.i 99 10 rfl).trans ((z9.i 99 10 rfl).trans (zza.i 99 10 rfl))))))) (show (V13.2.1 99 11) = (U.2.1 99 11) from ((z13.i 99 11 rfl).trans ((z12.i 99 11 rfl).trans ((z11.i 99 11 rfl).trans ((z10.i 99 11 rfl).trans ((z9.i 99 11 rfl).trans (zza.i 99 11 rfl))))))) (show (V13.2.1 99 12) = (U.2.1 99 12) from ((z13.i 99 12 rfl).trans ((z12.i 99 12 rfl).trans ((z11.i 99 12 rfl).trans ((z10.i 99 12 rfl).trans ((z9.i 99 12 rfl).trans (zza.i 99 12 rfl))))))) (show (V13.2.2.1 99 5) = (U.2.2.1 99 5) from ((z13.a 99 5 rfl).trans ((z12.a 99 5 rfl).trans ((z11.a 99 5 rfl).trans ((z10.a 99 5 rfl).trans ((z9.a 99 5 rfl).trans (zza.a 99 5 rfl))))))) (show (V13.2.2.1 99 7) = (U.2.2.1 99 7) from ((z13.a 99 7 rfl).trans ((z12.a 99 7 rfl).trans ((z11.a 99 7 rfl).trans ((z10.a 99 7 rfl).trans ((z9.a 99 7 rfl).trans (zza.a 99 7 rfl))))))) (show (V13.2.2.1 99 6) = (U.2.2.1 99 6) from ((z13.a 99 6 rfl).trans ((z12.a 99 6 rfl).trans ((z11.a 99 6 rfl).trans ((z10.a 99 6 rfl).trans ((z9.a 99 6 rfl).trans (zza.a 99 6 rfl))))))) (show (V13.2.2.1 99 8).1 = (U.2.2.1 99 8).1 from ((z13.n 99 8 rfl).trans ((z12.n 99 8 rfl).trans ((z11.n 99 8 rfl).trans ((z10.n 99 8 rfl).trans ((z9.n 99 8 rfl).trans (zza.n 99 8 rfl))))))) (show (V13.2.2.1 99 18).1 = (U.2.2.1 99 18).1 from ((z13.n 99 18 rfl).trans ((z12.n 99 18 rfl).trans ((z11.n 99 18 rfl).trans ((z10.n 99 18 rfl).trans ((z9.n 99 18 rfl).trans (zza.n 99 18 rfl))))))) (show (V13.2.2.2.1 100 0) = (U.2.2.2.1 100 0) from ((z13.r 100 0 rfl).trans ((z12.r 100 0 rfl).trans ((z11.r 100 0 rfl).trans ((z10.r 100 0 rfl).trans ((z9.r 100 0 rfl).trans (zza.r 100 0 rfl))))))) (show (V13.2.2.2.1 99 0) = (U.2.2.2.1 99 0) from ((z13.r 99 0 rfl).trans ((z12.r 99 0 rfl).trans ((z11.r 99 0 rfl).trans ((z10.r 99 0 rfl).trans ((z9.r 99 0 rfl).trans (zza.r 99 0 rfl)))))))) hpl (fun t ht hb => ((hB t (by omega)).mp hb).1) (by rw [(show (V13.2.2.1 129 12).1 = (U.2.2.1 129 12).1 from ((z13.n 129 12 rfl).trans ((z12.n 129 12 rfl).trans ((z11.n 129 12 rfl).trans ((z10.n 129 12 rfl).trans ((z9.n 129 12 rfl).trans (zza.n 129 12 rfl)))))))]; exact hl12) (by rw [(show (V13.2.2.1 129 12).1 = (U.2.2.1 129 12).1 from ((z13.n 129 12 rfl).trans ((z12.n 129 12 rfl).trans ((z11.n 129 12 rfl).trans ((z10.n 129 12 rfl).trans ((z9.n 129 12 rfl).trans (zza.n 129 12 rfl)))))))]; exact hl12b) ((hOP pl hpl).eq (show (V13.2.2.1 129 12) = (Va.2.2.1 129 12) from ((z13.a 129 12 rfl).trans ((z12.a 129 12 rfl).trans ((z11.a 129 12 rfl).trans ((z10.a 129 12 rfl).trans (z9.a 129 12 rfl)))))) (show (V13.2.2.1 129 13) = (Va.2.2.1 129 13) from ((z13.a 129 13 rfl).trans ((z12.a 129 13 rfl).trans ((z11.a 129 13 rfl).trans ((z10.a 129 13 rfl).trans (z9.a 129 13 rfl)))))))) (fun Q14 q14 => ?_)
      obtain ⟨u14, r14, z14, ho2, hc2, hd2⟩ := q14
      have ht14 : ur m C H Q14 := ht13.trans r14
      obtain ⟨V14, d14⟩ : ∃ V, ud m Q14 = V := ⟨_, rfl⟩
      rw [d14] at z14 ho2 hc2 hd2
      have qf14 : uq F276 U V14 := qf13.tr z14 rfl
      refine mw_go mu_g276 (k := 1) (f1 := (104, [(1, .inl ((nI w) + 1)), (2, .inl (nI pl)), (0, .inr (.inr (some 129)))], [], Q14)) (C := []) rfl trivial ?_
      rw [(show ((nI w) + 1) = (nI (w + 1)) from (nI_add w 1))]
      refine mw_go mu_g276 (k := 1) (f1 := (2, [(1, .inl (nI (w + 1))), (2, .inl (nI pl)), (0, .inr (.inr (some 129)))], [], Q14)) (C := []) rfl trivial ?_
      exact mw_sub (by simp) (iha (w + 1, Q14) ⟨u14, ht14, (show uq F276a U (ud m Q14) from by rw [d14]; exact ((((((zza.tr z9 rfl).tr z10 rfl).tr z11 rfl).tr z12 rfl).tr z13 rfl).tr z14 rfl)), (show (w + 1) ≤ nw from (by omega)), (show KNV m (ud m Q14) Y P f od es from by rw [d14]; exact (hKN3.to (fun j hj h16 => (by rcases (show j = 0 ∨ j = 1 ∨ j = 2 ∨ j = 3 ∨ j = 4 ∨ j = 5 ∨ j = 6 ∨ j = 7 ∨ j = 8 ∨ j = 9 ∨ j = 10 ∨ j = 11 ∨ j = 12 ∨ j = 13 ∨ j = 14 ∨ j = 15 ∨ j = 17 by omega) with e0 | e0 | e0 | e0 | e0 | e0 | e0 | e0 | e0 | e0 | e0 | e0 | e0 | e0 | e0 | e0 | e0 <;> (subst e0; first | exact (show (V14.1 0) = (V11.1 0) from ((z14.t 0 rfl).trans ((z13.t 0 rfl).trans (z12.t 0 rfl)))) | exact (show (V14.1 1) = (V11.1 1) from ((z14.t 1 rfl).trans ((z13.t 1 rfl).trans (z12.t 1 rfl)))) | exact (show (V14.1 2) = (V11.1 2) from ((z14.t 2 rfl).trans ((z13.t 2 rfl).trans (z12.t 2 rfl)))) | exact (show (V14.1 3) = (V11.1 3) from ((z14.t 3 rfl).trans ((z13.t 3 rfl).trans (z12.t 3 rfl)))) | exact (show (V14.1 4) = (V11.1 4) from ((z14.t 4 rfl).trans ((z13.t 4 rfl).trans (z12.t 4 rfl)))) | exact (show (V14.1 5) = (V11.1 5) from ((z14.t 5 rfl).trans ((z13.t 5 rfl).trans (z12.t 5 rfl)))) | exact (show (V14.1 6) = (V11.1 6) from ((z14.t 6 rfl).trans ((z13.t 6 rfl).trans (z12.t 6 rfl)))) | exact (show (V14.1 7) = (V11.1 7) from ((z14.t 7 rfl).trans ((z13.t 7 rfl).trans (z12.t 7 rfl)))) | exact (show (V14.1 8) = (V11.1 8) from ((z14.t 8 rfl).trans ((z13.t 8 rfl).trans (z12.t 8 rfl)))) | exact (show (V14.1 9) = (V11.1 9) from ((z14.t 9 rfl).trans ((z13.t 9 rfl).trans (z12.t 9 rfl)))) | exact (show (V14.1 10) = (V11.1 10) from ((z14.t 10 rfl).trans ((z13.t 10 rfl).trans (z12.t 10 rfl)))) | exact (show (V14.1 11) = (V11.1 11) from ((z14.t 11 rfl).trans ((z13.t 11 rfl).trans (z12.t 11 rfl)))) | exact (show (V14.1 12) = (V11.1 12) from ((z14.t 12 rfl).trans ((z13.t 12 rfl).trans (z12.t 12 rfl)))) | exact (show (V14.1 13) = (V11.1 13) from ((z14.t 13 rfl).trans ((z13.t 13 rfl).trans (z12.t 13 rfl)))) | exact (show (V14.1 14) = (V11.1 14) from ((z14.t 14 rfl).trans ((z13.t 14 rfl).trans (z12.t 14 rfl)))) | exact (show (V14.1 15) = (V11.1 15) from ((z14.t 15 rfl).trans ((z13.t 15 rfl).trans (z12.t 15 rfl)))) | exact (show (V14.1 17) = (V11.1 17) from ((z14.t 17 rfl).trans ((z13.t 17 rfl).trans (z12.t 17 rfl))))))) ⟨congrArg Prod.fst (show (V14.1 16) = (V11.1 16) from ((z14.t 16 rfl).trans ((z13.t 16 rfl).trans (z12.t 16 rfl)))), fun i c _ => congrArg (fun z => z.2 i c) (show (V14.1 16) = (V11.1 16) from ((z14.t 16 rfl).trans ((z13.t 16 rfl).trans (z12.t 16 rfl))))⟩ (show (V14.2.1 99 4) = (V11.2.1 99 4) from ((z14.i 99 4 rfl).trans ((z13.i 99 4 rfl).trans (z12.i 99 4 rfl)))) (show (V14.2.1 99 10) = (V11.2.1 99 10) from ((z14.i 99 10 rfl).trans ((z13.i 99 10 rfl).trans (z12.i 99 10 rfl)))) (show (V14.2.1 99 11) = (V11.2.1 99 11) from ((z14.i 99 11 rfl).trans ((z13.i 99 11 rfl).trans (z12.i 99 11 rfl)))) (show (V14.2.1 99 12) = (V11.2.1 99 12) from ((z14.i 99 12 rfl).trans ((z13.i 99 12 rfl).trans (z12.i 99 12 rfl)))) (show (V14.2.2.1 99 5) = (V11.2.2.1 99 5) from ((z14.a 99 5 rfl).trans ((z13.a 99 5 rfl).trans (z12.a 99 5 rfl)))) (show (V14.2.2.1 99 6) = (V11.2.2.1 99 6) from ((z14.a 99 6 rfl).trans ((z13.a 99 6 rfl).trans (z12.a 99 6 rfl)))) (show (V14.2.2.1 99 7) = (V11.2.2.1 99 7) from ((z14.a 99 7 rfl).trans ((z13.a 99 7 rfl).trans (z12.a 99 7 rfl)))) (show (V14.2.2.1 99 8) = (V11.2.2.1 99 8) from ((z14.a 99 8 rfl).trans ((z13.a 99 8 rfl).trans (z12.a 99 8 rfl)))) (show (V14.2.2.1 99 18).1 = (V11.2.2.1 99 18).1 from ((z14.n 99 18 rfl).trans ((z13.n 99 18 rfl).trans (z12.n 99 18 rfl)))) (show (V14.2.2.2.1 100 0) = (V11.2.2.2.1 100 0) from ((z14.r 100 0 rfl).trans ((z13.r 100 0 rfl).trans (z12.r 100 0 rfl)))) (show (V14.2.2.2.1 99 0) = (V11.2.2.2.1 99 0) from ((z14.r 99 0 rfl).trans ((z13.r 99 0 rfl).trans (z12.r 99 0 rfl)))))), (show MCS (ud m Q14) from by rw [d14]; exact ⟨(by rw [(show (V14.1 22) = (V11.1 22) from ((z14.t 22 rfl).trans ((z13.t 22 rfl).trans (z12.t 22 rfl))))]; exact hMC3.1), (by rw [(show (V14.2.2.1 100 3).1 = (V11.2.2.1 100 3).1 from ((z14.n 100 3 rfl).trans ((z13.n 100 3 rfl).trans (z12.n 100 3 rfl))))]; exact hMC3.2.1), (by rw [(show (V14.2.2.1 100 8).1 = (V11.2.2.1 100 8).1 from ((z14.n 100 8 rfl).trans ((z13.n 100 8 rfl).trans (z12.n 100 8 rfl))))]; exact hMC3.2.2.1), (by rw [(show (V14.2.2.1 100 12).1 = (V11.2.2.1 100 12).1 from ((z14.n 100 12 rfl).trans ((z13.n 100 12 rfl).trans (z12.n 100 12 rfl))))]; exact hMC3.2.2.2.1), (by rw [(show (V14.2.2.1 100 13).1 = (V11.2.2.1 100 13).1 from ((z14.n 100 13 rfl).trans ((z13.n 100 13 rfl).trans (z12.n 100 13 rfl))))]; exact hMC3.2.2.2.2.1), (by rw [(show (V14.2.2.1 100 15).1 = (V11.2.2.1 100 15).1 from ((z14.n 100 15 rfl).trans ((z13.n 100 15 rfl).trans (z12.n 100 15 rfl))))]; exact hMC3.2.2.2.2.2)⟩), (show MLW (ud m Q14) Y P f od from by rw [d14]; exact (Or.inr ⟨_, _, _, hrg.2.1, hwi, hLD3.keep (show (V14.1 21) = (V11.1 21) from ((z14.t 21 rfl).trans ((z13.t 21 rfl).trans (z12.t 21 rfl)))) (show (V14.1 22) = (V11.1 22) from ((z14.t 22 rfl).trans ((z13.t 22 rfl).trans (z12.t 22 rfl)))) (show (V14.1 15) = (V11.1 15) from ((z14.t 15 rfl).trans ((z13.t 15 rfl).trans (z12.t 15 rfl)))) (show (V14.2.2.1 100 3) = (V11.2.2.1 100 3) from ((z14.a 100 3 rfl).trans ((z13.a 100 3 rfl).trans (z12.a 100 3 rfl)))) (show (V14.2.1 100 5) = (V11.2.1 100 5) from ((z14.i 100 5 rfl).trans ((z13.i 100 5 rfl).trans (z12.i 100 5 rfl)))) (show (V14.2.1 100 7) = (V11.2.1 100 7) from ((z14.i 100 7 rfl).trans ((z13.i 100 7 rfl).trans (z12.i 100 7 rfl)))) (show (V14.2.1 100 17) = (V11.2.1 100 17) from ((z14.i 100 17 rfl).trans ((z13.i 100 17 rfl).trans (z12.i 100 17 rfl)))) (show (V14.2.1 100 4) = (V11.2.1 100 4) from ((z14.i 100 4 rfl).trans ((z13.i 100 4 rfl).trans (z12.i 100 4 rfl)))) (show (V14.2.2.1 100 8) = (V11.2.2.1 100 8) from ((z14.a 100 8 rfl).trans ((z13.a 100 8 rfl).trans (z12.a 100 8 rfl)))) (show (V14.2.2.1 100 12).1 = (V11.2.2.1 100 12).1 from ((z14.n 100 12 rfl).trans ((z13.n 100 12 rfl).trans (z12.n 100 12 rfl)))) (show (V14.2.2.1 100 13).1 = (V11.2.2.1 100 13).1 from ((z14.n 100 13 rfl).trans ((z13.n 100 13 rfl).trans (z12.n 100 13 rfl)))) (show (V14.2.2.1 100 15).1 = (V11.2.2.1 100 15).1 from ((z14.n 100 15 rfl).trans ((z13.n 100 15 rfl).trans (z12.n 100 15 rfl)))) (show (V14.2.2.1 99 8) = (V11.2.2.1 99 8) from ((z14.a 99 8 rfl).trans ((z13.a 99 8 rfl).trans (z12.a 99 8 rfl))))⟩)), (show PSV (ud m Q14) P f s from by rw [d14]; exact (fun r hr => by rw [(show (V14.1 22) = (V11.1 22) from ((z14.t 22 rfl).trans ((z13.t 22 rfl).trans (z12.t 22 rfl)))), (show (V14.2.2.1 99 8) = (V11.2.2.1 99 8) from ((z14.a 99 8 rfl).trans ((z13.a 99 8 rfl).trans (z12.a 99 8 rfl))))]; exact hPS3 r hr)), (show ∃ bf' bt', BZ (ud m Q14) bf' bt' from by rw [d14]; exact ⟨bf3, bt3, ⟨⟨(show (V14.2.1 129 19) = (V13.2.1 129 19) from (z14.i 129 19 rfl)).trans hz3.1.1, (show (V14.2.1 129 20) = (V13.2.1 129 20) from (z14.i 129 20 rfl)).trans hz3.1.2.1, hz3.1.2.2⟩, by rw [(show (V14.2.2.2.2.1 146) = (V13.2.2.2.2.1 146) from (z14.l 146 rfl))]; exact hz3.2⟩⟩), (show ∀ k, k < P → OPT (ud m Q14) (sm f 0 k) (f k) k (fun x => A k x ∧ WCHw Y U f P od wa wn wi wk s (w + 1) k x) from by rw [d14]; exact (fun k hk => by by_cases e0 : k = pl; (rw [e0]; exact ho2.congr (fun x hx => by rw [hB x (by omega), and_assoc]; exact and_congr Iff.rfl (Iff.trans (and_congr Iff.rfl ⟨fun y => y.2, fun y => ⟨hx, y⟩⟩) (WCHw.hit hw3)))); exact (((hOP k hk).other (V := V14) ((hc2 k e0).trans (congrArg (fun q => q.2 k) (show (V13.2.2.1 129 13) = (Va.2.2.1 129 13) from ((z13.a 129 13 rfl).trans ((z12.a 129 13 rfl).trans ((z11.a 129 13 rfl).trans ((z10.a 129 13 rfl).trans (z9.a 129 13 rfl)))))))) (fun q q1 q2 => (hd2 q (by rcases Nat.lt_or_gt_of_ne e0 with y | y; (exact Or.inl (by have y2 := sm_seg (f := f) y; omega)); exact Or.inr (by have y2 := sm_seg (f := f) y; omega))).trans (congrArg (fun y => y.2 q) (show (V13.2.2.1 129 12) = (Va.2.2.1 129 12) from ((z13.a 129 12 rfl).trans ((z12.a 129 12 rfl).trans ((z11.a 129 12 rfl).trans ((z10.a 129 12 rfl).trans (z9.a 129 12 rfl))))))))).congr (fun x _ => and_congr Iff.rfl (WCHw.other hw3 (by omega) (by omega) e0)))))⟩ (by show nw - (w + 1) < nw - w; omega))
  · -- 107: not (nI w) < (nI nw)
    have nh1 : ¬ w < nw := fun z => h1 (show nI w < nI nw from (nI_ltI (by omega) (by omega)).mpr z)
    exact mw_of (fun _ => mu_ret rfl trivial ⟨Hsa, rfl, ua, hta, (by rw [da]; exact qfa), (by rw [da]; exact ⟨hKN, hMC, hLD, hPS, hBZ, fun k hk => by have y := hOP k hk; rw [show w = nw by omega] at y; exact y⟩)⟩)
end ChooseW
