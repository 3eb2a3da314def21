/-! THE MACHINE takes a list -/
/-- a list may be taken: what is posed lies in its slots; what NAMES stand for too, once it has been reckoned -/
def LSK (U : Ud) (Y : Ts) (P : Nat) (f od : Nat → Nat) (a0 N0 i0 s rem : Nat) : Prop := ∃ S0 K dp W mk M rk wt, LR U Y a0 N0 i0 od S0 K M rk ∧ LZx U S0 K (sfz Y a0 N0) dp W mk ∧ LC (U.1 15) Y P (nxp Y a0 N0) a0 N0 i0 (sfz Y a0 N0) dp mk M ∧ sds U W P S0 f mk (bcn mk) wt ∧ (∀ k, 14 ≤ k → k < 28 → ¬ mb mk k = 0 → wt k = pd f (k % 14 + 1) (P - 1 - k % 14)) ∧ (∀ q j, q < 14 → ¬ mb mk q = 0 → j < W → cvl U W (bcn mk q) j = (U.2.2.1 99 8).2 (sm f 0 q + dgzU f P s q)) ∧ (U.2.1 100 21 = 1 ∨ (U.2.1 100 21 = 0 ∧ ∀ q, q < (Y 13).1 → M (od q) → ∀ j, j < W → j < rem → cvl U W (S0 + rk q) j = evz Y od (vst U f P s) (od q)))
section TakeList
variable {H : mu_H} {U V : Ud} {m d P a0 N0 i0 s l n k st rem : Nat} {C : Nat → Nat} {Y : Ts} {f od ls : Nat → Nat} {es rs : Nat → Int32} {al : Int32} {kd : Bool}
theorem LSK.ldd (h : LSK U Y P f od a0 N0 i0 s rem) (hf : ∀ k, 1 ≤ f k) : LDD U Y P f od a0 N0 i0 := by
  obtain ⟨S0, K, dp, W, mk, M, rk, wt, l1, l2, l3, l4, -⟩ := h
  exact ⟨S0, K, dp, W, mk, M, rk, l1, l2, l3, sds_x l4 hf⟩
theorem cvl_same {W q j : Nat} (h8 : V.2.2.1 100 8 = U.2.2.1 100 8) (h12 : V.2.2.1 100 12 = U.2.2.1 100 12) : cvl V W q j = cvl U W q j := by
  unfold cvl
  rw [h8, h12]
theorem LSK.keep (h : LSK U Y P f od a0 N0 i0 s rem) (h21 : V.1 21 = U.1 21) (h22 : V.1 22 = U.1 22) (h15 : V.1 15 = U.1 15) (a3 : V.2.2.1 100 3 = U.2.2.1 100 3) (i5 : V.2.1 100 5 = U.2.1 100 5) (i7 : V.2.1 100 7 = U.2.1 100 7) (i17 : V.2.1 100 17 = U.2.1 100 17) (i4 : V.2.1 100 4 = U.2.1 100 4) (a8 : V.2.2.1 100 8 = U.2.2.1 100 8) (a12 : V.2.2.1 100 12 = U.2.2.1 100 12) (n13 : (V.2.2.1 100 13).1 = (U.2.2.1 100 13).1) (n15 : (V.2.2.1 100 15).1 = (U.2.2.1 100 15).1) (a98 : V.2.2.1 99 8 = U.2.2.1 99 8) (i21 : V.2.1 100 21 = U.2.1 100 21) : LSK V Y P f od a0 N0 i0 s rem := by
  obtain ⟨S0, K, dp, W, mk, M, rk, wt, l1, l2, l3, l4, l5, l6, l7⟩ := h
  refine ⟨S0, K, dp, W, mk, M, rk, wt, LR_keep l1 h21 a3, LZx_keep l2 i5 i7 i17 i4 (by rw [a8]) (by rw [a12]) n13 n15, by rw [h15]; exact l3, sds_same l4 h22 a98 a8, l5, fun q j h1 h2 h3 => by rw [cvl_same a8 a12, a98]; exact l6 q j h1 h2 h3, ?_⟩
  rw [i21, vst_same h15 a98]
  rcases l7 with y | ⟨y, y2⟩
  · exact Or.inl y
  · exact Or.inr ⟨y, fun q h1 h2 j h3 h4 => by rw [cvl_same a8 a12]; exact y2 q h1 h2 j h3 h4⟩
theorem mcs_keep (hM : MCS U) (h22 : (V.1 22).1 = 28) (n3 : (V.2.2.1 100 3).1 = (U.2.2.1 100 3).1) (n8 : (V.2.2.1 100 8).1 = (U.2.2.1 100 8).1) (n12 : (V.2.2.1 100 12).1 = (U.2.2.1 100 12).1) (n13 : (V.2.2.1 100 13).1 = (U.2.2.1 100 13).1) (n15 : (V.2.2.1 100 15).1 = (U.2.2.1 100 15).1) : MCS V :=
  ⟨h22, by rw [n3]; exact hM.2.1, by rw [n8]; exact hM.2.2.1, by rw [n12]; exact hM.2.2.2.1, by rw [n13]; exact hM.2.2.2.2.1, by rw [n15]; exact hM.2.2.2.2.2⟩
/-- what an E is between two STATES -/
def trs (Y : Ts) (U : Ud) (f : Nat → Nat) (P : Nat) (od : Nat → Nat) (i0 a0 N0 s t : Nat) : Int32 := svz Y (lvl Y (vst U f P s) (vst U f P t) (evz Y od (vst U f P s)) i0) a0 N0 0
theorem trs_same {t : Nat} (h15 : V.1 15 = U.1 15) (h8 : V.2.2.1 99 8 = U.2.2.1 99 8) : trs Y V f P od i0 a0 N0 s t = trs Y U f P od i0 a0 N0 s t := by
  unfold trs
  rw [vst_same (s := s) h15 h8, vst_same (s := t) h15 h8]
theorem trs_01 {t : Nat} (hK : KNV m U Y P f od es) (hr0 : rg Y k false a0 (a0 + N0)) (hs0 : SRT Y es i0 al a0 rs N0) (hal : ¬ al = 2) (hst : stk Y rs a0 N0 0 = 1) : trs Y U f P od i0 a0 N0 s t = 0 ∨ trs Y U f P od i0 a0 N0 s t = 1 := by
  have hP := hK.P14
  have hW := hK.2.2.2.1.1
  have hv : ∀ t, VLS Y (vst U f P t) := fun t => VLS_vst hK.2.2.2.2.2.1 hP hK.2.1
  have h1p := rg_1 hr0
  rw [Nat.add_sub_cancel_left] at h1p
  have hkd : kdz Y a0 N0 0 = false := by
    have z := kst_kd hr0.2.2.1 0 (by rw [Nat.add_sub_cancel_left]; omega)
    rw [Nat.add_sub_cancel_left, h1p] at z
    exact (Option.some.inj z).symm
  have q := typ_n (lv := lvl Y (vst U f P s) (vst U f P t) (evz Y od (vst U f P s)) i0) hW.2.2.2.2.2.1.2 hr0 hs0 hal (fun n hn ho => lvl_cfm hW hK.2.2.2.1.2.2.1 (by have := hr0.2.1; omega) ((hs0 n hn).2.1 (plen_0 ho)) (hv s) (hv t) (fun e2 he2 _ => evz_all hW hK.2.2.2.2.1 hK.2.2.2.1.2.1 hK.2.2.2.1.2.2.1 (hv s) he2)) N0 (Nat.le_refl _) 0 (by omega) hkd
  exact q.1 hst
theorem mc_results2 {lv : Nat → Nat → Int32} (h : um m H) (e : ud m H = U) (hR : RSL U Y a0 N0 l lv) (h1 : tpz Y a0 N0 = 1) : mu_TA (mu_D (d + 4)) 209 [.inr (.inr (some 100))] H (fun x H1 => x = some 107 ∧ um m H1 ∧ ur m C H H1 ∧ uq FLf U (ud m H1) ∧ ∀ k, k < l → ((ud m H1).2.2.1 100 9).2 k = svz Y (lv k) a0 N0 0) := by
  obtain ⟨V0, O, A, W, it, hri, -⟩ := hR
  exact (mc_results (d := d) (C := C) h e hri.1 (by omega)).imp (fun r ⟨x, H1, q0, q1, q2, q3, q4, q5⟩ => ⟨x, H1, q0, q1, q2, q3, q4, fun k hk => (q5 k hk).trans (hri.2.2.1 0 k (by omega) hk)⟩)
/-- what is left of the first part of a list -/
def FLTR (V : Ud) (lf at0 : Nat) (ls : Nat → Nat) (Q : Nat → Prop) : Prop := ∃ g : Nat → Nat, (∀ j, j < lf → (V.2.2.1 129 10).2 j = nI (g j)) ∧ (∀ i j, i < j → j < lf → g i < g j) ∧ ∀ x, lmz g lf x = true ↔ lmz ls at0 x = true ∧ Q x
theorem FLTR.step {lf at0 mn nL : Nat} {tv : Nat → Nat} {Q : Nat → Prop} (h : FLTR U lf at0 ls Q) (hL : LVD U V tv at0 mn lf) (htv : ∀ q, q < mn → (tv q = 1 ∧ Q (ls (at0 + q))) ∨ (tv q = 0 ∧ ¬ Q (ls (at0 + q)))) (hr : ∀ i j, i < j → j < nL → ls i < ls j) (hb : at0 + mn ≤ nL) (hv : ∀ j, at0 ≤ j → j < nL → (U.2.2.1 129 10).2 j = nI (ls j)) : FLTR V (lf + ctv tv mn) (at0 + mn) ls Q := by
  have key : ∀ q, q ≤ mn → FLTR V (lf + ctv tv q) (at0 + q) ls Q := by
    intro q
    induction q with
    | zero =>
      intro _
      obtain ⟨g, g1, g2, g3⟩ := h
      exact ⟨g, fun j hj => (hL.2.1 j hj).trans (g1 j hj), g2, g3⟩
    | succ q ih =>
      intro hq
      obtain ⟨g, g1, g2, g3⟩ := ih (by omega)
      have gin : ∀ j, j < lf + ctv tv q → g j < ls (at0 + q) := fun j hj => by
        obtain ⟨i, i1, i2⟩ := (lmz_iff _).mp ((g3 (g j)).mp ((lmz_iff _).mpr ⟨j, hj, rfl⟩)).1
        rw [← i2]
        exact hr i (at0 + q) i1 (by omega)
      have ec : ctv tv (q + 1) = ctv tv q + tv q := rfl
      have el : ∀ x, lmz ls (at0 + (q + 1)) x = true ↔ lmz ls (at0 + q) x = true ∨ ls (at0 + q) = x := fun x => by
        rw [lmz_iff, lmz_iff]
        constructor
        · rintro ⟨i, i1, i2⟩
          by_cases y : i = at0 + q
          · rw [y] at i2; exact Or.inr i2
          · exact Or.inl ⟨i, by omega, i2⟩
        · rintro (⟨i, i1, i2⟩ | y)
          · exact ⟨i, by omega, i2⟩
          · exact ⟨at0 + q, by omega, y⟩
      rcases htv q (by omega) with ⟨t1, t2⟩ | ⟨t1, t2⟩
      · rw [ec, t1]
        refine ⟨fun j => if j = lf + ctv tv q then ls (at0 + q) else g j, fun j hj => ?_, fun i j hi hj => ?_, fun x => ?_⟩
        · show _ = nI (if j = lf + ctv tv q then ls (at0 + q) else g j)
          by_cases y : j = lf + ctv tv q
          · rw [if_pos y, y, hL.1 q (by omega) t1]
            exact hv (at0 + q) (by omega) (by omega)
          · rw [if_neg y]
            exact g1 j (by omega)
        · show (if i = lf + ctv tv q then ls (at0 + q) else g i) < (if j = lf + ctv tv q then ls (at0 + q) else g j)
          rw [if_neg (show ¬ i = lf + ctv tv q by omega)]
          by_cases y : j = lf + ctv tv q
          · rw [if_pos y]
            exact gin i (by omega)
          · rw [if_neg y]
            exact g2 i j hi (by omega)
        · have ex : lmz (fun j => if j = lf + ctv tv q then ls (at0 + q) else g j) (lf + (ctv tv q + 1)) x = true ↔ lmz g (lf + ctv tv q) x = true ∨ ls (at0 + q) = x := by
            rw [lmz_iff, lmz_iff]
            constructor
            · rintro ⟨i, i1, i2⟩
              by_cases y : i = lf + ctv tv q
              · exact Or.inr ((if_pos (c := i = lf + ctv tv q) y).symm.trans i2)
              · exact Or.inl ⟨i, by omega, (if_neg (c := i = lf + ctv tv q) y).symm.trans i2⟩
            · rintro (⟨i, i1, i2⟩ | y)
              · exact ⟨i, by omega, (if_neg (c := i = lf + ctv tv q) (by omega)).trans i2⟩
              · exact ⟨lf + ctv tv q, by omega, (if_pos (c := lf + ctv tv q = lf + ctv tv q) rfl).trans y⟩
          rw [ex, el x, g3 x]
          constructor
          · rintro (y | y)
            · exact ⟨Or.inl y.1, y.2⟩
            · exact ⟨Or.inr y, by rw [← y]; exact t2⟩
          · rintro ⟨y | y, y2⟩
            · exact Or.inl ⟨y, y2⟩
            · exact Or.inr y
      · rw [ec, t1]
        refine ⟨g, g1, g2, fun x => ?_⟩
        show lmz g (lf + ctv tv q) x = true ↔ _
        rw [g3 x, el x]
        constructor
        · exact fun y => ⟨Or.inl y.1, y.2⟩
        · rintro ⟨y | y, y2⟩
          · exact ⟨y, y2⟩
          · rw [← y] at y2; exact absurd y2 t2
  exact key mn (Nat.le_refl _)
end TakeList
