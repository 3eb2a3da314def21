/-! Space.isChosen -/
/-- v is one of what a CHOICE gives -/
def chq (Y : Ts) (lv : Nat → Int32) (a N : Nat) (v : Int32) : Prop := (svz Y lv a N 0 = -1 ∧ v = 0) ∨ ∃ c, c < snz Y a N ∧ svz Y lv a N 0 = nI c ∧ ∃ k, k < fszU Y a N (c + 1) - fszU Y a N c ∧ kvz Y lv a N (fszU Y a N c + k) = v
section Chosen
variable {H : mu_H} {m d A W l t O cp n N a q i k c : Nat} {C : Nat → Nat} {U V0 : Ud} {Y : Ts} {it : Nat → Nat} {lv : Nat → Int32} {lw : Nat → Nat → Int32} {v : Int32} {kd : Bool} {L : List Bool}
theorem snz_up {n N : Nat} (h : n ≤ N) : snz Y a n ≤ snz Y a N := by
  induction N with
  | zero => rw [Nat.le_zero.mp h]; exact Nat.le_refl _
  | succ N ih =>
    by_cases e : n = N + 1
    · rw [e]; exact Nat.le_refl _
    · have := ih (by omega)
      show _ ≤ (if oc Y (a + N) = 32 ∨ oc Y (a + N) = 33 then snz Y a N + 1 else snz Y a N)
      split <;> omega
theorem pkz_one {x : Nat → Int32} {P : Int32 → Prop} {y : Int32} (h0 : P y) : ∀ p f, (∀ q, q < p → P (x (f + 2 * q + 1))) → P (pkz x y p f)
  | 0, f, _ => h0
  | p + 1, f, h => by
    show P (if x f = 0 then pkz x y p (f + 2) else x (f + 1))
    split
    · exact pkz_one h0 p (f + 2) (fun q hq => by have := h (q + 1) (by omega); rw [show f + 2 * (q + 1) + 1 = f + 2 + 2 * q + 1 by omega] at this; exact this)
    · exact h 0 (by omega)
theorem rep2_even : ∀ a q, q < a → (rep2 a)[2 * q]? = some true
  | 0, _, h => absurd h (Nat.not_lt_zero _)
  | a + 1, 0, _ => rfl
  | a + 1, q + 1, h => by
    rw [show 2 * (q + 1) = 2 * q + 1 + 1 by omega]
    show (true :: false :: rep2 a)[2 * q + 1 + 1]? = _
    rw [List.getElem?_cons_succ, List.getElem?_cons_succ]
    exact rep2_even a q (by omega)
theorem kd_pick {A : Nat} (h : kst (Y 0) A (n + 1) = some L) (ho : oc Y (A + n) = 34) (hp : plen (oc Y (A + n)) (oa Y (A + n)) ≤ tpz Y A n) (hq : 2 * q + 1 < plen (oc Y (A + n)) (oa Y (A + n))) : kdz Y A n (tpz Y A n - plen (oc Y (A + n)) (oa Y (A + n)) + 2 * q + 1) = true := by
  have z := kd_part h (k := tpz Y A n - plen (oc Y (A + n)) (oa Y (A + n)) + 2 * q + 1) (by omega) (by omega)
  rw [ho, kin_34, plen_34] at z
  rw [ho, plen_34] at hp hq
  rw [ho, plen_34]
  rw [show tpz Y A n - 1 - (tpz Y A n - 2 * oa Y (A + n) + 2 * q + 1) = 2 * (oa Y (A + n) - 1 - q) by omega, rep2_even _ _ (by omega)] at z
  exact (Option.some.inj z).symm
/-- a CHOICE is told by its number, or has no truth -/
theorem chz_n {A k : Nat} (hC : Cc Y) (hr : rg Y k kd A (A + N)) : ∀ n, n ≤ N → ∀ q, q < tpz Y A n → kdz Y A n q = true → (∃ c, c < snz Y A n ∧ svz Y lv A n q = nI c) ∨ svz Y lv A n q = -1 := by
  intro n
  induction n with
  | zero => intro _ q hq; exact absurd hq (Nat.not_lt_zero _)
  | succ n ih =>
    intro hn q hq hk
    have ih := ih (by omega)
    have hpl := (rg_n hr (n := n) (by omega)).1
    have hsn := snz_up (Y := Y) (a := A) (show n ≤ n + 1 by omega)
    obtain ⟨L, hL⟩ := kst_le hr.2.2.1 (show n + 1 ≤ A + N - A by omega)
    have e1 : tpz Y A (n + 1) = tpz Y A n - plen (oc Y (A + n)) (oa Y (A + n)) + 1 := rfl
    rw [e1] at hq
    have hk : (if q = tpz Y A n - plen (oc Y (A + n)) (oa Y (A + n)) then decide (32 ≤ oc Y (A + n)) else kdz Y A n q) = true := hk
    have es : svz Y lv A (n + 1) q = (if q = tpz Y A n - plen (oc Y (A + n)) (oa Y (A + n)) then (if oc Y (A + n) ≤ 3 then lv (A + n) else if oc Y (A + n) = 32 ∨ oc Y (A + n) = 33 then nI (snz Y A n) else ro (svz Y lv A n) (nI (oc Y (A + n))) (tpz Y A n - plen (oc Y (A + n)) (oa Y (A + n))) (tpz Y A n)) else svz Y lv A n q) := rfl
    rw [es]
    by_cases eq : q = tpz Y A n - plen (oc Y (A + n)) (oa Y (A + n))
    · rw [if_pos eq] at hk
      rw [if_pos eq]
      have h32 := of_decide_eq_true hk
      rw [if_neg (by omega)]
      by_cases hc : oc Y (A + n) = 32 ∨ oc Y (A + n) = 33
      · rw [if_pos hc]
        have : snz Y A (n + 1) = snz Y A n + 1 := if_pos hc
        exact Or.inl ⟨snz Y A n, by omega, rfl⟩
      · rw [if_neg hc]
        by_cases h34 : oc Y (A + n) = 34
        · have hro : ro (svz Y lv A n) (nI (oc Y (A + n))) (tpz Y A n - plen (oc Y (A + n)) (oa Y (A + n))) (tpz Y A n) = pkz (svz Y lv A n) (-1) ((tpz Y A n - (tpz Y A n - plen (oc Y (A + n)) (oa Y (A + n)))) / 2) (tpz Y A n - plen (oc Y (A + n)) (oa Y (A + n))) := by
            rw [h34]; rfl
          rw [hro]
          have hP2 : plen (oc Y (A + n)) (oa Y (A + n)) = 2 * oa Y (A + n) := by rw [h34, plen_34]
          refine pkz_one (P := fun z => (∃ c, c < snz Y A (n + 1) ∧ z = nI c) ∨ z = -1) (Or.inr rfl) _ _ (fun x hx => ?_)
          rcases ih (tpz Y A n - plen (oc Y (A + n)) (oa Y (A + n)) + 2 * x + 1) (by omega) (kd_pick hL h34 hpl (by omega)) with ⟨c, c1, c2⟩ | z
          · exact Or.inl ⟨c, by omega, c2⟩
          · exact Or.inr z
        · exfalso
          have := (okc_n hC (show A + n < (Y 0).1 by have := hr.2.1; omega)).2.1
          omega
    · rw [if_neg eq] at hk
      rw [if_neg eq]
      rcases ih q (by omega) hk with ⟨c, c1, c2⟩ | z
      · exact Or.inl ⟨c, by omega, c2⟩
      · exact Or.inr z
theorem fsz_top {n : Nat} : fszU Y a n (snz Y a n) = sfz Y a n := by
  induction n with
  | zero => rfl
  | succ n ih =>
    show (if (oc Y (a + n) = 32 ∨ oc Y (a + n) = 33) ∧ (if oc Y (a + n) = 32 ∨ oc Y (a + n) = 33 then snz Y a n + 1 else snz Y a n) = snz Y a n + 1 then sfz Y a n + plen (oc Y (a + n)) (oa Y (a + n)) else fszU Y a n (if oc Y (a + n) = 32 ∨ oc Y (a + n) = 33 then snz Y a n + 1 else snz Y a n)) = (if oc Y (a + n) = 32 ∨ oc Y (a + n) = 33 then sfz Y a n + plen (oc Y (a + n)) (oa Y (a + n)) else sfz Y a n)
    by_cases e : oc Y (a + n) = 32 ∨ oc Y (a + n) = 33
    · rw [if_pos e, if_pos ⟨e, rfl⟩, if_pos e]
    · rw [if_neg e, if_neg (fun z => e z.1), if_neg e]; exact ih
theorem fsz_mono {n : Nat} : ∀ c, c < snz Y a n → fszU Y a n c ≤ fszU Y a n (c + 1) := by
  induction n with
  | zero => intro c hc; exact absurd hc (Nat.not_lt_zero _)
  | succ n ih =>
    intro c hc
    have e1 : ∀ c, fszU Y a (n + 1) c = if (oc Y (a + n) = 32 ∨ oc Y (a + n) = 33) ∧ c = snz Y a n + 1 then sfz Y a n + plen (oc Y (a + n)) (oa Y (a + n)) else fszU Y a n c := fun c => rfl
    have e2 : snz Y a (n + 1) = if oc Y (a + n) = 32 ∨ oc Y (a + n) = 33 then snz Y a n + 1 else snz Y a n := rfl
    rw [e1, e1]
    rw [e2] at hc
    by_cases e : oc Y (a + n) = 32 ∨ oc Y (a + n) = 33
    · rw [if_pos e] at hc
      rw [if_neg (fun z => by omega)]
      by_cases h : c = snz Y a n
      · rw [if_pos ⟨e, by omega⟩, h, fsz_top]; omega
      · rw [if_neg (fun z => by omega)]; exact ih c (by omega)
    · rw [if_neg e] at hc
      rw [if_neg (fun z => e z.1), if_neg (fun z => e z.1)]
      exact ih c hc
theorem fsz_le {n : Nat} (c : Nat) (hc : c ≤ snz Y a n) : fszU Y a n c ≤ sfz Y a n := by
  have : ∀ x, x ≤ snz Y a n → fszU Y a n (snz Y a n - x) ≤ sfz Y a n := by
    intro x
    induction x with
    | zero => intro _; rw [Nat.sub_zero, fsz_top]; exact Nat.le_refl _
    | succ x ih =>
      intro hx
      have h1 := ih (by omega)
      have h2 := fsz_mono (Y := Y) (a := a) (n := n) (snz Y a n - (x + 1)) (by omega)
      rw [show snz Y a n - (x + 1) + 1 = snz Y a n - x by omega] at h2
      omega
  have z := this (snz Y a n - c) (by omega)
  rw [show snz Y a n - (snz Y a n - c) = c by omega] at z
  exact z
/-- PathProver$Space.isChosen(II)Z -/
abbrev mu_m259 : ev_M := (4, (some .boolean), [], ev_b259)
theorem mu_g259 : mu_good mu_m259 := mu_goodk ev_k259
theorem sp_chosenN (h : um m H) (e : ud m H = U) (hri : ri V0 U Y O cp A W l a N lw it) (hO : U.2.1 100 7 = nI O) (hcp : U.2.1 100 5 = nI cp) (hn : n < l) (hcp1 : 1 ≤ cp) (hcp2 : cp ≤ 131072) (h1 : 1 ≤ tpz Y a N) (hm1 : cvl U W (it 0) n = -1) : mu_TI (mu_D (d + 3)) 259 [.inr (.inr (some 99)), .inl (nI n), .inl v] H (fun x H1 => x = (if v = 0 then 1 else 0) ∧ H1 = H) := by
  refine mu_meth (M := mu_m259) rfl rfl ?_
  refine mw_ht (mu_fn_of (show [0, 1, 2].Nodup by decide)) ?_
  refine mw_go mu_g259 (k := 2) (f1 := (2, [(3, .inl (0 : Int32)), (0, .inr (.inr (some 99))), (1, .inl (nI n)), (2, .inl v)], [], H)) (C := []) rfl trivial ?_
  show mu_W _ _ (2, [(3, .inl (nI 0)), (0, .inr (.inr (some 99))), (1, .inl (nI n)), (2, .inl v)], [], H) _
  refine mw_sub (L' := [(3, .inl (nI 0)), (0, .inr (.inr (some 99))), (1, .inl (nI n)), (2, .inl v)]) (by simp) ?_
  refine mw_down (α := Nat) (fun zs => (2, [(3, .inl (nI zs)), (0, .inr (.inr (some 99))), (1, .inl (nI n)), (2, .inl v)], [], H)) (fun zs => 1 - zs) (fun zs => (zs ≤ 1) ∧ (0 < zs → ¬ v = 0)) (fun zs hza iha => ?_) 0 ⟨(show 0 ≤ 1 from (by omega)), (show 0 < 0 → ¬ v = 0 from (fun z => absurd z (by omega)))⟩
  obtain ⟨q, rfl⟩ : ∃ y, y = zs := ⟨zs, rfl⟩
  obtain ⟨hq, hv0⟩ := hza
  have hq : q ≤ 1 := hq
  have hv0 : 0 < q → ¬ v = 0 := hv0
  show mu_W _ _ (2, [(3, .inl (nI q)), (0, .inr (.inr (some 99))), (1, .inl (nI n)), (2, .inl v)], [], H) _
  refine mw_go mu_g259 (k := 3) (f1 := (7, [(3, .inl (nI q)), (0, .inr (.inr (some 99))), (1, .inl (nI n)), (2, .inl v)], [.inr (.inr (mu_r H 99 1)), .inl (nI q)], H)) (C := [mu_is H (some 99) 13]) rfl (show mu_is H (some 99) 13 from (h.1.1.is rfl)) ?_
  rw [(h.1.1.r (p := 99) (j := 1) (q := 100) rfl)]
  refine mw_go mu_g259 (k := 1) (f1 := (8, [(3, .inl (nI q)), (0, .inr (.inr (some 99))), (1, .inl (nI n)), (2, .inl v)], [.inl (nI n), .inr (.inr (some 100)), .inl (nI q)], H)) (C := []) rfl trivial ?_
  refine mw_cIe (fun _ => rfl) (show mu_is H (some 100) 5 from (h.1.1.is rfl)) (mc_choicesN (d := d) (n := n) h e hri.1 hO hcp hn hcp1 (by omega) h1 hm1) ?_
  refine mw_if (P := (nI q) < (1 : Int32)) (a := 14) (b := 35) (fun _ => rfl) trivial (fun h2 => ?_) (fun h2 => ?_)
  · -- 14: (nI q) < (1 : Int32)
    have nh2 : q < 1 := (nI_ltI (by omega) (by omega)).mp (show nI q < nI 1 from h2)
    refine mw_go mu_g259 (k := 2) (f1 := (18, [(3, .inl (nI q)), (0, .inr (.inr (some 99))), (1, .inl (nI n)), (2, .inl v)], [.inr (.inr (mu_r H 99 1))], H)) (C := [mu_is H (some 99) 13]) rfl (show mu_is H (some 99) 13 from (h.1.1.is rfl)) ?_
    rw [(h.1.1.r (p := 99) (j := 1) (q := 100) rfl)]
    refine mw_go mu_g259 (k := 2) (f1 := (20, [(3, .inl (nI q)), (0, .inr (.inr (some 99))), (1, .inl (nI n)), (2, .inl v)], [.inl (nI q), .inl (nI n), .inr (.inr (some 100))], H)) (C := []) rfl trivial ?_
    refine mw_cIe (fun _ => rfl) (show mu_is H (some 100) 5 from (h.1.1.is rfl)) (mc_choiceN (d := d) (n := n) (k := q) h e hri.1 hO hcp hn hcp1 (by omega) h1 hm1) ?_
    refine mw_go mu_g259 (k := 1) (f1 := (24, [(3, .inl (nI q)), (0, .inr (.inr (some 99))), (1, .inl (nI n)), (2, .inl v)], [.inl v, .inl (0 : Int32)], H)) (C := []) rfl trivial ?_
    refine mw_if (P := (0 : Int32) = v) (a := 27) (b := 29) (fun _ => rfl) trivial (fun h4 => ?_) (fun h4 => ?_)
    · -- 27: (0 : Int32) = v
      refine mw_go mu_g259 (k := 1) (f1 := (28, [(3, .inl (nI q)), (0, .inr (.inr (some 99))), (1, .inl (nI n)), (2, .inl v)], [.inl (1 : Int32)], H)) (C := []) rfl trivial ?_
      exact mw_of (fun _ => mu_ret rfl (Or.inr rfl) ⟨_, _, rfl, (if_pos (show v = 0 from h4.symm)).symm, rfl⟩)
    · -- 29: not (0 : Int32) = v
      refine mw_go mu_g259 (k := 1) (f1 := (32, [(3, .inl ((nI q) + 1)), (0, .inr (.inr (some 99))), (1, .inl (nI n)), (2, .inl v)], [], H)) (C := []) rfl trivial ?_
      rw [(show ((nI q) + 1) = (nI (q + 1)) from (nI_add q 1))]
      refine mw_go mu_g259 (k := 1) (f1 := (2, [(3, .inl (nI (q + 1))), (0, .inr (.inr (some 99))), (1, .inl (nI n)), (2, .inl v)], [], H)) (C := []) rfl trivial ?_
      exact mw_sub (by simp) (iha (q + 1) ⟨(show (q + 1) ≤ 1 from (by omega)), (show 0 < (q + 1) → ¬ v = 0 from (fun _ z => h4 z.symm))⟩ (by show 1 - (q + 1) < 1 - q; omega))
  · -- 35: not (nI q) < (1 : Int32)
    have nh2 : ¬ q < 1 := fun z => h2 (show nI q < nI 1 from (nI_ltI (by omega) (by omega)).mpr z)
    refine mw_go mu_g259 (k := 1) (f1 := (36, [(3, .inl (nI q)), (0, .inr (.inr (some 99))), (1, .inl (nI n)), (2, .inl v)], [.inl (0 : Int32)], H)) (C := []) rfl trivial ?_
    exact mw_of (fun _ => mu_ret rfl (Or.inl rfl) ⟨_, _, rfl, (if_neg (fun z => hv0 (by omega) z)).symm, rfl⟩)
theorem sp_chosenC (h : um m H) (e : ud m H = U) (hri : ri V0 U Y O cp A W l a N lw it) (hO : U.2.1 100 7 = nI O) (hcp : U.2.1 100 5 = nI cp) (hn : n < l) (hcp1 : 1 ≤ cp) (hcp2 : cp ≤ 131072) (h1 : 1 ≤ tpz Y a N) (hc1 : cvl U W (it 0) n = nI c) (hc2 : c < snz Y a N) (hsl : snz Y a N < (U.2.2.1 100 15).1) (hsl2 : (U.2.2.1 100 15).1 ≤ 16777216) (hsf : sfz Y a N ≤ cp) (hcO : cp ≤ O) (hOA : O ≤ A) (hA : A ≤ 16777216) : mu_TI (mu_D (d + 3)) 259 [.inr (.inr (some 99)), .inl (nI n), .inl v] H (fun x H1 => ((x = 0 ∧ ∀ k, k < fszU Y a N (c + 1) - fszU Y a N c → ¬ kvz Y (lw n) a N (fszU Y a N c + k) = v) ∨ (x = 1 ∧ ∃ k, k < fszU Y a N (c + 1) - fszU Y a N c ∧ kvz Y (lw n) a N (fszU Y a N c + k) = v)) ∧ H1 = H) := by
  have hmn := fsz_mono (Y := Y) (a := a) (n := N) c hc2
  have hfl := fsz_le (Y := Y) (a := a) (n := N) (c + 1) (by omega)
  refine mu_meth (M := mu_m259) rfl rfl ?_
  refine mw_ht (mu_fn_of (show [0, 1, 2].Nodup by decide)) ?_
  refine mw_go mu_g259 (k := 2) (f1 := (2, [(3, .inl (0 : Int32)), (0, .inr (.inr (some 99))), (1, .inl (nI n)), (2, .inl v)], [], H)) (C := []) rfl trivial ?_
  show mu_W _ _ (2, [(3, .inl (nI 0)), (0, .inr (.inr (some 99))), (1, .inl (nI n)), (2, .inl v)], [], H) _
  refine mw_sub (L' := [(3, .inl (nI 0)), (0, .inr (.inr (some 99))), (1, .inl (nI n)), (2, .inl v)]) (by simp) ?_
  refine mw_down (α := Nat) (fun zs => (2, [(3, .inl (nI zs)), (0, .inr (.inr (some 99))), (1, .inl (nI n)), (2, .inl v)], [], H)) (fun zs => (fszU Y a N (c + 1) - fszU Y a N c) - zs) (fun zs => (zs ≤ fszU Y a N (c + 1) - fszU Y a N c) ∧ (∀ y, y < zs → ¬ kvz Y (lw n) a N (fszU Y a N c + y) = v)) (fun zs hza iha => ?_) 0 ⟨(show 0 ≤ fszU Y a N (c + 1) - fszU Y a N c from (by omega)), (show ∀ y, y < 0 → ¬ kvz Y (lw n) a N (fszU Y a N c + y) = v from (fun y hy => absurd hy (Nat.not_lt_zero _)))⟩
  obtain ⟨q, rfl⟩ : ∃ y, y = zs := ⟨zs, rfl⟩
  obtain ⟨hq, hno⟩ := hza
  have hq : q ≤ fszU Y a N (c + 1) - fszU Y a N c := hq
  have hno : ∀ y, y < q → ¬ kvz Y (lw n) a N (fszU Y a N c + y) = v := hno
  show mu_W _ _ (2, [(3, .inl (nI q)), (0, .inr (.inr (some 99))), (1, .inl (nI n)), (2, .inl v)], [], H) _
  refine mw_go mu_g259 (k := 3) (f1 := (7, [(3, .inl (nI q)), (0, .inr (.inr (some 99))), (1, .inl (nI n)), (2, .inl v)], [.inr (.inr (mu_r H 99 1)), .inl (nI q)], H)) (C := [mu_is H (some 99) 13]) rfl (show mu_is H (some 99) 13 from (h.1.1.is rfl)) ?_
  rw [(h.1.1.r (p := 99) (j := 1) (q := 100) rfl)]
  refine mw_go mu_g259 (k := 1) (f1 := (8, [(3, .inl (nI q)), (0, .inr (.inr (some 99))), (1, .inl (nI n)), (2, .inl v)], [.inl (nI n), .inr (.inr (some 100)), .inl (nI q)], H)) (C := []) rfl trivial ?_
  refine mw_cIe (fun _ => rfl) (show mu_is H (some 100) 5 from (h.1.1.is rfl)) (mc_choicesC (d := d) (n := n) (c := c) (sc := snz Y a N) (fs := fszU Y a N) h e hri.1 hO hcp hn hcp1 (by omega) h1 hc1 hc2 hsl hsl2 hri.2.2.2.1.2.1 hmn (by omega)) ?_
  refine mw_if (P := (nI q) < (nI (fszU Y a N (c + 1) - fszU Y a N c))) (a := 14) (b := 35) (fun _ => rfl) trivial (fun h2 => ?_) (fun h2 => ?_)
  · -- 14: (nI q) < (nI (fszU Y a N (c + 1) - fszU Y a N c))
    have nh2 : q < (fszU Y a N (c + 1) - fszU Y a N c) := (nI_ltI (by omega) (by omega)).mp (show nI q < nI (fszU Y a N (c + 1) - fszU Y a N c) from h2)
    refine mw_go mu_g259 (k := 2) (f1 := (18, [(3, .inl (nI q)), (0, .inr (.inr (some 99))), (1, .inl (nI n)), (2, .inl v)], [.inr (.inr (mu_r H 99 1))], H)) (C := [mu_is H (some 99) 13]) rfl (show mu_is H (some 99) 13 from (h.1.1.is rfl)) ?_
    rw [(h.1.1.r (p := 99) (j := 1) (q := 100) rfl)]
    refine mw_go mu_g259 (k := 2) (f1 := (20, [(3, .inl (nI q)), (0, .inr (.inr (some 99))), (1, .inl (nI n)), (2, .inl v)], [.inl (nI q), .inl (nI n), .inr (.inr (some 100))], H)) (C := []) rfl trivial ?_
    refine mw_cIe (fun _ => rfl) (show mu_is H (some 100) 5 from (h.1.1.is rfl)) (mc_choiceC (d := d) (n := n) (k := q) (c := c) (sc := snz Y a N) (fs := fszU Y a N) h e hri.1 hO hcp hn hcp1 (by omega) h1 hc1 hc2 hsl hsl2 hri.2.2.2.1.2.1 hmn (by omega) hcO (by omega) hA) ?_
    rw [show cvl U W (O - cp + fszU Y a N c + q) n = kvz Y (lw n) a N (fszU Y a N c + q) from by rw [Nat.add_assoc]; exact hri.2.2.2.2.1 _ n (by omega) hn]
    refine mw_go mu_g259 (k := 1) (f1 := (24, [(3, .inl (nI q)), (0, .inr (.inr (some 99))), (1, .inl (nI n)), (2, .inl v)], [.inl v, .inl (kvz Y (lw n) a N (fszU Y a N c + q))], H)) (C := []) rfl trivial ?_
    refine mw_if (P := (kvz Y (lw n) a N (fszU Y a N c + q)) = v) (a := 27) (b := 29) (fun _ => rfl) trivial (fun h4 => ?_) (fun h4 => ?_)
    · -- 27: (kvz Y (lw n) a N (fszU Y a N c + q)) = v
      refine mw_go mu_g259 (k := 1) (f1 := (28, [(3, .inl (nI q)), (0, .inr (.inr (some 99))), (1, .inl (nI n)), (2, .inl v)], [.inl (1 : Int32)], H)) (C := []) rfl trivial ?_
      exact mw_of (fun _ => mu_ret rfl (Or.inr rfl) ⟨_, _, rfl, Or.inr ⟨rfl, q, by omega, h4⟩, rfl⟩)
    · -- 29: not (kvz Y (lw n) a N (fszU Y a N c + q)) = v
      refine mw_go mu_g259 (k := 1) (f1 := (32, [(3, .inl ((nI q) + 1)), (0, .inr (.inr (some 99))), (1, .inl (nI n)), (2, .inl v)], [], H)) (C := []) rfl trivial ?_
      rw [(show ((nI q) + 1) = (nI (q + 1)) from (nI_add q 1))]
      refine mw_go mu_g259 (k := 1) (f1 := (2, [(3, .inl (nI (q + 1))), (0, .inr (.inr (some 99))), (1, .inl (nI n)), (2, .inl v)], [], H)) (C := []) rfl trivial ?_
      exact mw_sub (by simp) (iha (q + 1) ⟨(show (q + 1) ≤ fszU Y a N (c + 1) - fszU Y a N c from (by omega)), (show ∀ y, y < (q + 1) → ¬ kvz Y (lw n) a N (fszU Y a N c + y) = v from (fun y hy => by by_cases ey : y = q; (rw [ey]; exact h4); exact hno y (by omega)))⟩ (by show (fszU Y a N (c + 1) - fszU Y a N c) - (q + 1) < (fszU Y a N (c + 1) - fszU Y a N c) - q; omega))
  · -- 35: not (nI q) < (nI (fszU Y a N (c + 1) - fszU Y a N c))
    have nh2 : ¬ q < (fszU Y a N (c + 1) - fszU Y a N c) := fun z => h2 (show nI q < nI (fszU Y a N (c + 1) - fszU Y a N c) from (nI_ltI (by omega) (by omega)).mpr z)
    refine mw_go mu_g259 (k := 1) (f1 := (36, [(3, .inl (nI q)), (0, .inr (.inr (some 99))), (1, .inl (nI n)), (2, .inl v)], [.inl (0 : Int32)], H)) (C := []) rfl trivial ?_
    exact mw_of (fun _ => mu_ret rfl (Or.inl rfl) ⟨_, _, rfl, Or.inl ⟨rfl, fun y hy => hno y (by omega)⟩, rfl⟩)
/-- whether a value is chosen in a lane -/
theorem sp_chosen {k : Nat} (h : um m H) (e : ud m H = U) (hri : ri V0 U Y O cp A W l a N lw it) (hO : U.2.1 100 7 = nI O) (hcp : U.2.1 100 5 = nI cp) (hn : n < l) (hcp1 : 1 ≤ cp) (hcp2 : cp ≤ 131072) (h1 : 1 ≤ tpz Y a N) (hC : Cc Y) (hr : rg Y k true a (a + N)) (hsl : snz Y a N < (U.2.2.1 100 15).1) (hsl2 : (U.2.2.1 100 15).1 ≤ 16777216) (hsf : sfz Y a N ≤ cp) (hcO : cp ≤ O) (hOA : O ≤ A) (hA : A ≤ 16777216) : mu_TI (mu_D (d + 3)) 259 [.inr (.inr (some 99)), .inl (nI n), .inl v] H (fun x H1 => ((x = 0 ∧ ¬ chq Y (lw n) a N v) ∨ (x = 1 ∧ chq Y (lw n) a N v)) ∧ H1 = H) := by
  have h1p := rg_1 hr
  rw [Nat.add_sub_cancel_left] at h1p
  have hkd : kdz Y a N 0 = true := by
    have z := kst_kd hr.2.2.1 0 (by rw [Nat.add_sub_cancel_left]; omega)
    rw [Nat.add_sub_cancel_left, h1p] at z
    exact (Option.some.inj z).symm
  have hv := hri.2.2.1 0 n (by omega) hn
  rcases chz_n (lv := lw n) hC hr N (Nat.le_refl _) 0 (by omega) hkd with ⟨c, c1, c2⟩ | z
  · refine (sp_chosenC (d := d) (c := c) (v := v) h e hri hO hcp hn hcp1 hcp2 h1 (hv.trans c2) c1 hsl hsl2 hsf hcO hOA hA).imp (fun x H1 w => ⟨?_, w.2⟩)
    rcases w.1 with ⟨y1, y2⟩ | ⟨y1, y2⟩
    · refine Or.inl ⟨y1, fun q => ?_⟩
      have hsb := fsz_le (Y := Y) (a := a) (n := N) (snz Y a N) (Nat.le_refl _)
      rcases q with ⟨q1, -⟩ | ⟨c', q1, q2, k, q3, q4⟩
      · rw [c2] at q1; exact nI_neg1 (by omega) q1
      · have : c = c' := (nI_eq (by omega) (by omega)).mp (c2.symm.trans q2)
        rw [← this] at q3 q4
        exact y2 k q3 q4
    · exact Or.inr ⟨y1, Or.inr ⟨c, c1, c2, y2⟩⟩
  · refine (sp_chosenN (d := d) (v := v) h e hri hO hcp hn hcp1 hcp2 h1 (hv.trans z)).imp (fun x H1 w => ⟨?_, w.2⟩)
    by_cases hv0 : v = 0
    · rw [if_pos hv0] at w; exact Or.inr ⟨w.1, Or.inl ⟨z, hv0⟩⟩
    · rw [if_neg hv0] at w
      refine Or.inl ⟨w.1, fun q => ?_⟩
      rcases q with ⟨-, q1⟩ | ⟨c', q1, q2, -⟩
      · exact hv0 q1
      · rw [z] at q2; exact nI_neg1 (by omega) q2.symm
end Chosen
