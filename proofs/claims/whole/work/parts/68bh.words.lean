/-! The reference: words and numbers are scanned; the length and the letters of a constant -/
/-- PathProverModel.advance()V -/
abbrev mu_m51 : ev_M := (4, none, [], ev_b51)
theorem mu_g51 : mu_good mu_m51 := mu_goodk ev_k51
/-- length and letters of a constant -/
theorem rf_len {d j : Nat} {H : mu_H} (hj : j < 79) : mu_TI (mu_D (d + 2)) 6 [.inr (.inr (some (1000000 + j)))] H (fun x H1 => x = nI (ev_kb.getD j []).length ∧ H1 = H) := by
  refine mu_MT.ot fun hH => ?_
  have ho : mu_str (some (1000000 + j)) := ⟨rfl, Nat.le_add_right _ _, by show 1000000 + j < 1000000 + 79; omega⟩
  obtain ⟨hv, j', hj', ej, en, ei⟩ := tx_val ho hH
  have ej : 1000000 + j = 1000000 + j' := ej
  have e : j' = j := by omega
  subst e
  refine (tx_length_ok (d := d) ho hv).imp (fun x H1 q => ?_)
  rw [mu_shr0, en] at q
  exact q
theorem rf_chr {d j i : Nat} {H : mu_H} (hj : j < 79) (hi : i < (ev_kb.getD j []).length) : mu_TI (mu_D (d + 4)) 8 [.inr (.inr (some (1000000 + j))), .inl (nI i)] H (fun x H1 => x = tx_chr ((ev_kb.getD j []).getD i 0) ∧ H1 = H) := by
  refine mu_MT.ot fun hH => ?_
  have ho : mu_str (some (1000000 + j)) := ⟨rfl, Nat.le_add_right _ _, by show 1000000 + j < 1000000 + 79; omega⟩
  obtain ⟨hv, j', hj', ej, en, ei⟩ := tx_val ho hH
  have ej : 1000000 + j = 1000000 + j' := ej
  have e : j' = j := by omega
  subst e
  have hs := ev_kb_short j' hj
  have hn : mu_n H (mu_p (some (mu_p (some (1000000 + j')) + 1000))) = (ev_kb.getD j' []).length := en
  refine (tx_charAt_ok (d := d) ho hv (by rw [hn]; exact vp_in_nI hi (by omega)) (by rw [hn]; omega)).imp (fun x H1 q => ?_)
  rw [nI_clamp (show i < 2 ^ 31 by omega)] at q
  rw [show mu_i H (mu_p (some (mu_p (some (1000000 + j')) + 1000))) i = (ev_kb.getD j' []).getD i 0 from ei i] at q
  exact q
theorem mu_si_comm (H : mu_H) (q : Nat) {j k : Nat} (x y : Int32) (h : j ≠ k) : mu_si (mu_si H q j x) q k y = mu_si (mu_si H q k y) q j x := by
  refine mu_eqH rfl rfl ?_ rfl
  funext p i
  show (if p = q ∧ i = k then y else (if p = q ∧ i = j then x else mu_i H p i)) = (if p = q ∧ i = j then x else (if p = q ∧ i = k then y else mu_i H p i))
  by_cases e : p = q ∧ i = k
  · rw [if_pos e, if_neg (fun z => h (z.2.symm.trans e.2)), if_pos e]
  · rw [if_neg e, if_neg e]
/-- the letter at a place; where a word ends -/
def lta (T : Nat → Int32) (n a : Nat) : Int32 := if a < n then T a else 0
def wez (T : Nat → Int32) (n : Nat) : Nat → Nat → Nat
  | 0, a => a
  | f + 1, a => if ltz (lta T n a) = 0 then (if dgz (lta T n a) = 0 then a else wez T n f (a + 1)) else wez T n f (a + 1)
/-- a number: its worth so far, where it ends -/
def nuz (T : Nat → Int32) (n : Nat) : Nat → Int32 → Nat → Int32 × Nat
  | 0, v, a => (v, a)
  | f + 1, v, a => if dgz (lta T n a) = 0 then (v, a) else nuz T n f (mu_min 40000 (10 * v + T a - 48)) (a + 1)
theorem ltz_0 : ltz 0 = 0 := by decide
theorem dgz_0 : dgz 0 = 0 := by decide
theorem lta_in {T : Nat → Int32} {n a : Nat} (h : ¬ ltz (lta T n a) = 0 ∨ ¬ dgz (lta T n a) = 0) : a < n := by
  by_cases e : a < n
  · exact e
  · have e0 : lta T n a = 0 := if_neg e
    rw [e0] at h
    rcases h with h | h
    · exact absurd ltz_0 h
    · exact absurd dgz_0 h
theorem wez_le {T : Nat → Int32} {n : Nat} : ∀ f a, a ≤ n → a ≤ wez T n f a ∧ wez T n f a ≤ n
  | 0, a, h => ⟨Nat.le_refl _, h⟩
  | f + 1, a, h => by
    rw [wez]
    by_cases e1 : ltz (lta T n a) = 0
    · rw [if_pos e1]
      by_cases e2 : dgz (lta T n a) = 0
      · rw [if_pos e2]; exact ⟨Nat.le_refl _, h⟩
      · rw [if_neg e2]
        have := lta_in (Or.inr e2)
        have := wez_le (T := T) (n := n) f (a + 1) (by omega)
        omega
    · rw [if_neg e1]
      have := lta_in (Or.inl e1)
      have := wez_le (T := T) (n := n) f (a + 1) (by omega)
      omega
theorem rf_word0 {d n : Nat} {T : Nat → Int32} {H : mu_H} {Φ : mu_R → Prop} (h : rgd H) (ht : rtp H T n) : ∀ f a, n - a < f → a ≤ n → mu_W (mu_D (d + 1)) mu_m51 (75, [(0, .inr (.inr (some 169)))], [], mu_si H 169 6 (nI (wez T n f a))) Φ → mu_W (mu_D (d + 1)) mu_m51 (40, [(0, .inr (.inr (some 169)))], [], mu_si H 169 6 (nI a)) Φ
  | 0, a, hf, ha, hk => absurd hf (Nat.not_lt_zero _)
  | f + 1, a, hf, ha, hk => by
    refine mw_go mu_g51 (k := 3) (f1 := (45, [(0, .inr (.inr (some 169)))], [.inl (nI a), .inr (.inr (some 169))], (mu_si H 169 6 (nI a)))) (C := [mu_is H (some 169) 1]) rfl (show mu_is H (some 169) 1 from h.is) ?_
    refine mw_cIe (fun _ => rfl) (show mu_is H (some 169) 1 from h.is) (rf_letter (H := (mu_si H 169 6 (nI a))) (T := T) (n := n) (k := a) h ht (by have := ht.2.1; omega)) ?_
    refine mw_if (P := (ltz (lta T n a)) = 0) (a := 51) (b := 62) (fun _ => rfl) trivial (fun h1 => ?_) (fun h1 => ?_)
    · -- 51
      refine mw_go mu_g51 (k := 3) (f1 := (56, [(0, .inr (.inr (some 169)))], [.inl (nI a), .inr (.inr (some 169))], (mu_si H 169 6 (nI a)))) (C := [mu_is H (some 169) 1]) rfl (show mu_is H (some 169) 1 from h.is) ?_
      refine mw_cIe (fun _ => rfl) (show mu_is H (some 169) 1 from h.is) (rf_digit (H := (mu_si H 169 6 (nI a))) (T := T) (n := n) (k := a) h ht (by have := ht.2.1; omega)) ?_
      refine mw_if (P := (dgz (lta T n a)) = 0) (a := 75) (b := 62) (fun _ => rfl) trivial (fun h2 => ?_) (fun h2 => ?_)
      · -- 75
        rw [wez, if_pos h1, if_pos h2] at hk
        exact hk
      · -- 62
        have han : a < n := lta_in (Or.inr h2)
        rw [wez, if_pos h1, if_neg h2] at hk
        refine mw_go mu_g51 (k := 7) (f1 := (40, [(0, .inr (.inr (some 169)))], [], (mu_si (mu_si H 169 6 (nI a)) 169 6 ((nI a) + (1 : Int32))))) (C := [mu_is H (some 169) 1, mu_is H (some 169) 1]) rfl (show (mu_is H (some 169) 1) ∧ (mu_is H (some 169) 1) from ⟨h.is, h.is⟩) ?_
        refine mw_fr (f' := (40, [(0, .inr (.inr (some 169)))], [], (mu_si H 169 6 (nI (a + 1))))) (by rw [mu_si_si, ← nI_succ]) ?_
        exact rf_word0 h ht f (a + 1) (by omega) (by omega) hk
    · -- 62
      have han : a < n := lta_in (Or.inl h1)
      rw [wez, if_neg h1] at hk
      refine mw_go mu_g51 (k := 7) (f1 := (40, [(0, .inr (.inr (some 169)))], [], (mu_si (mu_si H 169 6 (nI a)) 169 6 ((nI a) + (1 : Int32))))) (C := [mu_is H (some 169) 1, mu_is H (some 169) 1]) rfl (show (mu_is H (some 169) 1) ∧ (mu_is H (some 169) 1) from ⟨h.is, h.is⟩) ?_
      refine mw_fr (f' := (40, [(0, .inr (.inr (some 169)))], [], (mu_si H 169 6 (nI (a + 1))))) (by rw [mu_si_si, ← nI_succ]) ?_
      exact rf_word0 h ht f (a + 1) (by omega) (by omega) hk
theorem rf_num0 {d n : Nat} {T : Nat → Int32} {H : mu_H} {Φ : mu_R → Prop} (h : rgd H) (ht : rtp H T n) : ∀ f v a, n - a < f → a ≤ n → mu_W (mu_D (d + 1)) mu_m51 (198, [(0, .inr (.inr (some 169)))], [], mu_si (mu_si H 169 10 (nuz T n f v a).1) 169 6 (nI (nuz T n f v a).2)) Φ → mu_W (mu_D (d + 1)) mu_m51 (144, [(0, .inr (.inr (some 169)))], [], mu_si (mu_si H 169 10 v) 169 6 (nI a)) Φ
  | 0, v, a, hf, ha, hk => absurd hf (Nat.not_lt_zero _)
  | f + 1, v, a, hf, ha, hk => by
    refine mw_go mu_g51 (k := 3) (f1 := (149, [(0, .inr (.inr (some 169)))], [.inl (nI a), .inr (.inr (some 169))], (mu_si (mu_si H 169 10 v) 169 6 (nI a)))) (C := [mu_is H (some 169) 1]) rfl (show mu_is H (some 169) 1 from h.is) ?_
    refine mw_cIe (fun _ => rfl) (show mu_is H (some 169) 1 from h.is) (rf_digit (H := (mu_si (mu_si H 169 10 v) 169 6 (nI a))) (T := T) (n := n) (k := a) h ht (by have := ht.2.1; omega)) ?_
    refine mw_if (P := (dgz (lta T n a)) = 0) (a := 198) (b := 155) (fun _ => rfl) trivial (fun h1 => ?_) (fun h1 => ?_)
    · -- 198
      rw [nuz, if_pos h1] at hk
      exact hk
    · -- 155
      have han : a < n := lta_in (Or.inr h1)
      have hta : mu_i H 170 (nI a).toNatClampNeg = T a := by rw [nI_clamp (show a < 2 ^ 31 by have := ht.2.1; omega)]; exact ht.2.2 a han
      rw [nuz, if_neg h1] at hk
      refine mw_go mu_g51 (k := 14) (f1 := (179, [(0, .inr (.inr (some 169)))], [.inl ((((10 : Int32) * v) + (mu_i (mu_si (mu_si H 169 10 v) 169 6 (nI a)) (mu_p (mu_r H 169 1)) (nI a).toNatClampNeg)) - (48 : Int32)), .inl (40000 : Int32), .inr (.inr (some 169))], (mu_si (mu_si H 169 10 v) 169 6 (nI a)))) (C := [mu_is H (some 169) 1, mu_is H (some 169) 1, mu_is H (some 169) 1, mu_isr H (mu_r H 169 1) 101, vp_in (nI a) (mu_n H (mu_p (mu_r H 169 1)))]) rfl (show (mu_is H (some 169) 1) ∧ (mu_is H (some 169) 1) ∧ (mu_is H (some 169) 1) ∧ (mu_isr H (mu_r H 169 1) 101) ∧ (vp_in (nI a) (mu_n H (mu_p (mu_r H 169 1)))) from ⟨h.is, h.is, h.is, h.tp, (by rw [h.2.2.1.1]; exact vp_in_nI (show a < mu_n H 170 by rw [h.2.2.1.2.2]; have := ht.2.1; omega) (show mu_n H 170 < _ by rw [h.2.2.1.2.2]; decide))⟩) ?_
      refine mw_fr (f' := (179, [(0, .inr (.inr (some 169)))], [.inl ((((10 : Int32) * v) + (mu_i H 170 (nI a).toNatClampNeg)) - (48 : Int32)), .inl (40000 : Int32), .inr (.inr (some 169))], (mu_si (mu_si H 169 10 v) 169 6 (nI a)))) (by first | (rw [h.2.2.1.1]; done) | (rw [h.2.2.1.1]; rfl)) ?_
      refine mw_fr (f' := (179, [(0, .inr (.inr (some 169)))], [.inl ((((10 : Int32) * v) + (T a)) - (48 : Int32)), .inl (40000 : Int32), .inr (.inr (some 169))], (mu_si (mu_si H 169 10 v) 169 6 (nI a)))) (by first | (rw [hta]; done) | (rw [hta]; rfl)) ?_
      refine mw_cIe (fun _ => rfl) trivial (mu_min_ok (40000 : Int32) ((((10 : Int32) * v) + (T a)) - (48 : Int32))) ?_
      refine mw_go mu_g51 (k := 8) (f1 := (144, [(0, .inr (.inr (some 169)))], [], (mu_si (mu_si (mu_si (mu_si H 169 10 v) 169 6 (nI a)) 169 10 (mu_min (40000 : Int32) ((((10 : Int32) * v) + (T a)) - (48 : Int32)))) 169 6 ((nI a) + (1 : Int32))))) (C := [mu_is H (some 169) 1, mu_is H (some 169) 1, mu_is H (some 169) 1]) rfl (show (mu_is H (some 169) 1) ∧ (mu_is H (some 169) 1) ∧ (mu_is H (some 169) 1) from ⟨h.is, h.is, h.is⟩) ?_
      refine mw_fr (f' := (144, [(0, .inr (.inr (some 169)))], [], (mu_si (mu_si H 169 10 (mu_min (40000 : Int32) ((((10 : Int32) * v) + (T a)) - (48 : Int32)))) 169 6 (nI (a + 1))))) (by rw [mu_si_comm _ _ _ _ (show 6 ≠ 10 by decide), mu_si_si, mu_si_si, ← nI_succ]) ?_
      exact rf_num0 h ht f _ (a + 1) (by omega) (by omega) hk
