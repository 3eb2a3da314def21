/-! The reference: blanks and remarks are passed over -/
/-- to the end of the row -/
def eoz (T : Nat → Int32) (n : Nat) : Nat → Nat → Nat
  | 0, a => a
  | f + 1, a => if a < n then (if T a = 10 then a else eoz T n f (a + 1)) else a
def blz (c : Int32) : Prop := c = 9 ∨ c = 10 ∨ c = 13 ∨ c = 32
/-- where the next token begins -/
noncomputable def skz (T : Nat → Int32) (n : Nat) : Nat → Nat → Nat
  | 0, a => a
  | f + 1, a => if a < n then (if T a = 9 then skz T n f (a + 1) else if T a = 10 then skz T n f (a + 1) else if T a = 13 then skz T n f (a + 1) else if T a = 32 then skz T n f (a + 1) else if T a = 45 then (if a + 1 < n then (if T (a + 1) = 45 then skz T n f (eoz T n n a) else a) else a) else a) else a
theorem eoz_le {T : Nat → Int32} {n : Nat} : ∀ f a, a ≤ n → a ≤ eoz T n f a ∧ eoz T n f a ≤ n
  | 0, a, h => ⟨Nat.le_refl _, h⟩
  | f + 1, a, h => by
    unfold eoz
    split
    · split
      · exact ⟨Nat.le_refl _, h⟩
      · have := eoz_le (T := T) (n := n) f (a + 1) (by omega)
        omega
    · exact ⟨Nat.le_refl _, h⟩
theorem eoz_gt {T : Nat → Int32} {n a : Nat} (h : a < n) (ht : ¬ T a = 10) : a < eoz T n n a := by
  obtain ⟨f, rfl⟩ : ∃ f, n = f + 1 := ⟨n - 1, by omega⟩
  show a < eoz T (f + 1) (f + 1) a
  rw [eoz, if_pos h, if_neg ht]
  have := eoz_le (T := T) (n := f + 1) f (a + 1) (by omega)
  omega
theorem skz_le {T : Nat → Int32} {n : Nat} : ∀ f a, a ≤ n → a ≤ skz T n f a ∧ skz T n f a ≤ n
  | 0, a, h => ⟨Nat.le_refl _, h⟩
  | f + 1, a, h => by
    rw [skz]
    by_cases e : a < n
    · rw [if_pos e]
      have h1 := skz_le (T := T) (n := n) f (a + 1) (by omega)
      have h2 := eoz_le (T := T) (n := n) n a h
      have h3 := skz_le (T := T) f (eoz T n n a) h2.2
      repeat' split
      all_goals omega
    · rw [if_neg e]
      exact ⟨Nat.le_refl _, h⟩
theorem rgd.tp170 {H : mu_H} (h : rgd H) : mu_isr H (some 170) 101 := by
  have := h.tp
  rw [h.2.2.1.1] at this
  exact this
theorem rf_eol {run : Nat → List ev_V → List ev_C → Option ev_R} {n : Nat} {T : Nat → Int32} {H : mu_H} {Φ : mu_R → Prop} (h : rgd H) (ht : rtp H T n) : ∀ f a, n - a < f → a ≤ n → mu_W run mu_m52 (132, [(0, .inr (.inr (some 169)))], [], mu_si H 169 6 (nI (eoz T n f a))) Φ → mu_W run mu_m52 (93, [(0, .inr (.inr (some 169)))], [], mu_si H 169 6 (nI a)) Φ
  | 0, a, hf, ha, hk => absurd hf (Nat.not_lt_zero _)
  | f + 1, a, hf, ha, hk => by
    refine mw_go mu_g52 (k := 4) (f1 := (101, [(0, .inr (.inr (some 169)))], [.inl (mu_i H 169 2), .inl (nI a)], (mu_si H 169 6 (nI a)))) (C := [mu_is H (some 169) 1, mu_is H (some 169) 1]) rfl (show (mu_is H (some 169) 1) ∧ (mu_is H (some 169) 1) from ⟨h.is, h.is⟩) ?_
    refine mw_fr (f' := (101, [(0, .inr (.inr (some 169)))], [.inl (nI n), .inl (nI a)], (mu_si H 169 6 (nI a)))) (by first | (rw [ht.1]; done) | (rw [ht.1]; rfl)) ?_
    refine mw_if (P := (nI a) < (nI n)) (a := 104) (b := 132) (fun _ => rfl) trivial (fun h9 => ?_) (fun h9 => ?_)
    · -- 104
      have han : a < n := nI_below (by have := ht.2.1; omega) (by have := ht.2.1; omega) h9
      have hta : mu_i H 170 (nI a).toNatClampNeg = T a := by rw [nI_clamp (show a < 2 ^ 31 by have := ht.2.1; omega)]; exact ht.2.2 a han
      refine mw_go mu_g52 (k := 6) (f1 := (115, [(0, .inr (.inr (some 169)))], [.inl (10 : Int32), .inl (mu_i (mu_si H 169 6 (nI a)) (mu_p (mu_r H 169 1)) (nI a).toNatClampNeg)], (mu_si H 169 6 (nI a)))) (C := [mu_is H (some 169) 1, mu_is H (some 169) 1, mu_isr H (mu_r H 169 1) 101, vp_in (nI a) (mu_n H (mu_p (mu_r H 169 1)))]) rfl (show (mu_is H (some 169) 1) ∧ (mu_is H (some 169) 1) ∧ (mu_isr H (mu_r H 169 1) 101) ∧ (vp_in (nI a) (mu_n H (mu_p (mu_r H 169 1)))) from ⟨h.is, h.is, h.tp, (by rw [h.2.2.1.1]; exact vp_in_nI (show a < mu_n H 170 by rw [h.2.2.1.2.2]; have := ht.2.1; omega) (show mu_n H 170 < _ by rw [h.2.2.1.2.2]; decide))⟩) ?_
      refine mw_fr (f' := (115, [(0, .inr (.inr (some 169)))], [.inl (10 : Int32), .inl (mu_i H 170 (nI a).toNatClampNeg)], (mu_si H 169 6 (nI a)))) (by first | (rw [h.2.2.1.1]; done) | (rw [h.2.2.1.1]; rfl)) ?_
      refine mw_fr (f' := (115, [(0, .inr (.inr (some 169)))], [.inl (10 : Int32), .inl (T a)], (mu_si H 169 6 (nI a)))) (by first | (rw [hta]; done) | (rw [hta]; rfl)) ?_
      refine mw_if (P := (T a) = (10 : Int32)) (a := 132) (b := 118) (fun _ => rfl) trivial (fun h8 => ?_) (fun h8 => ?_)
      · -- 132
        rw [eoz, if_pos han, if_pos h8] at hk
        exact hk
      · -- 118
        rw [eoz, if_pos han, if_neg h8] at hk
        refine mw_go mu_g52 (k := 7) (f1 := (93, [(0, .inr (.inr (some 169)))], [], (mu_si (mu_si H 169 6 (nI a)) 169 6 ((nI a) + (1 : Int32))))) (C := [mu_is H (some 169) 1, mu_is H (some 169) 1]) rfl (show (mu_is H (some 169) 1) ∧ (mu_is H (some 169) 1) from ⟨h.is, h.is⟩) ?_
        refine mw_fr (f' := (93, [(0, .inr (.inr (some 169)))], [], (mu_si H 169 6 (nI (a + 1))))) (by rw [mu_si_si, ← nI_succ]) ?_
        exact rf_eol h ht f (a + 1) (by omega) (by omega) hk
    · -- 132
      have han : ¬ a < n := fun z => h9 (nI_lt z (by have := ht.2.1; omega))
      rw [eoz, if_neg han] at hk
      exact hk
theorem eoz_more {T : Nat → Int32} {n a : Nat} : eoz T n (n + 1) a = eoz T n n a := by
  have key : ∀ f a, n - a ≤ f → eoz T n (f + 1) a = eoz T n f a := by
    intro f
    induction f with
    | zero =>
      intro a h
      show (if a < n then (if T a = 10 then a else eoz T n 0 (a + 1)) else a) = a
      rw [if_neg (by omega)]
    | succ f ih =>
      intro a h
      rw [eoz]
      by_cases e : a < n
      · rw [if_pos e, ih (a + 1) (by omega), eoz, if_pos e]
      · rw [if_neg e, eoz, if_neg e]
  exact key n a (by omega)
theorem rf_skip0 {run : Nat → List ev_V → List ev_C → Option ev_R} {n : Nat} {T : Nat → Int32} {H : mu_H} {Q : mu_H → Prop} (h : rgd H) (ht : rtp H T n) : ∀ f a, n - a < f → a ≤ n → Q (mu_si H 169 6 (nI (skz T n f a))) → mu_W run mu_m52 (0, [(0, .inr (.inr (some 169)))], [], mu_si H 169 6 (nI a)) (fun r => ∃ H1, r = (.inl none, H1) ∧ Q H1)
  | 0, a, hf, ha, hk => absurd hf (Nat.not_lt_zero _)
  | f + 1, a, hf, ha, hk => by
    refine mw_go mu_g52 (k := 4) (f1 := (8, [(0, .inr (.inr (some 169)))], [.inl (mu_i H 169 2), .inl (nI a)], (mu_si H 169 6 (nI a)))) (C := [mu_is H (some 169) 1, mu_is H (some 169) 1]) rfl (show (mu_is H (some 169) 1) ∧ (mu_is H (some 169) 1) from ⟨h.is, h.is⟩) ?_
    refine mw_fr (f' := (8, [(0, .inr (.inr (some 169)))], [.inl (nI n), .inl (nI a)], (mu_si H 169 6 (nI a)))) (by first | (rw [ht.1]; done) | (rw [ht.1]; rfl)) ?_
    refine mw_if (P := (nI a) < (nI n)) (a := 11) (b := 135) (fun _ => rfl) trivial (fun h9 => ?_) (fun h9 => ?_)
    · -- 11
      have han : a < n := nI_below (by have := ht.2.1; omega) (by have := ht.2.1; omega) h9
      have hta : mu_i H 170 (nI a).toNatClampNeg = T a := by rw [nI_clamp (show a < 2 ^ 31 by have := ht.2.1; omega)]; exact ht.2.2 a han
      rw [skz, if_pos han] at hk
      refine mw_go mu_g52 (k := 8) (f1 := (24, [(1, .inl (mu_i (mu_si H 169 6 (nI a)) (mu_p (mu_r H 169 1)) (nI a).toNatClampNeg)), (0, .inr (.inr (some 169)))], [.inl (9 : Int32), .inl (mu_i (mu_si H 169 6 (nI a)) (mu_p (mu_r H 169 1)) (nI a).toNatClampNeg)], (mu_si H 169 6 (nI a)))) (C := [mu_is H (some 169) 1, mu_is H (some 169) 1, mu_isr H (mu_r H 169 1) 101, vp_in (nI a) (mu_n H (mu_p (mu_r H 169 1)))]) rfl (show (mu_is H (some 169) 1) ∧ (mu_is H (some 169) 1) ∧ (mu_isr H (mu_r H 169 1) 101) ∧ (vp_in (nI a) (mu_n H (mu_p (mu_r H 169 1)))) from ⟨h.is, h.is, h.tp, (by rw [h.2.2.1.1]; exact vp_in_nI (show a < mu_n H 170 by rw [h.2.2.1.2.2]; have := ht.2.1; omega) (show mu_n H 170 < _ by rw [h.2.2.1.2.2]; decide))⟩) ?_
      refine mw_fr (f' := (24, [(1, .inl (mu_i H 170 (nI a).toNatClampNeg)), (0, .inr (.inr (some 169)))], [.inl (9 : Int32), .inl (mu_i H 170 (nI a).toNatClampNeg)], (mu_si H 169 6 (nI a)))) (by first | (rw [h.2.2.1.1]; done) | (rw [h.2.2.1.1]; rfl)) ?_
      refine mw_fr (f' := (24, [(1, .inl (T a)), (0, .inr (.inr (some 169)))], [.inl (9 : Int32), .inl (T a)], (mu_si H 169 6 (nI a)))) (by first | (rw [hta]; done) | (rw [hta]; rfl)) ?_
      refine mw_if (P := (T a) = (9 : Int32)) (a := 45) (b := 27) (fun _ => rfl) trivial (fun e1 => ?_) (fun e1 => ?_)
      · -- 45
        rw [if_pos e1] at hk
        refine mw_go mu_g52 (k := 8) (f1 := (0, [(1, .inl (T a)), (0, .inr (.inr (some 169)))], [], (mu_si (mu_si H 169 6 (nI a)) 169 6 ((nI a) + (1 : Int32))))) (C := [mu_is H (some 169) 1, mu_is H (some 169) 1]) rfl (show (mu_is H (some 169) 1) ∧ (mu_is H (some 169) 1) from ⟨h.is, h.is⟩) ?_
        refine mw_fr (f' := (0, [(1, .inl (T a)), (0, .inr (.inr (some 169)))], [], (mu_si H 169 6 (nI (a + 1))))) (by rw [mu_si_si, ← nI_succ]) ?_
        refine mw_sub (L' := [(0, .inr (.inr (some 169)))]) (by simp) ?_
        exact rf_skip0 h ht f (a + 1) (by omega) (by omega) hk
      · -- 27
        refine mw_go mu_g52 (k := 2) (f1 := (30, [(1, .inl (T a)), (0, .inr (.inr (some 169)))], [.inl (10 : Int32), .inl (T a)], (mu_si H 169 6 (nI a)))) (C := []) rfl trivial ?_
        refine mw_if (P := (T a) = (10 : Int32)) (a := 45) (b := 33) (fun _ => rfl) trivial (fun e2 => ?_) (fun e2 => ?_)
        · -- 45
          rw [if_neg e1, if_pos e2] at hk
          refine mw_go mu_g52 (k := 8) (f1 := (0, [(1, .inl (T a)), (0, .inr (.inr (some 169)))], [], (mu_si (mu_si H 169 6 (nI a)) 169 6 ((nI a) + (1 : Int32))))) (C := [mu_is H (some 169) 1, mu_is H (some 169) 1]) rfl (show (mu_is H (some 169) 1) ∧ (mu_is H (some 169) 1) from ⟨h.is, h.is⟩) ?_
          refine mw_fr (f' := (0, [(1, .inl (T a)), (0, .inr (.inr (some 169)))], [], (mu_si H 169 6 (nI (a + 1))))) (by rw [mu_si_si, ← nI_succ]) ?_
          refine mw_sub (L' := [(0, .inr (.inr (some 169)))]) (by simp) ?_
          exact rf_skip0 h ht f (a + 1) (by omega) (by omega) hk
        · -- 33
          refine mw_go mu_g52 (k := 2) (f1 := (36, [(1, .inl (T a)), (0, .inr (.inr (some 169)))], [.inl (13 : Int32), .inl (T a)], (mu_si H 169 6 (nI a)))) (C := []) rfl trivial ?_
          refine mw_if (P := (T a) = (13 : Int32)) (a := 45) (b := 39) (fun _ => rfl) trivial (fun e3 => ?_) (fun e3 => ?_)
          · -- 45
            rw [if_neg e1, if_neg e2, if_pos e3] at hk
            refine mw_go mu_g52 (k := 8) (f1 := (0, [(1, .inl (T a)), (0, .inr (.inr (some 169)))], [], (mu_si (mu_si H 169 6 (nI a)) 169 6 ((nI a) + (1 : Int32))))) (C := [mu_is H (some 169) 1, mu_is H (some 169) 1]) rfl (show (mu_is H (some 169) 1) ∧ (mu_is H (some 169) 1) from ⟨h.is, h.is⟩) ?_
            refine mw_fr (f' := (0, [(1, .inl (T a)), (0, .inr (.inr (some 169)))], [], (mu_si H 169 6 (nI (a + 1))))) (by rw [mu_si_si, ← nI_succ]) ?_
            refine mw_sub (L' := [(0, .inr (.inr (some 169)))]) (by simp) ?_
            exact rf_skip0 h ht f (a + 1) (by omega) (by omega) hk
          · -- 39
            refine mw_go mu_g52 (k := 2) (f1 := (42, [(1, .inl (T a)), (0, .inr (.inr (some 169)))], [.inl (32 : Int32), .inl (T a)], (mu_si H 169 6 (nI a)))) (C := []) rfl trivial ?_
            refine mw_if (P := (T a) = (32 : Int32)) (a := 45) (b := 58) (fun _ => rfl) trivial (fun e4 => ?_) (fun e4 => ?_)
            · -- 45
              rw [if_neg e1, if_neg e2, if_neg e3, if_pos e4] at hk
              refine mw_go mu_g52 (k := 8) (f1 := (0, [(1, .inl (T a)), (0, .inr (.inr (some 169)))], [], (mu_si (mu_si H 169 6 (nI a)) 169 6 ((nI a) + (1 : Int32))))) (C := [mu_is H (some 169) 1, mu_is H (some 169) 1]) rfl (show (mu_is H (some 169) 1) ∧ (mu_is H (some 169) 1) from ⟨h.is, h.is⟩) ?_
              refine mw_fr (f' := (0, [(1, .inl (T a)), (0, .inr (.inr (some 169)))], [], (mu_si H 169 6 (nI (a + 1))))) (by rw [mu_si_si, ← nI_succ]) ?_
              refine mw_sub (L' := [(0, .inr (.inr (some 169)))]) (by simp) ?_
              exact rf_skip0 h ht f (a + 1) (by omega) (by omega) hk
            · -- 58
              refine mw_go mu_g52 (k := 2) (f1 := (61, [(1, .inl (T a)), (0, .inr (.inr (some 169)))], [.inl (45 : Int32), .inl (T a)], (mu_si H 169 6 (nI a)))) (C := []) rfl trivial ?_
              refine mw_if (P := (T a) = (45 : Int32)) (a := 64) (b := 131) (fun _ => rfl) trivial (fun e5 => ?_) (fun e5 => ?_)
              · -- 64
                rw [if_neg e1, if_neg e2, if_neg e3, if_neg e4, if_pos e5] at hk
                refine mw_go mu_g52 (k := 6) (f1 := (74, [(1, .inl (T a)), (0, .inr (.inr (some 169)))], [.inl (mu_i H 169 2), .inl ((nI a) + (1 : Int32))], (mu_si H 169 6 (nI a)))) (C := [mu_is H (some 169) 1, mu_is H (some 169) 1]) rfl (show (mu_is H (some 169) 1) ∧ (mu_is H (some 169) 1) from ⟨h.is, h.is⟩) ?_
                refine mw_fr (f' := (74, [(1, .inl (T a)), (0, .inr (.inr (some 169)))], [.inl (nI n), .inl ((nI a) + (1 : Int32))], (mu_si H 169 6 (nI a)))) (by first | (rw [ht.1]; done) | (rw [ht.1]; rfl)) ?_
                refine mw_fr (f' := (74, [(1, .inl (T a)), (0, .inr (.inr (some 169)))], [.inl (nI n), .inl (nI (a + 1))], (mu_si H 169 6 (nI a)))) (by rw [← nI_succ]) ?_
                refine mw_if (P := (nI (a + 1)) < (nI n)) (a := 77) (b := 131) (fun _ => rfl) trivial (fun e6 => ?_) (fun e6 => ?_)
                · -- 77
                  have han1 : a + 1 < n := nI_below (by have := ht.2.1; omega) (by have := ht.2.1; omega) e6
                  have hta1 : mu_i H 170 (nI (a + 1)).toNatClampNeg = T (a + 1) := by rw [nI_clamp (show a + 1 < 2 ^ 31 by have := ht.2.1; omega)]; exact ht.2.2 (a + 1) han1
                  refine mw_go mu_g52 (k := 8) (f1 := (90, [(1, .inl (T a)), (0, .inr (.inr (some 169)))], [.inl (45 : Int32), .inl (mu_i (mu_si H 169 6 (nI a)) (mu_p (mu_r H 169 1)) ((nI a) + (1 : Int32)).toNatClampNeg)], (mu_si H 169 6 (nI a)))) (C := [mu_is H (some 169) 1, mu_is H (some 169) 1, mu_isr H (mu_r H 169 1) 101, vp_in ((nI a) + (1 : Int32)) (mu_n H (mu_p (mu_r H 169 1)))]) rfl (show (mu_is H (some 169) 1) ∧ (mu_is H (some 169) 1) ∧ (mu_isr H (mu_r H 169 1) 101) ∧ (vp_in ((nI a) + (1 : Int32)) (mu_n H (mu_p (mu_r H 169 1)))) from ⟨h.is, h.is, h.tp, (by rw [← nI_succ, h.2.2.1.1]; exact vp_in_nI (show a + 1 < mu_n H 170 by rw [h.2.2.1.2.2]; have := ht.2.1; omega) (show mu_n H 170 < _ by rw [h.2.2.1.2.2]; decide))⟩) ?_
                  refine mw_fr (f' := (90, [(1, .inl (T a)), (0, .inr (.inr (some 169)))], [.inl (45 : Int32), .inl (mu_i H 170 (nI (a + 1)).toNatClampNeg)], (mu_si H 169 6 (nI a)))) (by first | (rw [← nI_succ, h.2.2.1.1]; done) | (rw [← nI_succ, h.2.2.1.1]; rfl)) ?_
                  refine mw_fr (f' := (90, [(1, .inl (T a)), (0, .inr (.inr (some 169)))], [.inl (45 : Int32), .inl (T (a + 1))], (mu_si H 169 6 (nI a)))) (by first | (rw [hta1]; done) | (rw [hta1]; rfl)) ?_
                  refine mw_if (P := (T (a + 1)) = (45 : Int32)) (a := 93) (b := 131) (fun _ => rfl) trivial (fun e7 => ?_) (fun e7 => ?_)
                  · -- 93
                    rw [if_pos han1, if_pos e7] at hk
                    have hte : ¬ T a = 10 := fun z => by rw [z] at e5; exact absurd e5 (by decide)
                    have g1 := eoz_gt (T := T) han hte
                    have g2 := eoz_le (T := T) (n := n) n a ha
                    refine mw_sub (L' := [(0, .inr (.inr (some 169)))]) (by simp) ?_
                    refine rf_eol h ht (n + 1) a (by omega) ha ?_
                    rw [eoz_more]
                    refine mw_go mu_g52 (k := 1) (f1 := (0, [(0, .inr (.inr (some 169)))], [], (mu_si H 169 6 (nI (eoz T n n a))))) (C := []) rfl trivial ?_
                    exact rf_skip0 h ht f (eoz T n n a) (by omega) g2.2 hk
                  · -- 131
                    rw [if_pos han1, if_neg e7] at hk
                    exact mw_of (fun _ => mu_ret rfl trivial ⟨_, rfl, hk⟩)
                · -- 131
                  have han1 : ¬ a + 1 < n := fun z => e6 (nI_lt z (by have := ht.2.1; omega))
                  rw [if_neg han1] at hk
                  exact mw_of (fun _ => mu_ret rfl trivial ⟨_, rfl, hk⟩)
              · -- 131
                rw [if_neg e1, if_neg e2, if_neg e3, if_neg e4, if_neg e5] at hk
                exact mw_of (fun _ => mu_ret rfl trivial ⟨_, rfl, hk⟩)
    · -- 135
      have han : ¬ a < n := fun z => h9 (nI_lt z (by have := ht.2.1; omega))
      rw [skz, if_neg han] at hk
      exact mw_of (fun _ => mu_ret rfl trivial ⟨_, rfl, hk⟩)
/-- skip -/
theorem rf_skip {d n a : Nat} {T : Nat → Int32} {H : mu_H} (h : rgd H) (ht : rtp H T n) (ha : mu_i H 169 6 = nI a) (han : a ≤ n) : mu_TV (mu_D (d + 1)) 52 [.inr (.inr (some 169))] H (fun H1 => H1 = mu_si H 169 6 (nI (skz T n (n + 1) a))) := by
  refine mu_meth (M := mu_m52) rfl rfl ?_
  refine mw_ht (mu_fn_of (show [0].Nodup by decide)) ?_
  have := rf_skip0 (run := mu_D d) (Q := fun H1 => H1 = mu_si H 169 6 (nI (skz T n (n + 1) a))) h ht (n + 1) a (by omega) han rfl
  rw [mu_si_self ha] at this
  exact this
