/-! Lexer: letters, digits, blanks, numbers -/
/-- PathProver$Lexer.isLetter(I)Z -/
abbrev mu_m119 : ev_M := (1, (some .boolean), [], ev_b119)
theorem mu_g119 : mu_good mu_m119 := mu_goodk ev_k119
/-- PathProver$Lexer.isDigit(I)Z -/
abbrev mu_m121 : ev_M := (1, (some .boolean), [], ev_b121)
theorem mu_g121 : mu_good mu_m121 := mu_goodk ev_k121
def lx_letter (c : Int32) : Int32 := if (¬ c < 97 ∧ ¬ 122 < c) ∨ (¬ c < 65 ∧ ¬ 90 < c) ∨ c = 95 then 1 else 0
def lx_digit (c : Int32) : Int32 := if ¬ c < 48 ∧ ¬ 57 < c then 1 else 0
theorem lx_letter_ok {d : Nat} {H : mu_H} (c : Int32) : mu_TI (mu_D (d + 1)) 119 [.inl c] H (fun x H1 => x = lx_letter c ∧ H1 = H) := by
  refine mu_meth (M := mu_m119) rfl rfl ?_
  refine mu_go mu_g119 (k := 2) (f1 := (3, [(0, .inl c)], [.inl (97 : Int32), .inl c], H)) (C := []) rfl trivial ?_
  refine mu_if (P := c < (97 : Int32)) (a := 12) (b := 6) rfl trivial (fun h1 => ?_) (fun h1 => ?_)
  · -- 12: c < (97 : Int32)
    refine mu_go mu_g119 (k := 2) (f1 := (15, [(0, .inl c)], [.inl (65 : Int32), .inl c], H)) (C := []) rfl trivial ?_
    refine mu_if (P := c < (65 : Int32)) (a := 24) (b := 18) rfl trivial (fun h2 => ?_) (fun h2 => ?_)
    · -- 24: c < (65 : Int32)
      refine mu_go mu_g119 (k := 2) (f1 := (27, [(0, .inl c)], [.inl (95 : Int32), .inl c], H)) (C := []) rfl trivial ?_
      refine mu_if (P := c = (95 : Int32)) (a := 30) (b := 34) rfl trivial (fun h3 => ?_) (fun h3 => ?_)
      · -- 30: c = (95 : Int32)
        refine mu_go mu_g119 (k := 2) (f1 := (35, [(0, .inl c)], [.inl (1 : Int32)], H)) (C := []) rfl trivial ?_
        exact mu_ret rfl (Or.inr rfl) ⟨_, _, rfl, by simp [lx_letter, *], rfl⟩
      · -- 34: not c = (95 : Int32)
        refine mu_go mu_g119 (k := 1) (f1 := (35, [(0, .inl c)], [.inl (0 : Int32)], H)) (C := []) rfl trivial ?_
        exact mu_ret rfl (Or.inl rfl) ⟨_, _, rfl, by simp [lx_letter, *], rfl⟩
    · -- 18: not c < (65 : Int32)
      refine mu_go mu_g119 (k := 2) (f1 := (21, [(0, .inl c)], [.inl (90 : Int32), .inl c], H)) (C := []) rfl trivial ?_
      refine mu_if (P := (90 : Int32) < c) (a := 24) (b := 30) rfl trivial (fun h4 => ?_) (fun h4 => ?_)
      · -- 24: (90 : Int32) < c
        refine mu_go mu_g119 (k := 2) (f1 := (27, [(0, .inl c)], [.inl (95 : Int32), .inl c], H)) (C := []) rfl trivial ?_
        refine mu_if (P := c = (95 : Int32)) (a := 30) (b := 34) rfl trivial (fun h5 => ?_) (fun h5 => ?_)
        · -- 30: c = (95 : Int32)
          refine mu_go mu_g119 (k := 2) (f1 := (35, [(0, .inl c)], [.inl (1 : Int32)], H)) (C := []) rfl trivial ?_
          exact mu_ret rfl (Or.inr rfl) ⟨_, _, rfl, by simp [lx_letter, *], rfl⟩
        · -- 34: not c = (95 : Int32)
          refine mu_go mu_g119 (k := 1) (f1 := (35, [(0, .inl c)], [.inl (0 : Int32)], H)) (C := []) rfl trivial ?_
          exact mu_ret rfl (Or.inl rfl) ⟨_, _, rfl, by simp [lx_letter, *], rfl⟩
      · -- 30: not (90 : Int32) < c
        refine mu_go mu_g119 (k := 2) (f1 := (35, [(0, .inl c)], [.inl (1 : Int32)], H)) (C := []) rfl trivial ?_
        exact mu_ret rfl (Or.inr rfl) ⟨_, _, rfl, by simp [lx_letter, *], rfl⟩
  · -- 6: not c < (97 : Int32)
    refine mu_go mu_g119 (k := 2) (f1 := (9, [(0, .inl c)], [.inl (122 : Int32), .inl c], H)) (C := []) rfl trivial ?_
    refine mu_if (P := (122 : Int32) < c) (a := 12) (b := 30) rfl trivial (fun h6 => ?_) (fun h6 => ?_)
    · -- 12: (122 : Int32) < c
      refine mu_go mu_g119 (k := 2) (f1 := (15, [(0, .inl c)], [.inl (65 : Int32), .inl c], H)) (C := []) rfl trivial ?_
      refine mu_if (P := c < (65 : Int32)) (a := 24) (b := 18) rfl trivial (fun h7 => ?_) (fun h7 => ?_)
      · -- 24: c < (65 : Int32)
        refine mu_go mu_g119 (k := 2) (f1 := (27, [(0, .inl c)], [.inl (95 : Int32), .inl c], H)) (C := []) rfl trivial ?_
        refine mu_if (P := c = (95 : Int32)) (a := 30) (b := 34) rfl trivial (fun h8 => ?_) (fun h8 => ?_)
        · -- 30: c = (95 : Int32)
          refine mu_go mu_g119 (k := 2) (f1 := (35, [(0, .inl c)], [.inl (1 : Int32)], H)) (C := []) rfl trivial ?_
          exact mu_ret rfl (Or.inr rfl) ⟨_, _, rfl, by simp [lx_letter, *], rfl⟩
        · -- 34: not c = (95 : Int32)
          refine mu_go mu_g119 (k := 1) (f1 := (35, [(0, .inl c)], [.inl (0 : Int32)], H)) (C := []) rfl trivial ?_
          exact mu_ret rfl (Or.inl rfl) ⟨_, _, rfl, by simp [lx_letter, *], rfl⟩
      · -- 18: not c < (65 : Int32)
        refine mu_go mu_g119 (k := 2) (f1 := (21, [(0, .inl c)], [.inl (90 : Int32), .inl c], H)) (C := []) rfl trivial ?_
        refine mu_if (P := (90 : Int32) < c) (a := 24) (b := 30) rfl trivial (fun h9 => ?_) (fun h9 => ?_)
        · -- 24: (90 : Int32) < c
          refine mu_go mu_g119 (k := 2) (f1 := (27, [(0, .inl c)], [.inl (95 : Int32), .inl c], H)) (C := []) rfl trivial ?_
          refine mu_if (P := c = (95 : Int32)) (a := 30) (b := 34) rfl trivial (fun h10 => ?_) (fun h10 => ?_)
          · -- 30: c = (95 : Int32)
            refine mu_go mu_g119 (k := 2) (f1 := (35, [(0, .inl c)], [.inl (1 : Int32)], H)) (C := []) rfl trivial ?_
            exact mu_ret rfl (Or.inr rfl) ⟨_, _, rfl, by simp [lx_letter, *], rfl⟩
          · -- 34: not c = (95 : Int32)
            refine mu_go mu_g119 (k := 1) (f1 := (35, [(0, .inl c)], [.inl (0 : Int32)], H)) (C := []) rfl trivial ?_
            exact mu_ret rfl (Or.inl rfl) ⟨_, _, rfl, by simp [lx_letter, *], rfl⟩
        · -- 30: not (90 : Int32) < c
          refine mu_go mu_g119 (k := 2) (f1 := (35, [(0, .inl c)], [.inl (1 : Int32)], H)) (C := []) rfl trivial ?_
          exact mu_ret rfl (Or.inr rfl) ⟨_, _, rfl, by simp [lx_letter, *], rfl⟩
    · -- 30: not (122 : Int32) < c
      refine mu_go mu_g119 (k := 2) (f1 := (35, [(0, .inl c)], [.inl (1 : Int32)], H)) (C := []) rfl trivial ?_
      exact mu_ret rfl (Or.inr rfl) ⟨_, _, rfl, by simp [lx_letter, *], rfl⟩
theorem lx_digit_ok {d : Nat} {H : mu_H} (c : Int32) : mu_TI (mu_D (d + 1)) 121 [.inl c] H (fun x H1 => x = lx_digit c ∧ H1 = H) := by
  refine mu_meth (M := mu_m121) rfl rfl ?_
  refine mu_go mu_g121 (k := 2) (f1 := (3, [(0, .inl c)], [.inl (48 : Int32), .inl c], H)) (C := []) rfl trivial ?_
  refine mu_if (P := c < (48 : Int32)) (a := 16) (b := 6) rfl trivial (fun h1 => ?_) (fun h1 => ?_)
  · -- 16: c < (48 : Int32)
    refine mu_go mu_g121 (k := 1) (f1 := (17, [(0, .inl c)], [.inl (0 : Int32)], H)) (C := []) rfl trivial ?_
    exact mu_ret rfl (Or.inl rfl) ⟨_, _, rfl, by simp [lx_digit, *], rfl⟩
  · -- 6: not c < (48 : Int32)
    refine mu_go mu_g121 (k := 2) (f1 := (9, [(0, .inl c)], [.inl (57 : Int32), .inl c], H)) (C := []) rfl trivial ?_
    refine mu_if (P := (57 : Int32) < c) (a := 16) (b := 12) rfl trivial (fun h2 => ?_) (fun h2 => ?_)
    · -- 16: (57 : Int32) < c
      refine mu_go mu_g121 (k := 1) (f1 := (17, [(0, .inl c)], [.inl (0 : Int32)], H)) (C := []) rfl trivial ?_
      exact mu_ret rfl (Or.inl rfl) ⟨_, _, rfl, by simp [lx_digit, *], rfl⟩
    · -- 12: not (57 : Int32) < c
      refine mu_go mu_g121 (k := 2) (f1 := (17, [(0, .inl c)], [.inl (1 : Int32)], H)) (C := []) rfl trivial ?_
      exact mu_ret rfl (Or.inr rfl) ⟨_, _, rfl, by simp [lx_digit, *], rfl⟩
/-- nothing but the ints of the cell q has changed -/
def mu_onl (H H1 : mu_H) (q : Nat) : Prop := H1.1 = H.1 ∧ H1.2.1 = H.2.1 ∧ (∀ p j, p ≠ q → mu_i H1 p j = mu_i H p j) ∧ H1.2.2.2 = H.2.2.2
theorem mu_onl.refl (H : mu_H) (q : Nat) : mu_onl H H q := ⟨rfl, rfl, fun _ _ _ => rfl, rfl⟩
theorem mu_onl.si {H H1 : mu_H} {q : Nat} (h : mu_onl H H1 q) (j : Nat) (x : Int32) : mu_onl H (mu_si H1 q j x) q := ⟨h.1, h.2.1, fun p i hp => by rw [mu_i_si, if_neg (fun z => hp z.1)]; exact h.2.2.1 p i hp, h.2.2.2⟩
/-- the Lexer at q stands at a of the n bytes of its tape -/
def lx_at (H : mu_H) (q n a : Nat) : Prop := mu_is H (some q) 4 ∧ mu_isr H (mu_r H q 0) 101 ∧ mu_i H q 1 = nI n ∧ mu_i H q 2 = nI a ∧ a ≤ n ∧ n ≤ mu_n H (mu_p (mu_r H q 0)) ∧ mu_n H (mu_p (mu_r H q 0)) < 2 ^ 31 ∧ n < 2 ^ 30
theorem lx_at.next {H : mu_H} {q n a b : Nat} (h : lx_at H q n a) (hb : b ≤ n) : lx_at (mu_si H q 2 (nI b)) q n b := by
  obtain ⟨h1, h2, h3, h4, h5, h6⟩ := h
  refine ⟨h1, h2, ?_, ?_, hb, h6⟩
  · rw [mu_i_si, if_neg (fun z => by have := z.2; omega)]; exact h3
  · rw [mu_i_si, if_pos ⟨rfl, rfl⟩]
theorem lx_at.si {H : mu_H} {q n a j : Nat} {x : Int32} (h : lx_at H q n a) (h1 : j ≠ 1) (h2 : j ≠ 2) : lx_at (mu_si H q j x) q n a := by
  obtain ⟨g1, g2, g3, g4, g5⟩ := h
  refine ⟨g1, g2, ?_, ?_, g5⟩
  · rw [mu_i_si, if_neg (fun z => h1 z.2.symm)]; exact g3
  · rw [mu_i_si, if_neg (fun z => h2 z.2.symm)]; exact g4
/-- what a step of the Lexer may leave: only its own ints changed, of them those of J, and it stands no less far -/
def lx_to (J : List Nat) (H H1 : mu_H) (q n a : Nat) : Prop := mu_onl H H1 q ∧ (∀ j, j ∉ J → mu_i H1 q j = mu_i H q j) ∧ ∃ b, a ≤ b ∧ lx_at H1 q n b
theorem lx_to.si {J : List Nat} {H H1 : mu_H} {q n a j : Nat} {x : Int32} (h : lx_to J H H1 q n a) (hj : j ∈ J) (h1 : j ≠ 1) (h2 : j ≠ 2) : lx_to J H (mu_si H1 q j x) q n a := by
  obtain ⟨g1, g2, b, g3, g4⟩ := h
  refine ⟨g1.si j x, fun i hi => ?_, b, g3, g4.si h1 h2⟩
  rw [mu_i_si, if_neg (show ¬ (q = q ∧ i = j) from fun z => hi (by rw [z.2]; exact hj))]
  exact g2 i hi
/-- PathProver$Lexer.skipBlanks()V -/
abbrev mu_m43 : ev_M := (3, none, [], ev_b43)
theorem mu_g43 : mu_good mu_m43 := mu_goodk ev_k43
theorem lx_skip_ok {d q n a : Nat} {H : mu_H} (h : lx_at H q n a) : mu_TV (mu_D (d + 1)) 43 [.inr (.inr (some q))] H (fun H1 => lx_to [2] H H1 q n a) := by
  refine mu_meth (M := mu_m43) rfl rfl ?_
  refine mu_go mu_g43 (k := 2) (f1 := (2, [(1, .inl (0 : Int32)), (0, .inr (.inr (some q)))], [], H)) (C := []) rfl trivial ?_
  refine mw_ht (mu_fn_of (show [1, 0].Nodup by decide)) ?_
  refine mw_down (α := Int32 × mu_H × Nat) (fun s => (2, [(1, .inl s.1), (0, .inr (.inr (some q)))], [], s.2.1)) (fun s => n - s.2.2) (fun s => s.2.2 ≤ n ∧ lx_at s.2.1 q n s.2.2 ∧ lx_to [2] H s.2.1 q n a ∧ a ≤ s.2.2) (fun s hs ih => ?_) (0, H, a) ⟨h.2.2.2.2.1, h, ⟨mu_onl.refl H q, fun _ _ => rfl, a, Nat.le_refl _, h⟩, Nat.le_refl _⟩
  obtain ⟨x, Hs, a2⟩ := s
  obtain ⟨hle, hx, hto, haa⟩ := hs
  have hle : a2 ≤ n := hle
  have hx : lx_at Hs q n a2 := hx
  have hto : lx_to [2] H Hs q n a := hto
  have haa : a ≤ a2 := haa
  have ea : mu_i Hs q 2 = nI a2 := hx.2.2.2.1
  have en : mu_i Hs q 1 = nI n := hx.2.2.1
  have hn30 : n < 2 ^ 30 := hx.2.2.2.2.2.2.2
  have hnn := hx.2.2.2.2.2.1
  have hI : lx_to [2] H Hs q n a ∧ (a2 < n → lx_at (mu_si Hs q 2 (nI (a2 + 1))) q n (a2 + 1) ∧ lx_to [2] H (mu_si Hs q 2 (nI (a2 + 1))) q n a ∧ a ≤ a2 + 1) := by
    refine ⟨hto, fun hl => ⟨hx.next hl, ⟨hto.1.si _ _, fun j hj => ?_, a2 + 1, by omega, hx.next hl⟩, by omega⟩⟩
    rw [mu_i_si, if_neg (fun z => hj (by rw [z.2]; exact List.mem_cons_self))]
    exact hto.2.1 j hj
  show mu_W (mu_D d) mu_m43 (2, [(1, .inl x), (0, .inr (.inr (some q)))], [], Hs) _
  refine mw_go mu_g43 (k := 4) (f1 := (10, [(1, .inl x), (0, .inr (.inr (some q)))], [.inl (mu_i Hs q 1), .inl (mu_i Hs q 2)], Hs)) (C := [mu_is Hs (some q) 4, mu_is Hs (some q) 4]) rfl (show (mu_is Hs (some q) 4) ∧ (mu_is Hs (some q) 4) from ⟨hx.1, hx.1⟩) ?_
  refine mw_if (P := (mu_i Hs q 2) < (mu_i Hs q 1)) (a := 13) (b := 120) (fun _ => rfl) trivial (fun h1 => ?_) (fun h1 => ?_)
  · -- 13: (mu_i Hs q 2) < (mu_i Hs q 1)
    have hn : a2 < n := by rw [ea, en, nI_ltI (by omega) (by omega)] at h1; exact h1
    refine mw_go mu_g43 (k := 7) (f1 := (24, [(2, .inl (mu_i Hs (mu_p (mu_r Hs q 0)) (mu_i Hs q 2).toNatClampNeg)), (1, .inl x), (0, .inr (.inr (some q)))], [.inl x], Hs)) (C := [mu_is Hs (some q) 4, mu_is Hs (some q) 4, mu_isr Hs (mu_r Hs q 0) 101, vp_in (mu_i Hs q 2) (mu_n Hs (mu_p (mu_r Hs q 0)))]) rfl (show (mu_is Hs (some q) 4) ∧ (mu_is Hs (some q) 4) ∧ (mu_isr Hs (mu_r Hs q 0) 101) ∧ (vp_in (mu_i Hs q 2) (mu_n Hs (mu_p (mu_r Hs q 0)))) from ⟨hx.1, hx.1, hx.2.1, by rw [ea]; exact vp_in_nI (by omega) hx.2.2.2.2.2.2.1⟩) ?_
    refine mw_if (P := x = 0) (a := 42) (b := 27) (fun _ => rfl) trivial (fun h2 => ?_) (fun h2 => ?_)
    · -- 42: x = 0
      refine mw_go mu_g43 (k := 2) (f1 := (45, [(2, .inl (mu_i Hs (mu_p (mu_r Hs q 0)) (mu_i Hs q 2).toNatClampNeg)), (1, .inl x), (0, .inr (.inr (some q)))], [.inl (45 : Int32), .inl (mu_i Hs (mu_p (mu_r Hs q 0)) (mu_i Hs q 2).toNatClampNeg)], Hs)) (C := []) rfl trivial ?_
      refine mw_if (P := (mu_i Hs (mu_p (mu_r Hs q 0)) (mu_i Hs q 2).toNatClampNeg) = (45 : Int32)) (a := 48) (b := 82) (fun _ => rfl) trivial (fun h3 => ?_) (fun h3 => ?_)
      · -- 48: (mu_i Hs (mu_p (mu_r Hs q 0)) (mu_i Hs q 2).toNatClampNeg) = (45 : Int32)
        refine mw_go mu_g43 (k := 6) (f1 := (58, [(2, .inl (mu_i Hs (mu_p (mu_r Hs q 0)) (mu_i Hs q 2).toNatClampNeg)), (1, .inl x), (0, .inr (.inr (some q)))], [.inl (mu_i Hs q 1), .inl ((mu_i Hs q 2) + (1 : Int32))], Hs)) (C := [mu_is Hs (some q) 4, mu_is Hs (some q) 4]) rfl (show (mu_is Hs (some q) 4) ∧ (mu_is Hs (some q) 4) from ⟨hx.1, hx.1⟩) ?_
        refine mw_if (P := ((mu_i Hs q 2) + (1 : Int32)) < (mu_i Hs q 1)) (a := 61) (b := 82) (fun _ => rfl) trivial (fun h4 => ?_) (fun h4 => ?_)
        · -- 61: ((mu_i Hs q 2) + (1 : Int32)) < (mu_i Hs q 1)
          refine mw_go mu_g43 (k := 8) (f1 := (74, [(2, .inl (mu_i Hs (mu_p (mu_r Hs q 0)) (mu_i Hs q 2).toNatClampNeg)), (1, .inl x), (0, .inr (.inr (some q)))], [.inl (45 : Int32), .inl (mu_i Hs (mu_p (mu_r Hs q 0)) ((mu_i Hs q 2) + (1 : Int32)).toNatClampNeg)], Hs)) (C := [mu_is Hs (some q) 4, mu_is Hs (some q) 4, mu_isr Hs (mu_r Hs q 0) 101, vp_in ((mu_i Hs q 2) + (1 : Int32)) (mu_n Hs (mu_p (mu_r Hs q 0)))]) rfl (show (mu_is Hs (some q) 4) ∧ (mu_is Hs (some q) 4) ∧ (mu_isr Hs (mu_r Hs q 0) 101) ∧ (vp_in ((mu_i Hs q 2) + (1 : Int32)) (mu_n Hs (mu_p (mu_r Hs q 0)))) from ⟨hx.1, hx.1, hx.2.1, by have z := ‹((mu_i Hs q 2) + (1 : Int32)) < (mu_i Hs q 1)›; rw [ea, ← nI_succ] at z ⊢; rw [en, nI_ltI (by omega) (by omega)] at z; exact vp_in_nI (by omega) hx.2.2.2.2.2.2.1⟩) ?_
          refine mw_if (P := (mu_i Hs (mu_p (mu_r Hs q 0)) ((mu_i Hs q 2) + (1 : Int32)).toNatClampNeg) = (45 : Int32)) (a := 77) (b := 82) (fun _ => rfl) trivial (fun h5 => ?_) (fun h5 => ?_)
          · -- 77: (mu_i Hs (mu_p (mu_r Hs q 0)) ((mu_i Hs q 2) + (1 : Int32)).toNatClampNeg) = (45 : Int32)
            refine mw_go mu_g43 (k := 10) (f1 := (2, [(1, .inl (1 : Int32)), (2, .inl (mu_i Hs (mu_p (mu_r Hs q 0)) (mu_i Hs q 2).toNatClampNeg)), (0, .inr (.inr (some q)))], [], (mu_si Hs q 2 ((mu_i Hs q 2) + (1 : Int32))))) (C := [mu_is Hs (some q) 4, mu_is Hs (some q) 4]) rfl (show (mu_is Hs (some q) 4) ∧ (mu_is Hs (some q) 4) from ⟨hx.1, hx.1⟩) ?_
            rw [ea, ← nI_succ]; exact mw_sub (by simp) (ih ((1 : Int32), mu_si Hs q 2 (nI (a2 + 1)), a2 + 1) ⟨hn, hI.2 hn⟩ (by show n - (a2 + 1) < n - a2; omega))
          · -- 82: not (mu_i Hs (mu_p (mu_r Hs q 0)) ((mu_i Hs q 2) + (1 : Int32)).toNatClampNeg) = (45 : Int32)
            refine mw_go mu_g43 (k := 2) (f1 := (85, [(2, .inl (mu_i Hs (mu_p (mu_r Hs q 0)) (mu_i Hs q 2).toNatClampNeg)), (1, .inl x), (0, .inr (.inr (some q)))], [.inl (9 : Int32), .inl (mu_i Hs (mu_p (mu_r Hs q 0)) (mu_i Hs q 2).toNatClampNeg)], Hs)) (C := []) rfl trivial ?_
            refine mw_if (P := (mu_i Hs (mu_p (mu_r Hs q 0)) (mu_i Hs q 2).toNatClampNeg) = (9 : Int32)) (a := 107) (b := 88) (fun _ => rfl) trivial (fun h6 => ?_) (fun h6 => ?_)
            · -- 107: (mu_i Hs (mu_p (mu_r Hs q 0)) (mu_i Hs q 2).toNatClampNeg) = (9 : Int32)
              refine mw_go mu_g43 (k := 7) (f1 := (2, [(2, .inl (mu_i Hs (mu_p (mu_r Hs q 0)) (mu_i Hs q 2).toNatClampNeg)), (1, .inl x), (0, .inr (.inr (some q)))], [], (mu_si Hs q 2 ((mu_i Hs q 2) + (1 : Int32))))) (C := [mu_is Hs (some q) 4, mu_is Hs (some q) 4]) rfl (show (mu_is Hs (some q) 4) ∧ (mu_is Hs (some q) 4) from ⟨hx.1, hx.1⟩) ?_
              rw [ea, ← nI_succ]; exact mw_sub (by simp) (ih (x, mu_si Hs q 2 (nI (a2 + 1)), a2 + 1) ⟨hn, hI.2 hn⟩ (by show n - (a2 + 1) < n - a2; omega))
            · -- 88: not (mu_i Hs (mu_p (mu_r Hs q 0)) (mu_i Hs q 2).toNatClampNeg) = (9 : Int32)
              refine mw_go mu_g43 (k := 2) (f1 := (91, [(2, .inl (mu_i Hs (mu_p (mu_r Hs q 0)) (mu_i Hs q 2).toNatClampNeg)), (1, .inl x), (0, .inr (.inr (some q)))], [.inl (10 : Int32), .inl (mu_i Hs (mu_p (mu_r Hs q 0)) (mu_i Hs q 2).toNatClampNeg)], Hs)) (C := []) rfl trivial ?_
              refine mw_if (P := (mu_i Hs (mu_p (mu_r Hs q 0)) (mu_i Hs q 2).toNatClampNeg) = (10 : Int32)) (a := 107) (b := 94) (fun _ => rfl) trivial (fun h7 => ?_) (fun h7 => ?_)
              · -- 107: (mu_i Hs (mu_p (mu_r Hs q 0)) (mu_i Hs q 2).toNatClampNeg) = (10 : Int32)
                refine mw_go mu_g43 (k := 7) (f1 := (2, [(2, .inl (mu_i Hs (mu_p (mu_r Hs q 0)) (mu_i Hs q 2).toNatClampNeg)), (1, .inl x), (0, .inr (.inr (some q)))], [], (mu_si Hs q 2 ((mu_i Hs q 2) + (1 : Int32))))) (C := [mu_is Hs (some q) 4, mu_is Hs (some q) 4]) rfl (show (mu_is Hs (some q) 4) ∧ (mu_is Hs (some q) 4) from ⟨hx.1, hx.1⟩) ?_
                rw [ea, ← nI_succ]; exact mw_sub (by simp) (ih (x, mu_si Hs q 2 (nI (a2 + 1)), a2 + 1) ⟨hn, hI.2 hn⟩ (by show n - (a2 + 1) < n - a2; omega))
              · -- 94: not (mu_i Hs (mu_p (mu_r Hs q 0)) (mu_i Hs q 2).toNatClampNeg) = (10 : Int32)
                refine mw_go mu_g43 (k := 2) (f1 := (97, [(2, .inl (mu_i Hs (mu_p (mu_r Hs q 0)) (mu_i Hs q 2).toNatClampNeg)), (1, .inl x), (0, .inr (.inr (some q)))], [.inl (13 : Int32), .inl (mu_i Hs (mu_p (mu_r Hs q 0)) (mu_i Hs q 2).toNatClampNeg)], Hs)) (C := []) rfl trivial ?_
                refine mw_if (P := (mu_i Hs (mu_p (mu_r Hs q 0)) (mu_i Hs q 2).toNatClampNeg) = (13 : Int32)) (a := 107) (b := 100) (fun _ => rfl) trivial (fun h8 => ?_) (fun h8 => ?_)
                · -- 107: (mu_i Hs (mu_p (mu_r Hs q 0)) (mu_i Hs q 2).toNatClampNeg) = (13 : Int32)
                  refine mw_go mu_g43 (k := 7) (f1 := (2, [(2, .inl (mu_i Hs (mu_p (mu_r Hs q 0)) (mu_i Hs q 2).toNatClampNeg)), (1, .inl x), (0, .inr (.inr (some q)))], [], (mu_si Hs q 2 ((mu_i Hs q 2) + (1 : Int32))))) (C := [mu_is Hs (some q) 4, mu_is Hs (some q) 4]) rfl (show (mu_is Hs (some q) 4) ∧ (mu_is Hs (some q) 4) from ⟨hx.1, hx.1⟩) ?_
                  rw [ea, ← nI_succ]; exact mw_sub (by simp) (ih (x, mu_si Hs q 2 (nI (a2 + 1)), a2 + 1) ⟨hn, hI.2 hn⟩ (by show n - (a2 + 1) < n - a2; omega))
                · -- 100: not (mu_i Hs (mu_p (mu_r Hs q 0)) (mu_i Hs q 2).toNatClampNeg) = (13 : Int32)
                  refine mw_go mu_g43 (k := 2) (f1 := (103, [(2, .inl (mu_i Hs (mu_p (mu_r Hs q 0)) (mu_i Hs q 2).toNatClampNeg)), (1, .inl x), (0, .inr (.inr (some q)))], [.inl (32 : Int32), .inl (mu_i Hs (mu_p (mu_r Hs q 0)) (mu_i Hs q 2).toNatClampNeg)], Hs)) (C := []) rfl trivial ?_
                  refine mw_if (P := (mu_i Hs (mu_p (mu_r Hs q 0)) (mu_i Hs q 2).toNatClampNeg) = (32 : Int32)) (a := 107) (b := 106) (fun _ => rfl) trivial (fun h9 => ?_) (fun h9 => ?_)
                  · -- 107: (mu_i Hs (mu_p (mu_r Hs q 0)) (mu_i Hs q 2).toNatClampNeg) = (32 : Int32)
                    refine mw_go mu_g43 (k := 7) (f1 := (2, [(2, .inl (mu_i Hs (mu_p (mu_r Hs q 0)) (mu_i Hs q 2).toNatClampNeg)), (1, .inl x), (0, .inr (.inr (some q)))], [], (mu_si Hs q 2 ((mu_i Hs q 2) + (1 : Int32))))) (C := [mu_is Hs (some q) 4, mu_is Hs (some q) 4]) rfl (show (mu_is Hs (some q) 4) ∧ (mu_is Hs (some q) 4) from ⟨hx.1, hx.1⟩) ?_
                    rw [ea, ← nI_succ]; exact mw_sub (by simp) (ih (x, mu_si Hs q 2 (nI (a2 + 1)), a2 + 1) ⟨hn, hI.2 hn⟩ (by show n - (a2 + 1) < n - a2; omega))
                  · -- 106: not (mu_i Hs (mu_p (mu_r Hs q 0)) (mu_i Hs q 2).toNatClampNeg) = (32 : Int32)
                    exact mw_of (fun _ => mu_ret rfl trivial ⟨_, rfl, hI.1⟩)
        · -- 82: not ((mu_i Hs q 2) + (1 : Int32)) < (mu_i Hs q 1)
          refine mw_go mu_g43 (k := 2) (f1 := (85, [(2, .inl (mu_i Hs (mu_p (mu_r Hs q 0)) (mu_i Hs q 2).toNatClampNeg)), (1, .inl x), (0, .inr (.inr (some q)))], [.inl (9 : Int32), .inl (mu_i Hs (mu_p (mu_r Hs q 0)) (mu_i Hs q 2).toNatClampNeg)], Hs)) (C := []) rfl trivial ?_
          refine mw_if (P := (mu_i Hs (mu_p (mu_r Hs q 0)) (mu_i Hs q 2).toNatClampNeg) = (9 : Int32)) (a := 107) (b := 88) (fun _ => rfl) trivial (fun h10 => ?_) (fun h10 => ?_)
          · -- 107: (mu_i Hs (mu_p (mu_r Hs q 0)) (mu_i Hs q 2).toNatClampNeg) = (9 : Int32)
            refine mw_go mu_g43 (k := 7) (f1 := (2, [(2, .inl (mu_i Hs (mu_p (mu_r Hs q 0)) (mu_i Hs q 2).toNatClampNeg)), (1, .inl x), (0, .inr (.inr (some q)))], [], (mu_si Hs q 2 ((mu_i Hs q 2) + (1 : Int32))))) (C := [mu_is Hs (some q) 4, mu_is Hs (some q) 4]) rfl (show (mu_is Hs (some q) 4) ∧ (mu_is Hs (some q) 4) from ⟨hx.1, hx.1⟩) ?_
            rw [ea, ← nI_succ]; exact mw_sub (by simp) (ih (x, mu_si Hs q 2 (nI (a2 + 1)), a2 + 1) ⟨hn, hI.2 hn⟩ (by show n - (a2 + 1) < n - a2; omega))
          · -- 88: not (mu_i Hs (mu_p (mu_r Hs q 0)) (mu_i Hs q 2).toNatClampNeg) = (9 : Int32)
            refine mw_go mu_g43 (k := 2) (f1 := (91, [(2, .inl (mu_i Hs (mu_p (mu_r Hs q 0)) (mu_i Hs q 2).toNatClampNeg)), (1, .inl x), (0, .inr (.inr (some q)))], [.inl (10 : Int32), .inl (mu_i Hs (mu_p (mu_r Hs q 0)) (mu_i Hs q 2).toNatClampNeg)], Hs)) (C := []) rfl trivial ?_
            refine mw_if (P := (mu_i Hs (mu_p (mu_r Hs q 0)) (mu_i Hs q 2).toNatClampNeg) = (10 : Int32)) (a := 107) (b := 94) (fun _ => rfl) trivial (fun h11 => ?_) (fun h11 => ?_)
            · -- 107: (mu_i Hs (mu_p (mu_r Hs q 0)) (mu_i Hs q 2).toNatClampNeg) = (10 : Int32)
              refine mw_go mu_g43 (k := 7) (f1 := (2, [(2, .inl (mu_i Hs (mu_p (mu_r Hs q 0)) (mu_i Hs q 2).toNatClampNeg)), (1, .inl x), (0, .inr (.inr (some q)))], [], (mu_si Hs q 2 ((mu_i Hs q 2) + (1 : Int32))))) (C := [mu_is Hs (some q) 4, mu_is Hs (some q) 4]) rfl (show (mu_is Hs (some q) 4) ∧ (mu_is Hs (some q) 4) from ⟨hx.1, hx.1⟩) ?_
              rw [ea, ← nI_succ]; exact mw_sub (by simp) (ih (x, mu_si Hs q 2 (nI (a2 + 1)), a2 + 1) ⟨hn, hI.2 hn⟩ (by show n - (a2 + 1) < n - a2; omega))
            · -- 94: not (mu_i Hs (mu_p (mu_r Hs q 0)) (mu_i Hs q 2).toNatClampNeg) = (10 : Int32)
              refine mw_go mu_g43 (k := 2) (f1 := (97, [(2, .inl (mu_i Hs (mu_p (mu_r Hs q 0)) (mu_i Hs q 2).toNatClampNeg)), (1, .inl x), (0, .inr (.inr (some q)))], [.inl (13 : Int32), .inl (mu_i Hs (mu_p (mu_r Hs q 0)) (mu_i Hs q 2).toNatClampNeg)], Hs)) (C := []) rfl trivial ?_
              refine mw_if (P := (mu_i Hs (mu_p (mu_r Hs q 0)) (mu_i Hs q 2).toNatClampNeg) = (13 : Int32)) (a := 107) (b := 100) (fun _ => rfl) trivial (fun h12 => ?_) (fun h12 => ?_)
              · -- 107: (mu_i Hs (mu_p (mu_r Hs q 0)) (mu_i Hs q 2).toNatClampNeg) = (13 : Int32)
                refine mw_go mu_g43 (k := 7) (f1 := (2, [(2, .inl (mu_i Hs (mu_p (mu_r Hs q 0)) (mu_i Hs q 2).toNatClampNeg)), (1, .inl x), (0, .inr (.inr (some q)))], [], (mu_si Hs q 2 ((mu_i Hs q 2) + (1 : Int32))))) (C := [mu_is Hs (some q) 4, mu_is Hs (some q) 4]) rfl (show (mu_is Hs (some q) 4) ∧ (mu_is Hs (some q) 4) from ⟨hx.1, hx.1⟩) ?_
                rw [ea, ← nI_succ]; exact mw_sub (by simp) (ih (x, mu_si Hs q 2 (nI (a2 + 1)), a2 + 1) ⟨hn, hI.2 hn⟩ (by show n - (a2 + 1) < n - a2; omega))
              · -- 100: not (mu_i Hs (mu_p (mu_r Hs q 0)) (mu_i Hs q 2).toNatClampNeg) = (13 : Int32)
                refine mw_go mu_g43 (k := 2) (f1 := (103, [(2, .inl (mu_i Hs (mu_p (mu_r Hs q 0)) (mu_i Hs q 2).toNatClampNeg)), (1, .inl x), (0, .inr (.inr (some q)))], [.inl (32 : Int32), .inl (mu_i Hs (mu_p (mu_r Hs q 0)) (mu_i Hs q 2).toNatClampNeg)], Hs)) (C := []) rfl trivial ?_
                refine mw_if (P := (mu_i Hs (mu_p (mu_r Hs q 0)) (mu_i Hs q 2).toNatClampNeg) = (32 : Int32)) (a := 107) (b := 106) (fun _ => rfl) trivial (fun h13 => ?_) (fun h13 => ?_)
                · -- 107: (mu_i Hs (mu_p (mu_r Hs q 0)) (mu_i Hs q 2).toNatClampNeg) = (32 : Int32)
                  refine mw_go mu_g43 (k := 7) (f1 := (2, [(2, .inl (mu_i Hs (mu_p (mu_r Hs q 0)) (mu_i Hs q 2).toNatClampNeg)), (1, .inl x), (0, .inr (.inr (some q)))], [], (mu_si Hs q 2 ((mu_i Hs q 2) + (1 : Int32))))) (C := [mu_is Hs (some q) 4, mu_is Hs (some q) 4]) rfl (show (mu_is Hs (some q) 4) ∧ (mu_is Hs (some q) 4) from ⟨hx.1, hx.1⟩) ?_
                  rw [ea, ← nI_succ]; exact mw_sub (by simp) (ih (x, mu_si Hs q 2 (nI (a2 + 1)), a2 + 1) ⟨hn, hI.2 hn⟩ (by show n - (a2 + 1) < n - a2; omega))
                · -- 106: not (mu_i Hs (mu_p (mu_r Hs q 0)) (mu_i Hs q 2).toNatClampNeg) = (32 : Int32)
                  exact mw_of (fun _ => mu_ret rfl trivial ⟨_, rfl, hI.1⟩)
      · -- 82: not (mu_i Hs (mu_p (mu_r Hs q 0)) (mu_i Hs q 2).toNatClampNeg) = (45 : Int32)
        refine mw_go mu_g43 (k := 2) (f1 := (85, [(2, .inl (mu_i Hs (mu_p (mu_r Hs q 0)) (mu_i Hs q 2).toNatClampNeg)), (1, .inl x), (0, .inr (.inr (some q)))], [.inl (9 : Int32), .inl (mu_i Hs (mu_p (mu_r Hs q 0)) (mu_i Hs q 2).toNatClampNeg)], Hs)) (C := []) rfl trivial ?_
        refine mw_if (P := (mu_i Hs (mu_p (mu_r Hs q 0)) (mu_i Hs q 2).toNatClampNeg) = (9 : Int32)) (a := 107) (b := 88) (fun _ => rfl) trivial (fun h14 => ?_) (fun h14 => ?_)
        · -- 107: (mu_i Hs (mu_p (mu_r Hs q 0)) (mu_i Hs q 2).toNatClampNeg) = (9 : Int32)
          refine mw_go mu_g43 (k := 7) (f1 := (2, [(2, .inl (mu_i Hs (mu_p (mu_r Hs q 0)) (mu_i Hs q 2).toNatClampNeg)), (1, .inl x), (0, .inr (.inr (some q)))], [], (mu_si Hs q 2 ((mu_i Hs q 2) + (1 : Int32))))) (C := [mu_is Hs (some q) 4, mu_is Hs (some q) 4]) rfl (show (mu_is Hs (some q) 4) ∧ (mu_is Hs (some q) 4) from ⟨hx.1, hx.1⟩) ?_
          rw [ea, ← nI_succ]; exact mw_sub (by simp) (ih (x, mu_si Hs q 2 (nI (a2 + 1)), a2 + 1) ⟨hn, hI.2 hn⟩ (by show n - (a2 + 1) < n - a2; omega))
        · -- 88: not (mu_i Hs (mu_p (mu_r Hs q 0)) (mu_i Hs q 2).toNatClampNeg) = (9 : Int32)
          refine mw_go mu_g43 (k := 2) (f1 := (91, [(2, .inl (mu_i Hs (mu_p (mu_r Hs q 0)) (mu_i Hs q 2).toNatClampNeg)), (1, .inl x), (0, .inr (.inr (some q)))], [.inl (10 : Int32), .inl (mu_i Hs (mu_p (mu_r Hs q 0)) (mu_i Hs q 2).toNatClampNeg)], Hs)) (C := []) rfl trivial ?_
          refine mw_if (P := (mu_i Hs (mu_p (mu_r Hs q 0)) (mu_i Hs q 2).toNatClampNeg) = (10 : Int32)) (a := 107) (b := 94) (fun _ => rfl) trivial (fun h15 => ?_) (fun h15 => ?_)
          · -- 107: (mu_i Hs (mu_p (mu_r Hs q 0)) (mu_i Hs q 2).toNatClampNeg) = (10 : Int32)
            refine mw_go mu_g43 (k := 7) (f1 := (2, [(2, .inl (mu_i Hs (mu_p (mu_r Hs q 0)) (mu_i Hs q 2).toNatClampNeg)), (1, .inl x), (0, .inr (.inr (some q)))], [], (mu_si Hs q 2 ((mu_i Hs q 2) + (1 : Int32))))) (C := [mu_is Hs (some q) 4, mu_is Hs (some q) 4]) rfl (show (mu_is Hs (some q) 4) ∧ (mu_is Hs (some q) 4) from ⟨hx.1, hx.1⟩) ?_
            rw [ea, ← nI_succ]; exact mw_sub (by simp) (ih (x, mu_si Hs q 2 (nI (a2 + 1)), a2 + 1) ⟨hn, hI.2 hn⟩ (by show n - (a2 + 1) < n - a2; omega))
          · -- 94: not (mu_i Hs (mu_p (mu_r Hs q 0)) (mu_i Hs q 2).toNatClampNeg) = (10 : Int32)
            refine mw_go mu_g43 (k := 2) (f1 := (97, [(2, .inl (mu_i Hs (mu_p (mu_r Hs q 0)) (mu_i Hs q 2).toNatClampNeg)), (1, .inl x), (0, .inr (.inr (some q)))], [.inl (13 : Int32), .inl (mu_i Hs (mu_p (mu_r Hs q 0)) (mu_i Hs q 2).toNatClampNeg)], Hs)) (C := []) rfl trivial ?_
            refine mw_if (P := (mu_i Hs (mu_p (mu_r Hs q 0)) (mu_i Hs q 2).toNatClampNeg) = (13 : Int32)) (a := 107) (b := 100) (fun _ => rfl) trivial (fun h16 => ?_) (fun h16 => ?_)
            · -- 107: (mu_i Hs (mu_p (mu_r Hs q 0)) (mu_i Hs q 2).toNatClampNeg) = (13 : Int32)
              refine mw_go mu_g43 (k := 7) (f1 := (2, [(2, .inl (mu_i Hs (mu_p (mu_r Hs q 0)) (mu_i Hs q 2).toNatClampNeg)), (1, .inl x), (0, .inr (.inr (some q)))], [], (mu_si Hs q 2 ((mu_i Hs q 2) + (1 : Int32))))) (C := [mu_is Hs (some q) 4, mu_is Hs (some q) 4]) rfl (show (mu_is Hs (some q) 4) ∧ (mu_is Hs (some q) 4) from ⟨hx.1, hx.1⟩) ?_
              rw [ea, ← nI_succ]; exact mw_sub (by simp) (ih (x, mu_si Hs q 2 (nI (a2 + 1)), a2 + 1) ⟨hn, hI.2 hn⟩ (by show n - (a2 + 1) < n - a2; omega))
            · -- 100: not (mu_i Hs (mu_p (mu_r Hs q 0)) (mu_i Hs q 2).toNatClampNeg) = (13 : Int32)
              refine mw_go mu_g43 (k := 2) (f1 := (103, [(2, .inl (mu_i Hs (mu_p (mu_r Hs q 0)) (mu_i Hs q 2).toNatClampNeg)), (1, .inl x), (0, .inr (.inr (some q)))], [.inl (32 : Int32), .inl (mu_i Hs (mu_p (mu_r Hs q 0)) (mu_i Hs q 2).toNatClampNeg)], Hs)) (C := []) rfl trivial ?_
              refine mw_if (P := (mu_i Hs (mu_p (mu_r Hs q 0)) (mu_i Hs q 2).toNatClampNeg) = (32 : Int32)) (a := 107) (b := 106) (fun _ => rfl) trivial (fun h17 => ?_) (fun h17 => ?_)
              · -- 107: (mu_i Hs (mu_p (mu_r Hs q 0)) (mu_i Hs q 2).toNatClampNeg) = (32 : Int32)
                refine mw_go mu_g43 (k := 7) (f1 := (2, [(2, .inl (mu_i Hs (mu_p (mu_r Hs q 0)) (mu_i Hs q 2).toNatClampNeg)), (1, .inl x), (0, .inr (.inr (some q)))], [], (mu_si Hs q 2 ((mu_i Hs q 2) + (1 : Int32))))) (C := [mu_is Hs (some q) 4, mu_is Hs (some q) 4]) rfl (show (mu_is Hs (some q) 4) ∧ (mu_is Hs (some q) 4) from ⟨hx.1, hx.1⟩) ?_
                rw [ea, ← nI_succ]; exact mw_sub (by simp) (ih (x, mu_si Hs q 2 (nI (a2 + 1)), a2 + 1) ⟨hn, hI.2 hn⟩ (by show n - (a2 + 1) < n - a2; omega))
              · -- 106: not (mu_i Hs (mu_p (mu_r Hs q 0)) (mu_i Hs q 2).toNatClampNeg) = (32 : Int32)
                exact mw_of (fun _ => mu_ret rfl trivial ⟨_, rfl, hI.1⟩)
    · -- 27: not x = 0
      refine mw_go mu_g43 (k := 2) (f1 := (30, [(2, .inl (mu_i Hs (mu_p (mu_r Hs q 0)) (mu_i Hs q 2).toNatClampNeg)), (1, .inl x), (0, .inr (.inr (some q)))], [.inl (10 : Int32), .inl (mu_i Hs (mu_p (mu_r Hs q 0)) (mu_i Hs q 2).toNatClampNeg)], Hs)) (C := []) rfl trivial ?_
      refine mw_if (P := (mu_i Hs (mu_p (mu_r Hs q 0)) (mu_i Hs q 2).toNatClampNeg) = (10 : Int32)) (a := 37) (b := 33) (fun _ => rfl) trivial (fun h18 => ?_) (fun h18 => ?_)
      · -- 37: (mu_i Hs (mu_p (mu_r Hs q 0)) (mu_i Hs q 2).toNatClampNeg) = (10 : Int32)
        refine mw_go mu_g43 (k := 10) (f1 := (2, [(1, .inl (0 : Int32)), (2, .inl (mu_i Hs (mu_p (mu_r Hs q 0)) (mu_i Hs q 2).toNatClampNeg)), (0, .inr (.inr (some q)))], [], (mu_si Hs q 2 ((mu_i Hs q 2) + (1 : Int32))))) (C := [mu_is Hs (some q) 4, mu_is Hs (some q) 4]) rfl (show (mu_is Hs (some q) 4) ∧ (mu_is Hs (some q) 4) from ⟨hx.1, hx.1⟩) ?_
        rw [ea, ← nI_succ]; exact mw_sub (by simp) (ih ((0 : Int32), mu_si Hs q 2 (nI (a2 + 1)), a2 + 1) ⟨hn, hI.2 hn⟩ (by show n - (a2 + 1) < n - a2; omega))
      · -- 33: not (mu_i Hs (mu_p (mu_r Hs q 0)) (mu_i Hs q 2).toNatClampNeg) = (10 : Int32)
        refine mw_go mu_g43 (k := 11) (f1 := (2, [(1, .inl (1 : Int32)), (2, .inl (mu_i Hs (mu_p (mu_r Hs q 0)) (mu_i Hs q 2).toNatClampNeg)), (0, .inr (.inr (some q)))], [], (mu_si Hs q 2 ((mu_i Hs q 2) + (1 : Int32))))) (C := [mu_is Hs (some q) 4, mu_is Hs (some q) 4]) rfl (show (mu_is Hs (some q) 4) ∧ (mu_is Hs (some q) 4) from ⟨hx.1, hx.1⟩) ?_
        rw [ea, ← nI_succ]; exact mw_sub (by simp) (ih ((1 : Int32), mu_si Hs q 2 (nI (a2 + 1)), a2 + 1) ⟨hn, hI.2 hn⟩ (by show n - (a2 + 1) < n - a2; omega))
  · -- 120: not (mu_i Hs q 2) < (mu_i Hs q 1)
    exact mw_of (fun _ => mu_ret rfl trivial ⟨_, rfl, hI.1⟩)
theorem lx_to.next {J : List Nat} {H H1 : mu_H} {q n a b : Nat} (h : lx_to J H H1 q n a) (hx : lx_at H1 q n b) (hab : a ≤ b + 1) (hb : b + 1 ≤ n) (hJ : 2 ∈ J) : lx_to J H (mu_si H1 q 2 (nI (b + 1))) q n a := by
  obtain ⟨g1, g2, -⟩ := h
  refine ⟨g1.si _ _, fun i hi => ?_, b + 1, hab, hx.next hb⟩
  rw [mu_i_si, if_neg (show ¬ (q = q ∧ i = 2) from fun z => hi (by rw [z.2]; exact hJ))]
  exact g2 i hi
/-- PathProver$Lexer.number()V -/
abbrev mu_m122 : ev_M := (1, none, [], ev_b122)
theorem mu_g122 : mu_good mu_m122 := mu_goodk ev_k122
