/-! The reference (PathProverModel): its ground; blanks, letters, digits -/
/-- PathProverModel.letter(I)Z -/
abbrev mu_m510 : ev_M := (3, (some .boolean), [], ev_b510)
theorem mu_g510 : mu_good mu_m510 := mu_goodk ev_k510
/-- PathProverModel.digit(I)Z -/
abbrev mu_m511 : ev_M := (2, (some .boolean), [], ev_b511)
theorem mu_g511 : mu_good mu_m511 := mu_goodk ev_k511
/-- PathProverModel.skip()V -/
abbrev mu_m52 : ev_M := (2, none, [], ev_b52)
theorem mu_g52 : mu_good mu_m52 := mu_goodk ev_k52
/-- the reference's cells that stay: the object at 169, the tape, the signs, the kept words, its sets of bits and the rows made once -/
def rgd (H : mu_H) : Prop := 200 < mu_z H ∧ mu_k H 169 = 1 ∧ (mu_r H 169 1 = some 170 ∧ mu_k H 170 = 101 ∧ mu_n H 170 = 65536) ∧ (mu_r H 169 4 = some 171 ∧ mu_k H 171 = 103 ∧ mu_n H 171 = 27 ∧ ∀ s, s < 27 → mu_r H 171 s = some (1000001 + s)) ∧ (mu_r H 169 5 = some 172 ∧ mu_k H 172 = 103 ∧ mu_n H 172 = 28 ∧ ∀ s, s < 28 → mu_r H 172 s = some (1000028 + s)) ∧
  (∀ k, k < 4 → mu_r H 169 (32 + k) = some (183 + 2 * k) ∧ mu_k H (183 + 2 * k) = 14 ∧ mu_r H (183 + 2 * k) 0 = some (184 + 2 * k) ∧ mu_k H (184 + 2 * k) = 100 ∧ mu_n H (184 + 2 * k) = 512) ∧ (mu_r H 169 37 = some 191 ∧ mu_k H 191 = 100 ∧ mu_n H 191 = 2000) ∧ (mu_r H 169 44 = some 195 ∧ mu_k H 195 = 100 ∧ mu_n H 195 = 200000) ∧ (mu_r H 169 54 = some 199 ∧ mu_k H 199 = 100 ∧ mu_n H 199 = 2001)
/-- the tape: n letters T -/
def rtp (H : mu_H) (T : Nat → Int32) (n : Nat) : Prop := mu_i H 169 2 = nI n ∧ n ≤ 65536 ∧ ∀ i, i < n → mu_i H 170 i = T i
theorem rgd.is {H : mu_H} (h : rgd H) : mu_is H (some 169) 1 := ⟨rfl, Nat.lt_trans (by decide) h.1, h.2.1⟩
theorem rgd.tp {H : mu_H} (h : rgd H) : mu_isr H (mu_r H 169 1) 101 := by
  rw [h.2.2.1.1]
  exact ⟨rfl, Or.inl (Nat.lt_trans (by decide) h.1), h.2.2.1.2.1⟩
theorem mu_eqH {H G : mu_H} (h1 : H.1 = G.1) (h2 : H.2.1 = G.2.1) (h3 : H.2.2.1 = G.2.2.1) (h4 : H.2.2.2 = G.2.2.2) : H = G := by
  obtain ⟨a, b, c, d⟩ := H
  obtain ⟨a', b', c', d'⟩ := G
  cases h1; cases h2; cases h3; cases h4
  rfl
theorem mu_si_si (H : mu_H) (q j : Nat) (x y : Int32) : mu_si (mu_si H q j x) q j y = mu_si H q j y := by
  refine mu_eqH rfl rfl ?_ rfl
  funext p i
  show (if p = q ∧ i = j then y else (if p = q ∧ i = j then x else mu_i H p i)) = (if p = q ∧ i = j then y else mu_i H p i)
  by_cases e : p = q ∧ i = j
  · rw [if_pos e, if_pos e]
  · rw [if_neg e, if_neg e, if_neg e]
theorem mu_si_self {H : mu_H} {q j : Nat} {x : Int32} (h : mu_i H q j = x) : mu_si H q j x = H := by
  refine mu_eqH rfl rfl ?_ rfl
  funext p i
  show (if p = q ∧ i = j then x else mu_i H p i) = mu_i H p i
  by_cases e : p = q ∧ i = j
  · rw [if_pos e, e.1, e.2, h]
  · rw [if_neg e]
theorem mw_fr {run : Nat → List ev_V → List ev_C → Option ev_R} {M : ev_M} {f f' : mu_F} {Φ : mu_R → Prop} (e : f = f') (h : mu_W run M f' Φ) : mu_W run M f Φ := by rw [e]; exact h
/-- a letter's kind: 1 a letter, 0 none; digits -/
def dgz (c : Int32) : Int32 := if c < 48 then 0 else if 57 < c then 0 else 1
def ltz (c : Int32) : Int32 := (if c < (97 : Int32) then (if c < (65 : Int32) then (if c = (95 : Int32) then (1 : Int32) else (0 : Int32)) else (if (90 : Int32) < c then (if c = (95 : Int32) then (1 : Int32) else (0 : Int32)) else (1 : Int32))) else (if (122 : Int32) < c then (if c < (65 : Int32) then (if c = (95 : Int32) then (1 : Int32) else (0 : Int32)) else (if (90 : Int32) < c then (if c = (95 : Int32) then (1 : Int32) else (0 : Int32)) else (1 : Int32))) else (1 : Int32)))
theorem rf_lt0 {run : Nat → List ev_V → List ev_C → Option ev_R} {c : Int32} {H : mu_H} : mu_W run mu_m510 (19, [(2, .inl c)], [], H) (fun r => ∃ x H1, r = (.inl (some (.inl x)), H1) ∧ x = ltz c ∧ H1 = H) := by
  refine mw_go mu_g510 (k := 2) (f1 := (22, [(2, .inl c)], [.inl (97 : Int32), .inl c], H)) (C := []) rfl trivial ?_
  refine mw_if (P := c < (97 : Int32)) (a := 31) (b := 25) (fun _ => rfl) trivial (fun h1 => ?_) (fun h1 => ?_)
  · -- 31: c < (97 : Int32)
    refine mw_go mu_g510 (k := 2) (f1 := (34, [(2, .inl c)], [.inl (65 : Int32), .inl c], H)) (C := []) rfl trivial ?_
    refine mw_if (P := c < (65 : Int32)) (a := 43) (b := 37) (fun _ => rfl) trivial (fun h2 => ?_) (fun h2 => ?_)
    · -- 43: c < (65 : Int32)
      refine mw_go mu_g510 (k := 2) (f1 := (46, [(2, .inl c)], [.inl (95 : Int32), .inl c], H)) (C := []) rfl trivial ?_
      refine mw_if (P := c = (95 : Int32)) (a := 49) (b := 53) (fun _ => rfl) trivial (fun h3 => ?_) (fun h3 => ?_)
      · -- 49: c = (95 : Int32)
        refine mw_go mu_g510 (k := 2) (f1 := (54, [(2, .inl c)], [.inl (1 : Int32)], H)) (C := []) rfl trivial ?_
        exact mw_of (fun _ => mu_ret rfl (Or.inr rfl) ⟨_, _, rfl, (by unfold ltz; rw [if_pos h1, if_pos h2, if_pos h3]), rfl⟩)
      · -- 53: not c = (95 : Int32)
        refine mw_go mu_g510 (k := 1) (f1 := (54, [(2, .inl c)], [.inl (0 : Int32)], H)) (C := []) rfl trivial ?_
        exact mw_of (fun _ => mu_ret rfl (Or.inl rfl) ⟨_, _, rfl, (by unfold ltz; rw [if_pos h1, if_pos h2, if_neg h3]), rfl⟩)
    · -- 37: not c < (65 : Int32)
      refine mw_go mu_g510 (k := 2) (f1 := (40, [(2, .inl c)], [.inl (90 : Int32), .inl c], H)) (C := []) rfl trivial ?_
      refine mw_if (P := (90 : Int32) < c) (a := 43) (b := 49) (fun _ => rfl) trivial (fun h4 => ?_) (fun h4 => ?_)
      · -- 43: (90 : Int32) < c
        refine mw_go mu_g510 (k := 2) (f1 := (46, [(2, .inl c)], [.inl (95 : Int32), .inl c], H)) (C := []) rfl trivial ?_
        refine mw_if (P := c = (95 : Int32)) (a := 49) (b := 53) (fun _ => rfl) trivial (fun h5 => ?_) (fun h5 => ?_)
        · -- 49: c = (95 : Int32)
          refine mw_go mu_g510 (k := 2) (f1 := (54, [(2, .inl c)], [.inl (1 : Int32)], H)) (C := []) rfl trivial ?_
          exact mw_of (fun _ => mu_ret rfl (Or.inr rfl) ⟨_, _, rfl, (by unfold ltz; rw [if_pos h1, if_neg h2, if_pos h4, if_pos h5]), rfl⟩)
        · -- 53: not c = (95 : Int32)
          refine mw_go mu_g510 (k := 1) (f1 := (54, [(2, .inl c)], [.inl (0 : Int32)], H)) (C := []) rfl trivial ?_
          exact mw_of (fun _ => mu_ret rfl (Or.inl rfl) ⟨_, _, rfl, (by unfold ltz; rw [if_pos h1, if_neg h2, if_pos h4, if_neg h5]), rfl⟩)
      · -- 49: not (90 : Int32) < c
        refine mw_go mu_g510 (k := 2) (f1 := (54, [(2, .inl c)], [.inl (1 : Int32)], H)) (C := []) rfl trivial ?_
        exact mw_of (fun _ => mu_ret rfl (Or.inr rfl) ⟨_, _, rfl, (by unfold ltz; rw [if_pos h1, if_neg h2, if_neg h4]), rfl⟩)
  · -- 25: not c < (97 : Int32)
    refine mw_go mu_g510 (k := 2) (f1 := (28, [(2, .inl c)], [.inl (122 : Int32), .inl c], H)) (C := []) rfl trivial ?_
    refine mw_if (P := (122 : Int32) < c) (a := 31) (b := 49) (fun _ => rfl) trivial (fun h6 => ?_) (fun h6 => ?_)
    · -- 31: (122 : Int32) < c
      refine mw_go mu_g510 (k := 2) (f1 := (34, [(2, .inl c)], [.inl (65 : Int32), .inl c], H)) (C := []) rfl trivial ?_
      refine mw_if (P := c < (65 : Int32)) (a := 43) (b := 37) (fun _ => rfl) trivial (fun h7 => ?_) (fun h7 => ?_)
      · -- 43: c < (65 : Int32)
        refine mw_go mu_g510 (k := 2) (f1 := (46, [(2, .inl c)], [.inl (95 : Int32), .inl c], H)) (C := []) rfl trivial ?_
        refine mw_if (P := c = (95 : Int32)) (a := 49) (b := 53) (fun _ => rfl) trivial (fun h8 => ?_) (fun h8 => ?_)
        · -- 49: c = (95 : Int32)
          refine mw_go mu_g510 (k := 2) (f1 := (54, [(2, .inl c)], [.inl (1 : Int32)], H)) (C := []) rfl trivial ?_
          exact mw_of (fun _ => mu_ret rfl (Or.inr rfl) ⟨_, _, rfl, (by unfold ltz; rw [if_neg h1, if_pos h6, if_pos h7, if_pos h8]), rfl⟩)
        · -- 53: not c = (95 : Int32)
          refine mw_go mu_g510 (k := 1) (f1 := (54, [(2, .inl c)], [.inl (0 : Int32)], H)) (C := []) rfl trivial ?_
          exact mw_of (fun _ => mu_ret rfl (Or.inl rfl) ⟨_, _, rfl, (by unfold ltz; rw [if_neg h1, if_pos h6, if_pos h7, if_neg h8]), rfl⟩)
      · -- 37: not c < (65 : Int32)
        refine mw_go mu_g510 (k := 2) (f1 := (40, [(2, .inl c)], [.inl (90 : Int32), .inl c], H)) (C := []) rfl trivial ?_
        refine mw_if (P := (90 : Int32) < c) (a := 43) (b := 49) (fun _ => rfl) trivial (fun h9 => ?_) (fun h9 => ?_)
        · -- 43: (90 : Int32) < c
          refine mw_go mu_g510 (k := 2) (f1 := (46, [(2, .inl c)], [.inl (95 : Int32), .inl c], H)) (C := []) rfl trivial ?_
          refine mw_if (P := c = (95 : Int32)) (a := 49) (b := 53) (fun _ => rfl) trivial (fun h10 => ?_) (fun h10 => ?_)
          · -- 49: c = (95 : Int32)
            refine mw_go mu_g510 (k := 2) (f1 := (54, [(2, .inl c)], [.inl (1 : Int32)], H)) (C := []) rfl trivial ?_
            exact mw_of (fun _ => mu_ret rfl (Or.inr rfl) ⟨_, _, rfl, (by unfold ltz; rw [if_neg h1, if_pos h6, if_neg h7, if_pos h9, if_pos h10]), rfl⟩)
          · -- 53: not c = (95 : Int32)
            refine mw_go mu_g510 (k := 1) (f1 := (54, [(2, .inl c)], [.inl (0 : Int32)], H)) (C := []) rfl trivial ?_
            exact mw_of (fun _ => mu_ret rfl (Or.inl rfl) ⟨_, _, rfl, (by unfold ltz; rw [if_neg h1, if_pos h6, if_neg h7, if_pos h9, if_neg h10]), rfl⟩)
        · -- 49: not (90 : Int32) < c
          refine mw_go mu_g510 (k := 2) (f1 := (54, [(2, .inl c)], [.inl (1 : Int32)], H)) (C := []) rfl trivial ?_
          exact mw_of (fun _ => mu_ret rfl (Or.inr rfl) ⟨_, _, rfl, (by unfold ltz; rw [if_neg h1, if_pos h6, if_neg h7, if_neg h9]), rfl⟩)
    · -- 49: not (122 : Int32) < c
      refine mw_go mu_g510 (k := 2) (f1 := (54, [(2, .inl c)], [.inl (1 : Int32)], H)) (C := []) rfl trivial ?_
      exact mw_of (fun _ => mu_ret rfl (Or.inr rfl) ⟨_, _, rfl, (by unfold ltz; rw [if_neg h1, if_neg h6]), rfl⟩)
theorem nI_below {a b : Nat} (ha : a < 2147483648) (hb : b < 2147483648) (h : nI a < nI b) : a < b := by
  rw [Int32.lt_iff_toInt_lt, show (nI a).toInt = (a : Int) from Int32.toInt_ofNat_of_lt ha, show (nI b).toInt = (b : Int) from Int32.toInt_ofNat_of_lt hb] at h
  omega
theorem rf_letter {d n k : Nat} {T : Nat → Int32} {H : mu_H} (h : rgd H) (ht : rtp H T n) (hk : k < 2147483648) : mu_TI (mu_D (d + 1)) 510 [.inr (.inr (some 169)), .inl (nI k)] H (fun x H1 => x = ltz (if k < n then T k else 0) ∧ H1 = H) := by
  refine mu_meth (M := mu_m510) rfl rfl ?_
  refine mw_ht (mu_fn_of (show [0, 1].Nodup by decide)) ?_
  refine mw_go mu_g510 (k := 3) (f1 := (5, [(0, .inr (.inr (some 169))), (1, .inl (nI k))], [.inl (mu_i H 169 2), .inl (nI k)], H)) (C := [mu_is H (some 169) 1]) rfl (show mu_is H (some 169) 1 from h.is) ?_
  refine mw_fr (f' := (5, [(0, .inr (.inr (some 169))), (1, .inl (nI k))], [.inl (nI n), .inl (nI k)], H)) (by rw [ht.1]) ?_
  refine mw_if (P := (nI k) < (nI n)) (a := 8) (b := 17) (fun _ => rfl) trivial (fun h9 => ?_) (fun h9 => ?_)
  · -- 8
    have hkn : k < n := nI_below hk (by have := ht.2.1; omega) h9
    refine mw_go mu_g510 (k := 6) (f1 := (19, [(2, .inl (mu_i H (mu_p (mu_r H 169 1)) (nI k).toNatClampNeg)), (0, .inr (.inr (some 169))), (1, .inl (nI k))], [], H)) (C := [mu_is H (some 169) 1, mu_isr H (mu_r H 169 1) 101, vp_in (nI k) (mu_n H (mu_p (mu_r H 169 1)))]) rfl (show (mu_is H (some 169) 1) ∧ (mu_isr H (mu_r H 169 1) 101) ∧ (vp_in (nI k) (mu_n H (mu_p (mu_r H 169 1)))) from ⟨h.is, h.tp, (by rw [h.2.2.1.1]; exact vp_in_nI (show k < mu_n H 170 by rw [h.2.2.1.2.2]; have := ht.2.1; omega) (show mu_n H 170 < _ by rw [h.2.2.1.2.2]; decide))⟩) ?_
    rw [if_pos hkn, h.2.2.1.1]
    rw [nI_clamp (show k < 2 ^ 31 by omega), show mu_i H (mu_p (some 170)) k = T k from ht.2.2 k hkn]
    exact mw_sub (L' := [(2, .inl (T k))]) (by simp) rf_lt0
  · -- 17
    have hkn : ¬ k < n := fun z => h9 (nI_lt z (by have := ht.2.1; omega))
    refine mw_go mu_g510 (k := 2) (f1 := (19, [(2, .inl (0 : Int32)), (0, .inr (.inr (some 169))), (1, .inl (nI k))], [], H)) (C := []) rfl trivial ?_
    rw [if_neg hkn]
    exact mw_sub (L' := [(2, .inl 0)]) (by simp) rf_lt0
theorem rf_digit {d n k : Nat} {T : Nat → Int32} {H : mu_H} (h : rgd H) (ht : rtp H T n) (hk : k < 2147483648) : mu_TI (mu_D (d + 1)) 511 [.inr (.inr (some 169)), .inl (nI k)] H (fun x H1 => x = dgz (if k < n then T k else 0) ∧ H1 = H) := by
  refine mu_meth (M := mu_m511) rfl rfl ?_
  refine mw_ht (mu_fn_of (show [0, 1].Nodup by decide)) ?_
  refine mw_go mu_g511 (k := 3) (f1 := (5, [(0, .inr (.inr (some 169))), (1, .inl (nI k))], [.inl (mu_i H 169 2), .inl (nI k)], H)) (C := [mu_is H (some 169) 1]) rfl (show mu_is H (some 169) 1 from h.is) ?_
  refine mw_fr (f' := (5, [(0, .inr (.inr (some 169))), (1, .inl (nI k))], [.inl (nI n), .inl (nI k)], H)) (by rw [ht.1]) ?_
  refine mw_if (P := (nI k) < (nI n)) (a := 8) (b := 34) (fun _ => rfl) trivial (fun h9 => ?_) (fun h9 => ?_)
  · -- 8
    have hkn : k < n := nI_below hk (by have := ht.2.1; omega) h9
    have htk : (mu_i H (mu_p (mu_r H 169 1)) (nI k).toNatClampNeg) = T k := by
      rw [h.2.2.1.1, nI_clamp (show k < 2 ^ 31 by omega)]
      exact ht.2.2 k hkn
    refine mw_go mu_g511 (k := 5) (f1 := (16, [(0, .inr (.inr (some 169))), (1, .inl (nI k))], [.inl (48 : Int32), .inl (mu_i H (mu_p (mu_r H 169 1)) (nI k).toNatClampNeg)], H)) (C := [mu_is H (some 169) 1, mu_isr H (mu_r H 169 1) 101, vp_in (nI k) (mu_n H (mu_p (mu_r H 169 1)))]) rfl (show (mu_is H (some 169) 1) ∧ (mu_isr H (mu_r H 169 1) 101) ∧ (vp_in (nI k) (mu_n H (mu_p (mu_r H 169 1)))) from ⟨h.is, h.tp, (by rw [h.2.2.1.1]; exact vp_in_nI (show k < mu_n H 170 by rw [h.2.2.1.2.2]; have := ht.2.1; omega) (show mu_n H 170 < _ by rw [h.2.2.1.2.2]; decide))⟩) ?_
    refine mw_fr (f' := (16, [(0, .inr (.inr (some 169))), (1, .inl (nI k))], [.inl (48 : Int32), .inl (T k)], H)) (by rw [htk]) ?_
    refine mw_if (P := (T k) < (48 : Int32)) (a := 34) (b := 19) (fun _ => rfl) trivial (fun h8 => ?_) (fun h8 => ?_)
    · -- 34
      refine mw_go mu_g511 (k := 1) (f1 := (35, [(0, .inr (.inr (some 169))), (1, .inl (nI k))], [.inl (0 : Int32)], H)) (C := []) rfl trivial ?_
      exact mw_of (fun _ => mu_ret rfl (Or.inl rfl) ⟨_, _, rfl, by rw [if_pos hkn]; exact (if_pos h8).symm, rfl⟩)
    · -- 19
      refine mw_go mu_g511 (k := 5) (f1 := (27, [(0, .inr (.inr (some 169))), (1, .inl (nI k))], [.inl (57 : Int32), .inl (mu_i H (mu_p (mu_r H 169 1)) (nI k).toNatClampNeg)], H)) (C := [mu_is H (some 169) 1, mu_isr H (mu_r H 169 1) 101, vp_in (nI k) (mu_n H (mu_p (mu_r H 169 1)))]) rfl (show (mu_is H (some 169) 1) ∧ (mu_isr H (mu_r H 169 1) 101) ∧ (vp_in (nI k) (mu_n H (mu_p (mu_r H 169 1)))) from ⟨h.is, h.tp, (by rw [h.2.2.1.1]; exact vp_in_nI (show k < mu_n H 170 by rw [h.2.2.1.2.2]; have := ht.2.1; omega) (show mu_n H 170 < _ by rw [h.2.2.1.2.2]; decide))⟩) ?_
      refine mw_fr (f' := (27, [(0, .inr (.inr (some 169))), (1, .inl (nI k))], [.inl (57 : Int32), .inl (T k)], H)) (by rw [htk]) ?_
      refine mw_if (P := (57 : Int32) < (T k)) (a := 34) (b := 30) (fun _ => rfl) trivial (fun h7 => ?_) (fun h7 => ?_)
      · -- 34
        refine mw_go mu_g511 (k := 1) (f1 := (35, [(0, .inr (.inr (some 169))), (1, .inl (nI k))], [.inl (0 : Int32)], H)) (C := []) rfl trivial ?_
        exact mw_of (fun _ => mu_ret rfl (Or.inl rfl) ⟨_, _, rfl, by rw [if_pos hkn]; exact ((if_neg h8).trans (if_pos h7)).symm, rfl⟩)
      · -- 30
        refine mw_go mu_g511 (k := 2) (f1 := (35, [(0, .inr (.inr (some 169))), (1, .inl (nI k))], [.inl (1 : Int32)], H)) (C := []) rfl trivial ?_
        exact mw_of (fun _ => mu_ret rfl (Or.inr rfl) ⟨_, _, rfl, by rw [if_pos hkn]; exact ((if_neg h8).trans (if_neg h7)).symm, rfl⟩)
  · -- 34
    have hkn : ¬ k < n := fun z => h9 (nI_lt z (by have := ht.2.1; omega))
    refine mw_go mu_g511 (k := 1) (f1 := (35, [(0, .inr (.inr (some 169))), (1, .inl (nI k))], [.inl (0 : Int32)], H)) (C := []) rfl trivial ?_
    exact mw_of (fun _ => mu_ret rfl (Or.inl rfl) ⟨_, _, rfl, by rw [if_neg hkn]; decide, rfl⟩)
