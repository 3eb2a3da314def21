/-! The place of a letter in a text -/
/-- java/lang/StringLatin1.indexOfChar([BIII)I -/
abbrev mu_m112 : ev_M := (6, (some .int), [], ev_b112)
theorem mu_g112 : mu_good mu_m112 := mu_goodk ev_k112
/-- java/lang/StringLatin1.canEncode(I)Z -/
abbrev mu_m111 : ev_M := (1, (some .boolean), [], ev_b111)
theorem mu_g111 : mu_good mu_m111 := mu_goodk ev_k111
/-- the first place from i on, of k places, where f is c; -1: none -/
def tx_find (f : Nat → Int32) (c : Int32) : Nat → Nat → Int32
  | _, 0 => -1
  | i, k + 1 => if f i = c then nI i else tx_find f c (i + 1) k
theorem mu_MT.ot {run : Nat → List ev_V → List ev_C → Option ev_R} {j : Nat} {as : List mu_V} {H : mu_H} {Ψ : mu_R → Prop} (h : mu_ot H → mu_MT run j as H Ψ) : mu_MT run j as H Ψ := fun w hr => h hr.2.1.2 w hr
theorem tx_find_loop {run : Nat → List ev_V → List ev_C → Option ev_R} {o : Option Nat} {c ch : Int32} {i0 m : Nat} {H : mu_H} (hv : mu_isr H o 101) (hm : m ≤ mu_n H (mu_p o)) (hl : mu_n H (mu_p o) < 2 ^ 31) : ∀ k i, i + k = m → mu_HT run mu_m112 (7, [(5, .inl (nI i)), (4, .inl c), (0, .inr (.inr o)), (1, .inl ch), (2, .inl (nI i0)), (3, .inl (nI m))], [], H) (fun r => ∃ x H1, r = (.inl (some (.inl x)), H1) ∧ x = tx_find (fun j => mu_i H (mu_p o) j) c i k ∧ H1 = H)
  | 0, i, hk => by
    refine mu_go mu_g112 (k := 2) (f1 := (10, [(5, .inl (nI i)), (4, .inl c), (0, .inr (.inr o)), (1, .inl ch), (2, .inl (nI i0)), (3, .inl (nI m))], [.inl (nI m), .inl (nI i)], H)) (C := []) rfl trivial ?_
    refine mu_if (P := (nI i) < (nI m)) (a := 13) (b := 31) rfl trivial (fun h1 => ?_) (fun h1 => ?_)
    · -- 13: (nI i) < (nI m)
      exact absurd h1 (nI_nlt (by omega) (by omega))
    · -- 31: not (nI i) < (nI m)
      refine mu_go mu_g112 (k := 1) (f1 := (32, [(5, .inl (nI i)), (4, .inl c), (0, .inr (.inr o)), (1, .inl ch), (2, .inl (nI i0)), (3, .inl (nI m))], [.inl (-1 : Int32)], H)) (C := []) rfl trivial ?_
      exact mu_ret rfl trivial ⟨_, _, rfl, rfl, rfl⟩
  | k + 1, i, hk => by
    refine mu_go mu_g112 (k := 2) (f1 := (10, [(5, .inl (nI i)), (4, .inl c), (0, .inr (.inr o)), (1, .inl ch), (2, .inl (nI i0)), (3, .inl (nI m))], [.inl (nI m), .inl (nI i)], H)) (C := []) rfl trivial ?_
    refine mu_if (P := (nI i) < (nI m)) (a := 13) (b := 31) rfl trivial (fun h1 => ?_) (fun h1 => ?_)
    · -- 13: (nI i) < (nI m)
      refine mu_go mu_g112 (k := 4) (f1 := (19, [(5, .inl (nI i)), (4, .inl c), (0, .inr (.inr o)), (1, .inl ch), (2, .inl (nI i0)), (3, .inl (nI m))], [.inl c, .inl (mu_i H (mu_p o) (nI i).toNatClampNeg)], H)) (C := [mu_isr H o 101, vp_in (nI i) (mu_n H (mu_p o))]) rfl (show (mu_isr H o 101) ∧ (vp_in (nI i) (mu_n H (mu_p o))) from ⟨hv, vp_in_nI (by omega) hl⟩) ?_
      refine mu_if (P := (mu_i H (mu_p o) (nI i).toNatClampNeg) = c) (a := 22) (b := 25) rfl trivial (fun h2 => ?_) (fun h2 => ?_)
      · -- 22: (mu_i H (mu_p o) (nI i).toNatClampNeg) = c
        refine mu_go mu_g112 (k := 1) (f1 := (24, [(5, .inl (nI i)), (4, .inl c), (0, .inr (.inr o)), (1, .inl ch), (2, .inl (nI i0)), (3, .inl (nI m))], [.inl (nI i)], H)) (C := []) rfl trivial ?_
        exact mu_ret rfl trivial ⟨_, _, rfl, (if_pos (by have e := h2; rw [nI_clamp (show i < 2 ^ 31 by omega)] at e; exact e)).symm, rfl⟩
      · -- 25: not (mu_i H (mu_p o) (nI i).toNatClampNeg) = c
        refine mu_go mu_g112 (k := 2) (f1 := (7, [(5, .inl ((nI i) + 1)), (4, .inl c), (0, .inr (.inr o)), (1, .inl ch), (2, .inl (nI i0)), (3, .inl (nI m))], [], H)) (C := []) rfl trivial ?_
        rw [← nI_succ]; exact (tx_find_loop hv hm hl k (i + 1) (by omega)).imp (fun r q => by obtain ⟨x, H1, e1, e2, e3⟩ := q; exact ⟨x, H1, e1, e2.trans (if_neg (by have e := h2; rw [nI_clamp (show i < 2 ^ 31 by omega)] at e; exact e)).symm, e3⟩)
    · -- 31: not (nI i) < (nI m)
      exact absurd (nI_lt (by omega) (by omega)) h1
theorem tx_find_ok {d : Nat} {o : Option Nat} {ch : Int32} {i m : Nat} {H : mu_H} (hv : mu_isr H o 101) (hi : i ≤ m) (hm : m ≤ mu_n H (mu_p o)) (hl : mu_n H (mu_p o) < 2 ^ 31) : mu_TI (mu_D (d + 1)) 112 [.inr (.inr o), .inl ch, .inl (nI i), .inl (nI m)] H (fun x H1 => x = tx_find (fun j => mu_i H (mu_p o) j) ch.toInt8.toInt32 i (m - i) ∧ H1 = H) := by
  refine mu_meth (M := mu_m112) rfl rfl ?_
  refine mu_go mu_g112 (k := 5) (f1 := (7, [(5, .inl (nI i)), (4, .inl (ch.toInt8.toInt32)), (0, .inr (.inr o)), (1, .inl ch), (2, .inl (nI i)), (3, .inl (nI m))], [], H)) (C := []) rfl trivial ?_
  exact tx_find_loop hv hm hl (m - i) i (by omega)
theorem tx_can_ok {d : Nat} {ch : Int32} {H : mu_H} (h0 : ¬ ch < 0) (h9 : ¬ 255 < ch) : mu_TI (mu_D (d + 1)) 111 [.inl ch] H (fun x H1 => x = 1 ∧ H1 = H) := by
  refine mu_meth (M := mu_m111) rfl rfl ?_
  refine mu_go mu_g111 (k := 1) (f1 := (1, [(0, .inl ch)], [.inl ch], H)) (C := []) rfl trivial ?_
  refine mu_if (P := ch < 0) (a := 15) (b := 4) rfl trivial (fun h1 => ?_) (fun h1 => ?_)
  · -- 15: ch < 0
    first | exact absurd h1 h0 | exact absurd h2 h9
  · -- 4: not ch < 0
    refine mu_go mu_g111 (k := 2) (f1 := (8, [(0, .inl ch)], [.inl (255 : Int32), .inl ch], H)) (C := []) rfl trivial ?_
    refine mu_if (P := (255 : Int32) < ch) (a := 15) (b := 11) rfl trivial (fun h2 => ?_) (fun h2 => ?_)
    · -- 15: (255 : Int32) < ch
      first | exact absurd h1 h0 | exact absurd h2 h9
    · -- 11: not (255 : Int32) < ch
      refine mu_go mu_g111 (k := 2) (f1 := (16, [(0, .inl ch)], [.inl (1 : Int32)], H)) (C := []) rfl trivial ?_
      exact mu_ret rfl (Or.inr rfl) ⟨_, _, rfl, rfl, rfl⟩
