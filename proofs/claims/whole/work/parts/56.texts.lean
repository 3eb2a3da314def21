/-! Texts: the length and the letters of a String constant; the place of a letter -/
/-- java/lang/String.coder()B -/
abbrev mu_m7 : ev_M := (1, (some .byte), [], ev_b7)
theorem mu_g7 : mu_good mu_m7 := mu_goodk ev_k7
/-- java/lang/String.isLatin1()Z -/
abbrev mu_m9 : ev_M := (1, (some .boolean), [], ev_b9)
theorem mu_g9 : mu_good mu_m9 := mu_goodk ev_k9
/-- jdk/internal/util/Preconditions.checkIndex(IILjava/util/function/BiFunction;)I -/
abbrev mu_m12 : ev_M := (3, (some .int), [], ev_b12)
theorem mu_g12 : mu_good mu_m12 := mu_goodk ev_k12
/-- java/lang/String.checkIndex(II)V -/
abbrev mu_m11 : ev_M := (2, none, [], ev_b11)
theorem mu_g11 : mu_good mu_m11 := mu_goodk ev_k11
/-- java/lang/StringLatin1.charAt([BI)C -/
abbrev mu_m10 : ev_M := (2, (some .char), [], ev_b10)
theorem mu_g10 : mu_good mu_m10 := mu_goodk ev_k10
/-- java/lang/String.length()I -/
abbrev mu_m6 : ev_M := (1, (some .int), [], ev_b6)
theorem mu_g6 : mu_good mu_m6 := mu_goodk ev_k6
/-- java/lang/String.charAt(I)C -/
abbrev mu_m8 : ev_M := (2, (some .char), [], ev_b8)
theorem mu_g8 : mu_good mu_m8 := mu_goodk ev_k8
theorem tx_coder_ok {d : Nat} {o : Option Nat} {H : mu_H} (ho : mu_str o) : mu_TI (mu_D (d + 1)) 7 [.inr (.inr o)] H (fun x H1 => x = 0 ∧ H1 = H) := by
  refine mu_meth (M := mu_m7) rfl rfl ?_
  refine mu_go mu_g7 (k := 1) (f1 := (3, [(0, .inr (.inr o))], [.inl (1 : Int32)], H)) (C := []) rfl trivial ?_
  refine mu_if (P := (1 : Int32) = 0) (a := 13) (b := 6) rfl trivial (fun h1 => ?_) (fun h1 => ?_)
  · -- 13: (1 : Int32) = 0
    exact absurd h1 (by decide)
  · -- 6: not (1 : Int32) = 0
    refine mu_go mu_g7 (k := 3) (f1 := (14, [(0, .inr (.inr o))], [.inl (0 : Int32)], H)) (C := [mu_str o]) rfl (show mu_str o from ho) ?_
    exact mu_ret rfl (show narrow .byte (.int 0) = .int 0 by decide +kernel) ⟨_, _, rfl, rfl, rfl⟩
theorem tx_latin_ok {d : Nat} {o : Option Nat} {H : mu_H} (ho : mu_str o) : mu_TI (mu_D (d + 1)) 9 [.inr (.inr o)] H (fun x H1 => x = 1 ∧ H1 = H) := by
  refine mu_meth (M := mu_m9) rfl rfl ?_
  refine mu_go mu_g9 (k := 1) (f1 := (3, [(0, .inr (.inr o))], [.inl (1 : Int32)], H)) (C := []) rfl trivial ?_
  refine mu_if (P := (1 : Int32) = 0) (a := 17) (b := 6) rfl trivial (fun h1 => ?_) (fun h1 => ?_)
  · -- 17: (1 : Int32) = 0
    first | exact absurd h1 (by decide) | exact absurd rfl h2
  · -- 6: not (1 : Int32) = 0
    refine mu_go mu_g9 (k := 2) (f1 := (10, [(0, .inr (.inr o))], [.inl (0 : Int32)], H)) (C := [mu_str o]) rfl (show mu_str o from ho) ?_
    refine mu_if (P := (0 : Int32) = 0) (a := 13) (b := 17) rfl trivial (fun h2 => ?_) (fun h2 => ?_)
    · -- 13: (0 : Int32) = 0
      refine mu_go mu_g9 (k := 2) (f1 := (18, [(0, .inr (.inr o))], [.inl (1 : Int32)], H)) (C := []) rfl trivial ?_
      exact mu_ret rfl (Or.inr rfl) ⟨_, _, rfl, rfl, rfl⟩
    · -- 17: not (0 : Int32) = 0
      first | exact absurd h1 (by decide) | exact absurd rfl h2
theorem tx_check_ok {d : Nat} {i n : Int32} {o : Option Nat} {H : mu_H} (h0 : ¬ i < 0) (hn : i < n) : mu_TI (mu_D (d + 1)) 12 [.inl i, .inl n, .inr (.inr o)] H (fun x H1 => x = i ∧ H1 = H) := by
  refine mu_meth (M := mu_m12) rfl rfl ?_
  refine mu_go mu_g12 (k := 1) (f1 := (1, [(0, .inl i), (1, .inl n), (2, .inr (.inr o))], [.inl i], H)) (C := []) rfl trivial ?_
  refine mu_if (P := i < 0) (a := 9) (b := 4) rfl trivial (fun h1 => ?_) (fun h1 => ?_)
  · -- 9: i < 0
    first | exact absurd h1 h0 | exact absurd hn h2
  · -- 4: not i < 0
    refine mu_go mu_g12 (k := 2) (f1 := (6, [(0, .inl i), (1, .inl n), (2, .inr (.inr o))], [.inl n, .inl i], H)) (C := []) rfl trivial ?_
    refine mu_if (P := i < n) (a := 16) (b := 9) rfl trivial (fun h2 => ?_) (fun h2 => ?_)
    · -- 16: i < n
      refine mu_go mu_g12 (k := 1) (f1 := (17, [(0, .inl i), (1, .inl n), (2, .inr (.inr o))], [.inl i], H)) (C := []) rfl trivial ?_
      exact mu_ret rfl trivial ⟨_, _, rfl, rfl, rfl⟩
    · -- 9: not i < n
      first | exact absurd h1 h0 | exact absurd hn h2
theorem tx_check2_ok {d : Nat} {i n : Int32} {H : mu_H} (h0 : ¬ i < 0) (h1 : i < n) : mu_TV (mu_D (d + 2)) 11 [.inl i, .inl n] H (fun H1 => H1 = H) := by
  refine mu_meth (M := mu_m11) rfl rfl ?_
  refine mu_go mu_g11 (k := 3) (f1 := (5, [(0, .inl i), (1, .inl n)], [.inr (.inr (some 3000000)), .inl n, .inl i], H)) (C := []) rfl trivial ?_
  refine mu_cIe rfl trivial (tx_check_ok (d := d) h0 h1) ?_
  refine mu_go mu_g11 (k := 1) (f1 := (9, [(0, .inl i), (1, .inl n)], [], H)) (C := []) rfl trivial ?_
  exact mu_ret rfl trivial ⟨_, rfl, rfl⟩
/-- a byte as a char -/
def tx_chr (b : Int32) : Int32 := ((b &&& 255).toUInt32 % 65536).toInt32
theorem tx_at_ok {d : Nat} {o : Option Nat} {i : Int32} {H : mu_H} (hv : mu_isr H o 101) (hin : vp_in i (mu_n H (mu_p o))) (hl : mu_n H (mu_p o) < 2 ^ 31) : mu_TI (mu_D (d + 3)) 10 [.inr (.inr o), .inl i] H (fun x H1 => x = tx_chr (mu_i H (mu_p o) i.toNatClampNeg) ∧ H1 = H) := by
  have h0 : ¬ i < 0 := fun z => hin (Or.inl z)
  have h1 : i < Int32.ofNat (mu_n H (mu_p o)) := by
    obtain ⟨j, hj, rfl⟩ := vp_in_of hin hl
    exact nI_lt hj hl
  refine mu_meth (M := mu_m10) rfl rfl ?_
  refine mu_go mu_g10 (k := 3) (f1 := (3, [(0, .inr (.inr o)), (1, .inl i)], [.inl (Int32.ofNat (mu_n H (mu_p o))), .inl i], H)) (C := [mu_isr H o (mu_k H (mu_p o)), 100 ≤ mu_k H (mu_p o)]) rfl (show (mu_isr H o (mu_k H (mu_p o))) ∧ (100 ≤ mu_k H (mu_p o)) from ⟨⟨hv.1, hv.2.1, rfl⟩, by rw [hv.2.2]; decide⟩) ?_
  refine mu_cVe rfl trivial (tx_check2_ok (d := d) h0 h1) ?_
  refine mu_go mu_g10 (k := 6) (f1 := (14, [(0, .inr (.inr o)), (1, .inl i)], [.inl ((((mu_i H (mu_p o) i.toNatClampNeg) &&& (255 : Int32)).toUInt32 % 65536).toInt32)], H)) (C := [mu_isr H o 101, vp_in i (mu_n H (mu_p o))]) rfl (show (mu_isr H o 101) ∧ (vp_in i (mu_n H (mu_p o))) from ⟨hv, hin⟩) ?_
  exact mu_ret rfl (pk_nc _) ⟨_, _, rfl, rfl, rfl⟩
/-- the bytes of a text can be read -/
theorem tx_val {o : Option Nat} {H : mu_H} (ho : mu_str o) (hH : mu_ot H) : mu_isr H (some (mu_p o + 1000)) 101 ∧ ∃ j, j < ev_jk ∧ mu_p o = 1000000 + j ∧ mu_n H (mu_p o + 1000) = (ev_kb.getD j []).length ∧ ∀ i, mu_i H (mu_p o + 1000) i = (ev_kb.getD j []).getD i 0 := by
  obtain ⟨g1, g2, g3⟩ := ho
  obtain ⟨j, ej⟩ : ∃ j, mu_p o = 1000000 + j := ⟨mu_p o - 1000000, by omega⟩
  have hj : j < ev_jk := by omega
  have hj79 : j < 79 := hj
  have e : mu_p o + 1000 = 1001000 + j := by omega
  obtain ⟨a1, a2, a3⟩ := hH j (show j < 80 by omega)
  rw [e]
  refine ⟨⟨rfl, Or.inr ⟨Nat.le_add_right _ _, show 1001000 + j < 1001000 + 80 by omega⟩, ?_⟩, j, hj, ej, a2, a3⟩
  show mu_k H (1001000 + j) = 101
  rw [a1]
  unfold ev_oty
  have hb : Nat.beq (1000 + j - 1000 + 1) ev_kb.length = false := by
    cases hq : Nat.beq (1000 + j - 1000 + 1) ev_kb.length with
    | false => rfl
    | true =>
      have z : 1000 + j - 1000 + 1 = 80 := Nat.eq_of_beq_eq_true hq
      omega
  rw [hb]
  rfl
theorem tx_length_ok {d : Nat} {o : Option Nat} {H : mu_H} (ho : mu_str o) (hv : mu_isr H (some (mu_p o + 1000)) 101) : mu_TI (mu_D (d + 2)) 6 [.inr (.inr o)] H (fun x H1 => x = Int32.ofNat (mu_n H (mu_p o + 1000)) >>> ((0 : Int32) &&& 31) ∧ H1 = H) := by
  refine mu_meth (M := mu_m6) rfl rfl ?_
  refine mu_go mu_g6 (k := 4) (f1 := (6, [(0, .inr (.inr o))], [.inr (.inr o), .inl (Int32.ofNat (mu_n H ((mu_p o) + 1000)))], H)) (C := [mu_str o, mu_isr H (some ((mu_p o) + 1000)) (mu_k H ((mu_p o) + 1000)), 100 ≤ mu_k H ((mu_p o) + 1000)]) rfl (show (mu_str o) ∧ (mu_isr H (some ((mu_p o) + 1000)) (mu_k H ((mu_p o) + 1000))) ∧ (100 ≤ mu_k H ((mu_p o) + 1000)) from ⟨ho, ⟨rfl, hv.2.1, rfl⟩, by rw [show mu_k H (mu_p o + 1000) = 101 from hv.2.2]; decide⟩) ?_
  refine mu_cIe rfl (show mu_str o from ho) (tx_coder_ok (d := d) ho) ?_
  refine mu_go mu_g6 (k := 1) (f1 := (10, [(0, .inr (.inr o))], [.inl ((Int32.ofNat (mu_n H ((mu_p o) + 1000))) >>> ((0 : Int32) &&& 31))], H)) (C := []) rfl trivial ?_
  exact mu_ret rfl trivial ⟨_, _, rfl, rfl, rfl⟩
theorem tx_charAt_ok {d : Nat} {o : Option Nat} {i : Int32} {H : mu_H} (ho : mu_str o) (hv : mu_isr H (some (mu_p o + 1000)) 101) (hin : vp_in i (mu_n H (mu_p (some (mu_p o + 1000))))) (hl : mu_n H (mu_p (some (mu_p o + 1000))) < 2 ^ 31) : mu_TI (mu_D (d + 4)) 8 [.inr (.inr o), .inl i] H (fun x H1 => x = tx_chr (mu_i H (mu_p (some (mu_p o + 1000))) i.toNatClampNeg) ∧ H1 = H) := by
  refine mu_meth (M := mu_m8) rfl rfl ?_
  refine mu_go mu_g8 (k := 1) (f1 := (1, [(0, .inr (.inr o)), (1, .inl i)], [.inr (.inr o)], H)) (C := []) rfl trivial ?_
  refine mu_cIe rfl (show mu_str o from ho) (tx_latin_ok (d := d + 2) ho) ?_
  refine mu_if (P := (1 : Int32) = 0) (a := 16) (b := 7) rfl trivial (fun h2 => ?_) (fun h2 => ?_)
  · -- 16: (1 : Int32) = 0
    exact absurd h2 (by decide)
  · -- 7: not (1 : Int32) = 0
    refine mu_go mu_g8 (k := 3) (f1 := (12, [(0, .inr (.inr o)), (1, .inl i)], [.inl i, .inr (.inr (some ((mu_p o) + 1000)))], H)) (C := [mu_str o]) rfl (show mu_str o from ho) ?_
    refine mu_cIe rfl trivial (tx_at_ok (d := d) hv hin hl) ?_
    exact mu_ret rfl (pk_nc _) ⟨_, _, rfl, rfl, rfl⟩
