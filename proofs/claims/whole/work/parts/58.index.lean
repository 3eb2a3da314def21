/-! String.indexOf of a String constant -/
theorem mu_shr0 (x : Int32) : x >>> ((0 : Int32) &&& 31) = x := by
  rw [show ((0 : Int32) &&& 31) = 0 by decide]
  simp
theorem mu_max_0 {i : Nat} (hi : i < 2 ^ 31) : mu_max (nI i) 0 = nI i := if_neg (nI_pos hi)
/-- java/lang/StringLatin1.indexOf([BIII)I -/
abbrev mu_m110 : ev_M := (4, (some .int), [], ev_b110)
theorem mu_g110 : mu_good mu_m110 := mu_goodk ev_k110
/-- java/lang/String.indexOf(II)I -/
abbrev mu_m109 : ev_M := (3, (some .int), [], ev_b109)
theorem mu_g109 : mu_good mu_m109 := mu_goodk ev_k109
/-- java/lang/String.indexOf(I)I -/
abbrev mu_m108 : ev_M := (2, (some .int), [], ev_b108)
theorem mu_g108 : mu_good mu_m108 := mu_goodk ev_k108
theorem tx_index_ok {d : Nat} {o : Option Nat} {ch : Int32} {i m : Nat} {H : mu_H} (h0 : ¬ ch < 0) (h9 : ¬ 255 < ch) (hv : mu_isr H o 101) (hi : i < 2 ^ 31) (hm : m ≤ mu_n H (mu_p o)) (hl : mu_n H (mu_p o) < 2 ^ 31) : mu_TI (mu_D (d + 2)) 110 [.inr (.inr o), .inl ch, .inl (nI i), .inl (nI m)] H (fun x H1 => x = tx_find (fun j => mu_i H (mu_p o) j) ch.toInt8.toInt32 i (m - i) ∧ H1 = H) := by
  refine mu_meth (M := mu_m110) rfl rfl ?_
  refine mu_go mu_g110 (k := 1) (f1 := (1, [(0, .inr (.inr o)), (1, .inl ch), (2, .inl (nI i)), (3, .inl (nI m))], [.inl ch], H)) (C := []) rfl trivial ?_
  refine mu_cIe rfl trivial (tx_can_ok (d := d) h0 h9) ?_
  refine mu_if (P := (1 : Int32) = 0) (a := 7) (b := 9) rfl trivial (fun h2 => ?_) (fun h2 => ?_)
  · -- 7: (1 : Int32) = 0
    exact absurd h2 (by decide)
  · -- 9: not (1 : Int32) = 0
    refine mu_go mu_g110 (k := 2) (f1 := (11, [(0, .inr (.inr o)), (1, .inl ch), (2, .inl (nI i)), (3, .inl (nI m))], [.inl (0 : Int32), .inl (nI i)], H)) (C := []) rfl trivial ?_
    refine mu_cIe rfl trivial ((mu_max_ok (d := d) (nI i) (0 : Int32)).imp (fun x H1 q => ⟨q.1.trans (mu_max_0 (by omega)), q.2⟩)) ?_
    refine mu_go mu_g110 (k := 4) (f1 := (18, [(2, .inl (nI i)), (0, .inr (.inr o)), (1, .inl ch), (3, .inl (nI m))], [.inl (Int32.ofNat (mu_n H (mu_p o))), .inl (nI m)], H)) (C := [mu_isr H o (mu_k H (mu_p o)), 100 ≤ mu_k H (mu_p o)]) rfl (show (mu_isr H o (mu_k H (mu_p o))) ∧ (100 ≤ mu_k H (mu_p o)) from ⟨⟨hv.1, hv.2.1, rfl⟩, by rw [hv.2.2]; decide⟩) ?_
    refine mu_cIe rfl trivial ((mu_min_ok (d := d) (nI m) (Int32.ofNat (mu_n H (mu_p o)))).imp (fun x H1 q => ⟨q.1.trans (mu_min_nI hm hl), q.2⟩)) ?_
    refine mu_go mu_g110 (k := 3) (f1 := (24, [(3, .inl (nI m)), (2, .inl (nI i)), (0, .inr (.inr o)), (1, .inl ch)], [.inl (nI m), .inl (nI i)], H)) (C := []) rfl trivial ?_
    refine mu_if (P := (nI i) < (nI m)) (a := 29) (b := 27) rfl trivial (fun h5 => ?_) (fun h5 => ?_)
    · -- 29: (nI i) < (nI m)
      refine mu_go mu_g110 (k := 4) (f1 := (33, [(3, .inl (nI m)), (2, .inl (nI i)), (0, .inr (.inr o)), (1, .inl ch)], [.inl (nI m), .inl (nI i), .inl ch, .inr (.inr o)], H)) (C := []) rfl trivial ?_
      refine mu_cIe rfl trivial (tx_find_ok (d := d) hv (Nat.le_of_lt ((nI_ltI hi (by omega)).mp h5)) hm hl) ?_
      exact mu_ret rfl trivial ⟨_, _, rfl, rfl, rfl⟩
    · -- 27: not (nI i) < (nI m)
      refine mu_go mu_g110 (k := 1) (f1 := (28, [(3, .inl (nI m)), (2, .inl (nI i)), (0, .inr (.inr o)), (1, .inl ch)], [.inl (-1 : Int32)], H)) (C := []) rfl trivial ?_
      exact mu_ret rfl trivial ⟨_, _, rfl, (by rw [show m - i = 0 by have := mt (fun z => nI_lt (a := i) (b := m) z (by omega)) h5; omega]; rfl), rfl⟩
theorem tx_index2_ok {d : Nat} {o : Option Nat} {ch : Int32} {i : Nat} {H : mu_H} (h0 : ¬ ch < 0) (h9 : ¬ 255 < ch) (ho : mu_str o) (hv : mu_isr H (some (mu_p o + 1000)) 101) (hi : i < 2 ^ 31) (hl : mu_n H (mu_p o + 1000) < 2 ^ 31) : mu_TI (mu_D (d + 4)) 109 [.inr (.inr o), .inl ch, .inl (nI i)] H (fun x H1 => x = tx_find (fun j => mu_i H (mu_p o + 1000) j) ch.toInt8.toInt32 i (mu_n H (mu_p o + 1000) - i) ∧ H1 = H) := by
  refine mu_meth (M := mu_m109) rfl rfl ?_
  refine mu_go mu_g109 (k := 1) (f1 := (1, [(0, .inr (.inr o)), (1, .inl ch), (2, .inl (nI i))], [.inr (.inr o)], H)) (C := []) rfl trivial ?_
  refine mu_cIe rfl (show mu_str o from ho) (tx_latin_ok (d := d + 2) ho) ?_
  refine mu_if (P := (1 : Int32) = 0) (a := 23) (b := 7) rfl trivial (fun h2 => ?_) (fun h2 => ?_)
  · -- 23: (1 : Int32) = 0
    exact absurd h2 (by decide)
  · -- 7: not (1 : Int32) = 0
    refine mu_go mu_g109 (k := 5) (f1 := (14, [(0, .inr (.inr o)), (1, .inl ch), (2, .inl (nI i))], [.inr (.inr o), .inl (nI i), .inl ch, .inr (.inr (some ((mu_p o) + 1000)))], H)) (C := [mu_str o]) rfl (show mu_str o from ho) ?_
    refine mu_cIe rfl (show mu_str o from ho) ((tx_length_ok (d := d + 1) ho hv).imp (fun x H1 q => ⟨q.1.trans (mu_shr0 _), q.2⟩)) ?_
    refine mu_cIe rfl trivial (tx_index_ok (d := d + 1) (m := mu_n H (mu_p o + 1000)) h0 h9 hv hi (Nat.le_refl _) hl) ?_
    refine mu_go mu_g109 (k := 1) (f1 := (36, [(0, .inr (.inr o)), (1, .inl ch), (2, .inl (nI i))], [.inl (tx_find (fun j => mu_i H (mu_p o + 1000) j) ch.toInt8.toInt32 i (mu_n H (mu_p o + 1000) - i))], H)) (C := []) rfl trivial ?_
    exact mu_ret rfl trivial ⟨_, _, rfl, rfl, rfl⟩
theorem tx_indexOf_ok {d : Nat} {o : Option Nat} {ch : Int32} {H : mu_H} (h0 : ¬ ch < 0) (h9 : ¬ 255 < ch) (ho : mu_str o) (hv : mu_isr H (some (mu_p o + 1000)) 101) (hl : mu_n H (mu_p o + 1000) < 2 ^ 31) : mu_TI (mu_D (d + 5)) 108 [.inr (.inr o), .inl ch] H (fun x H1 => x = tx_find (fun j => mu_i H (mu_p o + 1000) j) ch.toInt8.toInt32 0 (mu_n H (mu_p o + 1000)) ∧ H1 = H) := by
  refine mu_meth (M := mu_m108) rfl rfl ?_
  refine mu_go mu_g108 (k := 3) (f1 := (3, [(0, .inr (.inr o)), (1, .inl ch)], [.inl (0 : Int32), .inl ch, .inr (.inr o)], H)) (C := []) rfl trivial ?_
  refine mu_cIe rfl (show mu_str o from ho) (tx_index2_ok (d := d) (i := 0) h0 h9 ho hv (by decide) hl) ?_
  exact mu_ret rfl trivial ⟨_, _, rfl, rfl, rfl⟩
