/-! Strings, constants and those of the world: what they hold; String.equals -/
/-- a String's bytes, its coder -/
def sbv (H : mu_H) (o : Option Nat) : Option Nat := if 1000000 ≤ mu_p o then some (mu_p o + 1000) else mu_r H (mu_p o) 0
def sbc (H : mu_H) (o : Option Nat) : Int32 := if 1000000 ≤ mu_p o then 0 else mu_i H (mu_p o) 1
/-- an array of bytes that may be read holds the letters b -/
def bya (H : mu_H) (a : Option Nat) (b : List Int32) : Prop := mu_isr H a 101 ∧ mu_n H (mu_p a) = b.length ∧ ∀ i, i < b.length → mu_i H (mu_p a) i = b.getD i 0
/-- a String holds the letters b -/
def sb (H : mu_H) (o : Option Nat) (b : List Int32) : Prop := mu_sg H o ∧ sbc H o = 0 ∧ bya H (sbv H o) b
theorem lst_ext {a b : List Int32} (hl : a.length = b.length) (h : ∀ t, t < a.length → a.getD t 0 = b.getD t 0) : a = b := ev_list_ext hl h
theorem bya.one {H : mu_H} {a : Option Nat} {b b' : List Int32} (h : bya H a b) (h' : bya H a b') : b = b' :=
  lst_ext (h.2.1.symm.trans h'.2.1) (fun t ht => (h.2.2 t ht).symm.trans (h'.2.2 t (by rw [← h'.2.1, h.2.1]; exact ht)))
theorem sb.one {H : mu_H} {o : Option Nat} {b b' : List Int32} (h : sb H o b) (h' : sb H o b') : b = b' := h.2.2.one h'.2.2
theorem mu_MT.oz {run : Nat → List ev_V → List ev_C → Option ev_R} {j : Nat} {as : List mu_V} {H : mu_H} {Ψ : mu_R → Prop} (h : mu_z H ≤ 1000000 → mu_MT run j as H Ψ) : mu_MT run j as H Ψ := fun w hr => h hr.2.1.1 w hr
/-- a constant holds its text -/
theorem sb_lit {H : mu_H} (ho : mu_ot H) {j : Nat} (hj : j < ev_jk) : sb H (some (1000000 + j)) (ev_kb.getD j []) := by
  have hj79 : j < 79 := hj
  have hl : ev_kb.length = 80 := rfl
  obtain ⟨a1, a2, a3⟩ := ho j (by rw [hl]; omega)
  have ht : ev_oty ev_kb (1000 + j) = 1 := by
    unfold ev_oty
    rw [Nat.add_sub_cancel_left, hl]
    cases hb : Nat.beq (j + 1) 80 with
    | false => rfl
    | true => exact absurd (Nat.eq_of_beq_eq_true hb) (by omega)
  have ev : sbv H (some (1000000 + j)) = some (1001000 + j) := by
    show (if 1000000 ≤ 1000000 + j then some (1000000 + j + 1000) else _) = _
    rw [if_pos (Nat.le_add_right _ _), show 1000000 + j + 1000 = 1001000 + j by omega]
  refine ⟨Or.inl ⟨rfl, Nat.le_add_right _ _, ?_⟩, ?_, ?_⟩
  · show 1000000 + j < 1000000 + ev_jk
    omega
  · show (if 1000000 ≤ 1000000 + j then 0 else _) = 0
    rw [if_pos (Nat.le_add_right _ _)]
  · rw [ev]
    refine ⟨⟨rfl, Or.inr ⟨?_, ?_⟩, ?_⟩, ?_, fun i _ => a3 i⟩
    · show 1001000 ≤ 1001000 + j
      omega
    · show 1001000 + j < 1001000 + ev_kb.length
      rw [hl]; omega
    · show mu_k H (1001000 + j) = 101
      rw [a1, ht]
    · exact a2
section SbRules
variable {run : Nat → List ev_V → List ev_C → Option ev_R} {M : ev_M}
theorem mu_gS0 {pc idx pl : Nat} {L : mu_L} {S : List mu_V} {o : Option Nat} {H : mu_H} {Φ : mu_R → Prop} (hM : mu_good M) (hz : mu_z H ≤ 1000000) (hf : ev_find M.2.2.2 pc = some (.getfield idx, [pl, 0])) (ho : mu_sg H o) (h : mu_HT run M (pc + 3, L, .inr (.inr (sbv H o)) :: S, H) Φ) : mu_HT run M (pc, L, .inr (.inr o) :: S, H) Φ := by
  rcases ho with ho | ho
  · have e : sbv H o = some (mu_p o + 1000) := if_pos ho.2.1
    rw [e] at h
    exact mu_step_ht hM (f := (pc, L, .inr (.inr o) :: S, H)) hf (C := [mu_str o]) rfl ho h
  · have e : sbv H o = mu_r H (mu_p o) 0 := if_neg (by have := ho.2.1; omega)
    rw [e] at h
    exact mu_getS0 hf ho h
theorem mu_gS1 {pc idx pl : Nat} {L : mu_L} {S : List mu_V} {o : Option Nat} {H : mu_H} {Φ : mu_R → Prop} (hM : mu_good M) (hz : mu_z H ≤ 1000000) (hf : ev_find M.2.2.2 pc = some (.getfield idx, [pl, 1])) (ho : mu_sg H o) (h : mu_HT run M (pc + 3, L, .inl (sbc H o) :: S, H) Φ) : mu_HT run M (pc, L, .inr (.inr o) :: S, H) Φ := by
  rcases ho with ho | ho
  · have e : sbc H o = 0 := if_pos ho.2.1
    rw [e] at h
    exact mu_step_ht hM (f := (pc, L, .inr (.inr o) :: S, H)) hf (C := [mu_str o]) rfl ho h
  · have e : sbc H o = mu_i H (mu_p o) 1 := if_neg (by have := ho.2.1; omega)
    rw [e] at h
    exact mu_getS1 hf ho h
end SbRules
/-- java/lang/StringLatin1.equals([B[B)Z -/
abbrev mu_m114 : ev_M := (3, (some .boolean), [], ev_b114)
theorem mu_g114 : mu_good mu_m114 := mu_goodk ev_k114
/-- java/lang/String.equals(Ljava/lang/Object;)Z -/
abbrev mu_m113 : ev_M := (3, (some .boolean), [], ev_b113)
theorem mu_g113 : mu_good mu_m113 := mu_goodk ev_k113
theorem sb_eqloop {run : Nat → List ev_V → List ev_C → Option ev_R} {o1 o2 : Option Nat} {b1 b2 : List Int32} {H : mu_H} (k1 : bya H o1 b1) (k2 : bya H o2 b2) (l1 : b1.length < 2 ^ 31) (l2 : b2.length < 2 ^ 31) (hl : b1.length = b2.length) : ∀ k i, i + k = b1.length → (∀ t, t < i → b1.getD t 0 = b2.getD t 0) → mu_HT run mu_m114 (9, [(2, .inl (nI i)), (0, .inr (.inr o1)), (1, .inr (.inr o2))], [], H) (fun r => ∃ x H1, r = (.inl (some (.inl x)), H1) ∧ x = (if b1 = b2 then 1 else 0) ∧ H1 = H)
  | 0, i, hk, he => by
    refine mu_go mu_g114 (k := 3) (f1 := (12, [(2, .inl (nI i)), (0, .inr (.inr o1)), (1, .inr (.inr o2))], [.inl (Int32.ofNat (mu_n H (mu_p o1))), .inl (nI i)], H)) (C := [mu_isr H o1 (mu_k H (mu_p o1)), 100 ≤ mu_k H (mu_p o1)]) rfl (show (mu_isr H o1 (mu_k H (mu_p o1))) ∧ (100 ≤ mu_k H (mu_p o1)) from ⟨(by rw [k1.1.2.2]; exact k1.1), (by rw [k1.1.2.2]; decide)⟩) ?_
    refine mu_if (P := (nI i) < (Int32.ofNat (mu_n H (mu_p o1)))) (a := 15) (b := 32) rfl trivial (fun h1 => ?_) (fun h1 => ?_)
    · -- 15: (nI i) < (Int32.ofNat (mu_n H (mu_p o1)))
      exact absurd h1 (by rw [k1.2.1]; exact nI_nlt (by omega) (by omega))
    · -- 32: not (nI i) < (Int32.ofNat (mu_n H (mu_p o1)))
      refine mu_go mu_g114 (k := 1) (f1 := (33, [(2, .inl (nI i)), (0, .inr (.inr o1)), (1, .inr (.inr o2))], [.inl (1 : Int32)], H)) (C := []) rfl trivial ?_
      exact mu_ret rfl (Or.inr rfl) ⟨_, _, rfl, (if_pos (lst_ext hl (fun t ht => he t (by omega)))).symm, rfl⟩
  | k + 1, i, hk, he => by
    refine mu_go mu_g114 (k := 3) (f1 := (12, [(2, .inl (nI i)), (0, .inr (.inr o1)), (1, .inr (.inr o2))], [.inl (Int32.ofNat (mu_n H (mu_p o1))), .inl (nI i)], H)) (C := [mu_isr H o1 (mu_k H (mu_p o1)), 100 ≤ mu_k H (mu_p o1)]) rfl (show (mu_isr H o1 (mu_k H (mu_p o1))) ∧ (100 ≤ mu_k H (mu_p o1)) from ⟨(by rw [k1.1.2.2]; exact k1.1), (by rw [k1.1.2.2]; decide)⟩) ?_
    refine mu_if (P := (nI i) < (Int32.ofNat (mu_n H (mu_p o1)))) (a := 15) (b := 32) rfl trivial (fun h1 => ?_) (fun h1 => ?_)
    · -- 15: (nI i) < (Int32.ofNat (mu_n H (mu_p o1)))
      refine mu_go mu_g114 (k := 6) (f1 := (21, [(2, .inl (nI i)), (0, .inr (.inr o1)), (1, .inr (.inr o2))], [.inl (mu_i H (mu_p o2) (nI i).toNatClampNeg), .inl (mu_i H (mu_p o1) (nI i).toNatClampNeg)], H)) (C := [mu_isr H o1 101, vp_in (nI i) (mu_n H (mu_p o1)), mu_isr H o2 101, vp_in (nI i) (mu_n H (mu_p o2))]) rfl (show (mu_isr H o1 101) ∧ (vp_in (nI i) (mu_n H (mu_p o1))) ∧ (mu_isr H o2 101) ∧ (vp_in (nI i) (mu_n H (mu_p o2))) from ⟨k1.1, vp_in_nI (by rw [k1.2.1]; omega) (by rw [k1.2.1]; omega), k2.1, vp_in_nI (by rw [k2.2.1]; omega) (by rw [k2.2.1]; omega)⟩) ?_
      refine mu_if (P := (mu_i H (mu_p o1) (nI i).toNatClampNeg) = (mu_i H (mu_p o2) (nI i).toNatClampNeg)) (a := 26) (b := 24) rfl trivial (fun h2 => ?_) (fun h2 => ?_)
      · -- 26: (mu_i H (mu_p o1) (nI i).toNatClampNeg) = (mu_i H (mu_p o2) (nI i).toNatClampNeg)
        refine mu_go mu_g114 (k := 2) (f1 := (9, [(2, .inl ((nI i) + 1)), (0, .inr (.inr o1)), (1, .inr (.inr o2))], [], H)) (C := []) rfl trivial ?_
        rw [← nI_succ]; exact sb_eqloop k1 k2 l1 l2 hl k (i + 1) (by omega) (fun t ht => by
          by_cases e : t = i
          · subst e
            rw [nI_clamp (show t < 2 ^ 31 by omega), k1.2.2 t (by omega), k2.2.2 t (by omega)] at h2
            exact h2
          · exact he t (by omega))
      · -- 24: not (mu_i H (mu_p o1) (nI i).toNatClampNeg) = (mu_i H (mu_p o2) (nI i).toNatClampNeg)
        refine mu_go mu_g114 (k := 1) (f1 := (25, [(2, .inl (nI i)), (0, .inr (.inr o1)), (1, .inr (.inr o2))], [.inl (0 : Int32)], H)) (C := []) rfl trivial ?_
        exact mu_ret rfl (Or.inl rfl) ⟨_, _, rfl, (if_neg (fun e => h2 (by rw [nI_clamp (show i < 2 ^ 31 by omega), k1.2.2 i (by omega), k2.2.2 i (by omega), e]))).symm, rfl⟩
    · -- 32: not (nI i) < (Int32.ofNat (mu_n H (mu_p o1)))
      exact absurd (by rw [k1.2.1]; exact nI_lt (by omega) (by omega)) h1
theorem sb_eq_ok {d : Nat} {o1 o2 : Option Nat} {b1 b2 : List Int32} {H : mu_H} (k1 : bya H o1 b1) (k2 : bya H o2 b2) (l1 : b1.length < 2 ^ 31) (l2 : b2.length < 2 ^ 31) : mu_TI (mu_D (d + 1)) 114 [.inr (.inr o1), .inr (.inr o2)] H (fun x H1 => x = (if b1 = b2 then 1 else 0) ∧ H1 = H) := by
  refine mu_meth (M := mu_m114) rfl rfl ?_
  refine mu_go mu_g114 (k := 4) (f1 := (4, [(0, .inr (.inr o1)), (1, .inr (.inr o2))], [.inl (Int32.ofNat (mu_n H (mu_p o2))), .inl (Int32.ofNat (mu_n H (mu_p o1)))], H)) (C := [mu_isr H o1 (mu_k H (mu_p o1)), 100 ≤ mu_k H (mu_p o1), mu_isr H o2 (mu_k H (mu_p o2)), 100 ≤ mu_k H (mu_p o2)]) rfl (show (mu_isr H o1 (mu_k H (mu_p o1))) ∧ (100 ≤ mu_k H (mu_p o1)) ∧ (mu_isr H o2 (mu_k H (mu_p o2))) ∧ (100 ≤ mu_k H (mu_p o2)) from ⟨(by rw [k1.1.2.2]; exact k1.1), (by rw [k1.1.2.2]; decide), (by rw [k2.1.2.2]; exact k2.1), (by rw [k2.1.2.2]; decide)⟩) ?_
  refine mu_if (P := (Int32.ofNat (mu_n H (mu_p o1))) = (Int32.ofNat (mu_n H (mu_p o2)))) (a := 7) (b := 34) rfl trivial (fun h1 => ?_) (fun h1 => ?_)
  · -- 7: (Int32.ofNat (mu_n H (mu_p o1))) = (Int32.ofNat (mu_n H (mu_p o2)))
    refine mu_go mu_g114 (k := 2) (f1 := (9, [(2, .inl (0 : Int32)), (0, .inr (.inr o1)), (1, .inr (.inr o2))], [], H)) (C := []) rfl trivial ?_
    exact sb_eqloop k1 k2 l1 l2 (by
      rw [k1.2.1, k2.2.1] at h1
      have := congrArg Int32.toInt h1
      rw [Int32.toInt_ofNat_of_lt l1, Int32.toInt_ofNat_of_lt l2] at this
      omega) b1.length 0 (by omega) (fun t ht => by omega)
  · -- 34: not (Int32.ofNat (mu_n H (mu_p o1))) = (Int32.ofNat (mu_n H (mu_p o2)))
    refine mu_go mu_g114 (k := 1) (f1 := (35, [(0, .inr (.inr o1)), (1, .inr (.inr o2))], [.inl (0 : Int32)], H)) (C := []) rfl trivial ?_
    exact mu_ret rfl (Or.inl rfl) ⟨_, _, rfl, (if_neg (fun e => h1 (by rw [k1.2.1, k2.2.1, e]))).symm, rfl⟩
/-- String.equals: do they hold the same letters -/
theorem sb_equals {d : Nat} {o1 o2 : Option Nat} {b1 b2 : List Int32} {H : mu_H} (h1 : sb H o1 b1) (h2 : sb H o2 b2) (l1 : b1.length < 2 ^ 31) (l2 : b2.length < 2 ^ 31) : mu_TI (mu_D (d + 2)) 113 [.inr (.inr o1), .inr (.inr o2)] H (fun x H1 => x = (if b1 = b2 then 1 else 0) ∧ H1 = H) := by
  refine mu_MT.oz fun hz => ?_
  refine mu_meth (M := mu_m113) rfl rfl ?_
  refine mu_go mu_g113 (k := 2) (f1 := (2, [(0, .inr (.inr o1)), (1, .inr (.inr o2))], [.inr (.inr o2), .inr (.inr o1)], H)) (C := []) rfl trivial ?_
  refine mu_acmp_ne rfl h1.1.rf h2.1.rf (fun e => ?_) (fun _ => ?_)
  · refine mu_go mu_g113 (k := 1) (f1 := (6, [(0, .inr (.inr o1)), (1, .inr (.inr o2))], [.inl (1 : Int32)], H)) (C := []) rfl trivial ?_
    exact mu_ret rfl (Or.inr rfl) ⟨_, _, rfl, (if_pos (by subst e; exact h1.one h2)).symm, rfl⟩
  · refine mu_go mu_g113 (k := 1) (f1 := (8, [(0, .inr (.inr o1)), (1, .inr (.inr o2))], [.inr (.inr o2)], H)) (C := []) rfl trivial ?_
    refine mu_instS rfl h2.1 ?_
    refine mu_if (P := (1 : Int32) = 0) (a := 54) (b := 14) rfl trivial (fun q => absurd q (by decide)) (fun _ => ?_)
    refine mu_go mu_g113 (k := 1) (f1 := (15, [(0, .inr (.inr o1)), (1, .inr (.inr o2))], [.inr (.inr o2)], H)) (C := []) rfl trivial ?_
    refine mu_castS rfl h2.1 ?_
    refine mu_go mu_g113 (k := 2) (f1 := (22, [(2, .inr (.inr o2)), (0, .inr (.inr o1)), (1, .inr (.inr o2))], [.inl (1 : Int32)], H)) (C := []) rfl trivial ?_
    refine mu_if (P := (1 : Int32) = 0) (a := 36) (b := 25) rfl trivial (fun q => absurd q (by decide)) (fun _ => ?_)
    refine mu_go mu_g113 (k := 1) (f1 := (26, [(2, .inr (.inr o2)), (0, .inr (.inr o1)), (1, .inr (.inr o2))], [.inr (.inr o1)], H)) (C := []) rfl trivial ?_
    refine mu_gS1 mu_g113 hz rfl h1.1 ?_
    refine mu_go mu_g113 (k := 1) (f1 := (30, [(2, .inr (.inr o2)), (0, .inr (.inr o1)), (1, .inr (.inr o2))], [.inr (.inr o2), .inl (sbc H o1)], H)) (C := []) rfl trivial ?_
    refine mu_gS1 mu_g113 hz rfl h2.1 ?_
    refine mu_if (P := sbc H o1 = sbc H o2) (a := 36) (b := 54) rfl trivial (fun _ => ?_) (fun q => absurd (h1.2.1.trans h2.2.1.symm) q)
    refine mu_go mu_g113 (k := 1) (f1 := (37, [(2, .inr (.inr o2)), (0, .inr (.inr o1)), (1, .inr (.inr o2))], [.inr (.inr o1)], H)) (C := []) rfl trivial ?_
    refine mu_gS0 mu_g113 hz rfl h1.1 ?_
    refine mu_go mu_g113 (k := 1) (f1 := (41, [(2, .inr (.inr o2)), (0, .inr (.inr o1)), (1, .inr (.inr o2))], [.inr (.inr o2), .inr (.inr (sbv H o1))], H)) (C := []) rfl trivial ?_
    refine mu_gS0 mu_g113 hz rfl h2.1 ?_
    refine mu_cI rfl trivial (sb_eq_ok h1.2.2 h2.2.2 l1 l2) (fun x H1 q => ?_)
    obtain ⟨q, rfl⟩ := q
    refine mu_if (P := x = 0) (a := 54) (b := 50) rfl trivial (fun e => ?_) (fun e => ?_)
    · refine mu_go mu_g113 (k := 1) (f1 := (55, [(2, .inr (.inr o2)), (0, .inr (.inr o1)), (1, .inr (.inr o2))], [.inl (0 : Int32)], H1)) (C := []) rfl trivial ?_
      refine mu_ret rfl (Or.inl rfl) ⟨_, _, rfl, ?_, rfl⟩
      rw [← q, e]
    · refine mu_go mu_g113 (k := 2) (f1 := (55, [(2, .inr (.inr o2)), (0, .inr (.inr o1)), (1, .inr (.inr o2))], [.inl (1 : Int32)], H1)) (C := []) rfl trivial ?_
      refine mu_ret rfl (Or.inr rfl) ⟨_, _, rfl, ?_, rfl⟩
      rw [q] at e
      by_cases eb : b1 = b2
      · rw [if_pos eb]
      · rw [if_neg eb] at e
        exact absurd rfl e
