/-! Arrays.copyOf to a greater length; a row put behind the others -/
theorem mu_is_nw {H : mu_H} {o : Option Nat} {kd k len sl : Nat} (h : mu_is H o kd) : mu_is (mu_nw H k len sl) o kd := by
  refine ⟨h.1, Nat.lt_succ_of_lt h.2.1, ?_⟩
  rw [mu_k_nw, if_neg (fun e => by have := h.2.1; omega)]
  exact h.2.2
theorem mu_is_new (H : mu_H) (k len sl : Nat) : mu_is (mu_nw H k len sl) (some (mu_z H)) k := by
  refine ⟨rfl, Nat.lt_succ_self _, ?_⟩
  show mu_k (mu_nw H k len sl) (mu_z H) = k
  rw [mu_k_nw, if_pos rfl]
theorem mu_n_old {H : mu_H} {p k len sl : Nat} (h : p < mu_z H) : mu_n (mu_nw H k len sl) p = mu_n H p := by
  rw [mu_n_nw, if_neg (by omega)]
theorem mu_min_nI {a b : Nat} (h : a ≤ b) (hb : b < 2 ^ 31) : mu_min (nI a) (nI b) = nI a := if_neg (nI_nlt h hb)
/-- java/util/Arrays.copyOf([II)[I -/
abbrev mu_m101 : ev_M := (3, (some (.array .int)), [], ev_b101)
theorem mu_g101 : mu_good mu_m101 := mu_goodk ev_k101
theorem mu_copyOf_ok {d N : Nat} {o : Option Nat} {H : mu_H} (hO : mu_is H o 100) (hN : mu_n H (mu_p o) < N) (hN2 : N ≤ 134217728) (hz : mu_z H + 1 ≤ 1000000) : mu_TA (mu_D (d + 2)) 101 [.inr (.inr o), .inl (nI N)] H (fun x H1 => x = some (mu_z H) ∧ H1 = mu_cpi (mu_nw H 100 N N) (mu_p o) 0 (mu_z H) 0 (mu_n H (mu_p o))) := by
  have hne : ¬ nI N = Int32.ofNat (mu_n H (mu_p o)) := fun e => by
    have e := congrArg Int32.toNatClampNeg e
    rw [nI_clamp (by omega), show (Int32.ofNat (mu_n H (mu_p o))).toNatClampNeg = mu_n H (mu_p o) from nI_clamp (by omega)] at e
    omega
  have hO2 : mu_is (mu_nw H 100 (nI N).toNatClampNeg (nI N).toNatClampNeg) o 100 := mu_is_nw hO
  refine mu_meth (M := mu_m101) rfl rfl ?_
  refine mu_go mu_g101 (k := 3) (f1 := (3, [(0, .inr (.inr o)), (1, .inl (nI N))], [.inl (Int32.ofNat (mu_n H (mu_p o))), .inl (nI N)], H)) (C := [mu_isr H o (mu_k H (mu_p o)), 100 ≤ mu_k H (mu_p o)]) rfl (show (mu_isr H o (mu_k H (mu_p o))) ∧ (100 ≤ mu_k H (mu_p o)) from ⟨⟨hO.1, Or.inl hO.2.1, rfl⟩, by rw [hO.2.2]; exact Nat.le_refl _⟩) ?_
  refine mu_if (P := (nI N) = (Int32.ofNat (mu_n H (mu_p o)))) (a := 6) (b := 14) rfl trivial (fun h1 => ?_) (fun h1 => ?_)
  · -- 6: (nI N) = (Int32.ofNat (mu_n H (mu_p o)))
    exact absurd h1 hne
  · -- 14: not (nI N) = (Int32.ofNat (mu_n H (mu_p o)))
    refine mu_go mu_g101 (k := 10) (f1 := (25, [(2, .inr (.inr (some (mu_z H)))), (0, .inr (.inr o)), (1, .inl (nI N))], [.inl (nI N), .inl (Int32.ofNat (mu_n (mu_nw H 100 (nI N).toNatClampNeg (nI N).toNatClampNeg) (mu_p o))), .inl (0 : Int32), .inr (.inr (some (mu_z H))), .inl (0 : Int32), .inr (.inr o)], (mu_nw H 100 (nI N).toNatClampNeg (nI N).toNatClampNeg))) (C := [¬ (nI N) < 0, (nI N).toNatClampNeg * ev_bytes 0 ≤ 536870912, mu_z H + 1 ≤ 1000000, mu_isr (mu_nw H 100 (nI N).toNatClampNeg (nI N).toNatClampNeg) o (mu_k (mu_nw H 100 (nI N).toNatClampNeg (nI N).toNatClampNeg) (mu_p o)), 100 ≤ mu_k (mu_nw H 100 (nI N).toNatClampNeg (nI N).toNatClampNeg) (mu_p o)]) rfl (show (¬ (nI N) < 0) ∧ ((nI N).toNatClampNeg * ev_bytes 0 ≤ 536870912) ∧ (mu_z H + 1 ≤ 1000000) ∧ (mu_isr (mu_nw H 100 (nI N).toNatClampNeg (nI N).toNatClampNeg) o (mu_k (mu_nw H 100 (nI N).toNatClampNeg (nI N).toNatClampNeg) (mu_p o))) ∧ (100 ≤ mu_k (mu_nw H 100 (nI N).toNatClampNeg (nI N).toNatClampNeg) (mu_p o)) from ⟨nI_pos (by omega), by rw [nI_clamp (by omega)]; show N * 4 ≤ 536870912; omega, hz, ⟨hO2.1, Or.inl hO2.2.1, rfl⟩, by rw [hO2.2.2]; exact Nat.le_refl _⟩) ?_
    refine mu_cIe rfl trivial (mu_min_ok (d := d) (Int32.ofNat (mu_n (mu_nw H 100 (nI N).toNatClampNeg (nI N).toNatClampNeg) (mu_p o))) (nI N)) ?_
    rw [mu_n_old hO.2.1]
    rw [show mu_min (Int32.ofNat (mu_n H (mu_p o))) (nI N) = nI (mu_n H (mu_p o)) from mu_min_nI (by omega) (by omega)]
    refine mu_copyI (t := 0) rfl hO2 (mu_is_new H 100 _ _) (by decide) (by decide) (by decide) (nI_pos (by omega)) ?_ ?_ (fun e => by cases e) (show (0 : Nat) ≤ 8 by omega) ?_
    · show 0 + (nI (mu_n H (mu_p o))).toNatClampNeg ≤ mu_n (mu_nw H 100 _ _) (mu_p o)
      rw [mu_n_old hO.2.1, nI_clamp (by omega)]
      omega
    · show 0 + (nI (mu_n H (mu_p o))).toNatClampNeg ≤ mu_n (mu_nw H 100 _ _) (mu_z H)
      rw [mu_n_nw, if_pos rfl, nI_clamp (by omega), nI_clamp (by omega)]
      omega
    · refine mu_go mu_g101 (k := 1) (f1 := (32, [(2, .inr (.inr (some (mu_z H)))), (0, .inr (.inr o)), (1, .inl (nI N))], [.inr (.inr (some (mu_z H)))], mu_cpi (mu_nw H 100 (nI N).toNatClampNeg (nI N).toNatClampNeg) (mu_p o) 0 (mu_z H) 0 (nI (mu_n H (mu_p o))).toNatClampNeg)) (C := []) rfl trivial ?_
      refine mu_ret rfl trivial ⟨_, _, rfl, rfl, ?_⟩
      rw [nI_clamp (show N < 2 ^ 31 by omega), nI_clamp (show mu_n H (mu_p o) < 2 ^ 31 by omega)]
/-- PathProver$Rows.put(IIII)I -/
abbrev mu_m17 : ev_M := (7, (some .int), [], ev_b17)
theorem mu_g17 : mu_good mu_m17 := mu_goodk ev_k17
/-- the columns of a new row -/
def rw_col (a b c d : Int32) (k : Nat) : Int32 := if k = 0 then a else if k = 1 then b else if k = 2 then c else if k = 3 then d else 0
/-- ints from b on, k of them, written -/
def rw_fill (H : mu_H) (q b : Nat) (g : Nat → Int32) (k : Nat) : mu_H := (H.1, H.2.1, (fun p i => if p = q ∧ b ≤ i ∧ i < b + k then g (i - b) else H.2.2.1 p i), H.2.2.2.1, H.2.2.2.2.1, H.2.2.2.2.2.1, H.2.2.2.2.2.2.1, H.2.2.2.2.2.2.2)
theorem mu_i_fill (H : mu_H) (q b : Nat) (g : Nat → Int32) (k p i : Nat) : mu_i (rw_fill H q b g k) p i = if p = q ∧ b ≤ i ∧ i < b + k then g (i - b) else mu_i H p i := rfl
theorem rw_fill_zero (H : mu_H) (q b : Nat) (g : Nat → Int32) : rw_fill H q b g 0 = H := by
  have e : (fun p i => if p = q ∧ b ≤ i ∧ i < b + 0 then g (i - b) else H.2.2.1 p i) = H.2.2.1 := by
    funext p i
    rw [if_neg (fun z => by omega)]
  unfold rw_fill
  rw [e]
theorem rw_fill_succ (H : mu_H) (q b : Nat) (g : Nat → Int32) (k : Nat) : mu_si (rw_fill H q b g k) q (b + k) (g k) = rw_fill H q b g (k + 1) := by
  have e : (fun p i => if p = q ∧ i = b + k then g k else (if p = q ∧ b ≤ i ∧ i < b + k then g (i - b) else H.2.2.1 p i)) = (fun p i => if p = q ∧ b ≤ i ∧ i < b + (k + 1) then g (i - b) else H.2.2.1 p i) := by
    funext p i
    by_cases h1 : p = q ∧ i = b + k
    · rw [if_pos h1, if_pos ⟨h1.1, by omega, by omega⟩, show i - b = k by omega]
    · rw [if_neg h1]
      by_cases h2 : p = q ∧ b ≤ i ∧ i < b + k
      · rw [if_pos h2, if_pos ⟨h2.1, h2.2.1, by omega⟩]
      · rw [if_neg h2, if_neg (fun z => by
          by_cases h3 : i = b + k
          · exact h1 ⟨z.1, h3⟩
          · exact h2 ⟨z.1, z.2.1, by omega⟩)]
  show (H.1, H.2.1, (fun p i => if p = q ∧ i = b + k then g k else (if p = q ∧ b ≤ i ∧ i < b + k then g (i - b) else H.2.2.1 p i)), H.2.2.2.1, H.2.2.2.2.1, H.2.2.2.2.2.1, H.2.2.2.2.2.2.1, H.2.2.2.2.2.2.2) = _
  rw [e]
  rfl
theorem nI_is {k j : Nat} {x : Int32} (hk : k < 2 ^ 31) (h : nI k = x) (hx : x.toNatClampNeg = j) : k = j := by
  rw [← h, nI_clamp hk] at hx
  exact hx
section RwPut
variable {run : Nat → List ev_V → List ev_C → Option ev_R}
theorem rw_put_loop {Φ : mu_R → Prop} {r W b : Nat} {a1 a2 a3 a4 : Int32} {H0 : mu_H} (hr0 : mu_is H0 (some r) 10) (hq0 : mu_is H0 (mu_r H0 r 1) 100) (hW : mu_i H0 r 0 = nI W) (hb : b + W ≤ mu_n H0 (mu_p (mu_r H0 r 1))) (hs : mu_n H0 (mu_p (mu_r H0 r 1)) < 2 ^ 31)
    (last : mu_HT run mu_m17 (118, [(6, .inl (nI W)), (5, .inl (nI b)), (0, .inr (.inr (some r))), (1, .inl a1), (2, .inl a2), (3, .inl a3), (4, .inl a4)], [], rw_fill H0 (mu_p (mu_r H0 r 1)) b (rw_col a1 a2 a3 a4) W) Φ) : mu_HT run mu_m17 (52, [(6, .inl (nI 0)), (5, .inl (nI b)), (0, .inr (.inr (some r))), (1, .inl a1), (2, .inl a2), (3, .inl a3), (4, .inl a4)], [], H0) Φ := by
  have hne : r ≠ mu_p (mu_r H0 r 1) := mu_ne_k (show mu_k H0 r = 10 from hr0.2.2) hq0.2.2 (by decide)
  have key : mu_HT run mu_m17 (52, [(6, .inl (nI 0)), (5, .inl (nI b)), (0, .inr (.inr (some r))), (1, .inl a1), (2, .inl a2), (3, .inl a3), (4, .inl a4)], [], rw_fill H0 (mu_p (mu_r H0 r 1)) b (rw_col a1 a2 a3 a4) 0) Φ := by
    refine mu_up (N := W) (fun k => (52, [(6, .inl (nI k)), (5, .inl (nI b)), (0, .inr (.inr (some r))), (1, .inl a1), (2, .inl a2), (3, .inl a3), (4, .inl a4)], [], rw_fill H0 (mu_p (mu_r H0 r 1)) b (rw_col a1 a2 a3 a4) k)) (fun k hk ih => ?_) ?_ (Nat.zero_le W)
    · show mu_HT run mu_m17 (52, [(6, .inl (nI k)), (5, .inl (nI b)), (0, .inr (.inr (some r))), (1, .inl a1), (2, .inl a2), (3, .inl a3), (4, .inl a4)], [], rw_fill H0 (mu_p (mu_r H0 r 1)) b (rw_col a1 a2 a3 a4) k) Φ
      have hk31 : k < 2 ^ 31 := by omega
      obtain ⟨Hk, hHk⟩ : ∃ Hk, Hk = rw_fill H0 (mu_p (mu_r H0 r 1)) b (rw_col a1 a2 a3 a4) k := ⟨_, rfl⟩
      rw [← hHk]
      have hr : mu_is Hk (some r) 10 := by rw [hHk]; exact hr0
      have er : mu_r Hk r 1 = mu_r H0 r 1 := by rw [hHk]; rfl
      have hq : mu_is Hk (mu_r Hk r 1) 100 := by rw [er, hHk]; exact hq0
      have e0 : mu_i Hk r 0 = nI W := by rw [hHk, mu_i_fill, if_neg (fun z => hne z.1)]; exact hW
      have hin : vp_in (nI b + nI k) (mu_n Hk (mu_p (mu_r Hk r 1))) := by
        rw [er, nI_add, hHk]
        exact vp_in_nI (show b + k < mu_n H0 (mu_p (mu_r H0 r 1)) by omega) hs
      have hstep : ∀ v, v = rw_col a1 a2 a3 a4 k → mu_HT run mu_m17 (52, [(6, .inl (nI k + 1)), (5, .inl (nI b)), (0, .inr (.inr (some r))), (1, .inl a1), (2, .inl a2), (3, .inl a3), (4, .inl a4)], [], mu_si Hk (mu_p (mu_r Hk r 1)) (nI b + nI k).toNatClampNeg v) Φ := by
        intro v hv
        subst hv
        rw [← nI_succ, er, nI_add, nI_clamp (by omega), hHk, rw_fill_succ]
        exact ih
      refine mu_go mu_g17 (k := 3) (f1 := (58, [(6, .inl (nI k)), (5, .inl (nI b)), (0, .inr (.inr (some r))), (1, .inl a1), (2, .inl a2), (3, .inl a3), (4, .inl a4)], [.inl (mu_i Hk r 0), .inl (nI k)], Hk)) (C := [mu_is Hk (some r) 10]) rfl (show mu_is Hk (some r) 10 from hr) ?_
      refine mu_if (P := (nI k) < (mu_i Hk r 0)) (a := 61) (b := 118) rfl trivial (fun h1 => ?_) (fun h1 => ?_)
      · -- 61: (nI k) < (mu_i Hk r 0)
        refine mu_go mu_g17 (k := 6) (f1 := (72, [(6, .inl (nI k)), (5, .inl (nI b)), (0, .inr (.inr (some r))), (1, .inl a1), (2, .inl a2), (3, .inl a3), (4, .inl a4)], [.inl (nI k), .inl ((nI b) + (nI k)), .inr (.inr (mu_r Hk r 1))], Hk)) (C := [mu_is Hk (some r) 10]) rfl (show mu_is Hk (some r) 10 from hr) ?_
        refine mu_if (P := (nI k) = 0) (a := 75) (b := 79) rfl trivial (fun h2 => ?_) (fun h2 => ?_)
        · -- 75: (nI k) = 0
          refine mu_go mu_g17 (k := 5) (f1 := (52, [(6, .inl ((nI k) + 1)), (5, .inl (nI b)), (0, .inr (.inr (some r))), (1, .inl a1), (2, .inl a2), (3, .inl a3), (4, .inl a4)], [], (mu_si Hk (mu_p (mu_r Hk r 1)) ((nI b) + (nI k)).toNatClampNeg a1))) (C := [mu_is Hk (mu_r Hk r 1) 100, vp_in ((nI b) + (nI k)) (mu_n Hk (mu_p (mu_r Hk r 1)))]) rfl (show (mu_is Hk (mu_r Hk r 1) 100) ∧ (vp_in ((nI b) + (nI k)) (mu_n Hk (mu_p (mu_r Hk r 1)))) from ⟨hq, hin⟩) ?_
          exact hstep a1 ((if_pos (nI_is hk31 h2 rfl)).symm)
        · -- 79: not (nI k) = 0
          refine mu_go mu_g17 (k := 2) (f1 := (82, [(6, .inl (nI k)), (5, .inl (nI b)), (0, .inr (.inr (some r))), (1, .inl a1), (2, .inl a2), (3, .inl a3), (4, .inl a4)], [.inl (1 : Int32), .inl (nI k), .inl ((nI b) + (nI k)), .inr (.inr (mu_r Hk r 1))], Hk)) (C := []) rfl trivial ?_
          refine mu_if (P := (nI k) = (1 : Int32)) (a := 85) (b := 89) rfl trivial (fun h3 => ?_) (fun h3 => ?_)
          · -- 85: (nI k) = (1 : Int32)
            refine mu_go mu_g17 (k := 5) (f1 := (52, [(6, .inl ((nI k) + 1)), (5, .inl (nI b)), (0, .inr (.inr (some r))), (1, .inl a1), (2, .inl a2), (3, .inl a3), (4, .inl a4)], [], (mu_si Hk (mu_p (mu_r Hk r 1)) ((nI b) + (nI k)).toNatClampNeg a2))) (C := [mu_is Hk (mu_r Hk r 1) 100, vp_in ((nI b) + (nI k)) (mu_n Hk (mu_p (mu_r Hk r 1)))]) rfl (show (mu_is Hk (mu_r Hk r 1) 100) ∧ (vp_in ((nI b) + (nI k)) (mu_n Hk (mu_p (mu_r Hk r 1)))) from ⟨hq, hin⟩) ?_
            exact hstep a2 (by rw [nI_is hk31 h3 (show (1 : Int32).toNatClampNeg = 1 by decide)]; rfl)
          · -- 89: not (nI k) = (1 : Int32)
            refine mu_go mu_g17 (k := 2) (f1 := (92, [(6, .inl (nI k)), (5, .inl (nI b)), (0, .inr (.inr (some r))), (1, .inl a1), (2, .inl a2), (3, .inl a3), (4, .inl a4)], [.inl (2 : Int32), .inl (nI k), .inl ((nI b) + (nI k)), .inr (.inr (mu_r Hk r 1))], Hk)) (C := []) rfl trivial ?_
            refine mu_if (P := (nI k) = (2 : Int32)) (a := 95) (b := 99) rfl trivial (fun h4 => ?_) (fun h4 => ?_)
            · -- 95: (nI k) = (2 : Int32)
              refine mu_go mu_g17 (k := 5) (f1 := (52, [(6, .inl ((nI k) + 1)), (5, .inl (nI b)), (0, .inr (.inr (some r))), (1, .inl a1), (2, .inl a2), (3, .inl a3), (4, .inl a4)], [], (mu_si Hk (mu_p (mu_r Hk r 1)) ((nI b) + (nI k)).toNatClampNeg a3))) (C := [mu_is Hk (mu_r Hk r 1) 100, vp_in ((nI b) + (nI k)) (mu_n Hk (mu_p (mu_r Hk r 1)))]) rfl (show (mu_is Hk (mu_r Hk r 1) 100) ∧ (vp_in ((nI b) + (nI k)) (mu_n Hk (mu_p (mu_r Hk r 1)))) from ⟨hq, hin⟩) ?_
              exact hstep a3 (by rw [nI_is hk31 h4 (show (2 : Int32).toNatClampNeg = 2 by decide)]; rfl)
            · -- 99: not (nI k) = (2 : Int32)
              refine mu_go mu_g17 (k := 2) (f1 := (102, [(6, .inl (nI k)), (5, .inl (nI b)), (0, .inr (.inr (some r))), (1, .inl a1), (2, .inl a2), (3, .inl a3), (4, .inl a4)], [.inl (3 : Int32), .inl (nI k), .inl ((nI b) + (nI k)), .inr (.inr (mu_r Hk r 1))], Hk)) (C := []) rfl trivial ?_
              refine mu_if (P := (nI k) = (3 : Int32)) (a := 105) (b := 110) rfl trivial (fun h5 => ?_) (fun h5 => ?_)
              · -- 105: (nI k) = (3 : Int32)
                refine mu_go mu_g17 (k := 5) (f1 := (52, [(6, .inl ((nI k) + 1)), (5, .inl (nI b)), (0, .inr (.inr (some r))), (1, .inl a1), (2, .inl a2), (3, .inl a3), (4, .inl a4)], [], (mu_si Hk (mu_p (mu_r Hk r 1)) ((nI b) + (nI k)).toNatClampNeg a4))) (C := [mu_is Hk (mu_r Hk r 1) 100, vp_in ((nI b) + (nI k)) (mu_n Hk (mu_p (mu_r Hk r 1)))]) rfl (show (mu_is Hk (mu_r Hk r 1) 100) ∧ (vp_in ((nI b) + (nI k)) (mu_n Hk (mu_p (mu_r Hk r 1)))) from ⟨hq, hin⟩) ?_
                exact hstep a4 (by rw [nI_is hk31 h5 (show (3 : Int32).toNatClampNeg = 3 by decide)]; rfl)
              · -- 110: not (nI k) = (3 : Int32)
                refine mu_go mu_g17 (k := 4) (f1 := (52, [(6, .inl ((nI k) + 1)), (5, .inl (nI b)), (0, .inr (.inr (some r))), (1, .inl a1), (2, .inl a2), (3, .inl a3), (4, .inl a4)], [], (mu_si Hk (mu_p (mu_r Hk r 1)) ((nI b) + (nI k)).toNatClampNeg (0 : Int32)))) (C := [mu_is Hk (mu_r Hk r 1) 100, vp_in ((nI b) + (nI k)) (mu_n Hk (mu_p (mu_r Hk r 1)))]) rfl (show (mu_is Hk (mu_r Hk r 1) 100) ∧ (vp_in ((nI b) + (nI k)) (mu_n Hk (mu_p (mu_r Hk r 1)))) from ⟨hq, hin⟩) ?_
                exact hstep (0 : Int32) (by unfold rw_col; rw [if_neg (fun e => h2 (by rw [e]; decide)), if_neg (fun e => h3 (by rw [e]; decide)), if_neg (fun e => h4 (by rw [e]; decide)), if_neg (fun e => h5 (by rw [e]; decide))])
      · -- 118: not (nI k) < (mu_i Hk r 0)
        exact absurd (by rw [e0]; exact nI_lt hk (by omega)) h1
    · show mu_HT run mu_m17 (52, [(6, .inl (nI W)), (5, .inl (nI b)), (0, .inr (.inr (some r))), (1, .inl a1), (2, .inl a2), (3, .inl a3), (4, .inl a4)], [], rw_fill H0 (mu_p (mu_r H0 r 1)) b (rw_col a1 a2 a3 a4) W) Φ
      obtain ⟨Hw, hHw⟩ : ∃ Hw, Hw = rw_fill H0 (mu_p (mu_r H0 r 1)) b (rw_col a1 a2 a3 a4) W := ⟨_, rfl⟩
      rw [← hHw] at last ⊢
      have hr : mu_is Hw (some r) 10 := by rw [hHw]; exact hr0
      have e0 : mu_i Hw r 0 = nI W := by rw [hHw, mu_i_fill, if_neg (fun z => hne z.1)]; exact hW
      refine mu_go mu_g17 (k := 3) (f1 := (58, [(6, .inl (nI W)), (5, .inl (nI b)), (0, .inr (.inr (some r))), (1, .inl a1), (2, .inl a2), (3, .inl a3), (4, .inl a4)], [.inl (mu_i Hw r 0), .inl (nI W)], Hw)) (C := [mu_is Hw (some r) 10]) rfl (show mu_is Hw (some r) 10 from hr) ?_
      refine mu_if (P := (nI W) < (mu_i Hw r 0)) (a := 61) (b := 118) rfl trivial (fun h1 => ?_) (fun h1 => ?_)
      · -- 61: (nI W) < (mu_i Hw r 0)
        exact absurd h1 (by rw [e0]; exact nI_nlt (Nat.le_refl W) (by omega))
      · -- 118: not (nI W) < (mu_i Hw r 0)
        exact last
  rw [rw_fill_zero] at key
  exact key

theorem rw_put_end {Q : Int32 → mu_H → Prop} {r W b n : Nat} {a1 a2 a3 a4 : Int32} {Hw : mu_H} (hr : mu_is Hw (some r) 10) (e2 : mu_i Hw r 2 = nI n) (hQ : Q (nI n) (mu_si Hw r 2 (nI (n + 1)))) : mu_HT run mu_m17 (118, [(6, .inl (nI W)), (5, .inl (nI b)), (0, .inr (.inr (some r))), (1, .inl a1), (2, .inl a2), (3, .inl a3), (4, .inl a4)], [], Hw) (fun q => ∃ x H1, q = (.inl (some (.inl x)), H1) ∧ Q x H1) := by
  have hQ2 : Q (mu_i (mu_si Hw r 2 (mu_i Hw r 2 + (1 : Int32))) r 2 - (1 : Int32)) (mu_si Hw r 2 (mu_i Hw r 2 + (1 : Int32))) := by
    rw [mu_i_si, if_pos ⟨rfl, rfl⟩, e2, ← nI_succ, nI_pred]
    exact hQ
  refine mu_go mu_g17 (k := 10) (f1 := (134, [(6, .inl (nI W)), (5, .inl (nI b)), (0, .inr (.inr (some r))), (1, .inl a1), (2, .inl a2), (3, .inl a3), (4, .inl a4)], [.inl ((mu_i (mu_si Hw r 2 ((mu_i Hw r 2) + (1 : Int32))) r 2) - (1 : Int32))], (mu_si Hw r 2 ((mu_i Hw r 2) + (1 : Int32))))) (C := [mu_is Hw (some r) 10, mu_is Hw (some r) 10, mu_is (mu_si Hw r 2 ((mu_i Hw r 2) + (1 : Int32))) (some r) 10]) rfl (show (mu_is Hw (some r) 10) ∧ (mu_is Hw (some r) 10) ∧ (mu_is (mu_si Hw r 2 ((mu_i Hw r 2) + (1 : Int32))) (some r) 10) from ⟨hr, hr, hr⟩) ?_
  exact mu_ret rfl trivial ⟨_, _, rfl, hQ2⟩
end RwPut
theorem rw_put_ok {d r W n c : Nat} {H : mu_H} (hR : rw_ok H r W n c) (hc3 : 2 * c + W ≤ 67108864) (hz : mu_z H + 1 ≤ 1000000) (a1 a2 a3 a4 : Int32) : mu_TI (mu_D (d + 3)) 17 [.inr (.inr (some r)), .inl a1, .inl a2, .inl a3, .inl a4] H (fun x H1 => x = nI n ∧ ∃ H0 : mu_H, ((H0 = H ∧ (n + 1) * W ≤ c) ∨ (c < (n + 1) * W ∧ H0 = (mu_sr (mu_cpi (mu_nw H 100 (2 * c + W) (2 * c + W)) (mu_p (mu_r H r 1)) 0 (mu_z H) 0 c) r 1 (some (mu_z H))))) ∧ H1 = mu_si (rw_fill H0 (mu_p (mu_r H0 r 1)) (n * W) (rw_col a1 a2 a3 a4) W) r 2 (nI (n + 1))) := by
  have hn := rw_n hR
  have hR' := hR
  obtain ⟨-, -, e0, e2, en, hc, hW0, hW, hc2⟩ := hR'
  have hlen : nI (mu_n H (mu_p (mu_r H r 1))) = nI c := by rw [en]
  have hqz : mu_p (mu_r H r 1) < mu_z H := hR.2.1.2.1
  have hrz : r < mu_z H := hR.1.2.1
  have hmul : (n + 1) * W = n * W + W := Nat.succ_mul n W
  have stay : ¬ nI c < nI (n * W) + mu_i H r 0 → mu_HT (mu_D (d + 2)) mu_m17 (52, [(6, .inl (nI 0)), (5, .inl (nI (n * W))), (0, .inr (.inr (some r))), (1, .inl a1), (2, .inl a2), (3, .inl a3), (4, .inl a4)], [], H) (fun q => ∃ x H1, q = (.inl (some (.inl x)), H1) ∧ (fun x H1 => x = nI n ∧ ∃ H0 : mu_H, ((H0 = H ∧ (n + 1) * W ≤ c) ∨ (c < (n + 1) * W ∧ H0 = (mu_sr (mu_cpi (mu_nw H 100 (2 * c + W) (2 * c + W)) (mu_p (mu_r H r 1)) 0 (mu_z H) 0 c) r 1 (some (mu_z H))))) ∧ H1 = mu_si (rw_fill H0 (mu_p (mu_r H0 r 1)) (n * W) (rw_col a1 a2 a3 a4) W) r 2 (nI (n + 1))) x H1) := by
    intro h1
    rw [e0, nI_add, nI_ltI (by omega) (by omega)] at h1
    refine rw_put_loop (W := W) (b := n * W) hR.1 hR.2.1 e0 (by omega) (by omega) ?_
    refine rw_put_end (n := n) hR.1 ?_ ⟨rfl, H, Or.inl ⟨rfl, by omega⟩, rfl⟩
    rw [mu_i_fill, if_neg (fun z => mu_ne_k (show mu_k H r = 10 from hR.1.2.2) hR.2.1.2.2 (by decide) z.1)]
    exact e2
  have hG : mu_is (mu_cpi (mu_nw H 100 (2 * c + W) (2 * c + W)) (mu_p (mu_r H r 1)) 0 (mu_z H) 0 c) (some r) 10 := ⟨rfl, Nat.lt_succ_of_lt hrz, by
    show mu_k (mu_nw H 100 (2 * c + W) (2 * c + W)) r = 10
    rw [mu_k_nw, if_neg (by omega)]
    exact hR.1.2.2⟩
  have er : mu_r (mu_sr (mu_cpi (mu_nw H 100 (2 * c + W) (2 * c + W)) (mu_p (mu_r H r 1)) 0 (mu_z H) 0 c) r 1 (some (mu_z H))) r 1 = some (mu_z H) := if_pos ⟨rfl, rfl⟩
  have hz0 : mu_k (mu_sr (mu_cpi (mu_nw H 100 (2 * c + W) (2 * c + W)) (mu_p (mu_r H r 1)) 0 (mu_z H) 0 c) r 1 (some (mu_z H))) (mu_z H) = 100 := if_pos rfl
  have hzn : mu_n (mu_sr (mu_cpi (mu_nw H 100 (2 * c + W) (2 * c + W)) (mu_p (mu_r H r 1)) 0 (mu_z H) 0 c) r 1 (some (mu_z H))) (mu_z H) = 2 * c + W := if_pos rfl
  have hgi : ∀ j, mu_i (mu_sr (mu_cpi (mu_nw H 100 (2 * c + W) (2 * c + W)) (mu_p (mu_r H r 1)) 0 (mu_z H) 0 c) r 1 (some (mu_z H))) r j = mu_i H r j := fun j => by
    show (if r = mu_z H ∧ 0 ≤ j ∧ j < 0 + c then _ else (if r = mu_z H then (0 : Int32) else mu_i H r j)) = mu_i H r j
    rw [if_neg (fun z => by omega), if_neg (by omega)]
  have grown : c < (n + 1) * W → mu_HT (mu_D (d + 2)) mu_m17 (52, [(6, .inl (nI 0)), (5, .inl (nI (n * W))), (0, .inr (.inr (some r))), (1, .inl a1), (2, .inl a2), (3, .inl a3), (4, .inl a4)], [], (mu_sr (mu_cpi (mu_nw H 100 (2 * c + W) (2 * c + W)) (mu_p (mu_r H r 1)) 0 (mu_z H) 0 c) r 1 (some (mu_z H)))) (fun q => ∃ x H1, q = (.inl (some (.inl x)), H1) ∧ (fun x H1 => x = nI n ∧ ∃ H0 : mu_H, ((H0 = H ∧ (n + 1) * W ≤ c) ∨ (c < (n + 1) * W ∧ H0 = (mu_sr (mu_cpi (mu_nw H 100 (2 * c + W) (2 * c + W)) (mu_p (mu_r H r 1)) 0 (mu_z H) 0 c) r 1 (some (mu_z H))))) ∧ H1 = mu_si (rw_fill H0 (mu_p (mu_r H0 r 1)) (n * W) (rw_col a1 a2 a3 a4) W) r 2 (nI (n + 1))) x H1) := by
    intro hgr
    refine rw_put_loop (W := W) (b := n * W) hG ?_ (by rw [hgi]; exact e0) ?_ ?_ ?_
    · rw [er]
      exact ⟨rfl, Nat.lt_succ_self _, hz0⟩
    · rw [er]
      show n * W + W ≤ mu_n (mu_sr (mu_cpi (mu_nw H 100 (2 * c + W) (2 * c + W)) (mu_p (mu_r H r 1)) 0 (mu_z H) 0 c) r 1 (some (mu_z H))) (mu_z H)
      rw [hzn]
      omega
    · rw [er]
      show mu_n (mu_sr (mu_cpi (mu_nw H 100 (2 * c + W) (2 * c + W)) (mu_p (mu_r H r 1)) 0 (mu_z H) 0 c) r 1 (some (mu_z H))) (mu_z H) < 2 ^ 31
      rw [hzn]
      omega
    · refine rw_put_end (n := n) hG ?_ ⟨rfl, _, Or.inr ⟨hgr, rfl⟩, rfl⟩
      rw [er, mu_i_fill, if_neg (fun z => by have : r = mu_z H := z.1; omega), hgi]
      exact e2
  refine mu_meth (M := mu_m17) rfl rfl ?_
  refine mu_go mu_g17 (k := 6) (f1 := (11, [(5, .inl ((mu_i H r 2) * (mu_i H r 0))), (0, .inr (.inr (some r))), (1, .inl a1), (2, .inl a2), (3, .inl a3), (4, .inl a4)], [], H)) (C := [mu_is H (some r) 10, mu_is H (some r) 10]) rfl (show (mu_is H (some r) 10) ∧ (mu_is H (some r) 10) from ⟨hR.1, hR.1⟩) ?_
  rw [e2, e0, pk_mul]
  refine mu_go mu_g17 (k := 7) (f1 := (23, [(5, .inl (nI (n * W))), (0, .inr (.inr (some r))), (1, .inl a1), (2, .inl a2), (3, .inl a3), (4, .inl a4)], [.inl (Int32.ofNat (mu_n H (mu_p (mu_r H r 1)))), .inl ((nI (n * W)) + (mu_i H r 0))], H)) (C := [mu_is H (some r) 10, mu_is H (some r) 10, mu_isr H (mu_r H r 1) (mu_k H (mu_p (mu_r H r 1))), 100 ≤ mu_k H (mu_p (mu_r H r 1))]) rfl (show (mu_is H (some r) 10) ∧ (mu_is H (some r) 10) ∧ (mu_isr H (mu_r H r 1) (mu_k H (mu_p (mu_r H r 1)))) ∧ (100 ≤ mu_k H (mu_p (mu_r H r 1))) from ⟨hR.1, hR.1, ⟨hR.2.1.1, Or.inl hR.2.1.2.1, rfl⟩, by rw [hR.2.1.2.2]; exact Nat.le_refl _⟩) ?_
  refine mu_if (P := (Int32.ofNat (mu_n H (mu_p (mu_r H r 1)))) < ((nI (n * W)) + (mu_i H r 0))) (a := 26) (b := 49) rfl trivial (fun h1 => ?_) (fun h1 => ?_)
  · -- 26: (Int32.ofNat (mu_n H (mu_p (mu_r H r 1)))) < ((nI (n * W)) + (mu_i H r 0))
    refine mu_go mu_g17 (k := 11) (f1 := (43, [(5, .inl (nI (n * W))), (0, .inr (.inr (some r))), (1, .inl a1), (2, .inl a2), (3, .inl a3), (4, .inl a4)], [.inl (((2 : Int32) * (Int32.ofNat (mu_n H (mu_p (mu_r H r 1))))) + (mu_i H r 0)), .inr (.inr (mu_r H r 1)), .inr (.inr (some r))], H)) (C := [mu_is H (some r) 10, mu_is H (some r) 10, mu_isr H (mu_r H r 1) (mu_k H (mu_p (mu_r H r 1))), 100 ≤ mu_k H (mu_p (mu_r H r 1)), mu_is H (some r) 10]) rfl (show (mu_is H (some r) 10) ∧ (mu_is H (some r) 10) ∧ (mu_isr H (mu_r H r 1) (mu_k H (mu_p (mu_r H r 1)))) ∧ (100 ≤ mu_k H (mu_p (mu_r H r 1))) ∧ (mu_is H (some r) 10) from ⟨hR.1, hR.1, ⟨hR.2.1.1, Or.inl hR.2.1.2.1, rfl⟩, by rw [hR.2.1.2.2]; exact Nat.le_refl _, hR.1⟩) ?_
    rw [show ((2 : Int32) * (Int32.ofNat (mu_n H (mu_p (mu_r H r 1))))) + (mu_i H r 0) = nI (2 * c + W) from by rw [en, e0]; show nI 2 * nI c + nI W = _; rw [pk_mul, nI_add]]
    refine mu_cAe rfl trivial (en ▸ mu_copyOf_ok (d := d) (N := 2 * c + W) hR.2.1 (by omega) (by omega) hz) ?_
    refine mu_go mu_g17 (k := 3) (f1 := (52, [(6, .inl (0 : Int32)), (5, .inl (nI (n * W))), (0, .inr (.inr (some r))), (1, .inl a1), (2, .inl a2), (3, .inl a3), (4, .inl a4)], [], (mu_sr (mu_cpi (mu_nw H 100 (2 * c + W) (2 * c + W)) (mu_p (mu_r H r 1)) 0 (mu_z H) 0 c) r 1 (some (mu_z H))))) (C := [mu_is (mu_cpi (mu_nw H 100 (2 * c + W) (2 * c + W)) (mu_p (mu_r H r 1)) 0 (mu_z H) 0 c) (some r) 10]) rfl (show mu_is (mu_cpi (mu_nw H 100 (2 * c + W) (2 * c + W)) (mu_p (mu_r H r 1)) 0 (mu_z H) 0 c) (some r) 10 from hG) ?_
    exact grown (by rw [en, e0, show Int32.ofNat c = nI c from rfl, nI_add, nI_ltI (by omega) (by omega)] at h1; omega)
  · -- 49: not (Int32.ofNat (mu_n H (mu_p (mu_r H r 1)))) < ((nI (n * W)) + (mu_i H r 0))
    refine mu_go mu_g17 (k := 2) (f1 := (52, [(6, .inl (0 : Int32)), (5, .inl (nI (n * W))), (0, .inr (.inr (some r))), (1, .inl a1), (2, .inl a2), (3, .inl a3), (4, .inl a4)], [], H)) (C := []) rfl trivial ?_
    exact stay (by rw [← en]; exact h1)
