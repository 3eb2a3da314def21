/-! Arrays.fill of ints; ranges that are in order -/
/-- java/util/Arrays.fill([II)V -/
abbrev mu_m40 : ev_M := (4, none, [], ev_b40)
theorem mu_g40 : mu_good mu_m40 := mu_goodk ev_k40
/-- java/util/Arrays.rangeCheck(III)V -/
abbrev mu_m100 : ev_M := (3, none, [], ev_b100)
theorem mu_g100 : mu_good mu_m100 := mu_goodk ev_k100
theorem ar_fill_ok {d n : Nat} {o : Option Nat} {v : Int32} {H : mu_H} (ho : mu_is H o 100) (hn : mu_n H (mu_p o) = n) (h31 : n < 2 ^ 31) : mu_TV (mu_D (d + 1)) 40 [.inr (.inr o), .inl v] H (fun H1 => H1 = rw_fill H (mu_p o) 0 (fun _ => v) n) := by
  refine mu_meth (M := mu_m40) rfl rfl ?_
  refine mu_go mu_g40 (k := 5) (f1 := (5, [(3, .inl (Int32.ofNat (mu_n H (mu_p o)))), (2, .inl (0 : Int32)), (0, .inr (.inr o)), (1, .inl v)], [], H)) (C := [mu_isr H o (mu_k H (mu_p o)), 100 ≤ mu_k H (mu_p o)]) rfl (show (mu_isr H o (mu_k H (mu_p o))) ∧ (100 ≤ mu_k H (mu_p o)) from ⟨⟨ho.1, Or.inl ho.2.1, rfl⟩, by rw [ho.2.2]; exact Nat.le_refl _⟩) ?_
  rw [hn]
  refine mw_ht (mu_fn_of (show [3, 2, 0, 1].Nodup by decide)) ?_
  refine mw_sub (L' := [(2, .inl (nI 0)), (3, .inl (Int32.ofNat n)), (0, .inr (.inr o)), (1, .inl v)]) (by rw [nI_0]; simp) ?_
  suffices key : mu_W (mu_D d) mu_m40 (5, [(2, .inl (nI 0)), (3, .inl (Int32.ofNat n)), (0, .inr (.inr o)), (1, .inl v)], [], rw_fill H (mu_p o) 0 (fun _ => v) 0) (fun r => ∃ H1, r = (.inl none, H1) ∧ H1 = rw_fill H (mu_p o) 0 (fun _ => v) n) by
    rw [rw_fill_zero] at key
    exact key
  refine mw_down (α := Nat) (fun k => (5, [(2, .inl (nI k)), (3, .inl (Int32.ofNat n)), (0, .inr (.inr o)), (1, .inl v)], [], rw_fill H (mu_p o) 0 (fun _ => v) k)) (fun k => n - k) (fun k => k ≤ n) (fun k hkn0 ih => ?_) 0 (Nat.zero_le n)
  obtain ⟨Hk, hHk⟩ : ∃ Hk, Hk = rw_fill H (mu_p o) 0 (fun _ => v) k := ⟨_, rfl⟩
  have hkn0 : k ≤ n := hkn0
  have hk : mu_is Hk o 100 := by rw [hHk]; exact ho
  show mu_W (mu_D d) mu_m40 (5, [(2, .inl (nI k)), (3, .inl (Int32.ofNat n)), (0, .inr (.inr o)), (1, .inl v)], [], rw_fill H (mu_p o) 0 (fun _ => v) k) _
  rw [← hHk]
  refine mw_go mu_g40 (k := 2) (f1 := (7, [(2, .inl (nI k)), (3, .inl (Int32.ofNat n)), (0, .inr (.inr o)), (1, .inl v)], [.inl (Int32.ofNat n), .inl (nI k)], Hk)) (C := []) rfl trivial ?_
  refine mw_if (P := (nI k) < (Int32.ofNat n)) (a := 10) (b := 20) (fun _ => rfl) trivial (fun h1 => ?_) (fun h1 => ?_)
  · -- 10: (nI k) < (Int32.ofNat n)
    have hkn : k < n := (nI_ltI (by omega) h31).mp h1
    have hin : vp_in (nI k) (mu_n Hk (mu_p o)) := by rw [hHk]; exact vp_in_nI (show k < mu_n H (mu_p o) by omega) (show mu_n H (mu_p o) < 2 ^ 31 by omega)
    refine mw_go mu_g40 (k := 6) (f1 := (5, [(2, .inl ((nI k) + 1)), (3, .inl (Int32.ofNat n)), (0, .inr (.inr o)), (1, .inl v)], [], (mu_si Hk (mu_p o) (nI k).toNatClampNeg v))) (C := [mu_is Hk o 100, vp_in (nI k) (mu_n Hk (mu_p o))]) rfl (show (mu_is Hk o 100) ∧ (vp_in (nI k) (mu_n Hk (mu_p o))) from ⟨hk, hin⟩) ?_
    rw [← nI_succ, nI_clamp (by omega), hHk, show rw_fill H (mu_p o) 0 (fun _ => v) k = rw_fill H (mu_p o) 0 (fun _ => v) k from rfl, show mu_si (rw_fill H (mu_p o) 0 (fun _ => v) k) (mu_p o) k v = rw_fill H (mu_p o) 0 (fun _ => v) (k + 1) from by have z := rw_fill_succ H (mu_p o) 0 (fun _ => v) k; rw [Nat.zero_add] at z; exact z]
    exact ih (k + 1) (show k + 1 ≤ n by omega) (by show n - (k + 1) < n - k; omega)
  · -- 20: not (nI k) < (Int32.ofNat n)
    have hkn : ¬ k < n := fun z => h1 (nI_lt z h31)
    exact mw_of (fun _ => mu_ret rfl trivial ⟨_, rfl, by rw [hHk, show k = n by omega]⟩)
theorem ar_range_ok {d : Nat} {len a b : Int32} {H : mu_H} (h1 : ¬ b < a) (h2 : ¬ a < 0) (h3 : ¬ len < b) : mu_TV (mu_D (d + 1)) 100 [.inl len, .inl a, .inl b] H (fun H1 => H1 = H) := by
  have g1 := h1
  have g2 := h2
  have g3 := h3
  refine mu_meth (M := mu_m100) rfl rfl ?_
  refine mu_go mu_g100 (k := 2) (f1 := (2, [(0, .inl len), (1, .inl a), (2, .inl b)], [.inl b, .inl a], H)) (C := []) rfl trivial ?_
  refine mu_if (P := b < a) (a := 5) (b := 46) rfl trivial (fun h1 => ?_) (fun h1 => ?_)
  · -- 5: b < a
    exact absurd h1 g1
  · -- 46: not b < a
    refine mu_go mu_g100 (k := 1) (f1 := (47, [(0, .inl len), (1, .inl a), (2, .inl b)], [.inl a], H)) (C := []) rfl trivial ?_
    refine mu_if (P := a < 0) (a := 50) (b := 59) rfl trivial (fun h2 => ?_) (fun h2 => ?_)
    · -- 50: a < 0
      exact absurd h2 g2
    · -- 59: not a < 0
      refine mu_go mu_g100 (k := 2) (f1 := (61, [(0, .inl len), (1, .inl a), (2, .inl b)], [.inl len, .inl b], H)) (C := []) rfl trivial ?_
      refine mu_if (P := len < b) (a := 64) (b := 73) rfl trivial (fun h3 => ?_) (fun h3 => ?_)
      · -- 64: len < b
        exact absurd h3 g3
      · -- 73: not len < b
        exact mu_ret rfl trivial ⟨_, rfl, rfl⟩
