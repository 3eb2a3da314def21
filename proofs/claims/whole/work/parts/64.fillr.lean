/-! Arrays.fill of a range of ints -/
/-- java/util/Arrays.fill([IIII)V -/
abbrev mu_m98 : ev_M := (5, none, [], ev_b98)
theorem mu_g98 : mu_good mu_m98 := mu_goodk ev_k98
theorem ar_fillR_loop {run : Nat → List ev_V → List ev_C → Option ev_R} {a b : Nat} {o : Option Nat} {v : Int32} {H : mu_H} (ho : mu_is H o 100) (hab : a ≤ b) (hb : b ≤ mu_n H (mu_p o)) (h31 : mu_n H (mu_p o) < 2 ^ 31) : mu_HT run mu_m98 (10, [(4, .inl (nI (a + 0))), (0, .inr (.inr o)), (1, .inl (nI a)), (2, .inl (nI b)), (3, .inl v)], [], H) (fun r => ∃ H1, r = (.inl none, H1) ∧ H1 = rw_fill H (mu_p o) a (fun _ => v) (b - a)) := by
  have key := mu_up (run := run) (M := mu_m98) (Φ := fun r => ∃ H1, r = (.inl none, H1) ∧ H1 = rw_fill H (mu_p o) a (fun _ => v) (b - a)) (N := b - a) (fun k => (10, [(4, .inl (nI (a + k))), (0, .inr (.inr o)), (1, .inl (nI a)), (2, .inl (nI b)), (3, .inl v)], [], rw_fill H (mu_p o) a (fun _ => v) k)) (fun k hk ih => ?_) ?_ (Nat.zero_le (b - a))
  · rw [rw_fill_zero] at key
    exact key
  · show mu_HT run mu_m98 (10, [(4, .inl (nI (a + k))), (0, .inr (.inr o)), (1, .inl (nI a)), (2, .inl (nI b)), (3, .inl v)], [], rw_fill H (mu_p o) a (fun _ => v) k) _
    obtain ⟨Hk, hHk⟩ : ∃ Hk, Hk = rw_fill H (mu_p o) a (fun _ => v) k := ⟨_, rfl⟩
    rw [← hHk]
    have hk1 : mu_is Hk o 100 := by rw [hHk]; exact ho
    have hin : vp_in (nI (a + k)) (mu_n Hk (mu_p o)) := by rw [hHk]; exact vp_in_nI (show a + k < mu_n H (mu_p o) by omega) h31
    refine mu_go mu_g98 (k := 2) (f1 := (13, [(4, .inl (nI (a + k))), (0, .inr (.inr o)), (1, .inl (nI a)), (2, .inl (nI b)), (3, .inl v)], [.inl (nI b), .inl (nI (a + k))], Hk)) (C := []) rfl trivial ?_
    refine mu_if (P := (nI (a + k)) < (nI b)) (a := 16) (b := 27) rfl trivial (fun h1 => ?_) (fun h1 => ?_)
    · -- 16: (nI (a + k)) < (nI b)
      refine mu_go mu_g98 (k := 6) (f1 := (10, [(4, .inl ((nI (a + k)) + 1)), (0, .inr (.inr o)), (1, .inl (nI a)), (2, .inl (nI b)), (3, .inl v)], [], (mu_si Hk (mu_p o) (nI (a + k)).toNatClampNeg v))) (C := [mu_is Hk o 100, vp_in (nI (a + k)) (mu_n Hk (mu_p o))]) rfl (show (mu_is Hk o 100) ∧ (vp_in (nI (a + k)) (mu_n Hk (mu_p o))) from ⟨hk1, hin⟩) ?_
      rw [← nI_succ, nI_clamp (by omega), hHk, rw_fill_succ]
      exact ih
    · -- 27: not (nI (a + k)) < (nI b)
      exact absurd (nI_lt (by omega) (by omega)) h1
  · show mu_HT run mu_m98 (10, [(4, .inl (nI (a + (b - a)))), (0, .inr (.inr o)), (1, .inl (nI a)), (2, .inl (nI b)), (3, .inl v)], [], rw_fill H (mu_p o) a (fun _ => v) (b - a)) _
    obtain ⟨Hk, hHk⟩ : ∃ Hk, Hk = rw_fill H (mu_p o) a (fun _ => v) (b - a) := ⟨_, rfl⟩
    have hk1 : mu_is Hk o 100 := by rw [hHk]; exact ho
    rw [← hHk]
    refine mu_go mu_g98 (k := 2) (f1 := (13, [(4, .inl (nI (a + (b - a)))), (0, .inr (.inr o)), (1, .inl (nI a)), (2, .inl (nI b)), (3, .inl v)], [.inl (nI b), .inl (nI (a + (b - a)))], Hk)) (C := []) rfl trivial ?_
    refine mu_if (P := (nI (a + (b - a))) < (nI b)) (a := 16) (b := 27) rfl trivial (fun h1 => ?_) (fun h1 => ?_)
    · -- 16: (nI (a + (b - a))) < (nI b)
      exact absurd h1 (nI_nlt (by omega) (by omega))
    · -- 27: not (nI (a + (b - a))) < (nI b)
      exact mu_ret rfl trivial ⟨_, rfl, rfl⟩
theorem ar_fillR_ok {d a b : Nat} {o : Option Nat} {v : Int32} {H : mu_H} (ho : mu_is H o 100) (hab : a ≤ b) (hb : b ≤ mu_n H (mu_p o)) (h31 : mu_n H (mu_p o) < 2 ^ 31) : mu_TV (mu_D (d + 2)) 98 [.inr (.inr o), .inl (nI a), .inl (nI b), .inl v] H (fun H1 => H1 = rw_fill H (mu_p o) a (fun _ => v) (b - a)) := by
  have hlen : Int32.ofNat (mu_n H (mu_p o)) = nI (mu_n H (mu_p o)) := rfl
  refine mu_meth (M := mu_m98) rfl rfl ?_
  refine mu_go mu_g98 (k := 4) (f1 := (4, [(0, .inr (.inr o)), (1, .inl (nI a)), (2, .inl (nI b)), (3, .inl v)], [.inl (nI b), .inl (nI a), .inl (Int32.ofNat (mu_n H (mu_p o)))], H)) (C := [mu_isr H o (mu_k H (mu_p o)), 100 ≤ mu_k H (mu_p o)]) rfl (show (mu_isr H o (mu_k H (mu_p o))) ∧ (100 ≤ mu_k H (mu_p o)) from ⟨⟨ho.1, Or.inl ho.2.1, rfl⟩, by rw [ho.2.2]; exact Nat.le_refl _⟩) ?_
  refine mu_cVe rfl trivial (ar_range_ok (d := d) (nI_nlt hab (by omega)) (nI_pos (by omega)) (by rw [hlen]; exact nI_nlt hb (by omega))) ?_
  refine mu_go mu_g98 (k := 2) (f1 := (10, [(4, .inl (nI a)), (0, .inr (.inr o)), (1, .inl (nI a)), (2, .inl (nI b)), (3, .inl v)], [], H)) (C := []) rfl trivial ?_
  exact ar_fillR_loop ho hab hb h31
