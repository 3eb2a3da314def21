/-! Arrays.fill of a range of longs -/
/-- longs from b on, k of them, written -/
def ml_fill (H : mu_H) (q b : Nat) (g : Nat → Int64) (k : Nat) : mu_H := (H.1, H.2.1, H.2.2.1, (fun p i => if p = q ∧ b ≤ i ∧ i < b + k then g (i - b) else H.2.2.2.1 p i), H.2.2.2.2.1, H.2.2.2.2.2.1, H.2.2.2.2.2.2.1, H.2.2.2.2.2.2.2)
theorem mu_l_fill (H : mu_H) (q b : Nat) (g : Nat → Int64) (k p i : Nat) : mu_l (ml_fill H q b g k) p i = if p = q ∧ b ≤ i ∧ i < b + k then g (i - b) else mu_l H p i := rfl
theorem ml_fill_zero (H : mu_H) (q b : Nat) (g : Nat → Int64) : ml_fill H q b g 0 = H := by
  have e : (fun p i => if p = q ∧ b ≤ i ∧ i < b + 0 then g (i - b) else H.2.2.2.1 p i) = H.2.2.2.1 := by
    funext p i
    rw [if_neg (fun z => by omega)]
  unfold ml_fill
  rw [e]
theorem ml_fill_succ (H : mu_H) (q b : Nat) (g : Nat → Int64) (k : Nat) : mu_sl (ml_fill H q b g k) q (b + k) (g k) = ml_fill H q b g (k + 1) := by
  have e : (fun p i => if p = q ∧ i = b + k then g k else (if p = q ∧ b ≤ i ∧ i < b + k then g (i - b) else H.2.2.2.1 p i)) = (fun p i => if p = q ∧ b ≤ i ∧ i < b + (k + 1) then g (i - b) else H.2.2.2.1 p i) := by
    funext p i
    by_cases h1 : p = q ∧ i = b + k
    · rw [if_pos h1, if_pos ⟨h1.1, by omega, by omega⟩, show i - b = k by omega]
    · rw [if_neg h1]
      by_cases h2 : p = q ∧ b ≤ i ∧ i < b + k
      · rw [if_pos h2, if_pos ⟨h2.1, h2.2.1, by omega⟩]
      · rw [if_neg h2, if_neg (fun z => by
          by_cases h3 : i = b + k
          · exact h1 ⟨z.1, h3⟩
          · exact h2 ⟨z.1, z.2.1, by omega⟩)]
  show (H.1, H.2.1, H.2.2.1, (fun p i => if p = q ∧ i = b + k then g k else (if p = q ∧ b ≤ i ∧ i < b + k then g (i - b) else H.2.2.2.1 p i)), H.2.2.2.2.1, H.2.2.2.2.2.1, H.2.2.2.2.2.2.1, H.2.2.2.2.2.2.2) = _
  rw [e]
  rfl
/-- java/util/Arrays.fill([JIIJ)V -/
abbrev mu_m99 : ev_M := (6, none, [], ev_b99)
theorem mu_g99 : mu_good mu_m99 := mu_goodk ev_k99
theorem ar_fillL_loop {run : Nat → List ev_V → List ev_C → Option ev_R} {a b : Nat} {o : Option Nat} {v : Int64} {H : mu_H} (ho : mu_is H o 102) (hab : a ≤ b) (hb : b ≤ mu_n H (mu_p o)) (h31 : mu_n H (mu_p o) < 2 ^ 31) : mu_HT run mu_m99 (10, [(5, .inl (nI (a + 0))), (0, .inr (.inr o)), (1, .inl (nI a)), (2, .inl (nI b)), (3, .inr (.inl v))], [], H) (fun r => ∃ H1, r = (.inl none, H1) ∧ H1 = ml_fill H (mu_p o) a (fun _ => v) (b - a)) := by
  have key := mu_up (run := run) (M := mu_m99) (Φ := fun r => ∃ H1, r = (.inl none, H1) ∧ H1 = ml_fill H (mu_p o) a (fun _ => v) (b - a)) (N := b - a) (fun k => (10, [(5, .inl (nI (a + k))), (0, .inr (.inr o)), (1, .inl (nI a)), (2, .inl (nI b)), (3, .inr (.inl v))], [], ml_fill H (mu_p o) a (fun _ => v) k)) (fun k hk ih => ?_) ?_ (Nat.zero_le (b - a))
  · rw [ml_fill_zero] at key
    exact key
  · show mu_HT run mu_m99 (10, [(5, .inl (nI (a + k))), (0, .inr (.inr o)), (1, .inl (nI a)), (2, .inl (nI b)), (3, .inr (.inl v))], [], ml_fill H (mu_p o) a (fun _ => v) k) _
    obtain ⟨Hk, hHk⟩ : ∃ Hk, Hk = ml_fill H (mu_p o) a (fun _ => v) k := ⟨_, rfl⟩
    rw [← hHk]
    have hk1 : mu_is Hk o 102 := by rw [hHk]; exact ho
    have hin : vp_in (nI (a + k)) (mu_n Hk (mu_p o)) := by rw [hHk]; exact vp_in_nI (show a + k < mu_n H (mu_p o) by omega) h31
    refine mu_go mu_g99 (k := 2) (f1 := (13, [(5, .inl (nI (a + k))), (0, .inr (.inr o)), (1, .inl (nI a)), (2, .inl (nI b)), (3, .inr (.inl v))], [.inl (nI b), .inl (nI (a + k))], Hk)) (C := []) rfl trivial ?_
    refine mu_if (P := (nI (a + k)) < (nI b)) (a := 16) (b := 27) rfl trivial (fun h1 => ?_) (fun h1 => ?_)
    · -- 16: (nI (a + k)) < (nI b)
      refine mu_go mu_g99 (k := 6) (f1 := (10, [(5, .inl ((nI (a + k)) + 1)), (0, .inr (.inr o)), (1, .inl (nI a)), (2, .inl (nI b)), (3, .inr (.inl v))], [], (mu_sl Hk (mu_p o) (nI (a + k)).toNatClampNeg v))) (C := [mu_is Hk o 102, vp_in (nI (a + k)) (mu_n Hk (mu_p o))]) rfl (show (mu_is Hk o 102) ∧ (vp_in (nI (a + k)) (mu_n Hk (mu_p o))) from ⟨hk1, hin⟩) ?_
      rw [← nI_succ, nI_clamp (by omega), hHk, ml_fill_succ]
      exact ih
    · -- 27: not (nI (a + k)) < (nI b)
      exact absurd (nI_lt (by omega) (by omega)) h1
  · show mu_HT run mu_m99 (10, [(5, .inl (nI (a + (b - a)))), (0, .inr (.inr o)), (1, .inl (nI a)), (2, .inl (nI b)), (3, .inr (.inl v))], [], ml_fill H (mu_p o) a (fun _ => v) (b - a)) _
    obtain ⟨Hk, hHk⟩ : ∃ Hk, Hk = ml_fill H (mu_p o) a (fun _ => v) (b - a) := ⟨_, rfl⟩
    have hk1 : mu_is Hk o 102 := by rw [hHk]; exact ho
    rw [← hHk]
    refine mu_go mu_g99 (k := 2) (f1 := (13, [(5, .inl (nI (a + (b - a)))), (0, .inr (.inr o)), (1, .inl (nI a)), (2, .inl (nI b)), (3, .inr (.inl v))], [.inl (nI b), .inl (nI (a + (b - a)))], Hk)) (C := []) rfl trivial ?_
    refine mu_if (P := (nI (a + (b - a))) < (nI b)) (a := 16) (b := 27) rfl trivial (fun h1 => ?_) (fun h1 => ?_)
    · -- 16: (nI (a + (b - a))) < (nI b)
      exact absurd h1 (nI_nlt (by omega) (by omega))
    · -- 27: not (nI (a + (b - a))) < (nI b)
      exact mu_ret rfl trivial ⟨_, rfl, rfl⟩
theorem ar_fillL_ok {d a b : Nat} {o : Option Nat} {v : Int64} {H : mu_H} (ho : mu_is H o 102) (hab : a ≤ b) (hb : b ≤ mu_n H (mu_p o)) (h31 : mu_n H (mu_p o) < 2 ^ 31) : mu_TV (mu_D (d + 2)) 99 [.inr (.inr o), .inl (nI a), .inl (nI b), .inr (.inl v)] H (fun H1 => H1 = ml_fill H (mu_p o) a (fun _ => v) (b - a)) := by
  have hlen : Int32.ofNat (mu_n H (mu_p o)) = nI (mu_n H (mu_p o)) := rfl
  refine mu_meth (M := mu_m99) rfl rfl ?_
  refine mu_go mu_g99 (k := 4) (f1 := (4, [(0, .inr (.inr o)), (1, .inl (nI a)), (2, .inl (nI b)), (3, .inr (.inl v))], [.inl (nI b), .inl (nI a), .inl (Int32.ofNat (mu_n H (mu_p o)))], H)) (C := [mu_isr H o (mu_k H (mu_p o)), 100 ≤ mu_k H (mu_p o)]) rfl (show (mu_isr H o (mu_k H (mu_p o))) ∧ (100 ≤ mu_k H (mu_p o)) from ⟨⟨ho.1, Or.inl ho.2.1, rfl⟩, by rw [ho.2.2]; decide⟩) ?_
  refine mu_cVe rfl trivial (ar_range_ok (d := d) (nI_nlt hab (by omega)) (nI_pos (by omega)) (by rw [hlen]; exact nI_nlt hb (by omega))) ?_
  refine mu_go mu_g99 (k := 2) (f1 := (10, [(5, .inl (nI a)), (0, .inr (.inr o)), (1, .inl (nI a)), (2, .inl (nI b)), (3, .inr (.inl v))], [], H)) (C := []) rfl trivial ?_
  exact ar_fillL_loop ho hab hb h31
