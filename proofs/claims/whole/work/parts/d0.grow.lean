/-! A ROW OF INTS THAT GROWS, IN THE UPPER LAYER -/
section GrowA
variable {m : Nat} {H : mu_H} {U : Ud} {C : Nat → Nat} {P J N n : Nat}
theorem um.growA (h : um m H) (e : ud m H = U) (hP : uo P = true) (ho : gi_o P J = true) (hr : gi_r P J = none) (hn : n = (U.2.2.1 P J).1) (hN : 2 * n ≤ N) (hN2 : N ≤ 16777216) : um m (mu_sr (mu_cpi (mu_nw H 100 N N) (mu_p (mu_r H P J)) 0 (mu_z H) 0 n) P J (some (mu_z H))) ∧ ur m C H (mu_sr (mu_cpi (mu_nw H 100 N N) (mu_p (mu_r H P J)) 0 (mu_z H) 0 n) P J (some (mu_z H))) ∧ ud m (mu_sr (mu_cpi (mu_nw H 100 N N) (mu_p (mu_r H P J)) 0 (mu_z H) 0 n) P J (some (mu_z H))) = upF (upN U P J N (mu_z H)) P J 0 (U.2.2.1 P J).2 n := by
  have hl : gi_len H (P, J) = n := (ud_n e hP ho).trans hn.symm
  obtain ⟨u, r, d⟩ := h.newA (C := C) (P := P) (J := J) (N := N) hP ho hr (by rw [hl]; exact hN) hN2
  have ha := (h.1.1.o ho).2.1
  have er : mu_r (mu_sr (mu_nw H 100 N N) P J (some (mu_z H))) P J = some (mu_z H) := by rw [mu_r_sr, if_pos ⟨rfl, rfl⟩]
  have hg : (fun i => mu_i (mu_nw H 100 N N) (mu_p (mu_r H P J)) (0 + i)) = (U.2.2.1 P J).2 := by
    funext i
    rw [mu_i_nw, if_neg (by omega), Nat.zero_add]
    exact ud_a e hP ho
  obtain ⟨u', r', d'⟩ := u.fillA (C := C) (P := P) (J := J) (b := 0) (g := (U.2.2.1 P J).2) (k := n) hP ho
  rw [er] at u' r' d'
  have z : mu_sr (mu_cpi (mu_nw H 100 N N) (mu_p (mu_r H P J)) 0 (mu_z H) 0 n) P J (some (mu_z H)) = rw_fill (mu_sr (mu_nw H 100 N N) P J (some (mu_z H))) (mu_p (some (mu_z H))) 0 (fun i => mu_i (mu_nw H 100 N N) (mu_p (mu_r H P J)) (0 + i)) n := rfl
  rw [z, hg]
  refine ⟨u', r.trans r', ?_⟩
  rw [d', d, e]
/-- what it holds then -/
theorem upG_at {z : Nat} : (upF (upN U P J N z) P J 0 (U.2.2.1 P J).2 n).2.2.1 P J = (N, fun i => if i < n then (U.2.2.1 P J).2 i else 0) := by
  show f2 (f2 U.2.2.1 P J (N, fun _ => 0)) P J ((f2 U.2.2.1 P J (N, fun _ => 0) P J).1, _) P J = _
  rw [f2_at]
  refine Prod.ext ?_ (funext fun i => ?_)
  · show (f2 U.2.2.1 P J (N, fun _ => 0) P J).1 = N
    rw [f2_at]
  · show (if 0 ≤ i ∧ i < 0 + n then (U.2.2.1 P J).2 (i - 0) else (f2 U.2.2.1 P J (N, fun _ => 0) P J).2 i) = if i < n then (U.2.2.1 P J).2 i else 0
    rw [f2_at, Nat.sub_zero]
    by_cases h : i < n
    · rw [if_pos (by omega), if_pos h]
    · rw [if_neg (by omega), if_neg h]
end GrowA
