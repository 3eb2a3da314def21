/-! fitStates -/
/-- how long an array of e ints for each valuation may be -/
def lwh (e L : Nat) : Prop := L = 64 ∨ L = e * 64 ∨ L = e * 1028 ∨ L = e * 16388
section FitStates
variable {H H1 : mu_H}
/-- a field of ints as before, or with a new array -/
theorem gi.either {S : Nat → Bool} {P J : Nat} {x : Option Nat} (h : gi H) (ho : gi_o P J = true) (hr : gi_r P J = none) (hw : gi_w P = none) (hS : S P = true) (q : (x = mu_r H P J ∧ H1 = H) ∨ ∃ N, 2 * gi_len H (P, J) ≤ N ∧ N ≤ 16777216 ∧ x = some (mu_z H) ∧ H1 = mu_nw H 100 N N) : gi (mu_sr H1 P J x) ∧ gk S H (mu_sr H1 P J x) ∧ (∀ p, p < mu_z H → ∀ i, mu_i (mu_sr H1 P J x) p i = mu_i H p i) ∧ (∀ p j, p < mu_z H → ¬ (p = P ∧ j = J) → mu_r (mu_sr H1 P J x) p j = mu_r H p j) ∧ ((x = mu_r H P J ∧ mu_sr H1 P J x = H) ∨ ∃ N, 2 * gi_len H (P, J) ≤ N ∧ x = some (mu_z H) ∧ H1 = mu_nw H 100 N N ∧ mu_r (mu_sr H1 P J x) P J = some (mu_z H) ∧ gi_len (mu_sr H1 P J x) (P, J) = N ∧ ∀ i, mu_i (mu_sr H1 P J x) (mu_z H) i = 0) := by
  rcases q with ⟨q2, q3⟩ | ⟨N, n1, n2, q2, q3⟩
  · rw [q2, q3, mu_sr_id]
    exact ⟨h, gk.refl _ _, fun _ _ _ => rfl, fun _ _ _ _ => rfl, Or.inl ⟨rfl, rfl⟩⟩
  · obtain ⟨z1, z2, z3, z4, z5, z6, z7, z8⟩ := h.newo (S := S) (P := P) (J := J) (N := N) (H1 := mu_sr H1 P J x) ho hr hw n1 n2 (by rw [q2, q3]) hS
    have z9 : gi_len (mu_sr H1 P J x) (P, J) = N := by
      show mu_n (mu_sr H1 P J x) (mu_p (mu_r (mu_sr H1 P J x) P J)) = _
      rw [z3]
      exact z4
    exact ⟨z1, z2, z6, z7, Or.inr ⟨N, n1, q2, q3, z3, z9, z8⟩⟩
/-- PathProver.fitStates([III)[I -/
abbrev mu_m384 : ev_M := (4, (some (.array .int)), [], ev_b384)
theorem mu_g384 : mu_good mu_m384 := mu_goodk ev_k384
theorem fst_tail {d n e M : Nat} {o : Option Nat} {H : mu_H} (hO : mu_is H o 100) (hn : n ≤ M) (hM : M ≤ 16384) (he : 1 ≤ e) (he7 : e ≤ 7) (hz : mu_z H + 1 ≤ 1000000) (hL : mu_n H (mu_p o) ≤ 16777216) {Φ : mu_R → Prop} (h1 : e * (n + 4) ≤ mu_n H (mu_p o) → Φ (.inl (some (.inr (.inr o))), H)) (h2 : mu_n H (mu_p o) < e * (n + 4) → Φ (.inl (some (.inr (.inr (some (mu_z H))))), mu_nw H 100 (e * (M + 4)) (e * (M + 4)))) :
    mu_HT (mu_D (d + 1)) mu_m384 (31, [(0, .inr (.inr o)), (1, .inl (nI n)), (2, .inl (nI e))], [.inl (nI M)], H) Φ := by
  have hi : mu_isr H o (mu_k H (mu_p o)) ∧ 100 ≤ mu_k H (mu_p o) := ⟨⟨hO.1, Or.inl hO.2.1, rfl⟩, by rw [hO.2.2]; exact Nat.le_refl _⟩
  have b1 : e * (n + 4) ≤ 7 * 16388 := Nat.mul_le_mul he7 (by omega)
  have b2 : e * (M + 4) ≤ 7 * 16388 := Nat.mul_le_mul he7 (by omega)
  refine mu_go mu_g384 (k := 8) (f1 := (39, [(3, .inl (nI M)), (0, .inr (.inr o)), (1, .inl (nI n)), (2, .inl (nI e))], [.inl (nI e * (nI n + 4)), .inl (Int32.ofNat (mu_n H (mu_p o)))], H)) (C := [mu_isr H o (mu_k H (mu_p o)), 100 ≤ mu_k H (mu_p o)]) rfl hi ?_
  rw [show nI e * (nI n + 4) = nI (e * (n + 4)) from by rw [show nI n + 4 = nI (n + 4) from nI_add n 4]; exact pk_mul e _]
  refine mu_if (P := (Int32.ofNat (mu_n H (mu_p o))) < nI (e * (n + 4))) (a := 46) (b := 42) rfl trivial (fun hx => ?_) (fun hx => ?_)
  · have hx2 : mu_n H (mu_p o) < e * (n + 4) := (nI_ltI (by omega) (by omega)).mp hx
    refine mu_go mu_g384 (k := 5) (f1 := (51, [(3, .inl (nI M)), (0, .inr (.inr o)), (1, .inl (nI n)), (2, .inl (nI e))], [.inl (nI e * (nI M + 4))], H)) (C := []) rfl trivial ?_
    rw [show nI e * (nI M + 4) = nI (e * (M + 4)) from by rw [show nI M + 4 = nI (M + 4) from nI_add M 4]; exact pk_mul e _]
    refine mu_go mu_g384 (k := 1) (f1 := (53, [(3, .inl (nI M)), (0, .inr (.inr o)), (1, .inl (nI n)), (2, .inl (nI e))], [.inr (.inr (some (mu_z H)))], (mu_nw H 100 (nI (e * (M + 4))).toNatClampNeg (nI (e * (M + 4))).toNatClampNeg))) (C := [¬ (nI (e * (M + 4))) < 0, (nI (e * (M + 4))).toNatClampNeg * ev_bytes 0 ≤ 536870912, mu_z H + 1 ≤ 1000000]) rfl (show (¬ (nI (e * (M + 4))) < 0) ∧ ((nI (e * (M + 4))).toNatClampNeg * ev_bytes 0 ≤ 536870912) ∧ (mu_z H + 1 ≤ 1000000) from ⟨nI_pos (by omega), by rw [nI_clamp (by omega)]; show (e * (M + 4)) * 4 ≤ 536870912; omega, hz⟩) ?_
    rw [nI_clamp (by omega)]
    exact mu_ret rfl trivial (h2 hx2)
  · have hx2 : e * (n + 4) ≤ mu_n H (mu_p o) := Nat.le_of_not_lt (fun z => hx ((nI_ltI (by omega) (by omega)).mpr z))
    refine mu_go mu_g384 (k := 2) (f1 := (53, [(3, .inl (nI M)), (0, .inr (.inr o)), (1, .inl (nI n)), (2, .inl (nI e))], [.inr (.inr o)], H)) (C := []) rfl trivial ?_
    exact mu_ret rfl trivial (h1 hx2)
theorem fitStates_ok {d n e : Nat} {o : Option Nat} {H : mu_H} (hO : mu_is H o 100) (hn : n ≤ 16384) (he : e = 1 ∨ e = 2 ∨ e = 7) (hz : mu_z H + 1 ≤ 1000000) (hL : lwh e (mu_n H (mu_p o))) : mu_TA (mu_D (d + 2)) 384 [.inr (.inr o), .inl (nI n), .inl (nI e)] H (fun x H1 => (e * (n + 4) ≤ mu_n H (mu_p o) ∧ x = o ∧ H1 = H) ∨ ∃ N, 2 * mu_n H (mu_p o) ≤ N ∧ e * (n + 4) ≤ N ∧ N ≤ 114716 ∧ lwh e N ∧ x = some (mu_z H) ∧ H1 = mu_nw H 100 N N) := by
  have he1 : 1 ≤ e ∧ e ≤ 7 := by omega
  have hL2 : mu_n H (mu_p o) ≤ 16777216 := by
    unfold lwh at hL
    rcases he with z | z | z <;> subst z <;> omega
  have fin : ∀ M, (M = 60 ∧ n ≤ 60 ∨ M = 1024 ∧ 60 < n ∧ n ≤ 1024 ∨ M = 16384 ∧ 1024 < n) → mu_n H (mu_p o) < e * (n + 4) → 2 * mu_n H (mu_p o) ≤ e * (M + 4) ∧ e * (n + 4) ≤ e * (M + 4) ∧ e * (M + 4) ≤ 114716 ∧ lwh e (e * (M + 4)) := fun M hM hx => by
    unfold lwh at hL ⊢
    rcases he with z | z | z <;> subst z <;> omega
  refine mu_meth (M := mu_m384) rfl rfl ?_
  refine mu_go mu_g384 (k := 2) (f1 := (3, [(0, .inr (.inr o)), (1, .inl (nI n)), (2, .inl (nI e))], [.inl (60 : Int32), .inl (nI n)], H)) (C := []) rfl trivial ?_
  refine mu_if (P := (60 : Int32) < nI n) (a := 11) (b := 6) rfl trivial (fun hx => ?_) (fun hx => ?_)
  · have hx2 : 60 < n := (nI_ltI (a := 60) (by decide) (by omega)).mp hx
    refine mu_go mu_g384 (k := 2) (f1 := (15, [(0, .inr (.inr o)), (1, .inl (nI n)), (2, .inl (nI e))], [.inl (1024 : Int32), .inl (nI n)], H)) (C := []) rfl trivial ?_
    refine mu_if (P := (1024 : Int32) < nI n) (a := 24) (b := 18) rfl trivial (fun hy => ?_) (fun hy => ?_)
    · have hy2 : 1024 < n := (nI_ltI (a := 1024) (by decide) (by omega)).mp hy
      refine mu_go mu_g384 (k := 2) (f1 := (28, [(0, .inr (.inr o)), (1, .inl (nI n)), (2, .inl (nI e))], [.inl (16384 : Int32), .inl (nI n)], H)) (C := []) rfl trivial ?_
      refine mu_cIe rfl trivial (mu_max_ok (d := d) (nI n) (16384 : Int32)) ?_
      rw [show mu_max (nI n) (16384 : Int32) = nI 16384 from by
        unfold mu_max
        by_cases hm : n < 16384
        · rw [if_pos (show nI n < (16384 : Int32) from (nI_ltI (b := 16384) (by omega) (by decide)).mpr hm)]; rfl
        · rw [if_neg (show ¬ nI n < (16384 : Int32) from fun z => hm ((nI_ltI (b := 16384) (by omega) (by decide)).mp z)), show n = 16384 by omega]]
      refine fst_tail hO (by omega) (by omega) he1.1 he1.2 hz hL2 (fun z => ⟨_, _, rfl, Or.inl ⟨z, rfl, rfl⟩⟩) (fun z => ?_)
      obtain ⟨a1, a2, a3, a4⟩ := fin 16384 (by omega) z
      exact ⟨_, _, rfl, Or.inr ⟨_, a1, a2, a3, a4, rfl, rfl⟩⟩
    · have hy2 : n ≤ 1024 := Nat.le_of_not_lt (fun z => hy ((nI_ltI (a := 1024) (by decide) (by omega)).mpr z))
      refine mu_go mu_g384 (k := 2) (f1 := (31, [(0, .inr (.inr o)), (1, .inl (nI n)), (2, .inl (nI e))], [.inl (nI 1024)], H)) (C := []) rfl trivial ?_
      refine fst_tail hO (by omega) (by omega) he1.1 he1.2 hz hL2 (fun z => ⟨_, _, rfl, Or.inl ⟨z, rfl, rfl⟩⟩) (fun z => ?_)
      obtain ⟨a1, a2, a3, a4⟩ := fin 1024 (by omega) z
      exact ⟨_, _, rfl, Or.inr ⟨_, a1, a2, a3, a4, rfl, rfl⟩⟩
  · have hx2 : n ≤ 60 := Nat.le_of_not_lt (fun z => hx ((nI_ltI (a := 60) (by decide) (by omega)).mpr z))
    refine mu_go mu_g384 (k := 2) (f1 := (31, [(0, .inr (.inr o)), (1, .inl (nI n)), (2, .inl (nI e))], [.inl (nI 60)], H)) (C := []) rfl trivial ?_
    refine fst_tail hO (by omega) (by omega) he1.1 he1.2 hz hL2 (fun z => ⟨_, _, rfl, Or.inl ⟨z, rfl, rfl⟩⟩) (fun z => ?_)
    obtain ⟨a1, a2, a3, a4⟩ := fin 60 (by omega) z
    exact ⟨_, _, rfl, Or.inr ⟨_, a1, a2, a3, a4, rfl, rfl⟩⟩
end FitStates
