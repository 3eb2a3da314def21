/-! THE OTHER MODEL STAYS while a text is parsed and judged -/
def hmm (m m' : Nat) : Prop := (m = 2 ∧ m' = 41) ∨ (m = 41 ∧ m' = 2)
section OtherModel
variable {H H1 H2 : mu_H} {m m' j : Nat} {S : Nat → Bool}
theorem hmm.one (h : hmm m m') : (m = 2 ∨ m = 41) ∧ (m' = 2 ∨ m' = 41) := by
  unfold hmm at h
  omega
theorem tb_same {r w : Nat} (ho : mu_same H H1 r) (ha : mu_same H H1 (mu_p (mu_r H r 1))) : tb H1 r w = tb H r w := by
  have hs : gi_sz H1 r = gi_sz H r := by unfold gi_sz; rw [ho.i]
  unfold tb
  rw [hs]
  refine Prod.ext rfl (funext fun a => funext fun b => ?_)
  show (if a < gi_sz H r ∧ b < w then mu_i H1 (mu_p (mu_r H1 r 1)) (a * w + b) else 0) = (if a < gi_sz H r ∧ b < w then mu_i H (mu_p (mu_r H r 1)) (a * w + b) else 0)
  rw [ho.r, ha.i]
theorem other_S (h : hmm m m') (hj : j < 19 ∨ (21 ≤ j ∧ j < 28)) : rS m' (ra m j) = false ∧ pr_S m' (ra m j) = false ∧ fS (ra m j) = false := by
  rcases h with ⟨e1, e2⟩ | ⟨e1, e2⟩ <;> subst e1 <;> subst e2
  · exact (show ∀ j, j < 28 → (j < 19 ∨ (21 ≤ j ∧ j < 28)) → rS 41 (ra 2 j) = false ∧ pr_S 41 (ra 2 j) = false ∧ fS (ra 2 j) = false by decide +kernel) j (by omega) hj
  · exact (show ∀ j, j < 28 → (j < 19 ∨ (21 ≤ j ∧ j < 28)) → rS 2 (ra 41 j) = false ∧ pr_S 2 (ra 41 j) = false ∧ fS (ra 41 j) = false by decide +kernel) j (by omega) hj
theorem ak_keep (hm : m = 2 ∨ m = 41) (hj : j < 28) (ho : ∀ p k, gi_k p = some k → S p = false → mu_same H H1 p) (ha : ∀ p i, gi_o p i = true → S p = false → mu_same H H1 (mu_p (mu_r H p i))) (hS : S (ra m j) = false) : ak m H1 j = ak m H j := by
  show gT (ra m) wa 28 H1 j = gT (ra m) wa 28 H j
  rw [gT_at hj, gT_at hj]
  obtain ⟨-, -, -, hrk, hro⟩ := gi_w_ok ((ra_ok hm).1 j hj)
  exact tb_same (ho _ 10 hrk hS) (ha _ 1 hro hS)
/-- what is kept of the Model that stands, when a text is read that is no good -/
def okp (m : Nat) (H H1 : mu_H) : Prop := (ud m H1).2 = (ud m H).2 ∧ ∀ j, j < 19 ∨ (21 ≤ j ∧ j < 28) → ak m H1 j = ak m H j
theorem okp.refl (m : Nat) (H : mu_H) : okp m H H := ⟨rfl, fun _ _ => rfl⟩
theorem okp.trans (h : okp m H H1) (h' : okp m H1 H2) : okp m H H2 := ⟨h'.1.trans h.1, fun j hj => (h'.2 j hj).trans (h.2 j hj)⟩
theorem okp_lk (h : gu H) (hm : hmm m m') (hl : lk (pr_S m') H H1) : okp m H H1 :=
  ⟨ud_lk h hl (fun P hP => (uo_rS hm.one.2 hP).2), fun j hj => ak_keep hm.one.1 (by omega) hl.2.2.1 hl.2.2.2.1 (other_S hm hj).2.1⟩
theorem okp_gk (h : gu H) (hm : hmm m m') (hl : gk (rS m') H H1) : okp m H H1 :=
  ⟨ud_gk h hl (fun P hP => (uo_rS hm.one.2 hP).1), fun j hj => ak_keep hm.one.1 (by omega) hl.2.2.1 hl.2.2.2.1 (other_S hm hj).1⟩
theorem fS_uo {P : Nat} (hP : uo P = true) : fS P = false := by
  rcases uo_in hP with f | f | f | f | f | f <;> subst f <;> rfl
theorem okp_f0 (h : gu H) (hm : hmm m m') (hl : gk fS H H1) : okp m H H1 :=
  ⟨ud_gk h hl (fun P hP => fS_uo hP), fun j hj => ak_keep hm.one.1 (by omega) hl.2.2.1 hl.2.2.2.1 (other_S hm hj).2.2⟩
theorem okp_tk (h : gu H) (hm : hmm m m') (hl : tk fS H H1) : okp m H H1 :=
  ⟨ud_tk h hl (fun P hP => fS_uo hP), fun j hj => ak_keep hm.one.1 (by omega) hl.2.2.1 hl.2.2.2.1 (other_S hm hj).2.2⟩
end OtherModel
