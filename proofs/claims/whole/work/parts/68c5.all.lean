/-! The reference: all of an expression, given path -/
/-- all methods at fuel g -/
def pca (T : Nat → Int32) (n g : Nat) : Prop := pct T n g 0 491 14 ∧ pct T n g 1 492 13 ∧ pct T n g 2 493 12 ∧ pct T n g 3 494 11 ∧ pct T n g 4 495 10 ∧ pct T n g 5 497 15 ∧ pct T n g 6 498 14 ∧ pct T n g 7 499 13 ∧ pct T n g 8 500 12 ∧ pctb T n g 9 502 12 0 ∧ pctb T n g 10 502 12 1 ∧ pct T n g 11 503 12
theorem pca_zero {T : Nat → Int32} {n : Nat} : pca T n 0 := by
  refine ⟨?_, ?_, ?_, ?_, ?_, ?_, ?_, ?_, ?_, ?_, ?_, ?_⟩
  all_goals
    intro d dep t F H res hs hz hpx
    cases hpx
theorem pca_succ {T : Nat → Int32} {n f : Nat} (hPp : pctp T n) (h : ∀ g, g ≤ f → pca T n g) : pca T n (f + 1) :=
  ⟨rp_expr (fun g hg => (h g hg).2.1), rp_impl (fun g hg => (h g hg).2.2.1), rp_disj (fun g hg => (h g hg).2.2.2.1), rp_conj (fun g hg => (h g hg).2.2.2.2.1), rp_prefix (fun g hg => (h g hg).2.2.2.2.1) (fun g hg => (h g hg).1) (fun g hg => (h g hg).2.2.2.2.2.1), rp_relation (fun g hg => (h g hg).2.2.2.2.2.2.1) (fun g hg => (h g hg).1), rp_sum (fun g hg => (h g hg).2.2.2.2.2.2.2.1), rp_term (fun g hg => (h g hg).2.2.2.2.2.2.2.2.1), rp_factor hPp (fun g hg => (h g hg).2.2.2.2.2.2.2.2.1) (fun g hg => (h g hg).1) (fun g hg => (h g hg).2.2.2.2.2.2.2.2.2.1), rp_cases0 (fun g hg => (h g hg).1), rp_cases1 (fun g hg => (h g hg).1) (fun g hg => (h g hg).2.2.2.2.2.2.2.2.2.2.2), rp_choice (fun g hg => (h g hg).1) (fun g hg => (h g hg).2.2.2.2.2.2.2.2.2.2.1)⟩
/-- the reference's parser of expressions does what the pure parser tells, at any fuel -/
theorem pca_all {T : Nat → Int32} {n : Nat} (hPp : pctp T n) : ∀ f g, g ≤ f → pca T n g
  | 0, g, hg => by
    have e : g = 0 := by omega
    subst e
    exact pca_zero
  | f + 1, g, hg => by
    by_cases e : g = f + 1
    · subst e
      exact pca_succ hPp (pca_all hPp f)
    · exact pca_all hPp f g (by omega)
/-- the reference's expressions and choices: at any fuel at which the pure parser has an answer, the method gives that answer -/
theorem px_ok {T : Nat → Int32} {n : Nat} (g : Nat) : pca T n g := pca_all rp_path g g (Nat.le_refl _)
