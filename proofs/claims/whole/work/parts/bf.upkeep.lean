/-! THE UPPER LAYER STAYS while a text is parsed and judged -/
section UpKeep
variable {H H1 H2 : mu_H} {m m' : Nat} {S : Nat → Bool}
theorem ud_same (hg : gi H) (hp : pko H) (ho : ∀ P, uo P = true → mu_same H H1 P) (hA : ∀ P J, uo P = true → gi_o P J = true → mu_same H H1 (mu_p (mu_r H P J))) (hl : ∀ p, p < mu_z H → mu_k H p = 102 ∨ mu_k H p = 104 → mu_same H H1 p) : (ud m' H1).2 = (ud m H).2 := by
  have e1 : dI H1 = dI H := by
    funext p i
    unfold dI
    by_cases hx : uo p = true
    · rw [if_pos hx, if_pos hx]
      exact (ho p hx).i i
    · rw [if_neg hx, if_neg hx]
  have e2 : dA H1 = dA H := by
    funext p i
    unfold dA
    by_cases hx : uo p = true ∧ gi_o p i = true
    · rw [if_pos hx, if_pos hx]
      have er := (ho p hx.1).r i
      have es := hA p i hx.1 hx.2
      unfold gi_len
      show (mu_n H1 (mu_p (mu_r H1 p i)), fun q => mu_i H1 (mu_p (mu_r H1 p i)) q) = (mu_n H (mu_p (mu_r H p i)), fun q => mu_i H (mu_p (mu_r H p i)) q)
      rw [er]
      exact Prod.ext es.2.1 (funext fun q => es.i q)
    · rw [if_neg hx, if_neg hx]
  have e3 : dR H1 = dR H := by
    funext p i
    unfold dR
    by_cases hx : uo p = true
    · rw [if_pos hx, if_pos hx]
      exact (ho p hx).r i
    · rw [if_neg hx, if_neg hx]
      by_cases hx2 : (p, i) ∈ plp ∧ ¬ p = 114
      · rw [if_pos hx2, if_pos hx2]
        obtain ⟨k1, k2⟩ := plp_kind hg hx2.1
        exact (hl p k1 (Or.inr k2)).r i
      · rw [if_neg hx2, if_neg hx2]
  have e4 : dL H1 = dL H := by
    funext p i
    unfold dL
    by_cases hx : fl p = true
    · rw [if_pos hx, if_pos hx]
      obtain ⟨n, hn⟩ := fl_ok hx
      have ha := (hg.a hn).1
      exact (hl p ha.2.1 (Or.inl ha.2.2)).l i
    · rw [if_neg hx, if_neg hx]
  have e5 : dP H1 = dP H := by
    funext p i
    unfold dP
    by_cases hx : (p, i) ∈ plp
    · rw [if_pos hx, if_pos hx]
      obtain ⟨k1, k2⟩ := plp_kind hg hx
      have er : mu_r H1 p i = mu_r H p i := (hl p k1 (Or.inr k2)).r i
      rw [er]
      rcases hp.1 _ hx with z | ⟨z, -⟩
      · rw [show mu_r H p i = none from z]; rfl
      · have z1 : mu_r H p i = some (mu_p (mu_r H p i)) := z.1
        have es := hl _ z.2.1 (Or.inl z.2.2)
        rw [z1]
        show some (mu_n H1 (mu_p (mu_r H p i)), fun k => mu_l H1 (mu_p (mu_r H p i)) k) = some (mu_n H (mu_p (mu_r H p i)), fun k => mu_l H (mu_p (mu_r H p i)) k)
        exact congrArg some (Prod.ext es.2.1 (funext fun q => es.l q))
    · rw [if_neg hx, if_neg hx]
  show (dI H1, dA H1, dR H1, dL H1, dP H1) = (dI H, dA H, dR H, dL H, dP H)
  rw [e1, e2, e3, e4, e5]
theorem ud_lk (h : gu H) (hl : lk S H H1) (hS : ∀ P, uo P = true → S P = false) : (ud m' H1).2 = (ud m H).2 := by
  have h101 : mu_k H (lt7 H) = 101 := h.1.2.2.2.2.2.2.2.1.2.1.2.2
  refine ud_same h.1 h.2.1 (fun P hP => ?_) (fun P J hP ho => hl.2.2.2.1 P J ho (hS P hP)) (fun p hp hk' => hl.2.2.2.2.1 p hp (by omega) (fun z => by rw [z] at hk'; omega))
  obtain ⟨⟨kd, hkd⟩, -⟩ := uo_k hP
  exact hl.2.2.1 P kd hkd (hS P hP)
theorem ud_tk (h : gu H) (hl : tk S H H1) (hS : ∀ P, uo P = true → S P = false) : (ud m' H1).2 = (ud m H).2 := by
  have h101 : mu_k H (tp0 H) = 101 := h.1.2.2.2.2.2.2.2.1.1.2.2
  refine ud_same h.1 h.2.1 (fun P hP => ?_) (fun P J hP ho => hl.2.2.2.1 P J ho (hS P hP)) (fun p hp hk' => hl.2.2.2.2.1 p hp (by omega) (fun z => by rw [z] at hk'; omega))
  obtain ⟨⟨kd, hkd⟩, -⟩ := uo_k hP
  exact hl.2.2.1 P kd hkd (hS P hP)
theorem ud_gk (h : gu H) (hl : gk S H H1) (hS : ∀ P, uo P = true → S P = false) : (ud m' H1).2 = (ud m H).2 := by
  refine ud_same h.1 h.2.1 (fun P hP => ?_) (fun P J hP ho => hl.2.2.2.1 P J ho (hS P hP)) (fun p hp hk' => hl.2.2.2.2.1 p hp (by omega))
  obtain ⟨⟨kd, hkd⟩, -⟩ := uo_k hP
  exact hl.2.2.1 P kd hkd (hS P hP)
theorem uo_rS (hm : m = 2 ∨ m = 41) {P : Nat} (hP : uo P = true) : rS m P = false ∧ pr_S m P = false := by
  rcases hm with e | e <;> subst e <;> rcases uo_in hP with f | f | f | f | f | f <;> subst f <;> exact ⟨rfl, rfl⟩
end UpKeep
