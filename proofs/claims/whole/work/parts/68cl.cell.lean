/-! The reference: a Module's cell -/
/-- the cell of a Module that is being made -/
def mce (H : mu_H) (F : Nat → Prop) (m : Nat) : Prop := mu_is H (some m) 17 ∧ m < 1000000 ∧ 200 < m ∧ ¬ F m ∧ mu_r H 169 13 ≠ some m
/-- a Module that is done -/
def mdf (H : mu_H) (F : Nat → Prop) (lv m : Nat) (x : Mdl) : Prop := ∃ w p q, mdo H F m w p q ∧ stf H F w x.1 ∧ nd H F lv p (tmk 62 0 [] x.2.1) ∧ nd H F lv q (tmk 67 0 [] x.2.2)
section Mce
variable {a A n dep cap m j : Nat} {F F0 F1 : Nat → Prop} {H H0 H1 : mu_H} {T : Nat → Int32} {t : Tok} {sy : List (List Int32)} {x : Option Nat}
theorem mdf.kt {lv : Nat} {y : Mdl} (h : mdf H F lv m y) (hk : ktf H F H1 F1) : mdf H1 F1 lv m y := by
  obtain ⟨w, p, q, h1, h2, h3, h4⟩ := h
  exact ⟨w, p, q, hk.2.2.1 _ _ _ _ h1, hk.2.1 _ _ h2, hk.1 _ _ _ h3, hk.1 _ _ _ h4⟩
theorem mce.keep (h : mce H F m) (hs : pst T n t dep F H) (hp : pfr a F F1 H H1) : mce H1 F1 m := by
  obtain ⟨h1, h2, h3, h4, h5⟩ := h
  have hz : m < mu_z H := h1.2.1
  refine ⟨hp.1.1.is h1 (fun z => z.elim (fun e => by have e : m = 169 := e; omega) h5), h2, h3, fun z => (hp.2.2.2 m z).elim h4 (by omega), ?_⟩
  rcases hp.2.1 with e | ⟨q, e, hq⟩
  · rw [e]; exact h5
  · rw [e]; intro z; cases z; omega
theorem mce.sr (h : mce H F m) (hs : pst T n t dep F H) (hy : syr H F cap sy) (hp : qfr A F0 F H0 H) (h0 : mu_z H0 ≤ m) (h9 : 200 < mu_z H0) : pst T n t dep F (mu_sr H m j x) ∧ syr (mu_sr H m j x) F cap sy ∧ qfr (A + 0) F0 F H0 (mu_sr H m j x) ∧ mce (mu_sr H m j x) F m ∧ ktf H F (mu_sr H m j x) F ∧ ∀ {H0' f' q' a' c' s' k' x' ns' qs' cs'}, nun H0' H F f' q' a' c' s' k' x' ns' qs' cs' → nun H0' (mu_sr H m j x) F f' q' a' c' s' k' x' ns' qs' cs' := by
  have hk : kep (fun p => p = m) 0 0 H (mu_sr H m j x) := kep.rf.sr (Or.inl rfl)
  have hne := hy.ne h.1 (by decide)
  obtain ⟨h1, h2, h3, h4, h5⟩ := h
  have e13 : mu_r (mu_sr H m j x) 169 13 = mu_r H 169 13 := by rw [mu_r_sr, if_neg (fun z => by have := z.1; omega)]
  have hW2 : ∀ p, p = m → ¬ F p ∧ p < 1000000 := fun p e => by subst e; exact ⟨h4, h2⟩
  refine ⟨hs.kp hk (fun p e => by subst e; exact ⟨h4, h3, h2, h5⟩), hy.kp hk (fun p e => by subst e; exact ⟨h4, h3, h2⟩) (fun p e => by subst e; exact hne) (by have := hs.1.1; omega), hp.kp hk (fun p e => by subst e; exact ⟨h0, h2⟩) (by omega) (by omega), ⟨h1, h2, h3, h4, by rw [e13]; exact h5⟩, ktf.kp hk hW2, fun {H0' f' q' a' c' s' k' x' ns' qs' cs'} z => z.kp hk hW2 (fun e => ?_) (fun e => ?_) e13⟩
  · have e : q' = m := e
    have z1 : mu_k H q' = 18 := z.1.1.1.2.2
    have z2 : mu_k H m = 17 := h1.2.2
    rw [e, z2] at z1
    exact absurd z1 (by decide)
  · have e : a' = m := e
    have z1 : mu_k H a' = 109 := z.1.2.1.1.2.2
    have z2 : mu_k H m = 17 := h1.2.2
    rw [e, z2] at z1
    exact absurd z1 (by decide)
theorem mce.fz (h : mce H F m) (hs : pst T n t dep F H) (hy : syr H F cap sy) (hp : qfr A F0 F H0 H) (h0 : mu_z H0 ≤ m) : pst T n t dep (fz2 F m m) H ∧ syr H (fz2 F m m) cap sy ∧ qfr A F0 (fz2 F m m) H0 H ∧ ktf H F H (fz2 F m m) ∧ ∀ {H0' f' q' a' c' s' k' x' ns' qs' cs'}, nun H0' H F f' q' a' c' s' k' x' ns' qs' cs' → nun H0' H (fz2 F m m) f' q' a' c' s' k' x' ns' qs' cs' := by
  have hne := hy.ne h.1 (by decide)
  obtain ⟨h1, h2, h3, h4, h5⟩ := h
  have hz : m < mu_z H := h1.2.1
  have hm : ∀ p, F p → fz2 F m m p := fun p z => Or.inl z
  refine ⟨hs.mono hm (fun p z => ?_), hy.mono hm (fun p z => ?_), hp.fz hm (fun p z => ?_), ktf.mono hm, fun {H0' f' q' a' c' s' k' x' ns' qs' cs'} z => ?_⟩
  · rcases z with z | z | z
    · exact Or.inl z
    · subst z; exact Or.inr ⟨h3, ⟨hz, h2⟩, h5⟩
    · subst z; exact Or.inr ⟨h3, ⟨hz, h2⟩, h5⟩
  · rcases z with z | z | z
    · exact Or.inl z
    · subst z; exact Or.inr hne
    · subst z; exact Or.inr hne
  · rcases z with z | z | z
    · exact Or.inl z
    · subst z; exact Or.inr h0
    · subst z; exact Or.inr h0
  · have n1 : q' ≠ m := fun e => by
      have z1 : mu_k H q' = 18 := z.1.1.1.2.2
      rw [e, show mu_k H m = 17 from h1.2.2] at z1
      exact absurd z1 (by decide)
    have n2 : a' ≠ m := fun e => by
      have z1 : mu_k H a' = 109 := z.1.2.1.1.2.2
      rw [e, show mu_k H m = 17 from h1.2.2] at z1
      exact absurd z1 (by decide)
    exact z.fzO ⟨n1, n1, n2, n2⟩
end Mce
