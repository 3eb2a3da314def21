/-! A Node with names that is being made -/
/-- as nu, with names ns (their row is done) -/
def nun (H0 H : mu_H) (F : Nat → Prop) (f q a c s k : Nat) (x : Int32) (ns : List (List Int32)) (qs : List Nat) (cs : List Tre) : Prop := ndo H q a c s (txt k) qs ∧ nds H F f qs cs ∧ stf H F s (txt k) ∧ (mu_i H q 3 = x ∧ nmf H F (mu_r H q 4) ns ∧ k < 79) ∧ (¬ F q ∧ ¬ F a) ∧ (mu_z H0 ≤ q ∧ mu_z H0 ≤ a) ∧ (mu_r H 169 13 ≠ some q ∧ mu_r H 169 13 ≠ some a)
section Nun
variable {H0 H H1 : mu_H} {F0 F F1 : Nat → Prop} {f q a c s k A b n dep d : Nat} {x : Int32} {ns : List (List Int32)} {qs : List Nat} {cs : List Tre} {T : Nat → Int32} {t : Tok}
theorem nmf.keep {o : Option Nat} (h : nmf H F o ns) (hs : pst T n t dep F H) (hp : pfr b F F1 H H1) : nmf H1 F1 o ns := (h.kp hp.1.1 hs.nF).mono hp.2.2.1
theorem nu.nun (h : nu H0 H F f q a c s k x qs cs) : nun H0 H F f q a c s k x [] qs cs := ⟨h.1, h.2.1, h.2.2.1, ⟨h.2.2.2.1.1, by rw [h.2.2.2.1.2.1]; exact Or.inl ⟨rfl, rfl⟩, h.2.2.2.1.2.2⟩, h.2.2.2.2⟩
theorem nun.keep (h : nun H0 H F f q a c s k x ns qs cs) (hs : pst T n t dep F H) (h2 : 200 < mu_z H0) (hp : pfr b F F1 H H1) : nun H0 H1 F1 f q a c s k x ns qs cs := by
  obtain ⟨h1, h3, h4, ⟨h5, h6, h7⟩, ⟨h8, h9⟩, ⟨h10, h11⟩, h12, h13⟩ := h
  have hqz : q < mu_z H := h1.1.1.2.1
  have haz : a < mu_z H := h1.2.1.1.2.1
  have nq : ¬ (q = 169 ∨ mu_r H 169 13 = some q) := fun z => z.elim (by omega) h12
  have na : ¬ (a = 169 ∨ mu_r H 169 13 = some a) := fun z => z.elim (by omega) h13
  have nF : ∀ p, p < mu_z H → ¬ F p → ¬ F1 p := fun p hp1 hF z => (hp.2.2.2 p z).elim hF (by omega)
  have np : ∀ p, p < mu_z H → mu_r H 169 13 ≠ some p → mu_r H1 169 13 ≠ some p := by
    intro p hp1 hn z
    rcases hp.2.1 with e | ⟨r, e, hr⟩
    · rw [e] at z; exact hn z
    · rw [e] at z; cases z; omega
  have e4 : mu_r H1 q 4 = mu_r H q 4 := hp.1.1.r (Or.inl hqz) nq 4
  refine ⟨h1.kp hp.1.1 nq na (fun i hi z => ?_), h3.keep hs hp, h4.keep hs hp, ⟨(hp.1.1.i (Or.inl hqz) nq 3).trans h5, by rw [e4]; exact h6.keep hs hp, h7⟩, ⟨nF q hqz h8, nF a haz h9⟩, ⟨h10, h11⟩, np q hqz h12, np a haz h13⟩
  exact (hs.nF _ z).1 (h3.2 i hi).is.2
theorem nun.is (h : nun H0 H F f q a c s k x ns qs cs) : mu_is H (some q) 18 := h.1.1.1
theorem nun.cap (h : nun H0 H F f q a c s k x ns qs cs) : qs.length ≤ c ∧ 2 ≤ c ∧ c ≤ 2 * qs.length + 2 ∧ qs.length = cs.length := ⟨h.1.2.2.2.2.2.2.1.2.1, h.1.2.2.2.2.2.2.1.2.2.1, h.1.2.2.2.2.2.2.1.2.2.2.1, h.2.1.1⟩
theorem nun.le {e : Nat} (h : nun H0 H F f q a c s k x ns qs cs) (he : f ≤ e) : nun H0 H F e q a c s k x ns qs cs := ⟨h.1, h.2.1.le he, h.2.2⟩
/-- a part is laid to it -/
theorem nd_addN {y : Nat} {cy : Tre} (h : nun H0 H F f q a c s k x ns qs cs) (hs : pst T n t dep F H) (h2 : 200 < mu_z H0) (hy : nd H F f y cy) (hl : c ≤ 2 ^ 20) (hz : mu_z H + 1 ≤ 1000000) : mu_TA (mu_D (d + 1)) 520 [.inr (.inr (some q)), .inr (.inr (some y))] H (fun r H1 => r = some q ∧ ∃ a1 c1, nun H0 H1 F f q a1 c1 s k x ns (qs ++ [y]) (cs ++ [cy]) ∧ pst T n t dep F H1 ∧ c ≤ c1 ∧ kep (fun p => mu_z H0 ≤ p ∧ p < 1000000) (c1 - c) (2 * (c1 - c)) H H1) := by
  refine mu_MT.imp (nd_add (d := d) h.1 hy.is.1 hl hz) (fun r z => ?_)
  obtain ⟨r', H1, e, q1, a1, c1, ho, q3, hp, ha, h4, h3⟩ := z
  obtain ⟨g1, g3, g4, ⟨g5, g6, g7⟩, ⟨g8, g9⟩, ⟨g10, g11⟩, g12, g13⟩ := h
  have hqz : q < mu_z H := g1.1.1.2.1
  have haz : a < mu_z H := g1.2.1.1.2.1
  have hq6 := g1.1.2
  have ha6 := g1.2.1.2
  have hW : ∀ p, (p = q ∨ p = a) → ¬ F p ∧ 200 < p ∧ p < 1000000 ∧ mu_r H 169 13 ≠ some p := by
    intro p z
    rcases z with e | e
    · subst e; exact ⟨g8, by omega, hq6, g12⟩
    · subst e; exact ⟨g9, by omega, ha6, g13⟩
  have hW2 : ∀ p, (p = q ∨ p = a) → ¬ F p ∧ p < 1000000 := fun p z => ⟨(hW p z).1, (hW p z).2.2.1⟩
  obtain ⟨r0, r1, ⟨r2, r3⟩, _⟩ := hs.2.2.2.2.2
  have e13 : mu_r H1 169 13 = mu_r H 169 13 := hp.r (Or.inl (by have := hs.1.1; omega)) (fun z => by rcases z with z | z <;> omega) 13
  refine ⟨r', H1, e, q1, a1, c1, ⟨ho, (g3.add hy).kp hp hW2, g4.kp hp hW2, ⟨h3.trans g5, by rw [h4]; exact g6.kp hp hW2, g7⟩, ⟨g8, ?_⟩, ⟨g10, ?_⟩, by rw [e13]; exact g12, ?_⟩, hs.kp hp hW, q3, hp.wk (fun p _ z => by rcases z with e | e <;> subst e <;> omega) (Nat.le_refl _) (Nat.le_refl _)⟩
  · rcases ha with e | e
    · rw [e]; exact g9
    · intro z
      have := (hs.fz _ z).2.1.1
      omega
  · rcases ha with e | e
    · rw [e]; exact g11
    · omega
  · rw [e13]
    rcases ha with e | e
    · rw [e]; exact g13
    · rw [r1]; intro z; cases z; omega
/-- it is done -/
theorem nun.done (h : nun H0 H F f q a c s k x ns qs cs) (hs : pst T n t dep F H) (h2 : 200 < mu_z H0) (hp : pfr A F0 F H0 H) : ∃ F1, pst T n t dep F1 H ∧ nd H F1 (f + 1) q (tmk k x ns cs) ∧ pfr A F0 F1 H0 H := by
  obtain ⟨g1, g3, g4, ⟨g5, g6, g7⟩, ⟨g8, g9⟩, ⟨g10, g11⟩, g12, g13⟩ := h
  have hqz : q < mu_z H := g1.1.1.2.1
  have haz : a < mu_z H := g1.2.1.1.2.1
  have hm : ∀ p, F p → F p ∨ p = q ∨ p = a := fun p z => Or.inl z
  refine ⟨fun p => F p ∨ p = q ∨ p = a, hs.mono hm (fun p z => ?_), (g3.mono hm).done g1 g7 (g4.mono hm) g5 (g6.mono hm) (Or.inr (Or.inl rfl)) (Or.inr (Or.inr rfl)), hp.fz hm (fun p z => ?_)⟩
  · rcases z with z | z | z
    · exact Or.inl z
    · subst z; exact Or.inr ⟨by omega, ⟨hqz, g1.1.2⟩, g12⟩
    · subst z; exact Or.inr ⟨by omega, ⟨haz, g1.2.1.2⟩, g13⟩
  · rcases z with z | z | z
    · exact Or.inl z
    · subst z; exact Or.inr g10
    · subst z; exact Or.inr g11
end Nun
