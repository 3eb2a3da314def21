/-! Nodes being made side by side -/
section NuS
variable {H0 H H1 : mu_H} {F0 F F1 : Nat → Prop} {f q a c s k A b n dep d : Nat} {x : Int32} {ns : List (List Int32)} {qs : List Nat} {cs : List Tre} {T : Nat → Int32} {t : Tok}
/-- what is written elsewhere -/
theorem nun.kp {W : Nat → Prop} {a' b' : Nat} (h : nun H0 H F f q a c s k x ns qs cs) (hk : kep W a' b' H H1) (hW : ∀ p, W p → ¬ F p ∧ p < 1000000) (hq : ¬ W q) (ha : ¬ W a) (h9 : mu_r H1 169 13 = mu_r H 169 13) : nun H0 H1 F f q a c s k x ns qs cs := by
  obtain ⟨g1, g3, g4, ⟨g5, g6, g7⟩, ⟨g8, g9⟩, ⟨g10, g11⟩, g12, g13⟩ := h
  have hqz : q < mu_z H := g1.1.1.2.1
  exact ⟨g1.kp hk hq ha (fun i hi z => (hW _ z).1 (g3.2 i hi).is.2), g3.kp hk hW, g4.kp hk hW, ⟨(hk.i (Or.inl hqz) hq 3).trans g5, by rw [hk.r (Or.inl hqz) hq 4]; exact g6.kp hk hW, g7⟩, ⟨g8, g9⟩, ⟨g10, g11⟩, by rw [h9]; exact g12, by rw [h9]; exact g13⟩
theorem nu.kp {W : Nat → Prop} {a' b' : Nat} (h : nu H0 H F f q a c s k x qs cs) (hk : kep W a' b' H H1) (hW : ∀ p, W p → ¬ F p ∧ p < 1000000) (hq : ¬ W q) (ha : ¬ W a) (h9 : mu_r H1 169 13 = mu_r H 169 13) : nu H0 H1 F f q a c s k x qs cs := by
  obtain ⟨g1, g3, g4, ⟨g5, g6, g7⟩, ⟨g8, g9⟩, ⟨g10, g11⟩, g12, g13⟩ := h
  have hqz : q < mu_z H := g1.1.1.2.1
  exact ⟨g1.kp hk hq ha (fun i hi z => (hW _ z).1 (g3.2 i hi).is.2), g3.kp hk hW, g4.kp hk hW, ⟨(hk.i (Or.inl hqz) hq 3).trans g5, (hk.r (Or.inl hqz) hq 4).trans g6, g7⟩, ⟨g8, g9⟩, ⟨g10, g11⟩, by rw [h9]; exact g12, by rw [h9]; exact g13⟩
/-- the cells of F and two more -/
def fz2 (F : Nat → Prop) (q a : Nat) (p : Nat) : Prop := F p ∨ p = q ∨ p = a
theorem nun.fzO {q2 a2 : Nat} (h : nun H0 H F f q a c s k x ns qs cs) (e1 : q ≠ q2 ∧ q ≠ a2 ∧ a ≠ q2 ∧ a ≠ a2) : nun H0 H (fz2 F q2 a2) f q a c s k x ns qs cs := by
  obtain ⟨g1, g3, g4, ⟨g5, g6, g7⟩, ⟨g8, g9⟩, g10⟩ := h
  have hm : ∀ p, F p → fz2 F q2 a2 p := fun p z => Or.inl z
  exact ⟨g1, g3.mono hm, g4.mono hm, ⟨g5, g6.mono hm, g7⟩, ⟨fun z => z.elim g8 (fun z => z.elim e1.1 e1.2.1), fun z => z.elim g9 (fun z => z.elim e1.2.2.1 e1.2.2.2)⟩, g10⟩
theorem nu.fzO {q2 a2 : Nat} (h : nu H0 H F f q a c s k x qs cs) (e1 : q ≠ q2 ∧ q ≠ a2 ∧ a ≠ q2 ∧ a ≠ a2) : nu H0 H (fz2 F q2 a2) f q a c s k x qs cs := by
  obtain ⟨g1, g3, g4, g5, ⟨g8, g9⟩, g10⟩ := h
  have hm : ∀ p, F p → fz2 F q2 a2 p := fun p z => Or.inl z
  exact ⟨g1, g3.mono hm, g4.mono hm, g5, ⟨fun z => z.elim g8 (fun z => z.elim e1.1 e1.2.1), fun z => z.elim g9 (fun z => z.elim e1.2.2.1 e1.2.2.2)⟩, g10⟩
/-- it is done; its cells are told -/
theorem nun.doneX {Hb : mu_H} (h : nun H0 H F f q a c s k x ns qs cs) (hs : pst T n t dep F H) (h2 : 200 < mu_z H0) (hp : pfr A F0 F Hb H) (hb : mu_z Hb ≤ mu_z H0) : pst T n t dep (fz2 F q a) H ∧ nd H (fz2 F q a) (f + 1) q (tmk k x ns cs) ∧ pfr A F0 (fz2 F q a) Hb H := by
  obtain ⟨g1, g3, g4, ⟨g5, g6, g7⟩, ⟨g8, g9⟩, ⟨g10, g11⟩, g12, g13⟩ := h
  have hqz : q < mu_z H := g1.1.1.2.1
  have haz : a < mu_z H := g1.2.1.1.2.1
  have hm : ∀ p, F p → fz2 F q a p := fun p z => Or.inl z
  refine ⟨hs.mono hm (fun p z => ?_), (g3.mono hm).done g1 g7 (g4.mono hm) g5 (g6.mono hm) (Or.inr (Or.inl rfl)) (Or.inr (Or.inr rfl)), hp.fz hm (fun p z => ?_)⟩
  · rcases z with z | z | z
    · exact Or.inl z
    · subst z; exact Or.inr ⟨by omega, ⟨hqz, g1.1.2⟩, g12⟩
    · subst z; exact Or.inr ⟨by omega, ⟨haz, g1.2.1.2⟩, g13⟩
  · rcases z with z | z | z
    · exact Or.inl z
    · subst z; exact Or.inr (by omega)
    · subst z; exact Or.inr (by omega)
/-- a part is laid to it; other trees stay; what is written is told -/
theorem nd_addW {y : Nat} {cy : Tre} (h : nun H0 H F f q a c s k x ns qs cs) (hs : pst T n t dep F H) (h2 : 200 < mu_z H0) (hy : nd H F f y cy) (hl : c ≤ 2 ^ 20) (hz : mu_z H + 1 ≤ 1000000) : mu_TA (mu_D (d + 1)) 520 [.inr (.inr (some q)), .inr (.inr (some y))] H (fun r H1 => r = some q ∧ (∀ e y' c', nd H F e y' c' → nd H1 F e y' c') ∧ ∃ a1 c1, nun H0 H1 F f q a1 c1 s k x ns (qs ++ [y]) (cs ++ [cy]) ∧ pst T n t dep F H1 ∧ c ≤ c1 ∧ kep (fun p => mu_z H0 ≤ p ∧ p < 1000000) (c1 - c) (2 * (c1 - c)) H H1 ∧ kep (fun p => p = q ∨ p = a) (c1 - c) (2 * (c1 - c)) H H1 ∧ (a1 = a ∨ mu_z H ≤ a1)) := by
  refine mu_MT.imp (nd_add (d := d) h.1 hy.is.1 hl hz) (fun r z => ?_)
  obtain ⟨r', H1, e, q1, a1, c1, ho, q3, hp, ha, h4, h3⟩ := z
  obtain ⟨g1, g3, g4, ⟨g5, g6, g7⟩, ⟨g8, g9⟩, ⟨g10, g11⟩, g12, g13⟩ := h
  have hqz : q < mu_z H := g1.1.1.2.1
  have haz : a < mu_z H := g1.2.1.1.2.1
  have hq6 := g1.1.2
  have ha6 := g1.2.1.2
  have hW : ∀ p, (p = q ∨ p = a) → ¬ F p ∧ 200 < p ∧ p < 1000000 ∧ mu_r H 169 13 ≠ some p := by
    intro p z
    rcases z with e | e
    · subst e; exact ⟨g8, by omega, hq6, g12⟩
    · subst e; exact ⟨g9, by omega, ha6, g13⟩
  have hW2 : ∀ p, (p = q ∨ p = a) → ¬ F p ∧ p < 1000000 := fun p z => ⟨(hW p z).1, (hW p z).2.2.1⟩
  obtain ⟨r0, r1, ⟨r2, r3⟩, _⟩ := hs.2.2.2.2.2
  have e13 : mu_r H1 169 13 = mu_r H 169 13 := hp.r (Or.inl (by have := hs.1.1; omega)) (fun z => by rcases z with z | z <;> omega) 13
  refine ⟨r', H1, e, q1, fun e y' c' z => z.kp hp hW2, a1, c1, ⟨ho, (g3.add hy).kp hp hW2, g4.kp hp hW2, ⟨h3.trans g5, by rw [h4]; exact g6.kp hp hW2, g7⟩, ⟨g8, ?_⟩, ⟨g10, ?_⟩, by rw [e13]; exact g12, ?_⟩, hs.kp hp hW, q3, hp.wk (fun p _ z => by rcases z with e | e <;> subst e <;> omega) (Nat.le_refl _) (Nat.le_refl _), hp, ha.imp id (fun z => z.1)⟩
  · rcases ha with e | e
    · rw [e]; exact g9
    · intro z
      have := (hs.fz _ z).2.1.1
      omega
  · rcases ha with e | e
    · rw [e]; exact g11
    · omega
  · rw [e13]
    rcases ha with e | e
    · rw [e]; exact g13
    · rw [r1]; intro z; cases z; omega
/-- a number is written into another Node -/
theorem nun.setx {F0 : Nat → Prop} {Hb : mu_H} {y : Int32} (h : nun H0 H F f q a c s k x ns qs cs) (hs : pst T n t dep F H) (h2 : 200 < mu_z H0) (hp : pfr A F0 F Hb H) (hb : mu_z Hb ≤ mu_z H0) (hb2 : 169 < mu_z Hb) : nun H0 (mu_si H q 3 y) F f q a c s k y ns qs cs ∧ pst T n t dep F (mu_si H q 3 y) ∧ pfr (A + 0) F0 F Hb (mu_si H q 3 y) ∧ ∀ {H0' f' q' a' c' s' k' x' ns' qs' cs'}, nun H0' H F f' q' a' c' s' k' x' ns' qs' cs' → q' ≠ q → a' ≠ q → nun H0' (mu_si H q 3 y) F f' q' a' c' s' k' x' ns' qs' cs' := by
  have hk : kep (fun p => p = q) 0 0 H (mu_si H q 3 y) := kep.rf.si (Or.inl rfl)
  obtain ⟨g1, g3, g4, ⟨g5, g6, g7⟩, ⟨g8, g9⟩, ⟨g10, g11⟩, g12, g13⟩ := h
  have hq6 := g1.1.2
  have hW : ∀ p, p = q → ¬ F p ∧ 200 < p ∧ p < 1000000 ∧ mu_r H 169 13 ≠ some p := fun p e => by subst e; exact ⟨g8, by omega, hq6, g12⟩
  have hW2 : ∀ p, p = q → ¬ F p ∧ p < 1000000 := fun p z => ⟨(hW p z).1, (hW p z).2.2.1⟩
  have hne := g1.ne
  obtain ⟨a1, a2, a3, a4, a5, a6, a7, a8⟩ := g1
  refine ⟨⟨⟨a1, a2, a3, a4, ?_, ?_, a7, a8⟩, g3.kp hk hW2, g4.kp hk hW2, ⟨?_, g6.kp hk hW2, g7⟩, ⟨g8, g9⟩, ⟨g10, g11⟩, g12, g13⟩, hs.kp hk hW, hp.kp hk (fun p e => by subst e; exact ⟨by omega, hq6⟩) (by omega) hb2, fun z e1 e2 => z.kp hk hW2 e1 e2 rfl⟩
  · rw [mu_i_si, if_neg (fun z => absurd z.2 (by decide))]; exact a5
  · rw [mu_i_si, if_neg (fun z => absurd z.2 (by decide))]; exact a6
  · rw [mu_i_si, if_pos ⟨rfl, rfl⟩]
end NuS
