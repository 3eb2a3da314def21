/-! A Node that is being made, in the parser -/
/-- the Node q is being made since H0: kind k, parts qs that stand for cs -/
def nu (H0 H : mu_H) (F : Nat → Prop) (f q a c s k : Nat) (x : Int32) (qs : List Nat) (cs : List Tre) : Prop := ndo H q a c s (txt k) qs ∧ nds H F f qs cs ∧ stf H F s (txt k) ∧ (mu_i H q 3 = x ∧ mu_r H q 4 = none ∧ k < 79) ∧ (¬ F q ∧ ¬ F a) ∧ (mu_z H0 ≤ q ∧ mu_z H0 ≤ a) ∧ (mu_r H 169 13 ≠ some q ∧ mu_r H 169 13 ≠ some a)
section Nu
variable {H0 H H1 : mu_H} {F0 F F1 : Nat → Prop} {f q a c s k A b n dep : Nat} {x : Int32} {qs : List Nat} {cs : List Tre} {T : Nat → Int32} {t : Tok}
theorem nu.keep (h : nu H0 H F f q a c s k x qs cs) (hs : pst T n t dep F H) (h2 : 200 < mu_z H0) (hp : pfr b F F1 H H1) : nu H0 H1 F1 f q a c s k x qs cs := by
  obtain ⟨h1, h3, h4, ⟨h5, h6, h7⟩, ⟨h8, h9⟩, ⟨h10, h11⟩, h12, h13⟩ := h
  have hqz : q < mu_z H := h1.1.1.2.1
  have haz : a < mu_z H := h1.2.1.1.2.1
  have nq : ¬ (q = 169 ∨ mu_r H 169 13 = some q) := fun z => z.elim (by omega) h12
  have na : ¬ (a = 169 ∨ mu_r H 169 13 = some a) := fun z => z.elim (by omega) h13
  have nF : ∀ p, p < mu_z H → ¬ F p → ¬ F1 p := fun p hp1 hF z => (hp.2.2.2 p z).elim hF (by omega)
  have np : ∀ p, p < mu_z H → mu_r H 169 13 ≠ some p → mu_r H1 169 13 ≠ some p := by
    intro p hp1 hn z
    rcases hp.2.1 with e | ⟨r, e, hr⟩
    · rw [e] at z; exact hn z
    · rw [e] at z; cases z; omega
  refine ⟨h1.kp hp.1.1 nq na (fun i hi z => ?_), h3.keep hs hp, h4.keep hs hp, ⟨(hp.1.1.i (Or.inl hqz) nq 3).trans h5, (hp.1.1.r (Or.inl hqz) nq 4).trans h6, h7⟩, ⟨nF q hqz h8, nF a haz h9⟩, ⟨h10, h11⟩, np q hqz h12, np a haz h13⟩
  exact (hs.nF _ z).1 (h3.2 i hi).is.2
/-- a Node is made: the cell, the constructor -/
theorem nu.new (hs : pst T n t dep F H) (hz : mu_z H + 2 ≤ 1000000) (h0 : mu_z H0 ≤ mu_z H) (hf : stf H F s (txt k)) (hk : k < 79) (ho : ndo H1 (mu_z H) (mu_z H + 1) 2 s (txt k) []) (hp : kep (fun p => p = mu_z H) 1 2 (mu_nw H 18 0 8) H1) (h4 : mu_r H1 (mu_z H) 4 = mu_r (mu_nw H 18 0 8) (mu_z H) 4) (h3 : mu_i H1 (mu_z H) 3 = mu_i (mu_nw H 18 0 8) (mu_z H) 3) : nu H0 H1 F f (mu_z H) (mu_z H + 1) 2 s k 0 [] [] ∧ pst T n t dep F H1 ∧ kep (fun p => mu_z H ≤ p ∧ p < 1000000) 2 10 H H1 := by
  have k0 : kep (fun p => mu_z H ≤ p ∧ p < 1000000) (0 + 1) (0 + 8) H (mu_nw H 18 0 8) := kep.rf.nw (by omega)
  have k1 : kep (fun p => mu_z H ≤ p ∧ p < 1000000) (1 + 1) (8 + 2) H H1 := (k0.tr hp (W := fun p => mu_z H ≤ p ∧ p < 1000000) (fun p _ z => z.elim id (fun e => by subst e; exact ⟨Nat.le_refl _, by omega⟩))).wk (fun _ _ z => z) (by omega) (by omega)
  have g200 := hs.1.1
  have hF : ∀ p, mu_z H ≤ p → ¬ F p := fun p hp z => by have := (hs.fz p z).2.1.1; omega
  obtain ⟨r, r1, ⟨r2, r3⟩, _⟩ := hs.2.2.2.2.2
  have hW : ∀ p, (mu_z H ≤ p ∧ p < 1000000) → ¬ F p ∧ 200 < p ∧ p < 1000000 ∧ mu_r H 169 13 ≠ some p := fun p z => ⟨hF p z.1, by omega, z.2, fun e => by rw [r1] at e; cases e; omega⟩
  have e13 : mu_r H1 169 13 = some r := (k1.r (Or.inl (by omega)) (fun z => by have := z.1; omega) 13).trans r1
  refine ⟨⟨ho, nds.nil, hf.kp k1 (fun p z => ⟨(hW p z).1, z.2⟩), ⟨h3.trans ?_, h4.trans ?_, hk⟩, ⟨hF _ (Nat.le_refl _), hF _ (Nat.le_add_right _ _)⟩, ⟨h0, by omega⟩, ?_, ?_⟩, hs.kp k1 hW, k1⟩
  · rw [mu_i_nw, if_pos rfl]
  · rw [mu_r_nw, if_pos rfl]
  · rw [e13]; intro e; cases e; omega
  · rw [e13]; intro e; cases e; omega
/-- a part is laid to it -/
theorem nu.add {a1 c1 y : Nat} {cy : Tre} (h : nu H0 H F f q a c s k x qs cs) (hs : pst T n t dep F H) (h2 : 200 < mu_z H0) (hy : nd H F f y cy) (ho : ndo H1 q a1 c1 s (txt k) (qs ++ [y])) (hp : kep (fun p => p = q ∨ p = a) (c1 - c) (2 * (c1 - c)) H H1) (ha : a1 = a ∨ mu_z H ≤ a1 ∧ a1 < 1000000) (h4 : mu_r H1 q 4 = mu_r H q 4) (h3 : mu_i H1 q 3 = mu_i H q 3) : nu H0 H1 F f q a1 c1 s k x (qs ++ [y]) (cs ++ [cy]) ∧ pst T n t dep F H1 ∧ kep (fun p => mu_z H0 ≤ p ∧ p < 1000000) (c1 - c) (2 * (c1 - c)) H H1 := by
  obtain ⟨g1, g3, g4, ⟨g5, g6, g7⟩, ⟨g8, g9⟩, ⟨g10, g11⟩, g12, g13⟩ := h
  have hqz : q < mu_z H := g1.1.1.2.1
  have haz : a < mu_z H := g1.2.1.1.2.1
  have hq6 := g1.1.2
  have ha6 := g1.2.1.2
  have hW : ∀ p, (p = q ∨ p = a) → ¬ F p ∧ 200 < p ∧ p < 1000000 ∧ mu_r H 169 13 ≠ some p := by
    intro p z
    rcases z with e | e
    · subst e; exact ⟨g8, by omega, hq6, g12⟩
    · subst e; exact ⟨g9, by omega, ha6, g13⟩
  have hW2 : ∀ p, (p = q ∨ p = a) → ¬ F p ∧ p < 1000000 := fun p z => ⟨(hW p z).1, (hW p z).2.2.1⟩
  obtain ⟨r, r1, ⟨r2, r3⟩, _⟩ := hs.2.2.2.2.2
  have e13 : mu_r H1 169 13 = mu_r H 169 13 := hp.r (Or.inl (by have := hs.1.1; omega)) (fun z => by rcases z with z | z <;> omega) 13
  refine ⟨⟨ho, (g3.add hy).kp hp hW2, g4.kp hp hW2, ⟨h3.trans g5, h4.trans g6, g7⟩, ⟨g8, ?_⟩, ⟨g10, ?_⟩, by rw [e13]; exact g12, ?_⟩, hs.kp hp hW, hp.wk (fun p _ z => by rcases z with e | e <;> subst e <;> omega) (Nat.le_refl _) (Nat.le_refl _)⟩
  · rcases ha with e | e
    · rw [e]; exact g9
    · intro z
      have := (hs.fz _ z).2.1.1
      omega
  · rcases ha with e | e
    · rw [e]; exact g11
    · omega
  · rw [e13]
    rcases ha with e | e
    · rw [e]; exact g13
    · rw [r1]; intro z; cases z; omega
/-- it is done -/
theorem nu.done (h : nu H0 H F f q a c s k x qs cs) (hs : pst T n t dep F H) (h2 : 200 < mu_z H0) (hp : pfr A F0 F H0 H) : ∃ F1, pst T n t dep F1 H ∧ nd H F1 (f + 1) q (tmk k x [] cs) ∧ pfr A F0 F1 H0 H := by
  obtain ⟨g1, g3, g4, ⟨g5, g6, g7⟩, ⟨g8, g9⟩, ⟨g10, g11⟩, g12, g13⟩ := h
  have hqz : q < mu_z H := g1.1.1.2.1
  have haz : a < mu_z H := g1.2.1.1.2.1
  have hm : ∀ p, F p → F p ∨ p = q ∨ p = a := fun p z => Or.inl z
  refine ⟨fun p => F p ∨ p = q ∨ p = a, hs.mono hm (fun p z => ?_), (g3.mono hm).done g1 g7 (g4.mono hm) g5 (by rw [g6]; exact Or.inl ⟨rfl, rfl⟩) (Or.inr (Or.inl rfl)) (Or.inr (Or.inr rfl)), hp.fz hm (fun p z => ?_)⟩
  · rcases z with z | z | z
    · exact Or.inl z
    · subst z; exact Or.inr ⟨by omega, ⟨hqz, g1.1.2⟩, g12⟩
    · subst z; exact Or.inr ⟨by omega, ⟨haz, g1.2.1.2⟩, g13⟩
  · rcases z with z | z | z
    · exact Or.inl z
    · subst z; exact Or.inr g10
    · subst z; exact Or.inr g11
theorem nu.is (h : nu H0 H F f q a c s k x qs cs) : mu_is H (some q) 18 := h.1.1.1
theorem nu.le {e : Nat} (h : nu H0 H F f q a c s k x qs cs) (he : f ≤ e) : nu H0 H F e q a c s k x qs cs := ⟨h.1, h.2.1.le he, h.2.2⟩
end Nu
