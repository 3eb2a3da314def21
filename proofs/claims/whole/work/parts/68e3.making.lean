/-! The reference: rows of its own, while an order is made -/
/-- the reference's cells that stay where they are -/
def gndl : List Nat := [169, 170, 171, 172, 183, 184, 185, 186, 187, 188, 189, 190, 191, 195, 199]
theorem gndl9 {p : Nat} (h : p ∉ gndl) : p ≠ 169 := fun e => h (by rw [e]; decide)
/-- the row p at the field f of the reference: kind k, at least N long -/
def oar (H : mu_H) (G : Nat → Prop) (f k p N : Nat) : Prop := mu_r H 169 f = some p ∧ (p ∉ gndl ∧ p < mu_z H ∧ p < 1000000) ∧ ¬ G p ∧ mu_k H p = k ∧ N ≤ mu_n H p ∧ mu_n H p < 2 ^ 31
section Oar
variable {H H1 : mu_H} {G W : Nat → Prop} {f k p N a b : Nat} {Fi Fr : List Nat}
theorem oar.fr (h : oar H G f k p N) (hk : rfr Fi Fr W a b H H1) (hf : f ∉ Fr) : oar H1 G f k p N ∨ W p := by
  obtain ⟨h1, ⟨h2, h3, h4⟩, h5, h6, h7⟩ := h
  by_cases e : W p
  · exact Or.inr e
  · have nw : ¬ (p = 169 ∨ W p) := fun z => z.elim (gndl9 h2) e
    exact Or.inl ⟨(hk.2.2.1 f hf).trans h1, ⟨h2, Nat.lt_of_lt_of_le h3 hk.1.1, h4⟩, h5, (hk.1.k (Or.inl h3) nw).trans h6, by rw [hk.1.len (Or.inl h3) nw]; exact h7⟩
theorem oar.si {q j : Nat} {x : Int32} (h : oar H G f k p N) : oar (mu_si H q j x) G f k p N := h
theorem oar.ff (h : oar H G f k p N) (hk : ffr a H H1) : oar H1 G f k p N := (oar.fr h hk (List.not_mem_nil)).resolve_right id
end Oar
def dfh (Hb : mu_H) (D : MD) (H0 : mu_H) (od mt bg N : Nat) (w : Nat → Int32) (st : Nat → Nat) (sz : Nat) (ol : Nat → Nat) (on : Nat) (H : mu_H) : Prop := rms Hb D H ∧ (oar H D.G 22 100 od N ∧ oar H D.G 24 101 mt N ∧ oar H D.G 25 100 bg N ∧ od ≠ bg) ∧ (∀ i, i < N → mu_i H mt i = w i) ∧ (∀ a, a < sz → mu_i H bg a = nI (st a)) ∧ (∀ a, a < on → mu_i H od a = nI (ol a)) ∧ mu_i H 169 23 = nI on ∧ rfr [19, 20, 21, 23] [] (fun p => p = od ∨ p = mt ∨ p = bg) 0 0 H0 H ∧ mu_n H od = mu_n H0 od ∧ mu_n H mt = mu_n H0 mt ∧ mu_n H bg = mu_n H0 bg
section Dfh
variable {Hb H0 H H1 : mu_H} {D : MD} {od mt bg N s on sz : Nat} {w : Nat → Int32} {st ol : Nat → Nat} {v : Int32}
theorem dfh.ne (h : dfh Hb D H0 od mt bg N w st sz ol on H) : od ≠ mt ∧ bg ≠ mt ∧ od ≠ bg ∧ od ≠ 169 ∧ mt ≠ 169 ∧ bg ≠ 169 := by
  obtain ⟨_, ⟨a1, a2, a3, a4⟩, _⟩ := h
  refine ⟨fun e => ?_, fun e => ?_, a4, ?_, ?_, ?_⟩
  · have x := a1.2.2.2.1; rw [e, a2.2.2.2.1] at x; exact absurd x (by decide)
  · have x := a3.2.2.2.1; rw [e, a2.2.2.2.1] at x; exact absurd x (by decide)
  · exact gndl9 a1.2.1.1
  · exact gndl9 a2.2.1.1
  · exact gndl9 a3.2.1.1
theorem dfh.ff (h : dfh Hb D H0 od mt bg N w st sz ol on H) (hf : ffr 0 H H1) : dfh Hb D H0 od mt bg N w st sz ol on H1 := by
  obtain ⟨n1, n2, n3, n4, n5, n6⟩ := h.ne
  obtain ⟨h1, ⟨a1, a2, a3, a4⟩, h3, h4, h5, h6, h7, h8⟩ := h
  have ci : ∀ p, p ∉ gndl → p < mu_z H → ∀ j, mu_i H1 p j = mu_i H p j := fun p hp hz j => hf.1.i (Or.inl hz) (fun z => z.elim (gndl9 hp) id) j
  exact ⟨hf.rms h1, ⟨a1.ff hf, a2.ff hf, a3.ff hf, a4⟩, fun i hi => (ci mt a2.2.1.1 a2.2.1.2.1 i).trans (h3 i hi), fun a ha => (ci bg a3.2.1.1 a3.2.1.2.1 a).trans (h4 a ha), fun a ha => (ci od a1.2.1.1 a1.2.1.2.1 a).trans (h5 a ha), (hf.2.1 23 (by decide)).trans h6, (rfr.tr h7 hf (W := fun p => p = od ∨ p = mt ∨ p = bg) (Fi := [19, 20, 21, 23]) (Fr := []) (fun k z => z.elim id (fun y => by simp only [List.mem_cons, List.not_mem_nil, or_false] at y ⊢; omega)) (fun k z => z.elim id id) (fun p _ z => z.elim id (fun y => y.elim))), (hf.1.len (Or.inl a1.2.1.2.1) (fun z => z.elim (gndl9 a1.2.1.1) id)).trans h8.1, (hf.1.len (Or.inl a2.2.1.2.1) (fun z => z.elim (gndl9 a2.2.1.1) id)).trans h8.2.1, (hf.1.len (Or.inl a3.2.1.2.1) (fun z => z.elim (gndl9 a3.2.1.1) id)).trans h8.2.2⟩
theorem rms.siW {p j : Nat} (h : rms Hb D H) (hp : ¬ D.G p ∧ p < 1000000 ∧ p ≠ 169) : rms Hb D (mu_si H p j v) := h.fr (Fi := []) (Fr := []) (W := fun q => q = p) (a := 0) (b := 0) ⟨kep.si (kep.rf) (Or.inl (Or.inr rfl)), fun k _ => by rw [mu_i_si, if_neg (fun z => hp.2.2 z.1.symm)], fun _ _ => rfl, rfl⟩ (fun q e => by subst e; exact ⟨hp.1, hp.2.1⟩) (List.not_mem_nil) ⟨List.not_mem_nil, List.not_mem_nil⟩
theorem rfr.siW {Fi Fr : List Nat} {W : Nat → Prop} {a b p j : Nat} (h : rfr Fi Fr W a b H0 H) (hp : W p ∧ p ≠ 169) : rfr Fi Fr W a b H0 (mu_si H p j v) := ⟨h.1.si (Or.inl (Or.inr hp.1)), fun k hk => by rw [mu_i_si, if_neg (fun z => hp.2 z.1.symm)]; exact h.2.1 k hk, h.2.2.1, h.2.2.2⟩
theorem dfh.wm (h : dfh Hb D H0 od mt bg N w st sz ol on H) : dfh Hb D H0 od mt bg N (fup w s v) st sz ol on (mu_si H mt s v) := by
  obtain ⟨n1, n2, n3, n4, n5, n6⟩ := h.ne
  obtain ⟨h1, ⟨a1, a2, a3, a4⟩, h3, h4, h5, h6, h7, h8⟩ := h
  refine ⟨h1.siW ⟨a2.2.2.1, a2.2.1.2.2, n5⟩, ⟨a1, a2, a3, a4⟩, fun i hi => ?_, fun a ha => ?_, fun a ha => ?_, ?_, h7.siW ⟨Or.inr (Or.inl rfl), n5⟩, h8⟩
  · rw [mu_i_si]
    by_cases e : i = s
    · subst e; rw [if_pos ⟨rfl, rfl⟩, fup_at]
    · rw [if_neg (fun z => e z.2), fup_ne e]; exact h3 i hi
  · rw [mu_i_si, if_neg (fun z => n2 z.1)]; exact h4 a ha
  · rw [mu_i_si, if_neg (fun z => n1 z.1)]; exact h5 a ha
  · rw [mu_i_si, if_neg (fun z => n5 z.1.symm)]; exact h6
theorem dfh.wb (h : dfh Hb D H0 od mt bg N w st sz ol on H) : dfh Hb D H0 od mt bg N w (fup st sz s) (sz + 1) ol on (mu_si H bg sz (nI s)) := by
  obtain ⟨n1, n2, n3, n4, n5, n6⟩ := h.ne
  obtain ⟨h1, ⟨a1, a2, a3, a4⟩, h3, h4, h5, h6, h7, h8⟩ := h
  refine ⟨h1.siW ⟨a3.2.2.1, a3.2.1.2.2, n6⟩, ⟨a1, a2, a3, a4⟩, fun i hi => ?_, fun a ha => ?_, fun a ha => ?_, ?_, h7.siW ⟨Or.inr (Or.inr rfl), n6⟩, h8⟩
  · rw [mu_i_si, if_neg (fun z => n2 z.1.symm)]; exact h3 i hi
  · rw [mu_i_si]
    by_cases e : a = sz
    · subst e; rw [if_pos ⟨rfl, rfl⟩, fup_at]
    · rw [if_neg (fun z => e z.2), fup_ne e]; exact h4 a (by omega)
  · rw [mu_i_si, if_neg (fun z => n3 z.1)]; exact h5 a ha
  · rw [mu_i_si, if_neg (fun z => n6 z.1.symm)]; exact h6
theorem dfh.wo (h : dfh Hb D H0 od mt bg N w st sz ol on H) : dfh Hb D H0 od mt bg N w st sz (fup ol on s) (on + 1) (mu_si (mu_si H 169 23 (nI (on + 1))) od on (nI s)) := by
  obtain ⟨n1, n2, n3, n4, n5, n6⟩ := h.ne
  obtain ⟨h1, ⟨a1, a2, a3, a4⟩, h3, h4, h5, h6, h7, h8⟩ := h
  have r1 : rms Hb D (mu_si H 169 23 (nI (on + 1))) := h1.fr (Fi := [23]) (Fr := []) (W := fun _ => False) (rfr.si rfr.rf (by decide)) (fun _ z => z.elim) (by decide) (by decide)
  refine ⟨r1.siW ⟨a1.2.2.1, a1.2.1.2.2, n4⟩, ⟨a1, a2, a3, a4⟩, fun i hi => ?_, fun a ha => ?_, fun a ha => ?_, ?_, (rfr.si h7 (by decide)).siW ⟨Or.inl rfl, n4⟩, h8⟩
  · rw [mu_i_si, if_neg (fun z => n1 z.1.symm), mu_i_si, if_neg (fun z => n5 z.1)]; exact h3 i hi
  · rw [mu_i_si, if_neg (fun z => n3 z.1.symm), mu_i_si, if_neg (fun z => n6 z.1)]; exact h4 a ha
  · rw [mu_i_si]
    by_cases e : a = on
    · subst e; rw [if_pos ⟨rfl, rfl⟩, fup_at]
    · rw [if_neg (fun z => e z.2), fup_ne e, mu_i_si, if_neg (fun z => n4 z.1)]; exact h5 a (by omega)
  · rw [mu_i_si, if_neg (fun z => n4 z.1.symm), mu_i_si, if_pos ⟨rfl, rfl⟩]
theorem dfh.less {sz' : Nat} (h : dfh Hb D H0 od mt bg N w st sz ol on H) (hs : sz' ≤ sz) : dfh Hb D H0 od mt bg N w st sz' ol on H := ⟨h.1, h.2.1, h.2.2.1, fun a ha => h.2.2.2.1 a (by omega), h.2.2.2.2⟩
theorem dfh.mts (h : dfh Hb D H0 od mt bg N w st sz ol on H) : mts H mt N w := ⟨h.2.1.2.1.1, ⟨gndl9 h.2.1.2.1.2.1.1, h.2.1.2.1.2.1.2⟩, h.2.1.2.1.2.2.2.1, h.2.1.2.1.2.2.2.2, h.2.2.1⟩
end Dfh
