/-! The reference: ints of the object 169 change, a MODEL stays -/
theorem kep.si2 {W : Nat → Prop} {a b q j : Nat} {x : Int32} {H H1 : mu_H} (h : kep W a b H H1) : kep W a b (mu_si H q j x) (mu_si H1 q j x) := by
  obtain ⟨x1, x2, x3, x6, x7⟩ := h
  refine ⟨x1, fun p hp hw => ?_, x3, x6, x7⟩
  have e := x2 p hp hw
  refine ⟨e.1, e.2.1, fun i tc => ?_⟩
  have e2 : mu_r H1 p i = mu_r H p i := Sum.inr.inj (Sum.inr.inj (e.2.2 i 2))
  have e3 : mu_l H1 p i = mu_l H p i := Sum.inl.inj (Sum.inr.inj (e.2.2 i 3))
  have e1 : mu_i H1 p i = mu_i H p i := Sum.inl.inj (e.2.2 i 0)
  unfold mu_f
  split
  · exact congrArg (fun y => Sum.inr (Sum.inr y)) e2
  · exact congrArg (fun y => Sum.inr (Sum.inl y)) e3
  · rw [mu_i_si, mu_i_si, e1]
section I9
variable {T : Nat → Int32} {n0 dep lv r cap mp A B n en k : Nat} {t : Tok} {F : Nat → Prop} {ms : List Mdl} {sy : List (List Int32)} {Hb H : mu_H} {loc : Nat → Nat} {Iv : Nat → Ins} {pr : Nat → List (Tre × Nat)} {x : Int32}
theorem ims.i9 (h : ims H F lv r ms mp loc n Iv pr en) (h9F : ¬ F 169) : ims (mu_si H 169 k x) F lv r ms mp loc n Iv pr en := by
  have f1 := h.2.2.2.2.2.1
  have ne : ∀ p i, p ≠ 169 → mu_i (mu_si H 169 k x) p i = mu_i H p i := fun p i e => by rw [mu_i_si, if_neg (fun z => e z.1)]
  have m9 : mp ≠ 169 := fun e => by have := h.1.2.1.1.1; omega
  have l9 : ∀ s, s < 9 + 4 * n → loc s ≠ 169 := fun s hs e => by have := (f1 s hs).1.1.1; omega
  have kp : kep (fun p => p = 169) 0 0 H (mu_si H 169 k x) := kep.rf.si (Or.inl rfl)
  refine ⟨h.1, ⟨h.2.1.1, (ne mp 1 m9).trans h.2.1.2.1, (ne mp 2 m9).trans h.2.1.2.2⟩, h.2.2.1, fun k' hk => ?_, fun j hj => ?_, h.2.2.2.2.2.1, h.2.2.2.2.2.2⟩
  · obtain ⟨⟨w1, w2, w3⟩, ⟨w4, w5, w6⟩, w7⟩ := h.2.2.2.1 k' hk
    refine ⟨⟨w1, w2, (ne mp _ m9).trans w3⟩, ⟨w4, w5, fun i hi => ?_⟩, w7⟩
    obtain ⟨q, y1, y2⟩ := w6 i hi
    exact ⟨q, y1, y2.kp kp (fun p e => by subst e; exact ⟨h9F, by decide⟩)⟩
  · obtain ⟨a1, a2, a3, a4, ⟨b1, b2, b3⟩, c, ⟨d1, d2, d3⟩⟩ := h.2.2.2.2.1 j hj
    exact ⟨a1, a2, (ne _ _ (l9 _ (by omega))).trans a3, a4, ⟨b1, b2, fun i hi => (ne _ _ (l9 _ (by omega))).trans (b3 i hi)⟩, c, ⟨d1, d2, fun i hi => (ne _ _ (l9 _ (by omega))).trans (d3 i hi)⟩⟩
theorem gnw.i9 (h : gnw T n0 t dep F lv r ms cap sy H) (hk : k ∉ [2, 6, 7, 8, 10, 12, 15, 17]) : gnw T n0 t dep F lv r ms cap sy (mu_si H 169 k x) := by
  obtain ⟨h1, ⟨a1, a2, a3, a4, a5, a6⟩, h3⟩ := h
  have hf : rfr [k] [] (fun _ => False) 0 0 H (mu_si H 169 k x) := rfr.rf.si (List.mem_cons_self ..)
  have hk2 : k ∉ [2, 6, 7, 8, 10, 12] := fun z => hk (by simp only [List.mem_cons, List.not_mem_nil, or_false] at z ⊢; omega)
  have hk3 : k ≠ 15 ∧ k ≠ 17 := ⟨fun z => hk (by rw [z]; decide), fun z => hk (by rw [z]; decide)⟩
  refine ⟨h1.rf hf (fun i w => by simp only [List.mem_cons, List.not_mem_nil, or_false] at w; rw [w]; exact hk2) (fun i w => by cases w) (fun _ w => w.elim), ⟨a1, a2, a3, ?_, fun i hi => ?_, a6⟩, syr.rf h1 h3 hf (fun w => by simp only [List.mem_cons, List.not_mem_nil, or_false] at w; exact hk3.2 w.symm) ⟨by decide, by decide⟩ (fun _ w => w.elim) (fun _ w => w.elim)⟩
  · rw [mu_i_si, if_neg (fun w => hk3.1 w.2.symm)]; exact a4
  · obtain ⟨m, m1, m2⟩ := a5 i hi
    exact ⟨m, m1, m2.kt (ktf.kp (W := fun p => p = 169) (a := 0) (b := 0) (kep.rf.si (Or.inl rfl)) (fun p e => by subst e; exact ⟨fun y => absurd (h1.fz _ y).1 (by decide), by decide⟩))⟩
/-- an int of 169 is written: the basis gets it too -/
theorem bmk.i9 (h : bmk T n0 t dep F lv r ms cap sy Hb mp A B loc n Iv pr en H) (hk : k ∉ [2, 6, 7, 8, 10, 12, 15, 17]) : bmk T n0 t dep F lv r ms cap sy (mu_si Hb 169 k x) mp A B loc n Iv pr en (mu_si H 169 k x) :=
  ⟨h.1.i9 hk, h.2.1.i9 (fun y => absurd (h.1.1.fz _ y).1 (by decide)), h.2.2.1, h.2.2.2.1.si2, h.2.2.2.2⟩
end I9
