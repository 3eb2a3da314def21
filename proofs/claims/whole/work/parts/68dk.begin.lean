/-! The reference: a MODEL begun, state and frame; texts found sound meanwhile -/
theorem kep.sr2 {W : Nat → Prop} {a b q j : Nat} {x : Option Nat} {H H1 : mu_H} (h : kep W a b H H1) : kep W a b (mu_sr H q j x) (mu_sr H1 q j x) := by
  obtain ⟨x1, x2, x3, x6, x7⟩ := h
  refine ⟨x1, fun p hp hw => ?_, x3, x6, x7⟩
  have e := x2 p hp hw
  refine ⟨e.1, e.2.1, fun i tc => ?_⟩
  have e2 : mu_r H1 p i = mu_r H p i := Sum.inr.inj (Sum.inr.inj (e.2.2 i 2))
  have e3 : mu_l H1 p i = mu_l H p i := Sum.inl.inj (Sum.inr.inj (e.2.2 i 3))
  have e1 : mu_i H1 p i = mu_i H p i := Sum.inl.inj (e.2.2 i 0)
  unfold mu_f
  split
  · rw [mu_r_sr, mu_r_sr, e2]
  · exact congrArg (fun y => Sum.inr (Sum.inl y)) e3
  · exact congrArg Sum.inl e1
section B0
variable {T : Nat → Int32} {n0 dep lv r cap mp z A B : Nat} {t : Tok} {F : Nat → Prop} {ms : List Mdl} {sy : List (List Int32)} {Hg H K H1 : mu_H} {Iv : Nat → Ins}
theorem gnw.f18 {x : Option Nat} (h : gnw T n0 t dep F lv r ms cap sy H) : gnw T n0 t dep F lv r ms cap sy (mu_sr H 169 18 x) := by
  obtain ⟨h1, ⟨a1, a2, a3, a4, a5, a6⟩, h3⟩ := h
  have hf : rfr [] [18] (fun _ => False) 0 0 H (mu_sr H 169 18 x) := rfr.rf.sr (by decide)
  have hr9 : r ≠ 169 := fun e => by
    have k1 : mu_k H r = 106 := a2.2.2
    have k2 : mu_k H 169 = 1 := a6.2.2
    rw [e, k2] at k1
    exact absurd k1 (by decide)
  refine ⟨h1.rf hf (fun k w => by cases w) (fun k w => by simp only [List.mem_cons, List.not_mem_nil, or_false] at w; subst w; decide) (fun _ w => w.elim), ⟨?_, a2, a3, a4, fun i hi => ?_, a6⟩, syr.rf h1 h3 hf (by decide) (by decide) (fun _ w => w.elim) (fun _ w => w.elim)⟩
  · rw [mu_r_sr, if_neg (fun w => absurd w.2 (by decide))]; exact a1
  · obtain ⟨m, m1, m2⟩ := a5 i hi
    refine ⟨m, ?_, m2.kt (ktf.kp (W := fun p => p = 169) (a := 0) (b := 0) (kep.rf.sr (Or.inl rfl)) (fun p e => by subst e; exact ⟨fun y => absurd (h1.fz _ y).1 (by decide), by decide⟩))⟩
    rw [mu_r_sr, if_neg (fun w => hr9 w.1)]; exact m1
/-- a MODEL begun: at most 10 cells -/
theorem bmk_0 (hg : gnw T n0 t dep F lv r ms cap sy Hg) (hz : z = mu_z Hg ∧ mu_z H = z + 1 ∧ z + 10 ≤ 1000000) (hkH : kep (fun _ => False) 1 16 Hg H) (h1 : ∀ k, mu_i H z k = 0) (hx : mdx H z 9 521 K) : bmk T n0 t dep F lv r ms cap sy (mu_sr Hg 169 18 (some z)) z 10 537 (lc0 (z + 1)) 0 Iv (fun _ => []) 0 (mu_sr K 169 18 (some z)) := by
  have kk : kep (fun _ => False) 10 537 Hg K := (hkH.tr hx.1 (W := fun _ => False) (fun p hp w => w.elim id (fun e => by omega))).wk (fun _ _ w => w) (by omega) (by omega)
  have g1 : gnw T n0 t dep F lv r ms cap sy K := hg.kp kk (fun _ w => w.elim)
  refine ⟨g1.f18, ims_0 hg hz hkH h1 hx, ⟨Nat.le_of_eq hz.1.symm, fun a ha => ?_⟩, (kk.sr2.wk (fun _ _ w => w.elim) (by omega) (by omega)), hg.1.1.1⟩
  have := (lc0_lt (Z := z + 1) a (by omega)).1
  show mu_z Hg ≤ _
  omega
/-- only new cells -/
theorem bmk.knw {Hb : mu_H} {loc : Nat → Nat} {n en a : Nat} {pr : Nat → List (Tre × Nat)} (h : bmk T n0 t dep F lv r ms cap sy Hb mp A B loc n Iv pr en H) (hk : knw a H H1) : bmk T n0 t dep F lv r ms cap sy Hb mp (A + a) (B + 10 * a) loc n Iv pr en H1 := by
  have f1 := h.2.1.2.2.2.2.2.1
  have hcs : cps H1 loc = cps H loc := by
    have e : ∀ s, s < 9 → mu_n H1 (loc s) = mu_n H (loc s) := fun s hs => kep.len hk (Or.inl (f1 s (by omega)).1.1.2.1) id
    unfold cps
    rw [e 1 (by decide), e 2 (by decide), e 3 (by decide), e 4 (by decide), e 5 (by decide), e 6 (by decide), e 7 (by decide), e 8 (by decide)]
  obtain ⟨q1, q2, q3, q4, q5, q6⟩ := h.2.1.parts hk h.rz.1 ⟨id, h.rz.2.1⟩ (fun _ w => w.elim)
  have mz : mp < mu_z H := h.2.1.1.1.2.1
  refine h.st (W := fun _ => False) hk (fun _ w => w.elim) ⟨⟨kep.is hk h.2.1.1.1 id, q5, q6⟩, ⟨(kep.r hk (Or.inl mz) id 0).trans h.2.1.2.1.1, (kep.i hk (Or.inl mz) id 1).trans h.2.1.2.1.2.1, (kep.i hk (Or.inl mz) id 2).trans h.2.1.2.1.2.2⟩, q3 id, fun k hk4 => ⟨⟨(kep.r hk (Or.inl mz) id _).trans (h.2.1.2.2.2.1 k hk4).1.1, (kep.r hk (Or.inl mz) id _).trans (h.2.1.2.2.2.1 k hk4).1.2.1, (kep.i hk (Or.inl mz) id _).trans (h.2.1.2.2.2.1 k hk4).1.2.2⟩, (q1 k hk4).1 id, (q1 k hk4).2 id⟩, fun j hj => q2 j hj id id id id, q4, h.2.1.2.2.2.2.2.2⟩ h.2.2.1.2 (by rw [hcs]; omega) (by rw [hcs]; omega)
end B0
