/-! The reference: writes while a MODEL is made -/
def lup (loc : Nat → Nat) (s p : Nat) : Nat → Nat := fun i => if i = s then p else loc i
def pup (pr : Nat → List (Tre × Nat)) (k : Nat) (L : List (Tre × Nat)) : Nat → List (Tre × Nat) := fun i => if i = k then L else pr i
def iup (Iv : Nat → Ins) (j : Nat) (x : Ins) : Nat → Ins := fun i => if i = j then x else Iv i
def fup {α : Type} (f : Nat → α) (k : Nat) (x : α) : Nat → α := fun i => if i = k then x else f i
section Imw
variable {H H1 : mu_H} {F W : Nat → Prop} {lv r mp n en a b p : Nat} {ms : List Mdl} {loc loc' : Nat → Nat} {Iv : Nat → Ins} {pr : Nat → List (Tre × Nat)} {L : List (Tre × Nat)}
theorem lup_hi {s x : Nat} (h : s < 9) : lup loc s p (9 + x) = loc (9 + x) := if_neg (by omega)
theorem lup_ne {s x : Nat} (h : x ≠ s) : lup loc s p x = loc x := if_neg h
theorem lup_eq {s : Nat} : lup loc s p s = p := if_pos rfl
theorem rwI.cg (h : rwI H loc n p L) (hl : ∀ i, loc' (9 + 4 * i) = loc (9 + 4 * i)) : rwI H loc' n p L := ⟨h.1, h.2.1, fun i hi => ⟨by rw [hl]; exact (h.2.2 i hi).1, (h.2.2 i hi).2⟩⟩
theorem insf.cg {j : Nat} {x : Ins} (h : insf H r ms loc n j x) (hl : ∀ i, 9 ≤ i → loc' i = loc i) : insf H r ms loc' n j x := by
  obtain ⟨k1, k2, k4, k5, k8, ⟨k11, k12, k13⟩, k14⟩ := h
  have e0 := hl (9 + 4 * j) (by omega)
  have e1 := hl (10 + 4 * j) (by omega)
  have e2 := hl (11 + 4 * j) (by omega)
  have e3 := hl (12 + 4 * j) (by omega)
  have em : (fun i => loc' (9 + 4 * i)) = fun i => loc (9 + 4 * i) := funext fun i => hl _ (by omega)
  unfold insf
  rw [e0, e1, e2, e3, em]
  exact ⟨k1, k2, k4, k5, k8, ⟨k11, k12, k13⟩, k14⟩
theorem fC_ne {k k' : Nat} (h : k < 4) (h' : k' < 4) (e : fC k = fC k') : k = k' := by
  have hc : k = 0 ∨ k = 1 ∨ k = 2 ∨ k = 3 := by omega
  have hc' : k' = 0 ∨ k' = 1 ∨ k' = 2 ∨ k' = 3 := by omega
  rcases hc with rfl | rfl | rfl | rfl <;> rcases hc' with rfl | rfl | rfl | rfl <;> first | rfl | exact absurd e (by decide)
theorem fN_ne {k k' : Nat} (h : k < 4) (h' : k' < 4) (e : fN k = fN k') : k = k' := by
  have hc : k = 0 ∨ k = 1 ∨ k = 2 ∨ k = 3 := by omega
  have hc' : k' = 0 ∨ k' = 1 ∨ k' = 2 ∨ k' = 3 := by omega
  rcases hc with rfl | rfl | rfl | rfl <;> rcases hc' with rfl | rfl | rfl | rfl <;> first | rfl | exact absurd e (by decide)
theorem fI_ne {k k' : Nat} (h : k < 4) (h' : k' < 4) (e : fI k = fI k') : k = k' := by
  have hc : k = 0 ∨ k = 1 ∨ k = 2 ∨ k = 3 := by omega
  have hc' : k' = 0 ∨ k' = 1 ∨ k' = 2 ∨ k' = 3 := by omega
  rcases hc with rfl | rfl | rfl | rfl <;> rcases hc' with rfl | rfl | rfl | rfl <;> first | rfl | exact absurd e (by decide)
theorem fNI {k k' : Nat} (h : k < 4) (h' : k' < 4) : fN k ≠ fI k' ∧ fN k ≠ 0 ∧ fI k ≠ 0 ∧ fC k ≠ 1 ∧ fC k ≠ 2 := by
  have hc : k = 0 ∨ k = 1 ∨ k = 2 ∨ k = 3 := by omega
  have hc' : k' = 0 ∨ k' = 1 ∨ k' = 2 ∨ k' = 3 := by omega
  rcases hc with rfl | rfl | rfl | rfl <;> rcases hc' with rfl | rfl | rfl | rfl <;> decide
/-- another row of Nodes -/
theorem ims.mvN {k p' : Nat} (h : ims H F lv r ms mp loc n Iv pr en) (hk4 : k < 4) (hk : kep (fun _ => False) a b H H1) (hrz : r < mu_z H) (h9 : 169 < mu_z H) (hp : okw H1 F r p' ∧ p' ≠ mp) (hq : ∀ s, s < 9 + 4 * n → s ≠ 2 * k + 1 → loc s ≠ p') (hw : rwN H1 F lv p' (pr k)) : ims (mu_sr H1 mp (fN k) (some p')) F lv r ms mp (lup loc (2 * k + 1) p') n Iv pr en := by
  have k2 : kep (fun p => p = mp) (a + 0) (b + 0) H (mu_sr H1 mp (fN k) (some p')) := (hk.wk (W' := fun p => p = mp) (fun _ _ z => z.elim) (Nat.le_refl _) (Nat.le_refl _)).sr (Or.inl rfl)
  have k3 : kep (fun p => p = mp) 0 0 H1 (mu_sr H1 mp (fN k) (some p')) := kep.rf.sr (Or.inl rfl)
  have ok := h.1.2.1
  have mn : mp ≠ 169 := by have := ok.1.1; omega
  have nm : ∀ a, a < 9 + 4 * n → ¬ (loc a = mp) := fun a ha => (h.2.2.2.2.2.1 a ha).2
  have q := h.parts k2 hrz ⟨fun e => mn e.symm, h9⟩ (fun p e => by subst e; exact ⟨ok.2.1, ok.1.2.2, ok.2.2.2.2⟩)
  obtain ⟨q1, q2, q3, q4, q5, q6⟩ := q
  obtain ⟨⟨a1, a2, a3⟩, ⟨b1, b2, b3⟩, c, d1, e1, f1, g1⟩ := h
  have hmz : mp < mu_z H := a1.2.1
  have er : ∀ j, mu_r H1 mp j = mu_r H mp j := fun j => hk.r (Or.inl hmz) id j
  have ei : ∀ j, mu_i H1 mp j = mu_i H mp j := fun j => hk.i (Or.inl hmz) id j
  have hs : ∀ x, lup loc (2 * k + 1) p' (9 + x) = loc (9 + x) := fun x => lup_hi (by omega)
  have hs9 : ∀ x, 9 ≤ x → lup loc (2 * k + 1) p' x = loc x := fun x hx => lup_ne (by omega)
  have l0 : lup loc (2 * k + 1) p' 0 = loc 0 := lup_ne (by omega)
  have ok1 : okw (mu_sr H1 mp (fN k) (some p')) F r p' := hp.1.up (Nat.le_refl _) (by rw [mu_r_sr, if_neg (fun z => mn z.1.symm)]) (by rw [mu_r_sr, if_neg (fun z => mn z.1.symm)])
  refine ⟨⟨k2.2.1 mp (Or.inl hmz) |> fun _ => ⟨rfl, Nat.lt_of_lt_of_le hmz hk.1, (hk.k (Or.inl hmz) id).trans a1.2.2⟩, q5, q6⟩, ⟨?_, (ei 1).trans b2, (ei 2).trans b3⟩, ?_, fun k' hk' => ⟨⟨?_, ?_, (ei _).trans (d1 k' hk').1.2.2⟩, ?_, ?_⟩, fun j hj => (q2 j hj (nm _ (by omega)) (nm _ (by omega)) (nm _ (by omega)) (nm _ (by omega))).cg hs9, fun s hs2 => ?_, fun s s' h1 h2 e => ?_⟩
  · rw [mu_r_sr, if_neg (fun z => (fNI hk4 hk4).2.1 z.2.symm), er, l0]; exact b1
  · rw [l0]
    obtain ⟨c1, c2, c3, c4⟩ := q3 (nm 0 (by omega))
    exact ⟨c1, c2, c3, fun j hj => by rw [hs]; exact c4 j hj⟩
  · by_cases e : k' = k
    · subst e; rw [mu_r_sr, if_pos ⟨rfl, rfl⟩, lup_eq]
    · rw [mu_r_sr, if_neg (fun z => e (fN_ne hk' hk4 z.2)), er, lup_ne (by omega)]; exact (d1 k' hk').1.1
  · rw [mu_r_sr, if_neg (fun z => (fNI hk4 hk').1 z.2.symm), er, lup_ne (by omega)]; exact (d1 k' hk').1.2.1
  · by_cases e : k' = k
    · subst e; rw [lup_eq]; exact hw.kp k3 (fun p e => by subst e; exact ⟨ok.2.1, ok.1.2.2⟩) (fun e => hp.2 e)
    · rw [lup_ne (by omega)]; exact (q1 k' hk').1 (nm _ (by omega))
  · rw [lup_ne (by omega)]; exact ((q1 k' hk').2 (nm _ (by omega))).cg (fun i => hs _)
  · by_cases e : s = 2 * k + 1
    · subst e; rw [lup_eq]; exact ⟨ok1, hp.2⟩
    · rw [lup_ne e]; exact q4 s hs2
  · by_cases e1 : s = 2 * k + 1
    · subst e1
      by_cases e2 : s' = 2 * k + 1
      · exact e2.symm
      · rw [lup_eq, lup_ne e2] at e; exact absurd e.symm (hq s' h2 e2)
    · by_cases e2 : s' = 2 * k + 1
      · subst e2; rw [lup_eq, lup_ne e1] at e; exact absurd e (hq s h1 e1)
      · rw [lup_ne e1, lup_ne e2] at e; exact g1 s s' h1 h2 e
/-- another row of INSTANCES -/
theorem ims.mvI {k p' : Nat} (h : ims H F lv r ms mp loc n Iv pr en) (hk4 : k < 4) (hk : kep (fun _ => False) a b H H1) (hrz : r < mu_z H) (h9 : 169 < mu_z H) (hp : okw H1 F r p' ∧ p' ≠ mp) (hq : ∀ s, s < 9 + 4 * n → s ≠ 2 * k + 2 → loc s ≠ p') (hw : rwI H1 loc n p' (pr k)) : ims (mu_sr H1 mp (fI k) (some p')) F lv r ms mp (lup loc (2 * k + 2) p') n Iv pr en := by
  have k2 : kep (fun p => p = mp) (a + 0) (b + 0) H (mu_sr H1 mp (fI k) (some p')) := (hk.wk (W' := fun p => p = mp) (fun _ _ z => z.elim) (Nat.le_refl _) (Nat.le_refl _)).sr (Or.inl rfl)
  have k3 : kep (fun p => p = mp) 0 0 H1 (mu_sr H1 mp (fI k) (some p')) := kep.rf.sr (Or.inl rfl)
  have ok := h.1.2.1
  have mn : mp ≠ 169 := by have := ok.1.1; omega
  have nm : ∀ a, a < 9 + 4 * n → ¬ (loc a = mp) := fun a ha => (h.2.2.2.2.2.1 a ha).2
  have q := h.parts k2 hrz ⟨fun e => mn e.symm, h9⟩ (fun p e => by subst e; exact ⟨ok.2.1, ok.1.2.2, ok.2.2.2.2⟩)
  obtain ⟨q1, q2, q3, q4, q5, q6⟩ := q
  obtain ⟨⟨a1, a2, a3⟩, ⟨b1, b2, b3⟩, c, d1, e1, f1, g1⟩ := h
  have hmz : mp < mu_z H := a1.2.1
  have er : ∀ j, mu_r H1 mp j = mu_r H mp j := fun j => hk.r (Or.inl hmz) id j
  have ei : ∀ j, mu_i H1 mp j = mu_i H mp j := fun j => hk.i (Or.inl hmz) id j
  have hs : ∀ x, lup loc (2 * k + 2) p' (9 + x) = loc (9 + x) := fun x => lup_hi (by omega)
  have hs9 : ∀ x, 9 ≤ x → lup loc (2 * k + 2) p' x = loc x := fun x hx => lup_ne (by omega)
  have l0 : lup loc (2 * k + 2) p' 0 = loc 0 := lup_ne (by omega)
  have ok1 : okw (mu_sr H1 mp (fI k) (some p')) F r p' := hp.1.up (Nat.le_refl _) (by rw [mu_r_sr, if_neg (fun z => mn z.1.symm)]) (by rw [mu_r_sr, if_neg (fun z => mn z.1.symm)])
  refine ⟨⟨⟨rfl, Nat.lt_of_lt_of_le hmz hk.1, (hk.k (Or.inl hmz) id).trans a1.2.2⟩, q5, q6⟩, ⟨?_, (ei 1).trans b2, (ei 2).trans b3⟩, ?_, fun k' hk' => ⟨⟨?_, ?_, (ei _).trans (d1 k' hk').1.2.2⟩, ?_, ?_⟩, fun j hj => (q2 j hj (nm _ (by omega)) (nm _ (by omega)) (nm _ (by omega)) (nm _ (by omega))).cg hs9, fun s hs2 => ?_, fun s s' h1 h2 e => ?_⟩
  · rw [mu_r_sr, if_neg (fun z => (fNI hk4 hk4).2.2.1 z.2.symm), er, l0]; exact b1
  · rw [l0]
    obtain ⟨c1, c2, c3, c4⟩ := q3 (nm 0 (by omega))
    exact ⟨c1, c2, c3, fun j hj => by rw [hs]; exact c4 j hj⟩
  · rw [mu_r_sr, if_neg (fun z => (fNI hk' hk4).1 z.2), er, lup_ne (by omega)]; exact (d1 k' hk').1.1
  · by_cases e : k' = k
    · subst e; rw [mu_r_sr, if_pos ⟨rfl, rfl⟩, lup_eq]
    · rw [mu_r_sr, if_neg (fun z => e (fI_ne hk' hk4 z.2)), er, lup_ne (by omega)]; exact (d1 k' hk').1.2.1
  · rw [lup_ne (by omega)]; exact (q1 k' hk').1 (nm _ (by omega))
  · by_cases e : k' = k
    · subst e; rw [lup_eq]; exact (hw.kp k3 (fun e => hp.2 e)).cg (fun i => hs _)
    · rw [lup_ne (by omega)]; exact ((q1 k' hk').2 (nm _ (by omega))).cg (fun i => hs _)
  · by_cases e : s = 2 * k + 2
    · subst e; rw [lup_eq]; exact ⟨ok1, hp.2⟩
    · rw [lup_ne e]; exact q4 s hs2
  · by_cases e1 : s = 2 * k + 2
    · subst e1
      by_cases e2 : s' = 2 * k + 2
      · exact e2.symm
      · rw [lup_eq, lup_ne e2] at e; exact absurd e.symm (hq s' h2 e2)
    · by_cases e2 : s' = 2 * k + 2
      · subst e2; rw [lup_eq, lup_ne e1] at e; exact absurd e (hq s h1 e1)
      · rw [lup_ne e1, lup_ne e2] at e; exact g1 s s' h1 h2 e
theorem pth2_ap {c : Tre × Nat} {i : Nat} : pth2 (L ++ [c]) i = if i = L.length then c else pth2 L i := by
  by_cases e : i = L.length
  · subst e; rw [if_pos rfl]; simp [pth2, List.getD_eq_getElem?_getD]
  · rw [if_neg e]
    by_cases e2 : i < L.length
    · simp [pth2, List.getD_eq_getElem?_getD, List.getElem?_append_left e2]
    · simp [pth2, List.getD_eq_getElem?_getD, List.getElem?_eq_none (show (L ++ [c]).length ≤ i by simp; omega), List.getElem?_eq_none (show L.length ≤ i by omega)]
/-- one more in both rows of a pair -/
theorem ims.push {k q i : Nat} {c : Tre} (h : ims H F lv r ms mp loc n Iv pr en) (hk4 : k < 4) (hrz : r < mu_z H) (h9 : 169 < mu_z H) (hN : (pr k).length < mu_n H (loc (2 * k + 1))) (hI : (pr k).length < mu_n H (loc (2 * k + 2))) (hq : nd H F lv q c) (hi : i < n) : ims (mu_si (mu_sr (mu_sr H (loc (2 * k + 1)) (pr k).length (some q)) (loc (2 * k + 2)) (pr k).length (some (loc (9 + 4 * i)))) mp (fC k) (nI ((pr k).length + 1))) F lv r ms mp loc n Iv (pup pr k (pr k ++ [(c, i)])) en := by
  have f1 := h.2.2.2.2.2.1
  have g1 := h.2.2.2.2.2.2
  have ok := h.1.2.1
  have mn : mp ≠ 169 := by have := ok.1.1; omega
  obtain ⟨⟨okN, nmN⟩, ⟨okI, nmI⟩⟩ := And.intro (f1 (2 * k + 1) (by omega)) (f1 (2 * k + 2) (by omega))
  have nNI : loc (2 * k + 1) ≠ loc (2 * k + 2) := fun e => by have := g1 _ _ (by omega) (by omega) e; omega
  have k2 : kep (fun p => (p = loc (2 * k + 1) ∨ p = loc (2 * k + 2)) ∨ p = mp) 0 0 H (mu_si (mu_sr (mu_sr H (loc (2 * k + 1)) (pr k).length (some q)) (loc (2 * k + 2)) (pr k).length (some (loc (9 + 4 * i)))) mp (fC k) (nI ((pr k).length + 1))) := ((kep.rf.sr (Or.inl (Or.inl (Or.inl rfl)))).sr (Or.inl (Or.inl (Or.inr rfl)))).si (Or.inl (Or.inr rfl))
  have hW : ∀ p, ((p = loc (2 * k + 1) ∨ p = loc (2 * k + 2)) ∨ p = mp) → okw H F r p := fun p z => by
    rcases z with (e | e) | e
    · rw [e]; exact okN
    · rw [e]; exact okI
    · rw [e]; exact ok
  have nm : ∀ s, s < 9 + 4 * n → s ≠ 2 * k + 1 → s ≠ 2 * k + 2 → ¬ ((loc s = loc (2 * k + 1) ∨ loc s = loc (2 * k + 2)) ∨ loc s = mp) := fun s hs h1 h2 z => by
    rcases z with (e | e) | e
    · exact h1 (g1 _ _ hs (by omega) e)
    · exact h2 (g1 _ _ hs (by omega) e)
    · exact (f1 s hs).2 e
  have q' := h.parts k2 hrz ⟨fun z => absurd (hW _ z).1.1 (by decide), h9⟩ (fun p z => ⟨(hW p z).2.1, (hW p z).1.2.2, (hW p z).2.2.2.2⟩)
  obtain ⟨q1, q2, q3, q4, q5, q6⟩ := q'
  obtain ⟨⟨a1, a2, a3⟩, ⟨b1, b2, b3⟩, c0, d1, e1, _, _⟩ := h
  have em : ∀ j, mu_r (mu_si (mu_sr (mu_sr H (loc (2 * k + 1)) (pr k).length (some q)) (loc (2 * k + 2)) (pr k).length (some (loc (9 + 4 * i)))) mp (fC k) (nI ((pr k).length + 1))) mp j = mu_r H mp j := fun j => by
    show mu_r (mu_sr (mu_sr H (loc (2 * k + 1)) (pr k).length (some q)) (loc (2 * k + 2)) (pr k).length (some (loc (9 + 4 * i)))) mp j = _
    rw [mu_r_sr, if_neg (fun z => nmI z.1.symm), mu_r_sr, if_neg (fun z => nmN z.1.symm)]
  have ei : ∀ j, j ≠ fC k → mu_i (mu_si (mu_sr (mu_sr H (loc (2 * k + 1)) (pr k).length (some q)) (loc (2 * k + 2)) (pr k).length (some (loc (9 + 4 * i)))) mp (fC k) (nI ((pr k).length + 1))) mp j = mu_i H mp j := fun j hj => by
    rw [mu_i_si, if_neg (fun z => hj z.2)]; rfl
  refine ⟨⟨a1, q5, q6⟩, ⟨(em 0).trans b1, (ei 1 (fun e => (fNI hk4 hk4).2.2.2.1 e.symm)).trans b2, (ei 2 (fun e => (fNI hk4 hk4).2.2.2.2 e.symm)).trans b3⟩, q3 (nm 0 (by omega) (by omega) (by omega)), fun k' hk' => ?_, fun j hj => q2 j hj (nm _ (by omega) (by omega) (by omega)) (nm _ (by omega) (by omega) (by omega)) (nm _ (by omega) (by omega) (by omega)) (nm _ (by omega) (by omega) (by omega)), q4, g1⟩
  by_cases e : k' = k
  · subst e
    rw [show pup pr k' (pr k' ++ [(c, i)]) k' = pr k' ++ [(c, i)] from if_pos rfl]
    have ll : (pr k' ++ [(c, i)]).length = (pr k').length + 1 := by rw [List.length_append]; rfl
    obtain ⟨⟨w1, w2, w3⟩, ⟨w4, w5, w6⟩, ⟨w7, w8, w9⟩⟩ := d1 k' hk'
    refine ⟨⟨(em _).trans w1, (em _).trans w2, by rw [mu_i_si, if_pos ⟨rfl, rfl⟩, ll]⟩, ⟨w4, ?_, fun x hx => ?_⟩, ⟨w7, ?_, fun x hx => ?_⟩⟩
    · show (pr k' ++ [(c, i)]).length ≤ mu_n H (loc (2 * k' + 1)) ∧ 16 ≤ mu_n H (loc (2 * k' + 1)) ∧ mu_n H (loc (2 * k' + 1)) ≤ _
      rw [ll]; omega
    · rw [ll] at hx
      rw [pth2_ap]
      show ∃ q9, mu_r (mu_sr (mu_sr H (loc (2 * k' + 1)) (pr k').length (some q)) (loc (2 * k' + 2)) (pr k').length (some (loc (9 + 4 * i)))) (loc (2 * k' + 1)) x = some q9 ∧ _
      rw [mu_r_sr, if_neg (fun z => nNI z.1), mu_r_sr]
      by_cases ex : x = (pr k').length
      · rw [if_pos ex, if_pos ⟨rfl, ex⟩]
        exact ⟨q, rfl, hq.kp k2 (fun p z => ⟨(hW p z).2.1, (hW p z).1.2.2⟩)⟩
      · rw [if_neg ex, if_neg (fun z => ex z.2)]
        obtain ⟨q9, y1, y2⟩ := w6 x (by omega)
        exact ⟨q9, y1, y2.kp k2 (fun p z => ⟨(hW p z).2.1, (hW p z).1.2.2⟩)⟩
    · show (pr k' ++ [(c, i)]).length ≤ mu_n H (loc (2 * k' + 2)) ∧ 16 ≤ mu_n H (loc (2 * k' + 2)) ∧ mu_n H (loc (2 * k' + 2)) ≤ _
      rw [ll]; omega
    · rw [ll] at hx
      rw [pth2_ap]
      show mu_r (mu_sr (mu_sr H (loc (2 * k' + 1)) (pr k').length (some q)) (loc (2 * k' + 2)) (pr k').length (some (loc (9 + 4 * i)))) (loc (2 * k' + 2)) x = _ ∧ _
      rw [mu_r_sr]
      by_cases ex : x = (pr k').length
      · rw [if_pos ex, if_pos ⟨rfl, ex⟩]; exact ⟨rfl, hi⟩
      · rw [if_neg ex, if_neg (fun z => ex z.2), mu_r_sr, if_neg (fun z => nNI z.1.symm)]
        exact w9 x (by omega)
  · rw [show pup pr k (pr k ++ [(c, i)]) k' = pr k' from if_neg e]
    exact ⟨⟨(em _).trans (d1 k' hk').1.1, (em _).trans (d1 k' hk').1.2.1, (ei _ (fun z => e (fC_ne hk' hk4 z))).trans (d1 k' hk').1.2.2⟩, (q1 k' hk').1 (nm _ (by omega) (by omega) (by omega)), (q1 k' hk').2 (nm _ (by omega) (by omega) (by omega))⟩
end Imw
