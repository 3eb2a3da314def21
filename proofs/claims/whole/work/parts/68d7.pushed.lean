/-! The reference: one more in both rows, in any order -/
section Psh
variable {T : Nat → Int32} {n0 dep lv r cap mp A B n en k : Nat} {t : Tok} {F : Nat → Prop} {ms : List Mdl} {sy : List (List Int32)} {Hb H H1 : mu_H} {loc : Nat → Nat} {Iv : Nat → Ins} {pr : Nat → List (Tre × Nat)}
/-- H1 is H with q and INSTANCE i behind the others of the pair k, and the count told -/
def psd (H : mu_H) (loc : Nat → Nat) (mp k len q i : Nat) (H1 : mu_H) : Prop := kep (fun p => (p = loc (2 * k + 1) ∨ p = loc (2 * k + 2)) ∨ p = mp) 0 0 H H1 ∧ (∀ x, mu_r H1 (loc (2 * k + 1)) x = if x = len then some q else mu_r H (loc (2 * k + 1)) x) ∧ (∀ x, mu_r H1 (loc (2 * k + 2)) x = if x = len then some (loc (9 + 4 * i)) else mu_r H (loc (2 * k + 2)) x) ∧ ((∀ p, mu_k H1 p = mu_k H p) ∧ (∀ p, mu_n H1 p = mu_n H p) ∧ mu_z H1 = mu_z H) ∧ (∀ j, mu_r H1 mp j = mu_r H mp j) ∧ (∀ j, j ≠ fC k → mu_i H1 mp j = mu_i H mp j) ∧ mu_i H1 mp (fC k) = nI (len + 1)
theorem ims.pushG {q i : Nat} {c : Tre} (h : ims H F lv r ms mp loc n Iv pr en) (hk4 : k < 4) (hrz : r < mu_z H) (h9 : 169 < mu_z H) (hN : (pr k).length < mu_n H (loc (2 * k + 1))) (hI : (pr k).length < mu_n H (loc (2 * k + 2))) (hq : nd H F lv q c) (hi : i < n) (hp : psd H loc mp k (pr k).length q i H1) : ims H1 F lv r ms mp loc n Iv (pup pr k (pr k ++ [(c, i)])) en := by
  obtain ⟨k2, rN, rI, ⟨kk, nn, zz⟩, em, ei, ec⟩ := hp
  have f1 := h.2.2.2.2.2.1
  have g1 := h.2.2.2.2.2.2
  have ok := h.1.2.1
  obtain ⟨⟨okN, nmN⟩, ⟨okI, nmI⟩⟩ := And.intro (f1 (2 * k + 1) (by omega)) (f1 (2 * k + 2) (by omega))
  have hW : ∀ p, ((p = loc (2 * k + 1) ∨ p = loc (2 * k + 2)) ∨ p = mp) → okw H F r p := fun p z => by
    rcases z with (e | e) | e
    · rw [e]; exact okN
    · rw [e]; exact okI
    · rw [e]; exact ok
  have nm : ∀ s, s < 9 + 4 * n → s ≠ 2 * k + 1 → s ≠ 2 * k + 2 → ¬ ((loc s = loc (2 * k + 1) ∨ loc s = loc (2 * k + 2)) ∨ loc s = mp) := fun s hs h1 h2 z => by
    rcases z with (e | e) | e
    · exact h1 (g1 _ _ hs (by omega) e)
    · exact h2 (g1 _ _ hs (by omega) e)
    · exact (f1 s hs).2 e
  have q' := h.parts k2 hrz ⟨fun z => absurd (hW _ z).1.1 (by decide), h9⟩ (fun p z => ⟨(hW p z).2.1, (hW p z).1.2.2, (hW p z).2.2.2.2⟩)
  obtain ⟨q1, q2, q3, q4, q5, q6⟩ := q'
  obtain ⟨⟨a1, a2, a3⟩, ⟨b1, b2, b3⟩, c0, d1, e1, _, _⟩ := h
  have isk : ∀ {p kd}, mu_is H (some p) kd → mu_is H1 (some p) kd := fun z => ⟨z.1, by rw [zz]; exact z.2.1, (kk _).trans z.2.2⟩
  refine ⟨⟨isk a1, q5, q6⟩, ⟨(em 0).trans b1, (ei 1 (fun e => (fNI hk4 hk4).2.2.2.1 e.symm)).trans b2, (ei 2 (fun e => (fNI hk4 hk4).2.2.2.2 e.symm)).trans b3⟩, q3 (nm 0 (by omega) (by omega) (by omega)), fun k' hk' => ?_, fun j hj => q2 j hj (nm _ (by omega) (by omega) (by omega)) (nm _ (by omega) (by omega) (by omega)) (nm _ (by omega) (by omega) (by omega)) (nm _ (by omega) (by omega) (by omega)), q4, g1⟩
  by_cases e : k' = k
  · subst e
    rw [show pup pr k' (pr k' ++ [(c, i)]) k' = pr k' ++ [(c, i)] from if_pos rfl]
    have ll : (pr k' ++ [(c, i)]).length = (pr k').length + 1 := by rw [List.length_append]; rfl
    obtain ⟨⟨w1, w2, w3⟩, ⟨w4, w5, w6⟩, ⟨w7, w8, w9⟩⟩ := d1 k' hk'
    refine ⟨⟨(em _).trans w1, (em _).trans w2, by rw [ec, ll]⟩, ⟨isk w4, by rw [nn, ll]; omega, fun x hx => ?_⟩, ⟨isk w7, by rw [nn, ll]; omega, fun x hx => ?_⟩⟩
    · rw [ll] at hx
      rw [pth2_ap, rN]
      by_cases ex : x = (pr k').length
      · rw [if_pos ex, if_pos ex]
        exact ⟨q, rfl, hq.kp k2 (fun p z => ⟨(hW p z).2.1, (hW p z).1.2.2⟩)⟩
      · rw [if_neg ex, if_neg ex]
        obtain ⟨q9, y1, y2⟩ := w6 x (by omega)
        exact ⟨q9, y1, y2.kp k2 (fun p z => ⟨(hW p z).2.1, (hW p z).1.2.2⟩)⟩
    · rw [ll] at hx
      rw [pth2_ap, rI]
      by_cases ex : x = (pr k').length
      · rw [if_pos ex, if_pos ex]; exact ⟨rfl, hi⟩
      · rw [if_neg ex, if_neg ex]
        exact w9 x (by omega)
  · rw [show pup pr k (pr k ++ [(c, i)]) k' = pr k' from if_neg e]
    exact ⟨⟨(em _).trans (d1 k' hk').1.1, (em _).trans (d1 k' hk').1.2.1, (ei _ (fun z => e (fC_ne hk' hk4 z))).trans (d1 k' hk').1.2.2⟩, (q1 k' hk').1 (nm _ (by omega) (by omega) (by omega)), (q1 k' hk').2 (nm _ (by omega) (by omega) (by omega))⟩
theorem bmk.pushG {q i : Nat} {c : Tre} (h : bmk T n0 t dep F lv r ms cap sy Hb mp A B loc n Iv pr en H) (hk4 : k < 4) (hN : (pr k).length < mu_n H (loc (2 * k + 1))) (hI : (pr k).length < mu_n H (loc (2 * k + 2))) (hq : nd H F lv q c) (hi : i < n) (hp : psd H loc mp k (pr k).length q i H1) : bmk T n0 t dep F lv r ms cap sy Hb mp A B loc n Iv (pup pr k (pr k ++ [(c, i)])) en H1 := by
  have hcs : cps H1 loc = cps H loc := by unfold cps; simp only [hp.2.2.2.1.2.1]
  refine h.st hp.1 (fun p z => ?_) (h.2.1.pushG hk4 h.rz.1 h.rz.2.1 hN hI hq hi hp) h.2.2.1.2 (by rw [hcs]; exact Nat.le_refl _) (by rw [hcs]; exact Nat.le_refl _)
  rcases z with (e | e) | e
  · exact h.slot (by omega) p e
  · exact h.slot (by omega) p e
  · subst e; exact ⟨h.2.1.1.2.1, h.2.2.1.1⟩
/-- places that differ -/
theorem bmk.dif (h : bmk T n0 t dep F lv r ms cap sy Hb mp A B loc n Iv pr en H) (hk4 : k < 4) : loc (2 * k + 1) ≠ loc (2 * k + 2) ∧ loc (2 * k + 1) ≠ mp ∧ loc (2 * k + 2) ≠ mp ∧ loc (2 * k + 1) ≠ 169 ∧ loc (2 * k + 2) ≠ 169 ∧ mp ≠ 169 := by
  have f1 := h.2.1.2.2.2.2.2.1
  have g1 := h.2.1.2.2.2.2.2.2
  refine ⟨fun e => by have := g1 _ _ (by omega) (by omega) e; omega, (f1 _ (by omega)).2, (f1 _ (by omega)).2, fun e => ?_, fun e => ?_, fun e => ?_⟩
  · have := (f1 (2 * k + 1) (by omega)).1.1.1; omega
  · have := (f1 (2 * k + 2) (by omega)).1.1.1; omega
  · have := h.2.1.1.2.1.1.1; omega
/-- Nodes first, then INSTANCES, then the count -/
theorem psd.nic {q i len : Nat} (d1 : loc (2 * k + 1) ≠ loc (2 * k + 2) ∧ loc (2 * k + 1) ≠ mp ∧ loc (2 * k + 2) ≠ mp) : psd H loc mp k len q i (mu_si (mu_sr (mu_sr H (loc (2 * k + 1)) len (some q)) (loc (2 * k + 2)) len (some (loc (9 + 4 * i)))) mp (fC k) (nI (len + 1))) := by
  refine ⟨((kep.rf.sr (Or.inl (Or.inl (Or.inl rfl)))).sr (Or.inl (Or.inl (Or.inr rfl)))).si (Or.inl (Or.inr rfl)), fun x => ?_, fun x => ?_, ⟨fun _ => rfl, fun _ => rfl, rfl⟩, fun j => ?_, fun j hj => ?_, ?_⟩
  · show mu_r (mu_sr (mu_sr H (loc (2 * k + 1)) len (some q)) (loc (2 * k + 2)) len (some (loc (9 + 4 * i)))) _ x = _
    rw [mu_r_sr, if_neg (fun z => d1.1 z.1), mu_r_sr]
    by_cases e : x = len
    · rw [if_pos ⟨rfl, e⟩, if_pos e]
    · rw [if_neg (fun z => e z.2), if_neg e]
  · show mu_r (mu_sr (mu_sr H (loc (2 * k + 1)) len (some q)) (loc (2 * k + 2)) len (some (loc (9 + 4 * i)))) _ x = _
    rw [mu_r_sr]
    by_cases e : x = len
    · rw [if_pos ⟨rfl, e⟩, if_pos e]
    · rw [if_neg (fun z => e z.2), if_neg e, mu_r_sr, if_neg (fun z => d1.1 z.1.symm)]
  · show mu_r (mu_sr (mu_sr H (loc (2 * k + 1)) len (some q)) (loc (2 * k + 2)) len (some (loc (9 + 4 * i)))) mp j = _
    rw [mu_r_sr, if_neg (fun z => d1.2.2 z.1.symm), mu_r_sr, if_neg (fun z => d1.2.1 z.1.symm)]
  · rw [mu_i_si, if_neg (fun z => hj z.2)]; rfl
  · rw [mu_i_si, if_pos ⟨rfl, rfl⟩]
/-- INSTANCES first, then Nodes, then the count -/
theorem psd.inc {q i len : Nat} (d1 : loc (2 * k + 1) ≠ loc (2 * k + 2) ∧ loc (2 * k + 1) ≠ mp ∧ loc (2 * k + 2) ≠ mp) : psd H loc mp k len q i (mu_si (mu_sr (mu_sr H (loc (2 * k + 2)) len (some (loc (9 + 4 * i)))) (loc (2 * k + 1)) len (some q)) mp (fC k) (nI (len + 1))) := by
  refine ⟨((kep.rf.sr (Or.inl (Or.inl (Or.inr rfl)))).sr (Or.inl (Or.inl (Or.inl rfl)))).si (Or.inl (Or.inr rfl)), fun x => ?_, fun x => ?_, ⟨fun _ => rfl, fun _ => rfl, rfl⟩, fun j => ?_, fun j hj => ?_, ?_⟩
  · show mu_r (mu_sr (mu_sr H (loc (2 * k + 2)) len (some (loc (9 + 4 * i)))) (loc (2 * k + 1)) len (some q)) _ x = _
    rw [mu_r_sr]
    by_cases e : x = len
    · rw [if_pos ⟨rfl, e⟩, if_pos e]
    · rw [if_neg (fun z => e z.2), if_neg e, mu_r_sr, if_neg (fun z => d1.1 z.1)]
  · show mu_r (mu_sr (mu_sr H (loc (2 * k + 2)) len (some (loc (9 + 4 * i)))) (loc (2 * k + 1)) len (some q)) _ x = _
    rw [mu_r_sr, if_neg (fun z => d1.1 z.1.symm), mu_r_sr]
    by_cases e : x = len
    · rw [if_pos ⟨rfl, e⟩, if_pos e]
    · rw [if_neg (fun z => e z.2), if_neg e]
  · show mu_r (mu_sr (mu_sr H (loc (2 * k + 2)) len (some (loc (9 + 4 * i)))) (loc (2 * k + 1)) len (some q)) mp j = _
    rw [mu_r_sr, if_neg (fun z => d1.2.1 z.1.symm), mu_r_sr, if_neg (fun z => d1.2.2 z.1.symm)]
  · rw [mu_i_si, if_neg (fun z => hj z.2)]; rfl
  · rw [mu_i_si, if_pos ⟨rfl, rfl⟩]
/-- Nodes first, then the count, then INSTANCES -/
theorem psd.nci {q i len : Nat} (d1 : loc (2 * k + 1) ≠ loc (2 * k + 2) ∧ loc (2 * k + 1) ≠ mp ∧ loc (2 * k + 2) ≠ mp) : psd H loc mp k len q i (mu_sr (mu_si (mu_sr H (loc (2 * k + 1)) len (some q)) mp (fC k) (nI (len + 1))) (loc (2 * k + 2)) len (some (loc (9 + 4 * i)))) := psd.nic d1
end Psh
