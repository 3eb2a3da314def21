/-! The reference: a MODEL is made, state and frame together -/
/-- the rows' places, all together -/
def cps (H : mu_H) (loc : Nat → Nat) : Nat := mu_n H (loc 1) + mu_n H (loc 2) + mu_n H (loc 3) + mu_n H (loc 4) + mu_n H (loc 5) + mu_n H (loc 6) + mu_n H (loc 7) + mu_n H (loc 8)
/-- the state while a MODEL is made: since Hb at most A cells and B slots, and what growing rows cost -/
def bmk (T : Nat → Int32) (n0 : Nat) (t : Tok) (dep : Nat) (F : Nat → Prop) (lv r : Nat) (ms : List Mdl) (cap : Nat) (sy : List (List Int32)) (Hb : mu_H) (mp A B : Nat) (loc : Nat → Nat) (n : Nat) (Iv : Nat → Ins) (pr : Nat → List (Tre × Nat)) (en : Nat) (H : mu_H) : Prop := gnw T n0 t dep F lv r ms cap sy H ∧ ims H F lv r ms mp loc n Iv pr en ∧ (mu_z Hb ≤ mp ∧ ∀ a, a < 9 + 4 * n → mu_z Hb ≤ loc a) ∧ kep (fun p => mu_z Hb ≤ p ∧ p < 1000000) (A + cps H loc / 16) (B + 2 * cps H loc) Hb H ∧ 200 < mu_z Hb
theorem lup_id {loc : Nat → Nat} {s : Nat} : lup loc s (loc s) = loc := funext fun i => by
  by_cases e : i = s
  · rw [e, lup_eq]
  · exact lup_ne e
section Bmk
variable {T : Nat → Int32} {n0 dep lv r cap mp A B A' B' n en a b p j k : Nat} {t : Tok} {F W : Nat → Prop} {ms : List Mdl} {sy : List (List Int32)} {Hb H H1 : mu_H} {loc loc' : Nat → Nat} {Iv Iv' : Nat → Ins} {pr pr' : Nat → List (Tre × Nat)}
theorem bmk.rz (h : bmk T n0 t dep F lv r ms cap sy Hb mp A B loc n Iv pr en H) : r < mu_z H ∧ 169 < mu_z H ∧ mu_z H ≤ mu_z Hb + (A + cps H loc / 16) ∧ mu_z Hb ≤ mu_z H ∧ mu_is H (some 169) 1 := by
  obtain ⟨h1, h2, h3, h4, h5⟩ := h
  exact ⟨h1.2.1.2.1.2.1, Nat.lt_trans (by decide) h1.1.1.1, h4.2.2.1.1, h4.1, h1.1.is⟩
theorem bmk.wk (h : bmk T n0 t dep F lv r ms cap sy Hb mp A B loc n Iv pr en H) (ha : A ≤ A') (hb : B ≤ B') : bmk T n0 t dep F lv r ms cap sy Hb mp A' B' loc n Iv pr en H := ⟨h.1, h.2.1, h.2.2.1, h.2.2.2.1.wk (fun _ _ z => z) (by omega) (by omega), h.2.2.2.2⟩
/-- cells of the MODEL are written, cells are made -/
theorem bmk.st {n' en' : Nat} (h : bmk T n0 t dep F lv r ms cap sy Hb mp A B loc n Iv pr en H) (hk : kep W a b H H1) (hW : ∀ p, W p → okw H F r p ∧ mu_z Hb ≤ p) (hi : ims H1 F lv r ms mp loc' n' Iv' pr' en') (hl : ∀ s, s < 9 + 4 * n' → mu_z Hb ≤ loc' s) (hc1 : A + cps H loc / 16 + a ≤ A' + cps H1 loc' / 16) (hc2 : B + 2 * cps H loc + b ≤ B' + 2 * cps H1 loc') : bmk T n0 t dep F lv r ms cap sy Hb mp A' B' loc' n' Iv' pr' en' H1 := by
  obtain ⟨h1, h2, h3, h4, h5⟩ := h
  exact ⟨h1.kp hk (fun p z => (hW p z).1), hi, ⟨h3.1, hl⟩, (h4.tr hk (W := fun p => mu_z Hb ≤ p ∧ p < 1000000) (fun p hp z => z.elim id (fun z => ⟨(hW p z).2, (hW p z).1.1.2.2⟩))).wk (fun _ _ z => z) hc1 hc2, h5⟩
theorem bmk.ent {en' : Nat} (h : bmk T n0 t dep F lv r ms cap sy Hb mp A B loc n Iv pr en H) : bmk T n0 t dep F lv r ms cap sy Hb mp A B loc n Iv pr en' (mu_si H mp 2 (nI en')) :=
  h.st (W := fun p => p = mp) (a := 0) (b := 0) (kep.rf.si (Or.inl rfl)) (fun p e => by subst e; exact ⟨h.2.1.1.2.1, h.2.2.1.1⟩) (h.2.1.ent h.rz.1 h.rz.2.1) h.2.2.1.2 (Nat.le_refl _) (Nat.le_refl _)
theorem bmk.slot (h : bmk T n0 t dep F lv r ms cap sy Hb mp A B loc n Iv pr en H) {s : Nat} (hs : s < 9 + 4 * n) : ∀ p, p = loc s → okw H F r p ∧ mu_z Hb ≤ p := fun p e => by subst e; exact ⟨(h.2.1.2.2.2.2.2.1 s hs).1, h.2.2.1.2 s hs⟩
theorem bmk.vset {v : Int32} (h : bmk T n0 t dep F lv r ms cap sy Hb mp A B loc n Iv pr en H) (hj : j < n) : bmk T n0 t dep F lv r ms cap sy Hb mp A B loc n (iup Iv j ((Iv j).1, (Iv j).2.1, fup (Iv j).2.2.1 k v, (Iv j).2.2.2)) pr en (mu_si H (loc (10 + 4 * j)) k v) :=
  h.st (W := fun p => p = loc (10 + 4 * j)) (a := 0) (b := 0) (kep.rf.si (Or.inl rfl)) (h.slot (by omega)) (h.2.1.vset hj h.rz.1 h.rz.2.1) h.2.2.1.2 (Nat.le_refl _) (Nat.le_refl _)
theorem bmk.dset {v : Int32} (h : bmk T n0 t dep F lv r ms cap sy Hb mp A B loc n Iv pr en H) (hj : j < n) : bmk T n0 t dep F lv r ms cap sy Hb mp A B loc n (iup Iv j ((Iv j).1, (Iv j).2.1, (Iv j).2.2.1, (Iv j).2.2.2.1, fup (Iv j).2.2.2.2 k v)) pr en (mu_si H (loc (12 + 4 * j)) k v) :=
  h.st (W := fun p => p = loc (12 + 4 * j)) (a := 0) (b := 0) (kep.rf.si (Or.inl rfl)) (h.slot (by omega)) (h.2.1.dset hj h.rz.1 h.rz.2.1) h.2.2.1.2 (Nat.le_refl _) (Nat.le_refl _)
theorem bmk.nset {i : Nat} (h : bmk T n0 t dep F lv r ms cap sy Hb mp A B loc n Iv pr en H) (hj : j < n) (hi : i < n) : bmk T n0 t dep F lv r ms cap sy Hb mp A B loc n (iup Iv j ((Iv j).1, (Iv j).2.1, (Iv j).2.2.1, fup (Iv j).2.2.2.1 k (some i), (Iv j).2.2.2.2)) pr en (mu_sr H (loc (11 + 4 * j)) k (some (loc (9 + 4 * i)))) :=
  h.st (W := fun p => p = loc (11 + 4 * j)) (a := 0) (b := 0) (kep.rf.sr (Or.inl rfl)) (h.slot (by omega)) (h.2.1.nset hj hi h.rz.1 h.rz.2.1) h.2.2.1.2 (Nat.le_refl _) (Nat.le_refl _)
theorem bmk.gset {v : Nat} (h : bmk T n0 t dep F lv r ms cap sy Hb mp A B loc n Iv pr en H) (hj : j < n) : bmk T n0 t dep F lv r ms cap sy Hb mp A B loc n (iup Iv j ((Iv j).1, v, (Iv j).2.2)) pr en (mu_si H (loc (9 + 4 * j)) 2 (nI v)) :=
  h.st (W := fun p => p = loc (9 + 4 * j)) (a := 0) (b := 0) (kep.rf.si (Or.inl rfl)) (h.slot (by omega)) (h.2.1.gset hj h.rz.1 h.rz.2.1) h.2.2.1.2 (Nat.le_refl _) (Nat.le_refl _)
/-- what a row's growing costs: a row of c places at most 2 (places kept) + 64 -/
theorem bmk.mrN {y : Option Nat} (h : bmk T n0 t dep F lv r ms cap sy Hb mp A B loc n Iv pr en H) (hk4 : k < 4) (hz : mu_z H < 1000000) (hm : ((pr k).length < mu_n H (loc (2 * k + 1)) ∧ y = some (loc (2 * k + 1)) ∧ H1 = H) ∨ (¬ (pr k).length < mu_n H (loc (2 * k + 1)) ∧ y = some (mu_z H) ∧ kep (fun _ => False) 1 (2 * mu_n H (loc (2 * k + 1))) H H1 ∧ mu_is H1 (some (mu_z H)) 109 ∧ mu_n H1 (mu_z H) = 2 * mu_n H (loc (2 * k + 1)) ∧ ∀ i, i < mu_n H (loc (2 * k + 1)) → mu_r H1 (mu_z H) i = mu_r H (loc (2 * k + 1)) i)) : ∃ loc1 p1, y = some p1 ∧ loc1 (2 * k + 1) = p1 ∧ (∀ s, s ≠ 2 * k + 1 → loc1 s = loc s) ∧ bmk T n0 t dep F lv r ms cap sy Hb mp A B loc1 n Iv pr en (mu_sr H1 mp (fN k) (some p1)) ∧ (pr k).length < mu_n (mu_sr H1 mp (fN k) (some p1)) p1 ∧ (∀ s, s < 9 + 4 * n → mu_n (mu_sr H1 mp (fN k) (some p1)) (loc s) = mu_n H (loc s)) ∧ mu_z (mu_sr H1 mp (fN k) (some p1)) ≤ mu_z H + 1 := by
  obtain ⟨hrz, h9, _, hzb, _⟩ := h.rz
  have hw := (h.2.1.2.2.2.1 k hk4).2.1
  have f1 := h.2.1.2.2.2.2.2.1
  have g1 := h.2.1.2.2.2.2.2.2
  have okm : ∀ p, p = mp → okw H F r p ∧ mu_z Hb ≤ p := fun p e => by subst e; exact ⟨h.2.1.1.2.1, h.2.2.1.1⟩
  rcases hm with ⟨m1, m2, m3⟩ | ⟨m1, m2, m3, m4, m5, m6⟩
  · subst m3
    refine ⟨lup loc (2 * k + 1) (loc (2 * k + 1)), loc (2 * k + 1), m2, lup_eq, fun s hs => lup_ne hs, ?_, m1, fun s _ => rfl, Nat.le_succ _⟩
    have hcs : cps (mu_sr H1 mp (fN k) (some (loc (2 * k + 1)))) (lup loc (2 * k + 1) (loc (2 * k + 1))) = cps H1 loc := by
      rw [lup_id]
      rfl
    refine (h.st (W := fun p => p = mp) (a := 0) (b := 0) (kep.rf.sr (Or.inl rfl)) okm (h.2.1.mvN hk4 (a := 0) (b := 0) kep.rf hrz h9 ⟨(f1 _ (by omega)).1, (f1 _ (by omega)).2⟩ (fun s hs h1 e => h1 (g1 _ _ hs (by omega) e)) hw) (fun s hs => ?_) (by rw [hcs]; exact Nat.le_refl _) (by rw [hcs]; exact Nat.le_refl _))
    by_cases e : s = 2 * k + 1
    · subst e; rw [lup_eq]; exact h.2.2.1.2 _ hs
    · rw [lup_ne e]; exact h.2.2.1.2 s hs
  · obtain ⟨n1, n2, n3, n4, n5⟩ := h.1.new hz
    have hl : (pr k).length = mu_n H (loc (2 * k + 1)) := by have := hw.2.1.1; omega
    have okz : okw H1 F r (mu_z H) := ⟨⟨n1, m4.2.1, hz⟩, n2, by rw [m3.r (Or.inl h9) id]; exact n3, by rw [m3.r (Or.inl h9) id]; exact n4, n5⟩
    have hmz : mp < mu_z H := h.2.1.1.1.2.1
    have hw1 : rwN H1 F lv (mu_z H) (pr k) := by
      refine ⟨m4, by rw [m5]; have := hw.2.1; omega, fun i hi => ?_⟩
      obtain ⟨q, q1, q2⟩ := hw.2.2 i hi
      exact ⟨q, (m6 i (by omega)).trans q1, q2.kp m3 (fun _ z => z.elim)⟩
    refine ⟨lup loc (2 * k + 1) (mu_z H), mu_z H, m2, lup_eq, fun s hs => lup_ne hs, ?_, ?_, fun s hs => ?_, m3.2.2.1.1⟩
    · have k2 : kep (fun p => p = mp) 1 (2 * (pr k).length) H (mu_sr H1 mp (fN k) (some (mu_z H))) := ((m3.wk (W' := fun p => p = mp) (fun _ _ z => z.elim) (Nat.le_refl _) (Nat.le_refl _)).sr (Or.inl rfl)).wk (fun _ _ z => z) (Nat.le_refl _) (by rw [hl]; exact Nat.le_refl _)
      have hcs : cps (mu_sr H1 mp (fN k) (some (mu_z H))) (lup loc (2 * k + 1) (mu_z H)) = cps H loc + mu_n H (loc (2 * k + 1)) := by
        have en : ∀ s, s < 9 → mu_n (mu_sr H1 mp (fN k) (some (mu_z H))) (lup loc (2 * k + 1) (mu_z H) s) = if s = 2 * k + 1 then 2 * mu_n H (loc (2 * k + 1)) else mu_n H (loc s) := fun s hs => by
          by_cases e : s = 2 * k + 1
          · rw [if_pos e, e, lup_eq]; exact m5
          · rw [if_neg e, lup_ne e]; exact m3.len (Or.inl (f1 s (by omega)).1.1.2.1) id
        unfold cps
        rw [en 1 (by decide), en 2 (by decide), en 3 (by decide), en 4 (by decide), en 5 (by decide), en 6 (by decide), en 7 (by decide), en 8 (by decide)]
        have hc : k = 0 ∨ k = 1 ∨ k = 2 ∨ k = 3 := by omega
        rcases hc with rfl | rfl | rfl | rfl <;> simp <;> omega
      have h16 : 16 ≤ mu_n H (loc (2 * k + 1)) := hw.2.1.2.1
      refine h.st k2 okm (h.2.1.mvN hk4 m3 hrz h9 ⟨okz, by omega⟩ (fun s hs h1 e => by have := (f1 s hs).1.1.2.1; omega) hw1) (fun s hs => ?_) (by rw [hcs]; omega) (by rw [hcs]; omega)
      by_cases e : s = 2 * k + 1
      · subst e; rw [lup_eq]; exact hzb
      · rw [lup_ne e]; exact h.2.2.1.2 s hs
    · show (pr k).length < mu_n H1 (mu_z H)
      rw [m5]; have := hw.2.1; omega
    · exact m3.len (Or.inl (f1 s hs).1.1.2.1) id
theorem bmk.mrI {y : Option Nat} (h : bmk T n0 t dep F lv r ms cap sy Hb mp A B loc n Iv pr en H) (hk4 : k < 4) (hz : mu_z H < 1000000) (hm : ((pr k).length < mu_n H (loc (2 * k + 2)) ∧ y = some (loc (2 * k + 2)) ∧ H1 = H) ∨ (¬ (pr k).length < mu_n H (loc (2 * k + 2)) ∧ y = some (mu_z H) ∧ kep (fun _ => False) 1 (2 * mu_n H (loc (2 * k + 2))) H H1 ∧ mu_is H1 (some (mu_z H)) 110 ∧ mu_n H1 (mu_z H) = 2 * mu_n H (loc (2 * k + 2)) ∧ ∀ i, i < mu_n H (loc (2 * k + 2)) → mu_r H1 (mu_z H) i = mu_r H (loc (2 * k + 2)) i)) : ∃ loc1 p1, y = some p1 ∧ loc1 (2 * k + 2) = p1 ∧ (∀ s, s ≠ 2 * k + 2 → loc1 s = loc s) ∧ bmk T n0 t dep F lv r ms cap sy Hb mp A B loc1 n Iv pr en (mu_sr H1 mp (fI k) (some p1)) ∧ (pr k).length < mu_n (mu_sr H1 mp (fI k) (some p1)) p1 ∧ (∀ s, s < 9 + 4 * n → mu_n (mu_sr H1 mp (fI k) (some p1)) (loc s) = mu_n H (loc s)) ∧ mu_z (mu_sr H1 mp (fI k) (some p1)) ≤ mu_z H + 1 := by
  obtain ⟨hrz, h9, _, hzb, _⟩ := h.rz
  have hw := (h.2.1.2.2.2.1 k hk4).2.2
  have f1 := h.2.1.2.2.2.2.2.1
  have g1 := h.2.1.2.2.2.2.2.2
  have okm : ∀ p, p = mp → okw H F r p ∧ mu_z Hb ≤ p := fun p e => by subst e; exact ⟨h.2.1.1.2.1, h.2.2.1.1⟩
  rcases hm with ⟨m1, m2, m3⟩ | ⟨m1, m2, m3, m4, m5, m6⟩
  · subst m3
    refine ⟨lup loc (2 * k + 2) (loc (2 * k + 2)), loc (2 * k + 2), m2, lup_eq, fun s hs => lup_ne hs, ?_, m1, fun s _ => rfl, Nat.le_succ _⟩
    have hcs : cps (mu_sr H1 mp (fI k) (some (loc (2 * k + 2)))) (lup loc (2 * k + 2) (loc (2 * k + 2))) = cps H1 loc := by
      rw [lup_id]
      rfl
    refine (h.st (W := fun p => p = mp) (a := 0) (b := 0) (kep.rf.sr (Or.inl rfl)) okm (h.2.1.mvI hk4 (a := 0) (b := 0) kep.rf hrz h9 ⟨(f1 _ (by omega)).1, (f1 _ (by omega)).2⟩ (fun s hs h1 e => h1 (g1 _ _ hs (by omega) e)) hw) (fun s hs => ?_) (by rw [hcs]; exact Nat.le_refl _) (by rw [hcs]; exact Nat.le_refl _))
    by_cases e : s = 2 * k + 2
    · subst e; rw [lup_eq]; exact h.2.2.1.2 _ hs
    · rw [lup_ne e]; exact h.2.2.1.2 s hs
  · obtain ⟨n1, n2, n3, n4, n5⟩ := h.1.new hz
    have hl : (pr k).length = mu_n H (loc (2 * k + 2)) := by have := hw.2.1.1; omega
    have okz : okw H1 F r (mu_z H) := ⟨⟨n1, m4.2.1, hz⟩, n2, by rw [m3.r (Or.inl h9) id]; exact n3, by rw [m3.r (Or.inl h9) id]; exact n4, n5⟩
    have hmz : mp < mu_z H := h.2.1.1.1.2.1
    have hw1 : rwI H1 loc n (mu_z H) (pr k) := by
      refine ⟨m4, by rw [m5]; have := hw.2.1; omega, fun i hi => ?_⟩
      exact ⟨(m6 i (by omega)).trans (hw.2.2 i hi).1, (hw.2.2 i hi).2⟩
    refine ⟨lup loc (2 * k + 2) (mu_z H), mu_z H, m2, lup_eq, fun s hs => lup_ne hs, ?_, ?_, fun s hs => ?_, m3.2.2.1.1⟩
    · have k2 : kep (fun p => p = mp) 1 (2 * (pr k).length) H (mu_sr H1 mp (fI k) (some (mu_z H))) := ((m3.wk (W' := fun p => p = mp) (fun _ _ z => z.elim) (Nat.le_refl _) (Nat.le_refl _)).sr (Or.inl rfl)).wk (fun _ _ z => z) (Nat.le_refl _) (by rw [hl]; exact Nat.le_refl _)
      have hcs : cps (mu_sr H1 mp (fI k) (some (mu_z H))) (lup loc (2 * k + 2) (mu_z H)) = cps H loc + mu_n H (loc (2 * k + 2)) := by
        have en : ∀ s, s < 9 → mu_n (mu_sr H1 mp (fI k) (some (mu_z H))) (lup loc (2 * k + 2) (mu_z H) s) = if s = 2 * k + 2 then 2 * mu_n H (loc (2 * k + 2)) else mu_n H (loc s) := fun s hs => by
          by_cases e : s = 2 * k + 2
          · rw [if_pos e, e, lup_eq]; exact m5
          · rw [if_neg e, lup_ne e]; exact m3.len (Or.inl (f1 s (by omega)).1.1.2.1) id
        unfold cps
        rw [en 1 (by decide), en 2 (by decide), en 3 (by decide), en 4 (by decide), en 5 (by decide), en 6 (by decide), en 7 (by decide), en 8 (by decide)]
        have hc : k = 0 ∨ k = 1 ∨ k = 2 ∨ k = 3 := by omega
        rcases hc with rfl | rfl | rfl | rfl <;> simp <;> omega
      have h16 : 16 ≤ mu_n H (loc (2 * k + 2)) := hw.2.1.2.1
      refine h.st k2 okm (h.2.1.mvI hk4 m3 hrz h9 ⟨okz, by omega⟩ (fun s hs h1 e => by have := (f1 s hs).1.1.2.1; omega) hw1) (fun s hs => ?_) (by rw [hcs]; omega) (by rw [hcs]; omega)
      by_cases e : s = 2 * k + 2
      · subst e; rw [lup_eq]; exact hzb
      · rw [lup_ne e]; exact h.2.2.1.2 s hs
    · show (pr k).length < mu_n H1 (mu_z H)
      rw [m5]; have := hw.2.1; omega
    · exact m3.len (Or.inl (f1 s hs).1.1.2.1) id
theorem bmk.push {q i : Nat} {c : Tre} (h : bmk T n0 t dep F lv r ms cap sy Hb mp A B loc n Iv pr en H) (hk4 : k < 4) (hN : (pr k).length < mu_n H (loc (2 * k + 1))) (hI : (pr k).length < mu_n H (loc (2 * k + 2))) (hq : nd H F lv q c) (hi : i < n) : bmk T n0 t dep F lv r ms cap sy Hb mp A B loc n Iv (pup pr k (pr k ++ [(c, i)])) en (mu_si (mu_sr (mu_sr H (loc (2 * k + 1)) (pr k).length (some q)) (loc (2 * k + 2)) (pr k).length (some (loc (9 + 4 * i)))) mp (fC k) (nI ((pr k).length + 1))) := by
  have k2 : kep (fun p => (p = loc (2 * k + 1) ∨ p = loc (2 * k + 2)) ∨ p = mp) 0 0 H (mu_si (mu_sr (mu_sr H (loc (2 * k + 1)) (pr k).length (some q)) (loc (2 * k + 2)) (pr k).length (some (loc (9 + 4 * i)))) mp (fC k) (nI ((pr k).length + 1))) := ((kep.rf.sr (Or.inl (Or.inl (Or.inl rfl)))).sr (Or.inl (Or.inl (Or.inr rfl)))).si (Or.inl (Or.inr rfl))
  refine h.st k2 (fun p z => ?_) (h.2.1.push hk4 h.rz.1 h.rz.2.1 hN hI hq hi) h.2.2.1.2 (Nat.le_refl _) (Nat.le_refl _)
  rcases z with (e | e) | e
  · exact h.slot (by omega) p e
  · exact h.slot (by omega) p e
  · subst e; exact ⟨h.2.1.1.2.1, h.2.2.1.1⟩
/-- what is done stays -/
theorem bmk.ndk {d q : Nat} {c : Tre} (h0 : bmk T n0 t dep F lv r ms cap sy Hb mp A B loc n Iv pr en H) (hq : nd Hb F d q c) (hF : ∀ p, F p → p < mu_z Hb) : nd H F d q c := hq.kp h0.2.2.2.1 (fun p z => ⟨fun y => by have := hF p y; omega, z.2⟩)
theorem bmk.mdk {m : Nat} {y : Mdl} (h0 : bmk T n0 t dep F lv r ms cap sy Hb mp A B loc n Iv pr en H) (hq : mdf Hb F lv m y) (hF : ∀ p, F p → p < mu_z Hb) : mdf H F lv m y := hq.kt (ktf.kp h0.2.2.2.1 (fun p z => ⟨fun y => by have := hF p y; omega, z.2⟩))
end Bmk
