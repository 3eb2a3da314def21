/-! The reference: an INSTANCE's rows are written, an INSTANCE is made -/
section Imi
variable {H H1 : mu_H} {F W : Nat → Prop} {lv r mp n en a b p j k : Nat} {ms : List Mdl} {loc loc' : Nat → Nat} {Iv : Nat → Ins} {pr : Nat → List (Tre × Nat)} {x x' : Ins}
/-- only the INSTANCE j changes -/
theorem ims.insw {s : Nat} (h : ims H F lv r ms mp loc n Iv pr en) (hj : j < n) (hs : 9 + 4 * j ≤ s ∧ s ≤ 12 + 4 * j) (hk : kep (fun p => p = loc s) 0 0 H H1) (hrz : r < mu_z H) (h9 : 169 < mu_z H) (hx : insf H1 r ms loc n j x') : ims H1 F lv r ms mp loc n (iup Iv j x') pr en := by
  have f1 := h.2.2.2.2.2.1
  have g1 := h.2.2.2.2.2.2
  have oks := f1 s (by omega)
  have nm : ∀ a, a < 9 + 4 * n → a ≠ s → ¬ (loc a = loc s) := fun a ha h1 e => h1 (g1 _ _ ha (by omega) e)
  have q := h.parts hk hrz ⟨fun e => by have e : 169 = loc s := e; have := oks.1.1.1; omega, h9⟩ (fun p e => by subst e; exact ⟨oks.1.2.1, oks.1.1.2.2, oks.1.2.2.2.2⟩)
  obtain ⟨q1, q2, q3, q4, q5, q6⟩ := q
  obtain ⟨⟨a1, a2, a3⟩, ⟨b1, b2, b3⟩, c, d1, e1, _, _⟩ := h
  have nmp : ¬ mp = loc s := fun e => oks.2 e.symm
  have hmz : mp < mu_z H := a1.2.1
  refine ⟨⟨hk.is a1 nmp, q5, q6⟩, ⟨(hk.r (Or.inl hmz) nmp 0).trans b1, (hk.i (Or.inl hmz) nmp 1).trans b2, (hk.i (Or.inl hmz) nmp 2).trans b3⟩, q3 (nm 0 (by omega) (by omega)), fun k hk4 => ⟨⟨(hk.r (Or.inl hmz) nmp _).trans (d1 k hk4).1.1, (hk.r (Or.inl hmz) nmp _).trans (d1 k hk4).1.2.1, (hk.i (Or.inl hmz) nmp _).trans (d1 k hk4).1.2.2⟩, (q1 k hk4).1 (nm _ (by omega) (by omega)), (q1 k hk4).2 (nm _ (by omega) (by omega))⟩, fun i hi => ?_, q4, g1⟩
  by_cases e : i = j
  · subst e; rw [show iup Iv i x' i = x' from if_pos rfl]; exact hx
  · rw [show iup Iv j x' i = Iv i from if_neg e]
    exact q2 i hi (nm _ (by omega) (by omega)) (nm _ (by omega) (by omega)) (nm _ (by omega) (by omega)) (nm _ (by omega) (by omega))
theorem ims.dif (h : ims H F lv r ms mp loc n Iv pr en) (hj : j < n) : loc (9 + 4 * j) ≠ loc (10 + 4 * j) ∧ loc (9 + 4 * j) ≠ loc (11 + 4 * j) ∧ loc (9 + 4 * j) ≠ loc (12 + 4 * j) ∧ loc (10 + 4 * j) ≠ loc (11 + 4 * j) ∧ loc (10 + 4 * j) ≠ loc (12 + 4 * j) ∧ loc (11 + 4 * j) ≠ loc (12 + 4 * j) ∧ r ≠ loc (9 + 4 * j) ∧ r ≠ loc (11 + 4 * j) := by
  have f1 := h.2.2.2.2.2.1
  have g1 := h.2.2.2.2.2.2
  refine ⟨fun e => ?_, fun e => ?_, fun e => ?_, fun e => ?_, fun e => ?_, fun e => ?_, fun e => (f1 (9 + 4 * j) (by omega)).1.2.2.2.2 e.symm, fun e => (f1 (11 + 4 * j) (by omega)).1.2.2.2.2 e.symm⟩ <;> (have := g1 _ _ (by omega) (by omega) e; omega)
/-- variable[k] is written -/
theorem ims.vset {v : Int32} (h : ims H F lv r ms mp loc n Iv pr en) (hj : j < n) (hrz : r < mu_z H) (h9 : 169 < mu_z H) : ims (mu_si H (loc (10 + 4 * j)) k v) F lv r ms mp loc n (iup Iv j ((Iv j).1, (Iv j).2.1, fup (Iv j).2.2.1 k v, (Iv j).2.2.2)) pr en := by
  have hd := h.dif hj
  refine h.insw (s := 10 + 4 * j) hj (by omega) (kep.rf.si (Or.inl rfl)) hrz h9 ?_
  obtain ⟨k1, k2, k4, k5, ⟨k8, k9, k10⟩, k11, ⟨k14, k15, k16⟩⟩ := h.2.2.2.2.1 j hj
  refine ⟨k1, k2, ?_, k5, ⟨k8, k9, fun i hi => ?_⟩, k11, ⟨k14, k15, fun i hi => ?_⟩⟩
  · rw [mu_i_si, if_neg (fun z => hd.1 z.1)]; exact k4
  · rw [mu_i_si]
    by_cases e : i = k
    · rw [if_pos ⟨rfl, e⟩]; exact (if_pos e).symm
    · rw [if_neg (fun z => e z.2)]; exact (k10 i hi).trans (if_neg e).symm
  · rw [mu_i_si, if_neg (fun z => hd.2.2.2.2.1 z.1.symm)]; exact k16 i hi
/-- definition[k] is written -/
theorem ims.dset {v : Int32} (h : ims H F lv r ms mp loc n Iv pr en) (hj : j < n) (hrz : r < mu_z H) (h9 : 169 < mu_z H) : ims (mu_si H (loc (12 + 4 * j)) k v) F lv r ms mp loc n (iup Iv j ((Iv j).1, (Iv j).2.1, (Iv j).2.2.1, (Iv j).2.2.2.1, fup (Iv j).2.2.2.2 k v)) pr en := by
  have hd := h.dif hj
  refine h.insw (s := 12 + 4 * j) hj (by omega) (kep.rf.si (Or.inl rfl)) hrz h9 ?_
  obtain ⟨k1, k2, k4, k5, ⟨k8, k9, k10⟩, k11, ⟨k14, k15, k16⟩⟩ := h.2.2.2.2.1 j hj
  refine ⟨k1, k2, ?_, k5, ⟨k8, k9, fun i hi => ?_⟩, k11, ⟨k14, k15, fun i hi => ?_⟩⟩
  · rw [mu_i_si, if_neg (fun z => hd.2.2.1 z.1)]; exact k4
  · rw [mu_i_si, if_neg (fun z => hd.2.2.2.2.1 z.1)]; exact k10 i hi
  · rw [mu_i_si]
    by_cases e : i = k
    · rw [if_pos ⟨rfl, e⟩]; exact (if_pos e).symm
    · rw [if_neg (fun z => e z.2)]; exact (k16 i hi).trans (if_neg e).symm
/-- inner[k] is written -/
theorem ims.nset {i : Nat} (h : ims H F lv r ms mp loc n Iv pr en) (hj : j < n) (hi : i < n) (hrz : r < mu_z H) (h9 : 169 < mu_z H) : ims (mu_sr H (loc (11 + 4 * j)) k (some (loc (9 + 4 * i)))) F lv r ms mp loc n (iup Iv j ((Iv j).1, (Iv j).2.1, (Iv j).2.2.1, fup (Iv j).2.2.2.1 k (some i), (Iv j).2.2.2.2)) pr en := by
  have hd := h.dif hj
  refine h.insw (s := 11 + 4 * j) hj (by omega) (kep.rf.sr (Or.inl rfl)) hrz h9 ?_
  obtain ⟨k1, ⟨k2, k3⟩, k4, ⟨k5, k6, k7⟩, k8, ⟨k11, k12, k13⟩, k14⟩ := h.2.2.2.2.1 j hj
  have er : ∀ y, mu_r (mu_sr H (loc (11 + 4 * j)) k (some (loc (9 + 4 * i)))) (loc (9 + 4 * j)) y = mu_r H (loc (9 + 4 * j)) y := fun y => by rw [mu_r_sr, if_neg (fun z => hd.2.1 z.1)]
  refine ⟨k1, ⟨k2, ?_⟩, k4, ⟨(er 3).trans k5, (er 4).trans k6, (er 5).trans k7⟩, k8, ⟨k11, k12, fun y hy => ?_⟩, k14⟩
  · rw [er, mu_r_sr, if_neg (fun z => hd.2.2.2.2.2.2.2 z.1)]; exact k3
  · rw [mu_r_sr]
    by_cases e : y = k
    · rw [if_pos ⟨rfl, e⟩]
      have e2 : fup (Iv j).2.2.2.1 k (some i) y = some i := if_pos e
      exact ⟨by dsimp only; rw [e2]; rfl, fun i' hi' => by dsimp only at hi'; rw [e2] at hi'; cases hi'; exact hi⟩
    · rw [if_neg (fun z => e z.2)]
      have e2 : fup (Iv j).2.2.2.1 k (some i) y = (Iv j).2.2.2.1 y := if_neg e
      exact ⟨by dsimp only; rw [e2]; exact (k13 y hy).1, fun i' hi' => by dsimp only at hi'; rw [e2] at hi'; exact (k13 y hy).2 i' hi'⟩
/-- firstGiven is written -/
theorem ims.gset {v : Nat} (h : ims H F lv r ms mp loc n Iv pr en) (hj : j < n) (hrz : r < mu_z H) (h9 : 169 < mu_z H) : ims (mu_si H (loc (9 + 4 * j)) 2 (nI v)) F lv r ms mp loc n (iup Iv j ((Iv j).1, v, (Iv j).2.2)) pr en := by
  have hd := h.dif hj
  refine h.insw (s := 9 + 4 * j) hj (by omega) (kep.rf.si (Or.inl rfl)) hrz h9 ?_
  obtain ⟨k1, k2, k4, k5, ⟨k8, k9, k10⟩, k11, ⟨k14, k15, k16⟩⟩ := h.2.2.2.2.1 j hj
  refine ⟨k1, k2, ?_, k5, ⟨k8, k9, fun i hi => ?_⟩, k11, ⟨k14, k15, fun i hi => ?_⟩⟩
  · rw [mu_i_si, if_pos ⟨rfl, rfl⟩]
  · rw [mu_i_si, if_neg (fun z => hd.1 z.1.symm)]; exact k10 i hi
  · rw [mu_i_si, if_neg (fun z => hd.2.2.1 z.1.symm)]; exact k16 i hi
/-- four more slots -/
def lux (loc : Nat → Nat) (n z : Nat) : Nat → Nat := fun a => if a < 9 + 4 * n then loc a else z + (a - (9 + 4 * n))
theorem lux_lo {z : Nat} (h : a < 9 + 4 * n) : lux loc n z a = loc a := if_pos h
theorem lux_hi {z : Nat} {c : Nat} : lux loc n z (9 + 4 * n + c) = z + c := by
  unfold lux
  rw [if_neg (by omega)]
  omega
/-- an INSTANCE is made: its cells lie at z, z + 1, z + 2, z + 3; it is counted -/
theorem ims.newi {z mi : Nat} (h : ims H F lv r ms mp loc n Iv pr en) (hn : n < 200) (hrz : r < mu_z H) (h9 : 200 < mu_z H) (hk : kep (fun _ => False) a b H H1) (hz : z = mu_z H ∧ mu_z H1 = z + 4 ∧ z + 4 ≤ 1000000) (hok : ∀ c, c < 4 → ¬ F (z + c) ∧ mu_r H 169 13 ≠ some (z + c) ∧ mu_r H 169 16 ≠ some (z + c)) (hmi : mi < ms.length) (h15 : mu_is H1 (some z) 15) (h0 : mu_r H1 z 0 = mu_r H1 r mi) (hf : mu_r H1 z 3 = some (z + 1) ∧ mu_r H1 z 4 = some (z + 2) ∧ mu_r H1 z 5 = some (z + 3)) (h2 : mu_i H1 z 2 = nI 0) (hv : mu_is H1 (some (z + 1)) 100 ∧ mu_n H1 (z + 1) = (mth ms mi).2.2.length ∧ ∀ k, mu_i H1 (z + 1) k = 0) (hi : mu_is H1 (some (z + 2)) 110 ∧ mu_n H1 (z + 2) = (mth ms mi).2.2.length ∧ ∀ k, mu_r H1 (z + 2) k = none) (hd : mu_is H1 (some (z + 3)) 100 ∧ mu_n H1 (z + 3) = (mth ms mi).2.2.length ∧ ∀ k, mu_i H1 (z + 3) k = 0) : ims (mu_sr (mu_si H1 mp 1 (nI (n + 1))) (loc 0) n (some z)) F lv r ms mp (lux loc n z) (n + 1) (iup Iv n (mi, 0, (fun _ => 0), (fun _ => none), (fun _ => 0))) pr en := by
  obtain ⟨hz1, hz2, hz3⟩ := hz
  have f1 := h.2.2.2.2.2.1
  have g1 := h.2.2.2.2.2.2
  have ok := h.1.2.1
  have mn : mp ≠ 169 := by have := ok.1.1; omega
  obtain ⟨ok0, nm0⟩ := f1 0 (by omega)
  have l0 : loc 0 ≠ 169 := by have := ok0.1.1; omega
  have k2 : kep (fun p => p = mp ∨ p = loc 0) (a + 0) (b + 0) H (mu_sr (mu_si H1 mp 1 (nI (n + 1))) (loc 0) n (some z)) := ((hk.wk (W' := fun p => p = mp ∨ p = loc 0) (fun _ _ z => z.elim) (Nat.le_refl _) (Nat.le_refl _)).si (Or.inl (Or.inl rfl))).sr (Or.inl (Or.inr rfl))
  have hW : ∀ p, (p = mp ∨ p = loc 0) → okw H F r p := fun p z => by
    rcases z with e | e
    · rw [e]; exact ok
    · rw [e]; exact ok0
  have nm : ∀ s, s < 9 + 4 * n → s ≠ 0 → ¬ (loc s = mp ∨ loc s = loc 0) := fun s hs h1 z => by
    rcases z with e | e
    · exact (f1 s hs).2 e
    · exact h1 (g1 _ _ hs (by omega) e)
  have hlt : ∀ s, s < 9 + 4 * n → loc s < z := fun s hs => by have := (f1 s hs).1.1.2.1; omega
  have q' := h.parts k2 hrz ⟨fun z => absurd (hW _ z).1.1 (by decide), by omega⟩ (fun p z => ⟨(hW p z).2.1, (hW p z).1.2.2, (hW p z).2.2.2.2⟩)
  obtain ⟨q1, q2, q3, q4, q5, q6⟩ := q'
  obtain ⟨⟨a1, a2, a3⟩, ⟨b1, b2, b3⟩, ⟨c1, c2, c3, c4⟩, d1, e1, _, _⟩ := h
  have hmz : mp < mu_z H := a1.2.1
  have h0z : loc 0 < mu_z H := c1.2.1
  have em : ∀ j, mu_r (mu_sr (mu_si H1 mp 1 (nI (n + 1))) (loc 0) n (some z)) mp j = mu_r H mp j := fun j => by
    rw [mu_r_sr, if_neg (fun y => nm0 y.1.symm)]
    exact hk.r (Or.inl hmz) id j
  have ei : ∀ j, j ≠ 1 → mu_i (mu_sr (mu_si H1 mp 1 (nI (n + 1))) (loc 0) n (some z)) mp j = mu_i H mp j := fun j hj => by
    show mu_i (mu_si H1 mp 1 (nI (n + 1))) mp j = _
    rw [mu_i_si, if_neg (fun y => hj y.2)]
    exact hk.i (Or.inl hmz) id j
  have e9 : ∀ y, mu_r (mu_sr (mu_si H1 mp 1 (nI (n + 1))) (loc 0) n (some z)) 169 y = mu_r H 169 y := fun y => by
    rw [mu_r_sr, if_neg (fun w => l0 w.1.symm)]
    exact hk.r (Or.inl (by omega)) id y
  have cg : ∀ i, i < n → lux loc n z (9 + 4 * i) = loc (9 + 4 * i) := fun i hi => lux_lo (by omega)
  have lx : ∀ s, s < 9 + 4 * n → lux loc n z s = loc s := fun s hs => lux_lo hs
  have z0 : lux loc n z (9 + 4 * n) = z := lux_hi (c := 0)
  have z1 : lux loc n z (10 + 4 * n) = z + 1 := by rw [show 10 + 4 * n = 9 + 4 * n + 1 by omega]; exact lux_hi
  have z2 : lux loc n z (11 + 4 * n) = z + 2 := by rw [show 11 + 4 * n = 9 + 4 * n + 2 by omega]; exact lux_hi
  have z3 : lux loc n z (12 + 4 * n) = z + 3 := by rw [show 12 + 4 * n = 9 + 4 * n + 3 by omega]; exact lux_hi
  have nr : ∀ y c, mu_r (mu_sr (mu_si H1 mp 1 (nI (n + 1))) (loc 0) n (some z)) (z + c) y = mu_r H1 (z + c) y := fun y c => by
    rw [mu_r_sr, if_neg (fun w => by have := w.1; have := hlt 0 (by omega); omega)]; rfl
  have ni : ∀ y c, mu_i (mu_sr (mu_si H1 mp 1 (nI (n + 1))) (loc 0) n (some z)) (z + c) y = mu_i H1 (z + c) y := fun y c => by
    show mu_i (mu_si H1 mp 1 (nI (n + 1))) (z + c) y = _
    rw [mu_i_si, if_neg (fun w => by have := w.1; omega)]
  have rr : ∀ y, mu_r (mu_sr (mu_si H1 mp 1 (nI (n + 1))) (loc 0) n (some z)) r y = mu_r H1 r y := fun y => by
    rw [mu_r_sr, if_neg (fun w => ok0.2.2.2.2 w.1.symm)]; rfl
  refine ⟨⟨⟨rfl, Nat.lt_of_lt_of_le hmz hk.1, (hk.k (Or.inl hmz) id).trans a1.2.2⟩, q5, q6⟩, ⟨by rw [em, lx 0 (by omega)]; exact b1, ?_, (ei 2 (by decide)).trans b3⟩, ⟨?_, ?_, by omega, fun j hj => ?_⟩, fun k hk4 => ⟨⟨by rw [em, lx _ (by omega)]; exact (d1 k hk4).1.1, by rw [em, lx _ (by omega)]; exact (d1 k hk4).1.2.1, (ei _ (fNI hk4 hk4).2.2.2.1).trans (d1 k hk4).1.2.2⟩, ?_, ?_⟩, fun j hj => ?_, fun s hs => ?_, fun s s' hs hs' e => ?_⟩
  · show mu_i (mu_si H1 mp 1 (nI (n + 1))) mp 1 = _
    rw [mu_i_si, if_pos ⟨rfl, rfl⟩]
  · rw [lx 0 (by omega)]; exact ⟨rfl, Nat.lt_of_lt_of_le h0z hk.1, (hk.k (Or.inl h0z) id).trans c1.2.2⟩
  · rw [lx 0 (by omega)]; exact (hk.len (Or.inl h0z) id).trans c2
  · rw [lx 0 (by omega), mu_r_sr]
    by_cases e : j = n
    · rw [if_pos ⟨rfl, e⟩, e, z0]
    · rw [if_neg (fun w => e w.2), cg j (by omega)]
      exact (hk.r (Or.inl h0z) id j).trans (c4 j (by omega))
  · rw [lx _ (by omega)]; exact (q1 k hk4).1 (nm _ (by omega) (by omega))
  · rw [lx _ (by omega)]
    obtain ⟨w1, w2, w3⟩ := (q1 k hk4).2 (nm _ (by omega) (by omega))
    exact ⟨w1, w2, fun i hi => ⟨by rw [cg _ (w3 i hi).2]; exact (w3 i hi).1, by have := (w3 i hi).2; omega⟩⟩
  · by_cases e : j = n
    · subst e
      rw [show iup Iv j (mi, 0, (fun _ => 0), (fun _ => none), (fun _ => 0)) j = (mi, 0, (fun _ => 0), (fun _ => none), (fun _ => 0)) from if_pos rfl]
      unfold insf
      rw [z0, z1, z2, z3]
      refine ⟨h15, ⟨hmi, ?_⟩, (ni 2 0).trans h2, ⟨(nr 3 0).trans hf.1, (nr 4 0).trans hf.2.1, (nr 5 0).trans hf.2.2⟩, ⟨hv.1, hv.2.1, fun k _ => (ni k 1).trans (hv.2.2 k)⟩, ⟨hi.1, hi.2.1, fun k _ => ⟨(nr k 2).trans (hi.2.2 k), fun i hi => by cases hi⟩⟩, ⟨hd.1, hd.2.1, fun k _ => (ni k 3).trans (hd.2.2 k)⟩⟩
      rw [rr]
      exact (nr 0 0).trans h0
    · have hjn : j < n := by omega
      rw [show iup Iv n (mi, 0, (fun _ => 0), (fun _ => none), (fun _ => 0)) j = Iv j from if_neg e]
      obtain ⟨w1, w2, w4, w5, w8, ⟨w11, w12, w13⟩, w14⟩ := q2 j hjn (nm _ (by omega) (by omega)) (nm _ (by omega) (by omega)) (nm _ (by omega) (by omega)) (nm _ (by omega) (by omega))
      unfold insf
      rw [lx (9 + 4 * j) (by omega), lx (10 + 4 * j) (by omega), lx (11 + 4 * j) (by omega), lx (12 + 4 * j) (by omega)]
      refine ⟨w1, w2, w4, w5, w8, ⟨w11, w12, fun k hk2 => ⟨?_, fun i hi => by have := (w13 k hk2).2 i hi; omega⟩⟩, w14⟩
      rw [(w13 k hk2).1]
      cases hx : (Iv j).2.2.2.1 k with
      | none => rfl
      | some i => show some (loc (9 + 4 * i)) = some (lux loc n z (9 + 4 * i)); rw [cg i ((w13 k hk2).2 i hx)]
  · by_cases e : s < 9 + 4 * n
    · rw [lx s e]; exact q4 s e
    · obtain ⟨c, rfl⟩ : ∃ c, s = 9 + 4 * n + c := ⟨s - (9 + 4 * n), by omega⟩
      rw [lux_hi]
      have hc : c < 4 := by omega
      have hzz : mu_z (mu_sr (mu_si H1 mp 1 (nI (n + 1))) (loc 0) n (some z)) = mu_z H1 := rfl
      exact ⟨⟨⟨by omega, by rw [hzz]; omega, by omega⟩, (hok c hc).1, by rw [e9]; exact (hok c hc).2.1, by rw [e9]; exact (hok c hc).2.2, by omega⟩, by omega⟩
  · by_cases e1 : s < 9 + 4 * n
    · by_cases e2 : s' < 9 + 4 * n
      · rw [lx s e1, lx s' e2] at e; exact g1 s s' e1 e2 e
      · obtain ⟨c, rfl⟩ : ∃ c, s' = 9 + 4 * n + c := ⟨s' - (9 + 4 * n), by omega⟩
        rw [lx s e1, lux_hi] at e
        have := hlt s e1
        omega
    · obtain ⟨c, rfl⟩ : ∃ c, s = 9 + 4 * n + c := ⟨s - (9 + 4 * n), by omega⟩
      by_cases e2 : s' < 9 + 4 * n
      · rw [lx s' e2, lux_hi] at e
        have := hlt s' e2
        omega
      · obtain ⟨c', rfl⟩ : ∃ c, s' = 9 + 4 * n + c := ⟨s' - (9 + 4 * n), by omega⟩
        rw [lux_hi, lux_hi] at e
        omega
end Imi
