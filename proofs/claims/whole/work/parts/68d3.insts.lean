/-! The reference: INSTANCES on the heap -/
/-- a place that may be written while a MODEL is made -/
def okw (H : mu_H) (F : Nat → Prop) (r p : Nat) : Prop := (200 < p ∧ p < mu_z H ∧ p < 1000000) ∧ ¬ F p ∧ mu_r H 169 13 ≠ some p ∧ mu_r H 169 16 ≠ some p ∧ p ≠ r
/-- what stands while a MODEL is made: the parser's state, the texts, the symbols -/
def gnw (T : Nat → Int32) (n : Nat) (t : Tok) (dep : Nat) (F : Nat → Prop) (lv r : Nat) (ms : List Mdl) (cap : Nat) (sy : List (List Int32)) (H : mu_H) : Prop := pst T n t dep F H ∧ rtx H F lv r ms ∧ syr H F cap sy
section Gnd
variable {T : Nat → Int32} {n dep lv r cap a b p : Nat} {t : Tok} {F W : Nat → Prop} {ms : List Mdl} {sy : List (List Int32)} {H H1 : mu_H}
theorem okw.up (h : okw H F r p) (hz : mu_z H ≤ mu_z H1) (h13 : mu_r H1 169 13 = mu_r H 169 13) (h16 : mu_r H1 169 16 = mu_r H 169 16) : okw H1 F r p := ⟨⟨h.1.1, Nat.lt_of_lt_of_le h.1.2.1 hz, h.1.2.2⟩, h.2.1, by rw [h13]; exact h.2.2.1, by rw [h16]; exact h.2.2.2.1, h.2.2.2.2⟩
theorem gnw.kp (h : gnw T n t dep F lv r ms cap sy H) (hk : kep W a b H H1) (hW : ∀ p, W p → okw H F r p) : gnw T n t dep F lv r ms cap sy H1 := by
  obtain ⟨h1, h2, h3⟩ := h
  have n9 : ¬ W 169 := fun z => absurd (hW _ z).1.1 (by decide)
  exact ⟨h1.kp hk (fun p z => ⟨(hW p z).2.1, (hW p z).1.1, (hW p z).1.2.2, (hW p z).2.2.1⟩), h2.kp hk (fun p z => ⟨(hW p z).2.1, (hW p z).1.2.2⟩) n9 (fun z => (hW _ z).2.2.2.2 rfl), h3.kp hk (fun p z => ⟨(hW p z).2.1, (hW p z).1.1, (hW p z).1.2.2⟩) (fun p z => (hW p z).2.2.2.1) (Nat.lt_trans (by decide) h1.1.1)⟩
theorem gnw.new (h : gnw T n t dep F lv r ms cap sy H) (hz : mu_z H < 1000000) : 200 < mu_z H ∧ ¬ F (mu_z H) ∧ mu_r H 169 13 ≠ some (mu_z H) ∧ mu_r H 169 16 ≠ some (mu_z H) ∧ mu_z H ≠ r := by
  obtain ⟨h1, h2, h3⟩ := h
  refine ⟨h1.1.1, fun z => by have := (h1.fz _ z).2.1.1; omega, fun e => ?_, fun e => ?_, fun e => ?_⟩
  · obtain ⟨q, q1, ⟨q2, _⟩, _⟩ := h1.2.2.2.2.2
    rw [q1] at e; cases e; omega
  · obtain ⟨q, q1, ⟨_, q2, _⟩, _⟩ := h3
    rw [q1] at e; cases e; omega
  · have : r < mu_z H := h2.2.1.2.1
    omega
end Gnd
/-- an INSTANCE: module, first given, variables, inner INSTANCES, definitions -/
abbrev Ins := Nat × Nat × (Nat → Int32) × (Nat → Option Nat) × (Nat → Int32)
def fN (k : Nat) : Nat := [7, 4, 10, 13].getD k 0
def fI (k : Nat) : Nat := [8, 3, 11, 14].getD k 0
def fC (k : Nat) : Nat := [9, 5, 12, 15].getD k 0
abbrev pth2 (L : List (Tre × Nat)) (i : Nat) : Tre × Nat := L.getD i ((fun _ => none), 0)
/-- a row of Nodes -/
def rwN (H : mu_H) (F : Nat → Prop) (lv p : Nat) (L : List (Tre × Nat)) : Prop := mu_is H (some p) 109 ∧ (L.length ≤ mu_n H p ∧ 16 ≤ mu_n H p ∧ mu_n H p ≤ 2 * L.length + 64) ∧ ∀ i, i < L.length → ∃ q, mu_r H p i = some q ∧ nd H F lv q (pth2 L i).1
/-- a row of INSTANCES -/
def rwI (H : mu_H) (loc : Nat → Nat) (n p : Nat) (L : List (Tre × Nat)) : Prop := mu_is H (some p) 110 ∧ (L.length ≤ mu_n H p ∧ 16 ≤ mu_n H p ∧ mu_n H p ≤ 2 * L.length + 64) ∧ ∀ i, i < L.length → mu_r H p i = some (loc (9 + 4 * (pth2 L i).2)) ∧ (pth2 L i).2 < n
/-- the INSTANCE j lies at loc (9 + 4 j) and behind -/
def insf (H : mu_H) (r : Nat) (ms : List Mdl) (loc : Nat → Nat) (n j : Nat) (x : Ins) : Prop := mu_is H (some (loc (9 + 4 * j))) 15 ∧ (x.1 < ms.length ∧ mu_r H (loc (9 + 4 * j)) 0 = mu_r H r x.1) ∧ mu_i H (loc (9 + 4 * j)) 2 = nI x.2.1 ∧ (mu_r H (loc (9 + 4 * j)) 3 = some (loc (10 + 4 * j)) ∧ mu_r H (loc (9 + 4 * j)) 4 = some (loc (11 + 4 * j)) ∧ mu_r H (loc (9 + 4 * j)) 5 = some (loc (12 + 4 * j))) ∧ (mu_is H (some (loc (10 + 4 * j))) 100 ∧ mu_n H (loc (10 + 4 * j)) = (mth ms x.1).2.2.length ∧ ∀ k, k < (mth ms x.1).2.2.length → mu_i H (loc (10 + 4 * j)) k = x.2.2.1 k) ∧ (mu_is H (some (loc (11 + 4 * j))) 110 ∧ mu_n H (loc (11 + 4 * j)) = (mth ms x.1).2.2.length ∧ ∀ k, k < (mth ms x.1).2.2.length → mu_r H (loc (11 + 4 * j)) k = (x.2.2.2.1 k).map (fun i => loc (9 + 4 * i)) ∧ ∀ i, x.2.2.2.1 k = some i → i < n) ∧ (mu_is H (some (loc (12 + 4 * j))) 100 ∧ mu_n H (loc (12 + 4 * j)) = (mth ms x.1).2.2.length ∧ ∀ k, k < (mth ms x.1).2.2.length → mu_i H (loc (12 + 4 * j)) k = x.2.2.2.2 k)
/-- the MODEL that is being made, at mp -/
def ims (H : mu_H) (F : Nat → Prop) (lv r : Nat) (ms : List Mdl) (mp : Nat) (loc : Nat → Nat) (n : Nat) (Iv : Nat → Ins) (pr : Nat → List (Tre × Nat)) (en : Nat) : Prop :=
  (mu_is H (some mp) 16 ∧ okw H F r mp ∧ mu_r H 169 18 = some mp) ∧ (mu_r H mp 0 = some (loc 0) ∧ mu_i H mp 1 = nI n ∧ mu_i H mp 2 = nI en) ∧
  (mu_is H (some (loc 0)) 110 ∧ mu_n H (loc 0) = 201 ∧ n ≤ 200 ∧ ∀ j, j < n → mu_r H (loc 0) j = some (loc (9 + 4 * j))) ∧
  (∀ k, k < 4 → (mu_r H mp (fN k) = some (loc (2 * k + 1)) ∧ mu_r H mp (fI k) = some (loc (2 * k + 2)) ∧ mu_i H mp (fC k) = nI (pr k).length) ∧ rwN H F lv (loc (2 * k + 1)) (pr k) ∧ rwI H loc n (loc (2 * k + 2)) (pr k)) ∧
  (∀ j, j < n → insf H r ms loc n j (Iv j)) ∧
  (∀ a, a < 9 + 4 * n → okw H F r (loc a) ∧ loc a ≠ mp) ∧ ∀ a b, a < 9 + 4 * n → b < 9 + 4 * n → loc a = loc b → a = b
section Ims
variable {H H1 : mu_H} {F W : Nat → Prop} {lv r mp n en a b p : Nat} {ms : List Mdl} {loc : Nat → Nat} {Iv : Nat → Ins} {pr : Nat → List (Tre × Nat)} {L : List (Tre × Nat)}
theorem rwN.kp (h : rwN H F lv p L) (hk : kep W a b H H1) (hW : ∀ p, W p → ¬ F p ∧ p < 1000000) (hp : ¬ W p) : rwN H1 F lv p L := by
  obtain ⟨h1, h2, h3⟩ := h
  refine ⟨hk.is h1 hp, by rw [hk.len (p := p) (Or.inl h1.2.1) hp]; exact h2, fun i hi => ?_⟩
  obtain ⟨q, q1, q2⟩ := h3 i hi
  exact ⟨q, (hk.r (p := p) (Or.inl h1.2.1) hp i).trans q1, q2.kp hk hW⟩
theorem rwI.kp (h : rwI H loc n p L) (hk : kep W a b H H1) (hp : ¬ W p) : rwI H1 loc n p L := by
  obtain ⟨h1, h2, h3⟩ := h
  exact ⟨hk.is h1 hp, by rw [hk.len (p := p) (Or.inl h1.2.1) hp]; exact h2, fun i hi => ⟨(hk.r (p := p) (Or.inl h1.2.1) hp i).trans (h3 i hi).1, (h3 i hi).2⟩⟩
theorem insf.kp {j : Nat} {x : Ins} (h : insf H r ms loc n j x) (hk : kep W a b H H1) (hr : ¬ W r) (hrz : r < mu_z H) (h0 : ¬ W (loc (9 + 4 * j))) (h1 : ¬ W (loc (10 + 4 * j))) (h2 : ¬ W (loc (11 + 4 * j))) (h3 : ¬ W (loc (12 + 4 * j))) : insf H1 r ms loc n j x := by
  obtain ⟨k1, ⟨k2, k3⟩, k4, ⟨k5, k6, k7⟩, ⟨k8, k9, k10⟩, ⟨k11, k12, k13⟩, ⟨k14, k15, k16⟩⟩ := h
  exact ⟨hk.is k1 h0, ⟨k2, by rw [hk.r (p := loc (9 + 4 * j)) (Or.inl k1.2.1) h0 0, hk.r (p := r) (Or.inl hrz) hr]; exact k3⟩, (hk.i (p := loc (9 + 4 * j)) (Or.inl k1.2.1) h0 2).trans k4, ⟨(hk.r (p := loc (9 + 4 * j)) (Or.inl k1.2.1) h0 3).trans k5, (hk.r (p := loc (9 + 4 * j)) (Or.inl k1.2.1) h0 4).trans k6, (hk.r (p := loc (9 + 4 * j)) (Or.inl k1.2.1) h0 5).trans k7⟩, ⟨hk.is k8 h1, (hk.len (p := loc (10 + 4 * j)) (Or.inl k8.2.1) h1).trans k9, fun k hk2 => (hk.i (p := loc (10 + 4 * j)) (Or.inl k8.2.1) h1 k).trans (k10 k hk2)⟩, ⟨hk.is k11 h2, (hk.len (p := loc (11 + 4 * j)) (Or.inl k11.2.1) h2).trans k12, fun k hk2 => ⟨(hk.r (p := loc (11 + 4 * j)) (Or.inl k11.2.1) h2 k).trans (k13 k hk2).1, (k13 k hk2).2⟩⟩, ⟨hk.is k14 h3, (hk.len (p := loc (12 + 4 * j)) (Or.inl k14.2.1) h3).trans k15, fun k hk2 => (hk.i (p := loc (12 + 4 * j)) (Or.inl k14.2.1) h3 k).trans (k16 k hk2)⟩⟩
/-- what keeps all of it but what lies at a set of slots -/
theorem ims.parts (h : ims H F lv r ms mp loc n Iv pr en) (hk : kep W a b H H1) (hrz : r < mu_z H) (h9 : ¬ W 169 ∧ 169 < mu_z H) (hW : ∀ p, W p → ¬ F p ∧ p < 1000000 ∧ p ≠ r) : (∀ k, k < 4 → (¬ W (loc (2 * k + 1)) → rwN H1 F lv (loc (2 * k + 1)) (pr k)) ∧ (¬ W (loc (2 * k + 2)) → rwI H1 loc n (loc (2 * k + 2)) (pr k))) ∧ (∀ j, j < n → ¬ W (loc (9 + 4 * j)) → ¬ W (loc (10 + 4 * j)) → ¬ W (loc (11 + 4 * j)) → ¬ W (loc (12 + 4 * j)) → insf H1 r ms loc n j (Iv j)) ∧ (¬ W (loc 0) → (mu_is H1 (some (loc 0)) 110 ∧ mu_n H1 (loc 0) = 201 ∧ n ≤ 200 ∧ ∀ j, j < n → mu_r H1 (loc 0) j = some (loc (9 + 4 * j)))) ∧ (∀ a, a < 9 + 4 * n → okw H1 F r (loc a) ∧ loc a ≠ mp) ∧ okw H1 F r mp ∧ mu_r H1 169 18 = some mp := by
  obtain ⟨⟨a1, a2, a3⟩, b1, ⟨c1, c2, c3, c4⟩, d1, e1, f1, g1⟩ := h
  have nr : ¬ W r := fun z => (hW _ z).2.2 rfl
  have ok : ∀ q, okw H F r q → okw H1 F r q := fun q z => z.up hk.1 (hk.r (Or.inl h9.2) h9.1 13) (hk.r (Or.inl h9.2) h9.1 16)
  refine ⟨fun k hk4 => ⟨fun z => (d1 k hk4).2.1.kp hk (fun p w => ⟨(hW p w).1, (hW p w).2.1⟩) z, fun z => (d1 k hk4).2.2.kp hk z⟩, fun j hj z0 z1 z2 z3 => (e1 j hj).kp hk nr hrz z0 z1 z2 z3, fun z => ⟨hk.is c1 z, (hk.len (p := loc 0) (Or.inl c1.2.1) z).trans c2, c3, fun j hj => (hk.r (p := loc 0) (Or.inl c1.2.1) z j).trans (c4 j hj)⟩, fun a ha => ⟨ok _ (f1 a ha).1, (f1 a ha).2⟩, ok _ a2, (hk.r (Or.inl h9.2) h9.1 18).trans a3⟩
/-- a number of the MODEL is written: entries -/
theorem ims.ent {en' : Nat} (h : ims H F lv r ms mp loc n Iv pr en) (hrz : r < mu_z H) (h9 : 169 < mu_z H) : ims (mu_si H mp 2 (nI en')) F lv r ms mp loc n Iv pr en' := by
  have hk : kep (fun p => p = mp) 0 0 H (mu_si H mp 2 (nI en')) := kep.rf.si (Or.inl rfl)
  have ok := h.1.2.1
  have nm : ∀ a, a < 9 + 4 * n → ¬ (loc a = mp) := fun a ha => (h.2.2.2.2.2.1 a ha).2
  have q := h.parts hk hrz ⟨fun e => by have e : 169 = mp := e; have := ok.1.1; omega, h9⟩ (fun p e => by subst e; exact ⟨ok.2.1, ok.1.2.2, ok.2.2.2.2⟩)
  obtain ⟨q1, q2, q3, q4, q5, q6⟩ := q
  obtain ⟨⟨a1, a2, a3⟩, ⟨b1, b2, b3⟩, c, d1, e1, f1, g1⟩ := h
  refine ⟨⟨a1, q5, q6⟩, ⟨b1, ?_, ?_⟩, q3 (nm 0 (by omega)), fun k hk4 => ⟨⟨(d1 k hk4).1.1, (d1 k hk4).1.2.1, ?_⟩, (q1 k hk4).1 (nm _ (by omega)), (q1 k hk4).2 (nm _ (by omega))⟩, fun j hj => q2 j hj (nm _ (by omega)) (nm _ (by omega)) (nm _ (by omega)) (nm _ (by omega)), q4, g1⟩
  · rw [mu_i_si, if_neg (fun z => absurd z.2 (by decide))]; exact b2
  · rw [mu_i_si, if_pos ⟨rfl, rfl⟩]
  · rw [mu_i_si, if_neg (fun z => ?_)]
    · exact (d1 k hk4).1.2.2
    · have hc : k = 0 ∨ k = 1 ∨ k = 2 ∨ k = 3 := by omega
      rcases hc with rfl | rfl | rfl | rfl <;> exact absurd z.2 (by decide)
end Ims
