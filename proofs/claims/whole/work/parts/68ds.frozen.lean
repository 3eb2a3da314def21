/-! The reference: a MODEL that is done stands still -/
/-- the cells of G and the constants are as they were at Hb, but what is written into a MODEL's cell behind it (6, 16, 17) and the numbers of Nodes that are no numbers -/
def agr (Hb : mu_H) (G : Nat → Prop) (H : mu_H) : Prop := (mu_z Hb ≤ mu_z H ∧ mu_c Hb ≤ mu_c H ∧ mu_s Hb ≤ mu_s H) ∧ (∀ p, 1000000 ≤ p ∨ (G p ∧ mu_k Hb p ≠ 16 ∧ mu_k Hb p ≠ 18) → mu_same Hb H p) ∧ (∀ p, G p → (mu_k H p = mu_k Hb p ∧ mu_n H p = mu_n Hb p) ∧ (∀ j, ¬ (mu_k Hb p = 16 ∧ j = 16) → mu_r H p j = mu_r Hb p j) ∧ ∀ j, ¬ (mu_k Hb p = 16 ∧ (j = 6 ∨ j = 17)) → ¬ (mu_k Hb p = 18 ∧ j = 3 ∧ mu_i Hb p 7 ≠ 1) → mu_i H p j = mu_i Hb p j) ∧ ∀ p, G p → 200 < p ∧ p < mu_z Hb ∧ p < 1000000
section Agr
variable {Hb H H1 : mu_H} {G W : Nat → Prop} {a b p q k d j : Nat} {Fi Fr : List Nat}
theorem agr.rf (hG : ∀ p, G p → 200 < p ∧ p < mu_z Hb ∧ p < 1000000) : agr Hb G Hb := ⟨⟨Nat.le_refl _, Nat.le_refl _, Nat.le_refl _⟩, fun p _ => mu_same.rf Hb p, fun p _ => ⟨⟨rfl, rfl⟩, fun _ _ => rfl, fun _ _ _ => rfl⟩, hG⟩
theorem agr.kp (h : agr Hb G H) (hk : kep W a b H H1) (hW : ∀ p, W p → ¬ G p ∧ p < 1000000) : agr Hb G H1 := by
  obtain ⟨⟨h1, h2, h3⟩, h4, h5, hG⟩ := h
  have sm : ∀ p, 1000000 ≤ p ∨ G p → mu_same H H1 p := fun p hp => hk.2.1 p (hp.elim Or.inr (fun z => Or.inl (Nat.lt_of_lt_of_le (hG p z).2.1 h1))) (fun z => hp.elim (fun y => absurd (hW p z).2 (by omega)) (hW p z).1)
  refine ⟨⟨Nat.le_trans h1 hk.1, Nat.le_trans h2 hk.2.2.2.1, Nat.le_trans h3 hk.2.2.2.2⟩, fun p hp => (h4 p hp).tr (sm p (hp.imp id (fun z => z.1))), fun p hp => ?_, hG⟩
  obtain ⟨⟨k1, k2⟩, k3, k4⟩ := h5 p hp
  have s := sm p (Or.inr hp)
  have si : ∀ j, mu_i H1 p j = mu_i H p j := fun j => Sum.inl.inj (s.2.2 j 0)
  have sr : ∀ j, mu_r H1 p j = mu_r H p j := fun j => Sum.inr.inj (Sum.inr.inj (s.2.2 j 2))
  exact ⟨⟨s.1.trans k1, s.2.1.trans k2⟩, fun j hj => (sr j).trans (k3 j hj), fun j hj hj2 => (si j).trans (k4 j hj hj2)⟩
theorem agr.fr (h : agr Hb G H) (hk : rfr Fi Fr W a b H H1) (hW : ∀ p, W p → ¬ G p ∧ p < 1000000) : agr Hb G H1 := h.kp hk.1 (fun p z => z.elim (fun e => by subst e; exact ⟨fun y => absurd (h.2.2.2 _ y).1 (by decide), by decide⟩) (hW p))
theorem agr.is (h : agr Hb G H) (hp : G p) (hk : mu_is Hb (some p) k) : mu_is H (some p) k := ⟨rfl, Nat.lt_of_lt_of_le hk.2.1 h.1.1, (h.2.2.1 p hp).1.1.trans hk.2.2⟩
theorem agr.n (h : agr Hb G H) (hp : G p) : mu_n H p = mu_n Hb p := (h.2.2.1 p hp).1.2
theorem agr.r (h : agr Hb G H) (hp : G p) (hj : mu_k Hb p = 16 → j ≠ 16) : mu_r H p j = mu_r Hb p j := (h.2.2.1 p hp).2.1 j (fun z => hj z.1 z.2)
theorem agr.i (h : agr Hb G H) (hp : G p) (hj : mu_k Hb p = 16 → j ≠ 6 ∧ j ≠ 17) (h3 : mu_k Hb p = 18 → j = 3 → mu_i Hb p 7 = 1) : mu_i H p j = mu_i Hb p j := (h.2.2.1 p hp).2.2 j (fun z => z.2.elim (hj z.1).1 (hj z.1).2) (fun z => z.2.2 (h3 z.1 z.2.1))
/-- a reference of a cell of a kind that is no MODEL's -/
theorem agr.rk (h : agr Hb G H) (hp : G p) (hi : mu_is Hb (some p) k) (hk : k ≠ 16) (j : Nat) : mu_r H p j = mu_r Hb p j := h.r hp (fun e => absurd (hi.2.2.symm.trans e) hk)
theorem agr.ik (h : agr Hb G H) (hp : G p) (hi : mu_is Hb (some p) k) (hk : k ≠ 16) (j : Nat) (hj : k ≠ 18 ∨ j ≠ 3) : mu_i H p j = mu_i Hb p j := h.i hp (fun e => absurd (hi.2.2.symm.trans e) hk) (fun e e3 => hj.elim (fun z => absurd (hi.2.2.symm.trans e) z) (fun z => absurd e3 z))
theorem agr.kk (h : agr Hb G H) : kep (fun p => p < 1000000 ∧ ¬ (G p ∧ mu_k Hb p ≠ 16 ∧ mu_k Hb p ≠ 18)) (mu_z H + mu_c H + mu_s H) (mu_z H + mu_c H + mu_s H) Hb H := by
  obtain ⟨⟨h1, h2, h3⟩, h4, h5⟩ := h
  refine ⟨h1, fun p _ hw => h4 p ?_, ⟨by omega, by omega, by omega⟩, h2, h3⟩
  by_cases e : 1000000 ≤ p
  · exact Or.inl e
  · exact Or.inr (Classical.byContradiction (fun z => hw ⟨by omega, z⟩))
theorem agr.sf {b : List Int32} (h : agr Hb G H) (hs : stf Hb G q b) : stf H G q b := by
  have hs2 : stf Hb (fun p => G p ∧ mu_k Hb p ≠ 16 ∧ mu_k Hb p ≠ 18) q b := by
    obtain ⟨h1, h2, h0⟩ := hs
    refine ⟨h1, h2.imp id (fun z => ?_), h0⟩
    obtain ⟨z1, w, z2, z3⟩ := z
    have hw : mu_k Hb w = 101 := by
      have y := h1.2.2.1.2.2
      rw [z2] at y
      exact y
    have hq : mu_k Hb q = 19 := by
      rcases h1.1 with y | y
      · exact absurd y.2.1 (Nat.not_le.mpr (h.2.2.2 q z1).2.2)
      · exact y.2.2
    exact ⟨⟨z1, by rw [hq]; decide, by rw [hq]; decide⟩, w, z2, z3, by rw [hw]; decide, by rw [hw]; decide⟩
  exact (hs2.kp h.kk (fun p z => ⟨fun y => z.2 y, z.1⟩)).mono (fun p z => z.1)
theorem agr.nf {o : Option Nat} {ns : List (List Int32)} (h : agr Hb G H) (hs : nmf Hb G o ns) : nmf H G o ns := by
  rcases hs with z | ⟨r, h1, h2, h3, h4, h5, h6⟩
  · exact Or.inl z
  · refine Or.inr ⟨r, h1, h2, h.is h2 h3, (h.n h2).trans h4, h5, fun i hi => ?_⟩
    obtain ⟨s, s1, s2⟩ := h6 i hi
    exact ⟨s, (h.rk h2 h3 (by decide) i).trans s1, h.sf s2⟩
/-- a Node that stands still, read -/
theorem nd.ra {c : Tre} (h : nd Hb G d q c) (ha : agr Hb G H) : tkd c < 79 ∧ (mu_is H (some q) 18 ∧ G q ∧ q < 1000000) ∧ (∃ s, mu_r H q 0 = some s ∧ stf H G s (txt (tkd c))) ∧ (mu_i H q 2 = nI (tsn c) ∧ (tkd c = 63 → mu_i H q 3 = tnu c) ∧ mu_i H q 7 = cof (txt (tkd c))) ∧ nmf H G (mu_r H q 4) (tns c) ∧ ∃ a, mu_r H q 1 = some a ∧ G a ∧ mu_is H (some a) 109 ∧ (tsn c ≤ mu_n H a ∧ mu_n H a ≤ 2 * tsn c + 2 ∧ mu_n H a ≤ 2 ^ 21) ∧ (∀ i, i < tsn c → ∃ y, mu_r H a i = some y ∧ nd Hb G (d - 1) y (tkk c i)) ∧ 0 < d := by
  obtain ⟨k1, ⟨k2, k3, k4⟩, ⟨s, k5, k6⟩, ⟨k7, k8, k9⟩, k10, x, k11, k12, k13, k14, k15, k16⟩ := h.rd
  have cr : ∀ j, mu_r H q j = mu_r Hb q j := ha.rk k3 k2 (by decide)
  have ci : ∀ j, j ≠ 3 → mu_i H q j = mu_i Hb q j := fun j hj => ha.ik k3 k2 (by decide) j (Or.inr hj)
  refine ⟨k1, ⟨ha.is k3 k2, k3, k4⟩, ⟨s, (cr 0).trans k5, ha.sf k6⟩, ⟨(ci 2 (by decide)).trans k7, fun e => ?_, (ci 7 (by decide)).trans k9⟩, by rw [cr 4]; exact ha.nf k10, x, (cr 1).trans k11, k12, ha.is k12 k13, by rw [ha.n k12]; exact k14, fun i hi => ?_, k16⟩
  · refine (ha.i k3 (fun e => absurd (k2.2.2.symm.trans e) (by decide)) (fun _ _ => ?_)).trans k8
    rw [k9, e]; decide
  · obtain ⟨y, y1, y2⟩ := k15 i hi
    exact ⟨y, (ha.rk k12 k13 (by decide) i).trans y1, y2⟩
theorem agr.isL {e j : Nat} {c : Tre} (h : nd Hb G d q c) (ha : agr Hb G H) (hj : j < 79) : mu_TI (mu_D (e + 3)) 518 [.inr (.inr (some q)), .inr (.inr (some (1000000 + j)))] H (fun x H1 => x = (if tkd c = j then 1 else 0) ∧ H1 = H) := by
  obtain ⟨h1, h2, ⟨s, h3, h4⟩, _⟩ := h.ra ha
  refine (nd_isL (d := e) h2.1 h3 h4.1 (Nat.lt_trans h4.2.2 (by decide)) hj).imp (fun x H1 q => ⟨q.1.trans ?_, q.2⟩)
  by_cases e2 : tkd c = j
  · rw [if_pos e2, if_pos (by rw [e2])]
  · rw [if_neg e2, if_neg (fun z => e2 (txt_inj _ h1 _ hj z))]
/-- a Module that stands still, read -/
theorem mdf.ra {lv m : Nat} {y : Mdl} (h : mdf Hb G lv m y) (ha : agr Hb G H) : mu_is H (some m) 17 ∧ (∃ w, mu_r H m 0 = some w ∧ stf H G w y.1) ∧ (∃ p, mu_r H m 1 = some p ∧ nd Hb G lv p (tmk 62 0 [] y.2.1)) ∧ ∃ q, mu_r H m 2 = some q ∧ nd Hb G lv q (tmk 67 0 [] y.2.2) := by
  obtain ⟨w, p, q, ⟨m1, ⟨m2, m3⟩, m4, m5, m6⟩, h2, h3, h4⟩ := h
  have cr : ∀ j, mu_r H m j = mu_r Hb m j := ha.rk m1 m2 (by decide)
  exact ⟨ha.is m1 m2, ⟨w, (cr 0).trans m4, ha.sf h2⟩, ⟨p, (cr 1).trans m5, h3⟩, q, (cr 2).trans m6, h4⟩
end Agr
/-! A MODEL that is done, as one thing: frozen cells, levels, MODULES, the MODEL's cell, its places, the number of INSTANCES, the INSTANCES, the pairs of rows, the symbols, their row -/
abbrev MD := (Nat → Prop) × Nat × List Mdl × Nat × (Nat → Nat) × Nat × (Nat → Ins) × (Nat → List (Tre × Nat)) × List (List Int32) × Nat
def MD.G (D : MD) : Nat → Prop := D.1
def MD.lv (D : MD) : Nat := D.2.1
def MD.ms (D : MD) : List Mdl := D.2.2.1
def MD.mp (D : MD) : Nat := D.2.2.2.1
def MD.loc (D : MD) : Nat → Nat := D.2.2.2.2.1
def MD.n (D : MD) : Nat := D.2.2.2.2.2.1
def MD.Iv (D : MD) : Nat → Ins := D.2.2.2.2.2.2.1
def MD.pr (D : MD) : Nat → List (Tre × Nat) := D.2.2.2.2.2.2.2.1
def MD.sy (D : MD) : List (List Int32) := D.2.2.2.2.2.2.2.2.1
def MD.sr (D : MD) : Nat := D.2.2.2.2.2.2.2.2.2
def MD.ip (D : MD) (j : Nat) : Nat := D.loc (9 + 4 * j)
def MD.iv (D : MD) (j : Nat) : Nat := D.loc (10 + 4 * j)
def MD.ii (D : MD) (j : Nat) : Nat := D.loc (11 + 4 * j)
def MD.dd (D : MD) (j : Nat) : Nat := D.loc (12 + 4 * j)
/-- the MODULE of the INSTANCE j -/
def MD.md (D : MD) (j : Nat) : Mdl := mth D.ms (D.Iv j).1
/-- the INSTANCE j, at Hb -/
def insz (Hb : mu_H) (D : MD) (j : Nat) : Prop := (mu_is Hb (some (D.ip j)) 15 ∧ D.G (D.ip j)) ∧ (∃ m, mu_r Hb (D.ip j) 0 = some m ∧ mdf Hb D.G D.lv m (D.md j)) ∧ mu_i Hb (D.ip j) 2 = nI (D.Iv j).2.1 ∧ (mu_r Hb (D.ip j) 3 = some (D.iv j) ∧ mu_r Hb (D.ip j) 4 = some (D.ii j) ∧ mu_r Hb (D.ip j) 5 = some (D.dd j)) ∧ (D.G (D.iv j) ∧ mu_is Hb (some (D.iv j)) 100 ∧ mu_n Hb (D.iv j) = (D.md j).2.2.length ∧ ∀ k, k < (D.md j).2.2.length → mu_i Hb (D.iv j) k = (D.Iv j).2.2.1 k) ∧ (D.G (D.ii j) ∧ mu_is Hb (some (D.ii j)) 110 ∧ mu_n Hb (D.ii j) = (D.md j).2.2.length ∧ ∀ k, k < (D.md j).2.2.length → mu_r Hb (D.ii j) k = ((D.Iv j).2.2.2.1 k).map D.ip ∧ ∀ i, (D.Iv j).2.2.2.1 k = some i → i < D.n) ∧ (D.G (D.dd j) ∧ mu_is Hb (some (D.dd j)) 100 ∧ mu_n Hb (D.dd j) = (D.md j).2.2.length ∧ ∀ k, k < (D.md j).2.2.length → mu_i Hb (D.dd j) k = (D.Iv j).2.2.2.2 k) ∧ mdw (D.md j) ∧ (D.md j).2.2.length < 2 ^ 31
/-- the MODEL D is done, at Hb -/
def fms (Hb : mu_H) (D : MD) : Prop := ((mu_is Hb (some D.mp) 16 ∧ D.G D.mp) ∧ mu_r Hb D.mp 0 = some (D.loc 0) ∧ mu_i Hb D.mp 1 = nI D.n) ∧ (D.G (D.loc 0) ∧ mu_is Hb (some (D.loc 0)) 110 ∧ mu_n Hb (D.loc 0) = 201 ∧ D.n ≤ 200 ∧ ∀ j, j < D.n → mu_r Hb (D.loc 0) j = some (D.ip j)) ∧ (∀ k, k < 4 → (mu_r Hb D.mp (fN k) = some (D.loc (2 * k + 1)) ∧ mu_r Hb D.mp (fI k) = some (D.loc (2 * k + 2)) ∧ mu_i Hb D.mp (fC k) = nI (D.pr k).length) ∧ (D.G (D.loc (2 * k + 1)) ∧ rwN Hb D.G D.lv (D.loc (2 * k + 1)) (D.pr k)) ∧ D.G (D.loc (2 * k + 2)) ∧ rwI Hb D.loc D.n (D.loc (2 * k + 2)) (D.pr k)) ∧ (∀ j, j < D.n → insz Hb D j) ∧ (D.G D.sr ∧ mu_is Hb (some D.sr) 103 ∧ (D.sy.length ≤ mu_n Hb D.sr ∧ mu_n Hb D.sr < 2 ^ 31) ∧ ∀ i, i < D.sy.length → ∃ s, mu_r Hb D.sr i = some s ∧ stf Hb D.G s (D.sy.getD i [])) ∧ ∀ p, D.G p → 200 < p ∧ p < mu_z Hb ∧ p < 1000000
/-- the MODEL D stands: the reference's own cell at H -/
def rms (Hb : mu_H) (D : MD) (H : mu_H) : Prop := fms Hb D ∧ agr Hb D.G H ∧ (mu_is H (some 169) 1 ∧ mu_r H 169 18 = some D.mp) ∧ mu_r H 169 16 = some D.sr ∧ mu_i H 169 17 = nI D.sy.length
section Rms
variable {Hb H H1 : mu_H} {D : MD} {W : Nat → Prop} {a b j : Nat} {Fi Fr : List Nat}
theorem rms.fr (h : rms Hb D H) (hk : rfr Fi Fr W a b H H1) (hW : ∀ p, W p → ¬ D.G p ∧ p < 1000000) (hi : 17 ∉ Fi) (hr : 18 ∉ Fr ∧ 16 ∉ Fr) : rms Hb D H1 :=
  ⟨h.1, h.2.1.fr hk hW, ⟨⟨rfl, Nat.lt_of_lt_of_le h.2.2.1.1.2.1 hk.1.1, hk.2.2.2.trans h.2.2.1.1.2.2⟩, (hk.2.2.1 18 hr.1).trans h.2.2.1.2⟩, (hk.2.2.1 16 hr.2).trans h.2.2.2.1, (hk.2.1 17 hi).trans h.2.2.2.2⟩
theorem rms.syl (h : rms Hb D H) : syl H D.sy := by
  obtain ⟨h1, h2, h3, h4, h5⟩ := h
  obtain ⟨s1, s2, s3, s4⟩ := h1.2.2.2.2.1
  refine ⟨D.sr, h4, h2.is s1 s2, by rw [h2.n s1]; exact s3, h5, fun i hi => ?_⟩
  obtain ⟨s, k1, k2⟩ := s4 i hi
  exact ⟨s, (h2.rk s1 s2 (by decide) i).trans k1, (h2.sf k2).1, k2.2.2⟩
/-- the INSTANCE j, read -/
theorem rms.ins (h : rms Hb D H) (hj : j < D.n) : mu_is H (some (D.ip j)) 15 ∧ (∃ m, mu_r H (D.ip j) 0 = some m ∧ mdf Hb D.G D.lv m (D.md j)) ∧ mu_i H (D.ip j) 2 = nI (D.Iv j).2.1 ∧ (mu_r H (D.ip j) 3 = some (D.iv j) ∧ mu_r H (D.ip j) 4 = some (D.ii j) ∧ mu_r H (D.ip j) 5 = some (D.dd j)) ∧ (mu_is H (some (D.iv j)) 100 ∧ mu_n H (D.iv j) = (D.md j).2.2.length ∧ ∀ k, k < (D.md j).2.2.length → mu_i H (D.iv j) k = (D.Iv j).2.2.1 k) ∧ (mu_is H (some (D.ii j)) 110 ∧ mu_n H (D.ii j) = (D.md j).2.2.length ∧ ∀ k, k < (D.md j).2.2.length → mu_r H (D.ii j) k = ((D.Iv j).2.2.2.1 k).map D.ip ∧ ∀ i, (D.Iv j).2.2.2.1 k = some i → i < D.n) ∧ (mu_is H (some (D.dd j)) 100 ∧ mu_n H (D.dd j) = (D.md j).2.2.length ∧ ∀ k, k < (D.md j).2.2.length → mu_i H (D.dd j) k = (D.Iv j).2.2.2.2 k) ∧ mdw (D.md j) ∧ (D.md j).2.2.length < 2 ^ 31 := by
  obtain ⟨h1, ha, _⟩ := h
  obtain ⟨⟨i1, i2⟩, i3, i4, ⟨i5, i6, i7⟩, ⟨v0, v1, v2, v3⟩, ⟨n0, n1, n2, n3⟩, ⟨d0, d1, d2, d3⟩, w1, w2⟩ := h1.2.2.2.1 j hj
  have cr : ∀ k, mu_r H (D.ip j) k = mu_r Hb (D.ip j) k := ha.rk i2 i1 (by decide)
  obtain ⟨m, m1, m2⟩ := i3
  exact ⟨ha.is i2 i1, ⟨m, (cr 0).trans m1, m2⟩, (ha.ik i2 i1 (by decide) 2 (Or.inl (by decide))).trans i4, ⟨(cr 3).trans i5, (cr 4).trans i6, (cr 5).trans i7⟩, ⟨ha.is v0 v1, (ha.n v0).trans v2, fun k hk => (ha.ik v0 v1 (by decide) k (Or.inl (by decide))).trans (v3 k hk)⟩, ⟨ha.is n0 n1, (ha.n n0).trans n2, fun k hk => ⟨(ha.rk n0 n1 (by decide) k).trans (n3 k hk).1, (n3 k hk).2⟩⟩, ⟨ha.is d0 d1, (ha.n d0).trans d2, fun k hk => (ha.ik d0 d1 (by decide) k (Or.inl (by decide))).trans (d3 k hk)⟩, w1, w2⟩
/-- the MODEL's cell, read -/
theorem rms.mod (h : rms Hb D H) : mu_is H (some D.mp) 16 ∧ (mu_r H D.mp 0 = some (D.loc 0) ∧ mu_i H D.mp 1 = nI D.n) ∧ (mu_is H (some (D.loc 0)) 110 ∧ mu_n H (D.loc 0) = 201 ∧ D.n ≤ 200 ∧ ∀ j, j < D.n → mu_r H (D.loc 0) j = some (D.ip j)) := by
  obtain ⟨h1, ha, _⟩ := h
  obtain ⟨⟨⟨m1, m2⟩, m3, m4⟩, ⟨l1, l2, l3, l4, l5⟩, _⟩ := h1
  exact ⟨ha.is m2 m1, ⟨(ha.r m2 (fun _ => by decide)).trans m3, (ha.i m2 (fun _ => by decide) (fun _ e => absurd e (by decide))).trans m4⟩, ha.is l1 l2, (ha.n l1).trans l3, l4, fun j hj => (ha.rk l1 l2 (by decide) j).trans (l5 j hj)⟩
/-- a pair of rows of the MODEL, read: a Node and its INSTANCE -/
theorem rms.row (h : rms Hb D H) {k : Nat} (hk : k < 4) : (mu_r H D.mp (fN k) = some (D.loc (2 * k + 1)) ∧ mu_r H D.mp (fI k) = some (D.loc (2 * k + 2)) ∧ mu_i H D.mp (fC k) = nI (D.pr k).length) ∧ (mu_is H (some (D.loc (2 * k + 1))) 109 ∧ ((D.pr k).length ≤ mu_n H (D.loc (2 * k + 1)) ∧ 16 ≤ mu_n H (D.loc (2 * k + 1)) ∧ mu_n H (D.loc (2 * k + 1)) ≤ 2 * (D.pr k).length + 64) ∧ ∀ i, i < (D.pr k).length → ∃ q, mu_r H (D.loc (2 * k + 1)) i = some q ∧ nd Hb D.G D.lv q (pth2 (D.pr k) i).1) ∧ mu_is H (some (D.loc (2 * k + 2))) 110 ∧ ((D.pr k).length ≤ mu_n H (D.loc (2 * k + 2)) ∧ 16 ≤ mu_n H (D.loc (2 * k + 2)) ∧ mu_n H (D.loc (2 * k + 2)) ≤ 2 * (D.pr k).length + 64) ∧ ∀ i, i < (D.pr k).length → mu_r H (D.loc (2 * k + 2)) i = some (D.ip (pth2 (D.pr k) i).2) ∧ (pth2 (D.pr k) i).2 < D.n := by
  obtain ⟨h1, ha, _⟩ := h
  have hm := h1.1.1
  obtain ⟨⟨a1, a2, a3⟩, ⟨b0, b1, b2, b3⟩, c0, c1, c2, c3⟩ := h1.2.2.1 k hk
  have f1 : fN k ≠ 16 ∧ fI k ≠ 16 ∧ (fC k ≠ 6 ∧ fC k ≠ 17) ∧ fC k ≠ 3 := by
    have : k = 0 ∨ k = 1 ∨ k = 2 ∨ k = 3 := by omega
    rcases this with e | e | e | e <;> subst e <;> decide
  refine ⟨⟨(ha.r hm.2 (fun _ => f1.1)).trans a1, (ha.r hm.2 (fun _ => f1.2.1)).trans a2, (ha.i hm.2 (fun _ => f1.2.2.1) (fun _ e => absurd e f1.2.2.2)).trans a3⟩, ⟨ha.is b0 b1, by rw [ha.n b0]; exact b2, fun i hi => ?_⟩, ha.is c0 c1, by rw [ha.n c0]; exact c2, fun i hi => ⟨(ha.rk c0 c1 (by decide) i).trans (c3 i hi).1, (c3 i hi).2⟩⟩
  obtain ⟨q, q1, q2⟩ := b3 i hi
  exact ⟨q, (ha.rk b0 b1 (by decide) i).trans q1, q2⟩
end Rms
