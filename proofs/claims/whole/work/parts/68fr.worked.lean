/-! While a formula is worked off -/
/-- k0 rows lent and m0 made at its begin (the heap H0), k lent and m made now; what it tells goes into ro -/
def nst (tr : Prop) (Hb : mu_H) (D : MD) (ph pt pk pa mm st k0 m0 : Nat) (rr0 : Nat → Nat × Nat) (ro : Nat) (H0 : mu_H) (k m : Nat) (rr : Nat → Nat × Nat) (H : mu_H) : Prop :=
  (sst tr Hb D ph pt pk pa mm st H ∧ gos D st H ∧ rwv D ph pt pk st H k m rr) ∧ lnt D ph pt pk pa mm st k0 m0 rr0 (fun p => p = ro) H0 m rr H ∧ (∀ i, k0 ≤ i → i < m → ro ≠ (rr i).2) ∧ mu_z H + 3 * (512 - m) + 3 ≤ 1000000 ∧ k0 ≤ k ∧ ro < mu_z H
/-- what may be written: ro, or a row that is lent -/
def wok (k0 k : Nat) (rr : Nat → Nat × Nat) (ro r : Nat) : Prop := r = ro ∨ ∃ i, k0 ≤ i ∧ i < k ∧ r = (rr i).2
/-- what a step leaves -/
def npo (tr : Prop) (Hb : mu_H) (D : MD) (ph pt pk pa mm st k0 m0 : Nat) (rr0 : Nat → Nat × Nat) (ro : Nat) (H0 : mu_H) (k m : Nat) (rr : Nat → Nat × Nat) (H : mu_H) (H1 : mu_H) : Prop :=
  ∃ m1 rr1, nst tr Hb D ph pt pk pa mm st k0 m0 rr0 ro H0 k m1 rr1 H1 ∧ (∀ i, i < m → rr1 i = rr i) ∧ m ≤ m1 ∧ ∀ q r, btk D ph pt pk st H q r → btk D ph pt pk st H1 q r
section Nst
variable {tr : Prop} {Hb H H0 H1 : mu_H} {D : MD} {ph pt pk pa mm st k0 m0 k m k2 k' m1 ro r q : Nat} {rr0 rr rr1 : Nat → Nat × Nat} {R : Nat → Prop}
theorem rwv.m512 (h : rwv D ph pt pk st H k m rr) : k ≤ m ∧ m ≤ 512 := by
  obtain ⟨_, _, w, _, _⟩ := h
  exact ⟨w.2.2.1.1, Nat.le_trans w.2.2.1.2.1 w.2.2.1.2.2.1⟩
theorem nst.first (h1 : sst tr Hb D ph pt pk pa mm st H) (h2 : gos D st H) (h3 : rwv D ph pt pk st H k m rr) (hq : btk D ph pt pk st H q ro) (ho : ∀ i, k ≤ i → i < m → ro ≠ (rr i).2) (hz : mu_z H + 3 * (512 - m) + 3 ≤ 1000000) : nst tr Hb D ph pt pk pa mm st k m rr ro H k m rr H :=
  ⟨⟨h1, h2, h3⟩, lnt.rf, ho, hz, Nat.le_refl _, hq.1.2.2.1.2.1⟩
theorem nst.sub (h : nst tr Hb D ph pt pk pa mm st k0 m0 rr0 ro H0 k m rr H) (h1 : sst tr Hb D ph pt pk pa mm st H1) (h2 : gos D st H1) (h3 : rwv D ph pt pk st H1 k' m1 rr1) (t : lnt D ph pt pk pa mm st k2 m rr R H m1 rr1 H1) (hk : k0 ≤ k2) (hk' : k0 ≤ k') (hR : ∀ p, R p → p = ro ∨ ∃ i, k0 ≤ i ∧ i < m ∧ p = (rr i).2) : nst tr Hb D ph pt pk pa mm st k0 m0 rr0 ro H0 k' m1 rr1 H1 := by
  obtain ⟨⟨a1, a2, a3⟩, a4, a5, a6, a7, a8⟩ := h
  have z1 := t.2.2.1.1.2.2.1.1
  have z2 := t.2.2.1.1.1
  have m2 := h3.m512
  have m3 := t.1.1
  refine ⟨⟨h1, h2, h3⟩, lnt.tr2 a4 t hk hR (fun i hi => a3.lt i hi), fun i i1 i2 e => ?_, by omega, hk', by omega⟩
  by_cases c : i < m
  · rw [t.1.2.1 i c] at e
    exact a5 i i1 c e
  · have := t.1.2.2 i (by omega) i2
    omega
theorem nst.z (h : nst tr Hb D ph pt pk pa mm st k0 m0 rr0 ro H0 k m rr H) (h1 : sst tr Hb D ph pt pk pa mm st H1) (h2 : gos D st H1) (hf : zfr D ph pt pk pa mm st (fun p => p = r) H H1) (hq : btk D ph pt pk st H q r) (hw : wok k0 k rr ro r) : nst tr Hb D ph pt pk pa mm st k0 m0 rr0 ro H0 k m rr H1 := by
  have hm := h.1.2.2.m512
  refine h.sub h1 h2 (h.1.2.2.zf hf h.1.1 (fun p e => by rw [e]; exact hq.1.2.2.1.2.2)) (zfr.lnt (k := k0) hf) (Nat.le_refl _) h.2.2.2.2.1 (fun p e => ?_)
  rcases hw with e2 | ⟨i, i1, i2, e2⟩
  · exact Or.inl (e.trans e2)
  · exact Or.inr ⟨i, i1, by omega, e.trans e2⟩
theorem nst.dec (h : nst tr Hb D ph pt pk pa mm st k0 m0 rr0 ro H0 (k + 1) m rr H) (hk : k0 ≤ k) : nst tr Hb D ph pt pk pa mm st k0 m0 rr0 ro H0 k m rr (mu_si H 169 52 (nI k)) ∧ ∀ q r, btk D ph pt pk st H q r → btk D ph pt pk st (mu_si H 169 52 (nI k)) q r := by
  obtain ⟨s1, g1, w1, t1⟩ := rwv.dec (R := fun _ => False) h.1.2.2 h.1.1 h.1.2.1
  exact ⟨h.sub s1 g1 w1 t1 hk hk (fun _ z => z.elim), t1.2.2.2.2⟩
theorem nst.dec2 (h : nst tr Hb D ph pt pk pa mm st k0 m0 rr0 ro H0 (k + 1 + 1) m rr H) (hk : k0 ≤ k) : nst tr Hb D ph pt pk pa mm st k0 m0 rr0 ro H0 k m rr (mu_si H 169 52 (nI k)) ∧ ∀ q r, btk D ph pt pk st H q r → btk D ph pt pk st (mu_si H 169 52 (nI k)) q r := by
  obtain ⟨a1, a2⟩ := h.dec (by omega)
  obtain ⟨b1, b2⟩ := a1.dec hk
  rw [mu_si_si] at b1 b2
  exact ⟨b1, fun q r z => b2 q r (a2 q r z)⟩
theorem nst.i52 (h : nst tr Hb D ph pt pk pa mm st k0 m0 rr0 ro H0 k m rr H) : mu_i H 169 52 = nI k := by
  obtain ⟨_, _, w, _, _⟩ := h.1.2.2
  exact w.2.1
theorem nst.apart (h : nst tr Hb D ph pt pk pa mm st k0 m0 rr0 ro H0 k m rr H) (hw : wok k0 k rr ro r) : ∀ i, k ≤ i → i < m → r ≠ (rr i).2 := by
  intro i i1 i2
  have hm := h.1.2.2.m512
  have h7 := h.2.2.2.2.1
  rcases hw with e | ⟨i', j1, j2, e⟩
  · rw [e]; exact h.2.2.1 i (by omega) i2
  · rw [e]; exact h.1.2.2.ne i' i (by omega) i2 (by omega)
theorem nst.room (h : nst tr Hb D ph pt pk pa mm st k0 m0 rr0 ro H0 k m rr H) : mu_z H + 3 ≤ 1000000 := by
  have := h.2.2.2.1
  omega
theorem nst.call {run : Nat → List ev_V → List ev_C → Option ev_R} {M : Nat} {as : List mu_V} (h : nst tr Hb D ph pt pk pa mm st k0 m0 rr0 ro H0 k m rr H) (hw : wok k0 k rr ro r) (T : mu_TV run M as H (fun H1 => ∃ m1 rr1, sst tr Hb D ph pt pk pa mm st H1 ∧ gos D st H1 ∧ rwv D ph pt pk st H1 k m1 rr1 ∧ lnt D ph pt pk pa mm st k m rr (fun p => p = r) H m1 rr1 H1)) : mu_TV run M as H (fun H1 => npo tr Hb D ph pt pk pa mm st k0 m0 rr0 ro H0 k m rr H H1) := by
  refine mu_MT.imp T (fun r0 h0 => ?_)
  obtain ⟨H1, er, m1, rr1, h1, h2, h3, t⟩ := h0
  have hm := h.1.2.2.m512
  refine ⟨H1, er, m1, rr1, h.sub h1 h2 h3 t h.2.2.2.2.1 h.2.2.2.2.1 (fun p e => ?_), t.1.2.1, t.1.1, t.2.2.2.2⟩
  rcases hw with e2 | ⟨i, i1, i2, e2⟩
  · exact Or.inl (e.trans e2)
  · exact Or.inr ⟨i, i1, by omega, e.trans e2⟩
theorem nst.zcall {run : Nat → List ev_V → List ev_C → Option ev_R} {M : Nat} {as : List mu_V} (h : nst tr Hb D ph pt pk pa mm st k0 m0 rr0 ro H0 k m rr H) (hq : btk D ph pt pk st H q r) (hw : wok k0 k rr ro r) (T : mu_TV run M as H (fun H1 => sst tr Hb D ph pt pk pa mm st H1 ∧ gos D st H1 ∧ zfr D ph pt pk pa mm st (fun p => p = r) H H1)) : mu_TV run M as H (fun H1 => npo tr Hb D ph pt pk pa mm st k0 m0 rr0 ro H0 k m rr H H1) := by
  refine mu_MT.imp T (fun r0 h0 => ?_)
  obtain ⟨H1, er, h1, h2, hf⟩ := h0
  exact ⟨H1, er, m, rr, h.z h1 h2 hf hq hw, fun _ _ => rfl, Nat.le_refl _, hf.2.2.1⟩
theorem rp_rowN {d : Nat} (h : nst tr Hb D ph pt pk pa mm st k0 m0 rr0 ro H0 k m rr H) (hk : k ≤ 256) : mu_TA (mu_D (d + 2)) 406 [.inr (.inr (some 169))] H (fun y H1 => ∃ m1 rr1 q r, y = some q ∧ (rr1 k = (q, r) ∧ k < m1) ∧ btk D ph pt pk st H1 q r ∧ nst tr Hb D ph pt pk pa mm st k0 m0 rr0 ro H0 (k + 1) m1 rr1 H1 ∧ (∀ i, i < m → rr1 i = rr i) ∧ m ≤ m1 ∧ ∀ q r, btk D ph pt pk st H q r → btk D ph pt pk st H1 q r) := by
  refine mu_MT.imp (rp_rowL (R := fun _ => False) h.1.1 h.1.2.1 h.1.2.2 hk h.room) (fun r0 h0 => ?_)
  obtain ⟨y, H1, er, m1, rr1, e1, h1, h2, h3, h4, t, b⟩ := h0
  have h7 := h.2.2.2.2.1
  refine ⟨y, H1, er, m1, rr1, (rr1 k).1, (rr1 k).2, e1, ⟨rfl, h4⟩, ?_, h.sub h1 h2 h3 t h7 (by omega) (fun _ z => z.elim), t.1.2.1, t.1.1, fun q r z => (b q r z).1⟩
  obtain ⟨_, _, _, _, w⟩ := h3
  exact w k h4
theorem npo.out (h : npo tr Hb D ph pt pk pa mm st k0 m0 rr0 ro H0 k0 m rr H H1) : ∃ m1 rr1, sst tr Hb D ph pt pk pa mm st H1 ∧ gos D st H1 ∧ rwv D ph pt pk st H1 k0 m1 rr1 ∧ lnt D ph pt pk pa mm st k0 m0 rr0 (fun p => p = ro) H0 m1 rr1 H1 := by
  obtain ⟨m1, rr1, n, _, _, _⟩ := h
  exact ⟨m1, rr1, n.1.1, n.1.2.1, n.1.2.2, n.2.1⟩
end Nst
/-- a row that is lent may be written -/
theorem wok.row {k0 k ro i q r : Nat} {rr : Nat → Nat × Nat} (h : rr i = (q, r)) (h0 : k0 ≤ i) (h1 : i < k) : wok k0 k rr ro r := Or.inr ⟨i, h0, h1, by rw [h]⟩
theorem rp_eqs {d s j : Nat} {H : mu_H} {G : Nat → Prop} {b : List Int32} (h : stf H G s b) (hj : j < 79) : mu_TI (mu_D (d + 2)) 113 [.inr (.inr (some s)), .inr (.inr (some (1000000 + j)))] H (fun x H1 => x = (if b = txt j then 1 else 0) ∧ H1 = H) :=
  mu_MT.ot fun hot => sb_equals (d := d) h.1 (sb_lit hot hj) (Nat.lt_trans h.2.2 (by decide)) (Nat.lt_trans (txt_len j hj) (by decide))
/-- formula, for an expression: at most kk rows more are lent -/
def fmk (tr : Prop) (Hb : mu_H) (D : MD) (ph pt pk pa mm st e kk j : Nat) (c : Tre) : Prop := ∀ dd q qo ro k m rr H, nd Hb D.G dd q c → sst tr Hb D ph pt pk pa mm st H → gos D st H → rwv D ph pt pk st H k m rr → btk D ph pt pk st H qo ro → (∀ i, k ≤ i → i < m → ro ≠ (rr i).2) → mu_z H + 3 * (512 - m) + 3 ≤ 1000000 → k + kk ≤ 256 → mu_TV (mu_D e) 408 [.inr (.inr (some 169)), .inr (.inr (some q)), .inr (.inr (some (D.ip j))), .inr (.inr (some qo))] H (fun H1 => ∃ m1 rr1, sst tr Hb D ph pt pk pa mm st H1 ∧ gos D st H1 ∧ rwv D ph pt pk st H1 k m1 rr1 ∧ lnt D ph pt pk pa mm st k m rr (fun p => p = ro) H m1 rr1 H1)
theorem nI_less1 (k : Nat) : nI (k + 1) - 1 = nI k := by rw [← nI_add, show nI 1 = (1 : Int32) from rfl, Int32.add_sub_cancel]
theorem nI_less2 (k : Nat) : nI (k + 1 + 1) - 2 = nI k := by
  rw [show k + 1 + 1 = k + 2 from rfl, ← nI_add, show nI 2 = (2 : Int32) from rfl, Int32.add_sub_cancel]
theorem sst.st4 {tr : Prop} {Hb H : mu_H} {D : MD} {ph pt pk pa mm st k : Nat} (hs : sst tr Hb D ph pt pk pa mm st H) (hk : k < 4) : btk D ph pt pk st H (183 + 2 * k) (184 + 2 * k) := by
  have n : ∀ p, p ∉ gndl → 184 + 2 * k ≠ p := fun p hp e => hp (by
    have : k = 0 ∨ k = 1 ∨ k = 2 ∨ k = 3 := by omega
    rw [← e]
    rcases this with z | z | z | z <;> (rw [z]; decide))
  refine ⟨(rgd_bt hs.2.2.1.1 hk).2, ⟨by omega, n _ hs.1.2.1.1.2.1.1, n _ hs.1.2.1.2.1.2.1.1, n _ hs.1.2.1.2.2.1.2.1.1, n _ hs.2.2.2.1.2.1.1, by omega⟩, ⟨by omega, fun z => absurd (hs.1.1.2.1.2.2.2 _ z).1 (by omega)⟩, by omega⟩
theorem mu_TA.up {d d' j : Nat} {as : List mu_V} {H : mu_H} {Q : Option Nat → mu_H → Prop} (hd : d ≤ d') (h : mu_TA (mu_D d) j as H Q) : mu_TA (mu_D d') j as H Q := mu_MT.up hd h
theorem nd.kd {Hb H : mu_H} {G : Nat → Prop} {d q s : Nat} {c : Tre} (h : nd Hb G d q c) (ha : agr Hb G H) (hs : mu_r H q 0 = some s) : stf Hb G s (txt (tkd c)) := by
  obtain ⟨_, ⟨k2, k3, _⟩, ⟨s', k5, k6⟩, _⟩ := h.rd
  rw [ha.rk k3 k2 (by decide), k5] at hs
  cases hs
  exact k6
