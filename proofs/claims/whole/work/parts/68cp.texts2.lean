/-! The reference: the row of Modules; what parse keeps -/
section Prf
variable {a b n dep cap : Nat} {F W : Nat → Prop} {H H1 : mu_H} {T : Nat → Int32} {t : Tok} {sy : List (List Int32)} {Fi Fr : List Nat}
/-- the parser's state while other fields and rows change -/
theorem pst.rf (hs : pst T n t dep F H) (hf : rfr Fi Fr W a b H H1) (hi : ∀ k, k ∈ Fi → k ∉ [2, 6, 7, 8, 10, 12]) (hr : ∀ k, k ∈ Fr → k ∉ [1, 4, 5, 11, 13, 32, 33, 34, 35, 37, 44, 54]) (hW : ∀ p, W p → (¬ F p ∧ p < 1000000) ∧ p ∉ [169, 170, 171, 172, 183, 184, 185, 186, 187, 188, 189, 190, 191, 195, 199] ∧ mu_r H 169 13 ≠ some p) : pst T n t dep F H1 := by
  have hsl := hs.sl
  have hfz := hs.fz
  obtain ⟨g1, g2, ⟨⟨k1, k2, k3⟩, k4, k5, k6⟩, g4, g5, p, p1, ⟨p2, p2'⟩, p3, p4, p5⟩ := hs
  have hk := hf.1
  have hz := hk.1
  have ei : ∀ k, k ∈ [2, 6, 7, 8, 10, 12] → mu_i H1 169 k = mu_i H 169 k := fun k h => hf.2.1 k (fun z => hi k z h)
  have er : ∀ k, k ∈ [1, 4, 5, 11, 13, 32, 33, 34, 35, 37, 44, 54] → mu_r H1 169 k = mu_r H 169 k := fun k h => hf.2.2.1 k (fun z => hr k z h)
  have hn : ∀ p, (p = 169 ∨ W p) → ¬ F p ∧ p < 1000000 := fun p z => z.elim (fun e => by subst e; exact ⟨fun y => absurd (hfz _ y).1 (by decide), by decide⟩) (fun z => (hW p z).1)
  refine ⟨g1.keep hf (fun k z y => hr k z ?_) (fun x z y => (hW x z).2.1 (List.mem_cons_of_mem _ y)), g2.keep g1 hf (fun z => hi 2 z (by decide)) (fun z => (hW _ z).2.1 (by decide)), ⟨⟨(ei 7 (by decide)).trans k1, (ei 8 (by decide)).trans k2, (ei 6 (by decide)).trans k3⟩, fun e => (ei 10 (by decide)).trans (k4 e), fun e => ?_, k6⟩, ⟨(ei 12 (by decide)).trans g4.1, g4.2⟩, fun x z => ?_, p, (er 13 (by decide)).trans p1, ⟨by omega, p2'⟩, p3, ?_⟩
  · simp only [List.mem_cons, List.not_mem_nil, or_false] at y ⊢
    omega
  · obtain ⟨q, w, b1, b2, b3, b4, b5⟩ := k5 e
    have s1 : stf H1 F q (slc T t.2.1 t.2.2) := stf.kp ⟨b5, Or.inr ⟨b2, w, b3, b4⟩, hsl⟩ hk hn
    rcases s1.2.1 with c | ⟨c1, w', c2, c3⟩
    · exact absurd c.1 (by have := (g5 q b2).2.1.2; omega)
    · exact ⟨q, w', (er 11 (by decide)).trans b1, c1, c2, c3, s1.1⟩
  · rw [er 13 (by decide)]
    exact ⟨(g5 x z).1, ⟨by have := (g5 x z).2.1.1; omega, (g5 x z).2.1.2⟩, (g5 x z).2.2⟩
  · have sm : mu_same H H1 p := hk.2.1 p (Or.inl p2) (fun z => z.elim (fun e => p3 (by rw [e]; decide)) (fun e => (hW p e).2.2 p1))
    exact ⟨sm.1.trans p4, by rw [sm.2.1]; exact p5⟩
/-- the symbols while other fields and rows change -/
theorem syr.rf (hs : pst T n t dep F H) (hy : syr H F cap sy) (hf : rfr Fi Fr W a b H H1) (hi : 17 ∉ Fi) (hr : 16 ∉ Fr ∧ 13 ∉ Fr) (hW : ∀ p, W p → ¬ F p ∧ p < 1000000) (hW2 : ∀ p, W p → mu_r H 169 16 ≠ some p) : syr H1 F cap sy := by
  obtain ⟨r, r1, ⟨r2, r3, r4⟩, ⟨r5, r6⟩, ⟨r7, r8⟩, r9, r10, r11⟩ := hy
  have hk := hf.1
  have hz := hk.1
  have nr : ¬ (r = 169 ∨ W r) := fun z => z.elim (by omega) (fun z => hW2 r z r1)
  have hn : ∀ p, (p = 169 ∨ W p) → ¬ F p ∧ p < 1000000 := fun p z => z.elim (fun e => by subst e; exact ⟨fun y => absurd (hs.fz _ y).1 (by decide), by decide⟩) (hW p)
  refine ⟨r, (hf.2.2.1 16 hr.1).trans r1, ⟨r2, by omega, r4⟩, ⟨r5, by rw [hf.2.2.1 13 hr.2]; exact r6⟩, ⟨(hk.k (Or.inl r3) nr).trans r7, (hk.len (Or.inl r3) nr).trans r8⟩, r9, (hf.2.1 17 hi).trans r10, fun i hi => ?_⟩
  obtain ⟨s, s1, s2⟩ := r11 i hi
  exact ⟨s, (hk.r (Or.inl r3) nr i).trans s1, s2.kp hk hn⟩
end Prf
/-- the row of Modules: r, with cap places -/
def txw (H : mu_H) (F : Nat → Prop) (r cap : Nat) : Prop := mu_r H 169 14 = some r ∧ (r < mu_z H ∧ r < 1000000) ∧ r ∉ [169, 170, 171, 172, 183, 184, 185, 186, 187, 188, 189, 190, 191, 195, 199] ∧ (¬ F r ∧ mu_r H 169 13 ≠ some r) ∧ mu_k H r = 106 ∧ mu_n H r = cap ∧ 8 ≤ cap ∧ cap ≤ 2000000
/-- the first c places of the row hold the Modules ms -/
def txm (H : mu_H) (F : Nat → Prop) (lv r : Nat) (ms : List Mdl) : Prop := ∀ i, i < ms.length → ∃ m, mu_r H r i = some m ∧ mdf H F lv m (ms.getD i ([], [], []))
/-- what parse keeps: at most a cells are made; the rows of names and Modules, and the new row of symbols, may change -/
def tfr (a : Nat) (F F1 : Nat → Prop) (H H1 : mu_H) : Prop := rfr [6, 7, 8, 10, 12, 15, 17] [11, 13, 14, 16] (fun p => mu_r H 169 13 = some p ∨ mu_r H 169 14 = some p) a (10 * a) H H1 ∧ (∀ k, k = 13 ∨ k = 14 → mu_r H1 169 k = mu_r H 169 k ∨ ∃ p, mu_r H1 169 k = some p ∧ mu_z H ≤ p ∧ p < 1000000) ∧ (∃ p, mu_r H1 169 16 = some p ∧ mu_z H ≤ p ∧ p < 1000000) ∧ (∀ p, F p → F1 p) ∧ (∀ p, F1 p → F p ∨ mu_z H ≤ p)
/-- a text is refused at e -/
def tbd (T : Nat → Int32) (n e a : Nat) (H H1 : mu_H) : Prop := rgd H1 ∧ rtp H1 T n ∧ mu_i H1 169 8 = nI e ∧ rfr [6, 7, 8, 10, 12, 15, 17] [11, 13, 14, 16] (fun p => mu_r H 169 13 = some p ∨ mu_r H 169 14 = some p) a (10 * a) H H1
section Tfr
variable {a a' a1 a2 b n dep cap r lv e : Nat} {F F1 F2 W : Nat → Prop} {H H1 H2 : mu_H} {T : Nat → Int32} {t : Tok} {sy : List (List Int32)} {ms : List Mdl}
theorem tfr.z (h : tfr a F F1 H H1) : mu_z H ≤ mu_z H1 ∧ mu_z H1 ≤ mu_z H + a := ⟨h.1.1.1, h.1.1.2.2.1.1⟩
theorem tfr.wk (h : tfr a F F1 H H1) (ha : a ≤ a') : tfr a' F F1 H H1 := ⟨h.1.wk (fun _ z => z) (fun _ z => z) (fun _ _ z => z) ha (by omega), h.2⟩
theorem tbd.wk (h : tbd T n e a H H1) (ha : a ≤ a') : tbd T n e a' H H1 := ⟨h.1, h.2.1, h.2.2.1, h.2.2.2.wk (fun _ z => z) (fun _ z => z) (fun _ _ z => z) ha (by omega)⟩
theorem tfr.rtr {c : Nat} (h : tfr a F F1 H H1) (h2 : rfr [6, 7, 8, 10, 12, 17] [11, 13, 16] (fun p => mu_r H1 169 13 = some p ∨ mu_r H1 169 16 = some p) b c H1 H2) : rfr [6, 7, 8, 10, 12, 15, 17] [11, 13, 14, 16] (fun p => mu_r H 169 13 = some p ∨ mu_r H 169 14 = some p) (a + b) (10 * a + c) H H2 := by
  obtain ⟨x1, x2, ⟨q0, x3, x3'⟩, x4, x5⟩ := h
  refine x1.tr h2 (fun k z => z.elim id (fun z => by simp only [List.mem_cons, List.not_mem_nil, or_false] at z ⊢; omega)) (fun k z => z.elim id (fun z => by simp only [List.mem_cons, List.not_mem_nil, or_false] at z ⊢; omega)) (fun p hp z => ?_)
  rcases z with z | z | z
  · exact z
  · rcases x2 13 (Or.inl rfl) with e | ⟨q, e, hq⟩
    · rw [e] at z; exact Or.inl z
    · have e2 : some q = some p := e.symm.trans z
      cases e2
      omega
  · have e2 : some q0 = some p := x3.symm.trans z
    cases e2
    omega
theorem tfr.qf (h1 : tfr a1 F F1 H H1) (h2 : qfr a2 F1 F2 H1 H2) : tfr (a1 + a2) F F2 H H2 := by
  have hr := h1.rtr h2.1
  obtain ⟨x1, x2, ⟨q0, x3, x3'⟩, x4, x5⟩ := h1
  obtain ⟨y1, y2, y3, y4⟩ := h2
  have hz : mu_z H ≤ mu_z H1 := x1.1.1
  refine ⟨hr.wk (fun _ z => z) (fun _ z => z) (fun _ _ z => z) (Nat.le_refl _) (by omega), fun k hk => ?_, ?_, fun p z => y3 p (x4 p z), fun p z => ?_⟩
  · rcases hk with hk | hk
    · subst hk
      rcases y2 13 (Or.inl rfl) with e | ⟨q, e, hq⟩
      · rw [e]; exact x2 13 (Or.inl rfl)
      · exact Or.inr ⟨q, e, by omega, hq.2⟩
    · subst hk
      rw [y1.2.2.1 14 (by decide)]
      exact x2 14 (Or.inr rfl)
  · rcases y2 16 (Or.inr rfl) with e | ⟨q, e, hq⟩
    · rw [e]; exact ⟨q0, x3, x3'⟩
    · exact ⟨q, e, by omega, hq.2⟩
  · rcases y4 p z with z | z
    · exact x5 p z
    · exact Or.inr (by omega)
theorem tfr.bdq (h : tfr a F F1 H H1) (h2 : qbd T n e a2 H1 H2) : tbd T n e (a + a2) H H2 := by
  obtain ⟨g1, g2, g3, g4⟩ := h2
  exact ⟨g1, g2, g3, (h.rtr g4).wk (fun _ z => z) (fun _ z => z) (fun _ _ z => z) (Nat.le_refl _) (by omega)⟩
/-- the row of Modules and its count change -/
def xfr (a : Nat) (H H1 : mu_H) : Prop := rfr [15] [14] (fun p => mu_r H 169 14 = some p) a (10 * a) H H1 ∧ (mu_r H1 169 14 = mu_r H 169 14 ∨ ∃ p, mu_r H1 169 14 = some p ∧ mu_z H ≤ p ∧ p < 1000000)
theorem tfr.xf (h1 : tfr a1 F F1 H H1) (h2 : xfr a2 H1 H2) : tfr (a1 + a2) F F1 H H2 := by
  obtain ⟨x1, x2, ⟨q0, x3, x3'⟩, x4, x5⟩ := h1
  obtain ⟨y1, y2⟩ := h2
  have hz : mu_z H ≤ mu_z H1 := x1.1.1
  refine ⟨(x1.tr y1 (Fi := [6, 7, 8, 10, 12, 15, 17]) (Fr := [11, 13, 14, 16]) (W := fun p => mu_r H 169 13 = some p ∨ mu_r H 169 14 = some p) (fun k z => z.elim id (fun z => by simp only [List.mem_cons, List.not_mem_nil, or_false] at z ⊢; omega)) (fun k z => z.elim id (fun z => by simp only [List.mem_cons, List.not_mem_nil, or_false] at z ⊢; omega)) (fun p hp z => ?_)).wk (fun _ z => z) (fun _ z => z) (fun _ _ z => z) (Nat.le_refl _) (by omega), fun k hk => ?_, ⟨q0, (y1.2.2.1 16 (by decide)).trans x3, x3'⟩, x4, x5⟩
  · rcases z with z | z
    · exact z
    · rcases x2 14 (Or.inr rfl) with e | ⟨q, e, hq⟩
      · rw [e] at z; exact Or.inr z
      · have e2 : some q = some p := e.symm.trans z
        cases e2
        omega
  · rcases hk with hk | hk
    · subst hk
      rw [y1.2.2.1 13 (by decide)]
      exact x2 13 (Or.inl rfl)
    · subst hk
      rcases y2 with e | ⟨q, e, hq⟩
      · rw [e]; exact x2 14 (Or.inr rfl)
      · exact Or.inr ⟨q, e, by omega, hq.2⟩
theorem txw.nF (hs : pst T n t dep F H) (hw : txw H F r cap) : ∀ p, (p = 169 ∨ mu_r H 169 14 = some p) → ¬ F p ∧ p < 1000000 := by
  intro p z
  rcases z with e | e
  · subst e; exact ⟨fun z => absurd (hs.fz _ z).1 (by decide), by decide⟩
  · rw [hw.1] at e; cases e; exact ⟨hw.2.2.2.1.1, hw.2.1.2⟩
theorem pst.xf (hs : pst T n t dep F H) (hw : txw H F r cap) (hx : xfr a H H1) : pst T n t dep F H1 := hs.rf hx.1 (fun k z => by simp only [List.mem_cons, List.not_mem_nil, or_false] at z; subst z; decide) (fun k z => by simp only [List.mem_cons, List.not_mem_nil, or_false] at z; subst z; decide) (fun p z => by rw [hw.1] at z; cases z; exact ⟨⟨hw.2.2.2.1.1, hw.2.1.2⟩, hw.2.2.1, hw.2.2.2.1.2⟩)
theorem txw.is (hw : txw H F r cap) : mu_is H (some r) 106 := ⟨rfl, hw.2.1.1, hw.2.2.2.2.1⟩
theorem syr.xf {scap : Nat} (hs : pst T n t dep F H) (hy : syr H F scap sy) (hw : txw H F r cap) (hx : xfr a H H1) : syr H1 F scap sy := syr.rf hs hy hx.1 (by decide) (by decide) (fun p z => txw.nF hs hw p (Or.inr z)) (fun p z => by rw [hw.1] at z; cases z; exact hy.ne hw.is (by decide))
theorem ktf.xf (hs : pst T n t dep F H) (hw : txw H F r cap) (hx : xfr a H H1) : ktf H F H1 F := ktf.kp hx.1.1 (txw.nF hs hw)
/-- over a Module's text -/
theorem txw.qn {scap : Nat} (hs : pst T n t dep F H) (hy : syr H F scap sy) (hw : txw H F r cap) : ¬ (r = 169 ∨ mu_r H 169 13 = some r ∨ mu_r H 169 16 = some r) := fun z => by
  rcases z with z | z | z
  · exact hw.2.2.1 (by rw [z]; decide)
  · exact hw.2.2.2.1.2 z
  · exact hy.ne hw.is (by decide) z
theorem ktf.qf {scap : Nat} (hs : pst T n t dep F H) (hy : syr H F scap sy) (hq : qfr a F F1 H H1) : ktf H F H1 F1 := by
  refine (ktf.kp hq.1.1 (fun p z => ?_)).tr (ktf.mono hq.2.2.1)
  rcases z with z | z | z
  · exact hs.nF p (Or.inl z)
  · exact hs.nF p (Or.inr z)
  · exact sfr.nF hs hy p (Or.inr z)
theorem txw.qf {scap : Nat} (hs : pst T n t dep F H) (hy : syr H F scap sy) (hw : txw H F r cap) (hq : qfr a F F1 H H1) : txw H1 F1 r cap := by
  have nr := txw.qn hs hy hw
  obtain ⟨w1, ⟨w2, w2'⟩, w3, ⟨w4, w5⟩, w6, w7, w8⟩ := hw
  have hz := hq.1.1.1
  refine ⟨(hq.1.2.2.1 14 (by decide)).trans w1, ⟨by omega, w2'⟩, w3, ⟨fun z => (hq.2.2.2 r z).elim w4 (by omega), ?_⟩, (hq.1.1.k (Or.inl w2) nr).trans w6, (hq.1.1.len (Or.inl w2) nr).trans w7, w8⟩
  rcases hq.2.1 13 (Or.inl rfl) with e | ⟨q, e, hq2⟩
  · rw [e]; exact w5
  · rw [e]; intro z; cases z; omega
theorem txm.qf {scap : Nat} (hs : pst T n t dep F H) (hy : syr H F scap sy) (hw : txw H F r cap) (hm : txm H F lv r ms) (hq : qfr a F F1 H H1) : txm H1 F1 lv r ms := by
  have nr := txw.qn hs hy hw
  have kt := ktf.qf hs hy hq
  intro i hi
  obtain ⟨m, m1, m2⟩ := hm i hi
  exact ⟨m, (hq.1.1.r (Or.inl hw.2.1.1) nr i).trans m1, m2.kt kt⟩
end Tfr
/-- j places are copied from the row p into the row z of kind kd -/
def rcp (kd : Nat) (H : mu_H) (p z C j : Nat) (Hk : mu_H) : Prop := kep (fun x => x = z) 0 0 H Hk ∧ (∀ i, i < j → mu_r Hk z i = mu_r H p i) ∧ mu_is Hk (some z) kd ∧ mu_n Hk z = C
/-- the text's Modules, without the machine -/
def mbi {β : Type} (r : Option (Nat ⊕ (Mdl × List (List Int32) × Tok))) (k : Mdl → List (List Int32) → Tok → Option (Nat ⊕ β)) : Option (Nat ⊕ β) := match r with
  | none => none
  | some (.inl e) => some (.inl e)
  | some (.inr (y, sy, t)) => k y sy t
theorem mbi_some {β : Type} {r : Option (Nat ⊕ (Mdl × List (List Int32) × Tok))} {k : Mdl → List (List Int32) → Tok → Option (Nat ⊕ β)} {res : Nat ⊕ β} (h : mbi r k = some res) : ∃ r', r = some r' := by
  cases r with
  | none => cases h
  | some r => exact ⟨r, rfl⟩
theorem mbi_inl {β : Type} {k : Mdl → List (List Int32) → Tok → Option (Nat ⊕ β)} {res : Nat ⊕ β} {e : Nat} (h : mbi (some (.inl e)) k = some res) : res = .inl e := (Option.some.inj h).symm
theorem mbi_inr {β : Type} {k : Mdl → List (List Int32) → Tok → Option (Nat ⊕ β)} {res : Nat ⊕ β} {y : Mdl} {sy : List (List Int32)} {t : Tok} (h : mbi (some (.inr (y, sy, t))) k = some res) : k y sy t = some res := h
noncomputable def mxQ (T : Nat → Int32) (n f dep : Nat) : Nat → List Mdl → List (List Int32) → Tok → Option (Nat ⊕ (List Mdl × List (List Int32)))
  | 0, _, _, _ => none
  | g + 1, ms, sy, t => mbi (mxM T n f dep sy t) fun y sy1 t1 => if t1.1 = 0 then gok (ms ++ [y], sy1) else mxQ T n f dep g (ms ++ [y]) sy1 t1
/-- the first token is read -/
theorem pst_start {T : Nat → Int32} {n r cap : Nat} {F : Nat → Prop} {H Hi H1 : mu_H} (hF : ∀ p, F p → 200 < p ∧ (p < mu_z H ∧ p < 1000000) ∧ mu_r H 169 13 ≠ some p) (hg : rgd H) (hn : pnr H) (hw : txw H F r cap) (hi : rfr [15, 17, 12, 6] [16] (fun _ => False) 1 16 H Hi) (h16 : mu_r Hi 169 16 = some (mu_z H)) (hzi : mu_z Hi = mu_z H + 1) (hk : mu_k Hi (mu_z H) = 103 ∧ mu_n Hi (mu_z H) = 16) (h17 : mu_i Hi 169 17 = nI 0) (h12 : mu_i Hi 169 12 = nI 0) (h15 : mu_i Hi 169 15 = nI 0) (g1 : rgd H1) (g2 : rtp H1 T n) (ha : adp T n (tkz T n 0) Hi H1) (hf : rfr [6, 7, 8, 10] [11] (fun _ => False) ((tkz T n 0).2.2 - 0 + 4) (5 * ((tkz T n 0).2.2 - 0) + 40) Hi H1) (hz6 : mu_z H + 1 ≤ 1000000) : ∃ F1, pst T n (tkz T n 0) 0 F1 H1 ∧ syr H1 F1 16 [] ∧ txw H1 F1 r cap ∧ mu_i H1 169 15 = nI 0 ∧ tfr ((tkz T n 0).2.2 + 10) F F1 H H1 := by
  have hr : rfr [6, 7, 8, 10, 12, 15, 17] [11, 13, 14, 16] (fun p => mu_r H 169 13 = some p ∨ mu_r H 169 14 = some p) (1 + ((tkz T n 0).2.2 - 0 + 4)) (16 + (5 * ((tkz T n 0).2.2 - 0) + 40)) H H1 := hi.tr hf (fun k z => by simp only [List.mem_cons, List.not_mem_nil, or_false] at z ⊢; omega) (fun k z => by simp only [List.mem_cons, List.not_mem_nil, or_false] at z ⊢; omega) (fun p hp z => z.elim False.elim False.elim)
  have hr0 : rfr [6, 7, 8, 10, 12, 15, 17] [11, 16] (fun _ => False) (1 + ((tkz T n 0).2.2 - 0 + 4)) (16 + (5 * ((tkz T n 0).2.2 - 0) + 40)) H H1 := hi.tr hf (fun k z => by simp only [List.mem_cons, List.not_mem_nil, or_false] at z ⊢; omega) (fun k z => by simp only [List.mem_cons, List.not_mem_nil, or_false] at z ⊢; omega) (fun p hp z => z.elim False.elim False.elim)
  have e13 : mu_r H1 169 13 = mu_r H 169 13 := hr0.2.2.1 13 (by decide)
  have e14 : mu_r H1 169 14 = mu_r H 169 14 := hr0.2.2.1 14 (by decide)
  have e16 : mu_r H1 169 16 = some (mu_z H) := (hf.2.2.1 16 (by decide)).trans h16
  have hz1 : mu_z H ≤ mu_z H1 := hr0.1.1
  have hz2 : mu_z Hi ≤ mu_z H1 := hf.1.1
  have g200 := hg.1
  obtain ⟨p, p1, ⟨p2, p2'⟩, p3, p4, p5⟩ := hn
  obtain ⟨w1, ⟨w2, w2'⟩, w3, ⟨w4, w5⟩, w6, w7, w8⟩ := hw
  have hpn : pnr H1 := by
    have sm : mu_same H H1 p := hr0.1.2.1 p (Or.inl p2) (fun z => z.elim (fun e => p3 (by rw [e]; decide)) id)
    exact ⟨p, e13.trans p1, ⟨by omega, p2'⟩, p3, sm.1.trans p4, by rw [sm.2.1]; exact p5⟩
  have smr : mu_same H H1 r := hr0.1.2.1 r (Or.inl w2) (fun z => z.elim (fun e => w3 (by rw [e]; decide)) id)
  have smz : mu_same Hi H1 (mu_z H) := hf.1.2.1 (mu_z H) (Or.inl (by omega)) (fun z => z.elim (fun e => by omega) id)
  obtain ⟨a1, a2, a3, a4, a5⟩ := ha
  have hfk := tkz_f (T := T) (Nat.zero_le n)
  have hF0 : ∀ x, F x → 200 < x ∧ (x < mu_z H1 ∧ x < 1000000) ∧ mu_r H1 169 13 ≠ some x := fun x hx => by
    have := hF x hx
    rw [e13]
    exact ⟨this.1, ⟨by omega, this.2.1.2⟩, this.2.2⟩
  have mk : ∀ F1 : Nat → Prop, (∀ x, F x → F1 x) → (∀ x, F1 x → F x ∨ mu_z Hi ≤ x ∧ x < mu_z H1 ∧ x < 1000000) → ((tkz T n 0).1 = 2 → ∃ q b, mu_r H1 169 11 = some q ∧ F1 q ∧ sbv H1 (some q) = some b ∧ F1 b ∧ sb H1 (some q) (slc T (tkz T n 0).2.1 (tkz T n 0).2.2)) → pst T n (tkz T n 0) 0 F1 H1 ∧ syr H1 F1 16 [] ∧ txw H1 F1 r cap ∧ mu_i H1 169 15 = nI 0 ∧ tfr ((tkz T n 0).2.2 + 10) F F1 H H1 := by
    intro F1 hm hm2 hwd
    refine ⟨⟨g1, g2, ⟨⟨a1, a2, a3⟩, a4, hwd, ⟨hfk.1, tkz_w (Nat.zero_le n)⟩⟩, ⟨(hf.2.1 12 (by decide)).trans h12, by decide⟩, fun x hx => ?_, hpn⟩, ⟨mu_z H, e16, ⟨by omega, by omega, by omega⟩, ⟨fun z => ?_, fun z => ?_⟩, ⟨smz.1.trans hk.1, smz.2.1.trans hk.2⟩, ⟨by decide, by decide, by decide, by decide⟩, (hf.2.1 17 (by decide)).trans h17, fun i hi => absurd hi (Nat.not_lt_zero _)⟩, ⟨e14.trans w1, ⟨by omega, w2'⟩, w3, ⟨fun z => ?_, by rw [e13]; exact w5⟩, smr.1.trans w6, smr.2.1.trans w7, w8⟩, (hf.2.1 15 (by decide)).trans h15, ⟨hr.wk (fun _ z => z) (fun _ z => z) (fun _ _ z => z) (by omega) (by omega), fun k hk => ?_, ⟨mu_z H, e16, Nat.le_refl _, by omega⟩, hm, fun x hx => (hm2 x hx).imp id (fun z => by omega)⟩⟩
    · rcases hm2 x hx with z | z
      · exact hF0 x z
      · refine ⟨by omega, z.2, ?_⟩
        rw [e13, p1]
        intro e
        cases e
        omega
    · rcases hm2 _ z with z | z
      · exact absurd (hF _ z).2.1.1 (by omega)
      · omega
    · rw [e13, p1] at z
      cases z
      omega
    · rcases hm2 _ z with z | z
      · exact w4 z
      · omega
    · rcases hk with hk | hk
      · subst hk; exact Or.inl e13
      · subst hk; exact Or.inl e14
  by_cases e2 : (tkz T n 0).1 = 2
  · obtain ⟨q, b1, b2, b3, b4, b5, b6⟩ := a5 e2
    have hsv : sbv H1 (some q) = some (mu_p (sbv H1 (some q))) := b6.2.2.1.1
    have hq1 : q < mu_z H1 := by
      rcases b6.1 with z | z
      · have z := z.2.1
        exact absurd (show 1000000 ≤ q from z) (by omega)
      · exact z.2.1
    have hb1 : mu_p (sbv H1 (some q)) < mu_z H1 := by
      rcases b6.2.2.1.2.1 with z | z
      · exact z
      · omega
    refine ⟨_, mk (fun x => F x ∨ x = q ∨ x = mu_p (sbv H1 (some q))) (fun _ z => Or.inl z) (fun x z => ?_) (fun _ => ⟨q, _, b1, Or.inr (Or.inl rfl), hsv, Or.inr (Or.inr rfl), b6⟩)⟩
    rcases z with z | z | z
    · exact Or.inl z
    · exact Or.inr (by omega)
    · exact Or.inr (by omega)
  · exact ⟨F, mk F (fun _ z => z) (fun _ z => Or.inl z) (fun z => absurd z e2)⟩
