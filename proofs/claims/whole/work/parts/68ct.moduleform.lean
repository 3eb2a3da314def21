/-! A text without the machine: enough fuel, well formed Modules -/
/-- there is an answer, and what is told has Q -/
def gz {α : Type} (Q : α → Prop) (r : Option (Nat ⊕ α)) : Prop := r ≠ none ∧ ∀ x, r = some (.inr x) → Q x
section Gz
variable {α β : Type} {T : Nat → Int32} {n m : Nat} {Q : α → Prop} {t : Tok}
theorem gz_ok {x : α} (h : Q x) : gz Q (gok x) := ⟨(fun e => by cases e), fun y e => by cases e; exact h⟩
theorem gz_pe : gz Q (gpe t) := ⟨(fun e => by cases e), fun y e => by cases e⟩
theorem gz_if {p : Prop} [Decidable p] {a b : Option (Nat ⊕ α)} (h1 : p → gz Q a) (h2 : ¬ p → gz Q b) : gz Q (if p then a else b) := by
  by_cases e : p
  · rw [if_pos e]; exact h1 e
  · rw [if_neg e]; exact h2 e
theorem gz_ex {j : Nat} {k : Tok → Option (Nat ⊕ α)} (ht : tkf n t) (hk : tkf n (adv T n t) → tlz n (adv T n t) < tlz n t → gz Q (k (adv T n t))) : gz Q (gex T n j t k) := by
  unfold gex
  refine gz_if (fun _ => gz_pe) (fun e => ?_)
  have := tl_adv (T := T) ht (tis_ne e)
  exact hk this.1 this.2
theorem gz_bi {r : PR} {W : Tre → Prop} {k : Tre → Tok → Option (Nat ⊕ α)} (h : rsz n m r) (hw : wz W r) (hk : ∀ c t1, tkf n t1 → tlz n t1 < m → W c → gz Q (k c t1)) : gz Q (gbi r k) := by
  obtain ⟨h1, h2⟩ := h
  match r, h1, h2, hw with
  | none, h1, _, _ => exact absurd rfl h1
  | some (.inl e), _, _, _ => exact ⟨(fun e => by cases e), fun y e => by cases e⟩
  | some (.inr (c, t1)), _, h2, hw => exact hk c t1 (h2 c t1 rfl).1 (h2 c t1 rfl).2 (hw c t1 rfl)
theorem gz_qbi {r : QR} {W : List Tre × List (List Int32) × Tok → Prop} {k : List Tre → List (List Int32) → Tok → Option (Nat ⊕ α)} (h : gz W r) (hk : ∀ cs sy t, W (cs, sy, t) → gz Q (k cs sy t)) : gz Q (qbi r k) := by
  obtain ⟨h1, h2⟩ := h
  match r, h1, h2 with
  | none, h1, _ => exact absurd rfl h1
  | some (.inl e), _, _ => exact ⟨(fun e => by cases e), fun y e => by cases e⟩
  | some (.inr (cs, sy, t)), _, h2 => exact hk cs sy t (h2 _ rfl)
theorem gz_mbi {r : Option (Nat ⊕ (Mdl × List (List Int32) × Tok))} {W : Mdl × List (List Int32) × Tok → Prop} {k : Mdl → List (List Int32) → Tok → Option (Nat ⊕ α)} (h : gz W r) (hk : ∀ y sy t, W (y, sy, t) → gz Q (k y sy t)) : gz Q (mbi r k) := by
  obtain ⟨h1, h2⟩ := h
  match r, h1, h2 with
  | none, h1, _ => exact absurd rfl h1
  | some (.inl e), _, _ => exact ⟨(fun e => by cases e), fun y e => by cases e⟩
  | some (.inr (y, sy, t)), _, h2 => exact hk y sy t (h2 _ rfl)
end Gz
/-- a value of a set -/
def vlw (v : Tre) : Prop := (tkd v = 63 ∨ tkd v = 70 ∧ (tns v).length = 1) ∧ tsn v = 0
/-- a TYPE -/
def tyw (c : Tre) : Prop := (tkd c = 39 ∧ tsn c = 0) ∨ (tkd c = 69 ∧ 1 ≤ tsn c ∧ ∀ i, i < tsn c → vlw (tkk c i)) ∨ (tkd c = 71 ∧ tsn c = 2 ∧ (tkd (tkk c 0) = 63 ∧ tsn (tkk c 0) = 0) ∧ tkd (tkk c 1) = 63 ∧ tsn (tkk c 1) = 0) ∨ (tkd c = 72 ∧ (tns c).length = 1 ∧ ∀ i, i < tsn c → exw 905 (tkk c i))
/-- a parameter -/
def prw (p : Tre) : Prop := tkd p = 68 ∧ (tns p).length = 1 ∧ tsn p = 0
/-- a part of a MODULE -/
def ptw (p : Tre) : Prop := ((tns p).length = 1 ∧ tsn p = 1) ∧ ((tkd p = 73 ∧ tyw (tkk p 0)) ∨ (tkd p ∈ [74, 34, 35, 36, 37, 38] ∧ exw 905 (tkk p 0)) ∨ (tkd p ∈ [75, 32, 33] ∧ chw 905 (tkk p 0)))
def alp (W : Tre → Prop) (cs : List Tre) : Prop := ∀ i, i < cs.length → W (cs.getD i (fun _ => none))
/-- a MODULE -/
def mdw (y : Mdl) : Prop := alp prw y.2.1 ∧ alp ptw y.2.2
section Ty
variable {T : Nat → Int32} {n f dep : Nat} {t : Tok}
theorem alp.nil {W : Tre → Prop} : alp W [] := fun i hi => absurd hi (Nat.not_lt_zero _)
theorem alp.add {W : Tre → Prop} {cs : List Tre} {c : Tre} (h : alp W cs) (hc : W c) : alp W (cs ++ [c]) := getD_all h hc
theorem alp.one {W : Tre → Prop} {c : Tre} (hc : W c) : alp W [c] := alp.add (cs := []) alp.nil hc
theorem tl_wh (ht : tkf n t) : tkf n (whk T n t) ∧ tlz n (whk T n t) ≤ tlz n t := by
  unfold whk
  by_cases e : tis T t (txt 25) = 0
  · rw [if_pos e]; exact ⟨ht, Nat.le_refl _⟩
  · rw [if_neg e]
    have := tl_adv (T := T) ht (tis_ne e)
    exact ⟨this.1, Nat.le_of_lt this.2⟩
theorem rs_pxv (ht : tkf n t) : rsz n (tlz n t) (pxv T n t) := by
  unfold pxv
  refine rs_if (fun _ => rs_if (fun e => ?_) (fun _ => rs_per)) (fun e => ?_)
  · have h := tl_wh (T := T) ht
    have h2 := tl_adv (T := T) h.1 (by rw [e]; decide)
    exact rs_ok h2.1 (by omega)
  · have h2 := tl_adv (T := T) ht (by rw [nmz_2 e]; decide)
    exact rs_ok h2.1 h2.2
theorem wz_pxv : wz vlw (pxv T n t) := by
  unfold pxv
  exact wz_if (fun _ => wz_if (fun e => wz_ok ⟨Or.inl rfl, rfl⟩) (fun _ => wz_per)) (fun e => wz_ok ⟨Or.inr ⟨rfl, rfl⟩, rfl⟩)
theorem rs_T1 : ∀ g cs t, tkf n t → tlz n t < g → rsz n (tlz n t + 1) (pxT1 T n g cs t)
  | 0, _, _, _, h => absurd h (Nat.not_lt_zero _)
  | g + 1, cs, t, ht, h => by
    rw [pxT1]
    refine rs_if (fun _ => rs_exq ht (fun k1 k2 => rs_ok k1 (by omega))) (fun e => ?_)
    have h2 := tl_adv (T := T) ht (tis_ne e)
    exact rs_bi (rs_pxv h2.1) (fun c t1 k1 k2 => (rs_T1 g _ t1 k1 (by omega)).wk (by omega))
theorem wz_T1 : ∀ g cs t, alp vlw cs → 1 ≤ cs.length → wz tyw (pxT1 T n g cs t)
  | 0, _, _, _, _ => fun c t1 e => by cases e
  | g + 1, cs, t, h, h1 => by
    rw [pxT1]
    exact wz_if (fun _ => wz_exq (wz_ok (Or.inr (Or.inl ⟨rfl, h1, h⟩)))) (fun e => wz_bi wz_pxv (fun c t1 k1 => wz_T1 g _ t1 (h.add k1) (by rw [len_ap]; omega)))
theorem rs_T2 {nm : List Int32} : ∀ g cs t, tkf n t → tlz n t < g → 16 * tlz n t < f → rsz n (tlz n t + 1) (pxT2 T n f dep nm g cs t)
  | 0, _, _, _, h, _ => absurd h (Nat.not_lt_zero _)
  | g + 1, cs, t, ht, h, hf => by
    rw [pxT2]
    refine rs_if (fun _ => rs_exq ht (fun k1 k2 => rs_ok k1 (by omega))) (fun e => ?_)
    have h2 := tl_adv (T := T) ht (tis_ne e)
    exact rs_nst (fun d1 => rs_bi (m := tlz n (adv T n t)) (px_fuel f 0 d1 [] _ (by decide) h2.1 (by show 16 * _ + 9 < f; omega)) (fun c t1 k1 k2 => (rs_T2 g _ t1 k1 (by omega) (by omega)).wk (by omega)))
theorem lx_905 {nt : Nat} (h : rlz nt ≤ 5) : lxz nt dep ≤ 905 := by unfold lxz; omega
theorem wz_px0 {cs : List Tre} : wz (exw 905) (px T n f 0 dep cs t) := ((px_wf f).x (nt := 0) (by decide)).imp (fun c z => z.le (lx_905 (by decide)))
theorem wz_px11 {cs : List Tre} : wz (chw 905) (px T n f 11 dep cs t) := ((px_wf f).lc (nt := 11) (by decide) (csz_lo (by decide))).imp (fun c z => z.le (lx_905 (by decide)))
theorem wz_T2 {nm : List Int32} : ∀ g cs t, alp (exw 905) cs → wz tyw (pxT2 T n f dep nm g cs t)
  | 0, _, _, _ => fun c t1 e => by cases e
  | g + 1, cs, t, h => by
    rw [pxT2]
    exact wz_if (fun _ => wz_exq (wz_ok (Or.inr (Or.inr (Or.inr ⟨rfl, rfl, h⟩))))) (fun e => wz_nst (fun _ => wz_bi wz_px0 (fun c t1 k1 => wz_T2 g _ t1 (h.add k1))))
theorem rs_T (ht : tkf n t) (hf : 16 * tlz n t < f) : rsz n (tlz n t) (pxT T n f dep t) := by
  unfold pxT
  refine rs_if (fun _ => rs_if (fun _ => rs_if (fun _ => rs_if (fun e => ?_) (fun _ => rs_per)) (fun e => ?_)) (fun e => ?_)) (fun e => ?_)
  · have h := tl_wh (T := T) ht
    have h2 := tl_adv (T := T) h.1 (by rw [e]; decide)
    refine rs_exq h2.1 (fun k1 k2 => rs_if (fun e2 => ?_) (fun _ => rs_per))
    have h3 := tl_wh (T := T) k1
    have h4 := tl_adv (T := T) h3.1 (by rw [e2]; decide)
    exact rs_ok h4.1 (by omega)
  · have h2 := tl_adv (T := T) ht (by rw [nmz_2 e]; decide)
    refine rs_if (fun _ => rs_ok h2.1 h2.2) (fun e2 => ?_)
    have h3 := tl_adv (T := T) h2.1 (tis_ne e2)
    exact rs_nst (fun d1 => rs_bi (m := tlz n (adv T n (adv T n t))) (px_fuel f 0 d1 [] _ (by decide) h3.1 (by show 16 * _ + 9 < f; omega)) (fun c t1 k1 k2 => (rs_T2 f _ t1 k1 (by omega) (by omega)).wk (by omega)))
  · have h2 := tl_adv (T := T) ht (tis_ne e)
    exact rs_bi (rs_pxv h2.1) (fun c t1 k1 k2 => (rs_T1 f _ t1 k1 (by omega)).wk (by omega))
  · have h2 := tl_adv (T := T) ht (tis_ne e)
    exact rs_ok h2.1 h2.2
theorem wz_T : wz tyw (pxT T n f dep t) := by
  unfold pxT
  refine wz_if (fun _ => wz_if (fun _ => wz_if (fun _ => wz_if (fun e => ?_) (fun _ => wz_per)) (fun e => ?_)) (fun e => ?_)) (fun e => ?_)
  · exact wz_exq (wz_if (fun _ => wz_ok (Or.inr (Or.inr (Or.inl ⟨rfl, rfl, ⟨rfl, rfl⟩, rfl, rfl⟩)))) (fun _ => wz_per))
  · exact wz_if (fun _ => wz_ok (Or.inr (Or.inr (Or.inr ⟨rfl, rfl, fun i hi => absurd hi (Nat.not_lt_zero _)⟩)))) (fun _ => wz_nst (fun _ => wz_bi wz_px0 (fun c t1 k1 => wz_T2 f _ t1 (alp.one k1))))
  · exact wz_bi wz_pxv (fun c t1 k1 => wz_T1 f _ t1 (alp.one k1) (Nat.le_refl _))
  · exact wz_ok (Or.inl ⟨rfl, rfl⟩)
end Ty
/-- what a loop of parts tells -/
def lpq (n : Nat) (cs : List Tre) (t : Tok) (x : List Tre × List (List Int32) × Tok) : Prop := tkf n x.2.2 ∧ tlz n x.2.2 ≤ tlz n t ∧ x.1.length + tlz n x.2.2 ≤ cs.length + tlz n t ∧ alp ptw x.1
/-- what a MODULE's text tells -/
def mpq (n k : Nat) (t : Tok) (x : Mdl × List (List Int32) × Tok) : Prop := tkf n x.2.2 ∧ tlz n x.2.2 ≤ tlz n t ∧ x.1.2.1.length + x.1.2.2.length + tlz n x.2.2 ≤ k + tlz n t ∧ mdw x.1
section Ms
variable {T : Nat → Int32} {n f dep : Nat}
theorem ptw_t {k : Nat} {nm : List Int32} {c : Tre} (h : (k = 73 ∧ tyw c) ∨ (k ∈ [74, 34, 35, 36, 37, 38] ∧ exw 905 c) ∨ (k ∈ [75, 32, 33] ∧ chw 905 c)) : ptw (tmk k 0 [nm] [c]) := ⟨⟨rfl, rfl⟩, h⟩
theorem lpq.step {cs cs1 : List Tre} {t t1 : Tok} {x : List Tre × List (List Int32) × Tok} (h : lpq n cs1 t1 x) (h1 : cs1.length = cs.length + 1) (h2 : tlz n t1 < tlz n t) : lpq n cs t x := ⟨h.1, by have := h.2.1; omega, by have := h.2.2.1; omega, h.2.2.2⟩
theorem gz.imp {α : Type} {Q Q' : α → Prop} {r : Option (Nat ⊕ α)} (h : gz Q' r) (hi : ∀ x, Q' x → Q x) : gz Q r := ⟨h.1, fun x e => hi x (h.2 x e)⟩
theorem gz_V : ∀ g cs sy t, tkf n t → tlz n t < g → 16 * tlz n t < f → alp ptw cs → gz (lpq n cs t) (mxV T n f dep g cs sy t)
  | 0, _, _, _, _, h, _, _ => absurd h (Nat.not_lt_zero _)
  | g + 1, cs, sy, t, ht, h, hf, hc => by
    rw [mxV]
    refine gz_if (fun _ => gz_ok ⟨ht, Nat.le_refl _, Nat.le_refl _, hc⟩) (fun e => ?_)
    have h2 := tl_adv (T := T) ht (by rw [nmz_2 e]; decide)
    refine gz_ex h2.1 (fun k1 k2 => gz_bi (rs_T k1 (by omega)) wz_T (fun c t2 k3 k4 w => gz_ex k3 (fun k5 k6 => ?_)))
    exact (gz_V g _ _ _ k5 (by omega) (by omega) (hc.add (ptw_t (Or.inl ⟨rfl, w⟩)))).imp (fun x z => z.step len_ap (by omega))
theorem gz_D : ∀ g cs sy t, tkf n t → tlz n t < g → 16 * tlz n t < f → alp ptw cs → gz (lpq n cs t) (mxD T n f dep g cs sy t)
  | 0, _, _, _, _, h, _, _ => absurd h (Nat.not_lt_zero _)
  | g + 1, cs, sy, t, ht, h, hf, hc => by
    rw [mxD]
    refine gz_if (fun _ => gz_ok ⟨ht, Nat.le_refl _, Nat.le_refl _, hc⟩) (fun e => ?_)
    have h2 := tl_adv (T := T) ht (by rw [nmz_2 e]; decide)
    refine gz_ex h2.1 (fun k1 k2 => gz_bi (m := tlz n (adv T n (adv T n t))) (px_fuel f 0 dep [] _ (by decide) k1 (by show 16 * _ + 9 < f; omega)) wz_px0 (fun c t2 k3 k4 w => gz_ex k3 (fun k5 k6 => ?_)))
    exact (gz_D g _ _ _ k5 (by omega) (by omega) (hc.add (ptw_t (Or.inr (Or.inl ⟨by show 74 ∈ _; decide, w⟩))))).imp (fun x z => z.step len_ap (by omega))
theorem gz_A : ∀ g cs sy t, tkf n t → tlz n t < g → 16 * tlz n t < f → alp ptw cs → gz (lpq n cs t) (mxA T n f dep g cs sy t)
  | 0, _, _, _, _, h, _, _ => absurd h (Nat.not_lt_zero _)
  | g + 1, cs, sy, t, ht, h, hf, hc => by
    rw [mxA]
    refine gz_if (fun _ => gz_if (fun _ => gz_ok ⟨ht, Nat.le_refl _, Nat.le_refl _, hc⟩) (fun e => ?_)) (fun e => ?_)
    · have h2 := tl_adv (T := T) ht (one_ne e)
      refine gz_ex h2.1 (fun k1 k2 => gz_if (fun _ => gz_pe) (fun e2 => ?_))
      have h3 := tl_adv (T := T) k1 (by rw [nmz_2 e2]; decide)
      refine gz_ex h3.1 (fun k3 k4 => gz_ex k3 (fun k5 k6 => gz_bi (m := tlz n (adv T n (adv T n (adv T n (adv T n (adv T n t)))))) (px_fuel f 11 dep [] _ (by decide) k5 (by show 16 * _ + 10 < f; omega)) wz_px11 (fun c t2 k7 k8 w => gz_ex k7 (fun k9 k10 => ?_))))
      refine (gz_A g _ _ _ k9 (by omega) (by omega) (hc.add (ptw_t (Or.inr (Or.inr ⟨?_, w⟩))))).imp (fun x z => z.step len_ap (by omega))
      have h := one_mem e
      simp only [List.mem_cons, List.not_mem_nil, or_false] at h
      rcases h with h | h <;> (show one T t [32, 33] ∈ _; rw [h]; decide)
    · have h2 := tl_adv (T := T) ht (by rw [nmz_2 e]; decide)
      refine gz_ex h2.1 (fun k1 k2 => gz_bi (m := tlz n (adv T n (adv T n t))) (px_fuel f 11 dep [] _ (by decide) k1 (by show 16 * _ + 10 < f; omega)) wz_px11 (fun c t2 k3 k4 w => gz_ex k3 (fun k5 k6 => ?_)))
      exact (gz_A g _ _ _ k5 (by omega) (by omega) (hc.add (ptw_t (Or.inr (Or.inr ⟨by show 75 ∈ _; decide, w⟩))))).imp (fun x z => z.step len_ap (by omega))
theorem mpq.step {k k1 : Nat} {t t1 : Tok} {x : Mdl × List (List Int32) × Tok} (h : mpq n k1 t1 x) (h1 : k1 + tlz n t1 ≤ k + tlz n t) (h2 : tlz n t1 ≤ tlz n t) : mpq n k t x := ⟨h.1, by have := h.2.1; omega, by have := h.2.2.1; omega, h.2.2.2⟩
theorem gz_P {nm : List Int32} {ps : List Tre} (hp : alp prw ps) : ∀ g cs sy t, tkf n t → tlz n t < g → 16 * tlz n t < f → alp ptw cs → gz (mpq n (ps.length + cs.length) t) (mxP T n f dep nm ps g cs sy t)
  | 0, _, _, _, _, h, _, _ => absurd h (Nat.not_lt_zero _)
  | g + 1, cs, sy, t, ht, h, hf, hc => by
    rw [mxP]
    have fin : gz (mpq n (ps.length + cs.length) t) (gok ((nm, ps, cs), sy, t)) := gz_ok ⟨ht, Nat.le_refl _, Nat.le_refl _, hp, hc⟩
    refine gz_if (fun _ => fin) (fun _ => gz_if (fun _ => gz_if (fun _ => gz_pe) (fun e => ?_)) (fun _ => fin))
    have h2 := tl_adv (T := T) ht (one_ne e)
    refine gz_if (fun _ => ?_) (fun n1 => gz_if (fun _ => ?_) (fun n2 => gz_if (fun _ => ?_) (fun n3 => ?_)))
    · exact gz_qbi (gz_V f cs sy _ h2.1 (by omega) (by omega) hc) (fun cs1 sy1 t1 w => (gz_P hp g cs1 sy1 t1 w.1 (by have := w.2.1; have : tlz n t1 ≤ tlz n (adv T n t) := w.2.1; omega) (by have : tlz n t1 ≤ tlz n (adv T n t) := w.2.1; omega) w.2.2.2).imp (fun x z => z.step (by have : cs1.length + tlz n t1 ≤ cs.length + tlz n (adv T n t) := w.2.2.1; omega) (by have : tlz n t1 ≤ tlz n (adv T n t) := w.2.1; omega)))
    · exact gz_qbi (gz_D f cs sy _ h2.1 (by omega) (by omega) hc) (fun cs1 sy1 t1 w => (gz_P hp g cs1 sy1 t1 w.1 (by have := w.2.1; have : tlz n t1 ≤ tlz n (adv T n t) := w.2.1; omega) (by have : tlz n t1 ≤ tlz n (adv T n t) := w.2.1; omega) w.2.2.2).imp (fun x z => z.step (by have : cs1.length + tlz n t1 ≤ cs.length + tlz n (adv T n t) := w.2.2.1; omega) (by have : tlz n t1 ≤ tlz n (adv T n t) := w.2.1; omega)))
    · exact gz_qbi (gz_A f cs sy _ h2.1 (by omega) (by omega) hc) (fun cs1 sy1 t1 w => (gz_P hp g cs1 sy1 t1 w.1 (by have := w.2.1; have : tlz n t1 ≤ tlz n (adv T n t) := w.2.1; omega) (by have : tlz n t1 ≤ tlz n (adv T n t) := w.2.1; omega) w.2.2.2).imp (fun x z => z.step (by have : cs1.length + tlz n t1 ≤ cs.length + tlz n (adv T n t) := w.2.2.1; omega) (by have : tlz n t1 ≤ tlz n (adv T n t) := w.2.1; omega)))
    · refine gz_bi (m := tlz n (adv T n t)) (px_fuel f 0 dep [] _ (by decide) h2.1 (by show 16 * _ + 9 < f; omega)) wz_px0 (fun c t1 k1 k2 w => gz_ex k1 (fun k3 k4 => ?_))
      refine (gz_P hp g _ _ _ k3 (by omega) (by omega) (hc.add (ptw_t (Or.inr (Or.inl ⟨?_, w⟩))))).imp (fun x z => z.step (by rw [len_ap]; omega) (by omega))
      have h := one_mem e
      simp only [List.mem_cons, List.not_mem_nil, or_false] at h
      rcases h with h | h | h | h | h | h | h | h
      · exact absurd h n1
      · exact absurd h n2
      · exact absurd h n3
      all_goals (show one T t [29, 30, 31, 34, 35, 36, 37, 38] ∈ _; rw [h]; decide)
theorem gz_R {nm : List Int32} : ∀ g ps sy t, tkf n t → tlz n t < g → 16 * tlz n t < f → alp prw ps → gz (mpq n ps.length t) (mxR T n f dep nm g ps sy t)
  | 0, _, _, _, _, h, _, _ => absurd h (Nat.not_lt_zero _)
  | g + 1, ps, sy, t, ht, h, hf, hc => by
    rw [mxR]
    refine gz_if (fun _ => gz_ex ht (fun k1 k2 => ?_)) (fun e => gz_if (fun _ => gz_pe) (fun e2 => ?_))
    · exact (gz_P hc f [] sy _ k1 (by omega) (by omega) alp.nil).imp (fun x z => z.step (by show ps.length + 0 + _ ≤ _; omega) (by omega))
    · have h2 := tl_adv (T := T) ht (tis_ne e)
      have h3 := tl_adv (T := T) h2.1 (by rw [nmz_2 e2]; decide)
      exact (gz_R g _ sy _ h3.1 (by omega) (by omega) (hc.add ⟨rfl, rfl, rfl⟩)).imp (fun x z => z.step (by rw [len_ap]; omega) (by omega))
theorem gz_M {sy : List (List Int32)} {t : Tok} (ht : tkf n t) (hf : 16 * tlz n t < f) : gz (fun x => mpq n 0 t x ∧ tlz n x.2.2 < tlz n t) (mxM T n f dep sy t) := by
  unfold mxM
  refine gz_ex ht (fun k1 k2 => gz_if (fun _ => gz_pe) (fun e => ?_))
  have h2 := tl_adv (T := T) k1 (by rw [nmz_2 e]; decide)
  refine gz_if (fun _ => ?_) (fun e2 => gz_if (fun _ => gz_pe) (fun e3 => ?_))
  · exact (gz_P alp.nil f [] sy _ h2.1 (by omega) (by omega) alp.nil).imp (fun x z => ⟨z.step (by show 0 + 0 + _ ≤ _; omega) (by omega), by have := z.2.1; omega⟩)
  · have h3 := tl_adv (T := T) h2.1 (tis_ne e2)
    have h4 := tl_adv (T := T) h3.1 (by rw [nmz_2 e3]; decide)
    exact (gz_R f _ sy _ h4.1 (by omega) (by omega) (alp.one ⟨rfl, rfl, rfl⟩)).imp (fun x z => ⟨z.step (by show 1 + _ ≤ _; omega) (by omega), by have := z.2.1; omega⟩)
/-- how many params and parts there are -/
def msz : List Mdl → Nat
  | [] => 0
  | y :: l => y.2.1.length + y.2.2.length + 1 + msz l
theorem msz_ap {y : Mdl} : ∀ ms : List Mdl, msz (ms ++ [y]) = msz ms + (y.2.1.length + y.2.2.length + 1)
  | [] => by show y.2.1.length + y.2.2.length + 1 + 0 = 0 + _; omega
  | z :: l => by
    show z.2.1.length + z.2.2.length + 1 + msz (l ++ [y]) = _
    rw [msz_ap l]
    show _ = z.2.1.length + z.2.2.length + 1 + msz l + _
    omega
def alm (ms : List Mdl) : Prop := ∀ i, i < ms.length → mdw (ms.getD i ([], [], []))
theorem alm.add {ms : List Mdl} {y : Mdl} (h : alm ms) (hy : mdw y) : alm (ms ++ [y]) := by
  intro i hi
  rw [List.length_append] at hi
  have hi : i < ms.length + 1 := hi
  by_cases e : i = ms.length
  · subst e
    rw [show (ms ++ [y]).getD ms.length ([], [], []) = y by simp [List.getD_eq_getElem?_getD]]
    exact hy
  · rw [show (ms ++ [y]).getD i ([], [], []) = ms.getD i ([], [], []) by simp [List.getD_eq_getElem?_getD, List.getElem?_append_left (show i < ms.length by omega)]]
    exact h i (by omega)
theorem gz_Q : ∀ g ms sy t, tkf n t → tlz n t < g → 16 * tlz n t < f → alm ms → gz (fun x => alm x.1 ∧ 1 ≤ x.1.length ∧ msz x.1 ≤ msz ms + 2 * tlz n t) (mxQ T n f dep g ms sy t)
  | 0, _, _, _, _, h, _, _ => absurd h (Nat.not_lt_zero _)
  | g + 1, ms, sy, t, ht, h, hf, hm => by
    rw [mxQ]
    refine gz_mbi (gz_M ht hf) (fun y sy1 t1 w => ?_)
    have w1 : tlz n t1 < tlz n t := w.2
    have w2 : y.2.1.length + y.2.2.length + tlz n t1 ≤ 0 + tlz n t := w.1.2.2.1
    have w3 := msz_ap (y := y) ms
    refine gz_if (fun _ => gz_ok ⟨hm.add w.1.2.2.2, by show 1 ≤ (ms ++ [y]).length; rw [List.length_append]; exact Nat.le_add_left _ _, by show msz (ms ++ [y]) ≤ _; omega⟩) (fun _ => ?_)
    exact (gz_Q g (ms ++ [y]) sy1 t1 w.1.1 (by omega) (by omega) (hm.add w.1.2.2.2)).imp (fun x z => ⟨z.1, z.2.1, by have := z.2.2; omega⟩)
end Ms
/-- parse without the machine: an answer at fuel 16 n + 40, well formed -/
theorem gz_parse {T : Nat → Int32} {n dep : Nat} : gz (fun x => alm x.1 ∧ 1 ≤ x.1.length ∧ msz x.1 ≤ 2 * n + 2) (mxQ T n (16 * n + 40) dep (16 * n + 40) [] [] (tkz T n 0)) := by
  have h := (tkz_f (T := T) (Nat.zero_le n)).1
  have h1 : tlz n (tkz T n 0) ≤ n + 1 := by unfold tlz; split <;> omega
  exact (gz_Q _ [] [] _ h (by omega) (by omega) (fun i hi => absurd hi (Nat.not_lt_zero _))).imp (fun x z => ⟨z.1, z.2.1, by have := z.2.2; have e : msz [] = 0 := rfl; omega⟩)
