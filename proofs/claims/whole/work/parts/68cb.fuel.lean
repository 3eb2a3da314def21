/-! The parser without the machine: enough fuel -/
/-- how much is left to read -/
def tlz (n : Nat) (t : Tok) : Nat := (n - t.2.2) + (if t.1 = 0 ∨ t.1 = 1 then 0 else 1)
/-- there is an answer; a tree leaves less than m to read -/
def rsz (n m : Nat) (r : PR) : Prop := r ≠ none ∧ ∀ c t1, r = some (.inr (c, t1)) → tkf n t1 ∧ tlz n t1 < m
section Rsz
variable {T : Nat → Int32} {n m m' : Nat} {t : Tok} {r : PR}
theorem tl_adv (h : tkf n t) (h2 : t.1 ≠ 0 ∧ t.1 ≠ 1) : tkf n (adv T n t) ∧ tlz n (adv T n t) < tlz n t := by
  obtain ⟨g1, g2, g3⟩ := tkz_f (T := T) (show t.2.2 ≤ n from h.2.2)
  refine ⟨g1, ?_⟩
  show tlz n (tkz T n t.2.2) < tlz n t
  have g4 := g1.2.2
  have h3 := h.2.2
  unfold tlz
  rw [if_neg (show ¬ (t.1 = 0 ∨ t.1 = 1) from fun z => z.elim h2.1 h2.2)]
  by_cases e : (tkz T n t.2.2).1 = 0 ∨ (tkz T n t.2.2).1 = 1
  · rw [if_pos e]; omega
  · rw [if_neg e]
    have g5 : t.2.2 < (tkz T n t.2.2).2.2 := by
      rcases g3 with g3 | g3 | g3
      · exact absurd (Or.inl g3) e
      · exact absurd (Or.inr g3) e
      · exact g3
    omega
theorem rsz.wk (h : rsz n m r) (hm : m ≤ m') : rsz n m' r := ⟨h.1, fun c t1 e => ⟨(h.2 c t1 e).1, Nat.lt_of_lt_of_le (h.2 c t1 e).2 hm⟩⟩
theorem rs_ok {c : Tre} (h : tkf n t) (h2 : tlz n t < m) : rsz n m (pok c t) := ⟨(fun e => by cases e), fun c' t' e => by cases e; exact ⟨h, h2⟩⟩
theorem rs_per : rsz n m (per t) := ⟨(fun e => by cases e), fun c' t' e => by cases e⟩
theorem rs_bi {k : Tre → Tok → PR} (h : rsz n m r) (hk : ∀ c t1, tkf n t1 → tlz n t1 < m → rsz n m' (k c t1)) : rsz n m' (pbi r k) := by
  obtain ⟨h1, h2⟩ := h
  match r, h1, h2 with
  | none, h1, _ => exact absurd rfl h1
  | some (.inl e), _, _ => exact ⟨(fun e => by cases e), fun c' t' e => by cases e⟩
  | some (.inr (c, t1)), _, h2 => exact hk c t1 (h2 c t1 rfl).1 (h2 c t1 rfl).2
theorem rs_nst {dep : Nat} {k : Nat → PR} (hk : ∀ d, rsz n m (k d)) : rsz n m (nst dep t k) := by
  unfold nst
  by_cases e : dep < 150
  · rw [if_pos e]; exact hk _
  · rw [if_neg e]; exact rs_per
theorem rs_if {p : Prop} [Decidable p] {a b : PR} (h1 : p → rsz n m a) (h2 : ¬ p → rsz n m b) : rsz n m (if p then a else b) := by
  by_cases e : p
  · rw [if_pos e]; exact h1 e
  · rw [if_neg e]; exact h2 e
theorem rs_exq {j : Nat} {k : Tok → PR} (ht : tkf n t) (hk : tkf n (adv T n t) → tlz n (adv T n t) < tlz n t → rsz n m (k (adv T n t))) : rsz n m (exq T n j t k) := by
  unfold exq
  refine rs_if (fun _ => rs_per) (fun e => ?_)
  have := tl_adv (T := T) ht (tis_ne e)
  exact hk this.1 this.2
theorem rs_pth : ∀ f k ns t, tkf n t → tlz n t < f → rsz n (tlz n t + 1) (pth T n f k ns t)
  | 0, _, _, _, _, h => absurd h (Nat.not_lt_zero _)
  | f + 1, k, ns, t, ht, h => by
    rw [pth]
    refine rs_if (fun _ => rs_ok ht (Nat.lt_succ_self _)) (fun e => rs_if (fun _ => rs_per) (fun e2 => ?_))
    have h1 := tl_adv (T := T) ht (tis_ne e)
    have h2 := tl_adv (T := T) h1.1 (by rw [nmz_2 e2]; decide)
    exact (rs_pth f k _ _ h2.1 (by omega)).wk (by omega)
theorem rs_pxp {k : Nat} (ht : tkf n t) : rsz n (tlz n t) (pxp T n k t) := by
  unfold pxp
  refine rs_if (fun _ => rs_per) (fun e => ?_)
  have h1 := tl_adv (T := T) ht (by rw [nmz_2 e]; decide)
  have h2 : tlz n t ≤ n + 1 := by
    unfold tlz
    by_cases e : t.1 = 0 ∨ t.1 = 1
    · rw [if_pos e]; omega
    · rw [if_neg e]; omega
  exact (rs_pth (n + 1) k _ _ h1.1 (by omega)).wk (by omega)
end Rsz
def rkz (nt : Nat) : Nat := [9, 8, 7, 6, 5, 4, 3, 2, 1, 0, 0, 10, 0, 0, 0, 0, 0, 0, 0, 0, 0, 0, 0, 0, 0, 0, 0, 0, 0, 10, 10, 0].getD nt 0
def lpz (nt : Nat) : Nat := if nt < 20 then 0 else 1
def ntl : List Nat := [0, 1, 2, 3, 4, 5, 6, 7, 8, 9, 10, 11, 20, 21, 22, 23, 25, 26, 27, 29, 30, 31]
section Fuel
variable {T : Nat → Int32} {n f : Nat} {P : Nat → Nat → List Tre → Tok → PR}
def fuP (n f : Nat) (P : Nat → Nat → List Tre → Tok → PR) : Prop := ∀ nt dep cs t, nt ∈ ntl → tkf n t → 16 * tlz n t + rkz nt < f → rsz n (tlz n t + lpz nt) (P nt dep cs t)
theorem fu_A {op sub lp dep r : Nat} {t : Tok} (hP : fuP n f P) (h1 : sub ∈ ntl ∧ lp ∈ ntl ∧ sub < 20 ∧ rkz sub + 1 ≤ r ∧ rkz lp = 0 ∧ r ≤ 10) (ht : tkf n t) (hf : 16 * tlz n t + r < f + 1) : rsz n (tlz n t) (pxA T P op sub lp dep t) := by
  obtain ⟨a1, a2, a3, a4, a5, a6⟩ := h1
  have hl : lpz sub = 0 := if_pos a3
  have hl2 : lpz lp ≤ 1 := by unfold lpz; split <;> omega
  have q := hP sub dep [] t a1 ht (by omega)
  rw [hl] at q
  refine rs_bi q (fun c t1 k1 k2 => rs_if (fun _ => rs_ok k1 k2) (fun _ => ?_))
  exact (hP lp dep [c] t1 a2 k1 (by rw [a5]; omega)).wk (by omega)
theorem fu_B {ms : List Nat} {sub lp dep r : Nat} {t : Tok} (hP : fuP n f P) (h1 : sub ∈ ntl ∧ lp ∈ ntl ∧ sub < 20 ∧ rkz sub + 1 ≤ r ∧ rkz lp = 0 ∧ r ≤ 10) (ht : tkf n t) (hf : 16 * tlz n t + r < f + 1) : rsz n (tlz n t) (pxB T P ms sub lp dep t) := by
  obtain ⟨a1, a2, a3, a4, a5, a6⟩ := h1
  have hl : lpz sub = 0 := if_pos a3
  have hl2 : lpz lp ≤ 1 := by unfold lpz; split <;> omega
  have q := hP sub dep [] t a1 ht (by omega)
  rw [hl] at q
  refine rs_bi q (fun c t1 k1 k2 => rs_if (fun _ => rs_ok k1 k2) (fun _ => ?_))
  exact (hP lp dep [c] t1 a2 k1 (by rw [a5]; omega)).wk (by omega)
theorem fu_Al {op sub lp dep : Nat} {cs : List Tre} {t : Tok} (hP : fuP n f P) (h1 : sub ∈ ntl ∧ lp ∈ ntl ∧ sub < 20 ∧ rkz sub ≤ 10 ∧ rkz lp = 0) (ht : tkf n t) (hf : 16 * tlz n t < f + 1) : rsz n (tlz n t + 1) (pxAl T n P op sub lp dep cs t) := by
  obtain ⟨a1, a2, a3, a4, a5⟩ := h1
  have hl : lpz sub = 0 := if_pos a3
  have hl2 : lpz lp ≤ 1 := by unfold lpz; split <;> omega
  refine rs_if (fun _ => rs_ok ht (Nat.lt_succ_self _)) (fun e => ?_)
  have h2 := tl_adv (T := T) ht (tis_ne e)
  have q := hP sub dep [] (adv T n t) a1 h2.1 (by omega)
  rw [hl] at q
  refine rs_bi q (fun c t1 k1 k2 => ?_)
  exact (hP lp dep (cs ++ [c]) t1 a2 k1 (by rw [a5]; omega)).wk (by omega)
theorem fu_Bl {ms : List Nat} {sub lp dep : Nat} {cs : List Tre} {t : Tok} (hP : fuP n f P) (h1 : sub ∈ ntl ∧ lp ∈ ntl ∧ sub < 20 ∧ rkz sub ≤ 10 ∧ rkz lp = 0) (ht : tkf n t) (hf : 16 * tlz n t < f + 1) : rsz n (tlz n t + 1) (pxBl T n P ms sub lp dep cs t) := by
  obtain ⟨a1, a2, a3, a4, a5⟩ := h1
  have hl : lpz sub = 0 := if_pos a3
  have hl2 : lpz lp ≤ 1 := by unfold lpz; split <;> omega
  refine rs_if (fun _ => rs_ok ht (Nat.lt_succ_self _)) (fun e => ?_)
  have h2 := tl_adv (T := T) ht (one_ne e)
  have q := hP sub dep [] (adv T n t) a1 h2.1 (by omega)
  rw [hl] at q
  refine rs_bi q (fun c t1 k1 k2 => ?_)
  exact (hP lp dep _ t1 a2 k1 (by rw [a5]; omega)).wk (by omega)
theorem fu_L {k lp dep : Nat} {cs : List Tre} {t : Tok} (hP : fuP n f P) (h1 : lp ∈ ntl ∧ rkz lp = 0) (ht : tkf n t) (hf : 16 * tlz n t < f + 1) : rsz n (tlz n t + 1) (pxL T n P k lp dep cs t) := by
  obtain ⟨a2, a5⟩ := h1
  have hl2 : lpz lp ≤ 1 := by unfold lpz; split <;> omega
  refine rs_if (fun _ => rs_exq ht (fun k1 k2 => rs_ok k1 (by omega))) (fun e => ?_)
  have h2 := tl_adv (T := T) ht (tis_ne e)
  have q : rsz n (tlz n (adv T n t)) (P 0 dep [] (adv T n t)) := hP 0 dep [] (adv T n t) (by decide) h2.1 (by show 16 * _ + 9 < f; omega)
  refine rs_bi q (fun c t1 k1 k2 => ?_)
  exact (hP lp dep (cs ++ [c]) t1 a2 k1 (by rw [a5]; omega)).wk (by omega)
theorem fu_C {sub lp dep : Nat} {cs : List Tre} {t : Tok} (hP : fuP n f P) (h1 : sub ∈ ntl ∧ lp ∈ ntl ∧ sub < 20 ∧ rkz sub ≤ 10 ∧ rkz lp ≤ 10) (ht : tkf n t) (hf : 16 * tlz n t + 10 < f + 1) : rsz n (tlz n t + 1) (pxC T n P sub lp dep cs t) := by
  obtain ⟨a1, a2, a3, a4, a5⟩ := h1
  have hl : lpz sub = 0 := if_pos a3
  have hl2 : lpz lp ≤ 1 := by unfold lpz; split <;> omega
  have q : rsz n (tlz n t) (P 0 dep [] t) := hP 0 dep [] t (by decide) ht (by show 16 * _ + 9 < f; omega)
  refine rs_bi q (fun c t1 k1 k2 => rs_exq k1 (fun k3 k4 => ?_))
  have q2 := hP sub dep [] (adv T n t1) a1 k3 (by omega)
  rw [hl] at q2
  refine rs_bi q2 (fun c2 t3 k5 k6 => rs_exq k5 (fun k7 k8 => rs_if (fun _ => ?_) (fun e => ?_)))
  · exact (hP lp dep _ _ a2 k7 (by omega)).wk (by omega)
  · have h2 := tl_adv (T := T) k7 (tis_ne e)
    exact rs_ok h2.1 (by omega)
theorem fu_4 {dep : Nat} {t : Tok} (hP : fuP n f P) (ht : tkf n t) (hf : 16 * tlz n t + 5 < f + 1) : rsz n (tlz n t) (px4 T n P dep t) := by
  refine rs_nst (fun d1 => rs_if (fun _ => rs_if (fun _ => rs_if (fun _ => ?_) (fun e => ?_)) (fun e => ?_)) (fun e => ?_))
  · exact hP 5 d1 [] t (by decide) ht (by show 16 * _ + 4 < f; omega)
  · have h2 := tl_adv (T := T) ht (one_ne e)
    refine rs_exq h2.1 (fun k1 k2 => rs_nst (fun d2 => ?_))
    refine rs_bi (m := tlz n (adv T n (adv T n t))) (hP 0 d2 [] _ (by decide) k1 (by show 16 * _ + 9 < f; omega)) (fun c t3 k3 k4 => rs_exq k3 (fun k5 k6 => rs_nst (fun d3 => ?_)))
    refine rs_bi (m := tlz n (adv T n t3)) (hP 0 d3 [] _ (by decide) k5 (by show 16 * _ + 9 < f; omega)) (fun c2 t5 k7 k8 => rs_exq k7 (fun k9 k10 => rs_ok k9 (by omega)))
  · have h2 := tl_adv (T := T) ht (one_ne e)
    exact rs_bi (m := tlz n (adv T n t)) (hP 4 d1 [] _ (by decide) h2.1 (by show 16 * _ + 5 < f; omega)) (fun c t1 k1 k2 => rs_ok k1 (by omega))
  · have h2 := tl_adv (T := T) ht (tis_ne e)
    exact rs_bi (m := tlz n (adv T n t)) (hP 4 d1 [] _ (by decide) h2.1 (by show 16 * _ + 5 < f; omega)) (fun c t1 k1 k2 => rs_ok k1 (by omega))
theorem fu_5 {dep : Nat} {t : Tok} (hP : fuP n f P) (ht : tkf n t) (hf : 16 * tlz n t + 4 < f + 1) : rsz n (tlz n t) (px5 T n P dep t) := by
  refine rs_bi (m := tlz n t) (hP 6 dep [] t (by decide) ht (by show 16 * _ + 3 < f; omega)) (fun c t1 k1 k2 => rs_if (fun _ => rs_if (fun _ => rs_ok k1 k2) (fun e => ?_)) (fun e => ?_))
  · have h2 := tl_adv (T := T) k1 (one_ne e)
    exact rs_bi (m := tlz n (adv T n t1)) (hP 6 dep [] _ (by decide) h2.1 (by show 16 * _ + 3 < f; omega)) (fun c t1 k1 k2 => rs_ok k1 (by omega))
  · have h2 := tl_adv (T := T) k1 (tis_ne e)
    refine rs_exq h2.1 (fun k3 k4 => rs_bi (m := tlz n (adv T n (adv T n t1))) (hP 0 dep [] _ (by decide) k3 (by show 16 * _ + 9 < f; omega)) (fun c2 t3 k5 k6 => ?_))
    exact rsz.wk (m := tlz n t3 + 1) (hP 25 dep _ t3 (by decide) k5 (by show 16 * _ + 0 < f; omega)) (by omega)
theorem fu_8 {dep : Nat} {t : Tok} (hP : fuP n f P) (ht : tkf n t) (hf : 16 * tlz n t + 1 < f + 1) : rsz n (tlz n t) (px8 T n P dep t) := by
  refine rs_nst (fun d1 => rs_if (fun _ => rs_if (fun e => ?_) (fun _ => rs_if (fun _ => rs_if (fun _ => rs_if (fun _ => rs_if (fun _ => ?_) (fun e => ?_)) (fun e => ?_)) (fun e => ?_)) (fun e => ?_))) (fun e => ?_))
  · have h2 := tl_adv (T := T) ht (by rw [e]; decide)
    exact rs_ok h2.1 h2.2
  · exact rs_pxp ht
  · exact hP 9 d1 [] t (by decide) ht (by show 16 * _ + 0 < f; omega)
  · have h2 := tl_adv (T := T) ht (tis_ne e)
    refine rs_nst (fun d2 => rs_bi (m := tlz n (adv T n t)) (hP 0 d2 [] _ (by decide) h2.1 (by show 16 * _ + 9 < f; omega)) (fun c t2 k1 k2 => rs_exq k1 (fun k3 k4 => rs_ok k3 (by omega))))
  · have h2 := tl_adv (T := T) ht (tis_ne e)
    exact rs_exq h2.1 (fun k1 k2 => rs_bi (rs_pxp k1) (fun c t3 k3 k4 => rs_exq k3 (fun k5 k6 => rs_ok k5 (by omega))))
  · have h2 := tl_adv (T := T) ht (one_ne e)
    exact rs_ok h2.1 h2.2
  · have h2 := tl_adv (T := T) ht (tis_ne e)
    exact rs_bi (m := tlz n (adv T n t)) (hP 8 d1 [] _ (by decide) h2.1 (by show 16 * _ + 1 < f; omega)) (fun c t1 k1 k2 => rs_ok k1 (by omega))
theorem fu_9 {lp dep : Nat} {t : Tok} (hP : fuP n f P) (h1 : lp ∈ ntl ∧ rkz lp ≤ 10) (ht : tkf n t) (hf : 16 * tlz n t < f + 1) : rsz n (tlz n t) (px9 T n P lp dep t) := by
  have hl2 : lpz lp ≤ 1 := by unfold lpz; split <;> omega
  refine rs_nst (fun d1 => rs_exq ht (fun k1 k2 => ?_))
  exact (hP lp d1 [] _ h1.1 k1 (by omega)).wk (by omega)
theorem fu_11 {dep : Nat} {t : Tok} (hP : fuP n f P) (ht : tkf n t) (hf : 16 * tlz n t + 10 < f + 1) : rsz n (tlz n t) (px11 T n P dep t) := by
  refine rs_nst (fun d1 => rs_if (fun _ => rs_if (fun _ => ?_) (fun e => ?_)) (fun e => ?_))
  · exact hP 0 d1 [] t (by decide) ht (by show 16 * _ + 9 < f; omega)
  · exact hP 10 d1 [] t (by decide) ht (by show 16 * _ + 0 < f; omega)
  · have h2 := tl_adv (T := T) ht (tis_ne e)
    refine rs_bi (m := tlz n (adv T n t)) (hP 0 d1 [] _ (by decide) h2.1 (by show 16 * _ + 9 < f; omega)) (fun c t1 k1 k2 => ?_)
    exact rsz.wk (m := tlz n t1 + 1) (hP 31 d1 _ t1 (by decide) k1 (by show 16 * _ + 0 < f; omega)) (by omega)
theorem fu_s (hP : fuP n f P) : fuP n (f + 1) (pxs T n P) := by
  intro nt dep cs t hn ht hf
  simp only [ntl, List.mem_cons, List.not_mem_nil, or_false] at hn
  rcases hn with h | h | h | h | h | h | h | h | h | h | h | h | h | h | h | h | h | h | h | h | h | h
  all_goals subst h
  · exact fu_A (r := 9) hP (by decide) ht hf
  · exact fu_A (r := 8) hP (by decide) ht hf
  · exact fu_B (r := 7) hP (by decide) ht hf
  · exact fu_A (r := 6) hP (by decide) ht hf
  · exact fu_4 hP ht hf
  · exact fu_5 hP ht hf
  · exact fu_B (r := 3) hP (by decide) ht hf
  · exact fu_B (r := 2) hP (by decide) ht hf
  · exact fu_8 hP ht hf
  · exact fu_9 hP (by decide) ht hf
  · exact fu_9 hP (by decide) ht hf
  · exact fu_11 hP ht hf
  · exact fu_Al hP (by decide) ht hf
  · exact fu_Al hP (by decide) ht hf
  · exact fu_Bl hP (by decide) ht hf
  · exact fu_Al hP (by decide) ht hf
  · exact fu_L hP (by decide) ht hf
  · exact fu_Bl hP (by decide) ht hf
  · exact fu_Bl hP (by decide) ht hf
  · exact fu_C hP (by decide) ht hf
  · exact fu_C hP (by decide) ht hf
  · exact fu_L hP (by decide) ht hf
end Fuel
/-- the pure parser has an answer once its fuel is above 16 times what is left to read -/
theorem px_fuel {T : Nat → Int32} {n : Nat} : ∀ f, fuP n f (px T n f)
  | 0 => fun _ _ _ _ _ _ h => absurd h (Nat.not_lt_zero _)
  | f + 1 => fu_s (px_fuel f)
