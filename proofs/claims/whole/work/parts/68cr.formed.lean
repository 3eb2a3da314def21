/-! The pure parser's trees are well formed: how many parts each kind has, how deep they are -/
/-- an expression, at most l deep -/
def exw : Nat → Tre → Prop
  | 0, _ => False
  | l + 1, c => (tkd c ∈ [63, 54, 55] ∧ tsn c = 0) ∨ (tkd c ∈ [64, 33] ∧ tsn c = 0 ∧ 0 < (tns c).length) ∨ (tkd c ∈ [18, 65, 41, 42, 43, 44, 45, 46] ∧ tsn c = 1 ∧ exw l (tkk c 0)) ∨ (tkd c ∈ [47, 48, 21, 5, 22, 6, 23, 7] ∧ tsn c = 2 ∧ exw l (tkk c 0) ∧ exw l (tkk c 1)) ∨ (tkd c ∈ [2, 19, 1, 50] ∧ 2 ≤ tsn c ∧ ∀ i, i < tsn c → exw l (tkk c i)) ∨ (tkd c = 52 ∧ tsn c % 2 = 0 ∧ 2 ≤ tsn c ∧ ∀ i, i < tsn c → exw l (tkk c i)) ∨ (tkd c = 66 ∧ 2 ≤ tsn c ∧ exw l (tkk c 0) ∧ ∃ ms, ms ∈ [[20, 40], [24, 25], [26, 27, 51]] ∧ ∀ i, 1 ≤ i → i < tsn c → tkd (tkk c i) ∈ ms ∧ tsn (tkk c i) = 1 ∧ exw l (tkk (tkk c i) 0))
/-- a choice, at most l deep -/
def chw : Nat → Tre → Prop
  | 0, _ => False
  | l + 1, c => (tkd c = 10 ∧ 1 ≤ tsn c ∧ ∀ i, i < tsn c → exw l (tkk c i)) ∨ (tkd c = 52 ∧ tsn c % 2 = 0 ∧ 2 ≤ tsn c ∧ (∀ i, i < tsn c → i % 2 = 0 → exw l (tkk c i)) ∧ ∀ i, i < tsn c → i % 2 = 1 → chw l (tkk c i)) ∨ exw (l + 1) c
theorem exw.up : ∀ {l : Nat} {c : Tre}, exw l c → exw (l + 1) c
  | 0, _, h => h.elim
  | l + 1, c, h => by
    rcases h with h | h | ⟨h1, h2, h3⟩ | ⟨h1, h2, h3, h4⟩ | ⟨h1, h2, h3⟩ | ⟨h1, h2, h3, h4⟩ | ⟨h1, h2, h3, ms, h4, h5⟩
    · exact Or.inl h
    · exact Or.inr (Or.inl h)
    · exact Or.inr (Or.inr (Or.inl ⟨h1, h2, exw.up h3⟩))
    · exact Or.inr (Or.inr (Or.inr (Or.inl ⟨h1, h2, exw.up h3, exw.up h4⟩)))
    · exact Or.inr (Or.inr (Or.inr (Or.inr (Or.inl ⟨h1, h2, fun i hi => exw.up (h3 i hi)⟩))))
    · exact Or.inr (Or.inr (Or.inr (Or.inr (Or.inr (Or.inl ⟨h1, h2, h3, fun i hi => exw.up (h4 i hi)⟩)))))
    · exact Or.inr (Or.inr (Or.inr (Or.inr (Or.inr (Or.inr ⟨h1, h2, exw.up h3, ms, h4, fun i hi hj => ⟨(h5 i hi hj).1, (h5 i hi hj).2.1, exw.up (h5 i hi hj).2.2⟩⟩)))))
theorem exw.le {l l' : Nat} {c : Tre} (h : exw l c) (he : l ≤ l') : exw l' c := by
  obtain ⟨m, rfl⟩ := Nat.le.dest he
  clear he
  induction m with
  | zero => exact h
  | succ m ih => exact ih.up
theorem exw.ch {l : Nat} {c : Tre} (h : exw l c) : chw l c := by
  cases l with
  | zero => exact h
  | succ l => exact Or.inr (Or.inr h)
theorem chw.up : ∀ {l : Nat} {c : Tre}, chw l c → chw (l + 1) c
  | 0, _, h => h.elim
  | l + 1, c, h => by
    rcases h with ⟨h1, h2, h3⟩ | ⟨h1, h2, h3, h4, h5⟩ | h
    · exact Or.inl ⟨h1, h2, fun i hi => (h3 i hi).up⟩
    · exact Or.inr (Or.inl ⟨h1, h2, h3, fun i hi e => (h4 i hi e).up, fun i hi e => chw.up (h5 i hi e)⟩)
    · exact Or.inr (Or.inr h.up)
theorem chw.le {l l' : Nat} {c : Tre} (h : chw l c) (he : l ≤ l') : chw l' c := by
  obtain ⟨m, rfl⟩ := Nat.le.dest he
  clear he
  induction m with
  | zero => exact h
  | succ m ih => exact ih.up
/-- whatever tree is told has Q -/
def wz (Q : Tre → Prop) (r : PR) : Prop := ∀ c t1, r = some (.inr (c, t1)) → Q c
section Wz
variable {T : Nat → Int32} {n : Nat} {Q Q' : Tre → Prop} {r : PR} {t : Tok}
theorem wz_ok {c : Tre} (h : Q c) : wz Q (pok c t) := fun c' t' e => by cases e; exact h
theorem wz_per : wz Q (per t) := fun c' t' e => by cases e
theorem wz_bi {k : Tre → Tok → PR} (h : wz Q' r) (hk : ∀ c t1, Q' c → wz Q (k c t1)) : wz Q (pbi r k) := by
  match r, h with
  | none, _ => exact fun c' t' e => by cases e
  | some (.inl e), _ => exact fun c' t' e => by cases e
  | some (.inr (c, t1)), h => exact hk c t1 (h c t1 rfl)
theorem wz_nst {dep : Nat} {k : Nat → PR} (hk : dep < 150 → wz Q (k (dep + 1))) : wz Q (nst dep t k) := by
  unfold nst
  by_cases e : dep < 150
  · rw [if_pos e]; exact hk e
  · rw [if_neg e]; exact wz_per
theorem wz_if {p : Prop} [Decidable p] {a b : PR} (h1 : p → wz Q a) (h2 : ¬ p → wz Q b) : wz Q (if p then a else b) := by
  by_cases e : p
  · rw [if_pos e]; exact h1 e
  · rw [if_neg e]; exact h2 e
theorem wz_exq {j : Nat} {k : Tok → PR} (hk : wz Q (k (adv T n t))) : wz Q (exq T n j t k) := by
  unfold exq
  exact wz_if (fun _ => wz_per) (fun _ => hk)
theorem wz.imp (h : wz Q' r) (hi : ∀ c, Q' c → Q c) : wz Q r := fun c t1 e => hi c (h c t1 e)
theorem wz_pth {k l : Nat} (hk : k ∈ [64, 33]) : ∀ f ns t, 0 < ns.length → wz (exw (l + 1)) (pth T n f k ns t)
  | 0, _, _, _ => fun c t1 e => by cases e
  | f + 1, ns, t, h => by
    rw [pth]
    refine wz_if (fun _ => wz_ok (Or.inr (Or.inl ⟨hk, rfl, h⟩))) (fun _ => wz_if (fun _ => wz_per) (fun _ => wz_pth hk f _ _ (by rw [List.length_append]; omega)))
theorem wz_pxp {k l : Nat} (hk : k ∈ [64, 33]) : wz (exw (l + 1)) (pxp T n k t) := by
  unfold pxp
  exact wz_if (fun _ => wz_per) (fun _ => wz_pth hk _ _ _ (Nat.succ_pos _))
end Wz
/-- the parts of a list -/
theorem getD_all {Q : Tre → Prop} {cs : List Tre} (h : ∀ i, i < cs.length → Q (cs.getD i (fun _ => none))) {c : Tre} (hc : Q c) : ∀ i, i < (cs ++ [c]).length → Q ((cs ++ [c]).getD i (fun _ => none)) := by
  intro i hi
  rw [List.length_append] at hi
  have hi : i < cs.length + 1 := hi
  rw [getD_appT]
  by_cases e : i = cs.length
  · rw [if_pos e]; exact hc
  · rw [if_neg e]; exact h i (by omega)
def rlz (nt : Nat) : Nat := [5, 4, 3, 1, 0, 6, 5, 3, 1, 0, 0, 0, 0, 0, 0, 0, 0, 0, 0, 0, 5, 4, 3, 1, 0, 6, 5, 3, 0, 6, 6, 6].getD nt 0
def lxz (nt dep : Nat) : Nat := 6 * (150 - dep) + rlz nt
def wfz (nt dep : Nat) (c : Tre) : Prop := if nt = 10 ∨ nt = 11 ∨ nt = 30 ∨ nt = 31 then chw (lxz nt dep) c else exw (lxz nt dep) c
/-- all parts are expressions -/
def alx (l : Nat) (cs : List Tre) : Prop := ∀ i, i < cs.length → exw l (cs.getD i (fun _ => none))
/-- an expression and marks with one -/
def mkx (l : Nat) (ms : List Nat) (cs : List Tre) : Prop := 1 ≤ cs.length ∧ exw l (cs.getD 0 (fun _ => none)) ∧ ∀ i, 1 ≤ i → i < cs.length → tkd (cs.getD i (fun _ => none)) ∈ ms ∧ tsn (cs.getD i (fun _ => none)) = 1 ∧ exw l (tkk (cs.getD i (fun _ => none)) 0)
/-- what a loop is given -/
def csz (T : Nat → Int32) (nt dep : Nat) (cs : List Tre) (t : Tok) : Prop :=
  (nt = 20 → alx (lxz 1 dep) cs ∧ 1 ≤ cs.length ∧ (2 ≤ cs.length ∨ ¬ tis T t (txt 1) = 0)) ∧ (nt = 21 → alx (lxz 2 dep) cs ∧ 1 ≤ cs.length ∧ (2 ≤ cs.length ∨ ¬ tis T t (txt 2) = 0)) ∧ (nt = 23 → alx (lxz 4 dep) cs ∧ 1 ≤ cs.length ∧ (2 ≤ cs.length ∨ ¬ tis T t (txt 19) = 0)) ∧
  (nt = 22 → mkx (lxz 3 dep) [20, 40] cs ∧ (2 ≤ cs.length ∨ ¬ one T t [20, 40] = 0)) ∧ (nt = 26 → mkx (lxz 7 dep) [24, 25] cs ∧ (2 ≤ cs.length ∨ ¬ one T t [24, 25] = 0)) ∧ (nt = 27 → mkx (lxz 8 dep) [26, 27, 51] cs ∧ (2 ≤ cs.length ∨ ¬ one T t [26, 27, 51] = 0)) ∧
  (nt = 25 → alx (lxz 0 dep) cs ∧ 2 ≤ cs.length) ∧ (nt = 29 → alx (lxz 0 dep) cs ∧ cs.length % 2 = 0) ∧
  (nt = 30 → (∀ i, i < cs.length → i % 2 = 0 → exw (lxz 0 dep) (cs.getD i (fun _ => none))) ∧ (∀ i, i < cs.length → i % 2 = 1 → chw (lxz 0 dep) (cs.getD i (fun _ => none))) ∧ cs.length % 2 = 0) ∧
  (nt = 31 → alx (lxz 0 dep) cs ∧ 1 ≤ cs.length)
section Wf
variable {T : Nat → Int32} {n f : Nat} {P : Nat → Nat → List Tre → Tok → PR}
def wfP (T : Nat → Int32) (P : Nat → Nat → List Tre → Tok → PR) : Prop := ∀ nt dep cs t, csz T nt dep cs t → wz (wfz nt dep) (P nt dep cs t)
theorem csz_lo {nt dep : Nat} {cs : List Tre} {t : Tok} (h : nt < 20) : csz T nt dep cs t := ⟨fun e => by omega, fun e => by omega, fun e => by omega, fun e => by omega, fun e => by omega, fun e => by omega, fun e => by omega, fun e => by omega, fun e => by omega, fun e => by omega⟩
theorem wfP.x (hP : wfP T P) {nt dep : Nat} {cs : List Tre} {t : Tok} (h : nt < 9) : wz (exw (lxz nt dep)) (P nt dep cs t) := by
  have q := hP nt dep cs t (csz_lo (by omega))
  intro c t1 e
  have := q c t1 e
  unfold wfz at this
  rw [if_neg (by omega)] at this
  exact this
theorem wz_Al {l L op lp dep k : Nat} {cs : List Tre} {t : Tok} (hc : alx l cs ∧ 1 ≤ cs.length ∧ (2 ≤ cs.length ∨ ¬ tis T t (txt op) = 0)) (hop : op ∈ [2, 19, 1, 50]) (hs : wz (exw l) (P k dep [] (adv T n t))) (hL : l + 1 ≤ L) (hl : ∀ c t1, exw l c → wz (exw L) (P lp dep (cs ++ [c]) t1)) : wz (exw L) (pxAl T n P op k lp dep cs t) := by
  refine wz_if (fun e => wz_ok (exw.le (l := l + 1) (Or.inr (Or.inr (Or.inr (Or.inr (Or.inl ⟨hop, ?_, hc.1⟩))))) hL)) (fun e => wz_bi hs (fun c t1 h => hl c t1 h))
  exact hc.2.2.elim id (fun z => absurd e z)
theorem mkx_add {l : Nat} {ms : List Nat} {cs : List Tre} {k : Nat} {c : Tre} (h : mkx l ms cs) (hk : k ∈ ms) (hc : exw l c) : mkx l ms (cs ++ [tmk k 0 [] [c]]) := by
  obtain ⟨h1, h2, h3⟩ := h
  refine ⟨by rw [List.length_append]; omega, ?_, fun i hi hj => ?_⟩
  · rw [getD_appT, if_neg (by omega)]; exact h2
  · rw [List.length_append] at hj
    have hj : i < cs.length + 1 := hj
    rw [getD_appT]
    by_cases e : i = cs.length
    · rw [if_pos e]; exact ⟨hk, rfl, hc⟩
    · rw [if_neg e]; exact h3 i hi (by omega)
theorem one_mem {t : Tok} : ∀ {ms : List Nat}, ¬ one T t ms = 0 → one T t ms ∈ ms
  | [], h => absurd rfl h
  | j :: l, h => by
    rw [one] at h ⊢
    by_cases e : tis T t (txt j) = 0
    · rw [if_pos e] at h ⊢; exact List.mem_cons_of_mem _ (one_mem h)
    · rw [if_neg e]; exact List.mem_cons_self
theorem wz_Bl {l L lp dep k : Nat} {ms : List Nat} {cs : List Tre} {t : Tok} (hc : mkx l ms cs ∧ (2 ≤ cs.length ∨ ¬ one T t ms = 0)) (hm : ms ∈ [[20, 40], [24, 25], [26, 27, 51]]) (hs : wz (exw l) (P k dep [] (adv T n t))) (hL : l + 1 ≤ L) (hl : ∀ c t1, exw l c → ¬ one T t ms = 0 → wz (exw L) (P lp dep (cs ++ [tmk (one T t ms) 0 [] [c]]) t1)) : wz (exw L) (pxBl T n P ms k lp dep cs t) := by
  refine wz_if (fun e => wz_ok (exw.le (l := l + 1) (Or.inr (Or.inr (Or.inr (Or.inr (Or.inr (Or.inr ⟨rfl, ?_, hc.1.2.1, ms, hm, hc.1.2.2⟩)))))) hL)) (fun e => wz_bi hs (fun c t1 h => hl c t1 h e))
  exact hc.2.elim id (fun z => absurd e z)
end Wf
