/-! The reference's trees: what a Node stands for; the parser without the machine -/
/-- a tree: what stands at each path (kind, number, names, how many parts) -/
abbrev Itm := Nat × Int32 × List (List Int32) × Nat
abbrev Tre := List Nat → Option Itm
/-- the tree of an item and its parts -/
def tmk (k : Nat) (x : Int32) (ns : List (List Int32)) (cs : List Tre) : Tre
  | [] => some (k, x, ns, cs.length)
  | i :: r => cs.getD i (fun _ => none) r
theorem tmk_sub {k : Nat} {x : Int32} {ns : List (List Int32)} {cs : List Tre} {i : Nat} : (fun r => tmk k x ns cs (i :: r)) = cs.getD i (fun _ => none) := rfl
/-- names in a row of Strings -/
def nmf (H : mu_H) (F : Nat → Prop) (o : Option Nat) (ns : List (List Int32)) : Prop := (o = none ∧ ns = []) ∨ ∃ b, o = some b ∧ F b ∧ mu_is H (some b) 103 ∧ mu_n H b = ns.length ∧ (0 < ns.length ∧ ns.length ≤ 65536) ∧ ∀ i, i < ns.length → ∃ s, mu_r H b i = some s ∧ stf H F s (ns.getD i [])
/-- a Node that is done: kind k (a constant's number), number x, names ns, parts qs -/
def nod (H : mu_H) (F : Nat → Prop) (q k : Nat) (x : Int32) (ns : List (List Int32)) (qs : List Nat) : Prop := F q ∧ k < 79 ∧ ∃ a c s, F a ∧ ndo H q a c s (txt k) qs ∧ stf H F s (txt k) ∧ mu_i H q 3 = x ∧ nmf H F (mu_r H q 4) ns ∧ ∀ i, i < qs.length → F (qs.getD i 0)
/-- the Node q stands for the tree t, d deep -/
def nd (H : mu_H) (F : Nat → Prop) : Nat → Nat → Tre → Prop
  | 0, _, _ => False
  | d + 1, q, t => ∃ k x ns qs, nod H F q k x ns qs ∧ t [] = some (k, x, ns, qs.length) ∧ ∀ i, i < qs.length → nd H F d (qs.getD i 0) (fun r => t (i :: r))
section Nd
variable {W F F1 : Nat → Prop} {H H1 : mu_H} {a b' n dep : Nat} {T : Nat → Int32} {t : Int32 × Nat × Nat}
theorem nmf.kp {o : Option Nat} {ns : List (List Int32)} (h : nmf H F o ns) (hk : kep W a b' H H1) (hW : ∀ p, W p → ¬ F p ∧ p < 1000000) : nmf H1 F o ns := by
  rcases h with h | ⟨b, h1, h2, h3, h4, h5, h6⟩
  · exact Or.inl h
  · have hb : ¬ W b := fun z => (hW b z).1 h2
    exact Or.inr ⟨b, h1, h2, hk.is h3 hb, (hk.len (Or.inl h3.2.1) hb).trans h4, h5, fun i hi => by
      obtain ⟨s, s1, s2⟩ := h6 i hi
      exact ⟨s, (hk.r (Or.inl h3.2.1) hb i).trans s1, s2.kp hk hW⟩⟩
theorem nmf.mono {o : Option Nat} {ns : List (List Int32)} (h : nmf H F o ns) (hF : ∀ p, F p → F1 p) : nmf H F1 o ns := by
  rcases h with h | ⟨b, h1, h2, h3, h4, h5, h6⟩
  · exact Or.inl h
  · exact Or.inr ⟨b, h1, hF _ h2, h3, h4, h5, fun i hi => by
      obtain ⟨s, s1, s2⟩ := h6 i hi
      exact ⟨s, s1, s2.mono hF⟩⟩
theorem nod.kp {q k : Nat} {x : Int32} {ns : List (List Int32)} {qs : List Nat} (h : nod H F q k x ns qs) (hk : kep W a b' H H1) (hW : ∀ p, W p → ¬ F p ∧ p < 1000000) : nod H1 F q k x ns qs := by
  obtain ⟨h1, h2, r, c, s, h3, h4, h5, h6, h7, h8⟩ := h
  have nW : ∀ p, F p → ¬ W p := fun p z y => (hW p y).1 z
  have hq : q < mu_z H := h4.1.1.2.1
  exact ⟨h1, h2, r, c, s, h3, h4.kp hk (nW _ h1) (nW _ h3) (fun i hi => nW _ (h8 i hi)), h5.kp hk hW, (hk.i (Or.inl hq) (nW _ h1) 3).trans h6, by rw [hk.r (Or.inl hq) (nW _ h1) 4]; exact h7.kp hk hW, h8⟩
theorem nod.mono {q k : Nat} {x : Int32} {ns : List (List Int32)} {qs : List Nat} (h : nod H F q k x ns qs) (hF : ∀ p, F p → F1 p) : nod H F1 q k x ns qs := by
  obtain ⟨h1, h2, r, c, s, h3, h4, h5, h6, h7, h8⟩ := h
  exact ⟨hF _ h1, h2, r, c, s, hF _ h3, h4, h5.mono hF, h6, h7.mono hF, fun i hi => hF _ (h8 i hi)⟩
theorem nd.kp : ∀ {d q : Nat} {t : Tre}, nd H F d q t → kep W a b' H H1 → (∀ p, W p → ¬ F p ∧ p < 1000000) → nd H1 F d q t
  | 0, _, _, h, _, _ => h.elim
  | _ + 1, _, _, h, hk, hW => by
    obtain ⟨k, x, ns, qs, h1, h2, h3⟩ := h
    exact ⟨k, x, ns, qs, h1.kp hk hW, h2, fun i hi => nd.kp (h3 i hi) hk hW⟩
theorem nd.mono : ∀ {d q : Nat} {t : Tre}, nd H F d q t → (∀ p, F p → F1 p) → nd H F1 d q t
  | 0, _, _, h, _ => h.elim
  | _ + 1, _, _, h, hF => by
    obtain ⟨k, x, ns, qs, h1, h2, h3⟩ := h
    exact ⟨k, x, ns, qs, h1.mono hF, h2, fun i hi => nd.mono (h3 i hi) hF⟩
theorem nd.up : ∀ {d q : Nat} {t : Tre}, nd H F d q t → nd H F (d + 1) q t
  | 0, _, _, h => h.elim
  | d + 1, _, _, h => by
    obtain ⟨k, x, ns, qs, h1, h2, h3⟩ := h
    exact ⟨k, x, ns, qs, h1, h2, fun i hi => nd.up (h3 i hi)⟩
theorem nd.le {d e q : Nat} {t : Tre} (h : nd H F d q t) (he : d ≤ e) : nd H F e q t := by
  obtain ⟨m, rfl⟩ := Nat.le.dest he
  clear he
  induction m with
  | zero => exact h
  | succ m ih => exact ih.up
theorem nd.keep {d q : Nat} {c : Tre} (h : nd H F d q c) (hs : pst T n t dep F H) (hp : pfr a F F1 H H1) : nd H1 F1 d q c := (h.kp hp.1.1 hs.nF).mono hp.2.2.1
theorem nd.is {d q : Nat} {c : Tre} (h : nd H F d q c) : mu_is H (some q) 18 ∧ F q := by
  cases d with
  | zero => exact h.elim
  | succ d =>
    obtain ⟨k, x, ns, qs, ⟨h1, h2, r, c, s, h3, h4, h5⟩, _⟩ := h
    exact ⟨h4.1.1, h1⟩
/-- a list of Nodes stands for a list of trees -/
def nds (H : mu_H) (F : Nat → Prop) (d : Nat) (qs : List Nat) (cs : List Tre) : Prop := qs.length = cs.length ∧ ∀ i, i < qs.length → nd H F d (qs.getD i 0) (cs.getD i (fun _ => none))
theorem nds.nil {d : Nat} : nds H F d [] [] := ⟨rfl, fun i hi => absurd hi (Nat.not_lt_zero _)⟩
theorem nds.kp {d : Nat} {qs : List Nat} {cs : List Tre} (h : nds H F d qs cs) (hk : kep W a b' H H1) (hW : ∀ p, W p → ¬ F p ∧ p < 1000000) : nds H1 F d qs cs := ⟨h.1, fun i hi => (h.2 i hi).kp hk hW⟩
theorem nds.keep {d : Nat} {qs : List Nat} {cs : List Tre} (h : nds H F d qs cs) (hs : pst T n t dep F H) (hp : pfr a F F1 H H1) : nds H1 F1 d qs cs := ⟨h.1, fun i hi => (h.2 i hi).keep hs hp⟩
theorem nds.mono {d : Nat} {qs : List Nat} {cs : List Tre} (h : nds H F d qs cs) (hF : ∀ p, F p → F1 p) : nds H F1 d qs cs := ⟨h.1, fun i hi => (h.2 i hi).mono hF⟩
theorem nds.le {d e : Nat} {qs : List Nat} {cs : List Tre} (h : nds H F d qs cs) (he : d ≤ e) : nds H F e qs cs := ⟨h.1, fun i hi => (h.2 i hi).le he⟩
theorem getD_appT {l : List Tre} {x : Tre} {i : Nat} : (l ++ [x]).getD i (fun _ => none) = if i = l.length then x else l.getD i (fun _ => none) := by
  by_cases e : i = l.length
  · subst e
    rw [if_pos rfl]
    simp [List.getD_eq_getElem?_getD]
  · rw [if_neg e]
    by_cases e2 : i < l.length
    · simp [List.getD_eq_getElem?_getD, List.getElem?_append_left e2]
    · simp [List.getD_eq_getElem?_getD, List.getElem?_eq_none (show (l ++ [x]).length ≤ i by simp; omega), List.getElem?_eq_none (show l.length ≤ i by omega)]
theorem nds.add {d q : Nat} {qs : List Nat} {cs : List Tre} {c : Tre} (h : nds H F d qs cs) (h2 : nd H F d q c) : nds H F d (qs ++ [q]) (cs ++ [c]) := by
  refine ⟨by rw [List.length_append, List.length_append, h.1]; rfl, fun i hi => ?_⟩
  rw [List.length_append] at hi
  have hi : i < qs.length + 1 := hi
  rw [getD_app, getD_appT, ← h.1]
  by_cases e : i = qs.length
  · rw [if_pos e, if_pos e]; exact h2
  · rw [if_neg e, if_neg e]; exact h.2 i (by omega)
/-- a Node is done -/
theorem nds.done {d q r c s k : Nat} {x : Int32} {ns : List (List Int32)} {qs : List Nat} {cs : List Tre} (h : nds H F d qs cs) (ho : ndo H q r c s (txt k) qs) (hk : k < 79) (hs : stf H F s (txt k)) (hx : mu_i H q 3 = x) (hn : nmf H F (mu_r H q 4) ns) (hq : F q) (hr : F r) : nd H F (d + 1) q (tmk k x ns cs) :=
  ⟨k, x, ns, qs, ⟨hq, hk, r, c, s, hr, ho, hs, hx, hn, fun i hi => (h.2 i hi).is.2⟩, by rw [h.1]; rfl, fun i hi => h.2 i hi⟩
end Nd
