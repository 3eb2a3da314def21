/-! How high expressions are: the depth of a value -/
/-- at most h high, with what stands for names -/
def hlx (D : MD) : Nat → Nat → Tre → Prop
  | 0, _, _ => False
  | h + 1, j, c => (∀ x t, tkd c = 64 → fno D j (tns c) = some x → x.2.2 = nI t → t < (D.pr 0).length → hlx D h (own D t) (stdt D t)) ∧ ∀ k, k < tsn c → hlx D h j (lkp c k)
section Hlx
variable {D : MD} {tr : Prop}
theorem hlx.up : ∀ {h j : Nat} {c : Tre}, hlx D h j c → hlx D (h + 1) j c
  | 0, _, _, z => z.elim
  | _ + 1, _, _, z => ⟨fun x t e1 e2 e3 e4 => hlx.up (z.1 x t e1 e2 e3 e4), fun k hk => hlx.up (z.2 k hk)⟩
theorem hlx.le {h h' j : Nat} {c : Tre} (z : hlx D h j c) (he : h ≤ h') : hlx D h' j c := by
  obtain ⟨m, rfl⟩ := Nat.le.dest he
  clear he
  induction m with
  | zero => exact z
  | succ m ih => exact ih.up
theorem hlx.kk {h j k : Nat} {c : Tre} (z : hlx D (h + 1) j c) (n : ¬ tkd c = 66) (hk : k < tsn c) : hlx D h j (tkk c k) := by
  have e : lkp c k = tkk c k := lkp_n n
  rw [← e]
  exact z.2 k hk
theorem exw.h : ∀ {l h j : Nat} {c : Tre}, exw l c → hlx D h j c → exw h c
  | 0, _, _, _, z, _ => z.elim
  | _ + 1, 0, _, _, _, z => z.elim
  | l + 1, h + 1, j, c, z, w => by
    have no : ∀ {ks : List Nat}, tkd c ∈ ks → 66 ∉ ks → ¬ tkd c = 66 := fun h1 h2 h3 => h2 (by rw [← h3]; exact h1)
    rcases z with z | z | ⟨h1, h2, h3⟩ | ⟨h1, h2, h3, h4⟩ | ⟨h1, h2, h3⟩ | ⟨h1, h2, h3, h4⟩ | ⟨h1, h2, h3, ms, h4, h5⟩
    · exact Or.inl z
    · exact Or.inr (Or.inl z)
    · exact Or.inr (Or.inr (Or.inl ⟨h1, h2, exw.h h3 (w.kk (no h1 (by decide)) (by rw [h2]; decide))⟩))
    · exact Or.inr (Or.inr (Or.inr (Or.inl ⟨h1, h2, exw.h h3 (w.kk (no h1 (by decide)) (by rw [h2]; decide)), exw.h h4 (w.kk (no h1 (by decide)) (by rw [h2]; decide))⟩)))
    · exact Or.inr (Or.inr (Or.inr (Or.inr (Or.inl ⟨h1, h2, fun i hi => exw.h (h3 i hi) (w.kk (no h1 (by decide)) hi)⟩))))
    · have n : ¬ tkd c = 66 := fun e => by rw [h1] at e; exact absurd e (by decide)
      exact Or.inr (Or.inr (Or.inr (Or.inr (Or.inr (Or.inl ⟨h1, h2, h3, fun i hi => exw.h (h4 i hi) (w.kk n hi)⟩)))))
    · refine Or.inr (Or.inr (Or.inr (Or.inr (Or.inr (Or.inr ⟨h1, h2, ?_, ms, h4, fun i hi hj => ⟨(h5 i hi hj).1, (h5 i hi hj).2.1, ?_⟩⟩)))))
      · have q := w.2 0 (by omega)
        unfold lkp at q
        rw [if_neg (fun z => absurd z.2 (Nat.lt_irrefl _))] at q
        exact exw.h h3 q
      · have q := w.2 i hj
        unfold lkp at q
        rw [if_pos ⟨h1, by omega⟩] at q
        exact exw.h (h5 i hi hj).2.2 q
theorem nxo.h : ∀ {l h j : Nat} {c : Tre}, nxo tr D j l c → hlx D h j c → nxo tr D j h c
  | 0, _, _, _, z, _ => z.elim
  | _ + 1, 0, _, _, _, z => z.elim
  | _ + 1, _ + 1, _, _, z, w => ⟨z.1, z.2.1, fun k hk => nxo.h (z.2.2 k hk) (w.2 k hk)⟩
theorem vcw.h {l h j : Nat} {c : Tre} (z : vcw tr D j l c) (w : hlx D h j c) : vcw tr D j h c := ⟨exw.h z.1 w, z.2.1, nxo.h z.2.2 w⟩
end Hlx
/-- an expression whose value can be told -/
def vcq (tr : Prop) (D : MD) (j : Nat) (c : Tre) : Prop := vcw tr D j 905 c ∧ hlx D 120 j c
/-- the heights of a choice -/
def hlc (D : MD) (j : Nat) : Nat → Tre → Prop
  | 0, _ => False
  | l + 1, c => (tkd c = 10 → ∀ k, k < tsn c → hlx D 120 j (tkk c k)) ∧ (tkd c = 52 → ∀ k, k < tsn c → (k % 2 = 0 → hlx D 120 j (tkk c k)) ∧ (k % 2 = 1 → hlc D j l (tkk c k))) ∧ (¬ tkd c = 10 → ¬ tkd c = 52 → hlx D 120 j c)
