/-! Expressions have something behind each mark of a chain -/
theorem exw.pw : ∀ {l : Nat} {c : Tre}, exw l c → pwf l c
  | 0, _, h => h.elim
  | l + 1, c, h => by
    intro i hi
    have pl : ¬ tkd c = 66 → exw l (tkk c i) → (tkd c = 66 → 0 < i → 0 < tsn (tkk c i)) ∧ pwf l (ptk c i) := fun n e => ⟨fun z => absurd z n, by rw [ptk, if_neg (fun z => n z.1)]; exact exw.pw e⟩
    rcases h with ⟨_, h2⟩ | ⟨_, h2, _⟩ | ⟨h1, h2, h3⟩ | ⟨h1, h2, h3, h4⟩ | ⟨h1, h2, h3⟩ | ⟨h1, h2, h3, h4⟩ | ⟨h1, h2, h3, ms, h4, h5⟩
    · omega
    · omega
    · have e : i = 0 := by omega
      subst e
      exact pl (fun e => by rw [e] at h1; exact absurd h1 (by decide)) h3
    · have n : ¬ tkd c = 66 := fun e => by rw [e] at h1; exact absurd h1 (by decide)
      by_cases e : i = 0
      · subst e; exact pl n h3
      · have e : i = 1 := by omega
        subst e; exact pl n h4
    · exact pl (fun e => by rw [e] at h1; exact absurd h1 (by decide)) (h3 i hi)
    · exact pl (fun e => by rw [e] at h1; exact absurd h1 (by decide)) (h4 i hi)
    · by_cases e : i = 0
      · subst e
        exact ⟨fun _ z => absurd z (Nat.lt_irrefl _), by rw [ptk, if_neg (fun z => absurd z.2 (Nat.lt_irrefl _))]; exact exw.pw h3⟩
      · obtain ⟨_, y1, y2⟩ := h5 i (by omega) hi
        exact ⟨fun _ _ => by omega, by rw [ptk, if_pos ⟨h1, by omega⟩]; exact exw.pw y2⟩
