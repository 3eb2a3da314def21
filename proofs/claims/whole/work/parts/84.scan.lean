/-! THE LEXER: the tape is scanned -/
section LexScan2
variable {H Hs H1 : mu_H} {t n k : Nat}
/-- the scan stands behind k TOKENS; e words more may be there -/
def sc (t n : Nat) (H Hs : mu_H) (k e : Nat) : Prop := ls t n Hs ∧ lk ls_S H Hs ∧ (∀ j, j ≠ 7 → j ≠ 0 → mu_r Hs 81 j = mu_r H 81 j) ∧ mu_n Hs (lt7 Hs) ≤ max (mu_n H (lt7 H)) (max 405 (3 * lu Hs)) ∧ gi_cap Hs 86 ≤ max (gi_cap H 86) (max 1084 (2 * (gi_sz Hs 86 * 4) + 4)) ∧ gi_cap Hs 82 ≤ max (gi_cap H 82) (2 * (gi_sz Hs 82 * 3) + 3) ∧ gi_sz Hs 82 = k ∧ k ≤ la Hs + 1 ∧ lu Hs ≤ 135 + la Hs ∧ gi_sz Hs 86 ≤ 135 + k + e
theorem sc.step {e e' : Nat} (h : sc t n H Hs k e) (h1 : ls t n H1) (h2 : sf Hs H1) (h3 : la Hs ≤ la H1) (h4 : lu H1 + la Hs ≤ lu Hs + la H1) (h5 : gi_sz H1 86 ≤ gi_sz Hs 86 + e') : sc t n H H1 k (e + e') := by
  obtain ⟨a, b, c, f, g, i, j, l, m, o⟩ := h
  obtain ⟨q1, q2, ⟨q3, q4⟩, q5, q6, q7, q8⟩ := h2
  have z82 : gi_sz H1 82 = gi_sz Hs 82 := by unfold gi_sz; rw [q3.i]
  have c82 : gi_cap H1 82 = gi_cap Hs 82 := by unfold gi_cap; rw [q3.r]; exact q4.2.1
  exact ⟨h1, b.trans q1, fun j h7 h0 => (q2 j h7).trans (c j h7 h0), by omega, by omega, by omega, by omega, by omega, by omega, by omega⟩
theorem sc.put {e : Nat} {a1 a2 a3 a4 : Int32} (h : sc t n H Hs k e) (he : e ≤ 1) (hk : k ≤ la Hs) (hg : gi H1) (hq : gq Hs H1 82 3 (rw_col a1 a2 a3 a4)) : sc t n H H1 (k + 1) 0 ∧ cel H1 82 (k * 3) = a1 ∧ la H1 = la Hs ∧ mu_i H1 81 3 = mu_i Hs 81 3 := by
  obtain ⟨⟨a1', a2', a3', a4', a5', a6', a7', a8'⟩, b, c, f, g, i, j, l, m, o⟩ := h
  obtain ⟨q1, q2, q3, q4, q5, q6⟩ := hq
  have s81 := q1.obj (p := 81) (k := 4) rfl rfl
  have s86 := q1.obj (p := 86) (k := 10) rfl rfl
  have e7 : lt7 H1 = lt7 Hs := by unfold lt7; rw [s81.r]
  have eu : lu H1 = lu Hs := by unfold lu; rw [s81.i]
  have el : la H1 = la Hs := by unfold la; rw [s81.i]
  have en7 := (q1.2.1 _ (lw.g7 a1'.1).2.1).2
  have en7' : mu_n H1 (lt7 Hs) = mu_n Hs (lt7 Hs) := en7
  have z86 := q3 86 (by decide) 4 rfl
  have q4' := q4.1
  have hls : ls t n H1 := ⟨a1'.of hg (s81.i 8) (s81.r 7) en7 z86.1 (fun i => by unfold cel; rw [s86.r]; exact (q1.2.2.2.1 86 1 rfl rfl).i i), by rw [s81.r]; exact a2', q1.is a3', by rw [e7]; exact a4', by rw [(q1.2.1 t a3'.2.1).2]; exact a5', by rw [s81.i]; exact a6', by rw [s81.i, el]; exact a7', by rw [el]; exact a8'⟩
  refine ⟨⟨hls, b.trans (lk.of (q1.mono (fun p hp => decide_eq_true (Or.inr (Or.inl (Nat.eq_of_beq_eq_true hp))))) (s81.r 7)), fun j h7 h0 => (s81.r j).trans (c j h7 h0), by rw [e7, en7', eu]; exact f, by rw [z86.1, z86.2]; exact g, by omega, by omega, by omega, by omega, by omega⟩, ?_, el, s81.i 3⟩
  have := q6 0 (by decide)
  rw [j] at this
  exact this
end LexScan2
section LexScan3
variable {H : mu_H} {d t n : Nat}
/-- PathProver$Lexer.scan([BI)V -/
abbrev mu_m38 : ev_M := (5, none, [], ev_b38)
theorem mu_g38 : mu_good mu_m38 := mu_goodk ev_k38
end LexScan3
