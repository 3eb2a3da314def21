/-! THE PARSER: what is taken from the stack; items, rows of names -/
theorem nI_dec {k : Nat} (h : 0 < k) : nI k + (-1) = nI (k - 1) := by
  obtain ⟨j, rfl⟩ : ∃ j, k = j + 1 := ⟨k - 1, by omega⟩
  rw [← Int32.sub_eq_add_neg]
  exact nI_pred j
section ParserLoops
variable {H : mu_H} {m B d : Nat}
/-- PathProver$Parser.factorEnded()V -/
abbrev mu_m152 : ev_M := (2, none, [], ev_b152)
theorem mu_g152 : mu_good mu_m152 := mu_goodk ev_k152
/-- PathProver$Parser.unwind(I)I -/
abbrev mu_m161 : ev_M := (4, (some .int), [], ev_b161)
theorem mu_g161 : mu_good mu_m161 := mu_goodk ev_k161
/-- PathProver$Parser.endOfP()V -/
abbrev mu_m160 : ev_M := (1, none, [], ev_b160)
theorem mu_g160 : mu_good mu_m160 := mu_goodk ev_k160
/-- PathProver$Parser.itemEnded(I)Z -/
abbrev mu_m155 : ev_M := (2, (some .boolean), [], ev_b155)
theorem mu_g155 : mu_good mu_m155 := mu_goodk ev_k155
/-- PathProver$Parser.binary(I)I -/
abbrev mu_m158 : ev_M := (1, (some .int), [], ev_b158)
theorem mu_g158 : mu_good mu_m158 := mu_goodk ev_k158
end ParserLoops
