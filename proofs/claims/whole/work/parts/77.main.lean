/-! THE PARSER: a MODULE's head, the symbols, the loop of parse -/
theorem nI_up {k : Nat} {x : Int32} (hk : k < 2147483648) (h : nI k < x) : k + 1 < 2147483648 := by
  have h1 := Int32.lt_iff_toInt_lt.mp h
  rw [nI_toInt (by omega)] at h1
  have h2 := x.toInt_lt
  omega
section ParserMain
variable {H : mu_H} {m B d : Nat}
/-- PathProver$Model.openModule(I)V -/
abbrev mu_m137 : ev_M := (3, none, [], ev_b137)
theorem mu_g137 : mu_good mu_m137 := mu_goodk ev_k137
/-- PathProver$Parser.module()Z -/
abbrev mu_m47 : ev_M := (1, (some .boolean), [], ev_b47)
theorem mu_g47 : mu_good mu_m47 := mu_goodk ev_k47
/-- PathProver$Parser.giveSymbols()V -/
abbrev mu_m146 : ev_M := (3, none, [], ev_b146)
theorem mu_g146 : mu_good mu_m146 := mu_goodk ev_k146
/-- PathProver$Parser.parse(LPathProver$Model;[BI)I -/
abbrev mu_m35 : ev_M := (6, (some .int), [], ev_b35)
theorem mu_g35 : mu_good mu_m35 := mu_goodk ev_k35
end ParserMain
