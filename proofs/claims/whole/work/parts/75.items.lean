/-! THE PARSER: names, values, parts, items -/
theorem ps_ex {x : Int32} (h1 : ¬ x < 13) (h2 : ¬ 18 < x) : ∃ k, k < 54 ∧ 10 + x - 13 = nI k := by
  have a1 : ¬ x.toInt < 13 := fun z => h1 (Int32.lt_iff_toInt_lt.mpr z)
  have a2 : ¬ 18 < x.toInt := fun z => h2 (Int32.lt_iff_toInt_lt.mpr z)
  have h0 : ¬ x < 0 := fun z => by
    have := Int32.lt_iff_toInt_lt.mp z
    have e : (0 : Int32).toInt = 0 := rfl
    omega
  obtain ⟨j, hj, rfl⟩ := nI_of h0
  rw [nI_toInt hj] at a1 a2
  refine ⟨10 + j - 13, by omega, ?_⟩
  show nI 10 + nI j - nI 13 = _
  rw [nI_add, pk_sub (by omega)]
section ParserItems
variable {H : mu_H} {m B d : Nat}
/-- PathProver$Parser.params()Z -/
abbrev mu_m170 : ev_M := (2, (some .boolean), [], ev_b170)
theorem mu_g170 : mu_good mu_m170 := mu_goodk ev_k170
/-- PathProver$Parser.names()Z -/
abbrev mu_m151 : ev_M := (3, (some .boolean), [], ev_b151)
theorem mu_g151 : mu_good mu_m151 := mu_goodk ev_k151
/-- PathProver$Parser.bound(II)Z -/
abbrev mu_m169 : ev_M := (4, (some .boolean), [], ev_b169)
theorem mu_g169 : mu_good mu_m169 := mu_goodk ev_k169
/-- PathProver$Parser.valueList(I)Z -/
abbrev mu_m168 : ev_M := (4, (some .boolean), [], ev_b168)
theorem mu_g168 : mu_good mu_m168 := mu_goodk ev_k168
/-- PathProver$Parser.instance(I)Z -/
abbrev mu_m167 : ev_M := (2, (some .boolean), [], ev_b167)
theorem mu_g167 : mu_good mu_m167 := mu_goodk ev_k167
/-- PathProver$Parser.variable()Z -/
abbrev mu_m138 : ev_M := (2, (some .boolean), [], ev_b138)
theorem mu_g138 : mu_good mu_m138 := mu_goodk ev_k138
/-- PathProver$Parser.section()Z -/
abbrev mu_m139 : ev_M := (2, (some .boolean), [], ev_b139)
theorem mu_g139 : mu_good mu_m139 := mu_goodk ev_k139
/-- PathProver$Parser.definition()Z -/
abbrev mu_m140 : ev_M := (2, (some .boolean), [], ev_b140)
theorem mu_g140 : mu_good mu_m140 := mu_goodk ev_k140
/-- PathProver$Parser.line()Z -/
abbrev mu_m141 : ev_M := (1, (some .boolean), [], ev_b141)
theorem mu_g141 : mu_good mu_m141 := mu_goodk ev_k141
end ParserItems
