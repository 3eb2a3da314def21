/-! THE PARSER: parts, operators, what an E stands in -/
section ParserParts
variable {H : mu_H} {m B d : Nat}
/-- PathProver$Parser.leaf()Z -/
abbrev mu_m149 : ev_M := (1, (some .boolean), [], ev_b149)
theorem mu_g149 : mu_good mu_m149 := mu_goodk ev_k149
/-- PathProver$Parser.prefix()Z -/
abbrev mu_m147 : ev_M := (2, (some .boolean), [], ev_b147)
theorem mu_g147 : mu_good mu_m147 := mu_goodk ev_k147
/-- PathProver$Parser.operand()Z -/
abbrev mu_m145 : ev_M := (2, (some .boolean), [], ev_b145)
theorem mu_g145 : mu_good mu_m145 := mu_goodk ev_k145
/-- PathProver$Parser.choice()Z -/
abbrev mu_m144 : ev_M := (2, (some .boolean), [], ev_b144)
theorem mu_g144 : mu_good mu_m144 := mu_goodk ev_k144
/-- PathProver$Parser.choiceEnded()Z -/
abbrev mu_m143 : ev_M := (2, (some .boolean), [], ev_b143)
theorem mu_g143 : mu_good mu_m143 := mu_goodk ev_k143
/-- PathProver$Parser.given()Z -/
abbrev mu_m162 : ev_M := (1, (some .boolean), [], ev_b162)
theorem mu_g162 : mu_good mu_m162 := mu_goodk ev_k162
/-- PathProver$Parser.listed(I)Z -/
abbrev mu_m164 : ev_M := (3, (some .boolean), [], ev_b164)
theorem mu_g164 : mu_good mu_m164 := mu_goodk ev_k164
/-- PathProver$Parser.branched()Z -/
abbrev mu_m165 : ev_M := (2, (some .boolean), [], ev_b165)
theorem mu_g165 : mu_good mu_m165 := mu_goodk ev_k165
/-- PathProver$Parser.closer()Z -/
abbrev mu_m159 : ev_M := (2, (some .boolean), [], ev_b159)
theorem mu_g159 : mu_good mu_m159 := mu_goodk ev_k159
/-- PathProver$Parser.operator()Z -/
abbrev mu_m142 : ev_M := (5, (some .boolean), [], ev_b142)
theorem mu_g142 : mu_good mu_m142 := mu_goodk ev_k142
end ParserParts
