/-! Printed by wip/whole/gen8.py: the methods' instructions are what their bytes say -/
set_option maxRecDepth 100000 in
theorem ev_k20_0 : ev_b20_0.all (ev_ok "PathProver$Graph" "<init>" prog_2_method_1_code) = true := by decide +kernel
set_option maxRecDepth 100000 in
theorem ev_k20_1 : ev_b20_1.all (ev_ok "PathProver$Graph" "<init>" prog_2_method_1_code) = true := by decide +kernel
theorem ev_k20 : ev_b20.all (ev_ok "PathProver$Graph" "<init>" prog_2_method_1_code) = true := (ev_all ev_k20_0 ev_k20_1)
set_option maxRecDepth 100000 in
theorem ev_k21_0 : ev_b21_0.all (ev_ok "PathProver$Prover" "<init>" prog_8_method_1_code) = true := by decide +kernel
set_option maxRecDepth 100000 in
theorem ev_k21_1 : ev_b21_1.all (ev_ok "PathProver$Prover" "<init>" prog_8_method_1_code) = true := by decide +kernel
theorem ev_k21 : ev_b21.all (ev_ok "PathProver$Prover" "<init>" prog_8_method_1_code) = true := (ev_all ev_k21_0 ev_k21_1)
set_option maxRecDepth 100000 in
theorem ev_k22_0 : ev_b22_0.all (ev_ok "PathProverModel" "<init>" prog_15_method_1_code) = true := by decide +kernel
set_option maxRecDepth 100000 in
theorem ev_k22_1 : ev_b22_1.all (ev_ok "PathProverModel" "<init>" prog_15_method_1_code) = true := by decide +kernel
set_option maxRecDepth 100000 in
theorem ev_k22_2 : ev_b22_2.all (ev_ok "PathProverModel" "<init>" prog_15_method_1_code) = true := by decide +kernel
set_option maxRecDepth 100000 in
theorem ev_k22_3 : ev_b22_3.all (ev_ok "PathProverModel" "<init>" prog_15_method_1_code) = true := by decide +kernel
set_option maxRecDepth 100000 in
theorem ev_k22_4 : ev_b22_4.all (ev_ok "PathProverModel" "<init>" prog_15_method_1_code) = true := by decide +kernel
set_option maxRecDepth 100000 in
theorem ev_k22_5 : ev_b22_5.all (ev_ok "PathProverModel" "<init>" prog_15_method_1_code) = true := by decide +kernel
set_option maxRecDepth 100000 in
theorem ev_k22_6 : ev_b22_6.all (ev_ok "PathProverModel" "<init>" prog_15_method_1_code) = true := by decide +kernel
set_option maxRecDepth 100000 in
theorem ev_k22_7 : ev_b22_7.all (ev_ok "PathProverModel" "<init>" prog_15_method_1_code) = true := by decide +kernel
set_option maxRecDepth 100000 in
theorem ev_k22_8 : ev_b22_8.all (ev_ok "PathProverModel" "<init>" prog_15_method_1_code) = true := by decide +kernel
theorem ev_k22 : ev_b22.all (ev_ok "PathProverModel" "<init>" prog_15_method_1_code) = true := (ev_all ev_k22_0 (ev_all ev_k22_1 (ev_all ev_k22_2 (ev_all ev_k22_3 (ev_all ev_k22_4 (ev_all ev_k22_5 (ev_all ev_k22_6 (ev_all ev_k22_7 ev_k22_8))))))))
set_option maxRecDepth 100000 in
theorem ev_k23 : ev_b23.all (ev_ok "PathProverModel$Bits" "<init>" prog_16_method_1_code) = true := by decide +kernel
set_option maxRecDepth 100000 in
theorem ev_k24 : ev_b24.all (ev_ok "PathProverLaw" "feed" method_3_code) = true := by decide +kernel
set_option maxRecDepth 100000 in
theorem ev_k25_0 : ev_b25_0.all (ev_ok "PathProver" "feed" prog_1_method_2_code) = true := by decide +kernel
set_option maxRecDepth 100000 in
theorem ev_k25_1 : ev_b25_1.all (ev_ok "PathProver" "feed" prog_1_method_2_code) = true := by decide +kernel
theorem ev_k25 : ev_b25.all (ev_ok "PathProver" "feed" prog_1_method_2_code) = true := (ev_all ev_k25_0 ev_k25_1)
set_option maxRecDepth 100000 in
theorem ev_k26 : ev_b26.all (ev_ok "PathProver" "write" prog_1_method_3_code) = true := by decide +kernel
set_option maxRecDepth 100000 in
theorem ev_k27_0 : ev_b27_0.all (ev_ok "PathProverModel" "feed" prog_15_method_108_code) = true := by decide +kernel
set_option maxRecDepth 100000 in
theorem ev_k27_1 : ev_b27_1.all (ev_ok "PathProverModel" "feed" prog_15_method_108_code) = true := by decide +kernel
theorem ev_k27 : ev_b27.all (ev_ok "PathProverModel" "feed" prog_15_method_108_code) = true := (ev_all ev_k27_0 ev_k27_1)
set_option maxRecDepth 100000 in
theorem ev_k28 : ev_b28.all (ev_ok "PathProverModel" "thrown" prog_15_method_2_code) = true := by decide +kernel
set_option maxRecDepth 100000 in
theorem ev_k29 : ev_b29.all (ev_ok "PathProverLaw" "end" method_4_code) = true := by decide +kernel
set_option maxRecDepth 100000 in
theorem ev_k30 : ev_b30.all (ev_ok "PathProver" "end" prog_1_method_4_code) = true := by decide +kernel
set_option maxRecDepth 100000 in
theorem ev_k31 : ev_b31.all (ev_ok "PathProverModel" "end" prog_15_method_109_code) = true := by decide +kernel
set_option maxRecDepth 100000 in
theorem ev_k32 : ev_b32.all (ev_ok "PathProverModel" "fail" prog_15_method_3_code) = true := by decide +kernel
set_option maxRecDepth 100000 in
theorem ev_k33 : ev_b33.all (ev_ok "PathProverLaw" "read" method_5_code) = true := by decide +kernel
set_option maxRecDepth 100000 in
theorem ev_k34_0 : ev_b34_0.all (ev_ok "PathProver" "read" prog_1_method_5_code) = true := by decide +kernel
set_option maxRecDepth 100000 in
theorem ev_k34_1 : ev_b34_1.all (ev_ok "PathProver" "read" prog_1_method_5_code) = true := by decide +kernel
theorem ev_k34 : ev_b34.all (ev_ok "PathProver" "read" prog_1_method_5_code) = true := (ev_all ev_k34_0 ev_k34_1)
set_option maxRecDepth 100000 in
theorem ev_k35_0 : ev_b35_0.all (ev_ok "PathProver$Parser" "parse" prog_7_method_2_code) = true := by decide +kernel
set_option maxRecDepth 100000 in
theorem ev_k35_1 : ev_b35_1.all (ev_ok "PathProver$Parser" "parse" prog_7_method_2_code) = true := by decide +kernel
set_option maxRecDepth 100000 in
theorem ev_k35_2 : ev_b35_2.all (ev_ok "PathProver$Parser" "parse" prog_7_method_2_code) = true := by decide +kernel
theorem ev_k35 : ev_b35.all (ev_ok "PathProver$Parser" "parse" prog_7_method_2_code) = true := (ev_all ev_k35_0 (ev_all ev_k35_1 ev_k35_2))
set_option maxRecDepth 100000 in
theorem ev_k36_0 : ev_b36_0.all (ev_ok "PathProver$Model" "clear" prog_6_method_2_code) = true := by decide +kernel
set_option maxRecDepth 100000 in
theorem ev_k36_1 : ev_b36_1.all (ev_ok "PathProver$Model" "clear" prog_6_method_2_code) = true := by decide +kernel
theorem ev_k36 : ev_b36.all (ev_ok "PathProver$Model" "clear" prog_6_method_2_code) = true := (ev_all ev_k36_0 ev_k36_1)
set_option maxRecDepth 100000 in
theorem ev_k37 : ev_b37.all (ev_ok "PathProver$Rows" "clear" prog_10_method_2_code) = true := by decide +kernel
set_option maxRecDepth 100000 in
theorem ev_k38_0 : ev_b38_0.all (ev_ok "PathProver$Lexer" "scan" prog_4_method_2_code) = true := by decide +kernel
set_option maxRecDepth 100000 in
theorem ev_k38_1 : ev_b38_1.all (ev_ok "PathProver$Lexer" "scan" prog_4_method_2_code) = true := by decide +kernel
set_option maxRecDepth 100000 in
theorem ev_k38_2 : ev_b38_2.all (ev_ok "PathProver$Lexer" "scan" prog_4_method_2_code) = true := by decide +kernel
theorem ev_k38 : ev_b38.all (ev_ok "PathProver$Lexer" "scan" prog_4_method_2_code) = true := (ev_all ev_k38_0 (ev_all ev_k38_1 ev_k38_2))
set_option maxRecDepth 100000 in
theorem ev_k39_0 : ev_b39_0.all (ev_ok "PathProver$Lexer" "forgetWords" prog_4_method_3_code) = true := by decide +kernel
set_option maxRecDepth 100000 in
theorem ev_k39_1 : ev_b39_1.all (ev_ok "PathProver$Lexer" "forgetWords" prog_4_method_3_code) = true := by decide +kernel
theorem ev_k39 : ev_b39.all (ev_ok "PathProver$Lexer" "forgetWords" prog_4_method_3_code) = true := (ev_all ev_k39_0 ev_k39_1)
set_option maxRecDepth 100000 in
theorem ev_k40 : ev_b40.all (ev_ok "java/util/Arrays" "fill" prog_40_method_103_code) = true := by decide +kernel
set_option maxRecDepth 100000 in
theorem ev_k41_0 : ev_b41_0.all (ev_ok "PathProver$Lexer" "numberOf" prog_4_method_10_code) = true := by decide +kernel
set_option maxRecDepth 100000 in
theorem ev_k41_1 : ev_b41_1.all (ev_ok "PathProver$Lexer" "numberOf" prog_4_method_10_code) = true := by decide +kernel
theorem ev_k41 : ev_b41.all (ev_ok "PathProver$Lexer" "numberOf" prog_4_method_10_code) = true := (ev_all ev_k41_0 ev_k41_1)
set_option maxRecDepth 100000 in
theorem ev_k42_0 : ev_b42_0.all (ev_ok "PathProver$Lexer" "keepWord" prog_4_method_12_code) = true := by decide +kernel
set_option maxRecDepth 100000 in
theorem ev_k42_1 : ev_b42_1.all (ev_ok "PathProver$Lexer" "keepWord" prog_4_method_12_code) = true := by decide +kernel
theorem ev_k42 : ev_b42.all (ev_ok "PathProver$Lexer" "keepWord" prog_4_method_12_code) = true := (ev_all ev_k42_0 ev_k42_1)
set_option maxRecDepth 100000 in
theorem ev_k43_0 : ev_b43_0.all (ev_ok "PathProver$Lexer" "skipBlanks" prog_4_method_4_code) = true := by decide +kernel
set_option maxRecDepth 100000 in
theorem ev_k43_1 : ev_b43_1.all (ev_ok "PathProver$Lexer" "skipBlanks" prog_4_method_4_code) = true := by decide +kernel
theorem ev_k43 : ev_b43.all (ev_ok "PathProver$Lexer" "skipBlanks" prog_4_method_4_code) = true := (ev_all ev_k43_0 ev_k43_1)
