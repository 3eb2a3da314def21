/-! Printed by wip/whole/gen8.py: the methods' instructions are what their bytes say -/
set_option maxRecDepth 100000 in
theorem ev_k0_0 : ev_b0_0.all (ev_ok "PathProverLaw" "law" code) = true := by decide +kernel
set_option maxRecDepth 100000 in
theorem ev_k0_1 : ev_b0_1.all (ev_ok "PathProverLaw" "law" code) = true := by decide +kernel
set_option maxRecDepth 100000 in
theorem ev_k0_2 : ev_b0_2.all (ev_ok "PathProverLaw" "law" code) = true := by decide +kernel
set_option maxRecDepth 100000 in
theorem ev_k0_3 : ev_b0_3.all (ev_ok "PathProverLaw" "law" code) = true := by decide +kernel
set_option maxRecDepth 100000 in
theorem ev_k0_4 : ev_b0_4.all (ev_ok "PathProverLaw" "law" code) = true := by decide +kernel
set_option maxRecDepth 100000 in
theorem ev_k0_5 : ev_b0_5.all (ev_ok "PathProverLaw" "law" code) = true := by decide +kernel
set_option maxRecDepth 100000 in
theorem ev_k0_6 : ev_b0_6.all (ev_ok "PathProverLaw" "law" code) = true := by decide +kernel
set_option maxRecDepth 100000 in
theorem ev_k0_7 : ev_b0_7.all (ev_ok "PathProverLaw" "law" code) = true := by decide +kernel
set_option maxRecDepth 100000 in
theorem ev_k0_8 : ev_b0_8.all (ev_ok "PathProverLaw" "law" code) = true := by decide +kernel
set_option maxRecDepth 100000 in
theorem ev_k0_9 : ev_b0_9.all (ev_ok "PathProverLaw" "law" code) = true := by decide +kernel
set_option maxRecDepth 100000 in
theorem ev_k0_10 : ev_b0_10.all (ev_ok "PathProverLaw" "law" code) = true := by decide +kernel
set_option maxRecDepth 100000 in
theorem ev_k0_11 : ev_b0_11.all (ev_ok "PathProverLaw" "law" code) = true := by decide +kernel
set_option maxRecDepth 100000 in
theorem ev_k0_12 : ev_b0_12.all (ev_ok "PathProverLaw" "law" code) = true := by decide +kernel
set_option maxRecDepth 100000 in
theorem ev_k0_13 : ev_b0_13.all (ev_ok "PathProverLaw" "law" code) = true := by decide +kernel
set_option maxRecDepth 100000 in
theorem ev_k0_14 : ev_b0_14.all (ev_ok "PathProverLaw" "law" code) = true := by decide +kernel
theorem ev_k0 : ev_b0.all (ev_ok "PathProverLaw" "law" code) = true := (ev_all ev_k0_0 (ev_all ev_k0_1 (ev_all ev_k0_2 (ev_all ev_k0_3 (ev_all ev_k0_4 (ev_all ev_k0_5 (ev_all ev_k0_6 (ev_all ev_k0_7 (ev_all ev_k0_8 (ev_all ev_k0_9 (ev_all ev_k0_10 (ev_all ev_k0_11 (ev_all ev_k0_12 (ev_all ev_k0_13 ev_k0_14))))))))))))))
set_option maxRecDepth 100000 in
theorem ev_k1_0 : ev_b1_0.all (ev_ok "PathProver" "<init>" prog_1_method_1_code) = true := by decide +kernel
set_option maxRecDepth 100000 in
theorem ev_k1_1 : ev_b1_1.all (ev_ok "PathProver" "<init>" prog_1_method_1_code) = true := by decide +kernel
theorem ev_k1 : ev_b1.all (ev_ok "PathProver" "<init>" prog_1_method_1_code) = true := (ev_all ev_k1_0 ev_k1_1)
set_option maxRecDepth 100000 in
theorem ev_k2_0 : ev_b2_0.all (ev_ok "PathProver$Model" "<init>" prog_6_method_1_code) = true := by decide +kernel
set_option maxRecDepth 100000 in
theorem ev_k2_1 : ev_b2_1.all (ev_ok "PathProver$Model" "<init>" prog_6_method_1_code) = true := by decide +kernel
set_option maxRecDepth 100000 in
theorem ev_k2_2 : ev_b2_2.all (ev_ok "PathProver$Model" "<init>" prog_6_method_1_code) = true := by decide +kernel
set_option maxRecDepth 100000 in
theorem ev_k2_3 : ev_b2_3.all (ev_ok "PathProver$Model" "<init>" prog_6_method_1_code) = true := by decide +kernel
theorem ev_k2 : ev_b2.all (ev_ok "PathProver$Model" "<init>" prog_6_method_1_code) = true := (ev_all ev_k2_0 (ev_all ev_k2_1 (ev_all ev_k2_2 ev_k2_3)))
set_option maxRecDepth 100000 in
theorem ev_k3 : ev_b3.all (ev_ok "PathProver$Rows" "<init>" prog_10_method_1_code) = true := by decide +kernel
set_option maxRecDepth 100000 in
theorem ev_k4 : ev_b4.all (ev_ok "PathProver$Parser" "<init>" prog_7_method_1_code) = true := by decide +kernel
set_option maxRecDepth 100000 in
theorem ev_k5_0 : ev_b5_0.all (ev_ok "PathProver$Lexer" "<init>" prog_4_method_1_code) = true := by decide +kernel
set_option maxRecDepth 100000 in
theorem ev_k5_1 : ev_b5_1.all (ev_ok "PathProver$Lexer" "<init>" prog_4_method_1_code) = true := by decide +kernel
theorem ev_k5 : ev_b5.all (ev_ok "PathProver$Lexer" "<init>" prog_4_method_1_code) = true := (ev_all ev_k5_0 ev_k5_1)
set_option maxRecDepth 100000 in
theorem ev_k6 : ev_b6.all (ev_ok "java/lang/String" "length" prog_33_method_54_code) = true := by decide +kernel
set_option maxRecDepth 100000 in
theorem ev_k7 : ev_b7.all (ev_ok "java/lang/String" "coder" prog_33_method_152_code) = true := by decide +kernel
set_option maxRecDepth 100000 in
theorem ev_k8 : ev_b8.all (ev_ok "java/lang/String" "charAt" prog_33_method_56_code) = true := by decide +kernel
set_option maxRecDepth 100000 in
theorem ev_k9 : ev_b9.all (ev_ok "java/lang/String" "isLatin1" prog_33_method_154_code) = true := by decide +kernel
set_option maxRecDepth 100000 in
theorem ev_k10 : ev_b10.all (ev_ok "java/lang/StringLatin1" "charAt" prog_35_method_2_code) = true := by decide +kernel
set_option maxRecDepth 100000 in
theorem ev_k11 : ev_b11.all (ev_ok "java/lang/String" "checkIndex" prog_33_method_155_code) = true := by decide +kernel
set_option maxRecDepth 100000 in
theorem ev_k12 : ev_b12.all (ev_ok "jdk/internal/util/Preconditions" "checkIndex" prog_42_method_11_code) = true := by decide +kernel
set_option maxRecDepth 100000 in
theorem ev_k13 : ev_b13.all (ev_ok "PathProver$Judge" "<init>" prog_3_method_1_code) = true := by decide +kernel
set_option maxRecDepth 100000 in
theorem ev_k14 : ev_b14.all (ev_ok "PathProver$Sound" "<init>" prog_12_method_1_code) = true := by decide +kernel
set_option maxRecDepth 100000 in
theorem ev_k15_0 : ev_b15_0.all (ev_ok "PathProver$Space" "<init>" prog_13_method_1_code) = true := by decide +kernel
set_option maxRecDepth 100000 in
theorem ev_k15_1 : ev_b15_1.all (ev_ok "PathProver$Space" "<init>" prog_13_method_1_code) = true := by decide +kernel
theorem ev_k15 : ev_b15.all (ev_ok "PathProver$Space" "<init>" prog_13_method_1_code) = true := (ev_all ev_k15_0 ev_k15_1)
set_option maxRecDepth 100000 in
theorem ev_k16_0 : ev_b16_0.all (ev_ok "PathProver$Machine" "<init>" prog_5_method_1_code) = true := by decide +kernel
set_option maxRecDepth 100000 in
theorem ev_k16_1 : ev_b16_1.all (ev_ok "PathProver$Machine" "<init>" prog_5_method_1_code) = true := by decide +kernel
theorem ev_k16 : ev_b16.all (ev_ok "PathProver$Machine" "<init>" prog_5_method_1_code) = true := (ev_all ev_k16_0 ev_k16_1)
set_option maxRecDepth 100000 in
theorem ev_k17_0 : ev_b17_0.all (ev_ok "PathProver$Rows" "put" prog_10_method_4_code) = true := by decide +kernel
set_option maxRecDepth 100000 in
theorem ev_k17_1 : ev_b17_1.all (ev_ok "PathProver$Rows" "put" prog_10_method_4_code) = true := by decide +kernel
theorem ev_k17 : ev_b17.all (ev_ok "PathProver$Rows" "put" prog_10_method_4_code) = true := (ev_all ev_k17_0 ev_k17_1)
set_option maxRecDepth 100000 in
theorem ev_k18 : ev_b18.all (ev_ok "PathProver$Sets" "<init>" prog_11_method_1_code) = true := by decide +kernel
set_option maxRecDepth 100000 in
theorem ev_k19_0 : ev_b19_0.all (ev_ok "PathProver$Relation" "<init>" prog_9_method_1_code) = true := by decide +kernel
set_option maxRecDepth 100000 in
theorem ev_k19_1 : ev_b19_1.all (ev_ok "PathProver$Relation" "<init>" prog_9_method_1_code) = true := by decide +kernel
set_option maxRecDepth 100000 in
theorem ev_k19_2 : ev_b19_2.all (ev_ok "PathProver$Relation" "<init>" prog_9_method_1_code) = true := by decide +kernel
theorem ev_k19 : ev_b19.all (ev_ok "PathProver$Relation" "<init>" prog_9_method_1_code) = true := (ev_all ev_k19_0 (ev_all ev_k19_1 ev_k19_2))
