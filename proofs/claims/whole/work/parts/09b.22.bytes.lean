/-! Printed by wip/whole/gen8.py: the methods' instructions are what their bytes say -/
set_option maxRecDepth 100000 in
theorem ev_k521_0 : ev_b521_0.all (ev_ok "PathProverModel$Node" "codeOf" prog_20_method_2_code) = true := by decide +kernel
set_option maxRecDepth 100000 in
theorem ev_k521_1 : ev_b521_1.all (ev_ok "PathProverModel$Node" "codeOf" prog_20_method_2_code) = true := by decide +kernel
set_option maxRecDepth 100000 in
theorem ev_k521_2 : ev_b521_2.all (ev_ok "PathProverModel$Node" "codeOf" prog_20_method_2_code) = true := by decide +kernel
set_option maxRecDepth 100000 in
theorem ev_k521_3 : ev_b521_3.all (ev_ok "PathProverModel$Node" "codeOf" prog_20_method_2_code) = true := by decide +kernel
set_option maxRecDepth 100000 in
theorem ev_k521_4 : ev_b521_4.all (ev_ok "PathProverModel$Node" "codeOf" prog_20_method_2_code) = true := by decide +kernel
set_option maxRecDepth 100000 in
theorem ev_k521_5 : ev_b521_5.all (ev_ok "PathProverModel$Node" "codeOf" prog_20_method_2_code) = true := by decide +kernel
theorem ev_k521 : ev_b521.all (ev_ok "PathProverModel$Node" "codeOf" prog_20_method_2_code) = true := (ev_all ev_k521_0 (ev_all ev_k521_1 (ev_all ev_k521_2 (ev_all ev_k521_3 (ev_all ev_k521_4 ev_k521_5)))))
set_option maxRecDepth 100000 in
theorem ev_k522 : ev_b522.all (ev_ok "java/lang/StringBuilder" "<init>" prog_34_method_1_code) = true := by decide +kernel
set_option maxRecDepth 100000 in
theorem ev_k523 : ev_b523.all (ev_ok "java/lang/AbstractStringBuilder" "<init>" prog_21_method_2_code) = true := by decide +kernel
set_option maxRecDepth 100000 in
theorem ev_k524 : ev_b524.all (ev_ok "java/lang/StringBuilder" "append" prog_34_method_14_code) = true := by decide +kernel
set_option maxRecDepth 100000 in
theorem ev_k525_0 : ev_b525_0.all (ev_ok "java/lang/AbstractStringBuilder" "append" prog_21_method_31_code) = true := by decide +kernel
set_option maxRecDepth 100000 in
theorem ev_k525_1 : ev_b525_1.all (ev_ok "java/lang/AbstractStringBuilder" "append" prog_21_method_31_code) = true := by decide +kernel
theorem ev_k525 : ev_b525.all (ev_ok "java/lang/AbstractStringBuilder" "append" prog_21_method_31_code) = true := (ev_all ev_k525_0 ev_k525_1)
set_option maxRecDepth 100000 in
theorem ev_k526 : ev_b526.all (ev_ok "java/lang/AbstractStringBuilder" "ensureCapacityInternal" prog_21_method_9_code) = true := by decide +kernel
set_option maxRecDepth 100000 in
theorem ev_k527 : ev_b527.all (ev_ok "java/lang/AbstractStringBuilder" "newCapacity" prog_21_method_10_code) = true := by decide +kernel
set_option maxRecDepth 100000 in
theorem ev_k528 : ev_b528.all (ev_ok "jdk/internal/util/ArraysSupport" "newLength" prog_41_method_27_code) = true := by decide +kernel
set_option maxRecDepth 100000 in
theorem ev_k529 : ev_b529.all (ev_ok "java/lang/AbstractStringBuilder" "isLatin1" prog_21_method_68_code) = true := by decide +kernel
set_option maxRecDepth 100000 in
theorem ev_k530 : ev_b530.all (ev_ok "java/lang/StringLatin1" "canEncode" prog_35_method_3_code) = true := by decide +kernel
set_option maxRecDepth 100000 in
theorem ev_k531 : ev_b531.all (ev_ok "java/lang/StringBuilder" "toString" prog_34_method_42_code) = true := by decide +kernel
set_option maxRecDepth 100000 in
theorem ev_k532 : ev_b532.all (ev_ok "java/lang/String" "<init>" prog_33_method_53_code) = true := by decide +kernel
set_option maxRecDepth 100000 in
theorem ev_k533_0 : ev_b533_0.all (ev_ok "java/lang/String" "<init>" prog_33_method_150_code) = true := by decide +kernel
set_option maxRecDepth 100000 in
theorem ev_k533_1 : ev_b533_1.all (ev_ok "java/lang/String" "<init>" prog_33_method_150_code) = true := by decide +kernel
theorem ev_k533 : ev_b533.all (ev_ok "java/lang/String" "<init>" prog_33_method_150_code) = true := (ev_all ev_k533_0 ev_k533_1)
set_option maxRecDepth 100000 in
theorem ev_k534 : ev_b534.all (ev_ok "java/lang/AbstractStringBuilder" "getValue" prog_21_method_64_code) = true := by decide +kernel
set_option maxRecDepth 100000 in
theorem ev_k535 : ev_b535.all (ev_ok "java/lang/StringBuilder" "length" prog_34_method_93_code) = true := by decide +kernel
set_option maxRecDepth 100000 in
theorem ev_k536 : ev_b536.all (ev_ok "java/lang/AbstractStringBuilder" "length" prog_21_method_6_code) = true := by decide +kernel
set_option maxRecDepth 100000 in
theorem ev_k537 : ev_b537.all (ev_ok "java/util/Arrays" "copyOfRange" prog_40_method_132_code) = true := by decide +kernel
set_option maxRecDepth 100000 in
theorem ev_k538 : ev_b538.all (ev_ok "java/util/Arrays" "copyOfRangeByte" prog_40_method_133_code) = true := by decide +kernel
set_option maxRecDepth 100000 in
theorem ev_k539 : ev_b539.all (ev_ok "java/util/Arrays" "checkLength" prog_40_method_131_code) = true := by decide +kernel
