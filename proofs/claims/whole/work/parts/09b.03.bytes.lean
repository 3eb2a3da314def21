/-! Printed by wip/whole/gen8.py: the methods' instructions are what their bytes say -/
set_option maxRecDepth 100000 in
theorem ev_k73_0 : ev_b73_0.all (ev_ok "PathProverModel" "show" prog_15_method_120_code) = true := by decide +kernel
set_option maxRecDepth 100000 in
theorem ev_k73_1 : ev_b73_1.all (ev_ok "PathProverModel" "show" prog_15_method_120_code) = true := by decide +kernel
set_option maxRecDepth 100000 in
theorem ev_k73_2 : ev_b73_2.all (ev_ok "PathProverModel" "show" prog_15_method_120_code) = true := by decide +kernel
set_option maxRecDepth 100000 in
theorem ev_k73_3 : ev_b73_3.all (ev_ok "PathProverModel" "show" prog_15_method_120_code) = true := by decide +kernel
theorem ev_k73 : ev_b73.all (ev_ok "PathProverModel" "show" prog_15_method_120_code) = true := (ev_all ev_k73_0 (ev_all ev_k73_1 (ev_all ev_k73_2 ev_k73_3)))
set_option maxRecDepth 100000 in
theorem ev_k74 : ev_b74.all (ev_ok "PathProverLaw" "pick" method_10_code) = true := by decide +kernel
set_option maxRecDepth 100000 in
theorem ev_k75 : ev_b75.all (ev_ok "PathProver" "pick" prog_1_method_11_code) = true := by decide +kernel
set_option maxRecDepth 100000 in
theorem ev_k76 : ev_b76.all (ev_ok "PathProver" "needPlain" prog_1_method_23_code) = true := by decide +kernel
set_option maxRecDepth 100000 in
theorem ev_k77 : ev_b77.all (ev_ok "PathProverModel" "pick" prog_15_method_126_code) = true := by decide +kernel
set_option maxRecDepth 100000 in
theorem ev_k78 : ev_b78.all (ev_ok "PathProverLaw" "first" method_11_code) = true := by decide +kernel
set_option maxRecDepth 100000 in
theorem ev_k79 : ev_b79.all (ev_ok "PathProver" "first" prog_1_method_12_code) = true := by decide +kernel
set_option maxRecDepth 100000 in
theorem ev_k80_0 : ev_b80_0.all (ev_ok "PathProverModel" "first" prog_15_method_127_code) = true := by decide +kernel
set_option maxRecDepth 100000 in
theorem ev_k80_1 : ev_b80_1.all (ev_ok "PathProverModel" "first" prog_15_method_127_code) = true := by decide +kernel
theorem ev_k80 : ev_b80.all (ev_ok "PathProverModel" "first" prog_15_method_127_code) = true := (ev_all ev_k80_0 ev_k80_1)
set_option maxRecDepth 100000 in
theorem ev_k81 : ev_b81.all (ev_ok "PathProverLaw" "step" method_12_code) = true := by decide +kernel
set_option maxRecDepth 100000 in
theorem ev_k82 : ev_b82.all (ev_ok "PathProver" "step" prog_1_method_13_code) = true := by decide +kernel
set_option maxRecDepth 100000 in
theorem ev_k83_0 : ev_b83_0.all (ev_ok "PathProverModel" "step" prog_15_method_128_code) = true := by decide +kernel
set_option maxRecDepth 100000 in
theorem ev_k83_1 : ev_b83_1.all (ev_ok "PathProverModel" "step" prog_15_method_128_code) = true := by decide +kernel
theorem ev_k83 : ev_b83.all (ev_ok "PathProverModel" "step" prog_15_method_128_code) = true := (ev_all ev_k83_0 ev_k83_1)
set_option maxRecDepth 100000 in
theorem ev_k84 : ev_b84.all (ev_ok "PathProverLaw" "value" method_13_code) = true := by decide +kernel
set_option maxRecDepth 100000 in
theorem ev_k85 : ev_b85.all (ev_ok "PathProver" "value" prog_1_method_14_code) = true := by decide +kernel
set_option maxRecDepth 100000 in
theorem ev_k86_0 : ev_b86_0.all (ev_ok "PathProverModel" "value" prog_15_method_129_code) = true := by decide +kernel
set_option maxRecDepth 100000 in
theorem ev_k86_1 : ev_b86_1.all (ev_ok "PathProverModel" "value" prog_15_method_129_code) = true := by decide +kernel
theorem ev_k86 : ev_b86.all (ev_ok "PathProverModel" "value" prog_15_method_129_code) = true := (ev_all ev_k86_0 ev_k86_1)
set_option maxRecDepth 100000 in
theorem ev_k87 : ev_b87.all (ev_ok "PathProverLaw" "holds" method_14_code) = true := by decide +kernel
set_option maxRecDepth 100000 in
theorem ev_k88 : ev_b88.all (ev_ok "PathProver" "holds" prog_1_method_15_code) = true := by decide +kernel
set_option maxRecDepth 100000 in
theorem ev_k89_0 : ev_b89_0.all (ev_ok "PathProverModel" "holds" prog_15_method_130_code) = true := by decide +kernel
set_option maxRecDepth 100000 in
theorem ev_k89_1 : ev_b89_1.all (ev_ok "PathProverModel" "holds" prog_15_method_130_code) = true := by decide +kernel
theorem ev_k89 : ev_b89.all (ev_ok "PathProverModel" "holds" prog_15_method_130_code) = true := (ev_all ev_k89_0 ev_k89_1)
set_option maxRecDepth 100000 in
theorem ev_k90 : ev_b90.all (ev_ok "PathProverLaw" "tidy" method_15_code) = true := by decide +kernel
set_option maxRecDepth 100000 in
theorem ev_k91 : ev_b91.all (ev_ok "PathProver" "tidy" prog_1_method_16_code) = true := by decide +kernel
set_option maxRecDepth 100000 in
theorem ev_k92 : ev_b92.all (ev_ok "PathProverModel" "tidy" prog_15_method_131_code) = true := by decide +kernel
set_option maxRecDepth 100000 in
theorem ev_k93 : ev_b93.all (ev_ok "PathProverLaw" "faults" method_16_code) = true := by decide +kernel
set_option maxRecDepth 100000 in
theorem ev_k94 : ev_b94.all (ev_ok "PathProver" "faults" prog_1_method_17_code) = true := by decide +kernel
set_option maxRecDepth 100000 in
theorem ev_k95 : ev_b95.all (ev_ok "PathProverModel" "faults" prog_15_method_132_code) = true := by decide +kernel
set_option maxRecDepth 100000 in
theorem ev_k96 : ev_b96.all (ev_ok "java/lang/Math" "max" prog_31_method_65_code) = true := by decide +kernel
set_option maxRecDepth 100000 in
theorem ev_k97 : ev_b97.all (ev_ok "java/lang/Math" "abs" prog_31_method_59_code) = true := by decide +kernel
set_option maxRecDepth 100000 in
theorem ev_k98 : ev_b98.all (ev_ok "java/util/Arrays" "fill" prog_40_method_104_code) = true := by decide +kernel
set_option maxRecDepth 100000 in
theorem ev_k99 : ev_b99.all (ev_ok "java/util/Arrays" "fill" prog_40_method_102_code) = true := by decide +kernel
set_option maxRecDepth 100000 in
theorem ev_k100 : ev_b100.all (ev_ok "java/util/Arrays" "rangeCheck" prog_40_method_30_code) = true := by decide +kernel
set_option maxRecDepth 100000 in
theorem ev_k101 : ev_b101.all (ev_ok "java/util/Arrays" "copyOf" prog_40_method_123_code) = true := by decide +kernel
set_option maxRecDepth 100000 in
theorem ev_k102 : ev_b102.all (ev_ok "java/util/Arrays" "copyOf" prog_40_method_121_code) = true := by decide +kernel
set_option maxRecDepth 100000 in
theorem ev_k103_0 : ev_b103_0.all (ev_ok "java/lang/Long" "bitCount" prog_30_method_50_code) = true := by decide +kernel
set_option maxRecDepth 100000 in
theorem ev_k103_1 : ev_b103_1.all (ev_ok "java/lang/Long" "bitCount" prog_30_method_50_code) = true := by decide +kernel
theorem ev_k103 : ev_b103.all (ev_ok "java/lang/Long" "bitCount" prog_30_method_50_code) = true := (ev_all ev_k103_0 ev_k103_1)
set_option maxRecDepth 100000 in
theorem ev_k104 : ev_b104.all (ev_ok "java/lang/Long" "numberOfTrailingZeros" prog_30_method_49_code) = true := by decide +kernel
set_option maxRecDepth 100000 in
theorem ev_k105_0 : ev_b105_0.all (ev_ok "java/lang/Integer" "numberOfTrailingZeros" prog_29_method_48_code) = true := by decide +kernel
set_option maxRecDepth 100000 in
theorem ev_k105_1 : ev_b105_1.all (ev_ok "java/lang/Integer" "numberOfTrailingZeros" prog_29_method_48_code) = true := by decide +kernel
theorem ev_k105 : ev_b105.all (ev_ok "java/lang/Integer" "numberOfTrailingZeros" prog_29_method_48_code) = true := (ev_all ev_k105_0 ev_k105_1)
set_option maxRecDepth 100000 in
theorem ev_k106_0 : ev_b106_0.all (ev_ok "java/lang/Integer" "numberOfLeadingZeros" prog_29_method_47_code) = true := by decide +kernel
set_option maxRecDepth 100000 in
theorem ev_k106_1 : ev_b106_1.all (ev_ok "java/lang/Integer" "numberOfLeadingZeros" prog_29_method_47_code) = true := by decide +kernel
theorem ev_k106 : ev_b106.all (ev_ok "java/lang/Integer" "numberOfLeadingZeros" prog_29_method_47_code) = true := (ev_all ev_k106_0 ev_k106_1)
set_option maxRecDepth 100000 in
theorem ev_k107 : ev_b107.all (ev_ok "java/lang/Integer" "highestOneBit" prog_29_method_45_code) = true := by decide +kernel
set_option maxRecDepth 100000 in
theorem ev_k108 : ev_b108.all (ev_ok "java/lang/String" "indexOf" prog_33_method_79_code) = true := by decide +kernel
set_option maxRecDepth 100000 in
theorem ev_k109 : ev_b109.all (ev_ok "java/lang/String" "indexOf" prog_33_method_80_code) = true := by decide +kernel
set_option maxRecDepth 100000 in
theorem ev_k110 : ev_b110.all (ev_ok "java/lang/StringLatin1" "indexOf" prog_35_method_22_code) = true := by decide +kernel
set_option maxRecDepth 100000 in
theorem ev_k111 : ev_b111.all (ev_ok "java/lang/StringLatin1" "canEncode" prog_35_method_4_code) = true := by decide +kernel
set_option maxRecDepth 100000 in
theorem ev_k112 : ev_b112.all (ev_ok "java/lang/StringLatin1" "indexOfChar" prog_35_method_23_code) = true := by decide +kernel
set_option maxRecDepth 100000 in
theorem ev_k113 : ev_b113.all (ev_ok "java/lang/String" "equals" prog_33_method_66_code) = true := by decide +kernel
set_option maxRecDepth 100000 in
theorem ev_k114 : ev_b114.all (ev_ok "java/lang/StringLatin1" "equals" prog_35_method_13_code) = true := by decide +kernel
set_option maxRecDepth 100000 in
theorem ev_k115 : ev_b115.all (ev_ok "PathProver$Rows" "cut" prog_10_method_3_code) = true := by decide +kernel
set_option maxRecDepth 100000 in
theorem ev_k116 : ev_b116.all (ev_ok "PathProver$Rows" "set" prog_10_method_6_code) = true := by decide +kernel
set_option maxRecDepth 100000 in
theorem ev_k117 : ev_b117.all (ev_ok "PathProver$Lexer" "symbolOf" prog_4_method_14_code) = true := by decide +kernel
set_option maxRecDepth 100000 in
theorem ev_k118 : ev_b118.all (ev_ok "PathProver$Lexer" "makeSymbol" prog_4_method_13_code) = true := by decide +kernel
set_option maxRecDepth 100000 in
theorem ev_k119 : ev_b119.all (ev_ok "PathProver$Lexer" "isLetter" prog_4_method_5_code) = true := by decide +kernel
set_option maxRecDepth 100000 in
theorem ev_k120_0 : ev_b120_0.all (ev_ok "PathProver$Lexer" "word" prog_4_method_7_code) = true := by decide +kernel
set_option maxRecDepth 100000 in
theorem ev_k120_1 : ev_b120_1.all (ev_ok "PathProver$Lexer" "word" prog_4_method_7_code) = true := by decide +kernel
theorem ev_k120 : ev_b120.all (ev_ok "PathProver$Lexer" "word" prog_4_method_7_code) = true := (ev_all ev_k120_0 ev_k120_1)
