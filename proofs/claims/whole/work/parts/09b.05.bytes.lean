/-! Printed by wip/whole/gen8.py: the methods' instructions are what their bytes say -/
set_option maxRecDepth 100000 in
theorem ev_k143_0 : ev_b143_0.all (ev_ok "PathProver$Parser" "choiceEnded" prog_7_method_38_code) = true := by decide +kernel
set_option maxRecDepth 100000 in
theorem ev_k143_1 : ev_b143_1.all (ev_ok "PathProver$Parser" "choiceEnded" prog_7_method_38_code) = true := by decide +kernel
theorem ev_k143 : ev_b143.all (ev_ok "PathProver$Parser" "choiceEnded" prog_7_method_38_code) = true := (ev_all ev_k143_0 ev_k143_1)
set_option maxRecDepth 100000 in
theorem ev_k144_0 : ev_b144_0.all (ev_ok "PathProver$Parser" "choice" prog_7_method_37_code) = true := by decide +kernel
set_option maxRecDepth 100000 in
theorem ev_k144_1 : ev_b144_1.all (ev_ok "PathProver$Parser" "choice" prog_7_method_37_code) = true := by decide +kernel
theorem ev_k144 : ev_b144.all (ev_ok "PathProver$Parser" "choice" prog_7_method_37_code) = true := (ev_all ev_k144_0 ev_k144_1)
set_option maxRecDepth 100000 in
theorem ev_k145_0 : ev_b145_0.all (ev_ok "PathProver$Parser" "operand" prog_7_method_22_code) = true := by decide +kernel
set_option maxRecDepth 100000 in
theorem ev_k145_1 : ev_b145_1.all (ev_ok "PathProver$Parser" "operand" prog_7_method_22_code) = true := by decide +kernel
set_option maxRecDepth 100000 in
theorem ev_k145_2 : ev_b145_2.all (ev_ok "PathProver$Parser" "operand" prog_7_method_22_code) = true := by decide +kernel
theorem ev_k145 : ev_b145.all (ev_ok "PathProver$Parser" "operand" prog_7_method_22_code) = true := (ev_all ev_k145_0 (ev_all ev_k145_1 ev_k145_2))
set_option maxRecDepth 100000 in
theorem ev_k146 : ev_b146.all (ev_ok "PathProver$Parser" "giveSymbols" prog_7_method_3_code) = true := by decide +kernel
set_option maxRecDepth 100000 in
theorem ev_k147_0 : ev_b147_0.all (ev_ok "PathProver$Parser" "prefix" prog_7_method_23_code) = true := by decide +kernel
set_option maxRecDepth 100000 in
theorem ev_k147_1 : ev_b147_1.all (ev_ok "PathProver$Parser" "prefix" prog_7_method_23_code) = true := by decide +kernel
theorem ev_k147 : ev_b147.all (ev_ok "PathProver$Parser" "prefix" prog_7_method_23_code) = true := (ev_all ev_k147_0 ev_k147_1)
set_option maxRecDepth 100000 in
theorem ev_k148 : ev_b148.all (ev_ok "PathProver$Parser" "push" prog_7_method_16_code) = true := by decide +kernel
set_option maxRecDepth 100000 in
theorem ev_k149_0 : ev_b149_0.all (ev_ok "PathProver$Parser" "leaf" prog_7_method_24_code) = true := by decide +kernel
set_option maxRecDepth 100000 in
theorem ev_k149_1 : ev_b149_1.all (ev_ok "PathProver$Parser" "leaf" prog_7_method_24_code) = true := by decide +kernel
theorem ev_k149 : ev_b149.all (ev_ok "PathProver$Parser" "leaf" prog_7_method_24_code) = true := (ev_all ev_k149_0 ev_k149_1)
set_option maxRecDepth 100000 in
theorem ev_k150 : ev_b150.all (ev_ok "PathProver$Parser" "emit" prog_7_method_21_code) = true := by decide +kernel
set_option maxRecDepth 100000 in
theorem ev_k151_0 : ev_b151_0.all (ev_ok "PathProver$Parser" "names" prog_7_method_25_code) = true := by decide +kernel
set_option maxRecDepth 100000 in
theorem ev_k151_1 : ev_b151_1.all (ev_ok "PathProver$Parser" "names" prog_7_method_25_code) = true := by decide +kernel
theorem ev_k151 : ev_b151.all (ev_ok "PathProver$Parser" "names" prog_7_method_25_code) = true := (ev_all ev_k151_0 ev_k151_1)
set_option maxRecDepth 100000 in
theorem ev_k152 : ev_b152.all (ev_ok "PathProver$Parser" "factorEnded" prog_7_method_26_code) = true := by decide +kernel
set_option maxRecDepth 100000 in
theorem ev_k153 : ev_b153.all (ev_ok "PathProver$Parser" "top" prog_7_method_17_code) = true := by decide +kernel
set_option maxRecDepth 100000 in
theorem ev_k154 : ev_b154.all (ev_ok "PathProver$Parser" "drop" prog_7_method_19_code) = true := by decide +kernel
set_option maxRecDepth 100000 in
theorem ev_k155 : ev_b155.all (ev_ok "PathProver$Parser" "itemEnded" prog_7_method_32_code) = true := by decide +kernel
set_option maxRecDepth 100000 in
theorem ev_k156 : ev_b156.all (ev_ok "PathProver$Parser" "note" prog_7_method_18_code) = true := by decide +kernel
set_option maxRecDepth 100000 in
theorem ev_k157 : ev_b157.all (ev_ok "PathProver$Parser" "turnTo" prog_7_method_20_code) = true := by decide +kernel
set_option maxRecDepth 100000 in
theorem ev_k158 : ev_b158.all (ev_ok "PathProver$Parser" "binary" prog_7_method_30_code) = true := by decide +kernel
set_option maxRecDepth 100000 in
theorem ev_k159_0 : ev_b159_0.all (ev_ok "PathProver$Parser" "closer" prog_7_method_31_code) = true := by decide +kernel
set_option maxRecDepth 100000 in
theorem ev_k159_1 : ev_b159_1.all (ev_ok "PathProver$Parser" "closer" prog_7_method_31_code) = true := by decide +kernel
set_option maxRecDepth 100000 in
theorem ev_k159_2 : ev_b159_2.all (ev_ok "PathProver$Parser" "closer" prog_7_method_31_code) = true := by decide +kernel
set_option maxRecDepth 100000 in
theorem ev_k159_3 : ev_b159_3.all (ev_ok "PathProver$Parser" "closer" prog_7_method_31_code) = true := by decide +kernel
theorem ev_k159 : ev_b159.all (ev_ok "PathProver$Parser" "closer" prog_7_method_31_code) = true := (ev_all ev_k159_0 (ev_all ev_k159_1 (ev_all ev_k159_2 ev_k159_3)))
set_option maxRecDepth 100000 in
theorem ev_k160 : ev_b160.all (ev_ok "PathProver$Parser" "endOfP" prog_7_method_28_code) = true := by decide +kernel
set_option maxRecDepth 100000 in
theorem ev_k161 : ev_b161.all (ev_ok "PathProver$Parser" "unwind" prog_7_method_27_code) = true := by decide +kernel
set_option maxRecDepth 100000 in
theorem ev_k162_0 : ev_b162_0.all (ev_ok "PathProver$Parser" "given" prog_7_method_33_code) = true := by decide +kernel
set_option maxRecDepth 100000 in
theorem ev_k162_1 : ev_b162_1.all (ev_ok "PathProver$Parser" "given" prog_7_method_33_code) = true := by decide +kernel
theorem ev_k162 : ev_b162.all (ev_ok "PathProver$Parser" "given" prog_7_method_33_code) = true := (ev_all ev_k162_0 ev_k162_1)
set_option maxRecDepth 100000 in
theorem ev_k163 : ev_b163.all (ev_ok "PathProver$Parser" "partEnded" prog_7_method_34_code) = true := by decide +kernel
set_option maxRecDepth 100000 in
theorem ev_k164 : ev_b164.all (ev_ok "PathProver$Parser" "listed" prog_7_method_35_code) = true := by decide +kernel
set_option maxRecDepth 100000 in
theorem ev_k165 : ev_b165.all (ev_ok "PathProver$Parser" "branched" prog_7_method_36_code) = true := by decide +kernel
set_option maxRecDepth 100000 in
theorem ev_k166 : ev_b166.all (ev_ok "PathProver$Parser" "start" prog_7_method_15_code) = true := by decide +kernel
set_option maxRecDepth 100000 in
theorem ev_k167_0 : ev_b167_0.all (ev_ok "PathProver$Parser" "instance" prog_7_method_12_code) = true := by decide +kernel
set_option maxRecDepth 100000 in
theorem ev_k167_1 : ev_b167_1.all (ev_ok "PathProver$Parser" "instance" prog_7_method_12_code) = true := by decide +kernel
theorem ev_k167 : ev_b167.all (ev_ok "PathProver$Parser" "instance" prog_7_method_12_code) = true := (ev_all ev_k167_0 ev_k167_1)
set_option maxRecDepth 100000 in
theorem ev_k168_0 : ev_b168_0.all (ev_ok "PathProver$Parser" "valueList" prog_7_method_14_code) = true := by decide +kernel
set_option maxRecDepth 100000 in
theorem ev_k168_1 : ev_b168_1.all (ev_ok "PathProver$Parser" "valueList" prog_7_method_14_code) = true := by decide +kernel
set_option maxRecDepth 100000 in
theorem ev_k168_2 : ev_b168_2.all (ev_ok "PathProver$Parser" "valueList" prog_7_method_14_code) = true := by decide +kernel
theorem ev_k168 : ev_b168.all (ev_ok "PathProver$Parser" "valueList" prog_7_method_14_code) = true := (ev_all ev_k168_0 (ev_all ev_k168_1 ev_k168_2))
set_option maxRecDepth 100000 in
theorem ev_k169 : ev_b169.all (ev_ok "PathProver$Parser" "bound" prog_7_method_13_code) = true := by decide +kernel
set_option maxRecDepth 100000 in
theorem ev_k170 : ev_b170.all (ev_ok "PathProver$Parser" "params" prog_7_method_7_code) = true := by decide +kernel
