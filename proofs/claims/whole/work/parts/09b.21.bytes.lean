/-! Printed by wip/whole/gen8.py: the methods' instructions are what their bytes say -/
set_option maxRecDepth 100000 in
theorem ev_k494 : ev_b494.all (ev_ok "PathProverModel" "conjunction" prog_15_method_19_code) = true := by decide +kernel
set_option maxRecDepth 100000 in
theorem ev_k495_0 : ev_b495_0.all (ev_ok "PathProverModel" "prefix" prog_15_method_20_code) = true := by decide +kernel
set_option maxRecDepth 100000 in
theorem ev_k495_1 : ev_b495_1.all (ev_ok "PathProverModel" "prefix" prog_15_method_20_code) = true := by decide +kernel
set_option maxRecDepth 100000 in
theorem ev_k495_2 : ev_b495_2.all (ev_ok "PathProverModel" "prefix" prog_15_method_20_code) = true := by decide +kernel
theorem ev_k495 : ev_b495.all (ev_ok "PathProverModel" "prefix" prog_15_method_20_code) = true := (ev_all ev_k495_0 (ev_all ev_k495_1 ev_k495_2))
set_option maxRecDepth 100000 in
theorem ev_k496 : ev_b496.all (ev_ok "PathProverModel" "nest" prog_15_method_14_code) = true := by decide +kernel
set_option maxRecDepth 100000 in
theorem ev_k497_0 : ev_b497_0.all (ev_ok "PathProverModel" "relation" prog_15_method_21_code) = true := by decide +kernel
set_option maxRecDepth 100000 in
theorem ev_k497_1 : ev_b497_1.all (ev_ok "PathProverModel" "relation" prog_15_method_21_code) = true := by decide +kernel
set_option maxRecDepth 100000 in
theorem ev_k497_2 : ev_b497_2.all (ev_ok "PathProverModel" "relation" prog_15_method_21_code) = true := by decide +kernel
theorem ev_k497 : ev_b497.all (ev_ok "PathProverModel" "relation" prog_15_method_21_code) = true := (ev_all ev_k497_0 (ev_all ev_k497_1 ev_k497_2))
set_option maxRecDepth 100000 in
theorem ev_k498_0 : ev_b498_0.all (ev_ok "PathProverModel" "sum" prog_15_method_22_code) = true := by decide +kernel
set_option maxRecDepth 100000 in
theorem ev_k498_1 : ev_b498_1.all (ev_ok "PathProverModel" "sum" prog_15_method_22_code) = true := by decide +kernel
theorem ev_k498 : ev_b498.all (ev_ok "PathProverModel" "sum" prog_15_method_22_code) = true := (ev_all ev_k498_0 ev_k498_1)
set_option maxRecDepth 100000 in
theorem ev_k499_0 : ev_b499_0.all (ev_ok "PathProverModel" "term" prog_15_method_23_code) = true := by decide +kernel
set_option maxRecDepth 100000 in
theorem ev_k499_1 : ev_b499_1.all (ev_ok "PathProverModel" "term" prog_15_method_23_code) = true := by decide +kernel
theorem ev_k499 : ev_b499.all (ev_ok "PathProverModel" "term" prog_15_method_23_code) = true := (ev_all ev_k499_0 ev_k499_1)
set_option maxRecDepth 100000 in
theorem ev_k500_0 : ev_b500_0.all (ev_ok "PathProverModel" "factor" prog_15_method_25_code) = true := by decide +kernel
set_option maxRecDepth 100000 in
theorem ev_k500_1 : ev_b500_1.all (ev_ok "PathProverModel" "factor" prog_15_method_25_code) = true := by decide +kernel
set_option maxRecDepth 100000 in
theorem ev_k500_2 : ev_b500_2.all (ev_ok "PathProverModel" "factor" prog_15_method_25_code) = true := by decide +kernel
theorem ev_k500 : ev_b500.all (ev_ok "PathProverModel" "factor" prog_15_method_25_code) = true := (ev_all ev_k500_0 (ev_all ev_k500_1 ev_k500_2))
set_option maxRecDepth 100000 in
theorem ev_k501_0 : ev_b501_0.all (ev_ok "PathProverModel" "path" prog_15_method_24_code) = true := by decide +kernel
set_option maxRecDepth 100000 in
theorem ev_k501_1 : ev_b501_1.all (ev_ok "PathProverModel" "path" prog_15_method_24_code) = true := by decide +kernel
theorem ev_k501 : ev_b501.all (ev_ok "PathProverModel" "path" prog_15_method_24_code) = true := (ev_all ev_k501_0 ev_k501_1)
set_option maxRecDepth 100000 in
theorem ev_k502_0 : ev_b502_0.all (ev_ok "PathProverModel" "cases" prog_15_method_26_code) = true := by decide +kernel
set_option maxRecDepth 100000 in
theorem ev_k502_1 : ev_b502_1.all (ev_ok "PathProverModel" "cases" prog_15_method_26_code) = true := by decide +kernel
theorem ev_k502 : ev_b502.all (ev_ok "PathProverModel" "cases" prog_15_method_26_code) = true := (ev_all ev_k502_0 ev_k502_1)
set_option maxRecDepth 100000 in
theorem ev_k503_0 : ev_b503_0.all (ev_ok "PathProverModel" "choice" prog_15_method_27_code) = true := by decide +kernel
set_option maxRecDepth 100000 in
theorem ev_k503_1 : ev_b503_1.all (ev_ok "PathProverModel" "choice" prog_15_method_27_code) = true := by decide +kernel
theorem ev_k503 : ev_b503.all (ev_ok "PathProverModel" "choice" prog_15_method_27_code) = true := (ev_all ev_k503_0 ev_k503_1)
set_option maxRecDepth 100000 in
theorem ev_k504 : ev_b504.all (ev_ok "PathProverModel" "atName" prog_15_method_10_code) = true := by decide +kernel
set_option maxRecDepth 100000 in
theorem ev_k505 : ev_b505.all (ev_ok "PathProverModel" "kept" prog_15_method_9_code) = true := by decide +kernel
set_option maxRecDepth 100000 in
theorem ev_k506_0 : ev_b506_0.all (ev_ok "PathProverModel" "type" prog_15_method_30_code) = true := by decide +kernel
set_option maxRecDepth 100000 in
theorem ev_k506_1 : ev_b506_1.all (ev_ok "PathProverModel" "type" prog_15_method_30_code) = true := by decide +kernel
set_option maxRecDepth 100000 in
theorem ev_k506_2 : ev_b506_2.all (ev_ok "PathProverModel" "type" prog_15_method_30_code) = true := by decide +kernel
set_option maxRecDepth 100000 in
theorem ev_k506_3 : ev_b506_3.all (ev_ok "PathProverModel" "type" prog_15_method_30_code) = true := by decide +kernel
theorem ev_k506 : ev_b506.all (ev_ok "PathProverModel" "type" prog_15_method_30_code) = true := (ev_all ev_k506_0 (ev_all ev_k506_1 (ev_all ev_k506_2 ev_k506_3)))
set_option maxRecDepth 100000 in
theorem ev_k507_0 : ev_b507_0.all (ev_ok "PathProverModel" "noteSymbols" prog_15_method_32_code) = true := by decide +kernel
set_option maxRecDepth 100000 in
theorem ev_k507_1 : ev_b507_1.all (ev_ok "PathProverModel" "noteSymbols" prog_15_method_32_code) = true := by decide +kernel
theorem ev_k507 : ev_b507.all (ev_ok "PathProverModel" "noteSymbols" prog_15_method_32_code) = true := (ev_all ev_k507_0 ev_k507_1)
set_option maxRecDepth 100000 in
theorem ev_k508 : ev_b508.all (ev_ok "PathProverModel" "value" prog_15_method_29_code) = true := by decide +kernel
set_option maxRecDepth 100000 in
theorem ev_k509 : ev_b509.all (ev_ok "PathProverModel" "whole" prog_15_method_28_code) = true := by decide +kernel
set_option maxRecDepth 100000 in
theorem ev_k510 : ev_b510.all (ev_ok "PathProverModel" "letter" prog_15_method_4_code) = true := by decide +kernel
set_option maxRecDepth 100000 in
theorem ev_k511 : ev_b511.all (ev_ok "PathProverModel" "digit" prog_15_method_5_code) = true := by decide +kernel
set_option maxRecDepth 100000 in
theorem ev_k512 : ev_b512.all (ev_ok "PathProverModel$Bits" "has" prog_16_method_2_code) = true := by decide +kernel
set_option maxRecDepth 100000 in
theorem ev_k513 : ev_b513.all (ev_ok "PathProverModel$Bits" "put" prog_16_method_3_code) = true := by decide +kernel
set_option maxRecDepth 100000 in
theorem ev_k514 : ev_b514.all (ev_ok "PathProverModel$Instance" "param" prog_17_method_2_code) = true := by decide +kernel
set_option maxRecDepth 100000 in
theorem ev_k515 : ev_b515.all (ev_ok "PathProverModel$Instance" "<init>" prog_17_method_1_code) = true := by decide +kernel
set_option maxRecDepth 100000 in
theorem ev_k516 : ev_b516.all (ev_ok "PathProverModel$Model" "<init>" prog_18_method_1_code) = true := by decide +kernel
set_option maxRecDepth 100000 in
theorem ev_k517 : ev_b517.all (ev_ok "PathProverModel$Module" "<init>" prog_19_method_1_code) = true := by decide +kernel
set_option maxRecDepth 100000 in
theorem ev_k518 : ev_b518.all (ev_ok "PathProverModel$Node" "is" prog_20_method_4_code) = true := by decide +kernel
set_option maxRecDepth 100000 in
theorem ev_k519 : ev_b519.all (ev_ok "PathProverModel$Node" "<init>" prog_20_method_1_code) = true := by decide +kernel
set_option maxRecDepth 100000 in
theorem ev_k520_0 : ev_b520_0.all (ev_ok "PathProverModel$Node" "add" prog_20_method_3_code) = true := by decide +kernel
set_option maxRecDepth 100000 in
theorem ev_k520_1 : ev_b520_1.all (ev_ok "PathProverModel$Node" "add" prog_20_method_3_code) = true := by decide +kernel
theorem ev_k520 : ev_b520.all (ev_ok "PathProverModel$Node" "add" prog_20_method_3_code) = true := (ev_all ev_k520_0 ev_k520_1)
