/-! Printed by wip/whole/gen8.py: the methods' instructions are what their bytes say -/
set_option maxRecDepth 100000 in
theorem ev_k471_0 : ev_b471_0.all (ev_ok "PathProverModel" "cased" prog_15_method_65_code) = true := by decide +kernel
set_option maxRecDepth 100000 in
theorem ev_k471_1 : ev_b471_1.all (ev_ok "PathProverModel" "cased" prog_15_method_65_code) = true := by decide +kernel
theorem ev_k471 : ev_b471.all (ev_ok "PathProverModel" "cased" prog_15_method_65_code) = true := (ev_all ev_k471_0 ev_k471_1)
set_option maxRecDepth 100000 in
theorem ev_k472_0 : ev_b472_0.all (ev_ok "PathProverModel" "chained" prog_15_method_66_code) = true := by decide +kernel
set_option maxRecDepth 100000 in
theorem ev_k472_1 : ev_b472_1.all (ev_ok "PathProverModel" "chained" prog_15_method_66_code) = true := by decide +kernel
theorem ev_k472 : ev_b472.all (ev_ok "PathProverModel" "chained" prog_15_method_66_code) = true := (ev_all ev_k472_0 ev_k472_1)
set_option maxRecDepth 100000 in
theorem ev_k473_0 : ev_b473_0.all (ev_ok "PathProverModel" "high" prog_15_method_58_code) = true := by decide +kernel
set_option maxRecDepth 100000 in
theorem ev_k473_1 : ev_b473_1.all (ev_ok "PathProverModel" "high" prog_15_method_58_code) = true := by decide +kernel
set_option maxRecDepth 100000 in
theorem ev_k473_2 : ev_b473_2.all (ev_ok "PathProverModel" "high" prog_15_method_58_code) = true := by decide +kernel
theorem ev_k473 : ev_b473.all (ev_ok "PathProverModel" "high" prog_15_method_58_code) = true := (ev_all ev_k473_0 (ev_all ev_k473_1 ev_k473_2))
set_option maxRecDepth 100000 in
theorem ev_k474_0 : ev_b474_0.all (ev_ok "PathProverModel" "highChoice" prog_15_method_59_code) = true := by decide +kernel
set_option maxRecDepth 100000 in
theorem ev_k474_1 : ev_b474_1.all (ev_ok "PathProverModel" "highChoice" prog_15_method_59_code) = true := by decide +kernel
theorem ev_k474 : ev_b474.all (ev_ok "PathProverModel" "highChoice" prog_15_method_59_code) = true := (ev_all ev_k474_0 ev_k474_1)
set_option maxRecDepth 100000 in
theorem ev_k475_0 : ev_b475_0.all (ev_ok "PathProverModel" "noExpressionInItself" prog_15_method_56_code) = true := by decide +kernel
set_option maxRecDepth 100000 in
theorem ev_k475_1 : ev_b475_1.all (ev_ok "PathProverModel" "noExpressionInItself" prog_15_method_56_code) = true := by decide +kernel
set_option maxRecDepth 100000 in
theorem ev_k475_2 : ev_b475_2.all (ev_ok "PathProverModel" "noExpressionInItself" prog_15_method_56_code) = true := by decide +kernel
set_option maxRecDepth 100000 in
theorem ev_k475_3 : ev_b475_3.all (ev_ok "PathProverModel" "noExpressionInItself" prog_15_method_56_code) = true := by decide +kernel
theorem ev_k475 : ev_b475.all (ev_ok "PathProverModel" "noExpressionInItself" prog_15_method_56_code) = true := (ev_all ev_k475_0 (ev_all ev_k475_1 (ev_all ev_k475_2 ev_k475_3)))
set_option maxRecDepth 100000 in
theorem ev_k476 : ev_b476.all (ev_ok "PathProverModel" "names" prog_15_method_54_code) = true := by decide +kernel
set_option maxRecDepth 100000 in
theorem ev_k477 : ev_b477.all (ev_ok "PathProverModel" "named" prog_15_method_53_code) = true := by decide +kernel
set_option maxRecDepth 100000 in
theorem ev_k478_0 : ev_b478_0.all (ev_ok "PathProverModel" "missing" prog_15_method_55_code) = true := by decide +kernel
set_option maxRecDepth 100000 in
theorem ev_k478_1 : ev_b478_1.all (ev_ok "PathProverModel" "missing" prog_15_method_55_code) = true := by decide +kernel
theorem ev_k478 : ev_b478.all (ev_ok "PathProverModel" "missing" prog_15_method_55_code) = true := (ev_all ev_k478_0 ev_k478_1)
set_option maxRecDepth 100000 in
theorem ev_k479_0 : ev_b479_0.all (ev_ok "PathProverModel" "stand" prog_15_method_50_code) = true := by decide +kernel
set_option maxRecDepth 100000 in
theorem ev_k479_1 : ev_b479_1.all (ev_ok "PathProverModel" "stand" prog_15_method_50_code) = true := by decide +kernel
theorem ev_k479 : ev_b479.all (ev_ok "PathProverModel" "stand" prog_15_method_50_code) = true := (ev_all ev_k479_0 ev_k479_1)
set_option maxRecDepth 100000 in
theorem ev_k480 : ev_b480.all (ev_ok "PathProverModel" "more" prog_15_method_42_code) = true := by decide +kernel
set_option maxRecDepth 100000 in
theorem ev_k481 : ev_b481.all (ev_ok "PathProverModel" "more" prog_15_method_41_code) = true := by decide +kernel
set_option maxRecDepth 100000 in
theorem ev_k482_0 : ev_b482_0.all (ev_ok "PathProverModel" "soundText" prog_15_method_47_code) = true := by decide +kernel
set_option maxRecDepth 100000 in
theorem ev_k482_1 : ev_b482_1.all (ev_ok "PathProverModel" "soundText" prog_15_method_47_code) = true := by decide +kernel
set_option maxRecDepth 100000 in
theorem ev_k482_2 : ev_b482_2.all (ev_ok "PathProverModel" "soundText" prog_15_method_47_code) = true := by decide +kernel
theorem ev_k482 : ev_b482.all (ev_ok "PathProverModel" "soundText" prog_15_method_47_code) = true := (ev_all ev_k482_0 (ev_all ev_k482_1 ev_k482_2))
set_option maxRecDepth 100000 in
theorem ev_k483_0 : ev_b483_0.all (ev_ok "PathProverModel" "noCycle" prog_15_method_48_code) = true := by decide +kernel
set_option maxRecDepth 100000 in
theorem ev_k483_1 : ev_b483_1.all (ev_ok "PathProverModel" "noCycle" prog_15_method_48_code) = true := by decide +kernel
set_option maxRecDepth 100000 in
theorem ev_k483_2 : ev_b483_2.all (ev_ok "PathProverModel" "noCycle" prog_15_method_48_code) = true := by decide +kernel
theorem ev_k483 : ev_b483.all (ev_ok "PathProverModel" "noCycle" prog_15_method_48_code) = true := (ev_all ev_k483_0 (ev_all ev_k483_1 ev_k483_2))
set_option maxRecDepth 100000 in
theorem ev_k484_0 : ev_b484_0.all (ev_ok "PathProverModel" "differentNames" prog_15_method_44_code) = true := by decide +kernel
set_option maxRecDepth 100000 in
theorem ev_k484_1 : ev_b484_1.all (ev_ok "PathProverModel" "differentNames" prog_15_method_44_code) = true := by decide +kernel
set_option maxRecDepth 100000 in
theorem ev_k484_2 : ev_b484_2.all (ev_ok "PathProverModel" "differentNames" prog_15_method_44_code) = true := by decide +kernel
theorem ev_k484 : ev_b484.all (ev_ok "PathProverModel" "differentNames" prog_15_method_44_code) = true := (ev_all ev_k484_0 (ev_all ev_k484_1 ev_k484_2))
set_option maxRecDepth 100000 in
theorem ev_k485_0 : ev_b485_0.all (ev_ok "PathProverModel" "soundType" prog_15_method_45_code) = true := by decide +kernel
set_option maxRecDepth 100000 in
theorem ev_k485_1 : ev_b485_1.all (ev_ok "PathProverModel" "soundType" prog_15_method_45_code) = true := by decide +kernel
set_option maxRecDepth 100000 in
theorem ev_k485_2 : ev_b485_2.all (ev_ok "PathProverModel" "soundType" prog_15_method_45_code) = true := by decide +kernel
theorem ev_k485 : ev_b485.all (ev_ok "PathProverModel" "soundType" prog_15_method_45_code) = true := (ev_all ev_k485_0 (ev_all ev_k485_1 ev_k485_2))
set_option maxRecDepth 100000 in
theorem ev_k486 : ev_b486.all (ev_ok "PathProverModel" "name" prog_15_method_13_code) = true := by decide +kernel
set_option maxRecDepth 100000 in
theorem ev_k487 : ev_b487.all (ev_ok "PathProverModel" "named" prog_15_method_15_code) = true := by decide +kernel
set_option maxRecDepth 100000 in
theorem ev_k488 : ev_b488.all (ev_ok "PathProverModel" "variables" prog_15_method_33_code) = true := by decide +kernel
set_option maxRecDepth 100000 in
theorem ev_k489 : ev_b489.all (ev_ok "PathProverModel" "definitions" prog_15_method_34_code) = true := by decide +kernel
set_option maxRecDepth 100000 in
theorem ev_k490_0 : ev_b490_0.all (ev_ok "PathProverModel" "assignments" prog_15_method_35_code) = true := by decide +kernel
set_option maxRecDepth 100000 in
theorem ev_k490_1 : ev_b490_1.all (ev_ok "PathProverModel" "assignments" prog_15_method_35_code) = true := by decide +kernel
theorem ev_k490 : ev_b490.all (ev_ok "PathProverModel" "assignments" prog_15_method_35_code) = true := (ev_all ev_k490_0 ev_k490_1)
set_option maxRecDepth 100000 in
theorem ev_k491 : ev_b491.all (ev_ok "PathProverModel" "expression" prog_15_method_16_code) = true := by decide +kernel
set_option maxRecDepth 100000 in
theorem ev_k492 : ev_b492.all (ev_ok "PathProverModel" "implication" prog_15_method_17_code) = true := by decide +kernel
set_option maxRecDepth 100000 in
theorem ev_k493_0 : ev_b493_0.all (ev_ok "PathProverModel" "disjunction" prog_15_method_18_code) = true := by decide +kernel
set_option maxRecDepth 100000 in
theorem ev_k493_1 : ev_b493_1.all (ev_ok "PathProverModel" "disjunction" prog_15_method_18_code) = true := by decide +kernel
theorem ev_k493 : ev_b493.all (ev_ok "PathProverModel" "disjunction" prog_15_method_18_code) = true := (ev_all ev_k493_0 ev_k493_1)
