/-! Printed by wip/whole/gen8.py: the methods' instructions are what their bytes say -/
set_option maxRecDepth 100000 in
theorem ev_k289_0 : ev_b289_0.all (ev_ok "PathProver$Relation" "takeLines" prog_9_method_3_code) = true := by decide +kernel
set_option maxRecDepth 100000 in
theorem ev_k289_1 : ev_b289_1.all (ev_ok "PathProver$Relation" "takeLines" prog_9_method_3_code) = true := by decide +kernel
set_option maxRecDepth 100000 in
theorem ev_k289_2 : ev_b289_2.all (ev_ok "PathProver$Relation" "takeLines" prog_9_method_3_code) = true := by decide +kernel
theorem ev_k289 : ev_b289.all (ev_ok "PathProver$Relation" "takeLines" prog_9_method_3_code) = true := (ev_all ev_k289_0 (ev_all ev_k289_1 ev_k289_2))
set_option maxRecDepth 100000 in
theorem ev_k290_0 : ev_b290_0.all (ev_ok "PathProver$Relation" "splitPieces" prog_9_method_16_code) = true := by decide +kernel
set_option maxRecDepth 100000 in
theorem ev_k290_1 : ev_b290_1.all (ev_ok "PathProver$Relation" "splitPieces" prog_9_method_16_code) = true := by decide +kernel
set_option maxRecDepth 100000 in
theorem ev_k290_2 : ev_b290_2.all (ev_ok "PathProver$Relation" "splitPieces" prog_9_method_16_code) = true := by decide +kernel
theorem ev_k290 : ev_b290.all (ev_ok "PathProver$Relation" "splitPieces" prog_9_method_16_code) = true := (ev_all ev_k290_0 (ev_all ev_k290_1 ev_k290_2))
set_option maxRecDepth 100000 in
theorem ev_k291_0 : ev_b291_0.all (ev_ok "PathProver$Relation" "takeEquals" prog_9_method_19_code) = true := by decide +kernel
set_option maxRecDepth 100000 in
theorem ev_k291_1 : ev_b291_1.all (ev_ok "PathProver$Relation" "takeEquals" prog_9_method_19_code) = true := by decide +kernel
set_option maxRecDepth 100000 in
theorem ev_k291_2 : ev_b291_2.all (ev_ok "PathProver$Relation" "takeEquals" prog_9_method_19_code) = true := by decide +kernel
set_option maxRecDepth 100000 in
theorem ev_k291_3 : ev_b291_3.all (ev_ok "PathProver$Relation" "takeEquals" prog_9_method_19_code) = true := by decide +kernel
theorem ev_k291 : ev_b291.all (ev_ok "PathProver$Relation" "takeEquals" prog_9_method_19_code) = true := (ev_all ev_k291_0 (ev_all ev_k291_1 (ev_all ev_k291_2 ev_k291_3)))
set_option maxRecDepth 100000 in
theorem ev_k292_0 : ev_b292_0.all (ev_ok "PathProver$Relation" "takePieces" prog_9_method_21_code) = true := by decide +kernel
set_option maxRecDepth 100000 in
theorem ev_k292_1 : ev_b292_1.all (ev_ok "PathProver$Relation" "takePieces" prog_9_method_21_code) = true := by decide +kernel
set_option maxRecDepth 100000 in
theorem ev_k292_2 : ev_b292_2.all (ev_ok "PathProver$Relation" "takePieces" prog_9_method_21_code) = true := by decide +kernel
set_option maxRecDepth 100000 in
theorem ev_k292_3 : ev_b292_3.all (ev_ok "PathProver$Relation" "takePieces" prog_9_method_21_code) = true := by decide +kernel
set_option maxRecDepth 100000 in
theorem ev_k292_4 : ev_b292_4.all (ev_ok "PathProver$Relation" "takePieces" prog_9_method_21_code) = true := by decide +kernel
theorem ev_k292 : ev_b292.all (ev_ok "PathProver$Relation" "takePieces" prog_9_method_21_code) = true := (ev_all ev_k292_0 (ev_all ev_k292_1 (ev_all ev_k292_2 (ev_all ev_k292_3 ev_k292_4))))
set_option maxRecDepth 100000 in
theorem ev_k293_0 : ev_b293_0.all (ev_ok "PathProver$Relation" "partClasses" prog_9_method_31_code) = true := by decide +kernel
set_option maxRecDepth 100000 in
theorem ev_k293_1 : ev_b293_1.all (ev_ok "PathProver$Relation" "partClasses" prog_9_method_31_code) = true := by decide +kernel
set_option maxRecDepth 100000 in
theorem ev_k293_2 : ev_b293_2.all (ev_ok "PathProver$Relation" "partClasses" prog_9_method_31_code) = true := by decide +kernel
set_option maxRecDepth 100000 in
theorem ev_k293_3 : ev_b293_3.all (ev_ok "PathProver$Relation" "partClasses" prog_9_method_31_code) = true := by decide +kernel
theorem ev_k293 : ev_b293.all (ev_ok "PathProver$Relation" "partClasses" prog_9_method_31_code) = true := (ev_all ev_k293_0 (ev_all ev_k293_1 (ev_all ev_k293_2 ev_k293_3)))
set_option maxRecDepth 100000 in
theorem ev_k294_0 : ev_b294_0.all (ev_ok "PathProver$Relation" "openRows" prog_9_method_34_code) = true := by decide +kernel
set_option maxRecDepth 100000 in
theorem ev_k294_1 : ev_b294_1.all (ev_ok "PathProver$Relation" "openRows" prog_9_method_34_code) = true := by decide +kernel
theorem ev_k294 : ev_b294.all (ev_ok "PathProver$Relation" "openRows" prog_9_method_34_code) = true := (ev_all ev_k294_0 ev_k294_1)
set_option maxRecDepth 100000 in
theorem ev_k295 : ev_b295.all (ev_ok "PathProver$Relation" "findRow" prog_9_method_36_code) = true := by decide +kernel
set_option maxRecDepth 100000 in
theorem ev_k296 : ev_b296.all (ev_ok "PathProver$Relation" "keepRow" prog_9_method_37_code) = true := by decide +kernel
set_option maxRecDepth 100000 in
theorem ev_k297_0 : ev_b297_0.all (ev_ok "PathProver$Relation" "noteInputs" prog_9_method_32_code) = true := by decide +kernel
set_option maxRecDepth 100000 in
theorem ev_k297_1 : ev_b297_1.all (ev_ok "PathProver$Relation" "noteInputs" prog_9_method_32_code) = true := by decide +kernel
set_option maxRecDepth 100000 in
theorem ev_k297_2 : ev_b297_2.all (ev_ok "PathProver$Relation" "noteInputs" prog_9_method_32_code) = true := by decide +kernel
set_option maxRecDepth 100000 in
theorem ev_k297_3 : ev_b297_3.all (ev_ok "PathProver$Relation" "noteInputs" prog_9_method_32_code) = true := by decide +kernel
theorem ev_k297 : ev_b297.all (ev_ok "PathProver$Relation" "noteInputs" prog_9_method_32_code) = true := (ev_all ev_k297_0 (ev_all ev_k297_1 (ev_all ev_k297_2 ev_k297_3)))
set_option maxRecDepth 100000 in
theorem ev_k298_0 : ev_b298_0.all (ev_ok "PathProver$Relation" "refine" prog_9_method_14_code) = true := by decide +kernel
set_option maxRecDepth 100000 in
theorem ev_k298_1 : ev_b298_1.all (ev_ok "PathProver$Relation" "refine" prog_9_method_14_code) = true := by decide +kernel
set_option maxRecDepth 100000 in
theorem ev_k298_2 : ev_b298_2.all (ev_ok "PathProver$Relation" "refine" prog_9_method_14_code) = true := by decide +kernel
set_option maxRecDepth 100000 in
theorem ev_k298_3 : ev_b298_3.all (ev_ok "PathProver$Relation" "refine" prog_9_method_14_code) = true := by decide +kernel
theorem ev_k298 : ev_b298.all (ev_ok "PathProver$Relation" "refine" prog_9_method_14_code) = true := (ev_all ev_k298_0 (ev_all ev_k298_1 (ev_all ev_k298_2 ev_k298_3)))
set_option maxRecDepth 100000 in
theorem ev_k299_0 : ev_b299_0.all (ev_ok "PathProver$Relation" "partBy" prog_9_method_33_code) = true := by decide +kernel
set_option maxRecDepth 100000 in
theorem ev_k299_1 : ev_b299_1.all (ev_ok "PathProver$Relation" "partBy" prog_9_method_33_code) = true := by decide +kernel
theorem ev_k299 : ev_b299.all (ev_ok "PathProver$Relation" "partBy" prog_9_method_33_code) = true := (ev_all ev_k299_0 ev_k299_1)
set_option maxRecDepth 100000 in
theorem ev_k300 : ev_b300.all (ev_ok "PathProver$Relation" "hashOf" prog_9_method_15_code) = true := by decide +kernel
set_option maxRecDepth 100000 in
theorem ev_k301_0 : ev_b301_0.all (ev_ok "PathProver$Relation" "fits" prog_9_method_6_code) = true := by decide +kernel
set_option maxRecDepth 100000 in
theorem ev_k301_1 : ev_b301_1.all (ev_ok "PathProver$Relation" "fits" prog_9_method_6_code) = true := by decide +kernel
theorem ev_k301 : ev_b301.all (ev_ok "PathProver$Relation" "fits" prog_9_method_6_code) = true := (ev_all ev_k301_0 ev_k301_1)
set_option maxRecDepth 100000 in
theorem ev_k302_0 : ev_b302_0.all (ev_ok "PathProver$Relation" "takeTable" prog_9_method_26_code) = true := by decide +kernel
set_option maxRecDepth 100000 in
theorem ev_k302_1 : ev_b302_1.all (ev_ok "PathProver$Relation" "takeTable" prog_9_method_26_code) = true := by decide +kernel
set_option maxRecDepth 100000 in
theorem ev_k302_2 : ev_b302_2.all (ev_ok "PathProver$Relation" "takeTable" prog_9_method_26_code) = true := by decide +kernel
theorem ev_k302 : ev_b302.all (ev_ok "PathProver$Relation" "takeTable" prog_9_method_26_code) = true := (ev_all ev_k302_0 (ev_all ev_k302_1 ev_k302_2))
