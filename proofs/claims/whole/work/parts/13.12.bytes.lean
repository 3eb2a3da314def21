/-! Printed by wip/whole/gen8.py: the methods' instructions are what their bytes say -/
set_option maxRecDepth 100000 in
theorem ev_k291_0 : ev_b291_0.all (ev_ok "PathProver$Relation" "takeEquals" prog_9_method_15_code) = true := by decide +kernel
set_option maxRecDepth 100000 in
theorem ev_k291_1 : ev_b291_1.all (ev_ok "PathProver$Relation" "takeEquals" prog_9_method_15_code) = true := by decide +kernel
set_option maxRecDepth 100000 in
theorem ev_k291_2 : ev_b291_2.all (ev_ok "PathProver$Relation" "takeEquals" prog_9_method_15_code) = true := by decide +kernel
set_option maxRecDepth 100000 in
theorem ev_k291_3 : ev_b291_3.all (ev_ok "PathProver$Relation" "takeEquals" prog_9_method_15_code) = true := by decide +kernel
theorem ev_k291 : ev_b291.all (ev_ok "PathProver$Relation" "takeEquals" prog_9_method_15_code) = true := (ev_all ev_k291_0 (ev_all ev_k291_1 (ev_all ev_k291_2 ev_k291_3)))
set_option maxRecDepth 100000 in
theorem ev_k292_0 : ev_b292_0.all (ev_ok "PathProver$Relation" "takePieces" prog_9_method_17_code) = true := by decide +kernel
set_option maxRecDepth 100000 in
theorem ev_k292_1 : ev_b292_1.all (ev_ok "PathProver$Relation" "takePieces" prog_9_method_17_code) = true := by decide +kernel
set_option maxRecDepth 100000 in
theorem ev_k292_2 : ev_b292_2.all (ev_ok "PathProver$Relation" "takePieces" prog_9_method_17_code) = true := by decide +kernel
set_option maxRecDepth 100000 in
theorem ev_k292_3 : ev_b292_3.all (ev_ok "PathProver$Relation" "takePieces" prog_9_method_17_code) = true := by decide +kernel
theorem ev_k292 : ev_b292.all (ev_ok "PathProver$Relation" "takePieces" prog_9_method_17_code) = true := (ev_all ev_k292_0 (ev_all ev_k292_1 (ev_all ev_k292_2 ev_k292_3)))
set_option maxRecDepth 100000 in
theorem ev_k293_0 : ev_b293_0.all (ev_ok "PathProver$Relation" "partByInputs" prog_9_method_19_code) = true := by decide +kernel
set_option maxRecDepth 100000 in
theorem ev_k293_1 : ev_b293_1.all (ev_ok "PathProver$Relation" "partByInputs" prog_9_method_19_code) = true := by decide +kernel
set_option maxRecDepth 100000 in
theorem ev_k293_2 : ev_b293_2.all (ev_ok "PathProver$Relation" "partByInputs" prog_9_method_19_code) = true := by decide +kernel
theorem ev_k293 : ev_b293.all (ev_ok "PathProver$Relation" "partByInputs" prog_9_method_19_code) = true := (ev_all ev_k293_0 (ev_all ev_k293_1 ev_k293_2))
set_option maxRecDepth 100000 in
theorem ev_k294_0 : ev_b294_0.all (ev_ok "PathProver$Relation" "openRows" prog_9_method_22_code) = true := by decide +kernel
set_option maxRecDepth 100000 in
theorem ev_k294_1 : ev_b294_1.all (ev_ok "PathProver$Relation" "openRows" prog_9_method_22_code) = true := by decide +kernel
set_option maxRecDepth 100000 in
theorem ev_k294_2 : ev_b294_2.all (ev_ok "PathProver$Relation" "openRows" prog_9_method_22_code) = true := by decide +kernel
theorem ev_k294 : ev_b294.all (ev_ok "PathProver$Relation" "openRows" prog_9_method_22_code) = true := (ev_all ev_k294_0 (ev_all ev_k294_1 ev_k294_2))
set_option maxRecDepth 100000 in
theorem ev_k295 : ev_b295.all (ev_ok "PathProver$Relation" "findRow" prog_9_method_24_code) = true := by decide +kernel
set_option maxRecDepth 100000 in
theorem ev_k296 : ev_b296.all (ev_ok "PathProver$Relation" "keepRow" prog_9_method_25_code) = true := by decide +kernel
set_option maxRecDepth 100000 in
theorem ev_k297_0 : ev_b297_0.all (ev_ok "PathProver$Relation" "noteInputs" prog_9_method_20_code) = true := by decide +kernel
set_option maxRecDepth 100000 in
theorem ev_k297_1 : ev_b297_1.all (ev_ok "PathProver$Relation" "noteInputs" prog_9_method_20_code) = true := by decide +kernel
set_option maxRecDepth 100000 in
theorem ev_k297_2 : ev_b297_2.all (ev_ok "PathProver$Relation" "noteInputs" prog_9_method_20_code) = true := by decide +kernel
theorem ev_k297 : ev_b297.all (ev_ok "PathProver$Relation" "noteInputs" prog_9_method_20_code) = true := (ev_all ev_k297_0 (ev_all ev_k297_1 ev_k297_2))
set_option maxRecDepth 100000 in
theorem ev_k298_0 : ev_b298_0.all (ev_ok "PathProver$Relation" "refine" prog_9_method_12_code) = true := by decide +kernel
set_option maxRecDepth 100000 in
theorem ev_k298_1 : ev_b298_1.all (ev_ok "PathProver$Relation" "refine" prog_9_method_12_code) = true := by decide +kernel
set_option maxRecDepth 100000 in
theorem ev_k298_2 : ev_b298_2.all (ev_ok "PathProver$Relation" "refine" prog_9_method_12_code) = true := by decide +kernel
set_option maxRecDepth 100000 in
theorem ev_k298_3 : ev_b298_3.all (ev_ok "PathProver$Relation" "refine" prog_9_method_12_code) = true := by decide +kernel
theorem ev_k298 : ev_b298.all (ev_ok "PathProver$Relation" "refine" prog_9_method_12_code) = true := (ev_all ev_k298_0 (ev_all ev_k298_1 (ev_all ev_k298_2 ev_k298_3)))
set_option maxRecDepth 100000 in
theorem ev_k299_0 : ev_b299_0.all (ev_ok "PathProver$Relation" "partBy" prog_9_method_21_code) = true := by decide +kernel
set_option maxRecDepth 100000 in
theorem ev_k299_1 : ev_b299_1.all (ev_ok "PathProver$Relation" "partBy" prog_9_method_21_code) = true := by decide +kernel
theorem ev_k299 : ev_b299.all (ev_ok "PathProver$Relation" "partBy" prog_9_method_21_code) = true := (ev_all ev_k299_0 ev_k299_1)
set_option maxRecDepth 100000 in
theorem ev_k300 : ev_b300.all (ev_ok "PathProver$Relation" "hashOf" prog_9_method_13_code) = true := by decide +kernel
set_option maxRecDepth 100000 in
theorem ev_k301 : ev_b301.all (ev_ok "PathProver$Relation" "fits" prog_9_method_6_code) = true := by decide +kernel
set_option maxRecDepth 100000 in
theorem ev_k302_0 : ev_b302_0.all (ev_ok "PathProver$Relation" "takeTable" prog_9_method_18_code) = true := by decide +kernel
set_option maxRecDepth 100000 in
theorem ev_k302_1 : ev_b302_1.all (ev_ok "PathProver$Relation" "takeTable" prog_9_method_18_code) = true := by decide +kernel
set_option maxRecDepth 100000 in
theorem ev_k302_2 : ev_b302_2.all (ev_ok "PathProver$Relation" "takeTable" prog_9_method_18_code) = true := by decide +kernel
theorem ev_k302 : ev_b302.all (ev_ok "PathProver$Relation" "takeTable" prog_9_method_18_code) = true := (ev_all ev_k302_0 (ev_all ev_k302_1 ev_k302_2))
set_option maxRecDepth 100000 in
theorem ev_k303 : ev_b303.all (ev_ok "PathProver$Relation" "reserve" prog_9_method_8_code) = true := by decide +kernel
set_option maxRecDepth 100000 in
theorem ev_k304 : ev_b304.all (ev_ok "PathProver$Relation" "addFactor" prog_9_method_11_code) = true := by decide +kernel
set_option maxRecDepth 100000 in
theorem ev_k305_0 : ev_b305_0.all (ev_ok "PathProver$Relation" "sideOfNext" prog_9_method_16_code) = true := by decide +kernel
set_option maxRecDepth 100000 in
theorem ev_k305_1 : ev_b305_1.all (ev_ok "PathProver$Relation" "sideOfNext" prog_9_method_16_code) = true := by decide +kernel
set_option maxRecDepth 100000 in
theorem ev_k305_2 : ev_b305_2.all (ev_ok "PathProver$Relation" "sideOfNext" prog_9_method_16_code) = true := by decide +kernel
theorem ev_k305 : ev_b305.all (ev_ok "PathProver$Relation" "sideOfNext" prog_9_method_16_code) = true := (ev_all ev_k305_0 (ev_all ev_k305_1 ev_k305_2))
set_option maxRecDepth 100000 in
theorem ev_k306 : ev_b306.all (ev_ok "PathProver$Relation" "hasRoom" prog_9_method_4_code) = true := by decide +kernel
set_option maxRecDepth 100000 in
theorem ev_k307_0 : ev_b307_0.all (ev_ok "PathProver$Relation" "tabulate" prog_9_method_7_code) = true := by decide +kernel
set_option maxRecDepth 100000 in
theorem ev_k307_1 : ev_b307_1.all (ev_ok "PathProver$Relation" "tabulate" prog_9_method_7_code) = true := by decide +kernel
set_option maxRecDepth 100000 in
theorem ev_k307_2 : ev_b307_2.all (ev_ok "PathProver$Relation" "tabulate" prog_9_method_7_code) = true := by decide +kernel
theorem ev_k307 : ev_b307.all (ev_ok "PathProver$Relation" "tabulate" prog_9_method_7_code) = true := (ev_all ev_k307_0 (ev_all ev_k307_1 ev_k307_2))
