/-! Printed by wip/whole/gen8.py: the methods' instructions are what their bytes say -/
set_option maxRecDepth 100000 in
theorem ev_k303 : ev_b303.all (ev_ok "PathProver$Relation" "reserve" prog_9_method_11_code) = true := by decide +kernel
set_option maxRecDepth 100000 in
theorem ev_k304 : ev_b304.all (ev_ok "PathProver$Relation" "openTable" prog_9_method_9_code) = true := by decide +kernel
set_option maxRecDepth 100000 in
theorem ev_k305_0 : ev_b305_0.all (ev_ok "PathProver$Relation" "sideOfNext" prog_9_method_20_code) = true := by decide +kernel
set_option maxRecDepth 100000 in
theorem ev_k305_1 : ev_b305_1.all (ev_ok "PathProver$Relation" "sideOfNext" prog_9_method_20_code) = true := by decide +kernel
set_option maxRecDepth 100000 in
theorem ev_k305_2 : ev_b305_2.all (ev_ok "PathProver$Relation" "sideOfNext" prog_9_method_20_code) = true := by decide +kernel
theorem ev_k305 : ev_b305.all (ev_ok "PathProver$Relation" "sideOfNext" prog_9_method_20_code) = true := (ev_all ev_k305_0 (ev_all ev_k305_1 ev_k305_2))
set_option maxRecDepth 100000 in
theorem ev_k306 : ev_b306.all (ev_ok "PathProver$Relation" "hasRoom" prog_9_method_4_code) = true := by decide +kernel
set_option maxRecDepth 100000 in
theorem ev_k307_0 : ev_b307_0.all (ev_ok "PathProver$Relation" "tabulate" prog_9_method_8_code) = true := by decide +kernel
set_option maxRecDepth 100000 in
theorem ev_k307_1 : ev_b307_1.all (ev_ok "PathProver$Relation" "tabulate" prog_9_method_8_code) = true := by decide +kernel
set_option maxRecDepth 100000 in
theorem ev_k307_2 : ev_b307_2.all (ev_ok "PathProver$Relation" "tabulate" prog_9_method_8_code) = true := by decide +kernel
theorem ev_k307 : ev_b307.all (ev_ok "PathProver$Relation" "tabulate" prog_9_method_8_code) = true := (ev_all ev_k307_0 (ev_all ev_k307_1 ev_k307_2))
set_option maxRecDepth 100000 in
theorem ev_k308 : ev_b308.all (ev_ok "PathProver$Relation" "putAside" prog_9_method_5_code) = true := by decide +kernel
set_option maxRecDepth 100000 in
theorem ev_k309 : ev_b309.all (ev_ok "PathProver$Graph" "memberOf" prog_2_method_6_code) = true := by decide +kernel
set_option maxRecDepth 100000 in
theorem ev_k310 : ev_b310.all (ev_ok "PathProver$Graph" "visit" prog_2_method_7_code) = true := by decide +kernel
set_option maxRecDepth 100000 in
theorem ev_k311 : ev_b311.all (ev_ok "PathProver$Graph" "findFair" prog_2_method_15_code) = true := by decide +kernel
set_option maxRecDepth 100000 in
theorem ev_k312_0 : ev_b312_0.all (ev_ok "PathProver$Graph" "writeTrail" prog_2_method_13_code) = true := by decide +kernel
set_option maxRecDepth 100000 in
theorem ev_k312_1 : ev_b312_1.all (ev_ok "PathProver$Graph" "writeTrail" prog_2_method_13_code) = true := by decide +kernel
theorem ev_k312 : ev_b312.all (ev_ok "PathProver$Graph" "writeTrail" prog_2_method_13_code) = true := (ev_all ev_k312_0 ev_k312_1)
set_option maxRecDepth 100000 in
theorem ev_k313 : ev_b313.all (ev_ok "PathProver$Graph" "fetch" prog_2_method_8_code) = true := by decide +kernel
set_option maxRecDepth 100000 in
theorem ev_k314_0 : ev_b314_0.all (ev_ok "PathProver$Graph" "lead" prog_2_method_10_code) = true := by decide +kernel
set_option maxRecDepth 100000 in
theorem ev_k314_1 : ev_b314_1.all (ev_ok "PathProver$Graph" "lead" prog_2_method_10_code) = true := by decide +kernel
theorem ev_k314 : ev_b314.all (ev_ok "PathProver$Graph" "lead" prog_2_method_10_code) = true := (ev_all ev_k314_0 ev_k314_1)
set_option maxRecDepth 100000 in
theorem ev_k315 : ev_b315.all (ev_ok "PathProver$Graph" "clearNodes" prog_2_method_4_code) = true := by decide +kernel
set_option maxRecDepth 100000 in
theorem ev_k316_0 : ev_b316_0.all (ev_ok "PathProver$Graph" "openNext" prog_2_method_11_code) = true := by decide +kernel
set_option maxRecDepth 100000 in
theorem ev_k316_1 : ev_b316_1.all (ev_ok "PathProver$Graph" "openNext" prog_2_method_11_code) = true := by decide +kernel
set_option maxRecDepth 100000 in
theorem ev_k316_2 : ev_b316_2.all (ev_ok "PathProver$Graph" "openNext" prog_2_method_11_code) = true := by decide +kernel
theorem ev_k316 : ev_b316.all (ev_ok "PathProver$Graph" "openNext" prog_2_method_11_code) = true := (ev_all ev_k316_0 (ev_all ev_k316_1 ev_k316_2))
set_option maxRecDepth 100000 in
theorem ev_k317 : ev_b317.all (ev_ok "PathProver$Graph" "isEmptied" prog_2_method_18_code) = true := by decide +kernel
set_option maxRecDepth 100000 in
theorem ev_k318 : ev_b318.all (ev_ok "PathProver$Graph" "node" prog_2_method_2_code) = true := by decide +kernel
set_option maxRecDepth 100000 in
theorem ev_k319 : ev_b319.all (ev_ok "PathProver$Graph" "setNode" prog_2_method_3_code) = true := by decide +kernel
set_option maxRecDepth 100000 in
theorem ev_k320 : ev_b320.all (ev_ok "PathProver$Graph" "sweep" prog_2_method_19_code) = true := by decide +kernel
set_option maxRecDepth 100000 in
theorem ev_k321 : ev_b321.all (ev_ok "PathProver$Graph" "enterNext" prog_2_method_20_code) = true := by decide +kernel
set_option maxRecDepth 100000 in
theorem ev_k322_0 : ev_b322_0.all (ev_ok "PathProver$Graph" "reckon" prog_2_method_14_code) = true := by decide +kernel
set_option maxRecDepth 100000 in
theorem ev_k322_1 : ev_b322_1.all (ev_ok "PathProver$Graph" "reckon" prog_2_method_14_code) = true := by decide +kernel
theorem ev_k322 : ev_b322.all (ev_ok "PathProver$Graph" "reckon" prog_2_method_14_code) = true := (ev_all ev_k322_0 ev_k322_1)
set_option maxRecDepth 100000 in
theorem ev_k323_0 : ev_b323_0.all (ev_ok "PathProver$Graph" "open" prog_2_method_12_code) = true := by decide +kernel
set_option maxRecDepth 100000 in
theorem ev_k323_1 : ev_b323_1.all (ev_ok "PathProver$Graph" "open" prog_2_method_12_code) = true := by decide +kernel
set_option maxRecDepth 100000 in
theorem ev_k323_2 : ev_b323_2.all (ev_ok "PathProver$Graph" "open" prog_2_method_12_code) = true := by decide +kernel
theorem ev_k323 : ev_b323.all (ev_ok "PathProver$Graph" "open" prog_2_method_12_code) = true := (ev_all ev_k323_0 (ev_all ev_k323_1 ev_k323_2))
set_option maxRecDepth 100000 in
theorem ev_k324_0 : ev_b324_0.all (ev_ok "PathProver$Graph" "near" prog_2_method_16_code) = true := by decide +kernel
set_option maxRecDepth 100000 in
theorem ev_k324_1 : ev_b324_1.all (ev_ok "PathProver$Graph" "near" prog_2_method_16_code) = true := by decide +kernel
theorem ev_k324 : ev_b324.all (ev_ok "PathProver$Graph" "near" prog_2_method_16_code) = true := (ev_all ev_k324_0 ev_k324_1)
set_option maxRecDepth 100000 in
theorem ev_k325_0 : ev_b325_0.all (ev_ok "PathProver$Graph" "enter" prog_2_method_21_code) = true := by decide +kernel
set_option maxRecDepth 100000 in
theorem ev_k325_1 : ev_b325_1.all (ev_ok "PathProver$Graph" "enter" prog_2_method_21_code) = true := by decide +kernel
set_option maxRecDepth 100000 in
theorem ev_k325_2 : ev_b325_2.all (ev_ok "PathProver$Graph" "enter" prog_2_method_21_code) = true := by decide +kernel
set_option maxRecDepth 100000 in
theorem ev_k325_3 : ev_b325_3.all (ev_ok "PathProver$Graph" "enter" prog_2_method_21_code) = true := by decide +kernel
theorem ev_k325 : ev_b325.all (ev_ok "PathProver$Graph" "enter" prog_2_method_21_code) = true := (ev_all ev_k325_0 (ev_all ev_k325_1 (ev_all ev_k325_2 ev_k325_3)))
set_option maxRecDepth 100000 in
theorem ev_k326_0 : ev_b326_0.all (ev_ok "PathProver$Graph" "descend" prog_2_method_23_code) = true := by decide +kernel
set_option maxRecDepth 100000 in
theorem ev_k326_1 : ev_b326_1.all (ev_ok "PathProver$Graph" "descend" prog_2_method_23_code) = true := by decide +kernel
theorem ev_k326 : ev_b326.all (ev_ok "PathProver$Graph" "descend" prog_2_method_23_code) = true := (ev_all ev_k326_0 ev_k326_1)
set_option maxRecDepth 100000 in
theorem ev_k327_0 : ev_b327_0.all (ev_ok "PathProver$Graph" "circle" prog_2_method_30_code) = true := by decide +kernel
set_option maxRecDepth 100000 in
theorem ev_k327_1 : ev_b327_1.all (ev_ok "PathProver$Graph" "circle" prog_2_method_30_code) = true := by decide +kernel
set_option maxRecDepth 100000 in
theorem ev_k327_2 : ev_b327_2.all (ev_ok "PathProver$Graph" "circle" prog_2_method_30_code) = true := by decide +kernel
set_option maxRecDepth 100000 in
theorem ev_k327_3 : ev_b327_3.all (ev_ok "PathProver$Graph" "circle" prog_2_method_30_code) = true := by decide +kernel
set_option maxRecDepth 100000 in
theorem ev_k327_4 : ev_b327_4.all (ev_ok "PathProver$Graph" "circle" prog_2_method_30_code) = true := by decide +kernel
theorem ev_k327 : ev_b327.all (ev_ok "PathProver$Graph" "circle" prog_2_method_30_code) = true := (ev_all ev_k327_0 (ev_all ev_k327_1 (ev_all ev_k327_2 (ev_all ev_k327_3 ev_k327_4))))
