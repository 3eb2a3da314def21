/-! Printed by wip/whole/gen8.py: the methods' instructions are what their bytes say -/
set_option maxRecDepth 100000 in
theorem ev_k378 : ev_b378.all (ev_ok "PathProver" "makeRow" prog_1_method_19_code) = true := by decide +kernel
set_option maxRecDepth 100000 in
theorem ev_k379 : ev_b379.all (ev_ok "PathProver" "partsOf" prog_1_method_26_code) = true := by decide +kernel
set_option maxRecDepth 100000 in
theorem ev_k380 : ev_b380.all (ev_ok "PathProver" "isTimed" prog_1_method_27_code) = true := by decide +kernel
set_option maxRecDepth 100000 in
theorem ev_k381 : ev_b381.all (ev_ok "PathProver" "fit" prog_1_method_28_code) = true := by decide +kernel
set_option maxRecDepth 100000 in
theorem ev_k382 : ev_b382.all (ev_ok "PathProver" "enter" prog_1_method_21_code) = true := by decide +kernel
set_option maxRecDepth 100000 in
theorem ev_k383_0 : ev_b383_0.all (ev_ok "PathProver" "ready" prog_1_method_18_code) = true := by decide +kernel
set_option maxRecDepth 100000 in
theorem ev_k383_1 : ev_b383_1.all (ev_ok "PathProver" "ready" prog_1_method_18_code) = true := by decide +kernel
theorem ev_k383 : ev_b383.all (ev_ok "PathProver" "ready" prog_1_method_18_code) = true := (ev_all ev_k383_0 ev_k383_1)
set_option maxRecDepth 100000 in
theorem ev_k384 : ev_b384.all (ev_ok "PathProver" "fitStates" prog_1_method_29_code) = true := by decide +kernel
set_option maxRecDepth 100000 in
theorem ev_k385_0 : ev_b385_0.all (ev_ok "PathProver$Model" "isAlike" prog_6_method_15_code) = true := by decide +kernel
set_option maxRecDepth 100000 in
theorem ev_k385_1 : ev_b385_1.all (ev_ok "PathProver$Model" "isAlike" prog_6_method_15_code) = true := by decide +kernel
set_option maxRecDepth 100000 in
theorem ev_k385_2 : ev_b385_2.all (ev_ok "PathProver$Model" "isAlike" prog_6_method_15_code) = true := by decide +kernel
theorem ev_k385 : ev_b385.all (ev_ok "PathProver$Model" "isAlike" prog_6_method_15_code) = true := (ev_all ev_k385_0 (ev_all ev_k385_1 ev_k385_2))
set_option maxRecDepth 100000 in
theorem ev_k386 : ev_b386.all (ev_ok "PathProver$Relation" "factorOf" prog_9_method_7_code) = true := by decide +kernel
set_option maxRecDepth 100000 in
theorem ev_k387_0 : ev_b387_0.all (ev_ok "PathProver$Relation" "write" prog_9_method_10_code) = true := by decide +kernel
set_option maxRecDepth 100000 in
theorem ev_k387_1 : ev_b387_1.all (ev_ok "PathProver$Relation" "write" prog_9_method_10_code) = true := by decide +kernel
theorem ev_k387 : ev_b387.all (ev_ok "PathProver$Relation" "write" prog_9_method_10_code) = true := (ev_all ev_k387_0 ev_k387_1)
set_option maxRecDepth 100000 in
theorem ev_k388 : ev_b388.all (ev_ok "PathProver$Relation" "firstNext" prog_9_method_17_code) = true := by decide +kernel
set_option maxRecDepth 100000 in
theorem ev_k389_0 : ev_b389_0.all (ev_ok "PathProver$Relation" "isThere" prog_9_method_18_code) = true := by decide +kernel
set_option maxRecDepth 100000 in
theorem ev_k389_1 : ev_b389_1.all (ev_ok "PathProver$Relation" "isThere" prog_9_method_18_code) = true := by decide +kernel
theorem ev_k389 : ev_b389.all (ev_ok "PathProver$Relation" "isThere" prog_9_method_18_code) = true := (ev_all ev_k389_0 ev_k389_1)
set_option maxRecDepth 100000 in
theorem ev_k390 : ev_b390.all (ev_ok "PathProver$Relation" "isFirstOr" prog_9_method_22_code) = true := by decide +kernel
set_option maxRecDepth 100000 in
theorem ev_k391 : ev_b391.all (ev_ok "PathProver$Relation" "mostSteps" prog_9_method_23_code) = true := by decide +kernel
set_option maxRecDepth 100000 in
theorem ev_k392 : ev_b392.all (ev_ok "PathProver$Relation" "levelOf" prog_9_method_24_code) = true := by decide +kernel
set_option maxRecDepth 100000 in
theorem ev_k393 : ev_b393.all (ev_ok "PathProver$Relation" "isOne" prog_9_method_25_code) = true := by decide +kernel
set_option maxRecDepth 100000 in
theorem ev_k394_0 : ev_b394_0.all (ev_ok "PathProver$Relation" "openBranch" prog_9_method_27_code) = true := by decide +kernel
set_option maxRecDepth 100000 in
theorem ev_k394_1 : ev_b394_1.all (ev_ok "PathProver$Relation" "openBranch" prog_9_method_27_code) = true := by decide +kernel
set_option maxRecDepth 100000 in
theorem ev_k394_2 : ev_b394_2.all (ev_ok "PathProver$Relation" "openBranch" prog_9_method_27_code) = true := by decide +kernel
set_option maxRecDepth 100000 in
theorem ev_k394_3 : ev_b394_3.all (ev_ok "PathProver$Relation" "openBranch" prog_9_method_27_code) = true := by decide +kernel
theorem ev_k394 : ev_b394.all (ev_ok "PathProver$Relation" "openBranch" prog_9_method_27_code) = true := (ev_all ev_k394_0 (ev_all ev_k394_1 (ev_all ev_k394_2 ev_k394_3)))
set_option maxRecDepth 100000 in
theorem ev_k395_0 : ev_b395_0.all (ev_ok "PathProver$Relation" "isBranch" prog_9_method_28_code) = true := by decide +kernel
set_option maxRecDepth 100000 in
theorem ev_k395_1 : ev_b395_1.all (ev_ok "PathProver$Relation" "isBranch" prog_9_method_28_code) = true := by decide +kernel
theorem ev_k395 : ev_b395.all (ev_ok "PathProver$Relation" "isBranch" prog_9_method_28_code) = true := (ev_all ev_k395_0 ev_k395_1)
set_option maxRecDepth 100000 in
theorem ev_k396_0 : ev_b396_0.all (ev_ok "PathProver$Relation" "longestOr" prog_9_method_29_code) = true := by decide +kernel
set_option maxRecDepth 100000 in
theorem ev_k396_1 : ev_b396_1.all (ev_ok "PathProver$Relation" "longestOr" prog_9_method_29_code) = true := by decide +kernel
theorem ev_k396 : ev_b396.all (ev_ok "PathProver$Relation" "longestOr" prog_9_method_29_code) = true := (ev_all ev_k396_0 ev_k396_1)
set_option maxRecDepth 100000 in
theorem ev_k397_0 : ev_b397_0.all (ev_ok "PathProver$Relation" "weighBranches" prog_9_method_30_code) = true := by decide +kernel
set_option maxRecDepth 100000 in
theorem ev_k397_1 : ev_b397_1.all (ev_ok "PathProver$Relation" "weighBranches" prog_9_method_30_code) = true := by decide +kernel
set_option maxRecDepth 100000 in
theorem ev_k397_2 : ev_b397_2.all (ev_ok "PathProver$Relation" "weighBranches" prog_9_method_30_code) = true := by decide +kernel
theorem ev_k397 : ev_b397.all (ev_ok "PathProver$Relation" "weighBranches" prog_9_method_30_code) = true := (ev_all ev_k397_0 (ev_all ev_k397_1 ev_k397_2))
set_option maxRecDepth 100000 in
theorem ev_k398 : ev_b398.all (ev_ok "PathProver$Relation" "firstBranch" prog_9_method_43_code) = true := by decide +kernel
set_option maxRecDepth 100000 in
theorem ev_k399 : ev_b399.all (ev_ok "PathProver$Relation" "commonEnd" prog_9_method_44_code) = true := by decide +kernel
set_option maxRecDepth 100000 in
theorem ev_k400 : ev_b400.all (ev_ok "PathProver$Relation" "branchEnd" prog_9_method_45_code) = true := by decide +kernel
set_option maxRecDepth 100000 in
theorem ev_k401 : ev_b401.all (ev_ok "PathProver$Relation" "ownRows" prog_9_method_46_code) = true := by decide +kernel
set_option maxRecDepth 100000 in
theorem ev_k402 : ev_b402.all (ev_ok "PathProver$Relation" "beginRow" prog_9_method_47_code) = true := by decide +kernel
set_option maxRecDepth 100000 in
theorem ev_k403 : ev_b403.all (ev_ok "PathProver$Relation" "listTruths" prog_9_method_51_code) = true := by decide +kernel
set_option maxRecDepth 100000 in
theorem ev_k404 : ev_b404.all (ev_ok "PathProver$Relation" "gather" prog_9_method_58_code) = true := by decide +kernel
set_option maxRecDepth 100000 in
theorem ev_k405 : ev_b405.all (ev_ok "PathProver$Relation" "endRow" prog_9_method_59_code) = true := by decide +kernel
set_option maxRecDepth 100000 in
theorem ev_k406_0 : ev_b406_0.all (ev_ok "PathProverModel" "row" prog_15_method_92_code) = true := by decide +kernel
set_option maxRecDepth 100000 in
theorem ev_k406_1 : ev_b406_1.all (ev_ok "PathProverModel" "row" prog_15_method_92_code) = true := by decide +kernel
theorem ev_k406 : ev_b406.all (ev_ok "PathProverModel" "row" prog_15_method_92_code) = true := (ev_all ev_k406_0 ev_k406_1)
set_option maxRecDepth 100000 in
theorem ev_k407 : ev_b407.all (ev_ok "PathProverModel" "spec" prog_15_method_106_code) = true := by decide +kernel
set_option maxRecDepth 100000 in
theorem ev_k408_0 : ev_b408_0.all (ev_ok "PathProverModel" "formula" prog_15_method_101_code) = true := by decide +kernel
set_option maxRecDepth 100000 in
theorem ev_k408_1 : ev_b408_1.all (ev_ok "PathProverModel" "formula" prog_15_method_101_code) = true := by decide +kernel
set_option maxRecDepth 100000 in
theorem ev_k408_2 : ev_b408_2.all (ev_ok "PathProverModel" "formula" prog_15_method_101_code) = true := by decide +kernel
set_option maxRecDepth 100000 in
theorem ev_k408_3 : ev_b408_3.all (ev_ok "PathProverModel" "formula" prog_15_method_101_code) = true := by decide +kernel
theorem ev_k408 : ev_b408.all (ev_ok "PathProverModel" "formula" prog_15_method_101_code) = true := (ev_all ev_k408_0 (ev_all ev_k408_1 (ev_all ev_k408_2 ev_k408_3)))
