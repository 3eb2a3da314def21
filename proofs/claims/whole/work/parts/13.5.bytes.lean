/-! Printed by wip/p1/gen.py: the methods' instructions are what their bytes say -/
set_option maxRecDepth 100000 in
theorem ev_k70 : ev_b70.all (ev_ok "PathProverModel" "count" prog_15_method_113_code) = true := by decide +kernel
set_option maxRecDepth 100000 in
theorem ev_k71 : ev_b71.all (ev_ok "PathProverLaw" "show" method_9_code) = true := by decide +kernel
set_option maxRecDepth 100000 in
theorem ev_k72 : ev_b72.all (ev_ok "PathProver" "show" prog_1_method_10_code) = true := by decide +kernel
set_option maxRecDepth 100000 in
theorem ev_k73 : ev_b73.all (ev_ok "PathProverModel" "show" prog_15_method_120_code) = true := by decide +kernel
set_option maxRecDepth 100000 in
theorem ev_k74 : ev_b74.all (ev_ok "PathProverLaw" "pick" method_10_code) = true := by decide +kernel
set_option maxRecDepth 100000 in
theorem ev_k75 : ev_b75.all (ev_ok "PathProver" "pick" prog_1_method_11_code) = true := by decide +kernel
set_option maxRecDepth 100000 in
theorem ev_k76 : ev_b76.all (ev_ok "PathProver" "needPlain" prog_1_method_23_code) = true := by decide +kernel
set_option maxRecDepth 100000 in
theorem ev_k77 : ev_b77.all (ev_ok "PathProverModel" "pick" prog_15_method_126_code) = true := by decide +kernel
set_option maxRecDepth 100000 in
theorem ev_k78 : ev_b78.all (ev_ok "PathProverLaw" "first" method_11_code) = true := by decide +kernel
set_option maxRecDepth 100000 in
theorem ev_k79 : ev_b79.all (ev_ok "PathProver" "first" prog_1_method_12_code) = true := by decide +kernel
set_option maxRecDepth 100000 in
theorem ev_k80 : ev_b80.all (ev_ok "PathProverModel" "first" prog_15_method_127_code) = true := by decide +kernel
set_option maxRecDepth 100000 in
theorem ev_k81 : ev_b81.all (ev_ok "PathProverLaw" "step" method_12_code) = true := by decide +kernel
set_option maxRecDepth 100000 in
theorem ev_k82 : ev_b82.all (ev_ok "PathProver" "step" prog_1_method_13_code) = true := by decide +kernel
set_option maxRecDepth 100000 in
theorem ev_k83 : ev_b83.all (ev_ok "PathProverModel" "step" prog_15_method_128_code) = true := by decide +kernel
set_option maxRecDepth 100000 in
theorem ev_k84 : ev_b84.all (ev_ok "PathProverLaw" "value" method_13_code) = true := by decide +kernel
set_option maxRecDepth 100000 in
theorem ev_k85 : ev_b85.all (ev_ok "PathProver" "value" prog_1_method_14_code) = true := by decide +kernel
set_option maxRecDepth 100000 in
theorem ev_k86 : ev_b86.all (ev_ok "PathProverModel" "value" prog_15_method_129_code) = true := by decide +kernel
set_option maxRecDepth 100000 in
theorem ev_k87 : ev_b87.all (ev_ok "PathProverLaw" "holds" method_14_code) = true := by decide +kernel
set_option maxRecDepth 100000 in
theorem ev_k88 : ev_b88.all (ev_ok "PathProver" "holds" prog_1_method_15_code) = true := by decide +kernel
set_option maxRecDepth 100000 in
theorem ev_k89 : ev_b89.all (ev_ok "PathProverModel" "holds" prog_15_method_130_code) = true := by decide +kernel
set_option maxRecDepth 100000 in
theorem ev_k90 : ev_b90.all (ev_ok "PathProverLaw" "tidy" method_15_code) = true := by decide +kernel
set_option maxRecDepth 100000 in
theorem ev_k91 : ev_b91.all (ev_ok "PathProver" "tidy" prog_1_method_16_code) = true := by decide +kernel
set_option maxRecDepth 100000 in
theorem ev_k92 : ev_b92.all (ev_ok "PathProverModel" "tidy" prog_15_method_131_code) = true := by decide +kernel
set_option maxRecDepth 100000 in
theorem ev_k93 : ev_b93.all (ev_ok "PathProverLaw" "faults" method_16_code) = true := by decide +kernel
set_option maxRecDepth 100000 in
theorem ev_k94 : ev_b94.all (ev_ok "PathProver" "faults" prog_1_method_17_code) = true := by decide +kernel
set_option maxRecDepth 100000 in
theorem ev_k95 : ev_b95.all (ev_ok "PathProverModel" "faults" prog_15_method_132_code) = true := by decide +kernel
