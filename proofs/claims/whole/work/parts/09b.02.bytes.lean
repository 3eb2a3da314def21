/-! Printed by wip/whole/gen8.py: the methods' instructions are what their bytes say -/
set_option maxRecDepth 100000 in
theorem ev_k44 : ev_b44.all (ev_ok "PathProver$Parser" "advance" prog_7_method_4_code) = true := by decide +kernel
set_option maxRecDepth 100000 in
theorem ev_k45 : ev_b45.all (ev_ok "java/lang/Math" "min" prog_31_method_69_code) = true := by decide +kernel
set_option maxRecDepth 100000 in
theorem ev_k46 : ev_b46.all (ev_ok "PathProver$Rows" "get" prog_10_method_5_code) = true := by decide +kernel
set_option maxRecDepth 100000 in
theorem ev_k47 : ev_b47.all (ev_ok "PathProver$Parser" "module" prog_7_method_6_code) = true := by decide +kernel
set_option maxRecDepth 100000 in
theorem ev_k48 : ev_b48.all (ev_ok "PathProver$Parser" "take" prog_7_method_5_code) = true := by decide +kernel
set_option maxRecDepth 100000 in
theorem ev_k49_0 : ev_b49_0.all (ev_ok "PathProverModel" "read" prog_15_method_91_code) = true := by decide +kernel
set_option maxRecDepth 100000 in
theorem ev_k49_1 : ev_b49_1.all (ev_ok "PathProverModel" "read" prog_15_method_91_code) = true := by decide +kernel
set_option maxRecDepth 100000 in
theorem ev_k49_2 : ev_b49_2.all (ev_ok "PathProverModel" "read" prog_15_method_91_code) = true := by decide +kernel
theorem ev_k49 : ev_b49.all (ev_ok "PathProverModel" "read" prog_15_method_91_code) = true := (ev_all ev_k49_0 (ev_all ev_k49_1 ev_k49_2))
set_option maxRecDepth 100000 in
theorem ev_k50_0 : ev_b50_0.all (ev_ok "PathProverModel" "parse" prog_15_method_37_code) = true := by decide +kernel
set_option maxRecDepth 100000 in
theorem ev_k50_1 : ev_b50_1.all (ev_ok "PathProverModel" "parse" prog_15_method_37_code) = true := by decide +kernel
theorem ev_k50 : ev_b50.all (ev_ok "PathProverModel" "parse" prog_15_method_37_code) = true := (ev_all ev_k50_0 ev_k50_1)
set_option maxRecDepth 100000 in
theorem ev_k51_0 : ev_b51_0.all (ev_ok "PathProverModel" "advance" prog_15_method_7_code) = true := by decide +kernel
set_option maxRecDepth 100000 in
theorem ev_k51_1 : ev_b51_1.all (ev_ok "PathProverModel" "advance" prog_15_method_7_code) = true := by decide +kernel
set_option maxRecDepth 100000 in
theorem ev_k51_2 : ev_b51_2.all (ev_ok "PathProverModel" "advance" prog_15_method_7_code) = true := by decide +kernel
set_option maxRecDepth 100000 in
theorem ev_k51_3 : ev_b51_3.all (ev_ok "PathProverModel" "advance" prog_15_method_7_code) = true := by decide +kernel
set_option maxRecDepth 100000 in
theorem ev_k51_4 : ev_b51_4.all (ev_ok "PathProverModel" "advance" prog_15_method_7_code) = true := by decide +kernel
theorem ev_k51 : ev_b51.all (ev_ok "PathProverModel" "advance" prog_15_method_7_code) = true := (ev_all ev_k51_0 (ev_all ev_k51_1 (ev_all ev_k51_2 (ev_all ev_k51_3 ev_k51_4))))
set_option maxRecDepth 100000 in
theorem ev_k52_0 : ev_b52_0.all (ev_ok "PathProverModel" "skip" prog_15_method_6_code) = true := by decide +kernel
set_option maxRecDepth 100000 in
theorem ev_k52_1 : ev_b52_1.all (ev_ok "PathProverModel" "skip" prog_15_method_6_code) = true := by decide +kernel
theorem ev_k52 : ev_b52.all (ev_ok "PathProverModel" "skip" prog_15_method_6_code) = true := (ev_all ev_k52_0 ev_k52_1)
set_option maxRecDepth 100000 in
theorem ev_k53_0 : ev_b53_0.all (ev_ok "PathProverModel" "module" prog_15_method_36_code) = true := by decide +kernel
set_option maxRecDepth 100000 in
theorem ev_k53_1 : ev_b53_1.all (ev_ok "PathProverModel" "module" prog_15_method_36_code) = true := by decide +kernel
set_option maxRecDepth 100000 in
theorem ev_k53_2 : ev_b53_2.all (ev_ok "PathProverModel" "module" prog_15_method_36_code) = true := by decide +kernel
set_option maxRecDepth 100000 in
theorem ev_k53_3 : ev_b53_3.all (ev_ok "PathProverModel" "module" prog_15_method_36_code) = true := by decide +kernel
theorem ev_k53 : ev_b53.all (ev_ok "PathProverModel" "module" prog_15_method_36_code) = true := (ev_all ev_k53_0 (ev_all ev_k53_1 (ev_all ev_k53_2 ev_k53_3)))
set_option maxRecDepth 100000 in
theorem ev_k54 : ev_b54.all (ev_ok "PathProverModel" "expect" prog_15_method_12_code) = true := by decide +kernel
set_option maxRecDepth 100000 in
theorem ev_k55 : ev_b55.all (ev_ok "PathProverModel" "is" prog_15_method_8_code) = true := by decide +kernel
set_option maxRecDepth 100000 in
theorem ev_k56 : ev_b56.all (ev_ok "PathProverModel" "can" prog_15_method_11_code) = true := by decide +kernel
set_option maxRecDepth 100000 in
theorem ev_k57 : ev_b57.all (ev_ok "PathProver" "place" prog_1_method_6_code) = true := by decide +kernel
set_option maxRecDepth 100000 in
theorem ev_k58 : ev_b58.all (ev_ok "PathProverModel" "place" prog_15_method_110_code) = true := by decide +kernel
set_option maxRecDepth 100000 in
theorem ev_k59 : ev_b59.all (ev_ok "PathProverLaw" "check" method_6_code) = true := by decide +kernel
set_option maxRecDepth 100000 in
theorem ev_k60 : ev_b60.all (ev_ok "PathProver" "check" prog_1_method_7_code) = true := by decide +kernel
set_option maxRecDepth 100000 in
theorem ev_k61 : ev_b61.all (ev_ok "PathProver" "needNumber" prog_1_method_22_code) = true := by decide +kernel
set_option maxRecDepth 100000 in
theorem ev_k62_0 : ev_b62_0.all (ev_ok "PathProverModel" "check" prog_15_method_111_code) = true := by decide +kernel
set_option maxRecDepth 100000 in
theorem ev_k62_1 : ev_b62_1.all (ev_ok "PathProverModel" "check" prog_15_method_111_code) = true := by decide +kernel
theorem ev_k62 : ev_b62.all (ev_ok "PathProverModel" "check" prog_15_method_111_code) = true := (ev_all ev_k62_0 ev_k62_1)
set_option maxRecDepth 100000 in
theorem ev_k63 : ev_b63.all (ev_ok "PathProverModel" "noSpec" prog_15_method_107_code) = true := by decide +kernel
set_option maxRecDepth 100000 in
theorem ev_k64 : ev_b64.all (ev_ok "PathProver" "needModel" prog_1_method_24_code) = true := by decide +kernel
set_option maxRecDepth 100000 in
theorem ev_k65 : ev_b65.all (ev_ok "PathProverLaw" "states" method_7_code) = true := by decide +kernel
set_option maxRecDepth 100000 in
theorem ev_k66_0 : ev_b66_0.all (ev_ok "PathProver" "states" prog_1_method_8_code) = true := by decide +kernel
set_option maxRecDepth 100000 in
theorem ev_k66_1 : ev_b66_1.all (ev_ok "PathProver" "states" prog_1_method_8_code) = true := by decide +kernel
theorem ev_k66 : ev_b66.all (ev_ok "PathProver" "states" prog_1_method_8_code) = true := (ev_all ev_k66_0 ev_k66_1)
set_option maxRecDepth 100000 in
theorem ev_k67_0 : ev_b67_0.all (ev_ok "PathProverModel" "states" prog_15_method_112_code) = true := by decide +kernel
set_option maxRecDepth 100000 in
theorem ev_k67_1 : ev_b67_1.all (ev_ok "PathProverModel" "states" prog_15_method_112_code) = true := by decide +kernel
set_option maxRecDepth 100000 in
theorem ev_k67_2 : ev_b67_2.all (ev_ok "PathProverModel" "states" prog_15_method_112_code) = true := by decide +kernel
set_option maxRecDepth 100000 in
theorem ev_k67_3 : ev_b67_3.all (ev_ok "PathProverModel" "states" prog_15_method_112_code) = true := by decide +kernel
theorem ev_k67 : ev_b67.all (ev_ok "PathProverModel" "states" prog_15_method_112_code) = true := (ev_all ev_k67_0 (ev_all ev_k67_1 (ev_all ev_k67_2 ev_k67_3)))
set_option maxRecDepth 100000 in
theorem ev_k68 : ev_b68.all (ev_ok "PathProverLaw" "count" method_8_code) = true := by decide +kernel
set_option maxRecDepth 100000 in
theorem ev_k69_0 : ev_b69_0.all (ev_ok "PathProver" "count" prog_1_method_9_code) = true := by decide +kernel
set_option maxRecDepth 100000 in
theorem ev_k69_1 : ev_b69_1.all (ev_ok "PathProver" "count" prog_1_method_9_code) = true := by decide +kernel
theorem ev_k69 : ev_b69.all (ev_ok "PathProver" "count" prog_1_method_9_code) = true := (ev_all ev_k69_0 ev_k69_1)
set_option maxRecDepth 100000 in
theorem ev_k70_0 : ev_b70_0.all (ev_ok "PathProverModel" "count" prog_15_method_113_code) = true := by decide +kernel
set_option maxRecDepth 100000 in
theorem ev_k70_1 : ev_b70_1.all (ev_ok "PathProverModel" "count" prog_15_method_113_code) = true := by decide +kernel
theorem ev_k70 : ev_b70.all (ev_ok "PathProverModel" "count" prog_15_method_113_code) = true := (ev_all ev_k70_0 ev_k70_1)
set_option maxRecDepth 100000 in
theorem ev_k71 : ev_b71.all (ev_ok "PathProverLaw" "show" method_9_code) = true := by decide +kernel
set_option maxRecDepth 100000 in
theorem ev_k72_0 : ev_b72_0.all (ev_ok "PathProver" "show" prog_1_method_10_code) = true := by decide +kernel
set_option maxRecDepth 100000 in
theorem ev_k72_1 : ev_b72_1.all (ev_ok "PathProver" "show" prog_1_method_10_code) = true := by decide +kernel
theorem ev_k72 : ev_b72.all (ev_ok "PathProver" "show" prog_1_method_10_code) = true := (ev_all ev_k72_0 ev_k72_1)
