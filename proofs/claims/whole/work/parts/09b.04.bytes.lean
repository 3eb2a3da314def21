/-! Printed by wip/whole/gen8.py: the methods' instructions are what their bytes say -/
set_option maxRecDepth 100000 in
theorem ev_k121 : ev_b121.all (ev_ok "PathProver$Lexer" "isDigit" prog_4_method_6_code) = true := by decide +kernel
set_option maxRecDepth 100000 in
theorem ev_k122_0 : ev_b122_0.all (ev_ok "PathProver$Lexer" "number" prog_4_method_8_code) = true := by decide +kernel
set_option maxRecDepth 100000 in
theorem ev_k122_1 : ev_b122_1.all (ev_ok "PathProver$Lexer" "number" prog_4_method_8_code) = true := by decide +kernel
theorem ev_k122 : ev_b122.all (ev_ok "PathProver$Lexer" "number" prog_4_method_8_code) = true := (ev_all ev_k122_0 ev_k122_1)
set_option maxRecDepth 100000 in
theorem ev_k123_0 : ev_b123_0.all (ev_ok "PathProver$Lexer" "sign" prog_4_method_9_code) = true := by decide +kernel
set_option maxRecDepth 100000 in
theorem ev_k123_1 : ev_b123_1.all (ev_ok "PathProver$Lexer" "sign" prog_4_method_9_code) = true := by decide +kernel
set_option maxRecDepth 100000 in
theorem ev_k123_2 : ev_b123_2.all (ev_ok "PathProver$Lexer" "sign" prog_4_method_9_code) = true := by decide +kernel
theorem ev_k123 : ev_b123.all (ev_ok "PathProver$Lexer" "sign" prog_4_method_9_code) = true := (ev_all ev_k123_0 (ev_all ev_k123_1 ev_k123_2))
set_option maxRecDepth 100000 in
theorem ev_k124 : ev_b124.all (ev_ok "PathProver$Lexer" "isWord" prog_4_method_11_code) = true := by decide +kernel
set_option maxRecDepth 100000 in
theorem ev_k125_0 : ev_b125_0.all (ev_ok "PathProver$Model" "reach" prog_6_method_13_code) = true := by decide +kernel
set_option maxRecDepth 100000 in
theorem ev_k125_1 : ev_b125_1.all (ev_ok "PathProver$Model" "reach" prog_6_method_13_code) = true := by decide +kernel
set_option maxRecDepth 100000 in
theorem ev_k125_2 : ev_b125_2.all (ev_ok "PathProver$Model" "reach" prog_6_method_13_code) = true := by decide +kernel
theorem ev_k125 : ev_b125.all (ev_ok "PathProver$Model" "reach" prog_6_method_13_code) = true := (ev_all ev_k125_0 (ev_all ev_k125_1 ev_k125_2))
set_option maxRecDepth 100000 in
theorem ev_k126 : ev_b126.all (ev_ok "PathProver$Model" "sortOf" prog_6_method_5_code) = true := by decide +kernel
set_option maxRecDepth 100000 in
theorem ev_k127 : ev_b127.all (ev_ok "PathProver$Model" "worth" prog_6_method_7_code) = true := by decide +kernel
set_option maxRecDepth 100000 in
theorem ev_k128 : ev_b128.all (ev_ok "PathProver$Model" "startOf" prog_6_method_16_code) = true := by decide +kernel
set_option maxRecDepth 100000 in
theorem ev_k129_0 : ev_b129_0.all (ev_ok "PathProver$Model" "collect" prog_6_method_14_code) = true := by decide +kernel
set_option maxRecDepth 100000 in
theorem ev_k129_1 : ev_b129_1.all (ev_ok "PathProver$Model" "collect" prog_6_method_14_code) = true := by decide +kernel
set_option maxRecDepth 100000 in
theorem ev_k129_2 : ev_b129_2.all (ev_ok "PathProver$Model" "collect" prog_6_method_14_code) = true := by decide +kernel
set_option maxRecDepth 100000 in
theorem ev_k129_3 : ev_b129_3.all (ev_ok "PathProver$Model" "collect" prog_6_method_14_code) = true := by decide +kernel
theorem ev_k129 : ev_b129.all (ev_ok "PathProver$Model" "collect" prog_6_method_14_code) = true := (ev_all ev_k129_0 (ev_all ev_k129_1 (ev_all ev_k129_2 ev_k129_3)))
set_option maxRecDepth 100000 in
theorem ev_k130 : ev_b130.all (ev_ok "PathProver$Model" "stop" prog_6_method_4_code) = true := by decide +kernel
set_option maxRecDepth 100000 in
theorem ev_k131 : ev_b131.all (ev_ok "PathProver$Model" "bits" prog_6_method_8_code) = true := by decide +kernel
set_option maxRecDepth 100000 in
theorem ev_k132_0 : ev_b132_0.all (ev_ok "PathProver$Model" "grow" prog_6_method_9_code) = true := by decide +kernel
set_option maxRecDepth 100000 in
theorem ev_k132_1 : ev_b132_1.all (ev_ok "PathProver$Model" "grow" prog_6_method_9_code) = true := by decide +kernel
theorem ev_k132 : ev_b132.all (ev_ok "PathProver$Model" "grow" prog_6_method_9_code) = true := (ev_all ev_k132_0 ev_k132_1)
set_option maxRecDepth 100000 in
theorem ev_k133_0 : ev_b133_0.all (ev_ok "PathProver$Model" "addInstance" prog_6_method_11_code) = true := by decide +kernel
set_option maxRecDepth 100000 in
theorem ev_k133_1 : ev_b133_1.all (ev_ok "PathProver$Model" "addInstance" prog_6_method_11_code) = true := by decide +kernel
set_option maxRecDepth 100000 in
theorem ev_k133_2 : ev_b133_2.all (ev_ok "PathProver$Model" "addInstance" prog_6_method_11_code) = true := by decide +kernel
set_option maxRecDepth 100000 in
theorem ev_k133_3 : ev_b133_3.all (ev_ok "PathProver$Model" "addInstance" prog_6_method_11_code) = true := by decide +kernel
theorem ev_k133 : ev_b133.all (ev_ok "PathProver$Model" "addInstance" prog_6_method_11_code) = true := (ev_all ev_k133_0 (ev_all ev_k133_1 (ev_all ev_k133_2 ev_k133_3)))
set_option maxRecDepth 100000 in
theorem ev_k134_0 : ev_b134_0.all (ev_ok "PathProver$Model" "addVar" prog_6_method_10_code) = true := by decide +kernel
set_option maxRecDepth 100000 in
theorem ev_k134_1 : ev_b134_1.all (ev_ok "PathProver$Model" "addVar" prog_6_method_10_code) = true := by decide +kernel
theorem ev_k134 : ev_b134.all (ev_ok "PathProver$Model" "addVar" prog_6_method_10_code) = true := (ev_all ev_k134_0 ev_k134_1)
set_option maxRecDepth 100000 in
theorem ev_k135_0 : ev_b135_0.all (ev_ok "PathProver$Model" "addClaims" prog_6_method_12_code) = true := by decide +kernel
set_option maxRecDepth 100000 in
theorem ev_k135_1 : ev_b135_1.all (ev_ok "PathProver$Model" "addClaims" prog_6_method_12_code) = true := by decide +kernel
theorem ev_k135 : ev_b135.all (ev_ok "PathProver$Model" "addClaims" prog_6_method_12_code) = true := (ev_all ev_k135_0 ev_k135_1)
set_option maxRecDepth 100000 in
theorem ev_k136 : ev_b136.all (ev_ok "PathProver$Model" "valuesOf" prog_6_method_6_code) = true := by decide +kernel
set_option maxRecDepth 100000 in
theorem ev_k137 : ev_b137.all (ev_ok "PathProver$Model" "openModule" prog_6_method_3_code) = true := by decide +kernel
set_option maxRecDepth 100000 in
theorem ev_k138_0 : ev_b138_0.all (ev_ok "PathProver$Parser" "variable" prog_7_method_11_code) = true := by decide +kernel
set_option maxRecDepth 100000 in
theorem ev_k138_1 : ev_b138_1.all (ev_ok "PathProver$Parser" "variable" prog_7_method_11_code) = true := by decide +kernel
set_option maxRecDepth 100000 in
theorem ev_k138_2 : ev_b138_2.all (ev_ok "PathProver$Parser" "variable" prog_7_method_11_code) = true := by decide +kernel
theorem ev_k138 : ev_b138.all (ev_ok "PathProver$Parser" "variable" prog_7_method_11_code) = true := (ev_all ev_k138_0 (ev_all ev_k138_1 ev_k138_2))
set_option maxRecDepth 100000 in
theorem ev_k139_0 : ev_b139_0.all (ev_ok "PathProver$Parser" "section" prog_7_method_8_code) = true := by decide +kernel
set_option maxRecDepth 100000 in
theorem ev_k139_1 : ev_b139_1.all (ev_ok "PathProver$Parser" "section" prog_7_method_8_code) = true := by decide +kernel
theorem ev_k139 : ev_b139.all (ev_ok "PathProver$Parser" "section" prog_7_method_8_code) = true := (ev_all ev_k139_0 ev_k139_1)
set_option maxRecDepth 100000 in
theorem ev_k140 : ev_b140.all (ev_ok "PathProver$Parser" "definition" prog_7_method_9_code) = true := by decide +kernel
set_option maxRecDepth 100000 in
theorem ev_k141_0 : ev_b141_0.all (ev_ok "PathProver$Parser" "line" prog_7_method_10_code) = true := by decide +kernel
set_option maxRecDepth 100000 in
theorem ev_k141_1 : ev_b141_1.all (ev_ok "PathProver$Parser" "line" prog_7_method_10_code) = true := by decide +kernel
theorem ev_k141 : ev_b141.all (ev_ok "PathProver$Parser" "line" prog_7_method_10_code) = true := (ev_all ev_k141_0 ev_k141_1)
set_option maxRecDepth 100000 in
theorem ev_k142_0 : ev_b142_0.all (ev_ok "PathProver$Parser" "operator" prog_7_method_29_code) = true := by decide +kernel
set_option maxRecDepth 100000 in
theorem ev_k142_1 : ev_b142_1.all (ev_ok "PathProver$Parser" "operator" prog_7_method_29_code) = true := by decide +kernel
set_option maxRecDepth 100000 in
theorem ev_k142_2 : ev_b142_2.all (ev_ok "PathProver$Parser" "operator" prog_7_method_29_code) = true := by decide +kernel
theorem ev_k142 : ev_b142.all (ev_ok "PathProver$Parser" "operator" prog_7_method_29_code) = true := (ev_all ev_k142_0 (ev_all ev_k142_1 ev_k142_2))
