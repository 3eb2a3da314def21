/-! Printed by wip/whole/gen8.py: the methods' instructions are what their bytes say -/
set_option maxRecDepth 100000 in
theorem ev_k269 : ev_b269.all (ev_ok "PathProver$Space" "keepWorths" prog_13_method_3_code) = true := by decide +kernel
set_option maxRecDepth 100000 in
theorem ev_k270 : ev_b270.all (ev_ok "PathProver$Relation" "isAbsent" prog_9_method_39_code) = true := by decide +kernel
set_option maxRecDepth 100000 in
theorem ev_k271_0 : ev_b271_0.all (ev_ok "PathProver$Relation" "layList" prog_9_method_42_code) = true := by decide +kernel
set_option maxRecDepth 100000 in
theorem ev_k271_1 : ev_b271_1.all (ev_ok "PathProver$Relation" "layList" prog_9_method_42_code) = true := by decide +kernel
theorem ev_k271 : ev_b271.all (ev_ok "PathProver$Relation" "layList" prog_9_method_42_code) = true := (ev_all ev_k271_0 ev_k271_1)
set_option maxRecDepth 100000 in
theorem ev_k272 : ev_b272.all (ev_ok "PathProver$Relation" "recall" prog_9_method_41_code) = true := by decide +kernel
set_option maxRecDepth 100000 in
theorem ev_k273 : ev_b273.all (ev_ok "PathProver$Relation" "rowCount" prog_9_method_35_code) = true := by decide +kernel
set_option maxRecDepth 100000 in
theorem ev_k274 : ev_b274.all (ev_ok "PathProver$Relation" "clearBits" prog_9_method_40_code) = true := by decide +kernel
set_option maxRecDepth 100000 in
theorem ev_k275_0 : ev_b275_0.all (ev_ok "PathProver$Relation" "pose" prog_9_method_48_code) = true := by decide +kernel
set_option maxRecDepth 100000 in
theorem ev_k275_1 : ev_b275_1.all (ev_ok "PathProver$Relation" "pose" prog_9_method_48_code) = true := by decide +kernel
set_option maxRecDepth 100000 in
theorem ev_k275_2 : ev_b275_2.all (ev_ok "PathProver$Relation" "pose" prog_9_method_48_code) = true := by decide +kernel
set_option maxRecDepth 100000 in
theorem ev_k275_3 : ev_b275_3.all (ev_ok "PathProver$Relation" "pose" prog_9_method_48_code) = true := by decide +kernel
theorem ev_k275 : ev_b275.all (ev_ok "PathProver$Relation" "pose" prog_9_method_48_code) = true := (ev_all ev_k275_0 (ev_all ev_k275_1 (ev_all ev_k275_2 ev_k275_3)))
set_option maxRecDepth 100000 in
theorem ev_k276_0 : ev_b276_0.all (ev_ok "PathProver$Relation" "choose" prog_9_method_50_code) = true := by decide +kernel
set_option maxRecDepth 100000 in
theorem ev_k276_1 : ev_b276_1.all (ev_ok "PathProver$Relation" "choose" prog_9_method_50_code) = true := by decide +kernel
set_option maxRecDepth 100000 in
theorem ev_k276_2 : ev_b276_2.all (ev_ok "PathProver$Relation" "choose" prog_9_method_50_code) = true := by decide +kernel
set_option maxRecDepth 100000 in
theorem ev_k276_3 : ev_b276_3.all (ev_ok "PathProver$Relation" "choose" prog_9_method_50_code) = true := by decide +kernel
theorem ev_k276 : ev_b276.all (ev_ok "PathProver$Relation" "choose" prog_9_method_50_code) = true := (ev_all ev_k276_0 (ev_all ev_k276_1 (ev_all ev_k276_2 ev_k276_3)))
set_option maxRecDepth 100000 in
theorem ev_k277_0 : ev_b277_0.all (ev_ok "PathProver$Relation" "spell" prog_9_method_53_code) = true := by decide +kernel
set_option maxRecDepth 100000 in
theorem ev_k277_1 : ev_b277_1.all (ev_ok "PathProver$Relation" "spell" prog_9_method_53_code) = true := by decide +kernel
theorem ev_k277 : ev_b277.all (ev_ok "PathProver$Relation" "spell" prog_9_method_53_code) = true := (ev_all ev_k277_0 ev_k277_1)
set_option maxRecDepth 100000 in
theorem ev_k278_0 : ev_b278_0.all (ev_ok "PathProver$Relation" "sift" prog_9_method_57_code) = true := by decide +kernel
set_option maxRecDepth 100000 in
theorem ev_k278_1 : ev_b278_1.all (ev_ok "PathProver$Relation" "sift" prog_9_method_57_code) = true := by decide +kernel
set_option maxRecDepth 100000 in
theorem ev_k278_2 : ev_b278_2.all (ev_ok "PathProver$Relation" "sift" prog_9_method_57_code) = true := by decide +kernel
set_option maxRecDepth 100000 in
theorem ev_k278_3 : ev_b278_3.all (ev_ok "PathProver$Relation" "sift" prog_9_method_57_code) = true := by decide +kernel
theorem ev_k278 : ev_b278.all (ev_ok "PathProver$Relation" "sift" prog_9_method_57_code) = true := (ev_all ev_k278_0 (ev_all ev_k278_1 (ev_all ev_k278_2 ev_k278_3)))
set_option maxRecDepth 100000 in
theorem ev_k279_0 : ev_b279_0.all (ev_ok "PathProver$Relation" "leave" prog_9_method_60_code) = true := by decide +kernel
set_option maxRecDepth 100000 in
theorem ev_k279_1 : ev_b279_1.all (ev_ok "PathProver$Relation" "leave" prog_9_method_60_code) = true := by decide +kernel
theorem ev_k279 : ev_b279.all (ev_ok "PathProver$Relation" "leave" prog_9_method_60_code) = true := (ev_all ev_k279_0 ev_k279_1)
set_option maxRecDepth 100000 in
theorem ev_k280_0 : ev_b280_0.all (ev_ok "PathProver$Relation" "extend" prog_9_method_54_code) = true := by decide +kernel
set_option maxRecDepth 100000 in
theorem ev_k280_1 : ev_b280_1.all (ev_ok "PathProver$Relation" "extend" prog_9_method_54_code) = true := by decide +kernel
set_option maxRecDepth 100000 in
theorem ev_k280_2 : ev_b280_2.all (ev_ok "PathProver$Relation" "extend" prog_9_method_54_code) = true := by decide +kernel
theorem ev_k280 : ev_b280.all (ev_ok "PathProver$Relation" "extend" prog_9_method_54_code) = true := (ev_all ev_k280_0 (ev_all ev_k280_1 ev_k280_2))
set_option maxRecDepth 100000 in
theorem ev_k281_0 : ev_b281_0.all (ev_ok "PathProver$Relation" "isLeft" prog_9_method_55_code) = true := by decide +kernel
set_option maxRecDepth 100000 in
theorem ev_k281_1 : ev_b281_1.all (ev_ok "PathProver$Relation" "isLeft" prog_9_method_55_code) = true := by decide +kernel
theorem ev_k281 : ev_b281.all (ev_ok "PathProver$Relation" "isLeft" prog_9_method_55_code) = true := (ev_all ev_k281_0 ev_k281_1)
set_option maxRecDepth 100000 in
theorem ev_k282 : ev_b282.all (ev_ok "PathProver$Relation" "indexOf" prog_9_method_56_code) = true := by decide +kernel
set_option maxRecDepth 100000 in
theorem ev_k283_0 : ev_b283_0.all (ev_ok "PathProver$Relation" "listDigits" prog_9_method_12_code) = true := by decide +kernel
set_option maxRecDepth 100000 in
theorem ev_k283_1 : ev_b283_1.all (ev_ok "PathProver$Relation" "listDigits" prog_9_method_12_code) = true := by decide +kernel
set_option maxRecDepth 100000 in
theorem ev_k283_2 : ev_b283_2.all (ev_ok "PathProver$Relation" "listDigits" prog_9_method_12_code) = true := by decide +kernel
theorem ev_k283 : ev_b283.all (ev_ok "PathProver$Relation" "listDigits" prog_9_method_12_code) = true := (ev_all ev_k283_0 (ev_all ev_k283_1 ev_k283_2))
set_option maxRecDepth 100000 in
theorem ev_k284_0 : ev_b284_0.all (ev_ok "PathProver$Relation" "narrow" prog_9_method_52_code) = true := by decide +kernel
set_option maxRecDepth 100000 in
theorem ev_k284_1 : ev_b284_1.all (ev_ok "PathProver$Relation" "narrow" prog_9_method_52_code) = true := by decide +kernel
theorem ev_k284 : ev_b284.all (ev_ok "PathProver$Relation" "narrow" prog_9_method_52_code) = true := (ev_all ev_k284_0 ev_k284_1)
set_option maxRecDepth 100000 in
theorem ev_k285_0 : ev_b285_0.all (ev_ok "PathProver$Relation" "listBits" prog_9_method_13_code) = true := by decide +kernel
set_option maxRecDepth 100000 in
theorem ev_k285_1 : ev_b285_1.all (ev_ok "PathProver$Relation" "listBits" prog_9_method_13_code) = true := by decide +kernel
theorem ev_k285 : ev_b285.all (ev_ok "PathProver$Relation" "listBits" prog_9_method_13_code) = true := (ev_all ev_k285_0 ev_k285_1)
set_option maxRecDepth 100000 in
theorem ev_k286_0 : ev_b286_0.all (ev_ok "PathProver$Relation" "narrowTo" prog_9_method_49_code) = true := by decide +kernel
set_option maxRecDepth 100000 in
theorem ev_k286_1 : ev_b286_1.all (ev_ok "PathProver$Relation" "narrowTo" prog_9_method_49_code) = true := by decide +kernel
theorem ev_k286 : ev_b286.all (ev_ok "PathProver$Relation" "narrowTo" prog_9_method_49_code) = true := (ev_all ev_k286_0 ev_k286_1)
set_option maxRecDepth 100000 in
theorem ev_k287 : ev_b287.all (ev_ok "PathProver$Relation" "sizeOfRow" prog_9_method_38_code) = true := by decide +kernel
set_option maxRecDepth 100000 in
theorem ev_k288_0 : ev_b288_0.all (ev_ok "PathProver$Relation" "begin" prog_9_method_2_code) = true := by decide +kernel
set_option maxRecDepth 100000 in
theorem ev_k288_1 : ev_b288_1.all (ev_ok "PathProver$Relation" "begin" prog_9_method_2_code) = true := by decide +kernel
set_option maxRecDepth 100000 in
theorem ev_k288_2 : ev_b288_2.all (ev_ok "PathProver$Relation" "begin" prog_9_method_2_code) = true := by decide +kernel
set_option maxRecDepth 100000 in
theorem ev_k288_3 : ev_b288_3.all (ev_ok "PathProver$Relation" "begin" prog_9_method_2_code) = true := by decide +kernel
theorem ev_k288 : ev_b288.all (ev_ok "PathProver$Relation" "begin" prog_9_method_2_code) = true := (ev_all ev_k288_0 (ev_all ev_k288_1 (ev_all ev_k288_2 ev_k288_3)))
