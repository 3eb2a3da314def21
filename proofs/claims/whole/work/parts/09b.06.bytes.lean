/-! Printed by wip/whole/gen8.py: the methods' instructions are what their bytes say -/
set_option maxRecDepth 100000 in
theorem ev_k171_0 : ev_b171_0.all (ev_ok "PathProver$Sound" "isWellFormed" prog_12_method_2_code) = true := by decide +kernel
set_option maxRecDepth 100000 in
theorem ev_k171_1 : ev_b171_1.all (ev_ok "PathProver$Sound" "isWellFormed" prog_12_method_2_code) = true := by decide +kernel
set_option maxRecDepth 100000 in
theorem ev_k171_2 : ev_b171_2.all (ev_ok "PathProver$Sound" "isWellFormed" prog_12_method_2_code) = true := by decide +kernel
theorem ev_k171 : ev_b171.all (ev_ok "PathProver$Sound" "isWellFormed" prog_12_method_2_code) = true := (ev_all ev_k171_0 (ev_all ev_k171_1 ev_k171_2))
set_option maxRecDepth 100000 in
theorem ev_k172_0 : ev_b172_0.all (ev_ok "PathProver$Sound" "areNamesKnown" prog_12_method_15_code) = true := by decide +kernel
set_option maxRecDepth 100000 in
theorem ev_k172_1 : ev_b172_1.all (ev_ok "PathProver$Sound" "areNamesKnown" prog_12_method_15_code) = true := by decide +kernel
theorem ev_k172 : ev_b172.all (ev_ok "PathProver$Sound" "areNamesKnown" prog_12_method_15_code) = true := (ev_all ev_k172_0 ev_k172_1)
set_option maxRecDepth 100000 in
theorem ev_k173_0 : ev_b173_0.all (ev_ok "PathProver$Sound" "isKnown" prog_12_method_16_code) = true := by decide +kernel
set_option maxRecDepth 100000 in
theorem ev_k173_1 : ev_b173_1.all (ev_ok "PathProver$Sound" "isKnown" prog_12_method_16_code) = true := by decide +kernel
set_option maxRecDepth 100000 in
theorem ev_k173_2 : ev_b173_2.all (ev_ok "PathProver$Sound" "isKnown" prog_12_method_16_code) = true := by decide +kernel
set_option maxRecDepth 100000 in
theorem ev_k173_3 : ev_b173_3.all (ev_ok "PathProver$Sound" "isKnown" prog_12_method_16_code) = true := by decide +kernel
theorem ev_k173 : ev_b173.all (ev_ok "PathProver$Sound" "isKnown" prog_12_method_16_code) = true := (ev_all ev_k173_0 (ev_all ev_k173_1 (ev_all ev_k173_2 ev_k173_3)))
set_option maxRecDepth 100000 in
theorem ev_k174_0 : ev_b174_0.all (ev_ok "PathProver$Sound" "find" prog_12_method_5_code) = true := by decide +kernel
set_option maxRecDepth 100000 in
theorem ev_k174_1 : ev_b174_1.all (ev_ok "PathProver$Sound" "find" prog_12_method_5_code) = true := by decide +kernel
theorem ev_k174 : ev_b174.all (ev_ok "PathProver$Sound" "find" prog_12_method_5_code) = true := (ev_all ev_k174_0 ev_k174_1)
set_option maxRecDepth 100000 in
theorem ev_k175 : ev_b175.all (ev_ok "PathProver$Sound" "kindOf" prog_12_method_6_code) = true := by decide +kernel
set_option maxRecDepth 100000 in
theorem ev_k176 : ev_b176.all (ev_ok "PathProver$Sound" "rowOf" prog_12_method_7_code) = true := by decide +kernel
set_option maxRecDepth 100000 in
theorem ev_k177 : ev_b177.all (ev_ok "PathProver$Sound" "hashOf" prog_12_method_3_code) = true := by decide +kernel
set_option maxRecDepth 100000 in
theorem ev_k178 : ev_b178.all (ev_ok "PathProver$Sound" "add" prog_12_method_4_code) = true := by decide +kernel
set_option maxRecDepth 100000 in
theorem ev_k179_0 : ev_b179_0.all (ev_ok "PathProver$Sound" "namesDiffer" prog_12_method_8_code) = true := by decide +kernel
set_option maxRecDepth 100000 in
theorem ev_k179_1 : ev_b179_1.all (ev_ok "PathProver$Sound" "namesDiffer" prog_12_method_8_code) = true := by decide +kernel
set_option maxRecDepth 100000 in
theorem ev_k179_2 : ev_b179_2.all (ev_ok "PathProver$Sound" "namesDiffer" prog_12_method_8_code) = true := by decide +kernel
theorem ev_k179 : ev_b179.all (ev_ok "PathProver$Sound" "namesDiffer" prog_12_method_8_code) = true := (ev_all ev_k179_0 (ev_all ev_k179_1 ev_k179_2))
set_option maxRecDepth 100000 in
theorem ev_k180_0 : ev_b180_0.all (ev_ok "PathProver$Sound" "typesFit" prog_12_method_9_code) = true := by decide +kernel
set_option maxRecDepth 100000 in
theorem ev_k180_1 : ev_b180_1.all (ev_ok "PathProver$Sound" "typesFit" prog_12_method_9_code) = true := by decide +kernel
theorem ev_k180 : ev_b180.all (ev_ok "PathProver$Sound" "typesFit" prog_12_method_9_code) = true := (ev_all ev_k180_0 ev_k180_1)
set_option maxRecDepth 100000 in
theorem ev_k181_0 : ev_b181_0.all (ev_ok "PathProver$Sound" "linesFit" prog_12_method_12_code) = true := by decide +kernel
set_option maxRecDepth 100000 in
theorem ev_k181_1 : ev_b181_1.all (ev_ok "PathProver$Sound" "linesFit" prog_12_method_12_code) = true := by decide +kernel
set_option maxRecDepth 100000 in
theorem ev_k181_2 : ev_b181_2.all (ev_ok "PathProver$Sound" "linesFit" prog_12_method_12_code) = true := by decide +kernel
theorem ev_k181 : ev_b181.all (ev_ok "PathProver$Sound" "linesFit" prog_12_method_12_code) = true := (ev_all ev_k181_0 (ev_all ev_k181_1 ev_k181_2))
set_option maxRecDepth 100000 in
theorem ev_k182_0 : ev_b182_0.all (ev_ok "PathProver$Sound" "endsSomewhere" prog_12_method_13_code) = true := by decide +kernel
set_option maxRecDepth 100000 in
theorem ev_k182_1 : ev_b182_1.all (ev_ok "PathProver$Sound" "endsSomewhere" prog_12_method_13_code) = true := by decide +kernel
theorem ev_k182 : ev_b182.all (ev_ok "PathProver$Sound" "endsSomewhere" prog_12_method_13_code) = true := (ev_all ev_k182_0 ev_k182_1)
set_option maxRecDepth 100000 in
theorem ev_k183_0 : ev_b183_0.all (ev_ok "PathProver$Sound" "reckon" prog_12_method_14_code) = true := by decide +kernel
set_option maxRecDepth 100000 in
theorem ev_k183_1 : ev_b183_1.all (ev_ok "PathProver$Sound" "reckon" prog_12_method_14_code) = true := by decide +kernel
set_option maxRecDepth 100000 in
theorem ev_k183_2 : ev_b183_2.all (ev_ok "PathProver$Sound" "reckon" prog_12_method_14_code) = true := by decide +kernel
set_option maxRecDepth 100000 in
theorem ev_k183_3 : ev_b183_3.all (ev_ok "PathProver$Sound" "reckon" prog_12_method_14_code) = true := by decide +kernel
theorem ev_k183 : ev_b183.all (ev_ok "PathProver$Sound" "reckon" prog_12_method_14_code) = true := (ev_all ev_k183_0 (ev_all ev_k183_1 (ev_all ev_k183_2 ev_k183_3)))
set_option maxRecDepth 100000 in
theorem ev_k184_0 : ev_b184_0.all (ev_ok "PathProver$Sound" "valuesFit" prog_12_method_10_code) = true := by decide +kernel
set_option maxRecDepth 100000 in
theorem ev_k184_1 : ev_b184_1.all (ev_ok "PathProver$Sound" "valuesFit" prog_12_method_10_code) = true := by decide +kernel
theorem ev_k184 : ev_b184.all (ev_ok "PathProver$Sound" "valuesFit" prog_12_method_10_code) = true := (ev_all ev_k184_0 ev_k184_1)
set_option maxRecDepth 100000 in
theorem ev_k185_0 : ev_b185_0.all (ev_ok "PathProver$Sound" "instanceFits" prog_12_method_11_code) = true := by decide +kernel
set_option maxRecDepth 100000 in
theorem ev_k185_1 : ev_b185_1.all (ev_ok "PathProver$Sound" "instanceFits" prog_12_method_11_code) = true := by decide +kernel
theorem ev_k185 : ev_b185.all (ev_ok "PathProver$Sound" "instanceFits" prog_12_method_11_code) = true := (ev_all ev_k185_0 ev_k185_1)
set_option maxRecDepth 100000 in
theorem ev_k186_0 : ev_b186_0.all (ev_ok "PathProver$Judge" "verdict" prog_3_method_2_code) = true := by decide +kernel
set_option maxRecDepth 100000 in
theorem ev_k186_1 : ev_b186_1.all (ev_ok "PathProver$Judge" "verdict" prog_3_method_2_code) = true := by decide +kernel
theorem ev_k186 : ev_b186.all (ev_ok "PathProver$Judge" "verdict" prog_3_method_2_code) = true := (ev_all ev_k186_0 ev_k186_1)
set_option maxRecDepth 100000 in
theorem ev_k187 : ev_b187.all (ev_ok "PathProver$Judge" "areOrdered" prog_3_method_3_code) = true := by decide +kernel
set_option maxRecDepth 100000 in
theorem ev_k188_0 : ev_b188_0.all (ev_ok "PathProver$Judge" "areLow" prog_3_method_8_code) = true := by decide +kernel
set_option maxRecDepth 100000 in
theorem ev_k188_1 : ev_b188_1.all (ev_ok "PathProver$Judge" "areLow" prog_3_method_8_code) = true := by decide +kernel
set_option maxRecDepth 100000 in
theorem ev_k188_2 : ev_b188_2.all (ev_ok "PathProver$Judge" "areLow" prog_3_method_8_code) = true := by decide +kernel
set_option maxRecDepth 100000 in
theorem ev_k188_3 : ev_b188_3.all (ev_ok "PathProver$Judge" "areLow" prog_3_method_8_code) = true := by decide +kernel
theorem ev_k188 : ev_b188.all (ev_ok "PathProver$Judge" "areLow" prog_3_method_8_code) = true := (ev_all ev_k188_0 (ev_all ev_k188_1 (ev_all ev_k188_2 ev_k188_3)))
