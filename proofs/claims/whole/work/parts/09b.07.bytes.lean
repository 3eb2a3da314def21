/-! Printed by wip/whole/gen8.py: the methods' instructions are what their bytes say -/
set_option maxRecDepth 100000 in
theorem ev_k189_0 : ev_b189_0.all (ev_ok "PathProver$Judge" "haveSorts" prog_3_method_10_code) = true := by decide +kernel
set_option maxRecDepth 100000 in
theorem ev_k189_1 : ev_b189_1.all (ev_ok "PathProver$Judge" "haveSorts" prog_3_method_10_code) = true := by decide +kernel
theorem ev_k189 : ev_b189.all (ev_ok "PathProver$Judge" "haveSorts" prog_3_method_10_code) = true := (ev_all ev_k189_0 ev_k189_1)
set_option maxRecDepth 100000 in
theorem ev_k190_0 : ev_b190_0.all (ev_ok "PathProver$Judge" "sortOf" prog_3_method_13_code) = true := by decide +kernel
set_option maxRecDepth 100000 in
theorem ev_k190_1 : ev_b190_1.all (ev_ok "PathProver$Judge" "sortOf" prog_3_method_13_code) = true := by decide +kernel
theorem ev_k190 : ev_b190.all (ev_ok "PathProver$Judge" "sortOf" prog_3_method_13_code) = true := (ev_all ev_k190_0 ev_k190_1)
set_option maxRecDepth 100000 in
theorem ev_k191_0 : ev_b191_0.all (ev_ok "PathProver$Judge" "claimsAreTruths" prog_3_method_11_code) = true := by decide +kernel
set_option maxRecDepth 100000 in
theorem ev_k191_1 : ev_b191_1.all (ev_ok "PathProver$Judge" "claimsAreTruths" prog_3_method_11_code) = true := by decide +kernel
theorem ev_k191 : ev_b191.all (ev_ok "PathProver$Judge" "claimsAreTruths" prog_3_method_11_code) = true := (ev_all ev_k191_0 ev_k191_1)
set_option maxRecDepth 100000 in
theorem ev_k192_0 : ev_b192_0.all (ev_ok "PathProver$Judge" "linesHaveSorts" prog_3_method_12_code) = true := by decide +kernel
set_option maxRecDepth 100000 in
theorem ev_k192_1 : ev_b192_1.all (ev_ok "PathProver$Judge" "linesHaveSorts" prog_3_method_12_code) = true := by decide +kernel
theorem ev_k192 : ev_b192.all (ev_ok "PathProver$Judge" "linesHaveSorts" prog_3_method_12_code) = true := (ev_all ev_k192_0 ev_k192_1)
set_option maxRecDepth 100000 in
theorem ev_k193_0 : ev_b193_0.all (ev_ok "PathProver$Judge" "leafSort" prog_3_method_14_code) = true := by decide +kernel
set_option maxRecDepth 100000 in
theorem ev_k193_1 : ev_b193_1.all (ev_ok "PathProver$Judge" "leafSort" prog_3_method_14_code) = true := by decide +kernel
theorem ev_k193 : ev_b193.all (ev_ok "PathProver$Judge" "leafSort" prog_3_method_14_code) = true := (ev_all ev_k193_0 ev_k193_1)
set_option maxRecDepth 100000 in
theorem ev_k194_0 : ev_b194_0.all (ev_ok "PathProver$Judge" "joinedSort" prog_3_method_15_code) = true := by decide +kernel
set_option maxRecDepth 100000 in
theorem ev_k194_1 : ev_b194_1.all (ev_ok "PathProver$Judge" "joinedSort" prog_3_method_15_code) = true := by decide +kernel
set_option maxRecDepth 100000 in
theorem ev_k194_2 : ev_b194_2.all (ev_ok "PathProver$Judge" "joinedSort" prog_3_method_15_code) = true := by decide +kernel
theorem ev_k194 : ev_b194.all (ev_ok "PathProver$Judge" "joinedSort" prog_3_method_15_code) = true := (ev_all ev_k194_0 (ev_all ev_k194_1 ev_k194_2))
set_option maxRecDepth 100000 in
theorem ev_k195 : ev_b195.all (ev_ok "PathProver$Judge" "areTruths" prog_3_method_16_code) = true := by decide +kernel
set_option maxRecDepth 100000 in
theorem ev_k196 : ev_b196.all (ev_ok "PathProver$Judge" "areAll" prog_3_method_17_code) = true := by decide +kernel
set_option maxRecDepth 100000 in
theorem ev_k197_0 : ev_b197_0.all (ev_ok "PathProver$Judge" "casesSort" prog_3_method_18_code) = true := by decide +kernel
set_option maxRecDepth 100000 in
theorem ev_k197_1 : ev_b197_1.all (ev_ok "PathProver$Judge" "casesSort" prog_3_method_18_code) = true := by decide +kernel
theorem ev_k197 : ev_b197.all (ev_ok "PathProver$Judge" "casesSort" prog_3_method_18_code) = true := (ev_all ev_k197_0 ev_k197_1)
set_option maxRecDepth 100000 in
theorem ev_k198_0 : ev_b198_0.all (ev_ok "PathProver$Judge" "heightOf" prog_3_method_9_code) = true := by decide +kernel
set_option maxRecDepth 100000 in
theorem ev_k198_1 : ev_b198_1.all (ev_ok "PathProver$Judge" "heightOf" prog_3_method_9_code) = true := by decide +kernel
set_option maxRecDepth 100000 in
theorem ev_k198_2 : ev_b198_2.all (ev_ok "PathProver$Judge" "heightOf" prog_3_method_9_code) = true := by decide +kernel
theorem ev_k198 : ev_b198.all (ev_ok "PathProver$Judge" "heightOf" prog_3_method_9_code) = true := (ev_all ev_k198_0 (ev_all ev_k198_1 ev_k198_2))
set_option maxRecDepth 100000 in
theorem ev_k199_0 : ev_b199_0.all (ev_ok "PathProver$Judge" "namedAt" prog_3_method_7_code) = true := by decide +kernel
set_option maxRecDepth 100000 in
theorem ev_k199_1 : ev_b199_1.all (ev_ok "PathProver$Judge" "namedAt" prog_3_method_7_code) = true := by decide +kernel
theorem ev_k199 : ev_b199.all (ev_ok "PathProver$Judge" "namedAt" prog_3_method_7_code) = true := (ev_all ev_k199_0 ev_k199_1)
set_option maxRecDepth 100000 in
theorem ev_k200_0 : ev_b200_0.all (ev_ok "PathProver$Judge" "visit" prog_3_method_4_code) = true := by decide +kernel
set_option maxRecDepth 100000 in
theorem ev_k200_1 : ev_b200_1.all (ev_ok "PathProver$Judge" "visit" prog_3_method_4_code) = true := by decide +kernel
theorem ev_k200 : ev_b200.all (ev_ok "PathProver$Judge" "visit" prog_3_method_4_code) = true := (ev_all ev_k200_0 ev_k200_1)
set_option maxRecDepth 100000 in
theorem ev_k201 : ev_b201.all (ev_ok "PathProver$Judge" "enter" prog_3_method_5_code) = true := by decide +kernel
set_option maxRecDepth 100000 in
theorem ev_k202_0 : ev_b202_0.all (ev_ok "PathProver$Judge" "nextPart" prog_3_method_6_code) = true := by decide +kernel
set_option maxRecDepth 100000 in
theorem ev_k202_1 : ev_b202_1.all (ev_ok "PathProver$Judge" "nextPart" prog_3_method_6_code) = true := by decide +kernel
theorem ev_k202 : ev_b202.all (ev_ok "PathProver$Judge" "nextPart" prog_3_method_6_code) = true := (ev_all ev_k202_0 ev_k202_1)
set_option maxRecDepth 100000 in
theorem ev_k203_0 : ev_b203_0.all (ev_ok "PathProver$Machine" "load" prog_5_method_3_code) = true := by decide +kernel
set_option maxRecDepth 100000 in
theorem ev_k203_1 : ev_b203_1.all (ev_ok "PathProver$Machine" "load" prog_5_method_3_code) = true := by decide +kernel
set_option maxRecDepth 100000 in
theorem ev_k203_2 : ev_b203_2.all (ev_ok "PathProver$Machine" "load" prog_5_method_3_code) = true := by decide +kernel
set_option maxRecDepth 100000 in
theorem ev_k203_3 : ev_b203_3.all (ev_ok "PathProver$Machine" "load" prog_5_method_3_code) = true := by decide +kernel
set_option maxRecDepth 100000 in
theorem ev_k203_4 : ev_b203_4.all (ev_ok "PathProver$Machine" "load" prog_5_method_3_code) = true := by decide +kernel
theorem ev_k203 : ev_b203.all (ev_ok "PathProver$Machine" "load" prog_5_method_3_code) = true := (ev_all ev_k203_0 (ev_all ev_k203_1 (ev_all ev_k203_2 (ev_all ev_k203_3 ev_k203_4))))
set_option maxRecDepth 100000 in
theorem ev_k204_0 : ev_b204_0.all (ev_ok "PathProver$Machine" "note" prog_5_method_4_code) = true := by decide +kernel
set_option maxRecDepth 100000 in
theorem ev_k204_1 : ev_b204_1.all (ev_ok "PathProver$Machine" "note" prog_5_method_4_code) = true := by decide +kernel
set_option maxRecDepth 100000 in
theorem ev_k204_2 : ev_b204_2.all (ev_ok "PathProver$Machine" "note" prog_5_method_4_code) = true := by decide +kernel
set_option maxRecDepth 100000 in
theorem ev_k204_3 : ev_b204_3.all (ev_ok "PathProver$Machine" "note" prog_5_method_4_code) = true := by decide +kernel
theorem ev_k204 : ev_b204.all (ev_ok "PathProver$Machine" "note" prog_5_method_4_code) = true := (ev_all ev_k204_0 (ev_all ev_k204_1 (ev_all ev_k204_2 ev_k204_3)))
set_option maxRecDepth 100000 in
theorem ev_k205 : ev_b205.all (ev_ok "PathProver$Machine" "layOutSides" prog_5_method_5_code) = true := by decide +kernel
set_option maxRecDepth 100000 in
theorem ev_k206_0 : ev_b206_0.all (ev_ok "PathProver$Machine" "layOut" prog_5_method_6_code) = true := by decide +kernel
set_option maxRecDepth 100000 in
theorem ev_k206_1 : ev_b206_1.all (ev_ok "PathProver$Machine" "layOut" prog_5_method_6_code) = true := by decide +kernel
theorem ev_k206 : ev_b206.all (ev_ok "PathProver$Machine" "layOut" prog_5_method_6_code) = true := (ev_all ev_k206_0 ev_k206_1)
