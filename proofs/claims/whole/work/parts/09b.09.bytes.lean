/-! Printed by wip/whole/gen8.py: the methods' instructions are what their bytes say -/
set_option maxRecDepth 100000 in
theorem ev_k226_0 : ev_b226_0.all (ev_ok "PathProver$Machine" "divide" prog_5_method_29_code) = true := by decide +kernel
set_option maxRecDepth 100000 in
theorem ev_k226_1 : ev_b226_1.all (ev_ok "PathProver$Machine" "divide" prog_5_method_29_code) = true := by decide +kernel
set_option maxRecDepth 100000 in
theorem ev_k226_2 : ev_b226_2.all (ev_ok "PathProver$Machine" "divide" prog_5_method_29_code) = true := by decide +kernel
theorem ev_k226 : ev_b226.all (ev_ok "PathProver$Machine" "divide" prog_5_method_29_code) = true := (ev_all ev_k226_0 (ev_all ev_k226_1 ev_k226_2))
set_option maxRecDepth 100000 in
theorem ev_k227_0 : ev_b227_0.all (ev_ok "PathProver$Machine" "joinNumbers" prog_5_method_28_code) = true := by decide +kernel
set_option maxRecDepth 100000 in
theorem ev_k227_1 : ev_b227_1.all (ev_ok "PathProver$Machine" "joinNumbers" prog_5_method_28_code) = true := by decide +kernel
set_option maxRecDepth 100000 in
theorem ev_k227_2 : ev_b227_2.all (ev_ok "PathProver$Machine" "joinNumbers" prog_5_method_28_code) = true := by decide +kernel
set_option maxRecDepth 100000 in
theorem ev_k227_3 : ev_b227_3.all (ev_ok "PathProver$Machine" "joinNumbers" prog_5_method_28_code) = true := by decide +kernel
set_option maxRecDepth 100000 in
theorem ev_k227_4 : ev_b227_4.all (ev_ok "PathProver$Machine" "joinNumbers" prog_5_method_28_code) = true := by decide +kernel
theorem ev_k227 : ev_b227.all (ev_ok "PathProver$Machine" "joinNumbers" prog_5_method_28_code) = true := (ev_all ev_k227_0 (ev_all ev_k227_1 (ev_all ev_k227_2 (ev_all ev_k227_3 ev_k227_4))))
set_option maxRecDepth 100000 in
theorem ev_k228_0 : ev_b228_0.all (ev_ok "PathProver$Machine" "joinOne" prog_5_method_24_code) = true := by decide +kernel
set_option maxRecDepth 100000 in
theorem ev_k228_1 : ev_b228_1.all (ev_ok "PathProver$Machine" "joinOne" prog_5_method_24_code) = true := by decide +kernel
set_option maxRecDepth 100000 in
theorem ev_k228_2 : ev_b228_2.all (ev_ok "PathProver$Machine" "joinOne" prog_5_method_24_code) = true := by decide +kernel
theorem ev_k228 : ev_b228.all (ev_ok "PathProver$Machine" "joinOne" prog_5_method_24_code) = true := (ev_all ev_k228_0 (ev_all ev_k228_1 ev_k228_2))
set_option maxRecDepth 100000 in
theorem ev_k229 : ev_b229.all (ev_ok "PathProver$Machine" "weigh" prog_5_method_10_code) = true := by decide +kernel
set_option maxRecDepth 100000 in
theorem ev_k230 : ev_b230.all (ev_ok "PathProver$Machine" "beginList" prog_5_method_12_code) = true := by decide +kernel
set_option maxRecDepth 100000 in
theorem ev_k231_0 : ev_b231_0.all (ev_ok "PathProver$Machine" "takeList" prog_5_method_13_code) = true := by decide +kernel
set_option maxRecDepth 100000 in
theorem ev_k231_1 : ev_b231_1.all (ev_ok "PathProver$Machine" "takeList" prog_5_method_13_code) = true := by decide +kernel
theorem ev_k231 : ev_b231.all (ev_ok "PathProver$Machine" "takeList" prog_5_method_13_code) = true := (ev_all ev_k231_0 ev_k231_1)
set_option maxRecDepth 100000 in
theorem ev_k232_0 : ev_b232_0.all (ev_ok "PathProver$Machine" "pickOut" prog_5_method_15_code) = true := by decide +kernel
set_option maxRecDepth 100000 in
theorem ev_k232_1 : ev_b232_1.all (ev_ok "PathProver$Machine" "pickOut" prog_5_method_15_code) = true := by decide +kernel
set_option maxRecDepth 100000 in
theorem ev_k232_2 : ev_b232_2.all (ev_ok "PathProver$Machine" "pickOut" prog_5_method_15_code) = true := by decide +kernel
theorem ev_k232 : ev_b232.all (ev_ok "PathProver$Machine" "pickOut" prog_5_method_15_code) = true := (ev_all ev_k232_0 (ev_all ev_k232_1 ev_k232_2))
set_option maxRecDepth 100000 in
theorem ev_k233 : ev_b233.all (ev_ok "PathProver$Machine" "pose" prog_5_method_11_code) = true := by decide +kernel
set_option maxRecDepth 100000 in
theorem ev_k234 : ev_b234.all (ev_ok "PathProver$Machine" "begin" prog_5_method_2_code) = true := by decide +kernel
set_option maxRecDepth 100000 in
theorem ev_k235_0 : ev_b235_0.all (ev_ok "PathProver$Sets" "unpack" prog_11_method_14_code) = true := by decide +kernel
set_option maxRecDepth 100000 in
theorem ev_k235_1 : ev_b235_1.all (ev_ok "PathProver$Sets" "unpack" prog_11_method_14_code) = true := by decide +kernel
theorem ev_k235 : ev_b235.all (ev_ok "PathProver$Sets" "unpack" prog_11_method_14_code) = true := (ev_all ev_k235_0 ev_k235_1)
set_option maxRecDepth 100000 in
theorem ev_k236 : ev_b236.all (ev_ok "PathProver$Sets" "formOf" prog_11_method_7_code) = true := by decide +kernel
set_option maxRecDepth 100000 in
theorem ev_k237_0 : ev_b237_0.all (ev_ok "PathProver$Sets" "partsIn" prog_11_method_13_code) = true := by decide +kernel
set_option maxRecDepth 100000 in
theorem ev_k237_1 : ev_b237_1.all (ev_ok "PathProver$Sets" "partsIn" prog_11_method_13_code) = true := by decide +kernel
theorem ev_k237 : ev_b237.all (ev_ok "PathProver$Sets" "partsIn" prog_11_method_13_code) = true := (ev_all ev_k237_0 ev_k237_1)
set_option maxRecDepth 100000 in
theorem ev_k238 : ev_b238.all (ev_ok "PathProver$Sets" "numberAt" prog_11_method_12_code) = true := by decide +kernel
set_option maxRecDepth 100000 in
theorem ev_k239 : ev_b239.all (ev_ok "PathProver$Sets" "layRun" prog_11_method_15_code) = true := by decide +kernel
set_option maxRecDepth 100000 in
theorem ev_k240 : ev_b240.all (ev_ok "PathProver$Sets" "runIn" prog_11_method_16_code) = true := by decide +kernel
set_option maxRecDepth 100000 in
theorem ev_k241_0 : ev_b241_0.all (ev_ok "PathProver$Sets" "meets" prog_11_method_22_code) = true := by decide +kernel
set_option maxRecDepth 100000 in
theorem ev_k241_1 : ev_b241_1.all (ev_ok "PathProver$Sets" "meets" prog_11_method_22_code) = true := by decide +kernel
set_option maxRecDepth 100000 in
theorem ev_k241_2 : ev_b241_2.all (ev_ok "PathProver$Sets" "meets" prog_11_method_22_code) = true := by decide +kernel
theorem ev_k241 : ev_b241.all (ev_ok "PathProver$Sets" "meets" prog_11_method_22_code) = true := (ev_all ev_k241_0 (ev_all ev_k241_1 ev_k241_2))
set_option maxRecDepth 100000 in
theorem ev_k242_0 : ev_b242_0.all (ev_ok "PathProver$Sets" "contains" prog_11_method_21_code) = true := by decide +kernel
set_option maxRecDepth 100000 in
theorem ev_k242_1 : ev_b242_1.all (ev_ok "PathProver$Sets" "contains" prog_11_method_21_code) = true := by decide +kernel
set_option maxRecDepth 100000 in
theorem ev_k242_2 : ev_b242_2.all (ev_ok "PathProver$Sets" "contains" prog_11_method_21_code) = true := by decide +kernel
theorem ev_k242 : ev_b242.all (ev_ok "PathProver$Sets" "contains" prog_11_method_21_code) = true := (ev_all ev_k242_0 (ev_all ev_k242_1 ev_k242_2))
set_option maxRecDepth 100000 in
theorem ev_k243 : ev_b243.all (ev_ok "PathProver$Sets" "runMeets" prog_11_method_23_code) = true := by decide +kernel
set_option maxRecDepth 100000 in
theorem ev_k244 : ev_b244.all (ev_ok "PathProver$Sets" "firstWord" prog_11_method_17_code) = true := by decide +kernel
set_option maxRecDepth 100000 in
theorem ev_k245 : ev_b245.all (ev_ok "PathProver$Sets" "endWord" prog_11_method_18_code) = true := by decide +kernel
set_option maxRecDepth 100000 in
theorem ev_k246 : ev_b246.all (ev_ok "PathProver$Sets" "isListed" prog_11_method_19_code) = true := by decide +kernel
set_option maxRecDepth 100000 in
theorem ev_k247 : ev_b247.all (ev_ok "PathProver$Sets" "list" prog_11_method_20_code) = true := by decide +kernel
set_option maxRecDepth 100000 in
theorem ev_k248 : ev_b248.all (ev_ok "PathProver$Sets" "isAbsent" prog_11_method_4_code) = true := by decide +kernel
set_option maxRecDepth 100000 in
theorem ev_k249 : ev_b249.all (ev_ok "PathProver$Sets" "sizeOf" prog_11_method_5_code) = true := by decide +kernel
set_option maxRecDepth 100000 in
theorem ev_k250_0 : ev_b250_0.all (ev_ok "PathProver$Sets" "add" prog_11_method_8_code) = true := by decide +kernel
set_option maxRecDepth 100000 in
theorem ev_k250_1 : ev_b250_1.all (ev_ok "PathProver$Sets" "add" prog_11_method_8_code) = true := by decide +kernel
set_option maxRecDepth 100000 in
theorem ev_k250_2 : ev_b250_2.all (ev_ok "PathProver$Sets" "add" prog_11_method_8_code) = true := by decide +kernel
theorem ev_k250 : ev_b250.all (ev_ok "PathProver$Sets" "add" prog_11_method_8_code) = true := (ev_all ev_k250_0 (ev_all ev_k250_1 ev_k250_2))
