/-! Printed by wip/whole/gen8.py: the methods' instructions are what their bytes say -/
set_option maxRecDepth 100000 in
theorem ev_k328_0 : ev_b328_0.all (ev_ok "PathProver$Graph" "climb" prog_2_method_25_code) = true := by decide +kernel
set_option maxRecDepth 100000 in
theorem ev_k328_1 : ev_b328_1.all (ev_ok "PathProver$Graph" "climb" prog_2_method_25_code) = true := by decide +kernel
set_option maxRecDepth 100000 in
theorem ev_k328_2 : ev_b328_2.all (ev_ok "PathProver$Graph" "climb" prog_2_method_25_code) = true := by decide +kernel
theorem ev_k328 : ev_b328.all (ev_ok "PathProver$Graph" "climb" prog_2_method_25_code) = true := (ev_all ev_k328_0 (ev_all ev_k328_1 ev_k328_2))
set_option maxRecDepth 100000 in
theorem ev_k329_0 : ev_b329_0.all (ev_ok "PathProver$Graph" "isOpenRing" prog_2_method_28_code) = true := by decide +kernel
set_option maxRecDepth 100000 in
theorem ev_k329_1 : ev_b329_1.all (ev_ok "PathProver$Graph" "isOpenRing" prog_2_method_28_code) = true := by decide +kernel
set_option maxRecDepth 100000 in
theorem ev_k329_2 : ev_b329_2.all (ev_ok "PathProver$Graph" "isOpenRing" prog_2_method_28_code) = true := by decide +kernel
set_option maxRecDepth 100000 in
theorem ev_k329_3 : ev_b329_3.all (ev_ok "PathProver$Graph" "isOpenRing" prog_2_method_28_code) = true := by decide +kernel
theorem ev_k329 : ev_b329.all (ev_ok "PathProver$Graph" "isOpenRing" prog_2_method_28_code) = true := (ev_all ev_k329_0 (ev_all ev_k329_1 (ev_all ev_k329_2 ev_k329_3)))
set_option maxRecDepth 100000 in
theorem ev_k330_0 : ev_b330_0.all (ev_ok "PathProver$Graph" "isFair" prog_2_method_29_code) = true := by decide +kernel
set_option maxRecDepth 100000 in
theorem ev_k330_1 : ev_b330_1.all (ev_ok "PathProver$Graph" "isFair" prog_2_method_29_code) = true := by decide +kernel
theorem ev_k330 : ev_b330.all (ev_ok "PathProver$Graph" "isFair" prog_2_method_29_code) = true := (ev_all ev_k330_0 ev_k330_1)
set_option maxRecDepth 100000 in
theorem ev_k331 : ev_b331.all (ev_ok "PathProver$Graph" "startOfRing" prog_2_method_27_code) = true := by decide +kernel
set_option maxRecDepth 100000 in
theorem ev_k332_0 : ev_b332_0.all (ev_ok "PathProver$Graph" "settle" prog_2_method_31_code) = true := by decide +kernel
set_option maxRecDepth 100000 in
theorem ev_k332_1 : ev_b332_1.all (ev_ok "PathProver$Graph" "settle" prog_2_method_31_code) = true := by decide +kernel
set_option maxRecDepth 100000 in
theorem ev_k332_2 : ev_b332_2.all (ev_ok "PathProver$Graph" "settle" prog_2_method_31_code) = true := by decide +kernel
theorem ev_k332 : ev_b332.all (ev_ok "PathProver$Graph" "settle" prog_2_method_31_code) = true := (ev_all ev_k332_0 (ev_all ev_k332_1 ev_k332_2))
set_option maxRecDepth 100000 in
theorem ev_k333_0 : ev_b333_0.all (ev_ok "PathProver$Graph" "leave" prog_2_method_26_code) = true := by decide +kernel
set_option maxRecDepth 100000 in
theorem ev_k333_1 : ev_b333_1.all (ev_ok "PathProver$Graph" "leave" prog_2_method_26_code) = true := by decide +kernel
theorem ev_k333 : ev_b333.all (ev_ok "PathProver$Graph" "leave" prog_2_method_26_code) = true := (ev_all ev_k333_0 ev_k333_1)
set_option maxRecDepth 100000 in
theorem ev_k334_0 : ev_b334_0.all (ev_ok "PathProver$Graph" "nextUnseen" prog_2_method_24_code) = true := by decide +kernel
set_option maxRecDepth 100000 in
theorem ev_k334_1 : ev_b334_1.all (ev_ok "PathProver$Graph" "nextUnseen" prog_2_method_24_code) = true := by decide +kernel
theorem ev_k334 : ev_b334.all (ev_ok "PathProver$Graph" "nextUnseen" prog_2_method_24_code) = true := (ev_all ev_k334_0 ev_k334_1)
set_option maxRecDepth 100000 in
theorem ev_k335 : ev_b335.all (ev_ok "PathProver$Graph" "rowMeets" prog_2_method_17_code) = true := by decide +kernel
set_option maxRecDepth 100000 in
theorem ev_k336_0 : ev_b336_0.all (ev_ok "PathProver$Graph" "lowest" prog_2_method_22_code) = true := by decide +kernel
set_option maxRecDepth 100000 in
theorem ev_k336_1 : ev_b336_1.all (ev_ok "PathProver$Graph" "lowest" prog_2_method_22_code) = true := by decide +kernel
theorem ev_k336 : ev_b336.all (ev_ok "PathProver$Graph" "lowest" prog_2_method_22_code) = true := (ev_all ev_k336_0 ev_k336_1)
set_option maxRecDepth 100000 in
theorem ev_k337_0 : ev_b337_0.all (ev_ok "PathProver$Graph" "begin" prog_2_method_5_code) = true := by decide +kernel
set_option maxRecDepth 100000 in
theorem ev_k337_1 : ev_b337_1.all (ev_ok "PathProver$Graph" "begin" prog_2_method_5_code) = true := by decide +kernel
set_option maxRecDepth 100000 in
theorem ev_k337_2 : ev_b337_2.all (ev_ok "PathProver$Graph" "begin" prog_2_method_5_code) = true := by decide +kernel
set_option maxRecDepth 100000 in
theorem ev_k337_3 : ev_b337_3.all (ev_ok "PathProver$Graph" "begin" prog_2_method_5_code) = true := by decide +kernel
theorem ev_k337 : ev_b337.all (ev_ok "PathProver$Graph" "begin" prog_2_method_5_code) = true := (ev_all ev_k337_0 (ev_all ev_k337_1 (ev_all ev_k337_2 ev_k337_3)))
set_option maxRecDepth 100000 in
theorem ev_k338_0 : ev_b338_0.all (ev_ok "PathProver$Graph" "explore" prog_2_method_9_code) = true := by decide +kernel
set_option maxRecDepth 100000 in
theorem ev_k338_1 : ev_b338_1.all (ev_ok "PathProver$Graph" "explore" prog_2_method_9_code) = true := by decide +kernel
theorem ev_k338 : ev_b338.all (ev_ok "PathProver$Graph" "explore" prog_2_method_9_code) = true := (ev_all ev_k338_0 ev_k338_1)
set_option maxRecDepth 100000 in
theorem ev_k339 : ev_b339.all (ev_ok "PathProver$Prover" "ask" prog_8_method_12_code) = true := by decide +kernel
set_option maxRecDepth 100000 in
theorem ev_k340 : ev_b340.all (ev_ok "PathProver$Prover" "isTrueIn" prog_8_method_9_code) = true := by decide +kernel
set_option maxRecDepth 100000 in
theorem ev_k341 : ev_b341.all (ev_ok "PathProver$Prover" "isSeeking" prog_8_method_14_code) = true := by decide +kernel
set_option maxRecDepth 100000 in
theorem ev_k342_0 : ev_b342_0.all (ev_ok "PathProver$Prover" "seekOn" prog_8_method_16_code) = true := by decide +kernel
set_option maxRecDepth 100000 in
theorem ev_k342_1 : ev_b342_1.all (ev_ok "PathProver$Prover" "seekOn" prog_8_method_16_code) = true := by decide +kernel
set_option maxRecDepth 100000 in
theorem ev_k342_2 : ev_b342_2.all (ev_ok "PathProver$Prover" "seekOn" prog_8_method_16_code) = true := by decide +kernel
set_option maxRecDepth 100000 in
theorem ev_k342_3 : ev_b342_3.all (ev_ok "PathProver$Prover" "seekOn" prog_8_method_16_code) = true := by decide +kernel
theorem ev_k342 : ev_b342.all (ev_ok "PathProver$Prover" "seekOn" prog_8_method_16_code) = true := (ev_all ev_k342_0 (ev_all ev_k342_1 (ev_all ev_k342_2 ev_k342_3)))
set_option maxRecDepth 100000 in
theorem ev_k343_0 : ev_b343_0.all (ev_ok "PathProver$Prover" "advance" prog_8_method_15_code) = true := by decide +kernel
set_option maxRecDepth 100000 in
theorem ev_k343_1 : ev_b343_1.all (ev_ok "PathProver$Prover" "advance" prog_8_method_15_code) = true := by decide +kernel
theorem ev_k343 : ev_b343.all (ev_ok "PathProver$Prover" "advance" prog_8_method_15_code) = true := (ev_all ev_k343_0 ev_k343_1)
set_option maxRecDepth 100000 in
theorem ev_k344_0 : ev_b344_0.all (ev_ok "PathProver$Prover" "ringOn" prog_8_method_35_code) = true := by decide +kernel
set_option maxRecDepth 100000 in
theorem ev_k344_1 : ev_b344_1.all (ev_ok "PathProver$Prover" "ringOn" prog_8_method_35_code) = true := by decide +kernel
theorem ev_k344 : ev_b344.all (ev_ok "PathProver$Prover" "ringOn" prog_8_method_35_code) = true := (ev_all ev_k344_0 ev_k344_1)
set_option maxRecDepth 100000 in
theorem ev_k345_0 : ev_b345_0.all (ev_ok "PathProver$Prover" "watchOn" prog_8_method_37_code) = true := by decide +kernel
set_option maxRecDepth 100000 in
theorem ev_k345_1 : ev_b345_1.all (ev_ok "PathProver$Prover" "watchOn" prog_8_method_37_code) = true := by decide +kernel
theorem ev_k345 : ev_b345.all (ev_ok "PathProver$Prover" "watchOn" prog_8_method_37_code) = true := (ev_all ev_k345_0 ev_k345_1)
set_option maxRecDepth 100000 in
theorem ev_k346 : ev_b346.all (ev_ok "PathProver$Prover" "legs" prog_8_method_34_code) = true := by decide +kernel
set_option maxRecDepth 100000 in
theorem ev_k347_0 : ev_b347_0.all (ev_ok "PathProver$Prover" "startLeg" prog_8_method_33_code) = true := by decide +kernel
set_option maxRecDepth 100000 in
theorem ev_k347_1 : ev_b347_1.all (ev_ok "PathProver$Prover" "startLeg" prog_8_method_33_code) = true := by decide +kernel
set_option maxRecDepth 100000 in
theorem ev_k347_2 : ev_b347_2.all (ev_ok "PathProver$Prover" "startLeg" prog_8_method_33_code) = true := by decide +kernel
theorem ev_k347 : ev_b347.all (ev_ok "PathProver$Prover" "startLeg" prog_8_method_33_code) = true := (ev_all ev_k347_0 (ev_all ev_k347_1 ev_k347_2))
