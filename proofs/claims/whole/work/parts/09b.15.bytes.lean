/-! Printed by wip/whole/gen8.py: the methods' instructions are what their bytes say -/
set_option maxRecDepth 100000 in
theorem ev_k348 : ev_b348.all (ev_ok "PathProver$Prover" "hasSet" prog_8_method_17_code) = true := by decide +kernel
set_option maxRecDepth 100000 in
theorem ev_k349_0 : ev_b349_0.all (ev_ok "PathProver$Prover" "findPart" prog_8_method_18_code) = true := by decide +kernel
set_option maxRecDepth 100000 in
theorem ev_k349_1 : ev_b349_1.all (ev_ok "PathProver$Prover" "findPart" prog_8_method_18_code) = true := by decide +kernel
theorem ev_k349 : ev_b349.all (ev_ok "PathProver$Prover" "findPart" prog_8_method_18_code) = true := (ev_all ev_k349_0 ev_k349_1)
set_option maxRecDepth 100000 in
theorem ev_k350_0 : ev_b350_0.all (ev_ok "PathProver$Prover" "combine" prog_8_method_20_code) = true := by decide +kernel
set_option maxRecDepth 100000 in
theorem ev_k350_1 : ev_b350_1.all (ev_ok "PathProver$Prover" "combine" prog_8_method_20_code) = true := by decide +kernel
set_option maxRecDepth 100000 in
theorem ev_k350_2 : ev_b350_2.all (ev_ok "PathProver$Prover" "combine" prog_8_method_20_code) = true := by decide +kernel
theorem ev_k350 : ev_b350.all (ev_ok "PathProver$Prover" "combine" prog_8_method_20_code) = true := (ev_all ev_k350_0 (ev_all ev_k350_1 ev_k350_2))
set_option maxRecDepth 100000 in
theorem ev_k351_0 : ev_b351_0.all (ev_ok "PathProver$Prover" "keep" prog_8_method_25_code) = true := by decide +kernel
set_option maxRecDepth 100000 in
theorem ev_k351_1 : ev_b351_1.all (ev_ok "PathProver$Prover" "keep" prog_8_method_25_code) = true := by decide +kernel
theorem ev_k351 : ev_b351.all (ev_ok "PathProver$Prover" "keep" prog_8_method_25_code) = true := (ev_all ev_k351_0 ev_k351_1)
set_option maxRecDepth 100000 in
theorem ev_k352_0 : ev_b352_0.all (ev_ok "PathProver$Prover" "join" prog_8_method_24_code) = true := by decide +kernel
set_option maxRecDepth 100000 in
theorem ev_k352_1 : ev_b352_1.all (ev_ok "PathProver$Prover" "join" prog_8_method_24_code) = true := by decide +kernel
theorem ev_k352 : ev_b352.all (ev_ok "PathProver$Prover" "join" prog_8_method_24_code) = true := (ev_all ev_k352_0 ev_k352_1)
set_option maxRecDepth 100000 in
theorem ev_k353_0 : ev_b353_0.all (ev_ok "PathProver$Prover" "prepare" prog_8_method_22_code) = true := by decide +kernel
set_option maxRecDepth 100000 in
theorem ev_k353_1 : ev_b353_1.all (ev_ok "PathProver$Prover" "prepare" prog_8_method_22_code) = true := by decide +kernel
set_option maxRecDepth 100000 in
theorem ev_k353_2 : ev_b353_2.all (ev_ok "PathProver$Prover" "prepare" prog_8_method_22_code) = true := by decide +kernel
theorem ev_k353 : ev_b353.all (ev_ok "PathProver$Prover" "prepare" prog_8_method_22_code) = true := (ev_all ev_k353_0 (ev_all ev_k353_1 ev_k353_2))
set_option maxRecDepth 100000 in
theorem ev_k354 : ev_b354.all (ev_ok "PathProver$Prover" "plainOf" prog_8_method_21_code) = true := by decide +kernel
set_option maxRecDepth 100000 in
theorem ev_k355_0 : ev_b355_0.all (ev_ok "PathProver$Prover" "finish" prog_8_method_23_code) = true := by decide +kernel
set_option maxRecDepth 100000 in
theorem ev_k355_1 : ev_b355_1.all (ev_ok "PathProver$Prover" "finish" prog_8_method_23_code) = true := by decide +kernel
theorem ev_k355 : ev_b355.all (ev_ok "PathProver$Prover" "finish" prog_8_method_23_code) = true := (ev_all ev_k355_0 ev_k355_1)
set_option maxRecDepth 100000 in
theorem ev_k356 : ev_b356.all (ev_ok "PathProver$Prover" "isShownFalse" prog_8_method_27_code) = true := by decide +kernel
set_option maxRecDepth 100000 in
theorem ev_k357 : ev_b357.all (ev_ok "PathProver$Prover" "newSet" prog_8_method_19_code) = true := by decide +kernel
set_option maxRecDepth 100000 in
theorem ev_k358 : ev_b358.all (ev_ok "PathProver$Prover" "seek" prog_8_method_13_code) = true := by decide +kernel
set_option maxRecDepth 100000 in
theorem ev_k359 : ev_b359.all (ev_ok "PathProver$Prover" "worthOf" prog_8_method_8_code) = true := by decide +kernel
set_option maxRecDepth 100000 in
theorem ev_k360 : ev_b360.all (ev_ok "PathProver$Prover" "follower" prog_8_method_6_code) = true := by decide +kernel
set_option maxRecDepth 100000 in
theorem ev_k361 : ev_b361.all (ev_ok "PathProver$Prover" "followers" prog_8_method_4_code) = true := by decide +kernel
set_option maxRecDepth 100000 in
theorem ev_k362 : ev_b362.all (ev_ok "PathProver$Prover" "nth" prog_8_method_7_code) = true := by decide +kernel
set_option maxRecDepth 100000 in
theorem ev_k363 : ev_b363.all (ev_ok "PathProver$Prover" "initialState" prog_8_method_5_code) = true := by decide +kernel
set_option maxRecDepth 100000 in
theorem ev_k364 : ev_b364.all (ev_ok "PathProver$Prover" "explore" prog_8_method_11_code) = true := by decide +kernel
set_option maxRecDepth 100000 in
theorem ev_k365_0 : ev_b365_0.all (ev_ok "PathProver$Prover" "startToShow" prog_8_method_28_code) = true := by decide +kernel
set_option maxRecDepth 100000 in
theorem ev_k365_1 : ev_b365_1.all (ev_ok "PathProver$Prover" "startToShow" prog_8_method_28_code) = true := by decide +kernel
theorem ev_k365 : ev_b365.all (ev_ok "PathProver$Prover" "startToShow" prog_8_method_28_code) = true := (ev_all ev_k365_0 ev_k365_1)
set_option maxRecDepth 100000 in
theorem ev_k366 : ev_b366.all (ev_ok "PathProver$Prover" "seekGoal" prog_8_method_29_code) = true := by decide +kernel
set_option maxRecDepth 100000 in
theorem ev_k367_0 : ev_b367_0.all (ev_ok "PathProver$Prover" "seekWay" prog_8_method_30_code) = true := by decide +kernel
set_option maxRecDepth 100000 in
theorem ev_k367_1 : ev_b367_1.all (ev_ok "PathProver$Prover" "seekWay" prog_8_method_30_code) = true := by decide +kernel
theorem ev_k367 : ev_b367.all (ev_ok "PathProver$Prover" "seekWay" prog_8_method_30_code) = true := (ev_all ev_k367_0 ev_k367_1)
set_option maxRecDepth 100000 in
theorem ev_k368_0 : ev_b368_0.all (ev_ok "PathProver$Prover" "seekPath" prog_8_method_32_code) = true := by decide +kernel
set_option maxRecDepth 100000 in
theorem ev_k368_1 : ev_b368_1.all (ev_ok "PathProver$Prover" "seekPath" prog_8_method_32_code) = true := by decide +kernel
theorem ev_k368 : ev_b368.all (ev_ok "PathProver$Prover" "seekPath" prog_8_method_32_code) = true := (ev_all ev_k368_0 ev_k368_1)
set_option maxRecDepth 100000 in
theorem ev_k369 : ev_b369.all (ev_ok "PathProver$Prover" "display" prog_8_method_36_code) = true := by decide +kernel
set_option maxRecDepth 100000 in
theorem ev_k370 : ev_b370.all (ev_ok "PathProver$Prover" "outerOf" prog_8_method_26_code) = true := by decide +kernel
set_option maxRecDepth 100000 in
theorem ev_k371_0 : ev_b371_0.all (ev_ok "PathProver$Prover" "aim" prog_8_method_31_code) = true := by decide +kernel
set_option maxRecDepth 100000 in
theorem ev_k371_1 : ev_b371_1.all (ev_ok "PathProver$Prover" "aim" prog_8_method_31_code) = true := by decide +kernel
set_option maxRecDepth 100000 in
theorem ev_k371_2 : ev_b371_2.all (ev_ok "PathProver$Prover" "aim" prog_8_method_31_code) = true := by decide +kernel
theorem ev_k371 : ev_b371.all (ev_ok "PathProver$Prover" "aim" prog_8_method_31_code) = true := (ev_all ev_k371_0 (ev_all ev_k371_1 ev_k371_2))
set_option maxRecDepth 100000 in
theorem ev_k372_0 : ev_b372_0.all (ev_ok "PathProver$Prover" "tally" prog_8_method_3_code) = true := by decide +kernel
set_option maxRecDepth 100000 in
theorem ev_k372_1 : ev_b372_1.all (ev_ok "PathProver$Prover" "tally" prog_8_method_3_code) = true := by decide +kernel
theorem ev_k372 : ev_b372.all (ev_ok "PathProver$Prover" "tally" prog_8_method_3_code) = true := (ev_all ev_k372_0 ev_k372_1)
set_option maxRecDepth 100000 in
theorem ev_k373 : ev_b373.all (ev_ok "PathProver$Prover" "holdsAtStart" prog_8_method_10_code) = true := by decide +kernel
set_option maxRecDepth 100000 in
theorem ev_k374 : ev_b374.all (ev_ok "PathProver$Prover" "begin" prog_8_method_2_code) = true := by decide +kernel
set_option maxRecDepth 100000 in
theorem ev_k375 : ev_b375.all (ev_ok "PathProver" "needCurrent" prog_1_method_25_code) = true := by decide +kernel
set_option maxRecDepth 100000 in
theorem ev_k376_0 : ev_b376_0.all (ev_ok "PathProver" "drive" prog_1_method_20_code) = true := by decide +kernel
set_option maxRecDepth 100000 in
theorem ev_k376_1 : ev_b376_1.all (ev_ok "PathProver" "drive" prog_1_method_20_code) = true := by decide +kernel
theorem ev_k376 : ev_b376.all (ev_ok "PathProver" "drive" prog_1_method_20_code) = true := (ev_all ev_k376_0 ev_k376_1)
set_option maxRecDepth 100000 in
theorem ev_k377 : ev_b377.all (ev_ok "PathProver" "has" prog_1_method_30_code) = true := by decide +kernel
