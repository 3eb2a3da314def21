/-! Printed by wip/whole/gen8.py: the methods' instructions are what their bytes say -/
set_option maxRecDepth 100000 in
theorem ev_k431 : ev_b431.all (ev_ok "PathProverModel" "find" prog_15_method_38_code) = true := by decide +kernel
set_option maxRecDepth 100000 in
theorem ev_k432 : ev_b432.all (ev_ok "PathProverModel" "valueAt" prog_15_method_71_code) = true := by decide +kernel
set_option maxRecDepth 100000 in
theorem ev_k433_0 : ev_b433_0.all (ev_ok "PathProverModel" "chosen" prog_15_method_79_code) = true := by decide +kernel
set_option maxRecDepth 100000 in
theorem ev_k433_1 : ev_b433_1.all (ev_ok "PathProverModel" "chosen" prog_15_method_79_code) = true := by decide +kernel
theorem ev_k433 : ev_b433.all (ev_ok "PathProverModel" "chosen" prog_15_method_79_code) = true := (ev_all ev_k433_0 ev_k433_1)
set_option maxRecDepth 100000 in
theorem ev_k434_0 : ev_b434_0.all (ev_ok "PathProverModel" "find" prog_15_method_52_code) = true := by decide +kernel
set_option maxRecDepth 100000 in
theorem ev_k434_1 : ev_b434_1.all (ev_ok "PathProverModel" "find" prog_15_method_52_code) = true := by decide +kernel
set_option maxRecDepth 100000 in
theorem ev_k434_2 : ev_b434_2.all (ev_ok "PathProverModel" "find" prog_15_method_52_code) = true := by decide +kernel
set_option maxRecDepth 100000 in
theorem ev_k434_3 : ev_b434_3.all (ev_ok "PathProverModel" "find" prog_15_method_52_code) = true := by decide +kernel
theorem ev_k434 : ev_b434.all (ev_ok "PathProverModel" "find" prog_15_method_52_code) = true := (ev_all ev_k434_0 (ev_all ev_k434_1 (ev_all ev_k434_2 ev_k434_3)))
set_option maxRecDepth 100000 in
theorem ev_k435 : ev_b435.all (ev_ok "PathProverModel" "standing" prog_15_method_76_code) = true := by decide +kernel
set_option maxRecDepth 100000 in
theorem ev_k436 : ev_b436.all (ev_ok "PathProverModel" "variableOf" prog_15_method_63_code) = true := by decide +kernel
set_option maxRecDepth 100000 in
theorem ev_k437 : ev_b437.all (ev_ok "PathProverModel" "wrap" prog_15_method_73_code) = true := by decide +kernel
set_option maxRecDepth 100000 in
theorem ev_k438 : ev_b438.all (ev_ok "PathProverModel" "truth" prog_15_method_74_code) = true := by decide +kernel
set_option maxRecDepth 100000 in
theorem ev_k439_0 : ev_b439_0.all (ev_ok "PathProverModel" "chainValue" prog_15_method_77_code) = true := by decide +kernel
set_option maxRecDepth 100000 in
theorem ev_k439_1 : ev_b439_1.all (ev_ok "PathProverModel" "chainValue" prog_15_method_77_code) = true := by decide +kernel
set_option maxRecDepth 100000 in
theorem ev_k439_2 : ev_b439_2.all (ev_ok "PathProverModel" "chainValue" prog_15_method_77_code) = true := by decide +kernel
theorem ev_k439 : ev_b439.all (ev_ok "PathProverModel" "chainValue" prog_15_method_77_code) = true := (ev_all ev_k439_0 (ev_all ev_k439_1 ev_k439_2))
set_option maxRecDepth 100000 in
theorem ev_k440_0 : ev_b440_0.all (ev_ok "PathProverModel" "compared" prog_15_method_78_code) = true := by decide +kernel
set_option maxRecDepth 100000 in
theorem ev_k440_1 : ev_b440_1.all (ev_ok "PathProverModel" "compared" prog_15_method_78_code) = true := by decide +kernel
set_option maxRecDepth 100000 in
theorem ev_k440_2 : ev_b440_2.all (ev_ok "PathProverModel" "compared" prog_15_method_78_code) = true := by decide +kernel
theorem ev_k440 : ev_b440.all (ev_ok "PathProverModel" "compared" prog_15_method_78_code) = true := (ev_all ev_k440_0 (ev_all ev_k440_1 ev_k440_2))
set_option maxRecDepth 100000 in
theorem ev_k441 : ev_b441.all (ev_ok "PathProverModel" "sound" prog_15_method_39_code) = true := by decide +kernel
set_option maxRecDepth 100000 in
theorem ev_k442 : ev_b442.all (ev_ok "PathProverModel" "symbol" prog_15_method_31_code) = true := by decide +kernel
set_option maxRecDepth 100000 in
theorem ev_k443 : ev_b443.all (ev_ok "PathProverModel" "temporal" prog_15_method_62_code) = true := by decide +kernel
set_option maxRecDepth 100000 in
theorem ev_k444 : ev_b444.all (ev_ok "PathProverModel" "go" prog_15_method_125_code) = true := by decide +kernel
set_option maxRecDepth 100000 in
theorem ev_k445 : ev_b445.all (ev_ok "PathProverModel" "degree" prog_15_method_89_code) = true := by decide +kernel
set_option maxRecDepth 100000 in
theorem ev_k446_0 : ev_b446_0.all (ev_ok "PathProverModel" "showPath" prog_15_method_121_code) = true := by decide +kernel
set_option maxRecDepth 100000 in
theorem ev_k446_1 : ev_b446_1.all (ev_ok "PathProverModel" "showPath" prog_15_method_121_code) = true := by decide +kernel
set_option maxRecDepth 100000 in
theorem ev_k446_2 : ev_b446_2.all (ev_ok "PathProverModel" "showPath" prog_15_method_121_code) = true := by decide +kernel
set_option maxRecDepth 100000 in
theorem ev_k446_3 : ev_b446_3.all (ev_ok "PathProverModel" "showPath" prog_15_method_121_code) = true := by decide +kernel
theorem ev_k446 : ev_b446.all (ev_ok "PathProverModel" "showPath" prog_15_method_121_code) = true := (ev_all ev_k446_0 (ev_all ev_k446_1 (ev_all ev_k446_2 ev_k446_3)))
set_option maxRecDepth 100000 in
theorem ev_k447_0 : ev_b447_0.all (ev_ok "PathProverModel" "showLoop" prog_15_method_122_code) = true := by decide +kernel
set_option maxRecDepth 100000 in
theorem ev_k447_1 : ev_b447_1.all (ev_ok "PathProverModel" "showLoop" prog_15_method_122_code) = true := by decide +kernel
set_option maxRecDepth 100000 in
theorem ev_k447_2 : ev_b447_2.all (ev_ok "PathProverModel" "showLoop" prog_15_method_122_code) = true := by decide +kernel
set_option maxRecDepth 100000 in
theorem ev_k447_3 : ev_b447_3.all (ev_ok "PathProverModel" "showLoop" prog_15_method_122_code) = true := by decide +kernel
theorem ev_k447 : ev_b447.all (ev_ok "PathProverModel" "showLoop" prog_15_method_122_code) = true := (ev_all ev_k447_0 (ev_all ev_k447_1 (ev_all ev_k447_2 ev_k447_3)))
set_option maxRecDepth 100000 in
theorem ev_k448 : ev_b448.all (ev_ok "PathProverModel" "firstOf" prog_15_method_119_code) = true := by decide +kernel
set_option maxRecDepth 100000 in
theorem ev_k449 : ev_b449.all (ev_ok "PathProverModel" "tell" prog_15_method_114_code) = true := by decide +kernel
set_option maxRecDepth 100000 in
theorem ev_k450 : ev_b450.all (ev_ok "PathProverModel" "walk" prog_15_method_124_code) = true := by decide +kernel
set_option maxRecDepth 100000 in
theorem ev_k451_0 : ev_b451_0.all (ev_ok "PathProverModel" "measure" prog_15_method_115_code) = true := by decide +kernel
set_option maxRecDepth 100000 in
theorem ev_k451_1 : ev_b451_1.all (ev_ok "PathProverModel" "measure" prog_15_method_115_code) = true := by decide +kernel
theorem ev_k451 : ev_b451.all (ev_ok "PathProverModel" "measure" prog_15_method_115_code) = true := (ev_all ev_k451_0 ev_k451_1)
set_option maxRecDepth 100000 in
theorem ev_k452 : ev_b452.all (ev_ok "PathProverModel" "nearest" prog_15_method_116_code) = true := by decide +kernel
set_option maxRecDepth 100000 in
theorem ev_k453 : ev_b453.all (ev_ok "PathProverModel" "pathSizeBack" prog_15_method_123_code) = true := by decide +kernel
set_option maxRecDepth 100000 in
theorem ev_k454 : ev_b454.all (ev_ok "PathProverModel" "step" prog_15_method_117_code) = true := by decide +kernel
set_option maxRecDepth 100000 in
theorem ev_k455 : ev_b455.all (ev_ok "PathProverModel" "follow" prog_15_method_118_code) = true := by decide +kernel
set_option maxRecDepth 100000 in
theorem ev_k456_0 : ev_b456_0.all (ev_ok "PathProverModel" "soundTexts" prog_15_method_49_code) = true := by decide +kernel
set_option maxRecDepth 100000 in
theorem ev_k456_1 : ev_b456_1.all (ev_ok "PathProverModel" "soundTexts" prog_15_method_49_code) = true := by decide +kernel
theorem ev_k456 : ev_b456.all (ev_ok "PathProverModel" "soundTexts" prog_15_method_49_code) = true := (ev_all ev_k456_0 ev_k456_1)
set_option maxRecDepth 100000 in
theorem ev_k457 : ev_b457.all (ev_ok "PathProverModel" "text" prog_15_method_43_code) = true := by decide +kernel
set_option maxRecDepth 100000 in
theorem ev_k458_0 : ev_b458_0.all (ev_ok "PathProverModel" "instance" prog_15_method_51_code) = true := by decide +kernel
set_option maxRecDepth 100000 in
theorem ev_k458_1 : ev_b458_1.all (ev_ok "PathProverModel" "instance" prog_15_method_51_code) = true := by decide +kernel
set_option maxRecDepth 100000 in
theorem ev_k458_2 : ev_b458_2.all (ev_ok "PathProverModel" "instance" prog_15_method_51_code) = true := by decide +kernel
set_option maxRecDepth 100000 in
theorem ev_k458_3 : ev_b458_3.all (ev_ok "PathProverModel" "instance" prog_15_method_51_code) = true := by decide +kernel
set_option maxRecDepth 100000 in
theorem ev_k458_4 : ev_b458_4.all (ev_ok "PathProverModel" "instance" prog_15_method_51_code) = true := by decide +kernel
set_option maxRecDepth 100000 in
theorem ev_k458_5 : ev_b458_5.all (ev_ok "PathProverModel" "instance" prog_15_method_51_code) = true := by decide +kernel
set_option maxRecDepth 100000 in
theorem ev_k458_6 : ev_b458_6.all (ev_ok "PathProverModel" "instance" prog_15_method_51_code) = true := by decide +kernel
set_option maxRecDepth 100000 in
theorem ev_k458_7 : ev_b458_7.all (ev_ok "PathProverModel" "instance" prog_15_method_51_code) = true := by decide +kernel
theorem ev_k458 : ev_b458.all (ev_ok "PathProverModel" "instance" prog_15_method_51_code) = true := (ev_all ev_k458_0 (ev_all ev_k458_1 (ev_all ev_k458_2 (ev_all ev_k458_3 (ev_all ev_k458_4 (ev_all ev_k458_5 (ev_all ev_k458_6 ev_k458_7)))))))
