/-! Printed by wip/whole/gen8.py: the methods' instructions are what their bytes say -/
set_option maxRecDepth 100000 in
theorem ev_k409_0 : ev_b409_0.all (ev_ok "PathProverModel" "paths" prog_15_method_100_code) = true := by decide +kernel
set_option maxRecDepth 100000 in
theorem ev_k409_1 : ev_b409_1.all (ev_ok "PathProverModel" "paths" prog_15_method_100_code) = true := by decide +kernel
theorem ev_k409 : ev_b409.all (ev_ok "PathProverModel" "paths" prog_15_method_100_code) = true := (ev_all ev_k409_0 ev_k409_1)
set_option maxRecDepth 100000 in
theorem ev_k410 : ev_b410.all (ev_ok "PathProverModel" "enter" prog_15_method_80_code) = true := by decide +kernel
set_option maxRecDepth 100000 in
theorem ev_k411_0 : ev_b411_0.all (ev_ok "PathProverModel" "value" prog_15_method_75_code) = true := by decide +kernel
set_option maxRecDepth 100000 in
theorem ev_k411_1 : ev_b411_1.all (ev_ok "PathProverModel" "value" prog_15_method_75_code) = true := by decide +kernel
set_option maxRecDepth 100000 in
theorem ev_k411_2 : ev_b411_2.all (ev_ok "PathProverModel" "value" prog_15_method_75_code) = true := by decide +kernel
set_option maxRecDepth 100000 in
theorem ev_k411_3 : ev_b411_3.all (ev_ok "PathProverModel" "value" prog_15_method_75_code) = true := by decide +kernel
set_option maxRecDepth 100000 in
theorem ev_k411_4 : ev_b411_4.all (ev_ok "PathProverModel" "value" prog_15_method_75_code) = true := by decide +kernel
theorem ev_k411 : ev_b411.all (ev_ok "PathProverModel" "value" prog_15_method_75_code) = true := (ev_all ev_k411_0 (ev_all ev_k411_1 (ev_all ev_k411_2 (ev_all ev_k411_3 ev_k411_4))))
set_option maxRecDepth 100000 in
theorem ev_k412 : ev_b412.all (ev_ok "PathProverModel" "copy" prog_15_method_102_code) = true := by decide +kernel
set_option maxRecDepth 100000 in
theorem ev_k413 : ev_b413.all (ev_ok "PathProverModel" "deny" prog_15_method_99_code) = true := by decide +kernel
set_option maxRecDepth 100000 in
theorem ev_k414_0 : ev_b414_0.all (ev_ok "PathProverModel" "before" prog_15_method_103_code) = true := by decide +kernel
set_option maxRecDepth 100000 in
theorem ev_k414_1 : ev_b414_1.all (ev_ok "PathProverModel" "before" prog_15_method_103_code) = true := by decide +kernel
theorem ev_k414 : ev_b414.all (ev_ok "PathProverModel" "before" prog_15_method_103_code) = true := (ev_all ev_k414_0 ev_k414_1)
set_option maxRecDepth 100000 in
theorem ev_k415 : ev_b415.all (ev_ok "PathProverModel" "until" prog_15_method_98_code) = true := by decide +kernel
set_option maxRecDepth 100000 in
theorem ev_k416_0 : ev_b416_0.all (ev_ok "PathProverModel" "always" prog_15_method_97_code) = true := by decide +kernel
set_option maxRecDepth 100000 in
theorem ev_k416_1 : ev_b416_1.all (ev_ok "PathProverModel" "always" prog_15_method_97_code) = true := by decide +kernel
set_option maxRecDepth 100000 in
theorem ev_k416_2 : ev_b416_2.all (ev_ok "PathProverModel" "always" prog_15_method_97_code) = true := by decide +kernel
theorem ev_k416 : ev_b416.all (ev_ok "PathProverModel" "always" prog_15_method_97_code) = true := (ev_all ev_k416_0 (ev_all ev_k416_1 ev_k416_2))
set_option maxRecDepth 100000 in
theorem ev_k417_0 : ev_b417_0.all (ev_ok "PathProverModel" "untils" prog_15_method_104_code) = true := by decide +kernel
set_option maxRecDepth 100000 in
theorem ev_k417_1 : ev_b417_1.all (ev_ok "PathProverModel" "untils" prog_15_method_104_code) = true := by decide +kernel
set_option maxRecDepth 100000 in
theorem ev_k417_2 : ev_b417_2.all (ev_ok "PathProverModel" "untils" prog_15_method_104_code) = true := by decide +kernel
theorem ev_k417 : ev_b417.all (ev_ok "PathProverModel" "untils" prog_15_method_104_code) = true := (ev_all ev_k417_0 (ev_all ev_k417_1 ev_k417_2))
set_option maxRecDepth 100000 in
theorem ev_k418_0 : ev_b418_0.all (ev_ok "PathProverModel" "joined" prog_15_method_105_code) = true := by decide +kernel
set_option maxRecDepth 100000 in
theorem ev_k418_1 : ev_b418_1.all (ev_ok "PathProverModel" "joined" prog_15_method_105_code) = true := by decide +kernel
set_option maxRecDepth 100000 in
theorem ev_k418_2 : ev_b418_2.all (ev_ok "PathProverModel" "joined" prog_15_method_105_code) = true := by decide +kernel
set_option maxRecDepth 100000 in
theorem ev_k418_3 : ev_b418_3.all (ev_ok "PathProverModel" "joined" prog_15_method_105_code) = true := by decide +kernel
theorem ev_k418 : ev_b418.all (ev_ok "PathProverModel" "joined" prog_15_method_105_code) = true := (ev_all ev_k418_0 (ev_all ev_k418_1 (ev_all ev_k418_2 ev_k418_3)))
set_option maxRecDepth 100000 in
theorem ev_k419 : ev_b419.all (ev_ok "PathProverModel" "fairs" prog_15_method_95_code) = true := by decide +kernel
set_option maxRecDepth 100000 in
theorem ev_k420 : ev_b420.all (ev_ok "PathProverModel" "fairAt" prog_15_method_96_code) = true := by decide +kernel
set_option maxRecDepth 100000 in
theorem ev_k421 : ev_b421.all (ev_ok "PathProverModel" "grow" prog_15_method_94_code) = true := by decide +kernel
set_option maxRecDepth 100000 in
theorem ev_k422 : ev_b422.all (ev_ok "PathProverModel" "leads" prog_15_method_93_code) = true := by decide +kernel
set_option maxRecDepth 100000 in
theorem ev_k423 : ev_b423.all (ev_ok "PathProverModel" "begin" prog_15_method_87_code) = true := by decide +kernel
set_option maxRecDepth 100000 in
theorem ev_k424 : ev_b424.all (ev_ok "PathProverModel" "next" prog_15_method_88_code) = true := by decide +kernel
set_option maxRecDepth 100000 in
theorem ev_k425 : ev_b425.all (ev_ok "PathProverModel" "tried" prog_15_method_85_code) = true := by decide +kernel
set_option maxRecDepth 100000 in
theorem ev_k426_0 : ev_b426_0.all (ev_ok "PathProverModel" "candidate" prog_15_method_84_code) = true := by decide +kernel
set_option maxRecDepth 100000 in
theorem ev_k426_1 : ev_b426_1.all (ev_ok "PathProverModel" "candidate" prog_15_method_84_code) = true := by decide +kernel
set_option maxRecDepth 100000 in
theorem ev_k426_2 : ev_b426_2.all (ev_ok "PathProverModel" "candidate" prog_15_method_84_code) = true := by decide +kernel
set_option maxRecDepth 100000 in
theorem ev_k426_3 : ev_b426_3.all (ev_ok "PathProverModel" "candidate" prog_15_method_84_code) = true := by decide +kernel
theorem ev_k426 : ev_b426.all (ev_ok "PathProverModel" "candidate" prog_15_method_84_code) = true := (ev_all ev_k426_0 (ev_all ev_k426_1 (ev_all ev_k426_2 ev_k426_3)))
set_option maxRecDepth 100000 in
theorem ev_k427 : ev_b427.all (ev_ok "PathProverModel" "decode" prog_15_method_72_code) = true := by decide +kernel
set_option maxRecDepth 100000 in
theorem ev_k428_0 : ev_b428_0.all (ev_ok "PathProverModel" "transitions" prog_15_method_82_code) = true := by decide +kernel
set_option maxRecDepth 100000 in
theorem ev_k428_1 : ev_b428_1.all (ev_ok "PathProverModel" "transitions" prog_15_method_82_code) = true := by decide +kernel
theorem ev_k428 : ev_b428.all (ev_ok "PathProverModel" "transitions" prog_15_method_82_code) = true := (ev_all ev_k428_0 ev_k428_1)
set_option maxRecDepth 100000 in
theorem ev_k429 : ev_b429.all (ev_ok "PathProverModel" "howMany" prog_15_method_69_code) = true := by decide +kernel
set_option maxRecDepth 100000 in
theorem ev_k430_0 : ev_b430_0.all (ev_ok "PathProverModel" "mark" prog_15_method_83_code) = true := by decide +kernel
set_option maxRecDepth 100000 in
theorem ev_k430_1 : ev_b430_1.all (ev_ok "PathProverModel" "mark" prog_15_method_83_code) = true := by decide +kernel
set_option maxRecDepth 100000 in
theorem ev_k430_2 : ev_b430_2.all (ev_ok "PathProverModel" "mark" prog_15_method_83_code) = true := by decide +kernel
theorem ev_k430 : ev_b430.all (ev_ok "PathProverModel" "mark" prog_15_method_83_code) = true := (ev_all ev_k430_0 (ev_all ev_k430_1 ev_k430_2))
