/-! Printed by wip/whole/gen8.py: the methods' instructions are what their bytes say -/
set_option maxRecDepth 100000 in
theorem ev_k207_0 : ev_b207_0.all (ev_ok "PathProver$Machine" "rewind" prog_5_method_7_code) = true := by decide +kernel
set_option maxRecDepth 100000 in
theorem ev_k207_1 : ev_b207_1.all (ev_ok "PathProver$Machine" "rewind" prog_5_method_7_code) = true := by decide +kernel
theorem ev_k207 : ev_b207.all (ev_ok "PathProver$Machine" "rewind" prog_5_method_7_code) = true := (ev_all ev_k207_0 ev_k207_1)
set_option maxRecDepth 100000 in
theorem ev_k208_0 : ev_b208_0.all (ev_ok "PathProver$Machine" "run" prog_5_method_16_code) = true := by decide +kernel
set_option maxRecDepth 100000 in
theorem ev_k208_1 : ev_b208_1.all (ev_ok "PathProver$Machine" "run" prog_5_method_16_code) = true := by decide +kernel
set_option maxRecDepth 100000 in
theorem ev_k208_2 : ev_b208_2.all (ev_ok "PathProver$Machine" "run" prog_5_method_16_code) = true := by decide +kernel
theorem ev_k208 : ev_b208.all (ev_ok "PathProver$Machine" "run" prog_5_method_16_code) = true := (ev_all ev_k208_0 (ev_all ev_k208_1 ev_k208_2))
set_option maxRecDepth 100000 in
theorem ev_k209 : ev_b209.all (ev_ok "PathProver$Machine" "results" prog_5_method_31_code) = true := by decide +kernel
set_option maxRecDepth 100000 in
theorem ev_k210 : ev_b210.all (ev_ok "PathProver$Machine" "digitAt" prog_5_method_30_code) = true := by decide +kernel
set_option maxRecDepth 100000 in
theorem ev_k211 : ev_b211.all (ev_ok "PathProver$Machine" "turn" prog_5_method_8_code) = true := by decide +kernel
set_option maxRecDepth 100000 in
theorem ev_k212 : ev_b212.all (ev_ok "PathProver$Machine" "fillAll" prog_5_method_9_code) = true := by decide +kernel
set_option maxRecDepth 100000 in
theorem ev_k213_0 : ev_b213_0.all (ev_ok "PathProver$Machine" "fill" prog_5_method_14_code) = true := by decide +kernel
set_option maxRecDepth 100000 in
theorem ev_k213_1 : ev_b213_1.all (ev_ok "PathProver$Machine" "fill" prog_5_method_14_code) = true := by decide +kernel
set_option maxRecDepth 100000 in
theorem ev_k213_2 : ev_b213_2.all (ev_ok "PathProver$Machine" "fill" prog_5_method_14_code) = true := by decide +kernel
set_option maxRecDepth 100000 in
theorem ev_k213_3 : ev_b213_3.all (ev_ok "PathProver$Machine" "fill" prog_5_method_14_code) = true := by decide +kernel
set_option maxRecDepth 100000 in
theorem ev_k213_4 : ev_b213_4.all (ev_ok "PathProver$Machine" "fill" prog_5_method_14_code) = true := by decide +kernel
set_option maxRecDepth 100000 in
theorem ev_k213_5 : ev_b213_5.all (ev_ok "PathProver$Machine" "fill" prog_5_method_14_code) = true := by decide +kernel
theorem ev_k213 : ev_b213.all (ev_ok "PathProver$Machine" "fill" prog_5_method_14_code) = true := (ev_all ev_k213_0 (ev_all ev_k213_1 (ev_all ev_k213_2 (ev_all ev_k213_3 (ev_all ev_k213_4 ev_k213_5)))))
set_option maxRecDepth 100000 in
theorem ev_k214 : ev_b214.all (ev_ok "PathProver$Machine" "choices" prog_5_method_32_code) = true := by decide +kernel
set_option maxRecDepth 100000 in
theorem ev_k215 : ev_b215.all (ev_ok "PathProver$Machine" "choice" prog_5_method_33_code) = true := by decide +kernel
set_option maxRecDepth 100000 in
theorem ev_k216 : ev_b216.all (ev_ok "PathProver$Machine" "cell" prog_5_method_21_code) = true := by decide +kernel
set_option maxRecDepth 100000 in
theorem ev_k217 : ev_b217.all (ev_ok "PathProver$Machine" "bring" prog_5_method_22_code) = true := by decide +kernel
set_option maxRecDepth 100000 in
theorem ev_k218_0 : ev_b218_0.all (ev_ok "PathProver$Machine" "push" prog_5_method_18_code) = true := by decide +kernel
set_option maxRecDepth 100000 in
theorem ev_k218_1 : ev_b218_1.all (ev_ok "PathProver$Machine" "push" prog_5_method_18_code) = true := by decide +kernel
set_option maxRecDepth 100000 in
theorem ev_k218_2 : ev_b218_2.all (ev_ok "PathProver$Machine" "push" prog_5_method_18_code) = true := by decide +kernel
theorem ev_k218 : ev_b218.all (ev_ok "PathProver$Machine" "push" prog_5_method_18_code) = true := (ev_all ev_k218_0 (ev_all ev_k218_1 ev_k218_2))
set_option maxRecDepth 100000 in
theorem ev_k219_0 : ev_b219_0.all (ev_ok "PathProver$Machine" "apply" prog_5_method_19_code) = true := by decide +kernel
set_option maxRecDepth 100000 in
theorem ev_k219_1 : ev_b219_1.all (ev_ok "PathProver$Machine" "apply" prog_5_method_19_code) = true := by decide +kernel
set_option maxRecDepth 100000 in
theorem ev_k219_2 : ev_b219_2.all (ev_ok "PathProver$Machine" "apply" prog_5_method_19_code) = true := by decide +kernel
set_option maxRecDepth 100000 in
theorem ev_k219_3 : ev_b219_3.all (ev_ok "PathProver$Machine" "apply" prog_5_method_19_code) = true := by decide +kernel
set_option maxRecDepth 100000 in
theorem ev_k219_4 : ev_b219_4.all (ev_ok "PathProver$Machine" "apply" prog_5_method_19_code) = true := by decide +kernel
theorem ev_k219 : ev_b219.all (ev_ok "PathProver$Machine" "apply" prog_5_method_19_code) = true := (ev_all ev_k219_0 (ev_all ev_k219_1 (ev_all ev_k219_2 (ev_all ev_k219_3 ev_k219_4))))
set_option maxRecDepth 100000 in
theorem ev_k220 : ev_b220.all (ev_ok "PathProver$Machine" "copy" prog_5_method_17_code) = true := by decide +kernel
set_option maxRecDepth 100000 in
theorem ev_k221_0 : ev_b221_0.all (ev_ok "PathProver$Machine" "keepChoices" prog_5_method_20_code) = true := by decide +kernel
set_option maxRecDepth 100000 in
theorem ev_k221_1 : ev_b221_1.all (ev_ok "PathProver$Machine" "keepChoices" prog_5_method_20_code) = true := by decide +kernel
theorem ev_k221 : ev_b221.all (ev_ok "PathProver$Machine" "keepChoices" prog_5_method_20_code) = true := (ev_all ev_k221_0 ev_k221_1)
set_option maxRecDepth 100000 in
theorem ev_k222_0 : ev_b222_0.all (ev_ok "PathProver$Machine" "reckonOne" prog_5_method_23_code) = true := by decide +kernel
set_option maxRecDepth 100000 in
theorem ev_k222_1 : ev_b222_1.all (ev_ok "PathProver$Machine" "reckonOne" prog_5_method_23_code) = true := by decide +kernel
set_option maxRecDepth 100000 in
theorem ev_k222_2 : ev_b222_2.all (ev_ok "PathProver$Machine" "reckonOne" prog_5_method_23_code) = true := by decide +kernel
theorem ev_k222 : ev_b222.all (ev_ok "PathProver$Machine" "reckonOne" prog_5_method_23_code) = true := (ev_all ev_k222_0 (ev_all ev_k222_1 ev_k222_2))
set_option maxRecDepth 100000 in
theorem ev_k223_0 : ev_b223_0.all (ev_ok "PathProver$Machine" "choose" prog_5_method_25_code) = true := by decide +kernel
set_option maxRecDepth 100000 in
theorem ev_k223_1 : ev_b223_1.all (ev_ok "PathProver$Machine" "choose" prog_5_method_25_code) = true := by decide +kernel
theorem ev_k223 : ev_b223.all (ev_ok "PathProver$Machine" "choose" prog_5_method_25_code) = true := (ev_all ev_k223_0 ev_k223_1)
set_option maxRecDepth 100000 in
theorem ev_k224_0 : ev_b224_0.all (ev_ok "PathProver$Machine" "match" prog_5_method_26_code) = true := by decide +kernel
set_option maxRecDepth 100000 in
theorem ev_k224_1 : ev_b224_1.all (ev_ok "PathProver$Machine" "match" prog_5_method_26_code) = true := by decide +kernel
theorem ev_k224 : ev_b224.all (ev_ok "PathProver$Machine" "match" prog_5_method_26_code) = true := (ev_all ev_k224_0 ev_k224_1)
set_option maxRecDepth 100000 in
theorem ev_k225_0 : ev_b225_0.all (ev_ok "PathProver$Machine" "joinTruths" prog_5_method_27_code) = true := by decide +kernel
set_option maxRecDepth 100000 in
theorem ev_k225_1 : ev_b225_1.all (ev_ok "PathProver$Machine" "joinTruths" prog_5_method_27_code) = true := by decide +kernel
set_option maxRecDepth 100000 in
theorem ev_k225_2 : ev_b225_2.all (ev_ok "PathProver$Machine" "joinTruths" prog_5_method_27_code) = true := by decide +kernel
set_option maxRecDepth 100000 in
theorem ev_k225_3 : ev_b225_3.all (ev_ok "PathProver$Machine" "joinTruths" prog_5_method_27_code) = true := by decide +kernel
theorem ev_k225 : ev_b225.all (ev_ok "PathProver$Machine" "joinTruths" prog_5_method_27_code) = true := (ev_all ev_k225_0 (ev_all ev_k225_1 (ev_all ev_k225_2 ev_k225_3)))
