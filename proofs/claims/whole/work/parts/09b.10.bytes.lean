/-! Printed by wip/whole/gen8.py: the methods' instructions are what their bytes say -/
set_option maxRecDepth 100000 in
theorem ev_k251_0 : ev_b251_0.all (ev_ok "PathProver$Sets" "encode" prog_11_method_11_code) = true := by decide +kernel
set_option maxRecDepth 100000 in
theorem ev_k251_1 : ev_b251_1.all (ev_ok "PathProver$Sets" "encode" prog_11_method_11_code) = true := by decide +kernel
set_option maxRecDepth 100000 in
theorem ev_k251_2 : ev_b251_2.all (ev_ok "PathProver$Sets" "encode" prog_11_method_11_code) = true := by decide +kernel
set_option maxRecDepth 100000 in
theorem ev_k251_3 : ev_b251_3.all (ev_ok "PathProver$Sets" "encode" prog_11_method_11_code) = true := by decide +kernel
set_option maxRecDepth 100000 in
theorem ev_k251_4 : ev_b251_4.all (ev_ok "PathProver$Sets" "encode" prog_11_method_11_code) = true := by decide +kernel
set_option maxRecDepth 100000 in
theorem ev_k251_5 : ev_b251_5.all (ev_ok "PathProver$Sets" "encode" prog_11_method_11_code) = true := by decide +kernel
theorem ev_k251 : ev_b251.all (ev_ok "PathProver$Sets" "encode" prog_11_method_11_code) = true := (ev_all ev_k251_0 (ev_all ev_k251_1 (ev_all ev_k251_2 (ev_all ev_k251_3 (ev_all ev_k251_4 ev_k251_5)))))
set_option maxRecDepth 100000 in
theorem ev_k252 : ev_b252.all (ev_ok "PathProver$Sets" "headOf" prog_11_method_6_code) = true := by decide +kernel
set_option maxRecDepth 100000 in
theorem ev_k253 : ev_b253.all (ev_ok "PathProver$Sets" "isWork" prog_11_method_9_code) = true := by decide +kernel
set_option maxRecDepth 100000 in
theorem ev_k254_0 : ev_b254_0.all (ev_ok "PathProver$Sets" "keep" prog_11_method_10_code) = true := by decide +kernel
set_option maxRecDepth 100000 in
theorem ev_k254_1 : ev_b254_1.all (ev_ok "PathProver$Sets" "keep" prog_11_method_10_code) = true := by decide +kernel
set_option maxRecDepth 100000 in
theorem ev_k254_2 : ev_b254_2.all (ev_ok "PathProver$Sets" "keep" prog_11_method_10_code) = true := by decide +kernel
set_option maxRecDepth 100000 in
theorem ev_k254_3 : ev_b254_3.all (ev_ok "PathProver$Sets" "keep" prog_11_method_10_code) = true := by decide +kernel
theorem ev_k254 : ev_b254.all (ev_ok "PathProver$Sets" "keep" prog_11_method_10_code) = true := (ev_all ev_k254_0 (ev_all ev_k254_1 (ev_all ev_k254_2 ev_k254_3)))
set_option maxRecDepth 100000 in
theorem ev_k255 : ev_b255.all (ev_ok "PathProver$Sets" "forget" prog_11_method_3_code) = true := by decide +kernel
set_option maxRecDepth 100000 in
theorem ev_k256 : ev_b256.all (ev_ok "PathProver$Sets" "clear" prog_11_method_2_code) = true := by decide +kernel
set_option maxRecDepth 100000 in
theorem ev_k257_0 : ev_b257_0.all (ev_ok "PathProver$Space" "evaluate" prog_13_method_10_code) = true := by decide +kernel
set_option maxRecDepth 100000 in
theorem ev_k257_1 : ev_b257_1.all (ev_ok "PathProver$Space" "evaluate" prog_13_method_10_code) = true := by decide +kernel
set_option maxRecDepth 100000 in
theorem ev_k257_2 : ev_b257_2.all (ev_ok "PathProver$Space" "evaluate" prog_13_method_10_code) = true := by decide +kernel
set_option maxRecDepth 100000 in
theorem ev_k257_3 : ev_b257_3.all (ev_ok "PathProver$Space" "evaluate" prog_13_method_10_code) = true := by decide +kernel
theorem ev_k257 : ev_b257.all (ev_ok "PathProver$Space" "evaluate" prog_13_method_10_code) = true := (ev_all ev_k257_0 (ev_all ev_k257_1 (ev_all ev_k257_2 ev_k257_3)))
set_option maxRecDepth 100000 in
theorem ev_k258 : ev_b258.all (ev_ok "PathProver$Space" "keepCommon" prog_13_method_9_code) = true := by decide +kernel
set_option maxRecDepth 100000 in
theorem ev_k259 : ev_b259.all (ev_ok "PathProver$Space" "isChosen" prog_13_method_11_code) = true := by decide +kernel
set_option maxRecDepth 100000 in
theorem ev_k260_0 : ev_b260_0.all (ev_ok "PathProver$Space" "spread" prog_13_method_12_code) = true := by decide +kernel
set_option maxRecDepth 100000 in
theorem ev_k260_1 : ev_b260_1.all (ev_ok "PathProver$Space" "spread" prog_13_method_12_code) = true := by decide +kernel
theorem ev_k260 : ev_b260.all (ev_ok "PathProver$Space" "spread" prog_13_method_12_code) = true := (ev_all ev_k260_0 ev_k260_1)
set_option maxRecDepth 100000 in
theorem ev_k261_0 : ev_b261_0.all (ev_ok "PathProver$Space" "project" prog_13_method_13_code) = true := by decide +kernel
set_option maxRecDepth 100000 in
theorem ev_k261_1 : ev_b261_1.all (ev_ok "PathProver$Space" "project" prog_13_method_13_code) = true := by decide +kernel
set_option maxRecDepth 100000 in
theorem ev_k261_2 : ev_b261_2.all (ev_ok "PathProver$Space" "project" prog_13_method_13_code) = true := by decide +kernel
theorem ev_k261 : ev_b261.all (ev_ok "PathProver$Space" "project" prog_13_method_13_code) = true := (ev_all ev_k261_0 (ev_all ev_k261_1 ev_k261_2))
set_option maxRecDepth 100000 in
theorem ev_k262 : ev_b262.all (ev_ok "PathProver$Space" "inverse" prog_13_method_5_code) = true := by decide +kernel
set_option maxRecDepth 100000 in
theorem ev_k263_0 : ev_b263_0.all (ev_ok "PathProver$Space" "digitOf" prog_13_method_6_code) = true := by decide +kernel
set_option maxRecDepth 100000 in
theorem ev_k263_1 : ev_b263_1.all (ev_ok "PathProver$Space" "digitOf" prog_13_method_6_code) = true := by decide +kernel
theorem ev_k263 : ev_b263.all (ev_ok "PathProver$Space" "digitOf" prog_13_method_6_code) = true := (ev_all ev_k263_0 ev_k263_1)
set_option maxRecDepth 100000 in
theorem ev_k264 : ev_b264.all (ev_ok "PathProver$Space" "digit" prog_13_method_4_code) = true := by decide +kernel
set_option maxRecDepth 100000 in
theorem ev_k265_0 : ev_b265_0.all (ev_ok "PathProver$Space" "know" prog_13_method_7_code) = true := by decide +kernel
set_option maxRecDepth 100000 in
theorem ev_k265_1 : ev_b265_1.all (ev_ok "PathProver$Space" "know" prog_13_method_7_code) = true := by decide +kernel
set_option maxRecDepth 100000 in
theorem ev_k265_2 : ev_b265_2.all (ev_ok "PathProver$Space" "know" prog_13_method_7_code) = true := by decide +kernel
set_option maxRecDepth 100000 in
theorem ev_k265_3 : ev_b265_3.all (ev_ok "PathProver$Space" "know" prog_13_method_7_code) = true := by decide +kernel
set_option maxRecDepth 100000 in
theorem ev_k265_4 : ev_b265_4.all (ev_ok "PathProver$Space" "know" prog_13_method_7_code) = true := by decide +kernel
set_option maxRecDepth 100000 in
theorem ev_k265_5 : ev_b265_5.all (ev_ok "PathProver$Space" "know" prog_13_method_7_code) = true := by decide +kernel
theorem ev_k265 : ev_b265.all (ev_ok "PathProver$Space" "know" prog_13_method_7_code) = true := (ev_all ev_k265_0 (ev_all ev_k265_1 (ev_all ev_k265_2 (ev_all ev_k265_3 (ev_all ev_k265_4 ev_k265_5)))))
set_option maxRecDepth 100000 in
theorem ev_k266 : ev_b266.all (ev_ok "PathProver$Space" "sizeOver" prog_13_method_14_code) = true := by decide +kernel
set_option maxRecDepth 100000 in
theorem ev_k267_0 : ev_b267_0.all (ev_ok "PathProver$Space" "listStates" prog_13_method_8_code) = true := by decide +kernel
set_option maxRecDepth 100000 in
theorem ev_k267_1 : ev_b267_1.all (ev_ok "PathProver$Space" "listStates" prog_13_method_8_code) = true := by decide +kernel
theorem ev_k267 : ev_b267.all (ev_ok "PathProver$Space" "listStates" prog_13_method_8_code) = true := (ev_all ev_k267_0 ev_k267_1)
set_option maxRecDepth 100000 in
theorem ev_k268_0 : ev_b268_0.all (ev_ok "PathProver$Space" "begin" prog_13_method_2_code) = true := by decide +kernel
set_option maxRecDepth 100000 in
theorem ev_k268_1 : ev_b268_1.all (ev_ok "PathProver$Space" "begin" prog_13_method_2_code) = true := by decide +kernel
set_option maxRecDepth 100000 in
theorem ev_k268_2 : ev_b268_2.all (ev_ok "PathProver$Space" "begin" prog_13_method_2_code) = true := by decide +kernel
set_option maxRecDepth 100000 in
theorem ev_k268_3 : ev_b268_3.all (ev_ok "PathProver$Space" "begin" prog_13_method_2_code) = true := by decide +kernel
set_option maxRecDepth 100000 in
theorem ev_k268_4 : ev_b268_4.all (ev_ok "PathProver$Space" "begin" prog_13_method_2_code) = true := by decide +kernel
theorem ev_k268 : ev_b268.all (ev_ok "PathProver$Space" "begin" prog_13_method_2_code) = true := (ev_all ev_k268_0 (ev_all ev_k268_1 (ev_all ev_k268_2 (ev_all ev_k268_3 ev_k268_4))))
