/-! Printed by wip/p1/gen.py: the methods' instructions are what their bytes say -/
set_option maxRecDepth 100000 in
theorem ev_k0_0 : ev_b0_0.all (ev_ok "PathProverLaw" "law" code) = true := by decide +kernel
set_option maxRecDepth 100000 in
theorem ev_k0_1 : ev_b0_1.all (ev_ok "PathProverLaw" "law" code) = true := by decide +kernel
set_option maxRecDepth 100000 in
theorem ev_k0_2 : ev_b0_2.all (ev_ok "PathProverLaw" "law" code) = true := by decide +kernel
set_option maxRecDepth 100000 in
theorem ev_k0_3 : ev_b0_3.all (ev_ok "PathProverLaw" "law" code) = true := by decide +kernel
set_option maxRecDepth 100000 in
theorem ev_k0_4 : ev_b0_4.all (ev_ok "PathProverLaw" "law" code) = true := by decide +kernel
set_option maxRecDepth 100000 in
theorem ev_k0_5 : ev_b0_5.all (ev_ok "PathProverLaw" "law" code) = true := by decide +kernel
set_option maxRecDepth 100000 in
theorem ev_k0_6 : ev_b0_6.all (ev_ok "PathProverLaw" "law" code) = true := by decide +kernel
set_option maxRecDepth 100000 in
theorem ev_k0_7 : ev_b0_7.all (ev_ok "PathProverLaw" "law" code) = true := by decide +kernel
set_option maxRecDepth 100000 in
theorem ev_k0_8 : ev_b0_8.all (ev_ok "PathProverLaw" "law" code) = true := by decide +kernel
set_option maxRecDepth 100000 in
theorem ev_k0_9 : ev_b0_9.all (ev_ok "PathProverLaw" "law" code) = true := by decide +kernel
set_option maxRecDepth 100000 in
theorem ev_k0_10 : ev_b0_10.all (ev_ok "PathProverLaw" "law" code) = true := by decide +kernel
theorem ev_k0 : ev_b0.all (ev_ok "PathProverLaw" "law" code) = true := (ev_all ev_k0_0 (ev_all ev_k0_1 (ev_all ev_k0_2 (ev_all ev_k0_3 (ev_all ev_k0_4 (ev_all ev_k0_5 (ev_all ev_k0_6 (ev_all ev_k0_7 (ev_all ev_k0_8 (ev_all ev_k0_9 ev_k0_10))))))))))
