/-! Printed by wip/p1/gen.py: the methods' instructions are what their bytes say -/
set_option maxRecDepth 100000 in
theorem ev_k17_0 : ev_b17_0.all (ev_ok "PathProver$Rows" "put" prog_10_method_4_code) = true := by decide +kernel
set_option maxRecDepth 100000 in
theorem ev_k17_1 : ev_b17_1.all (ev_ok "PathProver$Rows" "put" prog_10_method_4_code) = true := by decide +kernel
theorem ev_k17 : ev_b17.all (ev_ok "PathProver$Rows" "put" prog_10_method_4_code) = true := (ev_all ev_k17_0 ev_k17_1)
set_option maxRecDepth 100000 in
theorem ev_k18 : ev_b18.all (ev_ok "PathProver$Sets" "<init>" prog_11_method_1_code) = true := by decide +kernel
