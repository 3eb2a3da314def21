/-! Printed by wip/whole/gen8.py: the methods' instructions are what their bytes say -/
set_option maxRecDepth 100000 in
theorem ev_k459_0 : ev_b459_0.all (ev_ok "PathProverModel" "allNames" prog_15_method_57_code) = true := by decide +kernel
set_option maxRecDepth 100000 in
theorem ev_k459_1 : ev_b459_1.all (ev_ok "PathProverModel" "allNames" prog_15_method_57_code) = true := by decide +kernel
theorem ev_k459 : ev_b459.all (ev_ok "PathProverModel" "allNames" prog_15_method_57_code) = true := (ev_all ev_k459_0 ev_k459_1)
set_option maxRecDepth 100000 in
theorem ev_k460_0 : ev_b460_0.all (ev_ok "PathProverModel" "allHeights" prog_15_method_60_code) = true := by decide +kernel
set_option maxRecDepth 100000 in
theorem ev_k460_1 : ev_b460_1.all (ev_ok "PathProverModel" "allHeights" prog_15_method_60_code) = true := by decide +kernel
set_option maxRecDepth 100000 in
theorem ev_k460_2 : ev_b460_2.all (ev_ok "PathProverModel" "allHeights" prog_15_method_60_code) = true := by decide +kernel
set_option maxRecDepth 100000 in
theorem ev_k460_3 : ev_b460_3.all (ev_ok "PathProverModel" "allHeights" prog_15_method_60_code) = true := by decide +kernel
theorem ev_k460 : ev_b460.all (ev_ok "PathProverModel" "allHeights" prog_15_method_60_code) = true := (ev_all ev_k460_0 (ev_all ev_k460_1 (ev_all ev_k460_2 ev_k460_3)))
set_option maxRecDepth 100000 in
theorem ev_k461_0 : ev_b461_0.all (ev_ok "PathProverModel" "allSorts" prog_15_method_68_code) = true := by decide +kernel
set_option maxRecDepth 100000 in
theorem ev_k461_1 : ev_b461_1.all (ev_ok "PathProverModel" "allSorts" prog_15_method_68_code) = true := by decide +kernel
set_option maxRecDepth 100000 in
theorem ev_k461_2 : ev_b461_2.all (ev_ok "PathProverModel" "allSorts" prog_15_method_68_code) = true := by decide +kernel
set_option maxRecDepth 100000 in
theorem ev_k461_3 : ev_b461_3.all (ev_ok "PathProverModel" "allSorts" prog_15_method_68_code) = true := by decide +kernel
theorem ev_k461 : ev_b461.all (ev_ok "PathProverModel" "allSorts" prog_15_method_68_code) = true := (ev_all ev_k461_0 (ev_all ev_k461_1 (ev_all ev_k461_2 ev_k461_3)))
set_option maxRecDepth 100000 in
theorem ev_k462_0 : ev_b462_0.all (ev_ok "PathProverModel" "allValues" prog_15_method_70_code) = true := by decide +kernel
set_option maxRecDepth 100000 in
theorem ev_k462_1 : ev_b462_1.all (ev_ok "PathProverModel" "allValues" prog_15_method_70_code) = true := by decide +kernel
set_option maxRecDepth 100000 in
theorem ev_k462_2 : ev_b462_2.all (ev_ok "PathProverModel" "allValues" prog_15_method_70_code) = true := by decide +kernel
theorem ev_k462 : ev_b462.all (ev_ok "PathProverModel" "allValues" prog_15_method_70_code) = true := (ev_all ev_k462_0 (ev_all ev_k462_1 ev_k462_2))
set_option maxRecDepth 100000 in
theorem ev_k463_0 : ev_b463_0.all (ev_ok "PathProverModel" "build" prog_15_method_90_code) = true := by decide +kernel
set_option maxRecDepth 100000 in
theorem ev_k463_1 : ev_b463_1.all (ev_ok "PathProverModel" "build" prog_15_method_90_code) = true := by decide +kernel
set_option maxRecDepth 100000 in
theorem ev_k463_2 : ev_b463_2.all (ev_ok "PathProverModel" "build" prog_15_method_90_code) = true := by decide +kernel
set_option maxRecDepth 100000 in
theorem ev_k463_3 : ev_b463_3.all (ev_ok "PathProverModel" "build" prog_15_method_90_code) = true := by decide +kernel
set_option maxRecDepth 100000 in
theorem ev_k463_4 : ev_b463_4.all (ev_ok "PathProverModel" "build" prog_15_method_90_code) = true := by decide +kernel
set_option maxRecDepth 100000 in
theorem ev_k463_5 : ev_b463_5.all (ev_ok "PathProverModel" "build" prog_15_method_90_code) = true := by decide +kernel
set_option maxRecDepth 100000 in
theorem ev_k463_6 : ev_b463_6.all (ev_ok "PathProverModel" "build" prog_15_method_90_code) = true := by decide +kernel
set_option maxRecDepth 100000 in
theorem ev_k463_7 : ev_b463_7.all (ev_ok "PathProverModel" "build" prog_15_method_90_code) = true := by decide +kernel
theorem ev_k463 : ev_b463.all (ev_ok "PathProverModel" "build" prog_15_method_90_code) = true := (ev_all ev_k463_0 (ev_all ev_k463_1 (ev_all ev_k463_2 (ev_all ev_k463_3 (ev_all ev_k463_4 (ev_all ev_k463_5 (ev_all ev_k463_6 ev_k463_7)))))))
set_option maxRecDepth 100000 in
theorem ev_k464_0 : ev_b464_0.all (ev_ok "PathProverModel" "all" prog_15_method_81_code) = true := by decide +kernel
set_option maxRecDepth 100000 in
theorem ev_k464_1 : ev_b464_1.all (ev_ok "PathProverModel" "all" prog_15_method_81_code) = true := by decide +kernel
set_option maxRecDepth 100000 in
theorem ev_k464_2 : ev_b464_2.all (ev_ok "PathProverModel" "all" prog_15_method_81_code) = true := by decide +kernel
theorem ev_k464 : ev_b464.all (ev_ok "PathProverModel" "all" prog_15_method_81_code) = true := (ev_all ev_k464_0 (ev_all ev_k464_1 ev_k464_2))
set_option maxRecDepth 100000 in
theorem ev_k465_0 : ev_b465_0.all (ev_ok "PathProverModel" "goes" prog_15_method_86_code) = true := by decide +kernel
set_option maxRecDepth 100000 in
theorem ev_k465_1 : ev_b465_1.all (ev_ok "PathProverModel" "goes" prog_15_method_86_code) = true := by decide +kernel
theorem ev_k465 : ev_b465.all (ev_ok "PathProverModel" "goes" prog_15_method_86_code) = true := (ev_all ev_k465_0 ev_k465_1)
set_option maxRecDepth 100000 in
theorem ev_k466 : ev_b466.all (ev_ok "PathProverModel" "small" prog_15_method_40_code) = true := by decide +kernel
set_option maxRecDepth 100000 in
theorem ev_k467_0 : ev_b467_0.all (ev_ok "PathProverModel" "sort" prog_15_method_64_code) = true := by decide +kernel
set_option maxRecDepth 100000 in
theorem ev_k467_1 : ev_b467_1.all (ev_ok "PathProverModel" "sort" prog_15_method_64_code) = true := by decide +kernel
set_option maxRecDepth 100000 in
theorem ev_k467_2 : ev_b467_2.all (ev_ok "PathProverModel" "sort" prog_15_method_64_code) = true := by decide +kernel
set_option maxRecDepth 100000 in
theorem ev_k467_3 : ev_b467_3.all (ev_ok "PathProverModel" "sort" prog_15_method_64_code) = true := by decide +kernel
set_option maxRecDepth 100000 in
theorem ev_k467_4 : ev_b467_4.all (ev_ok "PathProverModel" "sort" prog_15_method_64_code) = true := by decide +kernel
set_option maxRecDepth 100000 in
theorem ev_k467_5 : ev_b467_5.all (ev_ok "PathProverModel" "sort" prog_15_method_64_code) = true := by decide +kernel
theorem ev_k467 : ev_b467.all (ev_ok "PathProverModel" "sort" prog_15_method_64_code) = true := (ev_all ev_k467_0 (ev_all ev_k467_1 (ev_all ev_k467_2 (ev_all ev_k467_3 (ev_all ev_k467_4 ev_k467_5)))))
set_option maxRecDepth 100000 in
theorem ev_k468 : ev_b468.all (ev_ok "PathProverModel" "assigns" prog_15_method_46_code) = true := by decide +kernel
set_option maxRecDepth 100000 in
theorem ev_k469 : ev_b469.all (ev_ok "PathProverModel" "sortOf" prog_15_method_61_code) = true := by decide +kernel
set_option maxRecDepth 100000 in
theorem ev_k470_0 : ev_b470_0.all (ev_ok "PathProverModel" "choiceSort" prog_15_method_67_code) = true := by decide +kernel
set_option maxRecDepth 100000 in
theorem ev_k470_1 : ev_b470_1.all (ev_ok "PathProverModel" "choiceSort" prog_15_method_67_code) = true := by decide +kernel
set_option maxRecDepth 100000 in
theorem ev_k470_2 : ev_b470_2.all (ev_ok "PathProverModel" "choiceSort" prog_15_method_67_code) = true := by decide +kernel
theorem ev_k470 : ev_b470.all (ev_ok "PathProverModel" "choiceSort" prog_15_method_67_code) = true := (ev_all ev_k470_0 (ev_all ev_k470_1 ev_k470_2))
