/-! Printed by wip/p1/gen3.py: the cases of a first call, by the evaluator -/
def ev_fine (r : Option ev_R) : Bool :=
  match r with
  | some (.inl (some (.inl (.int x))), _, c, n) => decide (x = 1) && Nat.ble c 600002 && Nat.ble n 7302232
  | _ => false
noncomputable def ev_case (sc : List ev_V) (k : Int32) : Option ev_R := ev_loop (some .boolean) ev_r12 ev_fds ev_jk ev_kb sc 7 [] ev_b0 500 (40, ev_L0, [.inl (.int k)], ev_w0, 201, 293034)
noncomputable def ev_short (L : Int32) : Option ev_R := ev_loop (some .boolean) ev_r12 ev_fds ev_jk ev_kb [] 7 [] ev_b0 500 (27, ev_L0, [.inl (.int L), .inl (.int 0)], ev_w0, 201, 293034)
def ev_tp : ev_V := .inr (some (-2147483648, 2147483647))
set_option maxRecDepth 1000000 in
theorem ev_short0 : ev_fine (ev_short 0) = true := by decide +kernel
set_option maxRecDepth 1000000 in
theorem ev_short1 : ev_fine (ev_short 1) = true := by decide +kernel
set_option maxRecDepth 1000000 in
theorem ev_short2 : ev_fine (ev_short 2) = true := by decide +kernel
set_option maxRecDepth 1000000 in
theorem ev_short3 : ev_fine (ev_short 3) = true := by decide +kernel
set_option maxRecDepth 1000000 in
theorem ev_short4 : ev_fine (ev_short 4) = true := by decide +kernel
set_option maxRecDepth 1000000 in
theorem ev_short5 : ev_fine (ev_short 5) = true := by decide +kernel
set_option maxRecDepth 1000000 in
theorem ev_t39 : ev_to ev_r12 ev_fds ev_jk ev_kb [ev_tp, ev_tp, ev_tp, ev_tp, ev_tp, ev_tp] 7 [] ev_b0 39 100 (27, ev_L0, [.inl (.int 6), .inl (.int 0)], ev_w0, 201, 293034) = some (39, ev_L0, [.inl (.int 15), ev_tp], ev_w0, 201, 293034) := ev_eqF_ok (by decide +kernel)
set_option maxRecDepth 1000000 in
theorem ev_case0 : ev_fine (ev_case [.inr (some ((-2147483648), (2147483647))), .inr (some ((-2147483648), (2147483647))), .inr (some ((-2147483648), (2147483647))), .inr (some ((-2147483648), (2147483647))), .inr (some ((-2147483648), (2147483647))), .inr (some ((-2147483648), (2147483647)))] 0) = true := by decide +kernel
set_option maxRecDepth 1000000 in
theorem ev_case1 : ev_fine (ev_case [.inr (some ((-2147483648), (2147483647))), .inr (some ((-2147483648), (-1))), .inr (some ((-2147483648), (2147483647))), .inr (some ((-2147483648), (2147483647))), .inr (some ((-2147483648), (2147483647))), .inr (some ((-2147483648), (2147483647)))] 1) = true := by decide +kernel
set_option maxRecDepth 1000000 in
theorem ev_case2 : ev_fine (ev_case [.inr (some ((-2147483648), (2147483647))), .inl (.int 0), .inr (some ((-2147483648), (2147483647))), .inr (some ((-2147483648), (2147483647))), .inr (some ((-2147483648), (2147483647))), .inr (some ((-2147483648), (2147483647)))] 1) = true := by decide +kernel
set_option maxRecDepth 1000000 in
theorem ev_case3 : ev_fine (ev_case [.inr (some ((-2147483648), (2147483647))), .inr (some ((1), (2147483647))), .inr (some ((-2147483648), (2147483647))), .inr (some ((-2147483648), (2147483647))), .inr (some ((-2147483648), (2147483647))), .inr (some ((-2147483648), (2147483647)))] 1) = true := by decide +kernel
set_option maxRecDepth 1000000 in
theorem ev_case4 : ev_fine (ev_case [.inr (some ((-2147483648), (2147483647))), .inr (some ((-2147483648), (2147483647))), .inr (some ((-2147483648), (2147483647))), .inr (some ((-2147483648), (2147483647))), .inr (some ((-2147483648), (2147483647))), .inr (some ((-2147483648), (2147483647)))] 2) = true := by decide +kernel
set_option maxRecDepth 1000000 in
theorem ev_case5 : ev_fine (ev_case [.inr (some ((-2147483648), (2147483647))), .inr (some ((-2147483648), (2147483647))), .inr (some ((-2147483648), (2147483647))), .inr (some ((-2147483648), (2147483647))), .inr (some ((-2147483648), (2147483647))), .inr (some ((-2147483648), (2147483647)))] 3) = true := by decide +kernel
set_option maxRecDepth 1000000 in
theorem ev_case6 : ev_fine (ev_case [.inr (some ((-2147483648), (2147483647))), .inr (some ((-2147483648), (-1))), .inr (some ((-2147483648), (2147483647))), .inr (some ((-2147483648), (2147483647))), .inr (some ((-2147483648), (2147483647))), .inr (some ((-2147483648), (2147483647)))] 4) = true := by decide +kernel
set_option maxRecDepth 1000000 in
theorem ev_case7 : ev_fine (ev_case [.inr (some ((-2147483648), (2147483647))), .inr (some ((0), (2147483647))), .inr (some ((-2147483648), (2147483647))), .inr (some ((-2147483648), (2147483647))), .inr (some ((-2147483648), (2147483647))), .inr (some ((-2147483648), (2147483647)))] 4) = true := by decide +kernel
set_option maxRecDepth 1000000 in
theorem ev_case8 : ev_fine (ev_case [.inr (some ((-2147483648), (2147483647))), .inr (some ((-2147483648), (-1))), .inr (some ((-2147483648), (2147483647))), .inr (some ((-2147483648), (2147483647))), .inr (some ((-2147483648), (2147483647))), .inr (some ((-2147483648), (2147483647)))] 5) = true := by decide +kernel
set_option maxRecDepth 1000000 in
theorem ev_case9 : ev_fine (ev_case [.inr (some ((-2147483648), (2147483647))), .inr (some ((0), (4))), .inr (some ((-2147483648), (-1))), .inr (some ((-2147483648), (2147483647))), .inr (some ((-2147483648), (2147483647))), .inr (some ((-2147483648), (2147483647)))] 5) = true := by decide +kernel
set_option maxRecDepth 1000000 in
theorem ev_case10 : ev_fine (ev_case [.inr (some ((-2147483648), (2147483647))), .inr (some ((0), (4))), .inl (.int 0), .inr (some ((-2147483648), (2147483647))), .inr (some ((-2147483648), (2147483647))), .inr (some ((-2147483648), (2147483647)))] 5) = true := by decide +kernel
set_option maxRecDepth 1000000 in
theorem ev_case11 : ev_fine (ev_case [.inr (some ((-2147483648), (2147483647))), .inr (some ((0), (4))), .inr (some ((1), (2147483647))), .inr (some ((-2147483648), (2147483647))), .inr (some ((-2147483648), (2147483647))), .inr (some ((-2147483648), (2147483647)))] 5) = true := by decide +kernel
set_option maxRecDepth 1000000 in
theorem ev_case12 : ev_fine (ev_case [.inr (some ((-2147483648), (2147483647))), .inl (.int 5), .inr (some ((-2147483648), (-1))), .inr (some ((-2147483648), (2147483647))), .inr (some ((-2147483648), (2147483647))), .inr (some ((-2147483648), (2147483647)))] 5) = true := by decide +kernel
set_option maxRecDepth 1000000 in
theorem ev_case13 : ev_fine (ev_case [.inr (some ((-2147483648), (2147483647))), .inl (.int 5), .inr (some ((0), (2147483647))), .inr (some ((-2147483648), (2147483647))), .inr (some ((-2147483648), (2147483647))), .inr (some ((-2147483648), (2147483647)))] 5) = true := by decide +kernel
set_option maxRecDepth 1000000 in
theorem ev_case14 : ev_fine (ev_case [.inr (some ((-2147483648), (2147483647))), .inr (some ((6), (2147483647))), .inr (some ((-2147483648), (2147483647))), .inr (some ((-2147483648), (2147483647))), .inr (some ((-2147483648), (2147483647))), .inr (some ((-2147483648), (2147483647)))] 5) = true := by decide +kernel
set_option maxRecDepth 1000000 in
theorem ev_case15 : ev_fine (ev_case [.inr (some ((-2147483648), (2147483647))), .inr (some ((-2147483648), (-1))), .inr (some ((-2147483648), (2147483647))), .inr (some ((-2147483648), (2147483647))), .inr (some ((-2147483648), (2147483647))), .inr (some ((-2147483648), (2147483647)))] 6) = true := by decide +kernel
set_option maxRecDepth 1000000 in
theorem ev_case16 : ev_fine (ev_case [.inr (some ((-2147483648), (2147483647))), .inr (some ((0), (7))), .inr (some ((-2147483648), (2147483647))), .inr (some ((-2147483648), (2147483647))), .inr (some ((-2147483648), (2147483647))), .inr (some ((-2147483648), (2147483647)))] 6) = true := by decide +kernel
set_option maxRecDepth 1000000 in
theorem ev_case17 : ev_fine (ev_case [.inr (some ((-2147483648), (2147483647))), .inr (some ((8), (2147483647))), .inr (some ((-2147483648), (2147483647))), .inr (some ((-2147483648), (2147483647))), .inr (some ((-2147483648), (2147483647))), .inr (some ((-2147483648), (2147483647)))] 6) = true := by decide +kernel
set_option maxRecDepth 1000000 in
theorem ev_case18 : ev_fine (ev_case [.inr (some ((-2147483648), (2147483647))), .inr (some ((-2147483648), (-1))), .inr (some ((-2147483648), (2147483647))), .inr (some ((-2147483648), (2147483647))), .inr (some ((-2147483648), (2147483647))), .inr (some ((-2147483648), (2147483647)))] 7) = true := by decide +kernel
set_option maxRecDepth 1000000 in
theorem ev_case19 : ev_fine (ev_case [.inr (some ((-2147483648), (2147483647))), .inr (some ((0), (2147483647))), .inr (some ((-2147483648), (2147483647))), .inr (some ((-2147483648), (2147483647))), .inr (some ((-2147483648), (2147483647))), .inr (some ((-2147483648), (2147483647)))] 7) = true := by decide +kernel
set_option maxRecDepth 1000000 in
theorem ev_case20 : ev_fine (ev_case [.inr (some ((-2147483648), (2147483647))), .inr (some ((-2147483648), (-1))), .inr (some ((-2147483648), (2147483647))), .inr (some ((-2147483648), (2147483647))), .inr (some ((-2147483648), (2147483647))), .inr (some ((-2147483648), (2147483647)))] 8) = true := by decide +kernel
set_option maxRecDepth 1000000 in
theorem ev_case21 : ev_fine (ev_case [.inr (some ((-2147483648), (2147483647))), .inr (some ((0), (2147483647))), .inr (some ((-2147483648), (2147483647))), .inr (some ((-2147483648), (2147483647))), .inr (some ((-2147483648), (2147483647))), .inr (some ((-2147483648), (2147483647)))] 8) = true := by decide +kernel
set_option maxRecDepth 1000000 in
theorem ev_case22 : ev_fine (ev_case [.inr (some ((-2147483648), (2147483647))), .inr (some ((-2147483648), (-1))), .inr (some ((-2147483648), (2147483647))), .inr (some ((-2147483648), (2147483647))), .inr (some ((-2147483648), (2147483647))), .inr (some ((-2147483648), (2147483647)))] 9) = true := by decide +kernel
set_option maxRecDepth 1000000 in
theorem ev_case23 : ev_fine (ev_case [.inr (some ((-2147483648), (2147483647))), .inr (some ((0), (2147483647))), .inr (some ((-2147483648), (2147483647))), .inr (some ((-2147483648), (2147483647))), .inr (some ((-2147483648), (2147483647))), .inr (some ((-2147483648), (2147483647)))] 9) = true := by decide +kernel
set_option maxRecDepth 1000000 in
theorem ev_case24 : ev_fine (ev_case [.inr (some ((-2147483648), (2147483647))), .inr (some ((-2147483648), (-1))), .inr (some ((-2147483648), (2147483647))), .inr (some ((-2147483648), (2147483647))), .inr (some ((-2147483648), (2147483647))), .inr (some ((-2147483648), (2147483647)))] 10) = true := by decide +kernel
set_option maxRecDepth 1000000 in
theorem ev_case25 : ev_fine (ev_case [.inr (some ((-2147483648), (2147483647))), .inr (some ((0), (2147483647))), .inr (some ((-2147483648), (2147483647))), .inr (some ((-2147483648), (2147483647))), .inr (some ((-2147483648), (2147483647))), .inr (some ((-2147483648), (2147483647)))] 10) = true := by decide +kernel
set_option maxRecDepth 1000000 in
theorem ev_case26 : ev_fine (ev_case [.inr (some ((-2147483648), (2147483647))), .inr (some ((-2147483648), (-1))), .inr (some ((-2147483648), (2147483647))), .inr (some ((-2147483648), (2147483647))), .inr (some ((-2147483648), (2147483647))), .inr (some ((-2147483648), (2147483647)))] 11) = true := by decide +kernel
set_option maxRecDepth 1000000 in
theorem ev_case27 : ev_fine (ev_case [.inr (some ((-2147483648), (2147483647))), .inr (some ((0), (2147483647))), .inr (some ((-2147483648), (2147483647))), .inr (some ((-2147483648), (2147483647))), .inr (some ((-2147483648), (2147483647))), .inr (some ((-2147483648), (2147483647)))] 11) = true := by decide +kernel
set_option maxRecDepth 1000000 in
theorem ev_case28 : ev_fine (ev_case [.inr (some ((-2147483648), (2147483647))), .inr (some ((-2147483648), (-1))), .inr (some ((-2147483648), (2147483647))), .inr (some ((-2147483648), (2147483647))), .inr (some ((-2147483648), (2147483647))), .inr (some ((-2147483648), (2147483647)))] 12) = true := by decide +kernel
set_option maxRecDepth 1000000 in
theorem ev_case29 : ev_fine (ev_case [.inr (some ((-2147483648), (2147483647))), .inr (some ((0), (2147483647))), .inr (some ((-2147483648), (2147483647))), .inr (some ((-2147483648), (2147483647))), .inr (some ((-2147483648), (2147483647))), .inr (some ((-2147483648), (2147483647)))] 12) = true := by decide +kernel
set_option maxRecDepth 1000000 in
theorem ev_case30 : ev_fine (ev_case [.inr (some ((-2147483648), (2147483647))), .inr (some ((-2147483648), (-1))), .inr (some ((-2147483648), (2147483647))), .inr (some ((-2147483648), (2147483647))), .inr (some ((-2147483648), (2147483647))), .inr (some ((-2147483648), (2147483647)))] 13) = true := by decide +kernel
set_option maxRecDepth 1000000 in
theorem ev_case31 : ev_fine (ev_case [.inr (some ((-2147483648), (2147483647))), .inr (some ((0), (3))), .inr (some ((-2147483648), (2147483647))), .inr (some ((-2147483648), (2147483647))), .inr (some ((-2147483648), (2147483647))), .inr (some ((-2147483648), (2147483647)))] 13) = true := by decide +kernel
set_option maxRecDepth 1000000 in
theorem ev_case32 : ev_fine (ev_case [.inr (some ((-2147483648), (2147483647))), .inr (some ((4), (2147483647))), .inr (some ((-2147483648), (2147483647))), .inr (some ((-2147483648), (2147483647))), .inr (some ((-2147483648), (2147483647))), .inr (some ((-2147483648), (2147483647)))] 13) = true := by decide +kernel
set_option maxRecDepth 1000000 in
theorem ev_case33 : ev_fine (ev_case [.inr (some ((-2147483648), (2147483647))), .inr (some ((-2147483648), (-1))), .inr (some ((-2147483648), (2147483647))), .inr (some ((-2147483648), (2147483647))), .inr (some ((-2147483648), (2147483647))), .inr (some ((-2147483648), (2147483647)))] 14) = true := by decide +kernel
set_option maxRecDepth 1000000 in
theorem ev_case34 : ev_fine (ev_case [.inr (some ((-2147483648), (2147483647))), .inr (some ((0), (1))), .inr (some ((-2147483648), (2147483647))), .inr (some ((-2147483648), (2147483647))), .inr (some ((-2147483648), (2147483647))), .inr (some ((-2147483648), (2147483647)))] 14) = true := by decide +kernel
set_option maxRecDepth 1000000 in
theorem ev_case35 : ev_fine (ev_case [.inr (some ((-2147483648), (2147483647))), .inl (.int 2), .inr (some ((-2147483648), (2147483647))), .inr (some ((-2147483648), (2147483647))), .inr (some ((-2147483648), (2147483647))), .inr (some ((-2147483648), (2147483647)))] 14) = true := by decide +kernel
set_option maxRecDepth 1000000 in
theorem ev_case36 : ev_fine (ev_case [.inr (some ((-2147483648), (2147483647))), .inr (some ((3), (2147483647))), .inr (some ((-2147483648), (2147483647))), .inr (some ((-2147483648), (2147483647))), .inr (some ((-2147483648), (2147483647))), .inr (some ((-2147483648), (2147483647)))] 14) = true := by decide +kernel
set_option maxRecDepth 1000000 in
theorem ev_case37 : ev_fine (ev_case [.inr (some ((-2147483648), (2147483647))), .inr (some ((-2147483648), (2147483647))), .inr (some ((-2147483648), (2147483647))), .inr (some ((-2147483648), (2147483647))), .inr (some ((-2147483648), (2147483647))), .inr (some ((-2147483648), (2147483647)))] 15) = true := by decide +kernel
