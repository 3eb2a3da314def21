/-! Printed by wip/p1/gen3.py: the loop head, and scripts of fewer than six ints -/
def ev_fine (r : Option ev_R) : Bool :=
  match r with
  | some (.inl (some (.inl (.int x))), _, c, n) => decide (x = 1) && Nat.ble c 601024 && Nat.ble n 7293034
  | _ => false
noncomputable def ev_short (L : Int32) : Option ev_R := ev_loop (some .boolean) ev_r12 ev_fds ev_jk ev_kb [] 7 [] ev_b0 500 (27, ev_L0, [.inl (.int L), .inl (.int 0)], ev_w0, 201, 293034)
def ev_tp : ev_V := .inr (some (-2147483648, 2147483647))
set_option maxRecDepth 1000000 in
theorem ev_short0 : ev_fine (ev_short 0) = true := by decide +kernel
set_option maxRecDepth 1000000 in
theorem ev_short1 : ev_fine (ev_short 1) = true := by decide +kernel
set_option maxRecDepth 1000000 in
theorem ev_short2 : ev_fine (ev_short 2) = true := by decide +kernel
set_option maxRecDepth 1000000 in
theorem ev_short3 : ev_fine (ev_short 3) = true := by decide +kernel
set_option maxRecDepth 1000000 in
theorem ev_short4 : ev_fine (ev_short 4) = true := by decide +kernel
set_option maxRecDepth 1000000 in
theorem ev_short5 : ev_fine (ev_short 5) = true := by decide +kernel
set_option maxRecDepth 1000000 in
theorem ev_t23 : ev_to ev_r12 ev_fds ev_jk ev_kb [] 7 [] ev_b0 23 100 (0, ev_ent 0 [.inl (.retAddr 2000)], [], [], 0, 0) = some (23, ev_L0, [], ev_w0, 201, 293034) := ev_eqF_ok (by decide +kernel)
