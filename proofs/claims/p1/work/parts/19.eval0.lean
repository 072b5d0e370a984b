/-! RUNS OF THE LAW, by the kernel: the script too short; then bytes (0), clear, judge, events (1); event, character, cost, count (2) -/
noncomputable def am_chk1 (xs : aX) (n : Nat) : Bool := match am_run xs n 30 am_m184 0 [(0, .ref 2000000)] [] [] with
  | some (.inl (some v), _, k, j) => decide (v = .int 1) && Nat.ble k 600002 && Nat.ble j 7302232
  | _ => false
def am_x_L0 : aX := ([], [], [])
set_option maxRecDepth 1000000 in
theorem am_t_L0 : am_chk1 am_x_L0 4000 = true := by decide +kernel
def am_x_L1 : aX := ([.float 0], [], [])
set_option maxRecDepth 1000000 in
theorem am_t_L1 : am_chk1 am_x_L1 4000 = true := by decide +kernel
def am_x_L2 : aX := ([.float 0, .float 1], [], [])
set_option maxRecDepth 1000000 in
theorem am_t_L2 : am_chk1 am_x_L2 4000 = true := by decide +kernel
def am_x_L3 : aX := ([.float 0, .float 1, .float 2], [], [])
set_option maxRecDepth 1000000 in
theorem am_t_L3 : am_chk1 am_x_L3 4000 = true := by decide +kernel
