/-! runs: clear, judge, events -/
def am_x_clear : aX := ([.float 0, .float 1, .float 2, .float 3], [(.iand, .int 7, .float 0, .int 1)], [])
set_option maxRecDepth 1000000 in
theorem am_t_clear : am_chk1 am_x_clear 4000 = true := by decide +kernel
def am_x_jlo : aX := ([.float 0, .float 1, .float 2, .float 3], [(.iand, .int 7, .float 0, .int 2)], [(.lt, .float 1, .int 0, true)])
set_option maxRecDepth 1000000 in
theorem am_t_jlo : am_chk1 am_x_jlo 4000 = true := by decide +kernel
def am_x_jhi : aX := ([.float 0, .float 1, .float 2, .float 3], [(.iand, .int 7, .float 0, .int 2)], [(.lt, .float 1, .int 0, false), (.le, .float 1, .int 2000, false)])
set_option maxRecDepth 1000000 in
theorem am_t_jhi : am_chk1 am_x_jhi 4000 = true := by decide +kernel
def am_x_jok : aX := ([.float 0, .float 1, .float 2, .float 3], [(.iand, .int 7, .float 0, .int 2)], [(.lt, .float 1, .int 0, false), (.le, .float 1, .int 2000, true)])
set_option maxRecDepth 1000000 in
theorem am_t_jok : am_chk1 am_x_jok 4000 = true := by decide +kernel
def am_x_events : aX := ([.float 0, .float 1, .float 2, .float 3], [(.iand, .int 7, .float 0, .int 3)], [])
set_option maxRecDepth 1000000 in
theorem am_t_events : am_chk1 am_x_events 4000 = true := by decide +kernel
def am_x_elo : aX := ([.float 0, .float 1, .float 2, .float 3], [(.iand, .int 7, .float 0, .int 4)], [(.lt, .float 1, .int 0, true)])
set_option maxRecDepth 1000000 in
theorem am_t_elo : am_chk1 am_x_elo 4000 = true := by decide +kernel
def am_x_ehi : aX := ([.float 0, .float 1, .float 2, .float 3], [(.iand, .int 7, .float 0, .int 4)], [(.lt, .float 1, .int 0, false), (.ge, .float 1, .int 0, true)])
set_option maxRecDepth 1000000 in
theorem am_t_ehi : am_chk1 am_x_ehi 4000 = true := by decide +kernel
