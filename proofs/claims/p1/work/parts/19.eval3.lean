/-! runs: character, cost, count -/
def am_x_clo : aX := ([.float 0, .float 1, .float 2, .float 3], [(.iand, .int 7, .float 0, .int 5)], [(.lt, .float 1, .int 0, true)])
set_option maxRecDepth 1000000 in
theorem am_t_clo : am_chk1 am_x_clo 4000 = true := by decide +kernel
def am_x_chi : aX := ([.float 0, .float 1, .float 2, .float 3], [(.iand, .int 7, .float 0, .int 5)], [(.lt, .float 1, .int 0, false), (.ge, .float 1, .int 0, true)])
set_option maxRecDepth 1000000 in
theorem am_t_chi : am_chk1 am_x_chi 4000 = true := by decide +kernel
def am_x_cost : aX := ([.float 0, .float 1, .float 2, .float 3], [(.iand, .int 7, .float 0, .int 6)], [])
set_option maxRecDepth 1000000 in
theorem am_t_cost : am_chk1 am_x_cost 4000 = true := by decide +kernel
def am_x_n0 : aX := ([.float 0, .int 0, .float 2, .float 3], [(.iand, .int 7, .float 0, .int 7)], [])
set_option maxRecDepth 1000000 in
theorem am_t_n0 : am_chk1 am_x_n0 4000 = true := by decide +kernel
def am_x_n1 : aX := ([.float 0, .int 1, .float 2, .float 3], [(.iand, .int 7, .float 0, .int 7)], [])
set_option maxRecDepth 1000000 in
theorem am_t_n1 : am_chk1 am_x_n1 4000 = true := by decide +kernel
def am_x_n2 : aX := ([.float 0, .int 2, .float 2, .float 3], [(.iand, .int 7, .float 0, .int 7)], [])
set_option maxRecDepth 1000000 in
theorem am_t_n2 : am_chk1 am_x_n2 4000 = true := by decide +kernel
def am_x_nlo : aX := ([.float 0, .float 1, .float 2, .float 3], [(.iand, .int 7, .float 0, .int 7)], [(.lt, .float 1, .int 0, true)])
set_option maxRecDepth 1000000 in
theorem am_t_nlo : am_chk1 am_x_nlo 4000 = true := by decide +kernel
def am_x_nhi : aX := ([.float 0, .float 1, .float 2, .float 3], [(.iand, .int 7, .float 0, .int 7)], [(.lt, .float 1, .int 0, false), (.gt, .float 1, .int 2, true), (.ge, .float 1, .int 3, true)])
set_option maxRecDepth 1000000 in
theorem am_t_nhi : am_chk1 am_x_nhi 4000 = true := by decide +kernel
