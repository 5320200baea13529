/-! the longest method, piece by piece -/
set_option maxRecDepth 20000 in
theorem zk_158_0 : zckR 158 0 95 = true := by decide +kernel
set_option maxRecDepth 20000 in
theorem zk_158_95 : zckR 158 95 95 = true := by decide +kernel
set_option maxRecDepth 20000 in
theorem zk_158_190 : zckR 158 190 95 = true := by decide +kernel
