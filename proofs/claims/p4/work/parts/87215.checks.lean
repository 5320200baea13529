/-! the longest method, piece by piece -/
set_option maxRecDepth 20000 in
theorem zk_158_285 : zckR 158 285 95 = true := by decide +kernel
set_option maxRecDepth 20000 in
theorem zk_158_380 : zckR 158 380 95 = true := by decide +kernel
set_option maxRecDepth 20000 in
theorem zk_158_475 : zckD 158 475 = true := by decide +kernel
theorem zk_158 : zck 158 = true := zck_cut (zckD_cut (n := 95) zk_158_0 (zckD_cut (n := 95) zk_158_95 (zckD_cut (n := 95) zk_158_190 (zckD_cut (n := 95) zk_158_285 (zckD_cut (n := 95) zk_158_380 (zk_158_475))))))
