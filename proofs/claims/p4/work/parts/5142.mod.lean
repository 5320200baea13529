/-! printed by wip/p2: contracts of the model's methods, checked by their abstract runs -/
set_option maxRecDepth 100000 in
theorem zub_248_117 : zchB (zctE (zctE zu_248 1 8 8) 2 7 7) zun_248_117 [zu_233, zu_234, zu_247_8_7] 100000 = true := by decide +kernel
set_option maxRecDepth 100000 in
theorem zup_248_117 : zchP (zctE (zctE zu_248 1 8 8) 2 7 7) zun_248_117 [zu_233, zu_234, zu_247_8_7] 100000 zun_248_117 = true := by decide +kernel
set_option maxRecDepth 100000 in
theorem zub_248_118 : zchB (zctE (zctE zu_248 1 8 8) 2 8 8) [] [] 100000 = true := by decide +kernel
set_option maxRecDepth 100000 in
theorem zub_248_119 : zchB (zctE (zctE zu_248 1 8 8) 2 9 2147483647) [] [] 100000 = true := by decide +kernel
set_option maxRecDepth 100000 in
theorem zub_248_120 : zchB (zctE (zctE zu_248 1 9 2147483647) 2 (-2147483648) (-2)) [] [] 100000 = true := by decide +kernel
set_option maxRecDepth 100000 in
theorem zub_248_121 : zchB (zctE (zctE zu_248 1 9 2147483647) 2 (-1) (-1)) [] [] 100000 = true := by decide +kernel
set_option maxRecDepth 100000 in
theorem zub_248_122 : zchB (zctE (zctE zu_248 1 9 2147483647) 2 0 0) [] [] 100000 = true := by decide +kernel
set_option maxRecDepth 100000 in
theorem zub_248_123 : zchB (zctE (zctE zu_248 1 9 2147483647) 2 1 1) [] [] 100000 = true := by decide +kernel
