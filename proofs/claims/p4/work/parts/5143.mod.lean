/-! printed by wip/p2: contracts of the model's methods, checked by their abstract runs -/
set_option maxRecDepth 100000 in
theorem zub_248_124 : zchB (zctE (zctE zu_248 1 9 2147483647) 2 2 2) [] [] 100000 = true := by decide +kernel
set_option maxRecDepth 100000 in
theorem zub_248_125 : zchB (zctE (zctE zu_248 1 9 2147483647) 2 3 3) [] [] 100000 = true := by decide +kernel
set_option maxRecDepth 100000 in
theorem zub_248_126 : zchB (zctE (zctE zu_248 1 9 2147483647) 2 4 4) [] [] 100000 = true := by decide +kernel
set_option maxRecDepth 100000 in
theorem zub_248_127 : zchB (zctE (zctE zu_248 1 9 2147483647) 2 5 5) [] [] 100000 = true := by decide +kernel
set_option maxRecDepth 100000 in
theorem zub_248_128 : zchB (zctE (zctE zu_248 1 9 2147483647) 2 6 6) [] [] 100000 = true := by decide +kernel
set_option maxRecDepth 100000 in
theorem zub_248_129 : zchB (zctE (zctE zu_248 1 9 2147483647) 2 7 7) [] [] 100000 = true := by decide +kernel
set_option maxRecDepth 100000 in
theorem zub_248_130 : zchB (zctE (zctE zu_248 1 9 2147483647) 2 8 8) [] [] 100000 = true := by decide +kernel
set_option maxRecDepth 100000 in
theorem zub_248_131 : zchB (zctE (zctE zu_248 1 9 2147483647) 2 9 2147483647) [] [] 100000 = true := by decide +kernel
