/-! printed by wip/p2: contracts of the model's methods, checked by their abstract runs -/
set_option maxRecDepth 100000 in
theorem zup_227_b_6 : zchP zu_227_b zun_227_b [zu_223, zu_224, zu_226] 100000 [zun_227_b_6] = true := by decide +kernel
set_option maxRecDepth 100000 in
theorem zup_227_b_7 : zchP zu_227_b zun_227_b [zu_223, zu_224, zu_226] 100000 [zun_227_b_7] = true := by decide +kernel
set_option maxRecDepth 100000 in
theorem zup_227_b_8 : zchP zu_227_b zun_227_b [zu_223, zu_224, zu_226] 100000 [zun_227_b_8] = true := by decide +kernel
set_option maxRecDepth 100000 in
theorem zup_227_b_9 : zchP zu_227_b zun_227_b [zu_223, zu_224, zu_226] 100000 [zun_227_b_9] = true := by decide +kernel
set_option maxRecDepth 100000 in
theorem zup_227_b_10 : zchP zu_227_b zun_227_b [zu_223, zu_224, zu_226] 100000 [zun_227_b_10] = true := by decide +kernel
set_option maxRecDepth 100000 in
theorem zup_227_b_11 : zchP zu_227_b zun_227_b [zu_223, zu_224, zu_226] 100000 [zun_227_b_11] = true := by decide +kernel
set_option maxRecDepth 100000 in
theorem zup_227_b_12 : zchP zu_227_b zun_227_b [zu_223, zu_224, zu_226] 100000 [zun_227_b_12] = true := by decide +kernel
