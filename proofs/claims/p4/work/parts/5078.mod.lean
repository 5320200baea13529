/-! printed by wip/p2: contracts of the model's methods, checked by their abstract runs -/
set_option maxRecDepth 100000 in
theorem zup_227_b_13 : zchP zu_227_b zun_227_b [zu_223, zu_224, zu_226] 100000 [zun_227_b_13] = true := by decide +kernel
set_option maxRecDepth 100000 in
theorem zup_227_b_14 : zchP zu_227_b zun_227_b [zu_223, zu_224, zu_226] 100000 [zun_227_b_14] = true := by decide +kernel
set_option maxRecDepth 100000 in
theorem zup_227_b_15 : zchP zu_227_b zun_227_b [zu_223, zu_224, zu_226] 100000 [zun_227_b_15] = true := by decide +kernel
set_option maxRecDepth 100000 in
theorem zup_227_b_16 : zchP zu_227_b zun_227_b [zu_223, zu_224, zu_226] 100000 [zun_227_b_16] = true := by decide +kernel
set_option maxRecDepth 100000 in
theorem zup_227_b_17 : zchP zu_227_b zun_227_b [zu_223, zu_224, zu_226] 100000 [zun_227_b_17] = true := by decide +kernel
set_option maxRecDepth 100000 in
theorem zup_227_b_18 : zchP zu_227_b zun_227_b [zu_223, zu_224, zu_226] 100000 [zun_227_b_18] = true := by decide +kernel
set_option maxRecDepth 100000 in
theorem zup_227_b_19 : zchP zu_227_b zun_227_b [zu_223, zu_224, zu_226] 100000 [zun_227_b_19] = true := by decide +kernel
