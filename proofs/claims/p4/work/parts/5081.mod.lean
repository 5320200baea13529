/-! printed by wip/p2: contracts of the model's methods, checked by their abstract runs -/
set_option maxRecDepth 100000 in
theorem zup_227_b_26 : zchP zu_227_b zun_227_b [zu_223, zu_224, zu_226] 100000 [zun_227_b_26] = true := by decide +kernel
set_option maxRecDepth 100000 in
theorem zup_227_b_27 : zchP zu_227_b zun_227_b [zu_223, zu_224, zu_226] 100000 [zun_227_b_27] = true := by decide +kernel
