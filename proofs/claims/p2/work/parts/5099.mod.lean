/-! printed by wip/p2: contracts of the model's methods, checked by their abstract runs -/
set_option maxRecDepth 100000 in
theorem zup_205_b_44 : zchP zu_205_b zun_205_b [zu_202, zu_204] 100000 [zun_205_b_44] = true := by decide +kernel
