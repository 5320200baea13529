/-! the printed program is the code's own: each method, checked by the kernel -/
set_option maxRecDepth 20000 in
theorem zk_138 : zck 138 = true := by decide +kernel
set_option maxRecDepth 20000 in
theorem zk_139 : zck 139 = true := by decide +kernel
set_option maxRecDepth 20000 in
theorem zk_140 : zck 140 = true := by decide +kernel
set_option maxRecDepth 20000 in
theorem zk_141 : zck 141 = true := by decide +kernel
set_option maxRecDepth 20000 in
theorem zk_142 : zck 142 = true := by decide +kernel
set_option maxRecDepth 20000 in
theorem zk_143 : zck 143 = true := by decide +kernel
set_option maxRecDepth 20000 in
theorem zk_144 : zck 144 = true := by decide +kernel
set_option maxRecDepth 20000 in
theorem zk_145 : zck 145 = true := by decide +kernel
set_option maxRecDepth 20000 in
theorem zk_146 : zck 146 = true := by decide +kernel
set_option maxRecDepth 20000 in
theorem zk_147 : zck 147 = true := by decide +kernel
set_option maxRecDepth 20000 in
theorem zk_148 : zck 148 = true := by decide +kernel
set_option maxRecDepth 20000 in
theorem zk_149 : zck 149 = true := by decide +kernel
set_option maxRecDepth 20000 in
theorem zk_150 : zck 150 = true := by decide +kernel
set_option maxRecDepth 20000 in
theorem zk_151 : zck 151 = true := by decide +kernel
set_option maxRecDepth 20000 in
theorem zk_152 : zck 152 = true := by decide +kernel
set_option maxRecDepth 20000 in
theorem zk_153 : zck 153 = true := by decide +kernel
set_option maxRecDepth 20000 in
theorem zk_154 : zck 154 = true := by decide +kernel
set_option maxRecDepth 20000 in
theorem zk_155 : zck 155 = true := by decide +kernel
set_option maxRecDepth 20000 in
theorem zk_156 : zck 156 = true := by decide +kernel
set_option maxRecDepth 20000 in
theorem zk_157 : zck 157 = true := by decide +kernel
