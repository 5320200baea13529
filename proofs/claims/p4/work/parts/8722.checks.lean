/-! the printed program is the code's own: each method, checked by the kernel -/
set_option maxRecDepth 20000 in
theorem zk_159 : zck 159 = true := by decide +kernel
set_option maxRecDepth 20000 in
theorem zk_160 : zck 160 = true := by decide +kernel
set_option maxRecDepth 20000 in
theorem zk_161 : zck 161 = true := by decide +kernel
set_option maxRecDepth 20000 in
theorem zk_162 : zck 162 = true := by decide +kernel
set_option maxRecDepth 20000 in
theorem zk_163 : zck 163 = true := by decide +kernel
set_option maxRecDepth 20000 in
theorem zk_164 : zck 164 = true := by decide +kernel
set_option maxRecDepth 20000 in
theorem zk_165 : zck 165 = true := by decide +kernel
set_option maxRecDepth 20000 in
theorem zk_166 : zck 166 = true := by decide +kernel
set_option maxRecDepth 20000 in
theorem zk_167 : zck 167 = true := by decide +kernel
set_option maxRecDepth 20000 in
theorem zk_168 : zck 168 = true := by decide +kernel
set_option maxRecDepth 20000 in
theorem zk_169 : zck 169 = true := by decide +kernel
set_option maxRecDepth 20000 in
theorem zk_170 : zck 170 = true := by decide +kernel
set_option maxRecDepth 20000 in
theorem zk_171 : zck 171 = true := by decide +kernel
set_option maxRecDepth 20000 in
theorem zk_172 : zck 172 = true := by decide +kernel
set_option maxRecDepth 20000 in
theorem zk_173 : zck 173 = true := by decide +kernel
set_option maxRecDepth 20000 in
theorem zk_174 : zck 174 = true := by decide +kernel
set_option maxRecDepth 20000 in
theorem zk_175 : zck 175 = true := by decide +kernel
set_option maxRecDepth 20000 in
theorem zk_176 : zck 176 = true := by decide +kernel
set_option maxRecDepth 20000 in
theorem zk_177 : zck 177 = true := by decide +kernel
set_option maxRecDepth 20000 in
theorem zk_178 : zck 178 = true := by decide +kernel
set_option maxRecDepth 20000 in
theorem zk_179 : zck 179 = true := by decide +kernel
set_option maxRecDepth 20000 in
theorem zk_180 : zck 180 = true := by decide +kernel
set_option maxRecDepth 20000 in
theorem zk_181 : zck 181 = true := by decide +kernel
set_option maxRecDepth 20000 in
theorem zk_182 : zck 182 = true := by decide +kernel
