/-! the printed program is the code's own: each method, checked by the kernel -/
set_option maxRecDepth 20000 in
theorem zk_183 : zck 183 = true := by decide +kernel
set_option maxRecDepth 20000 in
theorem zk_184 : zck 184 = true := by decide +kernel
set_option maxRecDepth 20000 in
theorem zk_185 : zck 185 = true := by decide +kernel
set_option maxRecDepth 20000 in
theorem zk_186 : zck 186 = true := by decide +kernel
set_option maxRecDepth 20000 in
theorem zk_187 : zck 187 = true := by decide +kernel
set_option maxRecDepth 20000 in
theorem zk_188 : zck 188 = true := by decide +kernel
set_option maxRecDepth 20000 in
theorem zk_189 : zck 189 = true := by decide +kernel
set_option maxRecDepth 20000 in
theorem zk_190 : zck 190 = true := by decide +kernel
set_option maxRecDepth 20000 in
theorem zk_191 : zck 191 = true := by decide +kernel
set_option maxRecDepth 20000 in
theorem zk_192 : zck 192 = true := by decide +kernel
set_option maxRecDepth 20000 in
theorem zk_193 : zck 193 = true := by decide +kernel
set_option maxRecDepth 20000 in
theorem zk_194 : zck 194 = true := by decide +kernel
set_option maxRecDepth 20000 in
theorem zk_195 : zck 195 = true := by decide +kernel
set_option maxRecDepth 20000 in
theorem zk_196 : zck 196 = true := by decide +kernel
set_option maxRecDepth 20000 in
theorem zk_197 : zck 197 = true := by decide +kernel
set_option maxRecDepth 20000 in
theorem zk_198 : zck 198 = true := by decide +kernel
set_option maxRecDepth 20000 in
theorem zk_199 : zck 199 = true := by decide +kernel
set_option maxRecDepth 20000 in
theorem zk_200 : zck 200 = true := by decide +kernel
set_option maxRecDepth 20000 in
theorem zk_201 : zck 201 = true := by decide +kernel
set_option maxRecDepth 20000 in
theorem zk_202 : zck 202 = true := by decide +kernel
set_option maxRecDepth 20000 in
theorem zk_203 : zck 203 = true := by decide +kernel
set_option maxRecDepth 20000 in
theorem zk_204 : zck 204 = true := by decide +kernel
set_option maxRecDepth 20000 in
theorem zk_205 : zck 205 = true := by decide +kernel
set_option maxRecDepth 20000 in
theorem zk_206 : zck 206 = true := by decide +kernel
