/-! the printed program is the code's own: each method, checked by the kernel -/
set_option maxRecDepth 20000 in
theorem zk_207 : zck 207 = true := by decide +kernel
set_option maxRecDepth 20000 in
theorem zk_208 : zck 208 = true := by decide +kernel
set_option maxRecDepth 20000 in
theorem zk_209 : zck 209 = true := by decide +kernel
set_option maxRecDepth 20000 in
theorem zk_210 : zck 210 = true := by decide +kernel
set_option maxRecDepth 20000 in
theorem zk_211 : zck 211 = true := by decide +kernel
set_option maxRecDepth 20000 in
theorem zk_212 : zck 212 = true := by decide +kernel
set_option maxRecDepth 20000 in
theorem zk_213 : zck 213 = true := by decide +kernel
set_option maxRecDepth 20000 in
theorem zk_214 : zck 214 = true := by decide +kernel
set_option maxRecDepth 20000 in
theorem zk_215 : zck 215 = true := by decide +kernel
set_option maxRecDepth 20000 in
theorem zk_216 : zck 216 = true := by decide +kernel
set_option maxRecDepth 20000 in
theorem zk_217 : zck 217 = true := by decide +kernel
set_option maxRecDepth 20000 in
theorem zk_218 : zck 218 = true := by decide +kernel
set_option maxRecDepth 20000 in
theorem zk_219 : zck 219 = true := by decide +kernel
set_option maxRecDepth 20000 in
theorem zk_220 : zck 220 = true := by decide +kernel
set_option maxRecDepth 20000 in
theorem zk_221 : zck 221 = true := by decide +kernel
set_option maxRecDepth 20000 in
theorem zk_222 : zck 222 = true := by decide +kernel
set_option maxRecDepth 20000 in
theorem zk_223 : zck 223 = true := by decide +kernel
set_option maxRecDepth 20000 in
theorem zk_224 : zck 224 = true := by decide +kernel
set_option maxRecDepth 20000 in
theorem zk_225 : zck 225 = true := by decide +kernel
set_option maxRecDepth 20000 in
theorem zk_226 : zck 226 = true := by decide +kernel
set_option maxRecDepth 20000 in
theorem zk_227 : zck 227 = true := by decide +kernel
set_option maxRecDepth 20000 in
theorem zk_228 : zck 228 = true := by decide +kernel
set_option maxRecDepth 20000 in
theorem zk_229 : zck 229 = true := by decide +kernel
