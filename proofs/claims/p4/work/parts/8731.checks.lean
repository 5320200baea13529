/-! the printed program is the code's own: each method, checked by the kernel -/
set_option maxRecDepth 20000 in
theorem zk_230 : zck 230 = true := by decide +kernel
set_option maxRecDepth 20000 in
theorem zk_231 : zck 231 = true := by decide +kernel
set_option maxRecDepth 20000 in
theorem zk_232 : zck 232 = true := by decide +kernel
set_option maxRecDepth 20000 in
theorem zk_233 : zck 233 = true := by decide +kernel
set_option maxRecDepth 20000 in
theorem zk_234 : zck 234 = true := by decide +kernel
set_option maxRecDepth 20000 in
theorem zk_235 : zck 235 = true := by decide +kernel
set_option maxRecDepth 20000 in
theorem zk_236 : zck 236 = true := by decide +kernel
set_option maxRecDepth 20000 in
theorem zk_237 : zck 237 = true := by decide +kernel
set_option maxRecDepth 20000 in
theorem zk_238 : zck 238 = true := by decide +kernel
set_option maxRecDepth 20000 in
theorem zk_239 : zck 239 = true := by decide +kernel
set_option maxRecDepth 20000 in
theorem zk_240 : zck 240 = true := by decide +kernel
set_option maxRecDepth 20000 in
theorem zk_241 : zck 241 = true := by decide +kernel
set_option maxRecDepth 20000 in
theorem zk_242 : zck 242 = true := by decide +kernel
set_option maxRecDepth 20000 in
theorem zk_243 : zck 243 = true := by decide +kernel
set_option maxRecDepth 20000 in
theorem zk_244 : zck 244 = true := by decide +kernel
set_option maxRecDepth 20000 in
theorem zk_245 : zck 245 = true := by decide +kernel
set_option maxRecDepth 20000 in
theorem zk_246 : zck 246 = true := by decide +kernel
set_option maxRecDepth 20000 in
theorem zk_247 : zck 247 = true := by decide +kernel
set_option maxRecDepth 20000 in
theorem zk_248 : zck 248 = true := by decide +kernel
set_option maxRecDepth 20000 in
theorem zk_249 : zck 249 = true := by decide +kernel
set_option maxRecDepth 20000 in
theorem zk_250 : zck 250 = true := by decide +kernel
set_option maxRecDepth 20000 in
theorem zk_251 : zck 251 = true := by decide +kernel
set_option maxRecDepth 20000 in
theorem zk_252 : zck 252 = true := by decide +kernel
