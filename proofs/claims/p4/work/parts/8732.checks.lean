/-! the printed program is the code's own: each method, checked by the kernel -/
set_option maxRecDepth 20000 in
theorem zk_253 : zck 253 = true := by decide +kernel
set_option maxRecDepth 20000 in
theorem zk_254 : zck 254 = true := by decide +kernel
set_option maxRecDepth 20000 in
theorem zk_255 : zck 255 = true := by decide +kernel
set_option maxRecDepth 20000 in
theorem zk_256 : zck 256 = true := by decide +kernel
set_option maxRecDepth 20000 in
theorem zk_257 : zck 257 = true := by decide +kernel
set_option maxRecDepth 20000 in
theorem zk_258 : zck 258 = true := by decide +kernel
set_option maxRecDepth 20000 in
theorem zk_259 : zck 259 = true := by decide +kernel
set_option maxRecDepth 20000 in
theorem zk_260 : zck 260 = true := by decide +kernel
set_option maxRecDepth 20000 in
theorem zk_261 : zck 261 = true := by decide +kernel
set_option maxRecDepth 20000 in
theorem zk_262 : zck 262 = true := by decide +kernel
set_option maxRecDepth 20000 in
theorem zk_263 : zck 263 = true := by decide +kernel
set_option maxRecDepth 20000 in
theorem zk_264 : zck 264 = true := by decide +kernel
set_option maxRecDepth 20000 in
theorem zk_265 : zck 265 = true := by decide +kernel
set_option maxRecDepth 20000 in
theorem zk_266 : zck 266 = true := by decide +kernel
set_option maxRecDepth 20000 in
theorem zk_267 : zck 267 = true := by decide +kernel
set_option maxRecDepth 20000 in
theorem zk_268 : zck 268 = true := by decide +kernel
set_option maxRecDepth 20000 in
theorem zk_269 : zck 269 = true := by decide +kernel
set_option maxRecDepth 20000 in
theorem zk_270 : zck 270 = true := by decide +kernel
set_option maxRecDepth 20000 in
theorem zk_271 : zck 271 = true := by decide +kernel
set_option maxRecDepth 20000 in
theorem zk_272 : zck 272 = true := by decide +kernel
set_option maxRecDepth 20000 in
theorem zk_273 : zck 273 = true := by decide +kernel
set_option maxRecDepth 20000 in
theorem zk_274 : zck 274 = true := by decide +kernel
set_option maxRecDepth 20000 in
theorem zk_275 : zck 275 = true := by decide +kernel
