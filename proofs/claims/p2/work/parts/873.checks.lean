/-! the printed program is the code's own: each method, checked by the kernel -/
set_option maxRecDepth 20000 in
theorem zk_207 : zck 207 = true := by decide +kernel
set_option maxRecDepth 20000 in
theorem zk_208 : zck 208 = true := by decide +kernel
set_option maxRecDepth 20000 in
theorem zk_209 : zck 209 = true := by decide +kernel
set_option maxRecDepth 20000 in
theorem zk_210 : zck 210 = true := by decide +kernel
set_option maxRecDepth 20000 in
theorem zk_211 : zck 211 = true := by decide +kernel
set_option maxRecDepth 20000 in
theorem zk_212 : zck 212 = true := by decide +kernel
set_option maxRecDepth 20000 in
theorem zk_213 : zck 213 = true := by decide +kernel
set_option maxRecDepth 20000 in
theorem zk_214 : zck 214 = true := by decide +kernel
set_option maxRecDepth 20000 in
theorem zk_215 : zck 215 = true := by decide +kernel
set_option maxRecDepth 20000 in
theorem zk_216 : zck 216 = true := by decide +kernel
set_option maxRecDepth 20000 in
theorem zk_217 : zck 217 = true := by decide +kernel
set_option maxRecDepth 20000 in
theorem zk_218 : zck 218 = true := by decide +kernel
set_option maxRecDepth 20000 in
theorem zk_219 : zck 219 = true := by decide +kernel
set_option maxRecDepth 20000 in
theorem zk_220 : zck 220 = true := by decide +kernel
set_option maxRecDepth 20000 in
theorem zk_221 : zck 221 = true := by decide +kernel
set_option maxRecDepth 20000 in
theorem zk_222 : zck 222 = true := by decide +kernel
set_option maxRecDepth 20000 in
theorem zk_223 : zck 223 = true := by decide +kernel
set_option maxRecDepth 20000 in
theorem zk_224 : zck 224 = true := by decide +kernel
set_option maxRecDepth 20000 in
theorem zk_225 : zck 225 = true := by decide +kernel
set_option maxRecDepth 20000 in
theorem zk_226 : zck 226 = true := by decide +kernel
set_option maxRecDepth 20000 in
theorem zk_227 : zck 227 = true := by decide +kernel
set_option maxRecDepth 20000 in
theorem zk_228 : zck 228 = true := by decide +kernel
set_option maxRecDepth 20000 in
theorem zk_229 : zck 229 = true := by decide +kernel
set_option maxRecDepth 20000 in
theorem zk_230 : zck 230 = true := by decide +kernel
set_option maxRecDepth 20000 in
theorem zk_231 : zck 231 = true := by decide +kernel
set_option maxRecDepth 20000 in
theorem zk_232 : zck 232 = true := by decide +kernel
set_option maxRecDepth 20000 in
theorem zk_233 : zck 233 = true := by decide +kernel
set_option maxRecDepth 20000 in
theorem zk_234 : zck 234 = true := by decide +kernel
set_option maxRecDepth 20000 in
theorem zk_235 : zck 235 = true := by decide +kernel
set_option maxRecDepth 20000 in
theorem zk_236 : zck 236 = true := by decide +kernel
set_option maxRecDepth 20000 in
theorem zk_237 : zck 237 = true := by decide +kernel
set_option maxRecDepth 20000 in
theorem zk_238 : zck 238 = true := by decide +kernel
set_option maxRecDepth 20000 in
theorem zk_239 : zck 239 = true := by decide +kernel
set_option maxRecDepth 20000 in
theorem zk_240 : zck 240 = true := by decide +kernel
set_option maxRecDepth 20000 in
theorem zk_241 : zck 241 = true := by decide +kernel
set_option maxRecDepth 20000 in
theorem zk_242 : zck 242 = true := by decide +kernel
set_option maxRecDepth 20000 in
theorem zk_243 : zck 243 = true := by decide +kernel
set_option maxRecDepth 20000 in
theorem zk_244 : zck 244 = true := by decide +kernel
set_option maxRecDepth 20000 in
theorem zk_245 : zck 245 = true := by decide +kernel
set_option maxRecDepth 20000 in
theorem zk_246 : zck 246 = true := by decide +kernel
set_option maxRecDepth 20000 in
theorem zk_247 : zck 247 = true := by decide +kernel
set_option maxRecDepth 20000 in
theorem zk_248 : zck 248 = true := by decide +kernel
set_option maxRecDepth 20000 in
theorem zk_249 : zck 249 = true := by decide +kernel
set_option maxRecDepth 20000 in
theorem zk_250 : zck 250 = true := by decide +kernel
set_option maxRecDepth 20000 in
theorem zk_251 : zck 251 = true := by decide +kernel
set_option maxRecDepth 20000 in
theorem zk_252 : zck 252 = true := by decide +kernel
set_option maxRecDepth 20000 in
theorem zk_253 : zck 253 = true := by decide +kernel
set_option maxRecDepth 20000 in
theorem zk_254 : zck 254 = true := by decide +kernel
set_option maxRecDepth 20000 in
theorem zk_255 : zck 255 = true := by decide +kernel
set_option maxRecDepth 20000 in
theorem zk_256 : zck 256 = true := by decide +kernel
set_option maxRecDepth 20000 in
theorem zk_257 : zck 257 = true := by decide +kernel
set_option maxRecDepth 20000 in
theorem zk_258 : zck 258 = true := by decide +kernel
set_option maxRecDepth 20000 in
theorem zk_259 : zck 259 = true := by decide +kernel
set_option maxRecDepth 20000 in
theorem zk_260 : zck 260 = true := by decide +kernel
set_option maxRecDepth 20000 in
theorem zk_261 : zck 261 = true := by decide +kernel
set_option maxRecDepth 20000 in
theorem zk_262 : zck 262 = true := by decide +kernel
set_option maxRecDepth 20000 in
theorem zk_263 : zck 263 = true := by decide +kernel
set_option maxRecDepth 20000 in
theorem zk_264 : zck 264 = true := by decide +kernel
set_option maxRecDepth 20000 in
theorem zk_265 : zck 265 = true := by decide +kernel
set_option maxRecDepth 20000 in
theorem zk_266 : zck 266 = true := by decide +kernel
set_option maxRecDepth 20000 in
theorem zk_267 : zck 267 = true := by decide +kernel
set_option maxRecDepth 20000 in
theorem zk_268 : zck 268 = true := by decide +kernel
set_option maxRecDepth 20000 in
theorem zk_269 : zck 269 = true := by decide +kernel
set_option maxRecDepth 20000 in
theorem zk_270 : zck 270 = true := by decide +kernel
set_option maxRecDepth 20000 in
theorem zk_271 : zck 271 = true := by decide +kernel
set_option maxRecDepth 20000 in
theorem zk_272 : zck 272 = true := by decide +kernel
set_option maxRecDepth 20000 in
theorem zk_273 : zck 273 = true := by decide +kernel
set_option maxRecDepth 20000 in
theorem zk_274 : zck 274 = true := by decide +kernel
set_option maxRecDepth 20000 in
theorem zk_275 : zck 275 = true := by decide +kernel
