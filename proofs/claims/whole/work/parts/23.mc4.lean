set_option maxRecDepth 20000 in
theorem c_220 : kmck mt_220 in_220 1067 157 = true := by decide +kernel
set_option maxRecDepth 20000 in
theorem c_221 : kmck mt_221 in_221 1198 157 = true := by decide +kernel
set_option maxRecDepth 20000 in
theorem c_222 : kmck mt_222 in_222 1217 157 = true := by decide +kernel
set_option maxRecDepth 20000 in
theorem c_223 : kmck mt_223 in_223 1221 157 = true := by decide +kernel
set_option maxRecDepth 20000 in
theorem c_224 : kmck mt_224 in_224 1225 157 = true := by decide +kernel
set_option maxRecDepth 20000 in
theorem c_225 : kmck mt_225 in_225 1543 157 = true := by decide +kernel
set_option maxRecDepth 20000 in
theorem c_226 : kmck mt_226 in_226 1567 157 = true := by decide +kernel
set_option maxRecDepth 20000 in
theorem c_227 : kmck mt_227 in_227 1559 157 = true := by decide +kernel
set_option maxRecDepth 20000 in
theorem c_228 : kmck mt_228 in_228 1555 157 = true := by decide +kernel
set_option maxRecDepth 20000 in
theorem c_229 : kmck mt_229 in_229 1563 157 = true := by decide +kernel
set_option maxRecDepth 20000 in
theorem c_230 : kmck mt_230 in_230 1583 157 = true := by decide +kernel
set_option maxRecDepth 20000 in
theorem c_231 : kmck mt_231 in_231 1579 157 = true := by decide +kernel
set_option maxRecDepth 20000 in
theorem c_232 : kmck mt_232 in_232 1785 157 = true := by decide +kernel
set_option maxRecDepth 20000 in
theorem c_233 : kmck mt_233 in_233 1789 157 = true := by decide +kernel
set_option maxRecDepth 20000 in
theorem c_234 : kmck mt_234 in_234 1793 157 = true := by decide +kernel
set_option maxRecDepth 20000 in
theorem c_235 : kmck mt_235 in_235 1762 157 = true := by decide +kernel
set_option maxRecDepth 20000 in
theorem c_236 : kmck mt_236 in_236 1798 169 = true := by decide +kernel
set_option maxRecDepth 20000 in
theorem c_237 : kmck mt_237 in_237 1802 169 = true := by decide +kernel
set_option maxRecDepth 20000 in
theorem c_238 : kmck mt_238 in_238 1807 169 = true := by decide +kernel
set_option maxRecDepth 20000 in
theorem c_239 : kmck mt_239 in_239 1811 169 = true := by decide +kernel
set_option maxRecDepth 20000 in
theorem c_240 : kmck mt_240 in_240 2246 169 = true := by decide +kernel
set_option maxRecDepth 20000 in
theorem c_241 : kmck mt_241 in_241 2253 169 = true := by decide +kernel
set_option maxRecDepth 20000 in
theorem c_242 : kmck mt_242 in_242 2250 169 = true := by decide +kernel
set_option maxRecDepth 20000 in
theorem c_243 : kmck mt_243 in_243 2258 169 = true := by decide +kernel
set_option maxRecDepth 20000 in
theorem c_244 : kmck mt_244 in_244 2243 169 = true := by decide +kernel
set_option maxRecDepth 20000 in
theorem c_245 : kmck mt_245 in_245 2270 169 = true := by decide +kernel
set_option maxRecDepth 20000 in
theorem c_246 : kmck mt_246 in_246 2306 169 = true := by decide +kernel
set_option maxRecDepth 20000 in
theorem c_247 : kmck mt_247 in_247 2266 169 = true := by decide +kernel
set_option maxRecDepth 20000 in
theorem c_248 : kmck mt_248 in_248 2318 169 = true := by decide +kernel
set_option maxRecDepth 20000 in
theorem c_249 : kmck mt_249 in_249 2314 169 = true := by decide +kernel
set_option maxRecDepth 20000 in
theorem c_250 : kmck mt_250 in_250 2278 169 = true := by decide +kernel
set_option maxRecDepth 20000 in
theorem c_251 : kmck mt_251 in_251 2274 169 = true := by decide +kernel
set_option maxRecDepth 20000 in
theorem c_252 : kmck mt_252 in_252 2173 169 = true := by decide +kernel
set_option maxRecDepth 20000 in
theorem c_253 : kmck mt_253 in_253 2198 169 = true := by decide +kernel
set_option maxRecDepth 20000 in
theorem c_254 : kmck mt_254 in_254 2220 169 = true := by decide +kernel
set_option maxRecDepth 20000 in
theorem c_255 : kmck mt_255 in_255 2188 169 = true := by decide +kernel
set_option maxRecDepth 20000 in
theorem c_256 : kmck mt_256 in_256 2231 169 = true := by decide +kernel
set_option maxRecDepth 20000 in
theorem c_257 : kmck mt_257 in_257 2185 169 = true := by decide +kernel
set_option maxRecDepth 20000 in
theorem c_258 : kmck mt_258 in_258 2191 169 = true := by decide +kernel
set_option maxRecDepth 20000 in
theorem c_259 : kmck mt_259 in_259 2181 169 = true := by decide +kernel
set_option maxRecDepth 20000 in
theorem c_260 : kmck mt_260 in_260 2206 169 = true := by decide +kernel
set_option maxRecDepth 20000 in
theorem c_261 : kmck mt_261 in_261 2209 169 = true := by decide +kernel
set_option maxRecDepth 20000 in
theorem c_262 : kmck mt_262 in_262 2170 169 = true := by decide +kernel
set_option maxRecDepth 20000 in
theorem c_263 : kmck mt_263 in_263 2177 169 = true := by decide +kernel
set_option maxRecDepth 20000 in
theorem c_264 : kmck mt_264 in_264 2195 169 = true := by decide +kernel
set_option maxRecDepth 20000 in
theorem c_265 : kmck mt_265 in_265 2202 169 = true := by decide +kernel
set_option maxRecDepth 20000 in
theorem c_266 : kmck mt_266 in_266 2213 169 = true := by decide +kernel
set_option maxRecDepth 20000 in
theorem c_267 : kmck mt_267 in_267 2217 169 = true := by decide +kernel
set_option maxRecDepth 20000 in
theorem c_268 : kmck mt_268 in_268 2224 169 = true := by decide +kernel
set_option maxRecDepth 20000 in
theorem c_269 : kmck mt_269 in_269 2369 169 = true := by decide +kernel
set_option maxRecDepth 20000 in
theorem c_270 : kmck mt_270 in_270 2228 169 = true := by decide +kernel
set_option maxRecDepth 20000 in
theorem c_271 : kmck mt_271 in_271 2235 169 = true := by decide +kernel
set_option maxRecDepth 20000 in
theorem c_272 : kmck mt_272 in_272 2338 169 = true := by decide +kernel
set_option maxRecDepth 20000 in
theorem c_273 : kmck mt_273 in_273 2310 169 = true := by decide +kernel
set_option maxRecDepth 20000 in
theorem c_274 : kmck mt_274 in_274 2239 169 = true := by decide +kernel
set_option maxRecDepth 20000 in
theorem c_275 : kmck mt_275 in_275 2326 169 = true := by decide +kernel
set_option maxRecDepth 20000 in
theorem c_276 : kmck mt_276 in_276 2322 169 = true := by decide +kernel
set_option maxRecDepth 20000 in
theorem c_277 : kmck mt_277 in_277 2262 169 = true := by decide +kernel
set_option maxRecDepth 20000 in
theorem c_278 : kmck mt_278 in_278 2282 169 = true := by decide +kernel
set_option maxRecDepth 20000 in
theorem c_279 : kmck mt_279 in_279 2286 169 = true := by decide +kernel
set_option maxRecDepth 20000 in
theorem c_280 : kmck mt_280 in_280 2290 169 = true := by decide +kernel
set_option maxRecDepth 20000 in
theorem c_281 : kmck mt_281 in_281 2294 169 = true := by decide +kernel
set_option maxRecDepth 20000 in
theorem c_282 : kmck mt_282 in_282 2298 169 = true := by decide +kernel
set_option maxRecDepth 20000 in
theorem c_283 : kmck mt_283 in_283 2302 169 = true := by decide +kernel
set_option maxRecDepth 20000 in
theorem c_284 : kmck mt_284 in_284 2385 169 = true := by decide +kernel
set_option maxRecDepth 20000 in
theorem c_285 : kmck mt_285 in_285 2388 169 = true := by decide +kernel
set_option maxRecDepth 20000 in
theorem c_286 : kmck mt_286 in_286 2381 169 = true := by decide +kernel
