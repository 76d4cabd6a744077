theorem c_220 : kmck mt_220 in_220 1067 157 = true := by decide +kernel
set_option maxRecDepth 20000 in
theorem r_220_0 : kmr mt_220 in_220 0 16 = true := by decide +kernel
theorem q_220 : kmr mt_220 in_220 0 (16 * mt_220.2.2.2.length) = true := kmr_as (r_220_0) (by decide +kernel)
theorem c_221 : kmck mt_221 in_221 1198 157 = true := by decide +kernel
set_option maxRecDepth 20000 in
theorem r_221_0 : kmr mt_221 in_221 0 48 = true := by decide +kernel
theorem q_221 : kmr mt_221 in_221 0 (16 * mt_221.2.2.2.length) = true := kmr_as (r_221_0) (by decide +kernel)
theorem c_222 : kmck mt_222 in_222 1217 157 = true := by decide +kernel
set_option maxRecDepth 20000 in
theorem r_222_0 : kmr mt_222 in_222 0 32 = true := by decide +kernel
theorem q_222 : kmr mt_222 in_222 0 (16 * mt_222.2.2.2.length) = true := kmr_as (r_222_0) (by decide +kernel)
theorem c_223 : kmck mt_223 in_223 1221 157 = true := by decide +kernel
set_option maxRecDepth 20000 in
theorem r_223_0 : kmr mt_223 in_223 0 32 = true := by decide +kernel
theorem q_223 : kmr mt_223 in_223 0 (16 * mt_223.2.2.2.length) = true := kmr_as (r_223_0) (by decide +kernel)
theorem c_224 : kmck mt_224 in_224 1225 157 = true := by decide +kernel
set_option maxRecDepth 20000 in
theorem r_224_0 : kmr mt_224 in_224 0 48 = true := by decide +kernel
theorem q_224 : kmr mt_224 in_224 0 (16 * mt_224.2.2.2.length) = true := kmr_as (r_224_0) (by decide +kernel)
theorem c_225 : kmck mt_225 in_225 1543 157 = true := by decide +kernel
set_option maxRecDepth 20000 in
theorem r_225_0 : kmr mt_225 in_225 0 48 = true := by decide +kernel
theorem q_225 : kmr mt_225 in_225 0 (16 * mt_225.2.2.2.length) = true := kmr_as (r_225_0) (by decide +kernel)
theorem c_226 : kmck mt_226 in_226 1567 157 = true := by decide +kernel
set_option maxRecDepth 20000 in
theorem r_226_0 : kmr mt_226 in_226 0 32 = true := by decide +kernel
theorem q_226 : kmr mt_226 in_226 0 (16 * mt_226.2.2.2.length) = true := kmr_as (r_226_0) (by decide +kernel)
theorem c_227 : kmck mt_227 in_227 1559 157 = true := by decide +kernel
set_option maxRecDepth 20000 in
theorem r_227_0 : kmr mt_227 in_227 0 16 = true := by decide +kernel
theorem q_227 : kmr mt_227 in_227 0 (16 * mt_227.2.2.2.length) = true := kmr_as (r_227_0) (by decide +kernel)
theorem c_228 : kmck mt_228 in_228 1555 157 = true := by decide +kernel
set_option maxRecDepth 20000 in
theorem r_228_0 : kmr mt_228 in_228 0 48 = true := by decide +kernel
theorem q_228 : kmr mt_228 in_228 0 (16 * mt_228.2.2.2.length) = true := kmr_as (r_228_0) (by decide +kernel)
theorem c_229 : kmck mt_229 in_229 1563 157 = true := by decide +kernel
set_option maxRecDepth 20000 in
theorem r_229_0 : kmr mt_229 in_229 0 48 = true := by decide +kernel
theorem q_229 : kmr mt_229 in_229 0 (16 * mt_229.2.2.2.length) = true := kmr_as (r_229_0) (by decide +kernel)
theorem c_230 : kmck mt_230 in_230 1583 157 = true := by decide +kernel
set_option maxRecDepth 20000 in
theorem r_230_0 : kmr mt_230 in_230 0 48 = true := by decide +kernel
theorem q_230 : kmr mt_230 in_230 0 (16 * mt_230.2.2.2.length) = true := kmr_as (r_230_0) (by decide +kernel)
theorem c_231 : kmck mt_231 in_231 1579 157 = true := by decide +kernel
set_option maxRecDepth 20000 in
theorem r_231_0 : kmr mt_231 in_231 0 48 = true := by decide +kernel
theorem q_231 : kmr mt_231 in_231 0 (16 * mt_231.2.2.2.length) = true := kmr_as (r_231_0) (by decide +kernel)
theorem c_232 : kmck mt_232 in_232 1785 157 = true := by decide +kernel
set_option maxRecDepth 20000 in
theorem r_232_0 : kmr mt_232 in_232 0 48 = true := by decide +kernel
set_option maxRecDepth 20000 in
theorem r_232_48 : kmr mt_232 in_232 48 16 = true := by decide +kernel
theorem q_232 : kmr mt_232 in_232 0 (16 * mt_232.2.2.2.length) = true := kmr_as (kmr_join (r_232_0) r_232_48) (by decide +kernel)
theorem c_233 : kmck mt_233 in_233 1789 157 = true := by decide +kernel
set_option maxRecDepth 20000 in
theorem r_233_0 : kmr mt_233 in_233 0 48 = true := by decide +kernel
set_option maxRecDepth 20000 in
theorem r_233_48 : kmr mt_233 in_233 48 16 = true := by decide +kernel
theorem q_233 : kmr mt_233 in_233 0 (16 * mt_233.2.2.2.length) = true := kmr_as (kmr_join (r_233_0) r_233_48) (by decide +kernel)
theorem c_234 : kmck mt_234 in_234 1793 157 = true := by decide +kernel
set_option maxRecDepth 20000 in
theorem r_234_0 : kmr mt_234 in_234 0 32 = true := by decide +kernel
theorem q_234 : kmr mt_234 in_234 0 (16 * mt_234.2.2.2.length) = true := kmr_as (r_234_0) (by decide +kernel)
theorem c_235 : kmck mt_235 in_235 1762 157 = true := by decide +kernel
set_option maxRecDepth 20000 in
theorem r_235_0 : kmr mt_235 in_235 0 48 = true := by decide +kernel
theorem q_235 : kmr mt_235 in_235 0 (16 * mt_235.2.2.2.length) = true := kmr_as (r_235_0) (by decide +kernel)
theorem c_236 : kmck mt_236 in_236 1798 169 = true := by decide +kernel
set_option maxRecDepth 20000 in
theorem r_236_0 : kmr mt_236 in_236 0 16 = true := by decide +kernel
theorem q_236 : kmr mt_236 in_236 0 (16 * mt_236.2.2.2.length) = true := kmr_as (r_236_0) (by decide +kernel)
theorem c_237 : kmck mt_237 in_237 1802 169 = true := by decide +kernel
set_option maxRecDepth 20000 in
theorem r_237_0 : kmr mt_237 in_237 0 16 = true := by decide +kernel
theorem q_237 : kmr mt_237 in_237 0 (16 * mt_237.2.2.2.length) = true := kmr_as (r_237_0) (by decide +kernel)
theorem c_238 : kmck mt_238 in_238 1807 169 = true := by decide +kernel
set_option maxRecDepth 20000 in
theorem r_238_0 : kmr mt_238 in_238 0 48 = true := by decide +kernel
theorem q_238 : kmr mt_238 in_238 0 (16 * mt_238.2.2.2.length) = true := kmr_as (r_238_0) (by decide +kernel)
theorem c_239 : kmck mt_239 in_239 1811 169 = true := kmc2_ok (by decide +kernel)
set_option maxRecDepth 20000 in
theorem r_239_0 : kmr mt_239 in_239 0 48 = true := by decide +kernel
set_option maxRecDepth 20000 in
theorem r_239_48 : kmr mt_239 in_239 48 48 = true := by decide +kernel
set_option maxRecDepth 20000 in
theorem r_239_96 : kmr mt_239 in_239 96 48 = true := by decide +kernel
set_option maxRecDepth 20000 in
theorem r_239_144 : kmr mt_239 in_239 144 48 = true := by decide +kernel
set_option maxRecDepth 20000 in
theorem r_239_192 : kmr mt_239 in_239 192 48 = true := by decide +kernel
set_option maxRecDepth 20000 in
theorem r_239_240 : kmr mt_239 in_239 240 48 = true := by decide +kernel
set_option maxRecDepth 20000 in
theorem r_239_288 : kmr mt_239 in_239 288 48 = true := by decide +kernel
set_option maxRecDepth 20000 in
theorem r_239_336 : kmr mt_239 in_239 336 48 = true := by decide +kernel
set_option maxRecDepth 20000 in
theorem r_239_384 : kmr mt_239 in_239 384 48 = true := by decide +kernel
set_option maxRecDepth 20000 in
theorem r_239_432 : kmr mt_239 in_239 432 48 = true := by decide +kernel
set_option maxRecDepth 20000 in
theorem r_239_480 : kmr mt_239 in_239 480 48 = true := by decide +kernel
theorem q_239 : kmr mt_239 in_239 0 (16 * mt_239.2.2.2.length) = true := kmr_as (kmr_join (kmr_join (kmr_join (kmr_join (kmr_join (kmr_join (kmr_join (kmr_join (kmr_join (kmr_join (r_239_0) r_239_48) r_239_96) r_239_144) r_239_192) r_239_240) r_239_288) r_239_336) r_239_384) r_239_432) r_239_480) (by decide +kernel)
theorem c_240 : kmck mt_240 in_240 2246 169 = true := by decide +kernel
set_option maxRecDepth 20000 in
theorem r_240_0 : kmr mt_240 in_240 0 16 = true := by decide +kernel
theorem q_240 : kmr mt_240 in_240 0 (16 * mt_240.2.2.2.length) = true := kmr_as (r_240_0) (by decide +kernel)
theorem c_241 : kmck mt_241 in_241 2253 169 = true := by decide +kernel
set_option maxRecDepth 20000 in
theorem r_241_0 : kmr mt_241 in_241 0 16 = true := by decide +kernel
theorem q_241 : kmr mt_241 in_241 0 (16 * mt_241.2.2.2.length) = true := kmr_as (r_241_0) (by decide +kernel)
theorem c_242 : kmck mt_242 in_242 2250 169 = true := by decide +kernel
set_option maxRecDepth 20000 in
theorem r_242_0 : kmr mt_242 in_242 0 16 = true := by decide +kernel
theorem q_242 : kmr mt_242 in_242 0 (16 * mt_242.2.2.2.length) = true := kmr_as (r_242_0) (by decide +kernel)
theorem c_243 : kmck mt_243 in_243 2258 169 = true := by decide +kernel
set_option maxRecDepth 20000 in
theorem r_243_0 : kmr mt_243 in_243 0 32 = true := by decide +kernel
theorem q_243 : kmr mt_243 in_243 0 (16 * mt_243.2.2.2.length) = true := kmr_as (r_243_0) (by decide +kernel)
theorem c_244 : kmck mt_244 in_244 2243 169 = true := kmc2_ok (by decide +kernel)
set_option maxRecDepth 20000 in
theorem r_244_0 : kmr mt_244 in_244 0 48 = true := by decide +kernel
set_option maxRecDepth 20000 in
theorem r_244_48 : kmr mt_244 in_244 48 48 = true := by decide +kernel
set_option maxRecDepth 20000 in
theorem r_244_96 : kmr mt_244 in_244 96 48 = true := by decide +kernel
set_option maxRecDepth 20000 in
theorem r_244_144 : kmr mt_244 in_244 144 32 = true := by decide +kernel
theorem q_244 : kmr mt_244 in_244 0 (16 * mt_244.2.2.2.length) = true := kmr_as (kmr_join (kmr_join (kmr_join (r_244_0) r_244_48) r_244_96) r_244_144) (by decide +kernel)
theorem c_245 : kmck mt_245 in_245 2270 169 = true := by decide +kernel
set_option maxRecDepth 20000 in
theorem r_245_0 : kmr mt_245 in_245 0 16 = true := by decide +kernel
theorem q_245 : kmr mt_245 in_245 0 (16 * mt_245.2.2.2.length) = true := kmr_as (r_245_0) (by decide +kernel)
theorem c_246 : kmck mt_246 in_246 2306 169 = true := by decide +kernel
set_option maxRecDepth 20000 in
theorem r_246_0 : kmr mt_246 in_246 0 32 = true := by decide +kernel
theorem q_246 : kmr mt_246 in_246 0 (16 * mt_246.2.2.2.length) = true := kmr_as (r_246_0) (by decide +kernel)
theorem c_247 : kmck mt_247 in_247 2266 169 = true := by decide +kernel
set_option maxRecDepth 20000 in
theorem r_247_0 : kmr mt_247 in_247 0 32 = true := by decide +kernel
theorem q_247 : kmr mt_247 in_247 0 (16 * mt_247.2.2.2.length) = true := kmr_as (r_247_0) (by decide +kernel)
theorem c_248 : kmck mt_248 in_248 2318 169 = true := by decide +kernel
set_option maxRecDepth 20000 in
theorem r_248_0 : kmr mt_248 in_248 0 16 = true := by decide +kernel
theorem q_248 : kmr mt_248 in_248 0 (16 * mt_248.2.2.2.length) = true := kmr_as (r_248_0) (by decide +kernel)
theorem c_249 : kmck mt_249 in_249 2314 169 = true := by decide +kernel
set_option maxRecDepth 20000 in
theorem r_249_0 : kmr mt_249 in_249 0 16 = true := by decide +kernel
theorem q_249 : kmr mt_249 in_249 0 (16 * mt_249.2.2.2.length) = true := kmr_as (r_249_0) (by decide +kernel)
theorem c_250 : kmck mt_250 in_250 2278 169 = true := by decide +kernel
set_option maxRecDepth 20000 in
theorem r_250_0 : kmr mt_250 in_250 0 16 = true := by decide +kernel
theorem q_250 : kmr mt_250 in_250 0 (16 * mt_250.2.2.2.length) = true := kmr_as (r_250_0) (by decide +kernel)
theorem c_251 : kmck mt_251 in_251 2274 169 = true := by decide +kernel
set_option maxRecDepth 20000 in
theorem r_251_0 : kmr mt_251 in_251 0 16 = true := by decide +kernel
theorem q_251 : kmr mt_251 in_251 0 (16 * mt_251.2.2.2.length) = true := kmr_as (r_251_0) (by decide +kernel)
theorem c_252 : kmck mt_252 in_252 2173 169 = true := by decide +kernel
set_option maxRecDepth 20000 in
theorem r_252_0 : kmr mt_252 in_252 0 16 = true := by decide +kernel
theorem q_252 : kmr mt_252 in_252 0 (16 * mt_252.2.2.2.length) = true := kmr_as (r_252_0) (by decide +kernel)
theorem c_253 : kmck mt_253 in_253 2198 169 = true := by decide +kernel
set_option maxRecDepth 20000 in
theorem r_253_0 : kmr mt_253 in_253 0 16 = true := by decide +kernel
theorem q_253 : kmr mt_253 in_253 0 (16 * mt_253.2.2.2.length) = true := kmr_as (r_253_0) (by decide +kernel)
theorem c_254 : kmck mt_254 in_254 2220 169 = true := by decide +kernel
set_option maxRecDepth 20000 in
theorem r_254_0 : kmr mt_254 in_254 0 16 = true := by decide +kernel
theorem q_254 : kmr mt_254 in_254 0 (16 * mt_254.2.2.2.length) = true := kmr_as (r_254_0) (by decide +kernel)
theorem c_255 : kmck mt_255 in_255 2188 169 = true := by decide +kernel
set_option maxRecDepth 20000 in
theorem r_255_0 : kmr mt_255 in_255 0 16 = true := by decide +kernel
theorem q_255 : kmr mt_255 in_255 0 (16 * mt_255.2.2.2.length) = true := kmr_as (r_255_0) (by decide +kernel)
theorem c_256 : kmck mt_256 in_256 2231 169 = true := by decide +kernel
set_option maxRecDepth 20000 in
theorem r_256_0 : kmr mt_256 in_256 0 16 = true := by decide +kernel
theorem q_256 : kmr mt_256 in_256 0 (16 * mt_256.2.2.2.length) = true := kmr_as (r_256_0) (by decide +kernel)
theorem c_257 : kmck mt_257 in_257 2185 169 = true := by decide +kernel
set_option maxRecDepth 20000 in
theorem r_257_0 : kmr mt_257 in_257 0 16 = true := by decide +kernel
theorem q_257 : kmr mt_257 in_257 0 (16 * mt_257.2.2.2.length) = true := kmr_as (r_257_0) (by decide +kernel)
theorem c_258 : kmck mt_258 in_258 2191 169 = true := by decide +kernel
set_option maxRecDepth 20000 in
theorem r_258_0 : kmr mt_258 in_258 0 16 = true := by decide +kernel
theorem q_258 : kmr mt_258 in_258 0 (16 * mt_258.2.2.2.length) = true := kmr_as (r_258_0) (by decide +kernel)
theorem c_259 : kmck mt_259 in_259 2181 169 = true := by decide +kernel
set_option maxRecDepth 20000 in
theorem r_259_0 : kmr mt_259 in_259 0 32 = true := by decide +kernel
theorem q_259 : kmr mt_259 in_259 0 (16 * mt_259.2.2.2.length) = true := kmr_as (r_259_0) (by decide +kernel)
theorem c_260 : kmck mt_260 in_260 2206 169 = true := by decide +kernel
set_option maxRecDepth 20000 in
theorem r_260_0 : kmr mt_260 in_260 0 32 = true := by decide +kernel
theorem q_260 : kmr mt_260 in_260 0 (16 * mt_260.2.2.2.length) = true := kmr_as (r_260_0) (by decide +kernel)
theorem c_261 : kmck mt_261 in_261 2209 169 = true := by decide +kernel
set_option maxRecDepth 20000 in
theorem r_261_0 : kmr mt_261 in_261 0 16 = true := by decide +kernel
theorem q_261 : kmr mt_261 in_261 0 (16 * mt_261.2.2.2.length) = true := kmr_as (r_261_0) (by decide +kernel)
theorem c_262 : kmck mt_262 in_262 2170 169 = true := by decide +kernel
set_option maxRecDepth 20000 in
theorem r_262_0 : kmr mt_262 in_262 0 48 = true := by decide +kernel
theorem q_262 : kmr mt_262 in_262 0 (16 * mt_262.2.2.2.length) = true := kmr_as (r_262_0) (by decide +kernel)
theorem c_263 : kmck mt_263 in_263 2177 169 = true := by decide +kernel
set_option maxRecDepth 20000 in
theorem r_263_0 : kmr mt_263 in_263 0 32 = true := by decide +kernel
theorem q_263 : kmr mt_263 in_263 0 (16 * mt_263.2.2.2.length) = true := kmr_as (r_263_0) (by decide +kernel)
theorem c_264 : kmck mt_264 in_264 2195 169 = true := by decide +kernel
set_option maxRecDepth 20000 in
theorem r_264_0 : kmr mt_264 in_264 0 48 = true := by decide +kernel
set_option maxRecDepth 20000 in
theorem r_264_48 : kmr mt_264 in_264 48 16 = true := by decide +kernel
theorem q_264 : kmr mt_264 in_264 0 (16 * mt_264.2.2.2.length) = true := kmr_as (kmr_join (r_264_0) r_264_48) (by decide +kernel)
theorem c_265 : kmck mt_265 in_265 2202 169 = true := by decide +kernel
set_option maxRecDepth 20000 in
theorem r_265_0 : kmr mt_265 in_265 0 32 = true := by decide +kernel
theorem q_265 : kmr mt_265 in_265 0 (16 * mt_265.2.2.2.length) = true := kmr_as (r_265_0) (by decide +kernel)
theorem c_266 : kmck mt_266 in_266 2213 169 = true := by decide +kernel
set_option maxRecDepth 20000 in
theorem r_266_0 : kmr mt_266 in_266 0 48 = true := by decide +kernel
theorem q_266 : kmr mt_266 in_266 0 (16 * mt_266.2.2.2.length) = true := kmr_as (r_266_0) (by decide +kernel)
theorem c_267 : kmck mt_267 in_267 2217 169 = true := by decide +kernel
set_option maxRecDepth 20000 in
theorem r_267_0 : kmr mt_267 in_267 0 48 = true := by decide +kernel
theorem q_267 : kmr mt_267 in_267 0 (16 * mt_267.2.2.2.length) = true := kmr_as (r_267_0) (by decide +kernel)
theorem c_268 : kmck mt_268 in_268 2224 169 = true := by decide +kernel
set_option maxRecDepth 20000 in
theorem r_268_0 : kmr mt_268 in_268 0 48 = true := by decide +kernel
set_option maxRecDepth 20000 in
theorem r_268_48 : kmr mt_268 in_268 48 16 = true := by decide +kernel
theorem q_268 : kmr mt_268 in_268 0 (16 * mt_268.2.2.2.length) = true := kmr_as (kmr_join (r_268_0) r_268_48) (by decide +kernel)
theorem c_269 : kmck mt_269 in_269 2369 169 = true := by decide +kernel
set_option maxRecDepth 20000 in
theorem r_269_0 : kmr mt_269 in_269 0 48 = true := by decide +kernel
theorem q_269 : kmr mt_269 in_269 0 (16 * mt_269.2.2.2.length) = true := kmr_as (r_269_0) (by decide +kernel)
theorem c_270 : kmck mt_270 in_270 2228 169 = true := by decide +kernel
set_option maxRecDepth 20000 in
theorem r_270_0 : kmr mt_270 in_270 0 16 = true := by decide +kernel
theorem q_270 : kmr mt_270 in_270 0 (16 * mt_270.2.2.2.length) = true := kmr_as (r_270_0) (by decide +kernel)
theorem c_271 : kmck mt_271 in_271 2235 169 = true := by decide +kernel
set_option maxRecDepth 20000 in
theorem r_271_0 : kmr mt_271 in_271 0 32 = true := by decide +kernel
theorem q_271 : kmr mt_271 in_271 0 (16 * mt_271.2.2.2.length) = true := kmr_as (r_271_0) (by decide +kernel)
theorem c_272 : kmck mt_272 in_272 2338 169 = true := by decide +kernel
set_option maxRecDepth 20000 in
theorem r_272_0 : kmr mt_272 in_272 0 48 = true := by decide +kernel
theorem q_272 : kmr mt_272 in_272 0 (16 * mt_272.2.2.2.length) = true := kmr_as (r_272_0) (by decide +kernel)
theorem c_273 : kmck mt_273 in_273 2310 169 = true := by decide +kernel
set_option maxRecDepth 20000 in
theorem r_273_0 : kmr mt_273 in_273 0 32 = true := by decide +kernel
theorem q_273 : kmr mt_273 in_273 0 (16 * mt_273.2.2.2.length) = true := kmr_as (r_273_0) (by decide +kernel)
theorem c_274 : kmck mt_274 in_274 2239 169 = true := by decide +kernel
set_option maxRecDepth 20000 in
theorem r_274_0 : kmr mt_274 in_274 0 48 = true := by decide +kernel
set_option maxRecDepth 20000 in
theorem r_274_48 : kmr mt_274 in_274 48 16 = true := by decide +kernel
theorem q_274 : kmr mt_274 in_274 0 (16 * mt_274.2.2.2.length) = true := kmr_as (kmr_join (r_274_0) r_274_48) (by decide +kernel)
theorem c_275 : kmck mt_275 in_275 2326 169 = true := kmc2_ok (by decide +kernel)
set_option maxRecDepth 20000 in
theorem r_275_0 : kmr mt_275 in_275 0 48 = true := by decide +kernel
set_option maxRecDepth 20000 in
theorem r_275_48 : kmr mt_275 in_275 48 48 = true := by decide +kernel
set_option maxRecDepth 20000 in
theorem r_275_96 : kmr mt_275 in_275 96 16 = true := by decide +kernel
theorem q_275 : kmr mt_275 in_275 0 (16 * mt_275.2.2.2.length) = true := kmr_as (kmr_join (kmr_join (r_275_0) r_275_48) r_275_96) (by decide +kernel)
theorem c_276 : kmck mt_276 in_276 2322 169 = true := by decide +kernel
set_option maxRecDepth 20000 in
theorem r_276_0 : kmr mt_276 in_276 0 48 = true := by decide +kernel
set_option maxRecDepth 20000 in
theorem r_276_48 : kmr mt_276 in_276 48 16 = true := by decide +kernel
theorem q_276 : kmr mt_276 in_276 0 (16 * mt_276.2.2.2.length) = true := kmr_as (kmr_join (r_276_0) r_276_48) (by decide +kernel)
theorem c_277 : kmck mt_277 in_277 2262 169 = true := kmc2_ok (by decide +kernel)
set_option maxRecDepth 20000 in
theorem r_277_0 : kmr mt_277 in_277 0 48 = true := by decide +kernel
set_option maxRecDepth 20000 in
theorem r_277_48 : kmr mt_277 in_277 48 48 = true := by decide +kernel
set_option maxRecDepth 20000 in
theorem r_277_96 : kmr mt_277 in_277 96 48 = true := by decide +kernel
set_option maxRecDepth 20000 in
theorem r_277_144 : kmr mt_277 in_277 144 48 = true := by decide +kernel
theorem q_277 : kmr mt_277 in_277 0 (16 * mt_277.2.2.2.length) = true := kmr_as (kmr_join (kmr_join (kmr_join (r_277_0) r_277_48) r_277_96) r_277_144) (by decide +kernel)
theorem c_278 : kmck mt_278 in_278 2282 169 = true := by decide +kernel
set_option maxRecDepth 20000 in
theorem r_278_0 : kmr mt_278 in_278 0 16 = true := by decide +kernel
theorem q_278 : kmr mt_278 in_278 0 (16 * mt_278.2.2.2.length) = true := kmr_as (r_278_0) (by decide +kernel)
theorem c_279 : kmck mt_279 in_279 2286 169 = true := by decide +kernel
set_option maxRecDepth 20000 in
theorem r_279_0 : kmr mt_279 in_279 0 48 = true := by decide +kernel
theorem q_279 : kmr mt_279 in_279 0 (16 * mt_279.2.2.2.length) = true := kmr_as (r_279_0) (by decide +kernel)
theorem c_280 : kmck mt_280 in_280 2290 169 = true := by decide +kernel
set_option maxRecDepth 20000 in
theorem r_280_0 : kmr mt_280 in_280 0 32 = true := by decide +kernel
theorem q_280 : kmr mt_280 in_280 0 (16 * mt_280.2.2.2.length) = true := kmr_as (r_280_0) (by decide +kernel)
theorem c_281 : kmck mt_281 in_281 2294 169 = true := by decide +kernel
set_option maxRecDepth 20000 in
theorem r_281_0 : kmr mt_281 in_281 0 48 = true := by decide +kernel
theorem q_281 : kmr mt_281 in_281 0 (16 * mt_281.2.2.2.length) = true := kmr_as (r_281_0) (by decide +kernel)
theorem c_282 : kmck mt_282 in_282 2298 169 = true := by decide +kernel
set_option maxRecDepth 20000 in
theorem r_282_0 : kmr mt_282 in_282 0 16 = true := by decide +kernel
theorem q_282 : kmr mt_282 in_282 0 (16 * mt_282.2.2.2.length) = true := kmr_as (r_282_0) (by decide +kernel)
theorem c_283 : kmck mt_283 in_283 2302 169 = true := kmc2_ok (by decide +kernel)
set_option maxRecDepth 20000 in
theorem r_283_0 : kmr mt_283 in_283 0 48 = true := by decide +kernel
set_option maxRecDepth 20000 in
theorem r_283_48 : kmr mt_283 in_283 48 48 = true := by decide +kernel
set_option maxRecDepth 20000 in
theorem r_283_96 : kmr mt_283 in_283 96 16 = true := by decide +kernel
theorem q_283 : kmr mt_283 in_283 0 (16 * mt_283.2.2.2.length) = true := kmr_as (kmr_join (kmr_join (r_283_0) r_283_48) r_283_96) (by decide +kernel)
theorem c_284 : kmck mt_284 in_284 2385 169 = true := by decide +kernel
set_option maxRecDepth 20000 in
theorem r_284_0 : kmr mt_284 in_284 0 48 = true := by decide +kernel
set_option maxRecDepth 20000 in
theorem r_284_48 : kmr mt_284 in_284 48 48 = true := by decide +kernel
theorem q_284 : kmr mt_284 in_284 0 (16 * mt_284.2.2.2.length) = true := kmr_as (kmr_join (r_284_0) r_284_48) (by decide +kernel)
theorem c_285 : kmck mt_285 in_285 2388 169 = true := by decide +kernel
set_option maxRecDepth 20000 in
theorem r_285_0 : kmr mt_285 in_285 0 48 = true := by decide +kernel
theorem q_285 : kmr mt_285 in_285 0 (16 * mt_285.2.2.2.length) = true := kmr_as (r_285_0) (by decide +kernel)
theorem c_286 : kmck mt_286 in_286 2381 169 = true := by decide +kernel
set_option maxRecDepth 20000 in
theorem r_286_0 : kmr mt_286 in_286 0 48 = true := by decide +kernel
set_option maxRecDepth 20000 in
theorem r_286_48 : kmr mt_286 in_286 48 32 = true := by decide +kernel
theorem q_286 : kmr mt_286 in_286 0 (16 * mt_286.2.2.2.length) = true := kmr_as (kmr_join (r_286_0) r_286_48) (by decide +kernel)
