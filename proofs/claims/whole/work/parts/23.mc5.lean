set_option maxRecDepth 20000 in
theorem c_287 : kmck mt_287 in_287 2334 169 = true := by decide +kernel
set_option maxRecDepth 20000 in
theorem c_288 : kmck mt_288 in_288 2341 169 = true := by decide +kernel
set_option maxRecDepth 20000 in
theorem c_289 : kmck mt_289 in_289 2373 169 = true := by decide +kernel
set_option maxRecDepth 20000 in
theorem c_290 : kmck mt_290 in_290 2357 169 = true := by decide +kernel
set_option maxRecDepth 20000 in
theorem c_291 : kmck mt_291 in_291 2330 169 = true := by decide +kernel
set_option maxRecDepth 20000 in
theorem c_292 : kmck mt_292 in_292 2377 169 = true := by decide +kernel
set_option maxRecDepth 20000 in
theorem c_293 : kmck mt_293 in_293 2392 169 = true := by decide +kernel
set_option maxRecDepth 20000 in
theorem c_294 : kmck mt_294 in_294 2365 169 = true := by decide +kernel
set_option maxRecDepth 20000 in
theorem c_295 : kmck mt_295 in_295 2361 169 = true := by decide +kernel
set_option maxRecDepth 20000 in
theorem c_296 : kmck mt_296 in_296 2349 169 = true := by decide +kernel
set_option maxRecDepth 20000 in
theorem c_297 : kmck mt_297 in_297 2353 169 = true := by decide +kernel
set_option maxRecDepth 20000 in
theorem c_298 : kmck mt_298 in_298 2345 169 = true := by decide +kernel
set_option maxRecDepth 20000 in
theorem c_299 : kmck mt_299 in_299 2404 169 = true := by decide +kernel
set_option maxRecDepth 20000 in
theorem c_300 : kmck mt_300 in_300 2412 169 = true := by decide +kernel
set_option maxRecDepth 20000 in
theorem c_301 : kmck mt_301 in_301 2416 169 = true := by decide +kernel
set_option maxRecDepth 20000 in
theorem c_302 : kmck mt_302 in_302 2408 169 = true := by decide +kernel
set_option maxRecDepth 20000 in
theorem c_303 : kmck mt_303 in_303 2420 169 = true := by decide +kernel
set_option maxRecDepth 20000 in
theorem c_304 : kmck mt_304 in_304 2424 169 = true := by decide +kernel
set_option maxRecDepth 20000 in
theorem c_305 : kmck mt_305 in_305 2432 169 = true := by decide +kernel
set_option maxRecDepth 20000 in
theorem c_306 : kmck mt_306 in_306 2428 169 = true := by decide +kernel
set_option maxRecDepth 20000 in
theorem c_307 : kmck mt_307 in_307 2447 169 = true := by decide +kernel
set_option maxRecDepth 20000 in
theorem c_308 : kmck mt_308 in_308 2443 169 = true := by decide +kernel
set_option maxRecDepth 20000 in
theorem c_309 : kmck mt_309 in_309 2439 169 = true := by decide +kernel
set_option maxRecDepth 20000 in
theorem c_310 : kmck mt_310 in_310 2436 169 = true := by decide +kernel
set_option maxRecDepth 20000 in
theorem c_311 : kmck mt_311 in_311 2455 169 = true := by decide +kernel
set_option maxRecDepth 20000 in
theorem c_312 : kmck mt_312 in_312 2459 169 = true := by decide +kernel
set_option maxRecDepth 20000 in
theorem c_313 : kmck mt_313 in_313 2451 169 = true := by decide +kernel
set_option maxRecDepth 20000 in
theorem c_314 : kmck mt_314 in_314 2467 169 = true := by decide +kernel
set_option maxRecDepth 20000 in
theorem c_315 : kmck mt_315 in_315 2463 169 = true := by decide +kernel
set_option maxRecDepth 20000 in
theorem c_316 : kmck mt_316 in_316 2471 169 = true := by decide +kernel
set_option maxRecDepth 20000 in
theorem c_317 : kmck mt_317 in_317 2475 169 = true := by decide +kernel
set_option maxRecDepth 20000 in
theorem c_318 : kmck mt_318 in_318 2480 169 = true := by decide +kernel
set_option maxRecDepth 20000 in
theorem c_319 : kmck mt_319 in_319 2484 169 = true := by decide +kernel
set_option maxRecDepth 20000 in
theorem c_320 : kmck mt_320 in_320 2488 169 = true := by decide +kernel
set_option maxRecDepth 20000 in
theorem c_321 : kmck mt_321 in_321 2492 169 = true := by decide +kernel
set_option maxRecDepth 20000 in
theorem c_322 : kmck mt_322 in_322 2508 169 = true := by decide +kernel
set_option maxRecDepth 20000 in
theorem c_323 : kmck mt_323 in_323 2512 169 = true := by decide +kernel
set_option maxRecDepth 20000 in
theorem c_324 : kmck mt_324 in_324 2515 169 = true := by decide +kernel
set_option maxRecDepth 20000 in
theorem c_325 : kmck mt_325 in_325 2504 169 = true := by decide +kernel
set_option maxRecDepth 20000 in
theorem c_326 : kmck mt_326 in_326 2500 169 = true := by decide +kernel
set_option maxRecDepth 20000 in
theorem c_327 : kmck mt_327 in_327 2521 169 = true := by decide +kernel
set_option maxRecDepth 20000 in
theorem c_328 : kmck mt_328 in_328 2518 169 = true := by decide +kernel
set_option maxRecDepth 20000 in
theorem c_329 : kmck mt_329 in_329 2496 169 = true := by decide +kernel
set_option maxRecDepth 20000 in
theorem c_330 : kmck mt_330 in_330 2529 169 = true := by decide +kernel
set_option maxRecDepth 20000 in
theorem c_331 : kmck mt_331 in_331 2532 169 = true := by decide +kernel
set_option maxRecDepth 20000 in
theorem c_332 : kmck mt_332 in_332 2525 169 = true := by decide +kernel
set_option maxRecDepth 20000 in
theorem c_333 : kmck mt_333 in_333 2537 169 = true := by decide +kernel
set_option maxRecDepth 20000 in
theorem c_334 : kmck mt_334 in_334 2545 169 = true := by decide +kernel
set_option maxRecDepth 20000 in
theorem c_335 : kmck mt_335 in_335 2549 169 = true := by decide +kernel
