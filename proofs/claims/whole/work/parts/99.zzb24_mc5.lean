theorem c_287 : kmck mt_287 in_287 2334 169 = true := by decide +kernel
set_option maxRecDepth 20000 in
theorem r_287_0 : kmr mt_287 in_287 0 48 = true := by decide +kernel
set_option maxRecDepth 20000 in
theorem r_287_48 : kmr mt_287 in_287 48 16 = true := by decide +kernel
theorem q_287 : kmr mt_287 in_287 0 (16 * mt_287.2.2.2.length) = true := kmr_as (kmr_join (r_287_0) r_287_48) (by decide +kernel)
theorem c_288 : kmck mt_288 in_288 2341 169 = true := by decide +kernel
set_option maxRecDepth 20000 in
theorem r_288_0 : kmr mt_288 in_288 0 32 = true := by decide +kernel
theorem q_288 : kmr mt_288 in_288 0 (16 * mt_288.2.2.2.length) = true := kmr_as (r_288_0) (by decide +kernel)
theorem c_289 : kmck mt_289 in_289 2373 169 = true := by decide +kernel
set_option maxRecDepth 20000 in
theorem r_289_0 : kmr mt_289 in_289 0 48 = true := by decide +kernel
set_option maxRecDepth 20000 in
theorem r_289_48 : kmr mt_289 in_289 48 16 = true := by decide +kernel
theorem q_289 : kmr mt_289 in_289 0 (16 * mt_289.2.2.2.length) = true := kmr_as (kmr_join (r_289_0) r_289_48) (by decide +kernel)
theorem c_290 : kmck mt_290 in_290 2357 169 = true := by decide +kernel
set_option maxRecDepth 20000 in
theorem r_290_0 : kmr mt_290 in_290 0 16 = true := by decide +kernel
theorem q_290 : kmr mt_290 in_290 0 (16 * mt_290.2.2.2.length) = true := kmr_as (r_290_0) (by decide +kernel)
theorem c_291 : kmck mt_291 in_291 2330 169 = true := by decide +kernel
set_option maxRecDepth 20000 in
theorem r_291_0 : kmr mt_291 in_291 0 32 = true := by decide +kernel
theorem q_291 : kmr mt_291 in_291 0 (16 * mt_291.2.2.2.length) = true := kmr_as (r_291_0) (by decide +kernel)
theorem c_292 : kmck mt_292 in_292 2377 169 = true := by decide +kernel
set_option maxRecDepth 20000 in
theorem r_292_0 : kmr mt_292 in_292 0 48 = true := by decide +kernel
theorem q_292 : kmr mt_292 in_292 0 (16 * mt_292.2.2.2.length) = true := kmr_as (r_292_0) (by decide +kernel)
theorem c_293 : kmck mt_293 in_293 2392 169 = true := by decide +kernel
set_option maxRecDepth 20000 in
theorem r_293_0 : kmr mt_293 in_293 0 48 = true := by decide +kernel
set_option maxRecDepth 20000 in
theorem r_293_48 : kmr mt_293 in_293 48 16 = true := by decide +kernel
theorem q_293 : kmr mt_293 in_293 0 (16 * mt_293.2.2.2.length) = true := kmr_as (kmr_join (r_293_0) r_293_48) (by decide +kernel)
theorem c_294 : kmck mt_294 in_294 2365 169 = true := by decide +kernel
set_option maxRecDepth 20000 in
theorem r_294_0 : kmr mt_294 in_294 0 32 = true := by decide +kernel
theorem q_294 : kmr mt_294 in_294 0 (16 * mt_294.2.2.2.length) = true := kmr_as (r_294_0) (by decide +kernel)
theorem c_295 : kmck mt_295 in_295 2361 169 = true := by decide +kernel
set_option maxRecDepth 20000 in
theorem r_295_0 : kmr mt_295 in_295 0 48 = true := by decide +kernel
set_option maxRecDepth 20000 in
theorem r_295_48 : kmr mt_295 in_295 48 48 = true := by decide +kernel
theorem q_295 : kmr mt_295 in_295 0 (16 * mt_295.2.2.2.length) = true := kmr_as (kmr_join (r_295_0) r_295_48) (by decide +kernel)
theorem c_296 : kmck mt_296 in_296 2349 169 = true := by decide +kernel
set_option maxRecDepth 20000 in
theorem r_296_0 : kmr mt_296 in_296 0 48 = true := by decide +kernel
theorem q_296 : kmr mt_296 in_296 0 (16 * mt_296.2.2.2.length) = true := kmr_as (r_296_0) (by decide +kernel)
theorem c_297 : kmck mt_297 in_297 2353 169 = true := kmc2_ok (by decide +kernel)
set_option maxRecDepth 20000 in
theorem r_297_0 : kmr mt_297 in_297 0 48 = true := by decide +kernel
set_option maxRecDepth 20000 in
theorem r_297_48 : kmr mt_297 in_297 48 48 = true := by decide +kernel
set_option maxRecDepth 20000 in
theorem r_297_96 : kmr mt_297 in_297 96 48 = true := by decide +kernel
set_option maxRecDepth 20000 in
theorem r_297_144 : kmr mt_297 in_297 144 48 = true := by decide +kernel
set_option maxRecDepth 20000 in
theorem r_297_192 : kmr mt_297 in_297 192 16 = true := by decide +kernel
theorem q_297 : kmr mt_297 in_297 0 (16 * mt_297.2.2.2.length) = true := kmr_as (kmr_join (kmr_join (kmr_join (kmr_join (r_297_0) r_297_48) r_297_96) r_297_144) r_297_192) (by decide +kernel)
theorem c_298 : kmck mt_298 in_298 2345 169 = true := by decide +kernel
set_option maxRecDepth 20000 in
theorem r_298_0 : kmr mt_298 in_298 0 32 = true := by decide +kernel
theorem q_298 : kmr mt_298 in_298 0 (16 * mt_298.2.2.2.length) = true := kmr_as (r_298_0) (by decide +kernel)
theorem c_299 : kmck mt_299 in_299 2404 169 = true := kmc2_ok (by decide +kernel)
set_option maxRecDepth 20000 in
theorem r_299_0 : kmr mt_299 in_299 0 48 = true := by decide +kernel
set_option maxRecDepth 20000 in
theorem r_299_48 : kmr mt_299 in_299 48 48 = true := by decide +kernel
set_option maxRecDepth 20000 in
theorem r_299_96 : kmr mt_299 in_299 96 48 = true := by decide +kernel
set_option maxRecDepth 20000 in
theorem r_299_144 : kmr mt_299 in_299 144 48 = true := by decide +kernel
set_option maxRecDepth 20000 in
theorem r_299_192 : kmr mt_299 in_299 192 48 = true := by decide +kernel
theorem q_299 : kmr mt_299 in_299 0 (16 * mt_299.2.2.2.length) = true := kmr_as (kmr_join (kmr_join (kmr_join (kmr_join (r_299_0) r_299_48) r_299_96) r_299_144) r_299_192) (by decide +kernel)
theorem c_300 : kmck mt_300 in_300 2412 169 = true := by decide +kernel
set_option maxRecDepth 20000 in
theorem r_300_0 : kmr mt_300 in_300 0 48 = true := by decide +kernel
set_option maxRecDepth 20000 in
theorem r_300_48 : kmr mt_300 in_300 48 16 = true := by decide +kernel
theorem q_300 : kmr mt_300 in_300 0 (16 * mt_300.2.2.2.length) = true := kmr_as (kmr_join (r_300_0) r_300_48) (by decide +kernel)
theorem c_301 : kmck mt_301 in_301 2416 169 = true := by decide +kernel
set_option maxRecDepth 20000 in
theorem r_301_0 : kmr mt_301 in_301 0 48 = true := by decide +kernel
set_option maxRecDepth 20000 in
theorem r_301_48 : kmr mt_301 in_301 48 16 = true := by decide +kernel
theorem q_301 : kmr mt_301 in_301 0 (16 * mt_301.2.2.2.length) = true := kmr_as (kmr_join (r_301_0) r_301_48) (by decide +kernel)
theorem c_302 : kmck mt_302 in_302 2408 169 = true := by decide +kernel
set_option maxRecDepth 20000 in
theorem r_302_0 : kmr mt_302 in_302 0 48 = true := by decide +kernel
set_option maxRecDepth 20000 in
theorem r_302_48 : kmr mt_302 in_302 48 48 = true := by decide +kernel
theorem q_302 : kmr mt_302 in_302 0 (16 * mt_302.2.2.2.length) = true := kmr_as (kmr_join (r_302_0) r_302_48) (by decide +kernel)
theorem c_303 : kmck mt_303 in_303 2420 169 = true := by decide +kernel
set_option maxRecDepth 20000 in
theorem r_303_0 : kmr mt_303 in_303 0 32 = true := by decide +kernel
theorem q_303 : kmr mt_303 in_303 0 (16 * mt_303.2.2.2.length) = true := kmr_as (r_303_0) (by decide +kernel)
theorem c_304 : kmck mt_304 in_304 2424 169 = true := by decide +kernel
set_option maxRecDepth 20000 in
theorem r_304_0 : kmr mt_304 in_304 0 48 = true := by decide +kernel
theorem q_304 : kmr mt_304 in_304 0 (16 * mt_304.2.2.2.length) = true := kmr_as (r_304_0) (by decide +kernel)
theorem c_305 : kmck mt_305 in_305 2432 169 = true := by decide +kernel
set_option maxRecDepth 20000 in
theorem r_305_0 : kmr mt_305 in_305 0 32 = true := by decide +kernel
theorem q_305 : kmr mt_305 in_305 0 (16 * mt_305.2.2.2.length) = true := kmr_as (r_305_0) (by decide +kernel)
theorem c_306 : kmck mt_306 in_306 2428 169 = true := by decide +kernel
set_option maxRecDepth 20000 in
theorem r_306_0 : kmr mt_306 in_306 0 48 = true := by decide +kernel
theorem q_306 : kmr mt_306 in_306 0 (16 * mt_306.2.2.2.length) = true := kmr_as (r_306_0) (by decide +kernel)
theorem c_307 : kmck mt_307 in_307 2447 169 = true := by decide +kernel
set_option maxRecDepth 20000 in
theorem r_307_0 : kmr mt_307 in_307 0 48 = true := by decide +kernel
theorem q_307 : kmr mt_307 in_307 0 (16 * mt_307.2.2.2.length) = true := kmr_as (r_307_0) (by decide +kernel)
theorem c_308 : kmck mt_308 in_308 2443 169 = true := by decide +kernel
set_option maxRecDepth 20000 in
theorem r_308_0 : kmr mt_308 in_308 0 48 = true := by decide +kernel
set_option maxRecDepth 20000 in
theorem r_308_48 : kmr mt_308 in_308 48 16 = true := by decide +kernel
theorem q_308 : kmr mt_308 in_308 0 (16 * mt_308.2.2.2.length) = true := kmr_as (kmr_join (r_308_0) r_308_48) (by decide +kernel)
theorem c_309 : kmck mt_309 in_309 2439 169 = true := by decide +kernel
set_option maxRecDepth 20000 in
theorem r_309_0 : kmr mt_309 in_309 0 16 = true := by decide +kernel
theorem q_309 : kmr mt_309 in_309 0 (16 * mt_309.2.2.2.length) = true := kmr_as (r_309_0) (by decide +kernel)
theorem c_310 : kmck mt_310 in_310 2436 169 = true := by decide +kernel
set_option maxRecDepth 20000 in
theorem r_310_0 : kmr mt_310 in_310 0 48 = true := by decide +kernel
set_option maxRecDepth 20000 in
theorem r_310_48 : kmr mt_310 in_310 48 16 = true := by decide +kernel
theorem q_310 : kmr mt_310 in_310 0 (16 * mt_310.2.2.2.length) = true := kmr_as (kmr_join (r_310_0) r_310_48) (by decide +kernel)
theorem c_311 : kmck mt_311 in_311 2455 169 = true := by decide +kernel
set_option maxRecDepth 20000 in
theorem r_311_0 : kmr mt_311 in_311 0 48 = true := by decide +kernel
theorem q_311 : kmr mt_311 in_311 0 (16 * mt_311.2.2.2.length) = true := kmr_as (r_311_0) (by decide +kernel)
theorem c_312 : kmck mt_312 in_312 2459 169 = true := by decide +kernel
set_option maxRecDepth 20000 in
theorem r_312_0 : kmr mt_312 in_312 0 48 = true := by decide +kernel
theorem q_312 : kmr mt_312 in_312 0 (16 * mt_312.2.2.2.length) = true := kmr_as (r_312_0) (by decide +kernel)
theorem c_313 : kmck mt_313 in_313 2451 169 = true := kmc2_ok (by decide +kernel)
set_option maxRecDepth 20000 in
theorem r_313_0 : kmr mt_313 in_313 0 48 = true := by decide +kernel
set_option maxRecDepth 20000 in
theorem r_313_48 : kmr mt_313 in_313 48 48 = true := by decide +kernel
set_option maxRecDepth 20000 in
theorem r_313_96 : kmr mt_313 in_313 96 32 = true := by decide +kernel
theorem q_313 : kmr mt_313 in_313 0 (16 * mt_313.2.2.2.length) = true := kmr_as (kmr_join (kmr_join (r_313_0) r_313_48) r_313_96) (by decide +kernel)
theorem c_314 : kmck mt_314 in_314 2467 169 = true := by decide +kernel
set_option maxRecDepth 20000 in
theorem r_314_0 : kmr mt_314 in_314 0 48 = true := by decide +kernel
set_option maxRecDepth 20000 in
theorem r_314_48 : kmr mt_314 in_314 48 16 = true := by decide +kernel
theorem q_314 : kmr mt_314 in_314 0 (16 * mt_314.2.2.2.length) = true := kmr_as (kmr_join (r_314_0) r_314_48) (by decide +kernel)
theorem c_315 : kmck mt_315 in_315 2463 169 = true := kmc2_ok (by decide +kernel)
set_option maxRecDepth 20000 in
theorem r_315_0 : kmr mt_315 in_315 0 48 = true := by decide +kernel
set_option maxRecDepth 20000 in
theorem r_315_48 : kmr mt_315 in_315 48 48 = true := by decide +kernel
set_option maxRecDepth 20000 in
theorem r_315_96 : kmr mt_315 in_315 96 32 = true := by decide +kernel
theorem q_315 : kmr mt_315 in_315 0 (16 * mt_315.2.2.2.length) = true := kmr_as (kmr_join (kmr_join (r_315_0) r_315_48) r_315_96) (by decide +kernel)
theorem c_316 : kmck mt_316 in_316 2471 169 = true := by decide +kernel
set_option maxRecDepth 20000 in
theorem r_316_0 : kmr mt_316 in_316 0 48 = true := by decide +kernel
set_option maxRecDepth 20000 in
theorem r_316_48 : kmr mt_316 in_316 48 48 = true := by decide +kernel
theorem q_316 : kmr mt_316 in_316 0 (16 * mt_316.2.2.2.length) = true := kmr_as (kmr_join (r_316_0) r_316_48) (by decide +kernel)
theorem c_317 : kmck mt_317 in_317 2475 169 = true := by decide +kernel
set_option maxRecDepth 20000 in
theorem r_317_0 : kmr mt_317 in_317 0 48 = true := by decide +kernel
set_option maxRecDepth 20000 in
theorem r_317_48 : kmr mt_317 in_317 48 48 = true := by decide +kernel
theorem q_317 : kmr mt_317 in_317 0 (16 * mt_317.2.2.2.length) = true := kmr_as (kmr_join (r_317_0) r_317_48) (by decide +kernel)
theorem c_318 : kmck mt_318 in_318 2480 169 = true := by decide +kernel
set_option maxRecDepth 20000 in
theorem r_318_0 : kmr mt_318 in_318 0 48 = true := by decide +kernel
theorem q_318 : kmr mt_318 in_318 0 (16 * mt_318.2.2.2.length) = true := kmr_as (r_318_0) (by decide +kernel)
theorem c_319 : kmck mt_319 in_319 2484 169 = true := by decide +kernel
set_option maxRecDepth 20000 in
theorem r_319_0 : kmr mt_319 in_319 0 48 = true := by decide +kernel
theorem q_319 : kmr mt_319 in_319 0 (16 * mt_319.2.2.2.length) = true := kmr_as (r_319_0) (by decide +kernel)
theorem c_320 : kmck mt_320 in_320 2488 169 = true := by decide +kernel
set_option maxRecDepth 20000 in
theorem r_320_0 : kmr mt_320 in_320 0 32 = true := by decide +kernel
theorem q_320 : kmr mt_320 in_320 0 (16 * mt_320.2.2.2.length) = true := kmr_as (r_320_0) (by decide +kernel)
theorem c_321 : kmck mt_321 in_321 2492 169 = true := by decide +kernel
set_option maxRecDepth 20000 in
theorem r_321_0 : kmr mt_321 in_321 0 16 = true := by decide +kernel
theorem q_321 : kmr mt_321 in_321 0 (16 * mt_321.2.2.2.length) = true := kmr_as (r_321_0) (by decide +kernel)
theorem c_322 : kmck mt_322 in_322 2508 169 = true := by decide +kernel
set_option maxRecDepth 20000 in
theorem r_322_0 : kmr mt_322 in_322 0 48 = true := by decide +kernel
set_option maxRecDepth 20000 in
theorem r_322_48 : kmr mt_322 in_322 48 32 = true := by decide +kernel
theorem q_322 : kmr mt_322 in_322 0 (16 * mt_322.2.2.2.length) = true := kmr_as (kmr_join (r_322_0) r_322_48) (by decide +kernel)
theorem c_323 : kmck mt_323 in_323 2512 169 = true := by decide +kernel
set_option maxRecDepth 20000 in
theorem r_323_0 : kmr mt_323 in_323 0 32 = true := by decide +kernel
theorem q_323 : kmr mt_323 in_323 0 (16 * mt_323.2.2.2.length) = true := kmr_as (r_323_0) (by decide +kernel)
theorem c_324 : kmck mt_324 in_324 2515 169 = true := by decide +kernel
set_option maxRecDepth 20000 in
theorem r_324_0 : kmr mt_324 in_324 0 16 = true := by decide +kernel
theorem q_324 : kmr mt_324 in_324 0 (16 * mt_324.2.2.2.length) = true := kmr_as (r_324_0) (by decide +kernel)
theorem c_325 : kmck mt_325 in_325 2504 169 = true := by decide +kernel
set_option maxRecDepth 20000 in
theorem r_325_0 : kmr mt_325 in_325 0 48 = true := by decide +kernel
set_option maxRecDepth 20000 in
theorem r_325_48 : kmr mt_325 in_325 48 32 = true := by decide +kernel
theorem q_325 : kmr mt_325 in_325 0 (16 * mt_325.2.2.2.length) = true := kmr_as (kmr_join (r_325_0) r_325_48) (by decide +kernel)
theorem c_326 : kmck mt_326 in_326 2500 169 = true := by decide +kernel
set_option maxRecDepth 20000 in
theorem r_326_0 : kmr mt_326 in_326 0 48 = true := by decide +kernel
set_option maxRecDepth 20000 in
theorem r_326_48 : kmr mt_326 in_326 48 32 = true := by decide +kernel
theorem q_326 : kmr mt_326 in_326 0 (16 * mt_326.2.2.2.length) = true := kmr_as (kmr_join (r_326_0) r_326_48) (by decide +kernel)
theorem c_327 : kmck mt_327 in_327 2521 169 = true := by decide +kernel
set_option maxRecDepth 20000 in
theorem r_327_0 : kmr mt_327 in_327 0 32 = true := by decide +kernel
theorem q_327 : kmr mt_327 in_327 0 (16 * mt_327.2.2.2.length) = true := kmr_as (r_327_0) (by decide +kernel)
theorem c_328 : kmck mt_328 in_328 2518 169 = true := by decide +kernel
set_option maxRecDepth 20000 in
theorem r_328_0 : kmr mt_328 in_328 0 16 = true := by decide +kernel
theorem q_328 : kmr mt_328 in_328 0 (16 * mt_328.2.2.2.length) = true := kmr_as (r_328_0) (by decide +kernel)
theorem c_329 : kmck mt_329 in_329 2496 169 = true := by decide +kernel
set_option maxRecDepth 20000 in
theorem r_329_0 : kmr mt_329 in_329 0 48 = true := by decide +kernel
set_option maxRecDepth 20000 in
theorem r_329_48 : kmr mt_329 in_329 48 48 = true := by decide +kernel
theorem q_329 : kmr mt_329 in_329 0 (16 * mt_329.2.2.2.length) = true := kmr_as (kmr_join (r_329_0) r_329_48) (by decide +kernel)
theorem c_330 : kmck mt_330 in_330 2529 169 = true := by decide +kernel
set_option maxRecDepth 20000 in
theorem r_330_0 : kmr mt_330 in_330 0 48 = true := by decide +kernel
set_option maxRecDepth 20000 in
theorem r_330_48 : kmr mt_330 in_330 48 32 = true := by decide +kernel
theorem q_330 : kmr mt_330 in_330 0 (16 * mt_330.2.2.2.length) = true := kmr_as (kmr_join (r_330_0) r_330_48) (by decide +kernel)
theorem c_331 : kmck mt_331 in_331 2532 169 = true := by decide +kernel
set_option maxRecDepth 20000 in
theorem r_331_0 : kmr mt_331 in_331 0 32 = true := by decide +kernel
theorem q_331 : kmr mt_331 in_331 0 (16 * mt_331.2.2.2.length) = true := kmr_as (r_331_0) (by decide +kernel)
theorem c_332 : kmck mt_332 in_332 2525 169 = true := by decide +kernel
set_option maxRecDepth 20000 in
theorem r_332_0 : kmr mt_332 in_332 0 48 = true := by decide +kernel
set_option maxRecDepth 20000 in
theorem r_332_48 : kmr mt_332 in_332 48 32 = true := by decide +kernel
theorem q_332 : kmr mt_332 in_332 0 (16 * mt_332.2.2.2.length) = true := kmr_as (kmr_join (r_332_0) r_332_48) (by decide +kernel)
theorem c_333 : kmck mt_333 in_333 2537 169 = true := by decide +kernel
set_option maxRecDepth 20000 in
theorem r_333_0 : kmr mt_333 in_333 0 48 = true := by decide +kernel
theorem q_333 : kmr mt_333 in_333 0 (16 * mt_333.2.2.2.length) = true := kmr_as (r_333_0) (by decide +kernel)
theorem c_334 : kmck mt_334 in_334 2545 169 = true := kmc2_ok (by decide +kernel)
set_option maxRecDepth 20000 in
theorem r_334_0 : kmr mt_334 in_334 0 48 = true := by decide +kernel
set_option maxRecDepth 20000 in
theorem r_334_48 : kmr mt_334 in_334 48 48 = true := by decide +kernel
set_option maxRecDepth 20000 in
theorem r_334_96 : kmr mt_334 in_334 96 48 = true := by decide +kernel
set_option maxRecDepth 20000 in
theorem r_334_144 : kmr mt_334 in_334 144 16 = true := by decide +kernel
theorem q_334 : kmr mt_334 in_334 0 (16 * mt_334.2.2.2.length) = true := kmr_as (kmr_join (kmr_join (kmr_join (r_334_0) r_334_48) r_334_96) r_334_144) (by decide +kernel)
theorem c_335 : kmck mt_335 in_335 2549 169 = true := kmc2_ok (by decide +kernel)
set_option maxRecDepth 20000 in
theorem r_335_0 : kmr mt_335 in_335 0 48 = true := by decide +kernel
set_option maxRecDepth 20000 in
theorem r_335_48 : kmr mt_335 in_335 48 48 = true := by decide +kernel
set_option maxRecDepth 20000 in
theorem r_335_96 : kmr mt_335 in_335 96 32 = true := by decide +kernel
theorem q_335 : kmr mt_335 in_335 0 (16 * mt_335.2.2.2.length) = true := kmr_as (kmr_join (kmr_join (r_335_0) r_335_48) r_335_96) (by decide +kernel)
