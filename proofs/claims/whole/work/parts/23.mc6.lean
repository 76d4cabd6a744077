set_option maxRecDepth 20000 in
theorem c_336 : kmck mt_336 in_336 2541 169 = true := by decide +kernel
set_option maxRecDepth 20000 in
theorem c_337 : kmck mt_337 in_337 2553 169 = true := by decide +kernel
set_option maxRecDepth 20000 in
theorem c_338 : kmck mt_338 in_338 2565 169 = true := by decide +kernel
set_option maxRecDepth 20000 in
theorem c_339 : kmck mt_339 in_339 2561 169 = true := by decide +kernel
set_option maxRecDepth 20000 in
theorem c_340 : kmck mt_340 in_340 2557 169 = true := by decide +kernel
set_option maxRecDepth 20000 in
theorem c_341 : kmck mt_341 in_341 2569 169 = true := by decide +kernel
set_option maxRecDepth 20000 in
theorem c_342 : kmck mt_342 in_342 2577 169 = true := by decide +kernel
set_option maxRecDepth 20000 in
theorem c_343 : kmck mt_343 in_343 2573 169 = true := by decide +kernel
set_option maxRecDepth 20000 in
theorem c_344 : kmck mt_344 in_344 2396 169 = true := by decide +kernel
set_option maxRecDepth 20000 in
theorem c_345 : kmck mt_345 in_345 2581 169 = true := by decide +kernel
set_option maxRecDepth 20000 in
theorem c_346 : kmck mt_346 in_346 2585 169 = true := by decide +kernel
set_option maxRecDepth 20000 in
theorem c_347 : kmck mt_347 in_347 2589 169 = true := by decide +kernel
set_option maxRecDepth 20000 in
theorem c_348 : kmck mt_348 in_348 2593 169 = true := by decide +kernel
set_option maxRecDepth 20000 in
theorem c_349 : kmck mt_349 in_349 2400 169 = true := by decide +kernel
set_option maxRecDepth 20000 in
theorem c_350 : kmck mt_350 in_350 2597 169 = true := by decide +kernel
set_option maxRecDepth 20000 in
theorem c_351 : kmck mt_351 in_351 2601 169 = true := by decide +kernel
set_option maxRecDepth 20000 in
theorem c_352 : kmck mt_352 in_352 2609 169 = true := by decide +kernel
set_option maxRecDepth 20000 in
theorem c_353 : kmck mt_353 in_353 2605 169 = true := by decide +kernel
set_option maxRecDepth 20000 in
theorem c_354 : kmck mt_354 in_354 2621 169 = true := by decide +kernel
set_option maxRecDepth 20000 in
theorem c_355 : kmck mt_355 in_355 2617 169 = true := by decide +kernel
set_option maxRecDepth 20000 in
theorem c_356 : kmck mt_356 in_356 2625 169 = true := by decide +kernel
set_option maxRecDepth 20000 in
theorem c_357 : kmck mt_357 in_357 2613 169 = true := by decide +kernel
set_option maxRecDepth 20000 in
theorem c_358 : kmck mt_358 in_358 2630 169 = true := by decide +kernel
set_option maxRecDepth 20000 in
theorem c_359 : kmck mt_359 in_359 2634 169 = true := by decide +kernel
set_option maxRecDepth 20000 in
theorem c_360 : kmck mt_360 in_360 2642 169 = true := by decide +kernel
set_option maxRecDepth 20000 in
theorem c_361 : kmck mt_361 in_361 2638 169 = true := by decide +kernel
set_option maxRecDepth 20000 in
theorem c_362 : kmck mt_362 in_362 2650 169 = true := by decide +kernel
set_option maxRecDepth 20000 in
theorem c_363 : kmck mt_363 in_363 2646 169 = true := by decide +kernel
set_option maxRecDepth 20000 in
theorem c_364 : kmck mt_364 in_364 2654 169 = true := by decide +kernel
set_option maxRecDepth 20000 in
theorem c_365 : kmck mt_365 in_365 2658 169 = true := by decide +kernel
set_option maxRecDepth 20000 in
theorem c_366 : kmck mt_366 in_366 2662 169 = true := by decide +kernel
set_option maxRecDepth 20000 in
theorem c_367 : kmck mt_367 in_367 2666 169 = true := by decide +kernel
set_option maxRecDepth 20000 in
theorem c_368 : kmck mt_368 in_368 2680 169 = true := by decide +kernel
set_option maxRecDepth 20000 in
theorem c_369 : kmck mt_369 in_369 2674 169 = true := by decide +kernel
set_option maxRecDepth 20000 in
theorem c_370 : kmck mt_370 in_370 2670 169 = true := by decide +kernel
set_option maxRecDepth 20000 in
theorem c_371 : kmck mt_371 in_371 2684 169 = true := by decide +kernel
set_option maxRecDepth 20000 in
theorem c_372 : kmck mt_372 in_372 2696 169 = true := by decide +kernel
set_option maxRecDepth 20000 in
theorem c_373 : kmck mt_373 in_373 2692 169 = true := by decide +kernel
set_option maxRecDepth 20000 in
theorem c_374 : kmck mt_374 in_374 2688 169 = true := by decide +kernel
set_option maxRecDepth 20000 in
theorem c_375 : kmck mt_375 in_375 2702 169 = true := by decide +kernel
set_option maxRecDepth 20000 in
theorem c_376 : kmck mt_376 in_376 2706 169 = true := by decide +kernel
set_option maxRecDepth 20000 in
theorem c_377 : kmck mt_377 in_377 1202 181 = true := by decide +kernel
set_option maxRecDepth 20000 in
theorem c_378 : kmck mt_378 in_378 1020 176 = true := by decide +kernel
set_option maxRecDepth 20000 in
theorem c_379 : kmck mt_379 in_379 200 159 = true := by decide +kernel
set_option maxRecDepth 20000 in
theorem c_380 : kmck mt_380 in_380 1339 159 = true := by decide +kernel
set_option maxRecDepth 20000 in
theorem c_381 : kmck mt_381 in_381 876 159 = true := by decide +kernel
set_option maxRecDepth 20000 in
theorem c_382 : kmck mt_382 in_382 353 161 = true := by decide +kernel
set_option maxRecDepth 20000 in
theorem c_383 : kmck mt_383 in_383 233 161 = true := by decide +kernel
