theorem c_336 : kmck mt_336 in_336 2541 169 = true := by decide +kernel
set_option maxRecDepth 20000 in
theorem r_336_0 : kmr mt_336 in_336 0 32 = true := by decide +kernel
theorem q_336 : kmr mt_336 in_336 0 (16 * mt_336.2.2.2.length) = true := kmr_as (r_336_0) (by decide +kernel)
theorem c_337 : kmck mt_337 in_337 2553 169 = true := by decide +kernel
set_option maxRecDepth 20000 in
theorem r_337_0 : kmr mt_337 in_337 0 48 = true := by decide +kernel
set_option maxRecDepth 20000 in
theorem r_337_48 : kmr mt_337 in_337 48 16 = true := by decide +kernel
theorem q_337 : kmr mt_337 in_337 0 (16 * mt_337.2.2.2.length) = true := kmr_as (kmr_join (r_337_0) r_337_48) (by decide +kernel)
theorem c_338 : kmck mt_338 in_338 2565 169 = true := by decide +kernel
set_option maxRecDepth 20000 in
theorem r_338_0 : kmr mt_338 in_338 0 48 = true := by decide +kernel
set_option maxRecDepth 20000 in
theorem r_338_48 : kmr mt_338 in_338 48 48 = true := by decide +kernel
theorem q_338 : kmr mt_338 in_338 0 (16 * mt_338.2.2.2.length) = true := kmr_as (kmr_join (r_338_0) r_338_48) (by decide +kernel)
theorem c_339 : kmck mt_339 in_339 2561 169 = true := by decide +kernel
set_option maxRecDepth 20000 in
theorem r_339_0 : kmr mt_339 in_339 0 32 = true := by decide +kernel
theorem q_339 : kmr mt_339 in_339 0 (16 * mt_339.2.2.2.length) = true := kmr_as (r_339_0) (by decide +kernel)
theorem c_340 : kmck mt_340 in_340 2557 169 = true := by decide +kernel
set_option maxRecDepth 20000 in
theorem r_340_0 : kmr mt_340 in_340 0 48 = true := by decide +kernel
set_option maxRecDepth 20000 in
theorem r_340_48 : kmr mt_340 in_340 48 32 = true := by decide +kernel
theorem q_340 : kmr mt_340 in_340 0 (16 * mt_340.2.2.2.length) = true := kmr_as (kmr_join (r_340_0) r_340_48) (by decide +kernel)
theorem c_341 : kmck mt_341 in_341 2569 169 = true := by decide +kernel
set_option maxRecDepth 20000 in
theorem r_341_0 : kmr mt_341 in_341 0 32 = true := by decide +kernel
theorem q_341 : kmr mt_341 in_341 0 (16 * mt_341.2.2.2.length) = true := kmr_as (r_341_0) (by decide +kernel)
theorem c_342 : kmck mt_342 in_342 2577 169 = true := by decide +kernel
set_option maxRecDepth 20000 in
theorem r_342_0 : kmr mt_342 in_342 0 48 = true := by decide +kernel
set_option maxRecDepth 20000 in
theorem r_342_48 : kmr mt_342 in_342 48 16 = true := by decide +kernel
theorem q_342 : kmr mt_342 in_342 0 (16 * mt_342.2.2.2.length) = true := kmr_as (kmr_join (r_342_0) r_342_48) (by decide +kernel)
theorem c_343 : kmck mt_343 in_343 2573 169 = true := kmc2_ok (by decide +kernel)
set_option maxRecDepth 20000 in
theorem r_343_0 : kmr mt_343 in_343 0 48 = true := by decide +kernel
set_option maxRecDepth 20000 in
theorem r_343_48 : kmr mt_343 in_343 48 48 = true := by decide +kernel
set_option maxRecDepth 20000 in
theorem r_343_96 : kmr mt_343 in_343 96 16 = true := by decide +kernel
theorem q_343 : kmr mt_343 in_343 0 (16 * mt_343.2.2.2.length) = true := kmr_as (kmr_join (kmr_join (r_343_0) r_343_48) r_343_96) (by decide +kernel)
theorem c_344 : kmck mt_344 in_344 2396 169 = true := by decide +kernel
set_option maxRecDepth 20000 in
theorem r_344_0 : kmr mt_344 in_344 0 48 = true := by decide +kernel
theorem q_344 : kmr mt_344 in_344 0 (16 * mt_344.2.2.2.length) = true := kmr_as (r_344_0) (by decide +kernel)
theorem c_345 : kmck mt_345 in_345 2581 169 = true := by decide +kernel
set_option maxRecDepth 20000 in
theorem r_345_0 : kmr mt_345 in_345 0 48 = true := by decide +kernel
set_option maxRecDepth 20000 in
theorem r_345_48 : kmr mt_345 in_345 48 48 = true := by decide +kernel
theorem q_345 : kmr mt_345 in_345 0 (16 * mt_345.2.2.2.length) = true := kmr_as (kmr_join (r_345_0) r_345_48) (by decide +kernel)
theorem c_346 : kmck mt_346 in_346 2585 169 = true := by decide +kernel
set_option maxRecDepth 20000 in
theorem r_346_0 : kmr mt_346 in_346 0 32 = true := by decide +kernel
theorem q_346 : kmr mt_346 in_346 0 (16 * mt_346.2.2.2.length) = true := kmr_as (r_346_0) (by decide +kernel)
theorem c_347 : kmck mt_347 in_347 2589 169 = true := by decide +kernel
set_option maxRecDepth 20000 in
theorem r_347_0 : kmr mt_347 in_347 0 48 = true := by decide +kernel
set_option maxRecDepth 20000 in
theorem r_347_48 : kmr mt_347 in_347 48 48 = true := by decide +kernel
theorem q_347 : kmr mt_347 in_347 0 (16 * mt_347.2.2.2.length) = true := kmr_as (kmr_join (r_347_0) r_347_48) (by decide +kernel)
theorem c_348 : kmck mt_348 in_348 2593 169 = true := by decide +kernel
set_option maxRecDepth 20000 in
theorem r_348_0 : kmr mt_348 in_348 0 48 = true := by decide +kernel
set_option maxRecDepth 20000 in
theorem r_348_48 : kmr mt_348 in_348 48 32 = true := by decide +kernel
theorem q_348 : kmr mt_348 in_348 0 (16 * mt_348.2.2.2.length) = true := kmr_as (kmr_join (r_348_0) r_348_48) (by decide +kernel)
theorem c_349 : kmck mt_349 in_349 2400 169 = true := by decide +kernel
set_option maxRecDepth 20000 in
theorem r_349_0 : kmr mt_349 in_349 0 48 = true := by decide +kernel
set_option maxRecDepth 20000 in
theorem r_349_48 : kmr mt_349 in_349 48 16 = true := by decide +kernel
theorem q_349 : kmr mt_349 in_349 0 (16 * mt_349.2.2.2.length) = true := kmr_as (kmr_join (r_349_0) r_349_48) (by decide +kernel)
theorem c_350 : kmck mt_350 in_350 2597 169 = true := by decide +kernel
set_option maxRecDepth 20000 in
theorem r_350_0 : kmr mt_350 in_350 0 48 = true := by decide +kernel
set_option maxRecDepth 20000 in
theorem r_350_48 : kmr mt_350 in_350 48 16 = true := by decide +kernel
theorem q_350 : kmr mt_350 in_350 0 (16 * mt_350.2.2.2.length) = true := kmr_as (kmr_join (r_350_0) r_350_48) (by decide +kernel)
theorem c_351 : kmck mt_351 in_351 2601 169 = true := by decide +kernel
set_option maxRecDepth 20000 in
theorem r_351_0 : kmr mt_351 in_351 0 48 = true := by decide +kernel
set_option maxRecDepth 20000 in
theorem r_351_48 : kmr mt_351 in_351 48 16 = true := by decide +kernel
theorem q_351 : kmr mt_351 in_351 0 (16 * mt_351.2.2.2.length) = true := kmr_as (kmr_join (r_351_0) r_351_48) (by decide +kernel)
theorem c_352 : kmck mt_352 in_352 2609 169 = true := by decide +kernel
set_option maxRecDepth 20000 in
theorem r_352_0 : kmr mt_352 in_352 0 48 = true := by decide +kernel
set_option maxRecDepth 20000 in
theorem r_352_48 : kmr mt_352 in_352 48 48 = true := by decide +kernel
theorem q_352 : kmr mt_352 in_352 0 (16 * mt_352.2.2.2.length) = true := kmr_as (kmr_join (r_352_0) r_352_48) (by decide +kernel)
theorem c_353 : kmck mt_353 in_353 2605 169 = true := by decide +kernel
set_option maxRecDepth 20000 in
theorem r_353_0 : kmr mt_353 in_353 0 48 = true := by decide +kernel
theorem q_353 : kmr mt_353 in_353 0 (16 * mt_353.2.2.2.length) = true := kmr_as (r_353_0) (by decide +kernel)
theorem c_354 : kmck mt_354 in_354 2621 169 = true := by decide +kernel
set_option maxRecDepth 20000 in
theorem r_354_0 : kmr mt_354 in_354 0 16 = true := by decide +kernel
theorem q_354 : kmr mt_354 in_354 0 (16 * mt_354.2.2.2.length) = true := kmr_as (r_354_0) (by decide +kernel)
theorem c_355 : kmck mt_355 in_355 2617 169 = true := by decide +kernel
set_option maxRecDepth 20000 in
theorem r_355_0 : kmr mt_355 in_355 0 48 = true := by decide +kernel
set_option maxRecDepth 20000 in
theorem r_355_48 : kmr mt_355 in_355 48 16 = true := by decide +kernel
theorem q_355 : kmr mt_355 in_355 0 (16 * mt_355.2.2.2.length) = true := kmr_as (kmr_join (r_355_0) r_355_48) (by decide +kernel)
theorem c_356 : kmck mt_356 in_356 2625 169 = true := by decide +kernel
set_option maxRecDepth 20000 in
theorem r_356_0 : kmr mt_356 in_356 0 48 = true := by decide +kernel
theorem q_356 : kmr mt_356 in_356 0 (16 * mt_356.2.2.2.length) = true := kmr_as (r_356_0) (by decide +kernel)
theorem c_357 : kmck mt_357 in_357 2613 169 = true := by decide +kernel
set_option maxRecDepth 20000 in
theorem r_357_0 : kmr mt_357 in_357 0 32 = true := by decide +kernel
theorem q_357 : kmr mt_357 in_357 0 (16 * mt_357.2.2.2.length) = true := kmr_as (r_357_0) (by decide +kernel)
theorem c_358 : kmck mt_358 in_358 2630 169 = true := by decide +kernel
set_option maxRecDepth 20000 in
theorem r_358_0 : kmr mt_358 in_358 0 48 = true := by decide +kernel
theorem q_358 : kmr mt_358 in_358 0 (16 * mt_358.2.2.2.length) = true := kmr_as (r_358_0) (by decide +kernel)
theorem c_359 : kmck mt_359 in_359 2634 169 = true := by decide +kernel
set_option maxRecDepth 20000 in
theorem r_359_0 : kmr mt_359 in_359 0 48 = true := by decide +kernel
set_option maxRecDepth 20000 in
theorem r_359_48 : kmr mt_359 in_359 48 48 = true := by decide +kernel
theorem q_359 : kmr mt_359 in_359 0 (16 * mt_359.2.2.2.length) = true := kmr_as (kmr_join (r_359_0) r_359_48) (by decide +kernel)
theorem c_360 : kmck mt_360 in_360 2642 169 = true := by decide +kernel
set_option maxRecDepth 20000 in
theorem r_360_0 : kmr mt_360 in_360 0 48 = true := by decide +kernel
set_option maxRecDepth 20000 in
theorem r_360_48 : kmr mt_360 in_360 48 16 = true := by decide +kernel
theorem q_360 : kmr mt_360 in_360 0 (16 * mt_360.2.2.2.length) = true := kmr_as (kmr_join (r_360_0) r_360_48) (by decide +kernel)
theorem c_361 : kmck mt_361 in_361 2638 169 = true := by decide +kernel
set_option maxRecDepth 20000 in
theorem r_361_0 : kmr mt_361 in_361 0 48 = true := by decide +kernel
set_option maxRecDepth 20000 in
theorem r_361_48 : kmr mt_361 in_361 48 32 = true := by decide +kernel
theorem q_361 : kmr mt_361 in_361 0 (16 * mt_361.2.2.2.length) = true := kmr_as (kmr_join (r_361_0) r_361_48) (by decide +kernel)
theorem c_362 : kmck mt_362 in_362 2650 169 = true := by decide +kernel
set_option maxRecDepth 20000 in
theorem r_362_0 : kmr mt_362 in_362 0 16 = true := by decide +kernel
theorem q_362 : kmr mt_362 in_362 0 (16 * mt_362.2.2.2.length) = true := kmr_as (r_362_0) (by decide +kernel)
theorem c_363 : kmck mt_363 in_363 2646 169 = true := by decide +kernel
set_option maxRecDepth 20000 in
theorem r_363_0 : kmr mt_363 in_363 0 48 = true := by decide +kernel
set_option maxRecDepth 20000 in
theorem r_363_48 : kmr mt_363 in_363 48 16 = true := by decide +kernel
theorem q_363 : kmr mt_363 in_363 0 (16 * mt_363.2.2.2.length) = true := kmr_as (kmr_join (r_363_0) r_363_48) (by decide +kernel)
theorem c_364 : kmck mt_364 in_364 2654 169 = true := by decide +kernel
set_option maxRecDepth 20000 in
theorem r_364_0 : kmr mt_364 in_364 0 48 = true := by decide +kernel
set_option maxRecDepth 20000 in
theorem r_364_48 : kmr mt_364 in_364 48 32 = true := by decide +kernel
theorem q_364 : kmr mt_364 in_364 0 (16 * mt_364.2.2.2.length) = true := kmr_as (kmr_join (r_364_0) r_364_48) (by decide +kernel)
theorem c_365 : kmck mt_365 in_365 2658 169 = true := by decide +kernel
set_option maxRecDepth 20000 in
theorem r_365_0 : kmr mt_365 in_365 0 48 = true := by decide +kernel
set_option maxRecDepth 20000 in
theorem r_365_48 : kmr mt_365 in_365 48 16 = true := by decide +kernel
theorem q_365 : kmr mt_365 in_365 0 (16 * mt_365.2.2.2.length) = true := kmr_as (kmr_join (r_365_0) r_365_48) (by decide +kernel)
theorem c_366 : kmck mt_366 in_366 2662 169 = true := by decide +kernel
set_option maxRecDepth 20000 in
theorem r_366_0 : kmr mt_366 in_366 0 48 = true := by decide +kernel
set_option maxRecDepth 20000 in
theorem r_366_48 : kmr mt_366 in_366 48 48 = true := by decide +kernel
theorem q_366 : kmr mt_366 in_366 0 (16 * mt_366.2.2.2.length) = true := kmr_as (kmr_join (r_366_0) r_366_48) (by decide +kernel)
theorem c_367 : kmck mt_367 in_367 2666 169 = true := by decide +kernel
set_option maxRecDepth 20000 in
theorem r_367_0 : kmr mt_367 in_367 0 16 = true := by decide +kernel
theorem q_367 : kmr mt_367 in_367 0 (16 * mt_367.2.2.2.length) = true := kmr_as (r_367_0) (by decide +kernel)
theorem c_368 : kmck mt_368 in_368 2680 169 = true := by decide +kernel
set_option maxRecDepth 20000 in
theorem r_368_0 : kmr mt_368 in_368 0 48 = true := by decide +kernel
theorem q_368 : kmr mt_368 in_368 0 (16 * mt_368.2.2.2.length) = true := kmr_as (r_368_0) (by decide +kernel)
theorem c_369 : kmck mt_369 in_369 2674 169 = true := kmc2_ok (by decide +kernel)
set_option maxRecDepth 20000 in
theorem r_369_0 : kmr mt_369 in_369 0 48 = true := by decide +kernel
set_option maxRecDepth 20000 in
theorem r_369_48 : kmr mt_369 in_369 48 48 = true := by decide +kernel
set_option maxRecDepth 20000 in
theorem r_369_96 : kmr mt_369 in_369 96 48 = true := by decide +kernel
set_option maxRecDepth 20000 in
theorem r_369_144 : kmr mt_369 in_369 144 48 = true := by decide +kernel
set_option maxRecDepth 20000 in
theorem r_369_192 : kmr mt_369 in_369 192 48 = true := by decide +kernel
set_option maxRecDepth 20000 in
theorem r_369_240 : kmr mt_369 in_369 240 32 = true := by decide +kernel
theorem q_369 : kmr mt_369 in_369 0 (16 * mt_369.2.2.2.length) = true := kmr_as (kmr_join (kmr_join (kmr_join (kmr_join (kmr_join (r_369_0) r_369_48) r_369_96) r_369_144) r_369_192) r_369_240) (by decide +kernel)
theorem c_370 : kmck mt_370 in_370 2670 169 = true := by decide +kernel
set_option maxRecDepth 20000 in
theorem r_370_0 : kmr mt_370 in_370 0 32 = true := by decide +kernel
theorem q_370 : kmr mt_370 in_370 0 (16 * mt_370.2.2.2.length) = true := kmr_as (r_370_0) (by decide +kernel)
theorem c_371 : kmck mt_371 in_371 2684 169 = true := by decide +kernel
set_option maxRecDepth 20000 in
theorem r_371_0 : kmr mt_371 in_371 0 32 = true := by decide +kernel
theorem q_371 : kmr mt_371 in_371 0 (16 * mt_371.2.2.2.length) = true := kmr_as (r_371_0) (by decide +kernel)
theorem c_372 : kmck mt_372 in_372 2696 169 = true := by decide +kernel
set_option maxRecDepth 20000 in
theorem r_372_0 : kmr mt_372 in_372 0 32 = true := by decide +kernel
theorem q_372 : kmr mt_372 in_372 0 (16 * mt_372.2.2.2.length) = true := kmr_as (r_372_0) (by decide +kernel)
theorem c_373 : kmck mt_373 in_373 2692 169 = true := by decide +kernel
set_option maxRecDepth 20000 in
theorem r_373_0 : kmr mt_373 in_373 0 48 = true := by decide +kernel
set_option maxRecDepth 20000 in
theorem r_373_48 : kmr mt_373 in_373 48 16 = true := by decide +kernel
theorem q_373 : kmr mt_373 in_373 0 (16 * mt_373.2.2.2.length) = true := kmr_as (kmr_join (r_373_0) r_373_48) (by decide +kernel)
theorem c_374 : kmck mt_374 in_374 2688 169 = true := by decide +kernel
set_option maxRecDepth 20000 in
theorem r_374_0 : kmr mt_374 in_374 0 48 = true := by decide +kernel
set_option maxRecDepth 20000 in
theorem r_374_48 : kmr mt_374 in_374 48 16 = true := by decide +kernel
theorem q_374 : kmr mt_374 in_374 0 (16 * mt_374.2.2.2.length) = true := kmr_as (kmr_join (r_374_0) r_374_48) (by decide +kernel)
theorem c_375 : kmck mt_375 in_375 2702 169 = true := kmc2_ok (by decide +kernel)
set_option maxRecDepth 20000 in
theorem r_375_0 : kmr mt_375 in_375 0 48 = true := by decide +kernel
set_option maxRecDepth 20000 in
theorem r_375_48 : kmr mt_375 in_375 48 48 = true := by decide +kernel
set_option maxRecDepth 20000 in
theorem r_375_96 : kmr mt_375 in_375 96 48 = true := by decide +kernel
theorem q_375 : kmr mt_375 in_375 0 (16 * mt_375.2.2.2.length) = true := kmr_as (kmr_join (kmr_join (r_375_0) r_375_48) r_375_96) (by decide +kernel)
theorem c_376 : kmck mt_376 in_376 2706 169 = true := kmc2_ok (by decide +kernel)
set_option maxRecDepth 20000 in
theorem r_376_0 : kmr mt_376 in_376 0 48 = true := by decide +kernel
set_option maxRecDepth 20000 in
theorem r_376_48 : kmr mt_376 in_376 48 48 = true := by decide +kernel
set_option maxRecDepth 20000 in
theorem r_376_96 : kmr mt_376 in_376 96 32 = true := by decide +kernel
theorem q_376 : kmr mt_376 in_376 0 (16 * mt_376.2.2.2.length) = true := kmr_as (kmr_join (kmr_join (r_376_0) r_376_48) r_376_96) (by decide +kernel)
theorem c_377 : kmck mt_377 in_377 1202 181 = true := by decide +kernel
set_option maxRecDepth 20000 in
theorem r_377_0 : kmr mt_377 in_377 0 48 = true := by decide +kernel
theorem q_377 : kmr mt_377 in_377 0 (16 * mt_377.2.2.2.length) = true := kmr_as (r_377_0) (by decide +kernel)
theorem c_378 : kmck mt_378 in_378 1020 176 = true := by decide +kernel
set_option maxRecDepth 20000 in
theorem r_378_0 : kmr mt_378 in_378 0 48 = true := by decide +kernel
set_option maxRecDepth 20000 in
theorem r_378_48 : kmr mt_378 in_378 48 16 = true := by decide +kernel
theorem q_378 : kmr mt_378 in_378 0 (16 * mt_378.2.2.2.length) = true := kmr_as (kmr_join (r_378_0) r_378_48) (by decide +kernel)
set_option maxRecDepth 20000 in
theorem r_379_0 : kmr mt_379 in_379 0 16 = true := by decide +kernel
theorem q_379 : kmr mt_379 in_379 0 (16 * mt_379.2.2.2.length) = true := kmr_as (r_379_0) (by decide +kernel)
set_option maxRecDepth 20000 in
theorem r_380_0 : kmr mt_380 in_380 0 16 = true := by decide +kernel
theorem q_380 : kmr mt_380 in_380 0 (16 * mt_380.2.2.2.length) = true := kmr_as (r_380_0) (by decide +kernel)
set_option maxRecDepth 20000 in
theorem r_381_0 : kmr mt_381 in_381 0 16 = true := by decide +kernel
theorem q_381 : kmr mt_381 in_381 0 (16 * mt_381.2.2.2.length) = true := kmr_as (r_381_0) (by decide +kernel)
theorem c_382 : kmck mt_382 in_382 353 161 = true := by decide +kernel
set_option maxRecDepth 20000 in
theorem r_382_0 : kmr mt_382 in_382 0 16 = true := by decide +kernel
theorem q_382 : kmr mt_382 in_382 0 (16 * mt_382.2.2.2.length) = true := kmr_as (r_382_0) (by decide +kernel)
theorem c_383 : kmck mt_383 in_383 233 161 = true := by decide +kernel
set_option maxRecDepth 20000 in
theorem r_383_0 : kmr mt_383 in_383 0 16 = true := by decide +kernel
theorem q_383 : kmr mt_383 in_383 0 (16 * mt_383.2.2.2.length) = true := kmr_as (r_383_0) (by decide +kernel)
