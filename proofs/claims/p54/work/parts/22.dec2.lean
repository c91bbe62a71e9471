theorem okD_325 : (List.range 413).all (fun pc => chO 325 pc) = true := by decide +kernel
theorem okE_325 : ∀ pc, chO 325 pc = true := okG okD_325 (fun pc h => by show (bif Nat.blt pc 413 then _ else none) = none; rw [h]; rfl)
theorem okD_326 : (List.range 10).all (fun pc => chO 326 pc) = true := by decide +kernel
theorem okE_326 : ∀ pc, chO 326 pc = true := okG okD_326 (fun pc h => by show (bif Nat.blt pc 10 then _ else none) = none; rw [h]; rfl)
theorem okD_327 : (List.range 121).all (fun pc => chO 327 pc) = true := by decide +kernel
theorem okE_327 : ∀ pc, chO 327 pc = true := okG okD_327 (fun pc h => by show (bif Nat.blt pc 121 then _ else none) = none; rw [h]; rfl)
theorem okD_328 : (List.range 121).all (fun pc => chO 328 pc) = true := by decide +kernel
theorem okE_328 : ∀ pc, chO 328 pc = true := okG okD_328 (fun pc h => by show (bif Nat.blt pc 121 then _ else none) = none; rw [h]; rfl)
theorem okD_329 : (List.range 121).all (fun pc => chO 329 pc) = true := by decide +kernel
theorem okE_329 : ∀ pc, chO 329 pc = true := okG okD_329 (fun pc h => by show (bif Nat.blt pc 121 then _ else none) = none; rw [h]; rfl)
theorem okD_330 : (List.range 121).all (fun pc => chO 330 pc) = true := by decide +kernel
theorem okE_330 : ∀ pc, chO 330 pc = true := okG okD_330 (fun pc h => by show (bif Nat.blt pc 121 then _ else none) = none; rw [h]; rfl)
theorem okD_331 : (List.range 121).all (fun pc => chO 331 pc) = true := by decide +kernel
theorem okE_331 : ∀ pc, chO 331 pc = true := okG okD_331 (fun pc h => by show (bif Nat.blt pc 121 then _ else none) = none; rw [h]; rfl)
theorem okD_332 : (List.range 121).all (fun pc => chO 332 pc) = true := by decide +kernel
theorem okE_332 : ∀ pc, chO 332 pc = true := okG okD_332 (fun pc h => by show (bif Nat.blt pc 121 then _ else none) = none; rw [h]; rfl)
theorem okD_333 : (List.range 121).all (fun pc => chO 333 pc) = true := by decide +kernel
theorem okE_333 : ∀ pc, chO 333 pc = true := okG okD_333 (fun pc h => by show (bif Nat.blt pc 121 then _ else none) = none; rw [h]; rfl)
theorem okD_334 : (List.range 522).all (fun pc => chO 334 pc) = true := by decide +kernel
theorem okE_334 : ∀ pc, chO 334 pc = true := okG okD_334 (fun pc h => by show (bif Nat.blt pc 522 then _ else none) = none; rw [h]; rfl)
theorem okD_335 : (List.range 516).all (fun pc => chO 335 pc) = true := by decide +kernel
theorem okE_335 : ∀ pc, chO 335 pc = true := okG okD_335 (fun pc h => by show (bif Nat.blt pc 516 then _ else none) = none; rw [h]; rfl)
theorem okD_336 : (List.range 516).all (fun pc => chO 336 pc) = true := by decide +kernel
theorem okE_336 : ∀ pc, chO 336 pc = true := okG okD_336 (fun pc h => by show (bif Nat.blt pc 516 then _ else none) = none; rw [h]; rfl)
theorem okD_337 : (List.range 516).all (fun pc => chO 337 pc) = true := by decide +kernel
theorem okE_337 : ∀ pc, chO 337 pc = true := okG okD_337 (fun pc h => by show (bif Nat.blt pc 516 then _ else none) = none; rw [h]; rfl)
theorem okD_338 : (List.range 516).all (fun pc => chO 338 pc) = true := by decide +kernel
theorem okE_338 : ∀ pc, chO 338 pc = true := okG okD_338 (fun pc h => by show (bif Nat.blt pc 516 then _ else none) = none; rw [h]; rfl)
theorem okD_339 : (List.range 516).all (fun pc => chO 339 pc) = true := by decide +kernel
theorem okE_339 : ∀ pc, chO 339 pc = true := okG okD_339 (fun pc h => by show (bif Nat.blt pc 516 then _ else none) = none; rw [h]; rfl)
theorem okD_340 : (List.range 516).all (fun pc => chO 340 pc) = true := by decide +kernel
theorem okE_340 : ∀ pc, chO 340 pc = true := okG okD_340 (fun pc h => by show (bif Nat.blt pc 516 then _ else none) = none; rw [h]; rfl)
theorem okD_341 : (List.range 516).all (fun pc => chO 341 pc) = true := by decide +kernel
theorem okE_341 : ∀ pc, chO 341 pc = true := okG okD_341 (fun pc h => by show (bif Nat.blt pc 516 then _ else none) = none; rw [h]; rfl)
theorem okD_342 : (List.range 516).all (fun pc => chO 342 pc) = true := by decide +kernel
theorem okE_342 : ∀ pc, chO 342 pc = true := okG okD_342 (fun pc h => by show (bif Nat.blt pc 516 then _ else none) = none; rw [h]; rfl)
theorem okD_343 : (List.range 516).all (fun pc => chO 343 pc) = true := by decide +kernel
theorem okE_343 : ∀ pc, chO 343 pc = true := okG okD_343 (fun pc h => by show (bif Nat.blt pc 516 then _ else none) = none; rw [h]; rfl)
theorem okD_344 : (List.range 516).all (fun pc => chO 344 pc) = true := by decide +kernel
theorem okE_344 : ∀ pc, chO 344 pc = true := okG okD_344 (fun pc h => by show (bif Nat.blt pc 516 then _ else none) = none; rw [h]; rfl)
theorem okD_345 : (List.range 516).all (fun pc => chO 345 pc) = true := by decide +kernel
theorem okE_345 : ∀ pc, chO 345 pc = true := okG okD_345 (fun pc h => by show (bif Nat.blt pc 516 then _ else none) = none; rw [h]; rfl)
theorem okD_346 : (List.range 32).all (fun pc => chO 346 pc) = true := by decide +kernel
theorem okE_346 : ∀ pc, chO 346 pc = true := okG okD_346 (fun pc h => by show (bif Nat.blt pc 32 then _ else none) = none; rw [h]; rfl)
theorem okD_347 : (List.range 10).all (fun pc => chO 347 pc) = true := by decide +kernel
theorem okE_347 : ∀ pc, chO 347 pc = true := okG okD_347 (fun pc h => by show (bif Nat.blt pc 10 then _ else none) = none; rw [h]; rfl)
theorem okD_348 : (List.range 335).all (fun pc => chO 348 pc) = true := by decide +kernel
theorem okE_348 : ∀ pc, chO 348 pc = true := okG okD_348 (fun pc h => by show (bif Nat.blt pc 335 then _ else none) = none; rw [h]; rfl)
theorem okD_349 : (List.range 13).all (fun pc => chO 349 pc) = true := by decide +kernel
theorem okE_349 : ∀ pc, chO 349 pc = true := okG okD_349 (fun pc h => by show (bif Nat.blt pc 13 then _ else none) = none; rw [h]; rfl)
theorem okD_350 : (List.range 10).all (fun pc => chO 350 pc) = true := by decide +kernel
theorem okE_350 : ∀ pc, chO 350 pc = true := okG okD_350 (fun pc h => by show (bif Nat.blt pc 10 then _ else none) = none; rw [h]; rfl)
theorem okD_351 : (List.range 114).all (fun pc => chO 351 pc) = true := by decide +kernel
theorem okE_351 : ∀ pc, chO 351 pc = true := okG okD_351 (fun pc h => by show (bif Nat.blt pc 114 then _ else none) = none; rw [h]; rfl)
theorem okD_352 : (List.range 232).all (fun pc => chO 352 pc) = true := by decide +kernel
theorem okE_352 : ∀ pc, chO 352 pc = true := okG okD_352 (fun pc h => by show (bif Nat.blt pc 232 then _ else none) = none; rw [h]; rfl)
theorem okD_353 : (List.range 29).all (fun pc => chO 353 pc) = true := by decide +kernel
theorem okE_353 : ∀ pc, chO 353 pc = true := okG okD_353 (fun pc h => by show (bif Nat.blt pc 29 then _ else none) = none; rw [h]; rfl)
theorem okD_354 : (List.range 216).all (fun pc => chO 354 pc) = true := by decide +kernel
theorem okE_354 : ∀ pc, chO 354 pc = true := okG okD_354 (fun pc h => by show (bif Nat.blt pc 216 then _ else none) = none; rw [h]; rfl)
theorem okD_355 : (List.range 69).all (fun pc => chO 355 pc) = true := by decide +kernel
theorem okE_355 : ∀ pc, chO 355 pc = true := okG okD_355 (fun pc h => by show (bif Nat.blt pc 69 then _ else none) = none; rw [h]; rfl)
theorem okD_356 : (List.range 271).all (fun pc => chO 356 pc) = true := by decide +kernel
theorem okE_356 : ∀ pc, chO 356 pc = true := okG okD_356 (fun pc h => by show (bif Nat.blt pc 271 then _ else none) = none; rw [h]; rfl)
theorem okD_357 : (List.range 132).all (fun pc => chO 357 pc) = true := by decide +kernel
theorem okE_357 : ∀ pc, chO 357 pc = true := okG okD_357 (fun pc h => by show (bif Nat.blt pc 132 then _ else none) = none; rw [h]; rfl)
theorem okD_358 : (List.range 12).all (fun pc => chO 358 pc) = true := by decide +kernel
theorem okE_358 : ∀ pc, chO 358 pc = true := okG okD_358 (fun pc h => by show (bif Nat.blt pc 12 then _ else none) = none; rw [h]; rfl)
theorem okD_359 : (List.range 7).all (fun pc => chO 359 pc) = true := by decide +kernel
theorem okE_359 : ∀ pc, chO 359 pc = true := okG okD_359 (fun pc h => by show (bif Nat.blt pc 7 then _ else none) = none; rw [h]; rfl)
theorem okD_360 : (List.range 8).all (fun pc => chO 360 pc) = true := by decide +kernel
theorem okE_360 : ∀ pc, chO 360 pc = true := okG okD_360 (fun pc h => by show (bif Nat.blt pc 8 then _ else none) = none; rw [h]; rfl)
theorem okD_361 : (List.range 8).all (fun pc => chO 361 pc) = true := by decide +kernel
theorem okE_361 : ∀ pc, chO 361 pc = true := okG okD_361 (fun pc h => by show (bif Nat.blt pc 8 then _ else none) = none; rw [h]; rfl)
theorem okD_362 : (List.range 9).all (fun pc => chO 362 pc) = true := by decide +kernel
theorem okE_362 : ∀ pc, chO 362 pc = true := okG okD_362 (fun pc h => by show (bif Nat.blt pc 9 then _ else none) = none; rw [h]; rfl)
theorem okD_363 : (List.range 5).all (fun pc => chO 363 pc) = true := by decide +kernel
theorem okE_363 : ∀ pc, chO 363 pc = true := okG okD_363 (fun pc h => by show (bif Nat.blt pc 5 then _ else none) = none; rw [h]; rfl)
theorem okD_364 : (List.range 39).all (fun pc => chO 364 pc) = true := by decide +kernel
theorem okE_364 : ∀ pc, chO 364 pc = true := okG okD_364 (fun pc h => by show (bif Nat.blt pc 39 then _ else none) = none; rw [h]; rfl)
theorem okD_365 : (List.range 45).all (fun pc => chO 365 pc) = true := by decide +kernel
theorem okE_365 : ∀ pc, chO 365 pc = true := okG okD_365 (fun pc h => by show (bif Nat.blt pc 45 then _ else none) = none; rw [h]; rfl)
theorem okD_366 : (List.range 55).all (fun pc => chO 366 pc) = true := by decide +kernel
theorem okE_366 : ∀ pc, chO 366 pc = true := okG okD_366 (fun pc h => by show (bif Nat.blt pc 55 then _ else none) = none; rw [h]; rfl)
theorem okD_367 : (List.range 39).all (fun pc => chO 367 pc) = true := by decide +kernel
theorem okE_367 : ∀ pc, chO 367 pc = true := okG okD_367 (fun pc h => by show (bif Nat.blt pc 39 then _ else none) = none; rw [h]; rfl)
theorem okD_368 : (List.range 5).all (fun pc => chO 368 pc) = true := by decide +kernel
theorem okE_368 : ∀ pc, chO 368 pc = true := okG okD_368 (fun pc h => by show (bif Nat.blt pc 5 then _ else none) = none; rw [h]; rfl)
theorem okD_369 : (List.range 22).all (fun pc => chO 369 pc) = true := by decide +kernel
theorem okE_369 : ∀ pc, chO 369 pc = true := okG okD_369 (fun pc h => by show (bif Nat.blt pc 22 then _ else none) = none; rw [h]; rfl)
theorem okD_370 : (List.range 19).all (fun pc => chO 370 pc) = true := by decide +kernel
theorem okE_370 : ∀ pc, chO 370 pc = true := okG okD_370 (fun pc h => by show (bif Nat.blt pc 19 then _ else none) = none; rw [h]; rfl)
theorem okD_371 : (List.range 5).all (fun pc => chO 371 pc) = true := by decide +kernel
theorem okE_371 : ∀ pc, chO 371 pc = true := okG okD_371 (fun pc h => by show (bif Nat.blt pc 5 then _ else none) = none; rw [h]; rfl)
theorem okD_372 : (List.range 19).all (fun pc => chO 372 pc) = true := by decide +kernel
theorem okE_372 : ∀ pc, chO 372 pc = true := okG okD_372 (fun pc h => by show (bif Nat.blt pc 19 then _ else none) = none; rw [h]; rfl)
theorem okD_373 : (List.range 98).all (fun pc => chO 373 pc) = true := by decide +kernel
theorem okE_373 : ∀ pc, chO 373 pc = true := okG okD_373 (fun pc h => by show (bif Nat.blt pc 98 then _ else none) = none; rw [h]; rfl)
theorem okD_374 : (List.range 7).all (fun pc => chO 374 pc) = true := by decide +kernel
theorem okE_374 : ∀ pc, chO 374 pc = true := okG okD_374 (fun pc h => by show (bif Nat.blt pc 7 then _ else none) = none; rw [h]; rfl)
theorem okD_375 : (List.range 44).all (fun pc => chO 375 pc) = true := by decide +kernel
theorem okE_375 : ∀ pc, chO 375 pc = true := okG okD_375 (fun pc h => by show (bif Nat.blt pc 44 then _ else none) = none; rw [h]; rfl)
theorem okD_376 : (List.range 47).all (fun pc => chO 376 pc) = true := by decide +kernel
theorem okE_376 : ∀ pc, chO 376 pc = true := okG okD_376 (fun pc h => by show (bif Nat.blt pc 47 then _ else none) = none; rw [h]; rfl)
theorem okD_377 : (List.range 121).all (fun pc => chO 377 pc) = true := by decide +kernel
theorem okE_377 : ∀ pc, chO 377 pc = true := okG okD_377 (fun pc h => by show (bif Nat.blt pc 121 then _ else none) = none; rw [h]; rfl)
theorem okD_378 : (List.range 25).all (fun pc => chO 378 pc) = true := by decide +kernel
theorem okE_378 : ∀ pc, chO 378 pc = true := okG okD_378 (fun pc h => by show (bif Nat.blt pc 25 then _ else none) = none; rw [h]; rfl)
theorem okD_379 : (List.range 33).all (fun pc => chO 379 pc) = true := by decide +kernel
theorem okE_379 : ∀ pc, chO 379 pc = true := okG okD_379 (fun pc h => by show (bif Nat.blt pc 33 then _ else none) = none; rw [h]; rfl)
theorem okD_380 : (List.range 38).all (fun pc => chO 380 pc) = true := by decide +kernel
theorem okE_380 : ∀ pc, chO 380 pc = true := okG okD_380 (fun pc h => by show (bif Nat.blt pc 38 then _ else none) = none; rw [h]; rfl)
