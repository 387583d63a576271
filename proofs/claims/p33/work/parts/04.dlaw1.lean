theorem dl_292_g : (decode code 292 = .ok (.iload_n 3, 1)) ∧ (decode code 293 = .ok (.iconst 4, 1)) ∧ (decode code 294 = .ok (.iadd, 1)) ∧ (decode code 295 = .ok (.iaload, 1)) ∧ (decode code 296 = .ok (.ifCond .eq 7, 3)) ∧ (decode code 299 = .ok (.iconst 1, 1)) ∧ (decode code 300 = .ok (.goto 4, 3)) ∧ (decode code 303 = .ok (.iconst 0, 1)) := by decide +kernel
theorem dl_292 : decode code 292 = .ok (.iload_n 3, 1) := dl_292_g.1
theorem dl_293 : decode code 293 = .ok (.iconst 4, 1) := dl_292_g.2.1
theorem dl_294 : decode code 294 = .ok (.iadd, 1) := dl_292_g.2.2.1
theorem dl_295 : decode code 295 = .ok (.iaload, 1) := dl_292_g.2.2.2.1
theorem dl_296 : decode code 296 = .ok (.ifCond .eq 7, 3) := dl_292_g.2.2.2.2.1
theorem dl_299 : decode code 299 = .ok (.iconst 1, 1) := dl_292_g.2.2.2.2.2.1
theorem dl_300 : decode code 300 = .ok (.goto 4, 3) := dl_292_g.2.2.2.2.2.2.1
theorem dl_303 : decode code 303 = .ok (.iconst 0, 1) := dl_292_g.2.2.2.2.2.2.2
theorem dl_304_g : (decode code 304 = .ok (.invokevirtual 26, 3)) ∧ (decode code 307 = .ok (.pop, 1)) ∧ (decode code 308 = .ok (.goto 822, 3)) ∧ (decode code 311 = .ok (.aload_n 1, 1)) ∧ (decode code 312 = .ok (.invokevirtual 27, 3)) ∧ (decode code 315 = .ok (.pop, 1)) ∧ (decode code 316 = .ok (.aload_n 2, 1)) ∧ (decode code 317 = .ok (.invokevirtual 31, 3)) := by decide +kernel
theorem dl_304 : decode code 304 = .ok (.invokevirtual 26, 3) := dl_304_g.1
theorem dl_307 : decode code 307 = .ok (.pop, 1) := dl_304_g.2.1
theorem dl_308 : decode code 308 = .ok (.goto 822, 3) := dl_304_g.2.2.1
theorem dl_311 : decode code 311 = .ok (.aload_n 1, 1) := dl_304_g.2.2.2.1
theorem dl_312 : decode code 312 = .ok (.invokevirtual 27, 3) := dl_304_g.2.2.2.2.1
theorem dl_315 : decode code 315 = .ok (.pop, 1) := dl_304_g.2.2.2.2.2.1
theorem dl_316 : decode code 316 = .ok (.aload_n 2, 1) := dl_304_g.2.2.2.2.2.2.1
theorem dl_317 : decode code 317 = .ok (.invokevirtual 31, 3) := dl_304_g.2.2.2.2.2.2.2
theorem dl_320_g : (decode code 320 = .ok (.pop, 1)) ∧ (decode code 321 = .ok (.goto 809, 3)) ∧ (decode code 324 = .ok (.aload_n 1, 1)) ∧ (decode code 325 = .ok (.aload_n 0, 1)) ∧ (decode code 326 = .ok (.iload_n 3, 1)) ∧ (decode code 327 = .ok (.iconst 1, 1)) ∧ (decode code 328 = .ok (.iadd, 1)) ∧ (decode code 329 = .ok (.iaload, 1)) := by decide +kernel
theorem dl_320 : decode code 320 = .ok (.pop, 1) := dl_320_g.1
theorem dl_321 : decode code 321 = .ok (.goto 809, 3) := dl_320_g.2.1
theorem dl_324 : decode code 324 = .ok (.aload_n 1, 1) := dl_320_g.2.2.1
theorem dl_325 : decode code 325 = .ok (.aload_n 0, 1) := dl_320_g.2.2.2.1
theorem dl_326 : decode code 326 = .ok (.iload_n 3, 1) := dl_320_g.2.2.2.2.1
theorem dl_327 : decode code 327 = .ok (.iconst 1, 1) := dl_320_g.2.2.2.2.2.1
theorem dl_328 : decode code 328 = .ok (.iadd, 1) := dl_320_g.2.2.2.2.2.2.1
theorem dl_329 : decode code 329 = .ok (.iaload, 1) := dl_320_g.2.2.2.2.2.2.2
theorem dl_330_g : (decode code 330 = .ok (.aload_n 0, 1)) ∧ (decode code 331 = .ok (.iload_n 3, 1)) ∧ (decode code 332 = .ok (.iconst 2, 1)) ∧ (decode code 333 = .ok (.iadd, 1)) ∧ (decode code 334 = .ok (.iaload, 1)) ∧ (decode code 335 = .ok (.invokevirtual 32, 3)) ∧ (decode code 338 = .ok (.pop, 1)) ∧ (decode code 339 = .ok (.aload_n 2, 1)) := by decide +kernel
theorem dl_330 : decode code 330 = .ok (.aload_n 0, 1) := dl_330_g.1
theorem dl_331 : decode code 331 = .ok (.iload_n 3, 1) := dl_330_g.2.1
theorem dl_332 : decode code 332 = .ok (.iconst 2, 1) := dl_330_g.2.2.1
theorem dl_333 : decode code 333 = .ok (.iadd, 1) := dl_330_g.2.2.2.1
theorem dl_334 : decode code 334 = .ok (.iaload, 1) := dl_330_g.2.2.2.2.1
theorem dl_335 : decode code 335 = .ok (.invokevirtual 32, 3) := dl_330_g.2.2.2.2.2.1
theorem dl_338 : decode code 338 = .ok (.pop, 1) := dl_330_g.2.2.2.2.2.2.1
theorem dl_339 : decode code 339 = .ok (.aload_n 2, 1) := dl_330_g.2.2.2.2.2.2.2
theorem dl_340_g : (decode code 340 = .ok (.aload_n 0, 1)) ∧ (decode code 341 = .ok (.iload_n 3, 1)) ∧ (decode code 342 = .ok (.iconst 1, 1)) ∧ (decode code 343 = .ok (.iadd, 1)) ∧ (decode code 344 = .ok (.iaload, 1)) ∧ (decode code 345 = .ok (.aload_n 0, 1)) ∧ (decode code 346 = .ok (.iload_n 3, 1)) ∧ (decode code 347 = .ok (.iconst 2, 1)) := by decide +kernel
theorem dl_340 : decode code 340 = .ok (.aload_n 0, 1) := dl_340_g.1
theorem dl_341 : decode code 341 = .ok (.iload_n 3, 1) := dl_340_g.2.1
theorem dl_342 : decode code 342 = .ok (.iconst 1, 1) := dl_340_g.2.2.1
theorem dl_343 : decode code 343 = .ok (.iadd, 1) := dl_340_g.2.2.2.1
theorem dl_344 : decode code 344 = .ok (.iaload, 1) := dl_340_g.2.2.2.2.1
theorem dl_345 : decode code 345 = .ok (.aload_n 0, 1) := dl_340_g.2.2.2.2.2.1
theorem dl_346 : decode code 346 = .ok (.iload_n 3, 1) := dl_340_g.2.2.2.2.2.2.1
theorem dl_347 : decode code 347 = .ok (.iconst 2, 1) := dl_340_g.2.2.2.2.2.2.2
theorem dl_348_g : (decode code 348 = .ok (.iadd, 1)) ∧ (decode code 349 = .ok (.iaload, 1)) ∧ (decode code 350 = .ok (.invokevirtual 36, 3)) ∧ (decode code 353 = .ok (.pop, 1)) ∧ (decode code 354 = .ok (.goto 776, 3)) ∧ (decode code 357 = .ok (.aload_n 1, 1)) ∧ (decode code 358 = .ok (.aload_n 0, 1)) ∧ (decode code 359 = .ok (.iload_n 3, 1)) := by decide +kernel
theorem dl_348 : decode code 348 = .ok (.iadd, 1) := dl_348_g.1
theorem dl_349 : decode code 349 = .ok (.iaload, 1) := dl_348_g.2.1
theorem dl_350 : decode code 350 = .ok (.invokevirtual 36, 3) := dl_348_g.2.2.1
theorem dl_353 : decode code 353 = .ok (.pop, 1) := dl_348_g.2.2.2.1
theorem dl_354 : decode code 354 = .ok (.goto 776, 3) := dl_348_g.2.2.2.2.1
theorem dl_357 : decode code 357 = .ok (.aload_n 1, 1) := dl_348_g.2.2.2.2.2.1
theorem dl_358 : decode code 358 = .ok (.aload_n 0, 1) := dl_348_g.2.2.2.2.2.2.1
theorem dl_359 : decode code 359 = .ok (.iload_n 3, 1) := dl_348_g.2.2.2.2.2.2.2
theorem dl_360_g : (decode code 360 = .ok (.iconst 1, 1)) ∧ (decode code 361 = .ok (.iadd, 1)) ∧ (decode code 362 = .ok (.iaload, 1)) ∧ (decode code 363 = .ok (.aload_n 0, 1)) ∧ (decode code 364 = .ok (.iload_n 3, 1)) ∧ (decode code 365 = .ok (.iconst 2, 1)) ∧ (decode code 366 = .ok (.iadd, 1)) ∧ (decode code 367 = .ok (.iaload, 1)) := by decide +kernel
theorem dl_360 : decode code 360 = .ok (.iconst 1, 1) := dl_360_g.1
theorem dl_361 : decode code 361 = .ok (.iadd, 1) := dl_360_g.2.1
theorem dl_362 : decode code 362 = .ok (.iaload, 1) := dl_360_g.2.2.1
theorem dl_363 : decode code 363 = .ok (.aload_n 0, 1) := dl_360_g.2.2.2.1
theorem dl_364 : decode code 364 = .ok (.iload_n 3, 1) := dl_360_g.2.2.2.2.1
theorem dl_365 : decode code 365 = .ok (.iconst 2, 1) := dl_360_g.2.2.2.2.2.1
theorem dl_366 : decode code 366 = .ok (.iadd, 1) := dl_360_g.2.2.2.2.2.2.1
theorem dl_367 : decode code 367 = .ok (.iaload, 1) := dl_360_g.2.2.2.2.2.2.2
theorem dl_368_g : (decode code 368 = .ok (.ifCond .eq 7, 3)) ∧ (decode code 371 = .ok (.iconst 1, 1)) ∧ (decode code 372 = .ok (.goto 4, 3)) ∧ (decode code 375 = .ok (.iconst 0, 1)) ∧ (decode code 376 = .ok (.invokevirtual 37, 3)) ∧ (decode code 379 = .ok (.pop, 1)) ∧ (decode code 380 = .ok (.aload_n 2, 1)) ∧ (decode code 381 = .ok (.aload_n 0, 1)) := by decide +kernel
theorem dl_368 : decode code 368 = .ok (.ifCond .eq 7, 3) := dl_368_g.1
theorem dl_371 : decode code 371 = .ok (.iconst 1, 1) := dl_368_g.2.1
theorem dl_372 : decode code 372 = .ok (.goto 4, 3) := dl_368_g.2.2.1
theorem dl_375 : decode code 375 = .ok (.iconst 0, 1) := dl_368_g.2.2.2.1
theorem dl_376 : decode code 376 = .ok (.invokevirtual 37, 3) := dl_368_g.2.2.2.2.1
theorem dl_379 : decode code 379 = .ok (.pop, 1) := dl_368_g.2.2.2.2.2.1
theorem dl_380 : decode code 380 = .ok (.aload_n 2, 1) := dl_368_g.2.2.2.2.2.2.1
theorem dl_381 : decode code 381 = .ok (.aload_n 0, 1) := dl_368_g.2.2.2.2.2.2.2
theorem dl_382_g : (decode code 382 = .ok (.iload_n 3, 1)) ∧ (decode code 383 = .ok (.iconst 1, 1)) ∧ (decode code 384 = .ok (.iadd, 1)) ∧ (decode code 385 = .ok (.iaload, 1)) ∧ (decode code 386 = .ok (.aload_n 0, 1)) ∧ (decode code 387 = .ok (.iload_n 3, 1)) ∧ (decode code 388 = .ok (.iconst 2, 1)) ∧ (decode code 389 = .ok (.iadd, 1)) := by decide +kernel
theorem dl_382 : decode code 382 = .ok (.iload_n 3, 1) := dl_382_g.1
theorem dl_383 : decode code 383 = .ok (.iconst 1, 1) := dl_382_g.2.1
theorem dl_384 : decode code 384 = .ok (.iadd, 1) := dl_382_g.2.2.1
theorem dl_385 : decode code 385 = .ok (.iaload, 1) := dl_382_g.2.2.2.1
theorem dl_386 : decode code 386 = .ok (.aload_n 0, 1) := dl_382_g.2.2.2.2.1
theorem dl_387 : decode code 387 = .ok (.iload_n 3, 1) := dl_382_g.2.2.2.2.2.1
theorem dl_388 : decode code 388 = .ok (.iconst 2, 1) := dl_382_g.2.2.2.2.2.2.1
theorem dl_389 : decode code 389 = .ok (.iadd, 1) := dl_382_g.2.2.2.2.2.2.2
theorem dl_390_g : (decode code 390 = .ok (.iaload, 1)) ∧ (decode code 391 = .ok (.ifCond .eq 7, 3)) ∧ (decode code 394 = .ok (.iconst 1, 1)) ∧ (decode code 395 = .ok (.goto 4, 3)) ∧ (decode code 398 = .ok (.iconst 0, 1)) ∧ (decode code 399 = .ok (.invokevirtual 41, 3)) ∧ (decode code 402 = .ok (.pop, 1)) ∧ (decode code 403 = .ok (.goto 727, 3)) := by decide +kernel
theorem dl_390 : decode code 390 = .ok (.iaload, 1) := dl_390_g.1
theorem dl_391 : decode code 391 = .ok (.ifCond .eq 7, 3) := dl_390_g.2.1
theorem dl_394 : decode code 394 = .ok (.iconst 1, 1) := dl_390_g.2.2.1
theorem dl_395 : decode code 395 = .ok (.goto 4, 3) := dl_390_g.2.2.2.1
theorem dl_398 : decode code 398 = .ok (.iconst 0, 1) := dl_390_g.2.2.2.2.1
theorem dl_399 : decode code 399 = .ok (.invokevirtual 41, 3) := dl_390_g.2.2.2.2.2.1
theorem dl_402 : decode code 402 = .ok (.pop, 1) := dl_390_g.2.2.2.2.2.2.1
theorem dl_403 : decode code 403 = .ok (.goto 727, 3) := dl_390_g.2.2.2.2.2.2.2
theorem dl_406_g : (decode code 406 = .ok (.aload_n 1, 1)) ∧ (decode code 407 = .ok (.aload_n 0, 1)) ∧ (decode code 408 = .ok (.iload_n 3, 1)) ∧ (decode code 409 = .ok (.iconst 1, 1)) ∧ (decode code 410 = .ok (.iadd, 1)) ∧ (decode code 411 = .ok (.iaload, 1)) ∧ (decode code 412 = .ok (.ifCond .eq 7, 3)) ∧ (decode code 415 = .ok (.iconst 1, 1)) := by decide +kernel
theorem dl_406 : decode code 406 = .ok (.aload_n 1, 1) := dl_406_g.1
theorem dl_407 : decode code 407 = .ok (.aload_n 0, 1) := dl_406_g.2.1
theorem dl_408 : decode code 408 = .ok (.iload_n 3, 1) := dl_406_g.2.2.1
theorem dl_409 : decode code 409 = .ok (.iconst 1, 1) := dl_406_g.2.2.2.1
theorem dl_410 : decode code 410 = .ok (.iadd, 1) := dl_406_g.2.2.2.2.1
theorem dl_411 : decode code 411 = .ok (.iaload, 1) := dl_406_g.2.2.2.2.2.1
theorem dl_412 : decode code 412 = .ok (.ifCond .eq 7, 3) := dl_406_g.2.2.2.2.2.2.1
theorem dl_415 : decode code 415 = .ok (.iconst 1, 1) := dl_406_g.2.2.2.2.2.2.2
theorem dl_416_g : (decode code 416 = .ok (.goto 4, 3)) ∧ (decode code 419 = .ok (.iconst 0, 1)) ∧ (decode code 420 = .ok (.invokevirtual 42, 3)) ∧ (decode code 423 = .ok (.pop, 1)) ∧ (decode code 424 = .ok (.aload_n 2, 1)) ∧ (decode code 425 = .ok (.aload_n 0, 1)) ∧ (decode code 426 = .ok (.iload_n 3, 1)) ∧ (decode code 427 = .ok (.iconst 1, 1)) := by decide +kernel
theorem dl_416 : decode code 416 = .ok (.goto 4, 3) := dl_416_g.1
theorem dl_419 : decode code 419 = .ok (.iconst 0, 1) := dl_416_g.2.1
theorem dl_420 : decode code 420 = .ok (.invokevirtual 42, 3) := dl_416_g.2.2.1
theorem dl_423 : decode code 423 = .ok (.pop, 1) := dl_416_g.2.2.2.1
theorem dl_424 : decode code 424 = .ok (.aload_n 2, 1) := dl_416_g.2.2.2.2.1
theorem dl_425 : decode code 425 = .ok (.aload_n 0, 1) := dl_416_g.2.2.2.2.2.1
theorem dl_426 : decode code 426 = .ok (.iload_n 3, 1) := dl_416_g.2.2.2.2.2.2.1
theorem dl_427 : decode code 427 = .ok (.iconst 1, 1) := dl_416_g.2.2.2.2.2.2.2
theorem dl_428_g : (decode code 428 = .ok (.iadd, 1)) ∧ (decode code 429 = .ok (.iaload, 1)) ∧ (decode code 430 = .ok (.ifCond .eq 7, 3)) ∧ (decode code 433 = .ok (.iconst 1, 1)) ∧ (decode code 434 = .ok (.goto 4, 3)) ∧ (decode code 437 = .ok (.iconst 0, 1)) ∧ (decode code 438 = .ok (.invokevirtual 46, 3)) ∧ (decode code 441 = .ok (.pop, 1)) := by decide +kernel
theorem dl_428 : decode code 428 = .ok (.iadd, 1) := dl_428_g.1
theorem dl_429 : decode code 429 = .ok (.iaload, 1) := dl_428_g.2.1
theorem dl_430 : decode code 430 = .ok (.ifCond .eq 7, 3) := dl_428_g.2.2.1
theorem dl_433 : decode code 433 = .ok (.iconst 1, 1) := dl_428_g.2.2.2.1
theorem dl_434 : decode code 434 = .ok (.goto 4, 3) := dl_428_g.2.2.2.2.1
theorem dl_437 : decode code 437 = .ok (.iconst 0, 1) := dl_428_g.2.2.2.2.2.1
theorem dl_438 : decode code 438 = .ok (.invokevirtual 46, 3) := dl_428_g.2.2.2.2.2.2.1
theorem dl_441 : decode code 441 = .ok (.pop, 1) := dl_428_g.2.2.2.2.2.2.2
theorem dl_442_g : (decode code 442 = .ok (.goto 688, 3)) ∧ (decode code 445 = .ok (.aload_n 1, 1)) ∧ (decode code 446 = .ok (.aload_n 0, 1)) ∧ (decode code 447 = .ok (.iload_n 3, 1)) ∧ (decode code 448 = .ok (.iconst 1, 1)) ∧ (decode code 449 = .ok (.iadd, 1)) ∧ (decode code 450 = .ok (.iaload, 1)) ∧ (decode code 451 = .ok (.invokevirtual 47, 3)) := by decide +kernel
theorem dl_442 : decode code 442 = .ok (.goto 688, 3) := dl_442_g.1
theorem dl_445 : decode code 445 = .ok (.aload_n 1, 1) := dl_442_g.2.1
theorem dl_446 : decode code 446 = .ok (.aload_n 0, 1) := dl_442_g.2.2.1
theorem dl_447 : decode code 447 = .ok (.iload_n 3, 1) := dl_442_g.2.2.2.1
theorem dl_448 : decode code 448 = .ok (.iconst 1, 1) := dl_442_g.2.2.2.2.1
theorem dl_449 : decode code 449 = .ok (.iadd, 1) := dl_442_g.2.2.2.2.2.1
theorem dl_450 : decode code 450 = .ok (.iaload, 1) := dl_442_g.2.2.2.2.2.2.1
theorem dl_451 : decode code 451 = .ok (.invokevirtual 47, 3) := dl_442_g.2.2.2.2.2.2.2
theorem dl_454_g : (decode code 454 = .ok (.pop, 1)) ∧ (decode code 455 = .ok (.aload_n 2, 1)) ∧ (decode code 456 = .ok (.aload_n 0, 1)) ∧ (decode code 457 = .ok (.iload_n 3, 1)) ∧ (decode code 458 = .ok (.iconst 1, 1)) ∧ (decode code 459 = .ok (.iadd, 1)) ∧ (decode code 460 = .ok (.iaload, 1)) ∧ (decode code 461 = .ok (.invokevirtual 51, 3)) := by decide +kernel
theorem dl_454 : decode code 454 = .ok (.pop, 1) := dl_454_g.1
theorem dl_455 : decode code 455 = .ok (.aload_n 2, 1) := dl_454_g.2.1
theorem dl_456 : decode code 456 = .ok (.aload_n 0, 1) := dl_454_g.2.2.1
theorem dl_457 : decode code 457 = .ok (.iload_n 3, 1) := dl_454_g.2.2.2.1
theorem dl_458 : decode code 458 = .ok (.iconst 1, 1) := dl_454_g.2.2.2.2.1
theorem dl_459 : decode code 459 = .ok (.iadd, 1) := dl_454_g.2.2.2.2.2.1
theorem dl_460 : decode code 460 = .ok (.iaload, 1) := dl_454_g.2.2.2.2.2.2.1
theorem dl_461 : decode code 461 = .ok (.invokevirtual 51, 3) := dl_454_g.2.2.2.2.2.2.2
