theorem d_Law_law_346 : decode b_Law_law 346 = .ok (.iload 4, 2) := by decide +kernel
theorem d_Law_law_348 : decode b_Law_law 348 = .ok (.iconst 1, 1) := by decide +kernel
theorem d_Law_law_349 : decode b_Law_law 349 = .ok (.iadd, 1) := by decide +kernel
theorem d_Law_law_350 : decode b_Law_law 350 = .ok (.iaload, 1) := by decide +kernel
theorem d_Law_law_351 : decode b_Law_law 351 = .ok (.aload_n 0, 1) := by decide +kernel
theorem d_Law_law_352 : decode b_Law_law 352 = .ok (.iload 4, 2) := by decide +kernel
theorem d_Law_law_354 : decode b_Law_law 354 = .ok (.iconst 2, 1) := by decide +kernel
theorem d_Law_law_355 : decode b_Law_law 355 = .ok (.iadd, 1) := by decide +kernel
theorem d_Law_law_356 : decode b_Law_law 356 = .ok (.iaload, 1) := by decide +kernel
theorem d_Law_law_357 : decode b_Law_law 357 = .ok (.invokevirtual 86, 3) := by decide +kernel
theorem d_Law_law_360 : decode b_Law_law 360 = .ok (.istore 6, 2) := by decide +kernel
theorem d_Law_law_362 : decode b_Law_law 362 = .ok (.aload_n 2, 1) := by decide +kernel
theorem d_Law_law_363 : decode b_Law_law 363 = .ok (.invokevirtual 69, 3) := by decide +kernel
theorem d_Law_law_366 : decode b_Law_law 366 = .ok (.iload 5, 2) := by decide +kernel
theorem d_Law_law_368 : decode b_Law_law 368 = .ok (.if_icmp .eq 5, 3) := by decide +kernel
theorem d_Law_law_371 : decode b_Law_law 371 = .ok (.iconst 0, 1) := by decide +kernel
theorem d_Law_law_372 : decode b_Law_law 372 = .ok (.ireturn, 1) := by decide +kernel
theorem d_Law_law_373 : decode b_Law_law 373 = .ok (.iload 5, 2) := by decide +kernel
theorem d_Law_law_375 : decode b_Law_law 375 = .ok (.ifCond .ne 15, 3) := by decide +kernel
theorem d_Law_law_378 : decode b_Law_law 378 = .ok (.aload_n 3, 1) := by decide +kernel
theorem d_Law_law_379 : decode b_Law_law 379 = .ok (.iconst 0, 1) := by decide +kernel
theorem d_Law_law_380 : decode b_Law_law 380 = .ok (.laload, 1) := by decide +kernel
theorem d_Law_law_381 : decode b_Law_law 381 = .ok (.iload 6, 2) := by decide +kernel
theorem d_Law_law_383 : decode b_Law_law 383 = .ok (.i2l, 1) := by decide +kernel
theorem d_Law_law_384 : decode b_Law_law 384 = .ok (.lcmp, 1) := by decide +kernel
theorem d_Law_law_385 : decode b_Law_law 385 = .ok (.ifCond .eq 5, 3) := by decide +kernel
theorem d_Law_law_388 : decode b_Law_law 388 = .ok (.iconst 0, 1) := by decide +kernel
theorem d_Law_law_389 : decode b_Law_law 389 = .ok (.ireturn, 1) := by decide +kernel
theorem d_Law_law_390 : decode b_Law_law 390 = .ok (.goto 665, 3) := by decide +kernel
theorem d_Law_law_393 : decode b_Law_law 393 = .ok (.aload_n 1, 1) := by decide +kernel
theorem d_Law_law_394 : decode b_Law_law 394 = .ok (.aload_n 0, 1) := by decide +kernel
theorem d_Law_law_395 : decode b_Law_law 395 = .ok (.iload 4, 2) := by decide +kernel
theorem d_Law_law_397 : decode b_Law_law 397 = .ok (.iconst 1, 1) := by decide +kernel
theorem d_Law_law_398 : decode b_Law_law 398 = .ok (.iadd, 1) := by decide +kernel
theorem d_Law_law_399 : decode b_Law_law 399 = .ok (.iaload, 1) := by decide +kernel
theorem d_Law_law_400 : decode b_Law_law 400 = .ok (.aload_n 0, 1) := by decide +kernel
theorem d_Law_law_401 : decode b_Law_law 401 = .ok (.iload 4, 2) := by decide +kernel
theorem d_Law_law_403 : decode b_Law_law 403 = .ok (.iconst 2, 1) := by decide +kernel
theorem d_Law_law_404 : decode b_Law_law 404 = .ok (.iadd, 1) := by decide +kernel
theorem d_Law_law_405 : decode b_Law_law 405 = .ok (.iaload, 1) := by decide +kernel
theorem d_Law_law_406 : decode b_Law_law 406 = .ok (.aload_n 0, 1) := by decide +kernel
theorem d_Law_law_407 : decode b_Law_law 407 = .ok (.iload 4, 2) := by decide +kernel
theorem d_Law_law_409 : decode b_Law_law 409 = .ok (.iconst 3, 1) := by decide +kernel
theorem d_Law_law_410 : decode b_Law_law 410 = .ok (.iadd, 1) := by decide +kernel
theorem d_Law_law_411 : decode b_Law_law 411 = .ok (.iaload, 1) := by decide +kernel
theorem d_Law_law_412 : decode b_Law_law 412 = .ok (.aload_n 3, 1) := by decide +kernel
theorem d_Law_law_413 : decode b_Law_law 413 = .ok (.invokestatic 87, 3) := by decide +kernel
theorem d_Law_law_416 : decode b_Law_law 416 = .ok (.istore 5, 2) := by decide +kernel
theorem d_Law_law_418 : decode b_Law_law 418 = .ok (.aload_n 2, 1) := by decide +kernel
theorem d_Law_law_419 : decode b_Law_law 419 = .ok (.aload_n 0, 1) := by decide +kernel
theorem d_Law_law_420 : decode b_Law_law 420 = .ok (.iload 4, 2) := by decide +kernel
theorem d_Law_law_422 : decode b_Law_law 422 = .ok (.iconst 1, 1) := by decide +kernel
theorem d_Law_law_423 : decode b_Law_law 423 = .ok (.iadd, 1) := by decide +kernel
theorem d_Law_law_424 : decode b_Law_law 424 = .ok (.iaload, 1) := by decide +kernel
theorem d_Law_law_425 : decode b_Law_law 425 = .ok (.aload_n 0, 1) := by decide +kernel
theorem d_Law_law_426 : decode b_Law_law 426 = .ok (.iload 4, 2) := by decide +kernel
theorem d_Law_law_428 : decode b_Law_law 428 = .ok (.iconst 2, 1) := by decide +kernel
theorem d_Law_law_429 : decode b_Law_law 429 = .ok (.iadd, 1) := by decide +kernel
theorem d_Law_law_430 : decode b_Law_law 430 = .ok (.iaload, 1) := by decide +kernel
theorem d_Law_law_431 : decode b_Law_law 431 = .ok (.aload_n 0, 1) := by decide +kernel
