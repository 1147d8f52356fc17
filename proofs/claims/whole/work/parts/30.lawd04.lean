theorem d_Law_law_432 : decode b_Law_law 432 = .ok (.iload 4, 2) := by decide +kernel
theorem d_Law_law_434 : decode b_Law_law 434 = .ok (.iconst 3, 1) := by decide +kernel
theorem d_Law_law_435 : decode b_Law_law 435 = .ok (.iadd, 1) := by decide +kernel
theorem d_Law_law_436 : decode b_Law_law 436 = .ok (.iaload, 1) := by decide +kernel
theorem d_Law_law_437 : decode b_Law_law 437 = .ok (.invokevirtual 90, 3) := by decide +kernel
theorem d_Law_law_440 : decode b_Law_law 440 = .ok (.istore 6, 2) := by decide +kernel
theorem d_Law_law_442 : decode b_Law_law 442 = .ok (.aload_n 2, 1) := by decide +kernel
theorem d_Law_law_443 : decode b_Law_law 443 = .ok (.invokevirtual 69, 3) := by decide +kernel
theorem d_Law_law_446 : decode b_Law_law 446 = .ok (.iload 5, 2) := by decide +kernel
theorem d_Law_law_448 : decode b_Law_law 448 = .ok (.if_icmp .eq 5, 3) := by decide +kernel
theorem d_Law_law_451 : decode b_Law_law 451 = .ok (.iconst 0, 1) := by decide +kernel
theorem d_Law_law_452 : decode b_Law_law 452 = .ok (.ireturn, 1) := by decide +kernel
theorem d_Law_law_453 : decode b_Law_law 453 = .ok (.iload 5, 2) := by decide +kernel
theorem d_Law_law_455 : decode b_Law_law 455 = .ok (.ifCond .ne 15, 3) := by decide +kernel
theorem d_Law_law_458 : decode b_Law_law 458 = .ok (.aload_n 3, 1) := by decide +kernel
theorem d_Law_law_459 : decode b_Law_law 459 = .ok (.iconst 0, 1) := by decide +kernel
theorem d_Law_law_460 : decode b_Law_law 460 = .ok (.laload, 1) := by decide +kernel
theorem d_Law_law_461 : decode b_Law_law 461 = .ok (.iload 6, 2) := by decide +kernel
theorem d_Law_law_463 : decode b_Law_law 463 = .ok (.i2l, 1) := by decide +kernel
theorem d_Law_law_464 : decode b_Law_law 464 = .ok (.lcmp, 1) := by decide +kernel
theorem d_Law_law_465 : decode b_Law_law 465 = .ok (.ifCond .eq 5, 3) := by decide +kernel
theorem d_Law_law_468 : decode b_Law_law 468 = .ok (.iconst 0, 1) := by decide +kernel
theorem d_Law_law_469 : decode b_Law_law 469 = .ok (.ireturn, 1) := by decide +kernel
theorem d_Law_law_470 : decode b_Law_law 470 = .ok (.goto 585, 3) := by decide +kernel
theorem d_Law_law_473 : decode b_Law_law 473 = .ok (.aload_n 1, 1) := by decide +kernel
theorem d_Law_law_474 : decode b_Law_law 474 = .ok (.aload_n 0, 1) := by decide +kernel
theorem d_Law_law_475 : decode b_Law_law 475 = .ok (.iload 4, 2) := by decide +kernel
theorem d_Law_law_477 : decode b_Law_law 477 = .ok (.iconst 1, 1) := by decide +kernel
theorem d_Law_law_478 : decode b_Law_law 478 = .ok (.iadd, 1) := by decide +kernel
theorem d_Law_law_479 : decode b_Law_law 479 = .ok (.iaload, 1) := by decide +kernel
theorem d_Law_law_480 : decode b_Law_law 480 = .ok (.aload_n 0, 1) := by decide +kernel
theorem d_Law_law_481 : decode b_Law_law 481 = .ok (.iload 4, 2) := by decide +kernel
theorem d_Law_law_483 : decode b_Law_law 483 = .ok (.iconst 2, 1) := by decide +kernel
theorem d_Law_law_484 : decode b_Law_law 484 = .ok (.iadd, 1) := by decide +kernel
theorem d_Law_law_485 : decode b_Law_law 485 = .ok (.iaload, 1) := by decide +kernel
theorem d_Law_law_486 : decode b_Law_law 486 = .ok (.aload_n 0, 1) := by decide +kernel
theorem d_Law_law_487 : decode b_Law_law 487 = .ok (.iload 4, 2) := by decide +kernel
theorem d_Law_law_489 : decode b_Law_law 489 = .ok (.iconst 3, 1) := by decide +kernel
theorem d_Law_law_490 : decode b_Law_law 490 = .ok (.iadd, 1) := by decide +kernel
theorem d_Law_law_491 : decode b_Law_law 491 = .ok (.iaload, 1) := by decide +kernel
theorem d_Law_law_492 : decode b_Law_law 492 = .ok (.aload_n 3, 1) := by decide +kernel
theorem d_Law_law_493 : decode b_Law_law 493 = .ok (.invokestatic 91, 3) := by decide +kernel
theorem d_Law_law_496 : decode b_Law_law 496 = .ok (.istore 5, 2) := by decide +kernel
theorem d_Law_law_498 : decode b_Law_law 498 = .ok (.aload_n 2, 1) := by decide +kernel
theorem d_Law_law_499 : decode b_Law_law 499 = .ok (.aload_n 0, 1) := by decide +kernel
theorem d_Law_law_500 : decode b_Law_law 500 = .ok (.iload 4, 2) := by decide +kernel
theorem d_Law_law_502 : decode b_Law_law 502 = .ok (.iconst 1, 1) := by decide +kernel
theorem d_Law_law_503 : decode b_Law_law 503 = .ok (.iadd, 1) := by decide +kernel
theorem d_Law_law_504 : decode b_Law_law 504 = .ok (.iaload, 1) := by decide +kernel
theorem d_Law_law_505 : decode b_Law_law 505 = .ok (.aload_n 0, 1) := by decide +kernel
theorem d_Law_law_506 : decode b_Law_law 506 = .ok (.iload 4, 2) := by decide +kernel
theorem d_Law_law_508 : decode b_Law_law 508 = .ok (.iconst 2, 1) := by decide +kernel
theorem d_Law_law_509 : decode b_Law_law 509 = .ok (.iadd, 1) := by decide +kernel
theorem d_Law_law_510 : decode b_Law_law 510 = .ok (.iaload, 1) := by decide +kernel
theorem d_Law_law_511 : decode b_Law_law 511 = .ok (.aload_n 0, 1) := by decide +kernel
theorem d_Law_law_512 : decode b_Law_law 512 = .ok (.iload 4, 2) := by decide +kernel
theorem d_Law_law_514 : decode b_Law_law 514 = .ok (.iconst 3, 1) := by decide +kernel
theorem d_Law_law_515 : decode b_Law_law 515 = .ok (.iadd, 1) := by decide +kernel
theorem d_Law_law_516 : decode b_Law_law 516 = .ok (.iaload, 1) := by decide +kernel
theorem d_Law_law_517 : decode b_Law_law 517 = .ok (.invokevirtual 93, 3) := by decide +kernel
