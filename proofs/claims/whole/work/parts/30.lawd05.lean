theorem d_Law_law_520 : decode b_Law_law 520 = .ok (.istore 6, 2) := by decide +kernel
theorem d_Law_law_522 : decode b_Law_law 522 = .ok (.aload_n 2, 1) := by decide +kernel
theorem d_Law_law_523 : decode b_Law_law 523 = .ok (.invokevirtual 69, 3) := by decide +kernel
theorem d_Law_law_526 : decode b_Law_law 526 = .ok (.iload 5, 2) := by decide +kernel
theorem d_Law_law_528 : decode b_Law_law 528 = .ok (.if_icmp .eq 5, 3) := by decide +kernel
theorem d_Law_law_531 : decode b_Law_law 531 = .ok (.iconst 0, 1) := by decide +kernel
theorem d_Law_law_532 : decode b_Law_law 532 = .ok (.ireturn, 1) := by decide +kernel
theorem d_Law_law_533 : decode b_Law_law 533 = .ok (.iload 5, 2) := by decide +kernel
theorem d_Law_law_535 : decode b_Law_law 535 = .ok (.ifCond .ne 15, 3) := by decide +kernel
theorem d_Law_law_538 : decode b_Law_law 538 = .ok (.aload_n 3, 1) := by decide +kernel
theorem d_Law_law_539 : decode b_Law_law 539 = .ok (.iconst 0, 1) := by decide +kernel
theorem d_Law_law_540 : decode b_Law_law 540 = .ok (.laload, 1) := by decide +kernel
theorem d_Law_law_541 : decode b_Law_law 541 = .ok (.iload 6, 2) := by decide +kernel
theorem d_Law_law_543 : decode b_Law_law 543 = .ok (.i2l, 1) := by decide +kernel
theorem d_Law_law_544 : decode b_Law_law 544 = .ok (.lcmp, 1) := by decide +kernel
theorem d_Law_law_545 : decode b_Law_law 545 = .ok (.ifCond .eq 5, 3) := by decide +kernel
theorem d_Law_law_548 : decode b_Law_law 548 = .ok (.iconst 0, 1) := by decide +kernel
theorem d_Law_law_549 : decode b_Law_law 549 = .ok (.ireturn, 1) := by decide +kernel
theorem d_Law_law_550 : decode b_Law_law 550 = .ok (.goto 505, 3) := by decide +kernel
theorem d_Law_law_553 : decode b_Law_law 553 = .ok (.aload_n 1, 1) := by decide +kernel
theorem d_Law_law_554 : decode b_Law_law 554 = .ok (.aload_n 0, 1) := by decide +kernel
theorem d_Law_law_555 : decode b_Law_law 555 = .ok (.iload 4, 2) := by decide +kernel
theorem d_Law_law_557 : decode b_Law_law 557 = .ok (.iconst 1, 1) := by decide +kernel
theorem d_Law_law_558 : decode b_Law_law 558 = .ok (.iadd, 1) := by decide +kernel
theorem d_Law_law_559 : decode b_Law_law 559 = .ok (.iaload, 1) := by decide +kernel
theorem d_Law_law_560 : decode b_Law_law 560 = .ok (.aload_n 0, 1) := by decide +kernel
theorem d_Law_law_561 : decode b_Law_law 561 = .ok (.iload 4, 2) := by decide +kernel
theorem d_Law_law_563 : decode b_Law_law 563 = .ok (.iconst 2, 1) := by decide +kernel
theorem d_Law_law_564 : decode b_Law_law 564 = .ok (.iadd, 1) := by decide +kernel
theorem d_Law_law_565 : decode b_Law_law 565 = .ok (.iaload, 1) := by decide +kernel
theorem d_Law_law_566 : decode b_Law_law 566 = .ok (.aload_n 0, 1) := by decide +kernel
theorem d_Law_law_567 : decode b_Law_law 567 = .ok (.iload 4, 2) := by decide +kernel
theorem d_Law_law_569 : decode b_Law_law 569 = .ok (.iconst 3, 1) := by decide +kernel
theorem d_Law_law_570 : decode b_Law_law 570 = .ok (.iadd, 1) := by decide +kernel
theorem d_Law_law_571 : decode b_Law_law 571 = .ok (.iaload, 1) := by decide +kernel
theorem d_Law_law_572 : decode b_Law_law 572 = .ok (.aload_n 3, 1) := by decide +kernel
theorem d_Law_law_573 : decode b_Law_law 573 = .ok (.invokestatic 94, 3) := by decide +kernel
theorem d_Law_law_576 : decode b_Law_law 576 = .ok (.istore 5, 2) := by decide +kernel
theorem d_Law_law_578 : decode b_Law_law 578 = .ok (.aload_n 2, 1) := by decide +kernel
theorem d_Law_law_579 : decode b_Law_law 579 = .ok (.aload_n 0, 1) := by decide +kernel
theorem d_Law_law_580 : decode b_Law_law 580 = .ok (.iload 4, 2) := by decide +kernel
theorem d_Law_law_582 : decode b_Law_law 582 = .ok (.iconst 1, 1) := by decide +kernel
theorem d_Law_law_583 : decode b_Law_law 583 = .ok (.iadd, 1) := by decide +kernel
theorem d_Law_law_584 : decode b_Law_law 584 = .ok (.iaload, 1) := by decide +kernel
theorem d_Law_law_585 : decode b_Law_law 585 = .ok (.aload_n 0, 1) := by decide +kernel
theorem d_Law_law_586 : decode b_Law_law 586 = .ok (.iload 4, 2) := by decide +kernel
theorem d_Law_law_588 : decode b_Law_law 588 = .ok (.iconst 2, 1) := by decide +kernel
theorem d_Law_law_589 : decode b_Law_law 589 = .ok (.iadd, 1) := by decide +kernel
theorem d_Law_law_590 : decode b_Law_law 590 = .ok (.iaload, 1) := by decide +kernel
theorem d_Law_law_591 : decode b_Law_law 591 = .ok (.aload_n 0, 1) := by decide +kernel
theorem d_Law_law_592 : decode b_Law_law 592 = .ok (.iload 4, 2) := by decide +kernel
theorem d_Law_law_594 : decode b_Law_law 594 = .ok (.iconst 3, 1) := by decide +kernel
theorem d_Law_law_595 : decode b_Law_law 595 = .ok (.iadd, 1) := by decide +kernel
theorem d_Law_law_596 : decode b_Law_law 596 = .ok (.iaload, 1) := by decide +kernel
theorem d_Law_law_597 : decode b_Law_law 597 = .ok (.invokevirtual 96, 3) := by decide +kernel
theorem d_Law_law_600 : decode b_Law_law 600 = .ok (.istore 6, 2) := by decide +kernel
theorem d_Law_law_602 : decode b_Law_law 602 = .ok (.aload_n 2, 1) := by decide +kernel
theorem d_Law_law_603 : decode b_Law_law 603 = .ok (.invokevirtual 69, 3) := by decide +kernel
theorem d_Law_law_606 : decode b_Law_law 606 = .ok (.iload 5, 2) := by decide +kernel
theorem d_Law_law_608 : decode b_Law_law 608 = .ok (.if_icmp .eq 5, 3) := by decide +kernel
