theorem d_law_472 : decode code 472 = .ok (.iconst 1, 1) := by decide +kernel
theorem d_law_473 : decode code 473 = .ok (.iadd, 1) := by decide +kernel
theorem d_law_474 : decode code 474 = .ok (.iaload, 1) := by decide +kernel
theorem d_law_475 : decode code 475 = .ok (.aload_n 0, 1) := by decide +kernel
theorem d_law_476 : decode code 476 = .ok (.iload_n 3, 1) := by decide +kernel
theorem d_law_477 : decode code 477 = .ok (.iconst 2, 1) := by decide +kernel
theorem d_law_478 : decode code 478 = .ok (.iadd, 1) := by decide +kernel
theorem d_law_479 : decode code 479 = .ok (.iaload, 1) := by decide +kernel
theorem d_law_480 : decode code 480 = .ok (.invokevirtual 64, 3) := by decide +kernel
theorem d_law_483 : decode code 483 = .ok (.aload_n 2, 1) := by decide +kernel
theorem d_law_484 : decode code 484 = .ok (.aload_n 0, 1) := by decide +kernel
theorem d_law_485 : decode code 485 = .ok (.iload_n 3, 1) := by decide +kernel
theorem d_law_486 : decode code 486 = .ok (.iconst 1, 1) := by decide +kernel
theorem d_law_487 : decode code 487 = .ok (.iadd, 1) := by decide +kernel
theorem d_law_488 : decode code 488 = .ok (.iaload, 1) := by decide +kernel
theorem d_law_489 : decode code 489 = .ok (.aload_n 0, 1) := by decide +kernel
theorem d_law_490 : decode code 490 = .ok (.iload_n 3, 1) := by decide +kernel
theorem d_law_491 : decode code 491 = .ok (.iconst 2, 1) := by decide +kernel
theorem d_law_492 : decode code 492 = .ok (.iadd, 1) := by decide +kernel
theorem d_law_493 : decode code 493 = .ok (.iaload, 1) := by decide +kernel
theorem d_law_494 : decode code 494 = .ok (.invokevirtual 68, 3) := by decide +kernel
theorem d_law_497 : decode code 497 = .ok (.lcmp, 1) := by decide +kernel
theorem d_law_498 : decode code 498 = .ok (.ifCond .eq 257, 3) := by decide +kernel
theorem d_law_501 : decode code 501 = .ok (.iconst 0, 1) := by decide +kernel
theorem d_law_502 : decode code 502 = .ok (.ireturn, 1) := by decide +kernel
theorem d_law_503 : decode code 503 = .ok (.aload_n 1, 1) := by decide +kernel
theorem d_law_504 : decode code 504 = .ok (.aload_n 0, 1) := by decide +kernel
theorem d_law_505 : decode code 505 = .ok (.iload_n 3, 1) := by decide +kernel
theorem d_law_506 : decode code 506 = .ok (.iconst 1, 1) := by decide +kernel
theorem d_law_507 : decode code 507 = .ok (.iadd, 1) := by decide +kernel
theorem d_law_508 : decode code 508 = .ok (.iaload, 1) := by decide +kernel
theorem d_law_509 : decode code 509 = .ok (.invokevirtual 69, 3) := by decide +kernel
theorem d_law_512 : decode code 512 = .ok (.aload_n 2, 1) := by decide +kernel
theorem d_law_513 : decode code 513 = .ok (.aload_n 0, 1) := by decide +kernel
theorem d_law_514 : decode code 514 = .ok (.iload_n 3, 1) := by decide +kernel
theorem d_law_515 : decode code 515 = .ok (.iconst 1, 1) := by decide +kernel
theorem d_law_516 : decode code 516 = .ok (.iadd, 1) := by decide +kernel
theorem d_law_517 : decode code 517 = .ok (.iaload, 1) := by decide +kernel
theorem d_law_518 : decode code 518 = .ok (.invokevirtual 72, 3) := by decide +kernel
theorem d_law_521 : decode code 521 = .ok (.lcmp, 1) := by decide +kernel
theorem d_law_522 : decode code 522 = .ok (.ifCond .eq 233, 3) := by decide +kernel
theorem d_law_525 : decode code 525 = .ok (.iconst 0, 1) := by decide +kernel
theorem d_law_526 : decode code 526 = .ok (.ireturn, 1) := by decide +kernel
theorem d_law_527 : decode code 527 = .ok (.aload_n 1, 1) := by decide +kernel
theorem d_law_528 : decode code 528 = .ok (.aload_n 0, 1) := by decide +kernel
theorem d_law_529 : decode code 529 = .ok (.iload_n 3, 1) := by decide +kernel
theorem d_law_530 : decode code 530 = .ok (.iconst 1, 1) := by decide +kernel
theorem d_law_531 : decode code 531 = .ok (.iadd, 1) := by decide +kernel
theorem d_law_532 : decode code 532 = .ok (.iaload, 1) := by decide +kernel
theorem d_law_533 : decode code 533 = .ok (.aload_n 0, 1) := by decide +kernel
theorem d_law_534 : decode code 534 = .ok (.iload_n 3, 1) := by decide +kernel
theorem d_law_535 : decode code 535 = .ok (.iconst 2, 1) := by decide +kernel
theorem d_law_536 : decode code 536 = .ok (.iadd, 1) := by decide +kernel
theorem d_law_537 : decode code 537 = .ok (.iaload, 1) := by decide +kernel
theorem d_law_538 : decode code 538 = .ok (.aload_n 0, 1) := by decide +kernel
theorem d_law_539 : decode code 539 = .ok (.iload_n 3, 1) := by decide +kernel
theorem d_law_540 : decode code 540 = .ok (.iconst 3, 1) := by decide +kernel
theorem d_law_541 : decode code 541 = .ok (.iadd, 1) := by decide +kernel
theorem d_law_542 : decode code 542 = .ok (.iaload, 1) := by decide +kernel
theorem d_law_543 : decode code 543 = .ok (.aload_n 0, 1) := by decide +kernel
