/-! The law's instructions. By wip/whole/m_law1.py -/
theorem d_law_472 : decode code 472 = .ok (.iaload, 1) := by decide +kernel
theorem d_law_473 : decode code 473 = .ok (.invokevirtual 61, 3) := by decide +kernel
theorem d_law_476 : decode code 476 = .ok (.if_icmp .eq 165, 3) := by decide +kernel
theorem d_law_479 : decode code 479 = .ok (.iconst 0, 1) := by decide +kernel
theorem d_law_480 : decode code 480 = .ok (.ireturn, 1) := by decide +kernel
theorem d_law_481 : decode code 481 = .ok (.aload_n 1, 1) := by decide +kernel
theorem d_law_482 : decode code 482 = .ok (.aload_n 0, 1) := by decide +kernel
theorem d_law_483 : decode code 483 = .ok (.iload_n 3, 1) := by decide +kernel
theorem d_law_484 : decode code 484 = .ok (.iconst 1, 1) := by decide +kernel
theorem d_law_485 : decode code 485 = .ok (.iadd, 1) := by decide +kernel
theorem d_law_486 : decode code 486 = .ok (.iaload, 1) := by decide +kernel
theorem d_law_487 : decode code 487 = .ok (.aload_n 0, 1) := by decide +kernel
theorem d_law_488 : decode code 488 = .ok (.iload_n 3, 1) := by decide +kernel
theorem d_law_489 : decode code 489 = .ok (.iconst 2, 1) := by decide +kernel
theorem d_law_490 : decode code 490 = .ok (.iadd, 1) := by decide +kernel
theorem d_law_491 : decode code 491 = .ok (.iaload, 1) := by decide +kernel
theorem d_law_492 : decode code 492 = .ok (.invokevirtual 62, 3) := by decide +kernel
theorem d_law_495 : decode code 495 = .ok (.aload_n 2, 1) := by decide +kernel
theorem d_law_496 : decode code 496 = .ok (.aload_n 0, 1) := by decide +kernel
theorem d_law_497 : decode code 497 = .ok (.iload_n 3, 1) := by decide +kernel
theorem d_law_498 : decode code 498 = .ok (.iconst 1, 1) := by decide +kernel
theorem d_law_499 : decode code 499 = .ok (.iadd, 1) := by decide +kernel
theorem d_law_500 : decode code 500 = .ok (.iaload, 1) := by decide +kernel
theorem d_law_501 : decode code 501 = .ok (.aload_n 0, 1) := by decide +kernel
theorem d_law_502 : decode code 502 = .ok (.iload_n 3, 1) := by decide +kernel
theorem d_law_503 : decode code 503 = .ok (.iconst 2, 1) := by decide +kernel
theorem d_law_504 : decode code 504 = .ok (.iadd, 1) := by decide +kernel
theorem d_law_505 : decode code 505 = .ok (.iaload, 1) := by decide +kernel
theorem d_law_506 : decode code 506 = .ok (.invokevirtual 66, 3) := by decide +kernel
theorem d_law_509 : decode code 509 = .ok (.if_icmp .eq 132, 3) := by decide +kernel
theorem d_law_512 : decode code 512 = .ok (.iconst 0, 1) := by decide +kernel
theorem d_law_513 : decode code 513 = .ok (.ireturn, 1) := by decide +kernel
theorem d_law_514 : decode code 514 = .ok (.aload_n 1, 1) := by decide +kernel
theorem d_law_515 : decode code 515 = .ok (.aload_n 0, 1) := by decide +kernel
theorem d_law_516 : decode code 516 = .ok (.iload_n 3, 1) := by decide +kernel
theorem d_law_517 : decode code 517 = .ok (.iconst 1, 1) := by decide +kernel
theorem d_law_518 : decode code 518 = .ok (.iadd, 1) := by decide +kernel
theorem d_law_519 : decode code 519 = .ok (.iaload, 1) := by decide +kernel
theorem d_law_520 : decode code 520 = .ok (.aload_n 0, 1) := by decide +kernel
theorem d_law_521 : decode code 521 = .ok (.iload_n 3, 1) := by decide +kernel
theorem d_law_522 : decode code 522 = .ok (.iconst 2, 1) := by decide +kernel
theorem d_law_523 : decode code 523 = .ok (.iadd, 1) := by decide +kernel
theorem d_law_524 : decode code 524 = .ok (.iaload, 1) := by decide +kernel
theorem d_law_525 : decode code 525 = .ok (.invokevirtual 67, 3) := by decide +kernel
theorem d_law_528 : decode code 528 = .ok (.aload_n 2, 1) := by decide +kernel
theorem d_law_529 : decode code 529 = .ok (.aload_n 0, 1) := by decide +kernel
theorem d_law_530 : decode code 530 = .ok (.iload_n 3, 1) := by decide +kernel
theorem d_law_531 : decode code 531 = .ok (.iconst 1, 1) := by decide +kernel
theorem d_law_532 : decode code 532 = .ok (.iadd, 1) := by decide +kernel
theorem d_law_533 : decode code 533 = .ok (.iaload, 1) := by decide +kernel
theorem d_law_534 : decode code 534 = .ok (.aload_n 0, 1) := by decide +kernel
theorem d_law_535 : decode code 535 = .ok (.iload_n 3, 1) := by decide +kernel
theorem d_law_536 : decode code 536 = .ok (.iconst 2, 1) := by decide +kernel
theorem d_law_537 : decode code 537 = .ok (.iadd, 1) := by decide +kernel
theorem d_law_538 : decode code 538 = .ok (.iaload, 1) := by decide +kernel
theorem d_law_539 : decode code 539 = .ok (.invokevirtual 70, 3) := by decide +kernel
theorem d_law_542 : decode code 542 = .ok (.if_icmp .eq 99, 3) := by decide +kernel
theorem d_law_545 : decode code 545 = .ok (.iconst 0, 1) := by decide +kernel
theorem d_law_546 : decode code 546 = .ok (.ireturn, 1) := by decide +kernel
theorem d_law_547 : decode code 547 = .ok (.aload_n 1, 1) := by decide +kernel
