theorem dl_464_g : (decode code 464 = .ok (.pop, 1)) ∧ (decode code 465 = .ok (.goto 665, 3)) ∧ (decode code 468 = .ok (.aload_n 1, 1)) ∧ (decode code 469 = .ok (.aload_n 0, 1)) ∧ (decode code 470 = .ok (.iload_n 3, 1)) ∧ (decode code 471 = .ok (.iconst 1, 1)) ∧ (decode code 472 = .ok (.iadd, 1)) ∧ (decode code 473 = .ok (.iaload, 1)) := by decide +kernel
theorem dl_464 : decode code 464 = .ok (.pop, 1) := dl_464_g.1
theorem dl_465 : decode code 465 = .ok (.goto 665, 3) := dl_464_g.2.1
theorem dl_468 : decode code 468 = .ok (.aload_n 1, 1) := dl_464_g.2.2.1
theorem dl_469 : decode code 469 = .ok (.aload_n 0, 1) := dl_464_g.2.2.2.1
theorem dl_470 : decode code 470 = .ok (.iload_n 3, 1) := dl_464_g.2.2.2.2.1
theorem dl_471 : decode code 471 = .ok (.iconst 1, 1) := dl_464_g.2.2.2.2.2.1
theorem dl_472 : decode code 472 = .ok (.iadd, 1) := dl_464_g.2.2.2.2.2.2.1
theorem dl_473 : decode code 473 = .ok (.iaload, 1) := dl_464_g.2.2.2.2.2.2.2
theorem dl_474_g : (decode code 474 = .ok (.aload_n 0, 1)) ∧ (decode code 475 = .ok (.iload_n 3, 1)) ∧ (decode code 476 = .ok (.iconst 2, 1)) ∧ (decode code 477 = .ok (.iadd, 1)) ∧ (decode code 478 = .ok (.iaload, 1)) ∧ (decode code 479 = .ok (.invokevirtual 52, 3)) ∧ (decode code 482 = .ok (.pop, 1)) ∧ (decode code 483 = .ok (.aload_n 2, 1)) := by decide +kernel
theorem dl_474 : decode code 474 = .ok (.aload_n 0, 1) := dl_474_g.1
theorem dl_475 : decode code 475 = .ok (.iload_n 3, 1) := dl_474_g.2.1
theorem dl_476 : decode code 476 = .ok (.iconst 2, 1) := dl_474_g.2.2.1
theorem dl_477 : decode code 477 = .ok (.iadd, 1) := dl_474_g.2.2.2.1
theorem dl_478 : decode code 478 = .ok (.iaload, 1) := dl_474_g.2.2.2.2.1
theorem dl_479 : decode code 479 = .ok (.invokevirtual 52, 3) := dl_474_g.2.2.2.2.2.1
theorem dl_482 : decode code 482 = .ok (.pop, 1) := dl_474_g.2.2.2.2.2.2.1
theorem dl_483 : decode code 483 = .ok (.aload_n 2, 1) := dl_474_g.2.2.2.2.2.2.2
theorem dl_484_g : (decode code 484 = .ok (.aload_n 0, 1)) ∧ (decode code 485 = .ok (.iload_n 3, 1)) ∧ (decode code 486 = .ok (.iconst 1, 1)) ∧ (decode code 487 = .ok (.iadd, 1)) ∧ (decode code 488 = .ok (.iaload, 1)) ∧ (decode code 489 = .ok (.aload_n 0, 1)) ∧ (decode code 490 = .ok (.iload_n 3, 1)) ∧ (decode code 491 = .ok (.iconst 2, 1)) := by decide +kernel
theorem dl_484 : decode code 484 = .ok (.aload_n 0, 1) := dl_484_g.1
theorem dl_485 : decode code 485 = .ok (.iload_n 3, 1) := dl_484_g.2.1
theorem dl_486 : decode code 486 = .ok (.iconst 1, 1) := dl_484_g.2.2.1
theorem dl_487 : decode code 487 = .ok (.iadd, 1) := dl_484_g.2.2.2.1
theorem dl_488 : decode code 488 = .ok (.iaload, 1) := dl_484_g.2.2.2.2.1
theorem dl_489 : decode code 489 = .ok (.aload_n 0, 1) := dl_484_g.2.2.2.2.2.1
theorem dl_490 : decode code 490 = .ok (.iload_n 3, 1) := dl_484_g.2.2.2.2.2.2.1
theorem dl_491 : decode code 491 = .ok (.iconst 2, 1) := dl_484_g.2.2.2.2.2.2.2
theorem dl_492_g : (decode code 492 = .ok (.iadd, 1)) ∧ (decode code 493 = .ok (.iaload, 1)) ∧ (decode code 494 = .ok (.invokevirtual 55, 3)) ∧ (decode code 497 = .ok (.pop, 1)) ∧ (decode code 498 = .ok (.goto 632, 3)) ∧ (decode code 501 = .ok (.aload_n 1, 1)) ∧ (decode code 502 = .ok (.aload_n 0, 1)) ∧ (decode code 503 = .ok (.iload_n 3, 1)) := by decide +kernel
theorem dl_492 : decode code 492 = .ok (.iadd, 1) := dl_492_g.1
theorem dl_493 : decode code 493 = .ok (.iaload, 1) := dl_492_g.2.1
theorem dl_494 : decode code 494 = .ok (.invokevirtual 55, 3) := dl_492_g.2.2.1
theorem dl_497 : decode code 497 = .ok (.pop, 1) := dl_492_g.2.2.2.1
theorem dl_498 : decode code 498 = .ok (.goto 632, 3) := dl_492_g.2.2.2.2.1
theorem dl_501 : decode code 501 = .ok (.aload_n 1, 1) := dl_492_g.2.2.2.2.2.1
theorem dl_502 : decode code 502 = .ok (.aload_n 0, 1) := dl_492_g.2.2.2.2.2.2.1
theorem dl_503 : decode code 503 = .ok (.iload_n 3, 1) := dl_492_g.2.2.2.2.2.2.2
theorem dl_504_g : (decode code 504 = .ok (.iconst 1, 1)) ∧ (decode code 505 = .ok (.iadd, 1)) ∧ (decode code 506 = .ok (.iaload, 1)) ∧ (decode code 507 = .ok (.aload_n 0, 1)) ∧ (decode code 508 = .ok (.iload_n 3, 1)) ∧ (decode code 509 = .ok (.iconst 2, 1)) ∧ (decode code 510 = .ok (.iadd, 1)) ∧ (decode code 511 = .ok (.iaload, 1)) := by decide +kernel
theorem dl_504 : decode code 504 = .ok (.iconst 1, 1) := dl_504_g.1
theorem dl_505 : decode code 505 = .ok (.iadd, 1) := dl_504_g.2.1
theorem dl_506 : decode code 506 = .ok (.iaload, 1) := dl_504_g.2.2.1
theorem dl_507 : decode code 507 = .ok (.aload_n 0, 1) := dl_504_g.2.2.2.1
theorem dl_508 : decode code 508 = .ok (.iload_n 3, 1) := dl_504_g.2.2.2.2.1
theorem dl_509 : decode code 509 = .ok (.iconst 2, 1) := dl_504_g.2.2.2.2.2.1
theorem dl_510 : decode code 510 = .ok (.iadd, 1) := dl_504_g.2.2.2.2.2.2.1
theorem dl_511 : decode code 511 = .ok (.iaload, 1) := dl_504_g.2.2.2.2.2.2.2
theorem dl_512_g : (decode code 512 = .ok (.invokevirtual 56, 3)) ∧ (decode code 515 = .ok (.pop, 1)) ∧ (decode code 516 = .ok (.aload_n 2, 1)) ∧ (decode code 517 = .ok (.aload_n 0, 1)) ∧ (decode code 518 = .ok (.iload_n 3, 1)) ∧ (decode code 519 = .ok (.iconst 1, 1)) ∧ (decode code 520 = .ok (.iadd, 1)) ∧ (decode code 521 = .ok (.iaload, 1)) := by decide +kernel
theorem dl_512 : decode code 512 = .ok (.invokevirtual 56, 3) := dl_512_g.1
theorem dl_515 : decode code 515 = .ok (.pop, 1) := dl_512_g.2.1
theorem dl_516 : decode code 516 = .ok (.aload_n 2, 1) := dl_512_g.2.2.1
theorem dl_517 : decode code 517 = .ok (.aload_n 0, 1) := dl_512_g.2.2.2.1
theorem dl_518 : decode code 518 = .ok (.iload_n 3, 1) := dl_512_g.2.2.2.2.1
theorem dl_519 : decode code 519 = .ok (.iconst 1, 1) := dl_512_g.2.2.2.2.2.1
theorem dl_520 : decode code 520 = .ok (.iadd, 1) := dl_512_g.2.2.2.2.2.2.1
theorem dl_521 : decode code 521 = .ok (.iaload, 1) := dl_512_g.2.2.2.2.2.2.2
theorem dl_522_g : (decode code 522 = .ok (.aload_n 0, 1)) ∧ (decode code 523 = .ok (.iload_n 3, 1)) ∧ (decode code 524 = .ok (.iconst 2, 1)) ∧ (decode code 525 = .ok (.iadd, 1)) ∧ (decode code 526 = .ok (.iaload, 1)) ∧ (decode code 527 = .ok (.invokevirtual 59, 3)) ∧ (decode code 530 = .ok (.pop, 1)) ∧ (decode code 531 = .ok (.goto 599, 3)) := by decide +kernel
theorem dl_522 : decode code 522 = .ok (.aload_n 0, 1) := dl_522_g.1
theorem dl_523 : decode code 523 = .ok (.iload_n 3, 1) := dl_522_g.2.1
theorem dl_524 : decode code 524 = .ok (.iconst 2, 1) := dl_522_g.2.2.1
theorem dl_525 : decode code 525 = .ok (.iadd, 1) := dl_522_g.2.2.2.1
theorem dl_526 : decode code 526 = .ok (.iaload, 1) := dl_522_g.2.2.2.2.1
theorem dl_527 : decode code 527 = .ok (.invokevirtual 59, 3) := dl_522_g.2.2.2.2.2.1
theorem dl_530 : decode code 530 = .ok (.pop, 1) := dl_522_g.2.2.2.2.2.2.1
theorem dl_531 : decode code 531 = .ok (.goto 599, 3) := dl_522_g.2.2.2.2.2.2.2
theorem dl_534_g : (decode code 534 = .ok (.aload_n 1, 1)) ∧ (decode code 535 = .ok (.aload_n 0, 1)) ∧ (decode code 536 = .ok (.iload_n 3, 1)) ∧ (decode code 537 = .ok (.iconst 1, 1)) ∧ (decode code 538 = .ok (.iadd, 1)) ∧ (decode code 539 = .ok (.iaload, 1)) ∧ (decode code 540 = .ok (.aload_n 0, 1)) ∧ (decode code 541 = .ok (.iload_n 3, 1)) := by decide +kernel
theorem dl_534 : decode code 534 = .ok (.aload_n 1, 1) := dl_534_g.1
theorem dl_535 : decode code 535 = .ok (.aload_n 0, 1) := dl_534_g.2.1
theorem dl_536 : decode code 536 = .ok (.iload_n 3, 1) := dl_534_g.2.2.1
theorem dl_537 : decode code 537 = .ok (.iconst 1, 1) := dl_534_g.2.2.2.1
theorem dl_538 : decode code 538 = .ok (.iadd, 1) := dl_534_g.2.2.2.2.1
theorem dl_539 : decode code 539 = .ok (.iaload, 1) := dl_534_g.2.2.2.2.2.1
theorem dl_540 : decode code 540 = .ok (.aload_n 0, 1) := dl_534_g.2.2.2.2.2.2.1
theorem dl_541 : decode code 541 = .ok (.iload_n 3, 1) := dl_534_g.2.2.2.2.2.2.2
theorem dl_542_g : (decode code 542 = .ok (.iconst 2, 1)) ∧ (decode code 543 = .ok (.iadd, 1)) ∧ (decode code 544 = .ok (.iaload, 1)) ∧ (decode code 545 = .ok (.invokevirtual 60, 3)) ∧ (decode code 548 = .ok (.pop, 1)) ∧ (decode code 549 = .ok (.aload_n 2, 1)) ∧ (decode code 550 = .ok (.aload_n 0, 1)) ∧ (decode code 551 = .ok (.iload_n 3, 1)) := by decide +kernel
theorem dl_542 : decode code 542 = .ok (.iconst 2, 1) := dl_542_g.1
theorem dl_543 : decode code 543 = .ok (.iadd, 1) := dl_542_g.2.1
theorem dl_544 : decode code 544 = .ok (.iaload, 1) := dl_542_g.2.2.1
theorem dl_545 : decode code 545 = .ok (.invokevirtual 60, 3) := dl_542_g.2.2.2.1
theorem dl_548 : decode code 548 = .ok (.pop, 1) := dl_542_g.2.2.2.2.1
theorem dl_549 : decode code 549 = .ok (.aload_n 2, 1) := dl_542_g.2.2.2.2.2.1
theorem dl_550 : decode code 550 = .ok (.aload_n 0, 1) := dl_542_g.2.2.2.2.2.2.1
theorem dl_551 : decode code 551 = .ok (.iload_n 3, 1) := dl_542_g.2.2.2.2.2.2.2
theorem dl_552_g : (decode code 552 = .ok (.iconst 1, 1)) ∧ (decode code 553 = .ok (.iadd, 1)) ∧ (decode code 554 = .ok (.iaload, 1)) ∧ (decode code 555 = .ok (.aload_n 0, 1)) ∧ (decode code 556 = .ok (.iload_n 3, 1)) ∧ (decode code 557 = .ok (.iconst 2, 1)) ∧ (decode code 558 = .ok (.iadd, 1)) ∧ (decode code 559 = .ok (.iaload, 1)) := by decide +kernel
theorem dl_552 : decode code 552 = .ok (.iconst 1, 1) := dl_552_g.1
theorem dl_553 : decode code 553 = .ok (.iadd, 1) := dl_552_g.2.1
theorem dl_554 : decode code 554 = .ok (.iaload, 1) := dl_552_g.2.2.1
theorem dl_555 : decode code 555 = .ok (.aload_n 0, 1) := dl_552_g.2.2.2.1
theorem dl_556 : decode code 556 = .ok (.iload_n 3, 1) := dl_552_g.2.2.2.2.1
theorem dl_557 : decode code 557 = .ok (.iconst 2, 1) := dl_552_g.2.2.2.2.2.1
theorem dl_558 : decode code 558 = .ok (.iadd, 1) := dl_552_g.2.2.2.2.2.2.1
theorem dl_559 : decode code 559 = .ok (.iaload, 1) := dl_552_g.2.2.2.2.2.2.2
theorem dl_560_g : (decode code 560 = .ok (.invokevirtual 63, 3)) ∧ (decode code 563 = .ok (.pop, 1)) ∧ (decode code 564 = .ok (.goto 566, 3)) ∧ (decode code 567 = .ok (.aload_n 1, 1)) ∧ (decode code 568 = .ok (.invokevirtual 64, 3)) ∧ (decode code 571 = .ok (.pop, 1)) ∧ (decode code 572 = .ok (.aload_n 2, 1)) ∧ (decode code 573 = .ok (.invokevirtual 67, 3)) := by decide +kernel
theorem dl_560 : decode code 560 = .ok (.invokevirtual 63, 3) := dl_560_g.1
theorem dl_563 : decode code 563 = .ok (.pop, 1) := dl_560_g.2.1
theorem dl_564 : decode code 564 = .ok (.goto 566, 3) := dl_560_g.2.2.1
theorem dl_567 : decode code 567 = .ok (.aload_n 1, 1) := dl_560_g.2.2.2.1
theorem dl_568 : decode code 568 = .ok (.invokevirtual 64, 3) := dl_560_g.2.2.2.2.1
theorem dl_571 : decode code 571 = .ok (.pop, 1) := dl_560_g.2.2.2.2.2.1
theorem dl_572 : decode code 572 = .ok (.aload_n 2, 1) := dl_560_g.2.2.2.2.2.2.1
theorem dl_573 : decode code 573 = .ok (.invokevirtual 67, 3) := dl_560_g.2.2.2.2.2.2.2
theorem dl_576_g : (decode code 576 = .ok (.pop, 1)) ∧ (decode code 577 = .ok (.goto 553, 3)) ∧ (decode code 580 = .ok (.aload_n 1, 1)) ∧ (decode code 581 = .ok (.invokevirtual 68, 3)) ∧ (decode code 584 = .ok (.pop, 1)) ∧ (decode code 585 = .ok (.aload_n 2, 1)) ∧ (decode code 586 = .ok (.invokevirtual 71, 3)) ∧ (decode code 589 = .ok (.pop, 1)) := by decide +kernel
theorem dl_576 : decode code 576 = .ok (.pop, 1) := dl_576_g.1
theorem dl_577 : decode code 577 = .ok (.goto 553, 3) := dl_576_g.2.1
theorem dl_580 : decode code 580 = .ok (.aload_n 1, 1) := dl_576_g.2.2.1
theorem dl_581 : decode code 581 = .ok (.invokevirtual 68, 3) := dl_576_g.2.2.2.1
theorem dl_584 : decode code 584 = .ok (.pop, 1) := dl_576_g.2.2.2.2.1
theorem dl_585 : decode code 585 = .ok (.aload_n 2, 1) := dl_576_g.2.2.2.2.2.1
theorem dl_586 : decode code 586 = .ok (.invokevirtual 71, 3) := dl_576_g.2.2.2.2.2.2.1
theorem dl_589 : decode code 589 = .ok (.pop, 1) := dl_576_g.2.2.2.2.2.2.2
theorem dl_590_g : (decode code 590 = .ok (.goto 540, 3)) ∧ (decode code 593 = .ok (.aload_n 1, 1)) ∧ (decode code 594 = .ok (.invokevirtual 72, 3)) ∧ (decode code 597 = .ok (.pop, 1)) ∧ (decode code 598 = .ok (.aload_n 2, 1)) ∧ (decode code 599 = .ok (.invokevirtual 75, 3)) ∧ (decode code 602 = .ok (.pop, 1)) ∧ (decode code 603 = .ok (.goto 527, 3)) := by decide +kernel
theorem dl_590 : decode code 590 = .ok (.goto 540, 3) := dl_590_g.1
theorem dl_593 : decode code 593 = .ok (.aload_n 1, 1) := dl_590_g.2.1
theorem dl_594 : decode code 594 = .ok (.invokevirtual 72, 3) := dl_590_g.2.2.1
theorem dl_597 : decode code 597 = .ok (.pop, 1) := dl_590_g.2.2.2.1
theorem dl_598 : decode code 598 = .ok (.aload_n 2, 1) := dl_590_g.2.2.2.2.1
theorem dl_599 : decode code 599 = .ok (.invokevirtual 75, 3) := dl_590_g.2.2.2.2.2.1
theorem dl_602 : decode code 602 = .ok (.pop, 1) := dl_590_g.2.2.2.2.2.2.1
theorem dl_603 : decode code 603 = .ok (.goto 527, 3) := dl_590_g.2.2.2.2.2.2.2
theorem dl_606_g : (decode code 606 = .ok (.aload_n 1, 1)) ∧ (decode code 607 = .ok (.invokevirtual 76, 3)) ∧ (decode code 610 = .ok (.pop, 1)) ∧ (decode code 611 = .ok (.aload_n 2, 1)) ∧ (decode code 612 = .ok (.invokevirtual 79, 3)) ∧ (decode code 615 = .ok (.pop, 1)) ∧ (decode code 616 = .ok (.goto 514, 3)) ∧ (decode code 619 = .ok (.aload_n 1, 1)) := by decide +kernel
theorem dl_606 : decode code 606 = .ok (.aload_n 1, 1) := dl_606_g.1
theorem dl_607 : decode code 607 = .ok (.invokevirtual 76, 3) := dl_606_g.2.1
theorem dl_610 : decode code 610 = .ok (.pop, 1) := dl_606_g.2.2.1
theorem dl_611 : decode code 611 = .ok (.aload_n 2, 1) := dl_606_g.2.2.2.1
theorem dl_612 : decode code 612 = .ok (.invokevirtual 79, 3) := dl_606_g.2.2.2.2.1
theorem dl_615 : decode code 615 = .ok (.pop, 1) := dl_606_g.2.2.2.2.2.1
theorem dl_616 : decode code 616 = .ok (.goto 514, 3) := dl_606_g.2.2.2.2.2.2.1
theorem dl_619 : decode code 619 = .ok (.aload_n 1, 1) := dl_606_g.2.2.2.2.2.2.2
theorem dl_620_g : (decode code 620 = .ok (.invokevirtual 80, 3)) ∧ (decode code 623 = .ok (.pop, 1)) ∧ (decode code 624 = .ok (.aload_n 2, 1)) ∧ (decode code 625 = .ok (.invokevirtual 83, 3)) ∧ (decode code 628 = .ok (.pop, 1)) ∧ (decode code 629 = .ok (.goto 501, 3)) ∧ (decode code 632 = .ok (.aload_n 1, 1)) ∧ (decode code 633 = .ok (.aload_n 0, 1)) := by decide +kernel
theorem dl_620 : decode code 620 = .ok (.invokevirtual 80, 3) := dl_620_g.1
theorem dl_623 : decode code 623 = .ok (.pop, 1) := dl_620_g.2.1
theorem dl_624 : decode code 624 = .ok (.aload_n 2, 1) := dl_620_g.2.2.1
theorem dl_625 : decode code 625 = .ok (.invokevirtual 83, 3) := dl_620_g.2.2.2.1
theorem dl_628 : decode code 628 = .ok (.pop, 1) := dl_620_g.2.2.2.2.1
theorem dl_629 : decode code 629 = .ok (.goto 501, 3) := dl_620_g.2.2.2.2.2.1
theorem dl_632 : decode code 632 = .ok (.aload_n 1, 1) := dl_620_g.2.2.2.2.2.2.1
theorem dl_633 : decode code 633 = .ok (.aload_n 0, 1) := dl_620_g.2.2.2.2.2.2.2
