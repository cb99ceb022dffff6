/-! the law's instructions (printed by wip/gen/g99d.py) -/
theorem dl_420 : decode code 420 = .ok (.iconst 1, 1) := by decide +kernel
theorem dl_421 : decode code 421 = .ok (.iadd, 1) := by decide +kernel
theorem dl_422 : decode code 422 = .ok (.iaload, 1) := by decide +kernel
theorem dl_423 : decode code 423 = .ok (.invokevirtual 37, 3) := by decide +kernel
theorem dl_426 : decode code 426 = .ok (.aload_n 2, 1) := by decide +kernel
theorem dl_427 : decode code 427 = .ok (.aload_n 0, 1) := by decide +kernel
theorem dl_428 : decode code 428 = .ok (.iload_n 3, 1) := by decide +kernel
theorem dl_429 : decode code 429 = .ok (.iconst 1, 1) := by decide +kernel
theorem dl_430 : decode code 430 = .ok (.iadd, 1) := by decide +kernel
theorem dl_431 : decode code 431 = .ok (.iaload, 1) := by decide +kernel
theorem dl_432 : decode code 432 = .ok (.invokevirtual 40, 3) := by decide +kernel
theorem dl_435 : decode code 435 = .ok (.if_icmp .eq 1116, 3) := by decide +kernel
theorem dl_438 : decode code 438 = .ok (.iconst 0, 1) := by decide +kernel
theorem dl_439 : decode code 439 = .ok (.ireturn, 1) := by decide +kernel
theorem dl_440 : decode code 440 = .ok (.aload_n 1, 1) := by decide +kernel
theorem dl_441 : decode code 441 = .ok (.aload_n 0, 1) := by decide +kernel
theorem dl_442 : decode code 442 = .ok (.iload_n 3, 1) := by decide +kernel
theorem dl_443 : decode code 443 = .ok (.iconst 1, 1) := by decide +kernel
theorem dl_444 : decode code 444 = .ok (.iadd, 1) := by decide +kernel
theorem dl_445 : decode code 445 = .ok (.iaload, 1) := by decide +kernel
theorem dl_446 : decode code 446 = .ok (.aload_n 0, 1) := by decide +kernel
theorem dl_447 : decode code 447 = .ok (.iload_n 3, 1) := by decide +kernel
theorem dl_448 : decode code 448 = .ok (.iconst 2, 1) := by decide +kernel
theorem dl_449 : decode code 449 = .ok (.iadd, 1) := by decide +kernel
theorem dl_450 : decode code 450 = .ok (.iaload, 1) := by decide +kernel
theorem dl_451 : decode code 451 = .ok (.aload_n 0, 1) := by decide +kernel
theorem dl_452 : decode code 452 = .ok (.iload_n 3, 1) := by decide +kernel
theorem dl_453 : decode code 453 = .ok (.iconst 3, 1) := by decide +kernel
theorem dl_454 : decode code 454 = .ok (.iadd, 1) := by decide +kernel
theorem dl_455 : decode code 455 = .ok (.iaload, 1) := by decide +kernel
theorem dl_456 : decode code 456 = .ok (.invokevirtual 41, 3) := by decide +kernel
theorem dl_459 : decode code 459 = .ok (.aload_n 2, 1) := by decide +kernel
theorem dl_460 : decode code 460 = .ok (.aload_n 0, 1) := by decide +kernel
theorem dl_461 : decode code 461 = .ok (.iload_n 3, 1) := by decide +kernel
theorem dl_462 : decode code 462 = .ok (.iconst 1, 1) := by decide +kernel
theorem dl_463 : decode code 463 = .ok (.iadd, 1) := by decide +kernel
theorem dl_464 : decode code 464 = .ok (.iaload, 1) := by decide +kernel
theorem dl_465 : decode code 465 = .ok (.aload_n 0, 1) := by decide +kernel
theorem dl_466 : decode code 466 = .ok (.iload_n 3, 1) := by decide +kernel
theorem dl_467 : decode code 467 = .ok (.iconst 2, 1) := by decide +kernel
theorem dl_468 : decode code 468 = .ok (.iadd, 1) := by decide +kernel
theorem dl_469 : decode code 469 = .ok (.iaload, 1) := by decide +kernel
theorem dl_470 : decode code 470 = .ok (.aload_n 0, 1) := by decide +kernel
theorem dl_471 : decode code 471 = .ok (.iload_n 3, 1) := by decide +kernel
theorem dl_472 : decode code 472 = .ok (.iconst 3, 1) := by decide +kernel
theorem dl_473 : decode code 473 = .ok (.iadd, 1) := by decide +kernel
theorem dl_474 : decode code 474 = .ok (.iaload, 1) := by decide +kernel
theorem dl_475 : decode code 475 = .ok (.invokevirtual 44, 3) := by decide +kernel
theorem dl_478 : decode code 478 = .ok (.if_icmp .eq 1073, 3) := by decide +kernel
theorem dl_481 : decode code 481 = .ok (.iconst 0, 1) := by decide +kernel
theorem dl_482 : decode code 482 = .ok (.ireturn, 1) := by decide +kernel
theorem dl_483 : decode code 483 = .ok (.aload_n 1, 1) := by decide +kernel
theorem dl_484 : decode code 484 = .ok (.aload_n 0, 1) := by decide +kernel
theorem dl_485 : decode code 485 = .ok (.iload_n 3, 1) := by decide +kernel
theorem dl_486 : decode code 486 = .ok (.iconst 1, 1) := by decide +kernel
theorem dl_487 : decode code 487 = .ok (.iadd, 1) := by decide +kernel
theorem dl_488 : decode code 488 = .ok (.iaload, 1) := by decide +kernel
theorem dl_489 : decode code 489 = .ok (.aload_n 0, 1) := by decide +kernel
theorem dl_490 : decode code 490 = .ok (.iload_n 3, 1) := by decide +kernel
theorem dl_491 : decode code 491 = .ok (.iconst 2, 1) := by decide +kernel
theorem dl_492 : decode code 492 = .ok (.iadd, 1) := by decide +kernel
theorem dl_493 : decode code 493 = .ok (.iaload, 1) := by decide +kernel
theorem dl_494 : decode code 494 = .ok (.invokevirtual 45, 3) := by decide +kernel
theorem dl_497 : decode code 497 = .ok (.aload_n 2, 1) := by decide +kernel
theorem dl_498 : decode code 498 = .ok (.aload_n 0, 1) := by decide +kernel
theorem dl_499 : decode code 499 = .ok (.iload_n 3, 1) := by decide +kernel
theorem dl_500 : decode code 500 = .ok (.iconst 1, 1) := by decide +kernel
theorem dl_501 : decode code 501 = .ok (.iadd, 1) := by decide +kernel
theorem dl_502 : decode code 502 = .ok (.iaload, 1) := by decide +kernel
theorem dl_503 : decode code 503 = .ok (.aload_n 0, 1) := by decide +kernel
theorem dl_504 : decode code 504 = .ok (.iload_n 3, 1) := by decide +kernel
theorem dl_505 : decode code 505 = .ok (.iconst 2, 1) := by decide +kernel
theorem dl_506 : decode code 506 = .ok (.iadd, 1) := by decide +kernel
theorem dl_507 : decode code 507 = .ok (.iaload, 1) := by decide +kernel
theorem dl_508 : decode code 508 = .ok (.invokevirtual 48, 3) := by decide +kernel
theorem dl_511 : decode code 511 = .ok (.if_icmp .eq 1040, 3) := by decide +kernel
theorem dl_514 : decode code 514 = .ok (.iconst 0, 1) := by decide +kernel
theorem dl_515 : decode code 515 = .ok (.ireturn, 1) := by decide +kernel
theorem dl_516 : decode code 516 = .ok (.aload_n 1, 1) := by decide +kernel
theorem dl_517 : decode code 517 = .ok (.aload_n 0, 1) := by decide +kernel
theorem dl_518 : decode code 518 = .ok (.iload_n 3, 1) := by decide +kernel
theorem dl_519 : decode code 519 = .ok (.iconst 1, 1) := by decide +kernel
theorem dl_520 : decode code 520 = .ok (.iadd, 1) := by decide +kernel
theorem dl_521 : decode code 521 = .ok (.iaload, 1) := by decide +kernel
theorem dl_522 : decode code 522 = .ok (.invokevirtual 49, 3) := by decide +kernel
theorem dl_525 : decode code 525 = .ok (.aload_n 2, 1) := by decide +kernel
theorem dl_526 : decode code 526 = .ok (.aload_n 0, 1) := by decide +kernel
theorem dl_527 : decode code 527 = .ok (.iload_n 3, 1) := by decide +kernel
theorem dl_528 : decode code 528 = .ok (.iconst 1, 1) := by decide +kernel
theorem dl_529 : decode code 529 = .ok (.iadd, 1) := by decide +kernel
theorem dl_530 : decode code 530 = .ok (.iaload, 1) := by decide +kernel
theorem dl_531 : decode code 531 = .ok (.invokevirtual 52, 3) := by decide +kernel
theorem dl_534 : decode code 534 = .ok (.if_icmp .eq 1017, 3) := by decide +kernel
theorem dl_537 : decode code 537 = .ok (.iconst 0, 1) := by decide +kernel
theorem dl_538 : decode code 538 = .ok (.ireturn, 1) := by decide +kernel
theorem dl_539 : decode code 539 = .ok (.aload_n 1, 1) := by decide +kernel
theorem dl_540 : decode code 540 = .ok (.aload_n 0, 1) := by decide +kernel
theorem dl_541 : decode code 541 = .ok (.iload_n 3, 1) := by decide +kernel
theorem dl_542 : decode code 542 = .ok (.iconst 1, 1) := by decide +kernel
theorem dl_543 : decode code 543 = .ok (.iadd, 1) := by decide +kernel
theorem dl_544 : decode code 544 = .ok (.iaload, 1) := by decide +kernel
theorem dl_545 : decode code 545 = .ok (.invokevirtual 53, 3) := by decide +kernel
theorem dl_548 : decode code 548 = .ok (.aload_n 2, 1) := by decide +kernel
theorem dl_549 : decode code 549 = .ok (.aload_n 0, 1) := by decide +kernel
theorem dl_550 : decode code 550 = .ok (.iload_n 3, 1) := by decide +kernel
theorem dl_551 : decode code 551 = .ok (.iconst 1, 1) := by decide +kernel
theorem dl_552 : decode code 552 = .ok (.iadd, 1) := by decide +kernel
theorem dl_553 : decode code 553 = .ok (.iaload, 1) := by decide +kernel
theorem dl_554 : decode code 554 = .ok (.invokevirtual 56, 3) := by decide +kernel
theorem dl_557 : decode code 557 = .ok (.if_icmp .eq 994, 3) := by decide +kernel
theorem dl_560 : decode code 560 = .ok (.iconst 0, 1) := by decide +kernel
theorem dl_561 : decode code 561 = .ok (.ireturn, 1) := by decide +kernel
theorem dl_562 : decode code 562 = .ok (.aload_n 1, 1) := by decide +kernel
theorem dl_563 : decode code 563 = .ok (.aload_n 0, 1) := by decide +kernel
theorem dl_564 : decode code 564 = .ok (.iload_n 3, 1) := by decide +kernel
theorem dl_565 : decode code 565 = .ok (.iconst 1, 1) := by decide +kernel
theorem dl_566 : decode code 566 = .ok (.iadd, 1) := by decide +kernel
theorem dl_567 : decode code 567 = .ok (.iaload, 1) := by decide +kernel
theorem dl_568 : decode code 568 = .ok (.invokevirtual 57, 3) := by decide +kernel
theorem dl_571 : decode code 571 = .ok (.aload_n 2, 1) := by decide +kernel
theorem dl_572 : decode code 572 = .ok (.aload_n 0, 1) := by decide +kernel
theorem dl_573 : decode code 573 = .ok (.iload_n 3, 1) := by decide +kernel
theorem dl_574 : decode code 574 = .ok (.iconst 1, 1) := by decide +kernel
theorem dl_575 : decode code 575 = .ok (.iadd, 1) := by decide +kernel
theorem dl_576 : decode code 576 = .ok (.iaload, 1) := by decide +kernel
theorem dl_577 : decode code 577 = .ok (.invokevirtual 60, 3) := by decide +kernel
theorem dl_580 : decode code 580 = .ok (.if_icmp .eq 971, 3) := by decide +kernel
theorem dl_583 : decode code 583 = .ok (.iconst 0, 1) := by decide +kernel
theorem dl_584 : decode code 584 = .ok (.ireturn, 1) := by decide +kernel
theorem dl_585 : decode code 585 = .ok (.aload_n 1, 1) := by decide +kernel
theorem dl_586 : decode code 586 = .ok (.aload_n 0, 1) := by decide +kernel
theorem dl_587 : decode code 587 = .ok (.iload_n 3, 1) := by decide +kernel
theorem dl_588 : decode code 588 = .ok (.iconst 1, 1) := by decide +kernel
theorem dl_589 : decode code 589 = .ok (.iadd, 1) := by decide +kernel
theorem dl_590 : decode code 590 = .ok (.iaload, 1) := by decide +kernel
theorem dl_591 : decode code 591 = .ok (.aload_n 0, 1) := by decide +kernel
theorem dl_592 : decode code 592 = .ok (.iload_n 3, 1) := by decide +kernel
theorem dl_593 : decode code 593 = .ok (.iconst 2, 1) := by decide +kernel
theorem dl_594 : decode code 594 = .ok (.iadd, 1) := by decide +kernel
theorem dl_595 : decode code 595 = .ok (.iaload, 1) := by decide +kernel
theorem dl_596 : decode code 596 = .ok (.invokevirtual 61, 3) := by decide +kernel
theorem dl_599 : decode code 599 = .ok (.aload_n 2, 1) := by decide +kernel
theorem dl_600 : decode code 600 = .ok (.aload_n 0, 1) := by decide +kernel
theorem dl_601 : decode code 601 = .ok (.iload_n 3, 1) := by decide +kernel
theorem dl_602 : decode code 602 = .ok (.iconst 1, 1) := by decide +kernel
theorem dl_603 : decode code 603 = .ok (.iadd, 1) := by decide +kernel
theorem dl_604 : decode code 604 = .ok (.iaload, 1) := by decide +kernel
theorem dl_605 : decode code 605 = .ok (.aload_n 0, 1) := by decide +kernel
theorem dl_606 : decode code 606 = .ok (.iload_n 3, 1) := by decide +kernel
theorem dl_607 : decode code 607 = .ok (.iconst 2, 1) := by decide +kernel
theorem dl_608 : decode code 608 = .ok (.iadd, 1) := by decide +kernel
theorem dl_609 : decode code 609 = .ok (.iaload, 1) := by decide +kernel
theorem dl_610 : decode code 610 = .ok (.invokevirtual 64, 3) := by decide +kernel
theorem dl_613 : decode code 613 = .ok (.if_icmp .eq 938, 3) := by decide +kernel
theorem dl_616 : decode code 616 = .ok (.iconst 0, 1) := by decide +kernel
theorem dl_617 : decode code 617 = .ok (.ireturn, 1) := by decide +kernel
theorem dl_618 : decode code 618 = .ok (.aload_n 1, 1) := by decide +kernel
theorem dl_619 : decode code 619 = .ok (.invokevirtual 65, 3) := by decide +kernel
theorem dl_622 : decode code 622 = .ok (.aload_n 2, 1) := by decide +kernel
theorem dl_623 : decode code 623 = .ok (.invokevirtual 69, 3) := by decide +kernel
theorem dl_626 : decode code 626 = .ok (.if_icmp .eq 925, 3) := by decide +kernel
theorem dl_629 : decode code 629 = .ok (.iconst 0, 1) := by decide +kernel
theorem dl_630 : decode code 630 = .ok (.ireturn, 1) := by decide +kernel
theorem dl_631 : decode code 631 = .ok (.aload_n 1, 1) := by decide +kernel
theorem dl_632 : decode code 632 = .ok (.aload_n 0, 1) := by decide +kernel
theorem dl_633 : decode code 633 = .ok (.iload_n 3, 1) := by decide +kernel
theorem dl_634 : decode code 634 = .ok (.iconst 1, 1) := by decide +kernel
theorem dl_635 : decode code 635 = .ok (.iadd, 1) := by decide +kernel
theorem dl_636 : decode code 636 = .ok (.iaload, 1) := by decide +kernel
theorem dl_637 : decode code 637 = .ok (.aload_n 0, 1) := by decide +kernel
theorem dl_638 : decode code 638 = .ok (.iload_n 3, 1) := by decide +kernel
theorem dl_639 : decode code 639 = .ok (.iconst 2, 1) := by decide +kernel
theorem dl_640 : decode code 640 = .ok (.iadd, 1) := by decide +kernel
theorem dl_641 : decode code 641 = .ok (.iaload, 1) := by decide +kernel
theorem dl_642 : decode code 642 = .ok (.invokevirtual 70, 3) := by decide +kernel
theorem dl_645 : decode code 645 = .ok (.aload_n 2, 1) := by decide +kernel
theorem dl_646 : decode code 646 = .ok (.aload_n 0, 1) := by decide +kernel
theorem dl_647 : decode code 647 = .ok (.iload_n 3, 1) := by decide +kernel
theorem dl_648 : decode code 648 = .ok (.iconst 1, 1) := by decide +kernel
theorem dl_649 : decode code 649 = .ok (.iadd, 1) := by decide +kernel
