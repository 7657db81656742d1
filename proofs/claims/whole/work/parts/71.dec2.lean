/-! The law's rows. -/
theorem dL_397 : decode code 397 = .ok (.iaload, 1) := by decide +kernel
theorem dL_398 : decode code 398 = .ok (.invokevirtual 47, 3) := by decide +kernel
theorem dL_401 : decode code 401 = .ok (.if_icmp .eq 781, 3) := by decide +kernel
theorem dL_404 : decode code 404 = .ok (.iconst 0, 1) := by decide +kernel
theorem dL_405 : decode code 405 = .ok (.ireturn, 1) := by decide +kernel
theorem dL_406 : decode code 406 = .ok (.aload_n 1, 1) := by decide +kernel
theorem dL_407 : decode code 407 = .ok (.invokevirtual 48, 3) := by decide +kernel
theorem dL_410 : decode code 410 = .ok (.aload_n 2, 1) := by decide +kernel
theorem dL_411 : decode code 411 = .ok (.invokevirtual 52, 3) := by decide +kernel
theorem dL_414 : decode code 414 = .ok (.if_icmp .eq 768, 3) := by decide +kernel
theorem dL_417 : decode code 417 = .ok (.iconst 0, 1) := by decide +kernel
theorem dL_418 : decode code 418 = .ok (.ireturn, 1) := by decide +kernel
theorem dL_419 : decode code 419 = .ok (.aload_n 1, 1) := by decide +kernel
theorem dL_420 : decode code 420 = .ok (.aload_n 0, 1) := by decide +kernel
theorem dL_421 : decode code 421 = .ok (.iload_n 3, 1) := by decide +kernel
theorem dL_422 : decode code 422 = .ok (.iconst 1, 1) := by decide +kernel
theorem dL_423 : decode code 423 = .ok (.iadd, 1) := by decide +kernel
theorem dL_424 : decode code 424 = .ok (.iaload, 1) := by decide +kernel
theorem dL_425 : decode code 425 = .ok (.invokevirtual 53, 3) := by decide +kernel
theorem dL_428 : decode code 428 = .ok (.aload_n 2, 1) := by decide +kernel
theorem dL_429 : decode code 429 = .ok (.aload_n 0, 1) := by decide +kernel
theorem dL_430 : decode code 430 = .ok (.iload_n 3, 1) := by decide +kernel
theorem dL_431 : decode code 431 = .ok (.iconst 1, 1) := by decide +kernel
theorem dL_432 : decode code 432 = .ok (.iadd, 1) := by decide +kernel
theorem dL_433 : decode code 433 = .ok (.iaload, 1) := by decide +kernel
theorem dL_434 : decode code 434 = .ok (.invokevirtual 56, 3) := by decide +kernel
theorem dL_437 : decode code 437 = .ok (.if_icmp .eq 745, 3) := by decide +kernel
theorem dL_440 : decode code 440 = .ok (.iconst 0, 1) := by decide +kernel
theorem dL_441 : decode code 441 = .ok (.ireturn, 1) := by decide +kernel
theorem dL_442 : decode code 442 = .ok (.aload_n 1, 1) := by decide +kernel
theorem dL_443 : decode code 443 = .ok (.aload_n 0, 1) := by decide +kernel
theorem dL_444 : decode code 444 = .ok (.iload_n 3, 1) := by decide +kernel
theorem dL_445 : decode code 445 = .ok (.iconst 1, 1) := by decide +kernel
theorem dL_446 : decode code 446 = .ok (.iadd, 1) := by decide +kernel
theorem dL_447 : decode code 447 = .ok (.iaload, 1) := by decide +kernel
theorem dL_448 : decode code 448 = .ok (.aload_n 0, 1) := by decide +kernel
theorem dL_449 : decode code 449 = .ok (.iload_n 3, 1) := by decide +kernel
theorem dL_450 : decode code 450 = .ok (.iconst 2, 1) := by decide +kernel
theorem dL_451 : decode code 451 = .ok (.iadd, 1) := by decide +kernel
theorem dL_452 : decode code 452 = .ok (.iaload, 1) := by decide +kernel
theorem dL_453 : decode code 453 = .ok (.invokevirtual 57, 3) := by decide +kernel
theorem dL_456 : decode code 456 = .ok (.aload_n 2, 1) := by decide +kernel
theorem dL_457 : decode code 457 = .ok (.aload_n 0, 1) := by decide +kernel
theorem dL_458 : decode code 458 = .ok (.iload_n 3, 1) := by decide +kernel
theorem dL_459 : decode code 459 = .ok (.iconst 1, 1) := by decide +kernel
theorem dL_460 : decode code 460 = .ok (.iadd, 1) := by decide +kernel
theorem dL_461 : decode code 461 = .ok (.iaload, 1) := by decide +kernel
theorem dL_462 : decode code 462 = .ok (.aload_n 0, 1) := by decide +kernel
theorem dL_463 : decode code 463 = .ok (.iload_n 3, 1) := by decide +kernel
theorem dL_464 : decode code 464 = .ok (.iconst 2, 1) := by decide +kernel
theorem dL_465 : decode code 465 = .ok (.iadd, 1) := by decide +kernel
theorem dL_466 : decode code 466 = .ok (.iaload, 1) := by decide +kernel
theorem dL_467 : decode code 467 = .ok (.invokevirtual 61, 3) := by decide +kernel
theorem dL_470 : decode code 470 = .ok (.if_icmp .eq 712, 3) := by decide +kernel
theorem dL_473 : decode code 473 = .ok (.iconst 0, 1) := by decide +kernel
theorem dL_474 : decode code 474 = .ok (.ireturn, 1) := by decide +kernel
theorem dL_475 : decode code 475 = .ok (.aload_n 1, 1) := by decide +kernel
theorem dL_476 : decode code 476 = .ok (.aload_n 0, 1) := by decide +kernel
theorem dL_477 : decode code 477 = .ok (.iload_n 3, 1) := by decide +kernel
theorem dL_478 : decode code 478 = .ok (.iconst 1, 1) := by decide +kernel
theorem dL_479 : decode code 479 = .ok (.iadd, 1) := by decide +kernel
theorem dL_480 : decode code 480 = .ok (.iaload, 1) := by decide +kernel
theorem dL_481 : decode code 481 = .ok (.invokevirtual 62, 3) := by decide +kernel
theorem dL_484 : decode code 484 = .ok (.aload_n 2, 1) := by decide +kernel
theorem dL_485 : decode code 485 = .ok (.aload_n 0, 1) := by decide +kernel
theorem dL_486 : decode code 486 = .ok (.iload_n 3, 1) := by decide +kernel
theorem dL_487 : decode code 487 = .ok (.iconst 1, 1) := by decide +kernel
theorem dL_488 : decode code 488 = .ok (.iadd, 1) := by decide +kernel
theorem dL_489 : decode code 489 = .ok (.iaload, 1) := by decide +kernel
theorem dL_490 : decode code 490 = .ok (.invokevirtual 65, 3) := by decide +kernel
theorem dL_493 : decode code 493 = .ok (.if_icmp .eq 689, 3) := by decide +kernel
theorem dL_496 : decode code 496 = .ok (.iconst 0, 1) := by decide +kernel
theorem dL_497 : decode code 497 = .ok (.ireturn, 1) := by decide +kernel
theorem dL_498 : decode code 498 = .ok (.aload_n 1, 1) := by decide +kernel
theorem dL_499 : decode code 499 = .ok (.aload_n 0, 1) := by decide +kernel
theorem dL_500 : decode code 500 = .ok (.iload_n 3, 1) := by decide +kernel
theorem dL_501 : decode code 501 = .ok (.iconst 1, 1) := by decide +kernel
theorem dL_502 : decode code 502 = .ok (.iadd, 1) := by decide +kernel
theorem dL_503 : decode code 503 = .ok (.iaload, 1) := by decide +kernel
theorem dL_504 : decode code 504 = .ok (.aload_n 0, 1) := by decide +kernel
theorem dL_505 : decode code 505 = .ok (.iload_n 3, 1) := by decide +kernel
theorem dL_506 : decode code 506 = .ok (.iconst 2, 1) := by decide +kernel
theorem dL_507 : decode code 507 = .ok (.iadd, 1) := by decide +kernel
theorem dL_508 : decode code 508 = .ok (.iaload, 1) := by decide +kernel
theorem dL_509 : decode code 509 = .ok (.invokevirtual 66, 3) := by decide +kernel
theorem dL_512 : decode code 512 = .ok (.aload_n 2, 1) := by decide +kernel
theorem dL_513 : decode code 513 = .ok (.aload_n 0, 1) := by decide +kernel
theorem dL_514 : decode code 514 = .ok (.iload_n 3, 1) := by decide +kernel
theorem dL_515 : decode code 515 = .ok (.iconst 1, 1) := by decide +kernel
theorem dL_516 : decode code 516 = .ok (.iadd, 1) := by decide +kernel
theorem dL_517 : decode code 517 = .ok (.iaload, 1) := by decide +kernel
theorem dL_518 : decode code 518 = .ok (.aload_n 0, 1) := by decide +kernel
theorem dL_519 : decode code 519 = .ok (.iload_n 3, 1) := by decide +kernel
theorem dL_520 : decode code 520 = .ok (.iconst 2, 1) := by decide +kernel
theorem dL_521 : decode code 521 = .ok (.iadd, 1) := by decide +kernel
theorem dL_522 : decode code 522 = .ok (.iaload, 1) := by decide +kernel
theorem dL_523 : decode code 523 = .ok (.invokevirtual 69, 3) := by decide +kernel
theorem dL_526 : decode code 526 = .ok (.if_icmp .eq 656, 3) := by decide +kernel
theorem dL_529 : decode code 529 = .ok (.iconst 0, 1) := by decide +kernel
theorem dL_530 : decode code 530 = .ok (.ireturn, 1) := by decide +kernel
theorem dL_531 : decode code 531 = .ok (.aload_n 1, 1) := by decide +kernel
theorem dL_532 : decode code 532 = .ok (.aload_n 0, 1) := by decide +kernel
theorem dL_533 : decode code 533 = .ok (.iload_n 3, 1) := by decide +kernel
theorem dL_534 : decode code 534 = .ok (.iconst 1, 1) := by decide +kernel
theorem dL_535 : decode code 535 = .ok (.iadd, 1) := by decide +kernel
theorem dL_536 : decode code 536 = .ok (.iaload, 1) := by decide +kernel
theorem dL_537 : decode code 537 = .ok (.aload_n 0, 1) := by decide +kernel
theorem dL_538 : decode code 538 = .ok (.iload_n 3, 1) := by decide +kernel
theorem dL_539 : decode code 539 = .ok (.iconst 2, 1) := by decide +kernel
theorem dL_540 : decode code 540 = .ok (.iadd, 1) := by decide +kernel
theorem dL_541 : decode code 541 = .ok (.iaload, 1) := by decide +kernel
theorem dL_542 : decode code 542 = .ok (.aload_n 0, 1) := by decide +kernel
theorem dL_543 : decode code 543 = .ok (.iload_n 3, 1) := by decide +kernel
theorem dL_544 : decode code 544 = .ok (.iconst 3, 1) := by decide +kernel
theorem dL_545 : decode code 545 = .ok (.iadd, 1) := by decide +kernel
theorem dL_546 : decode code 546 = .ok (.iaload, 1) := by decide +kernel
theorem dL_547 : decode code 547 = .ok (.aload_n 0, 1) := by decide +kernel
theorem dL_548 : decode code 548 = .ok (.iload_n 3, 1) := by decide +kernel
theorem dL_549 : decode code 549 = .ok (.iconst 4, 1) := by decide +kernel
theorem dL_550 : decode code 550 = .ok (.iadd, 1) := by decide +kernel
theorem dL_551 : decode code 551 = .ok (.iaload, 1) := by decide +kernel
theorem dL_552 : decode code 552 = .ok (.aload_n 0, 1) := by decide +kernel
theorem dL_553 : decode code 553 = .ok (.iload_n 3, 1) := by decide +kernel
theorem dL_554 : decode code 554 = .ok (.iconst 5, 1) := by decide +kernel
theorem dL_555 : decode code 555 = .ok (.iadd, 1) := by decide +kernel
theorem dL_556 : decode code 556 = .ok (.iaload, 1) := by decide +kernel
theorem dL_557 : decode code 557 = .ok (.invokevirtual 70, 3) := by decide +kernel
theorem dL_560 : decode code 560 = .ok (.aload_n 2, 1) := by decide +kernel
theorem dL_561 : decode code 561 = .ok (.aload_n 0, 1) := by decide +kernel
theorem dL_562 : decode code 562 = .ok (.iload_n 3, 1) := by decide +kernel
theorem dL_563 : decode code 563 = .ok (.iconst 1, 1) := by decide +kernel
theorem dL_564 : decode code 564 = .ok (.iadd, 1) := by decide +kernel
theorem dL_565 : decode code 565 = .ok (.iaload, 1) := by decide +kernel
theorem dL_566 : decode code 566 = .ok (.aload_n 0, 1) := by decide +kernel
theorem dL_567 : decode code 567 = .ok (.iload_n 3, 1) := by decide +kernel
theorem dL_568 : decode code 568 = .ok (.iconst 2, 1) := by decide +kernel
theorem dL_569 : decode code 569 = .ok (.iadd, 1) := by decide +kernel
theorem dL_570 : decode code 570 = .ok (.iaload, 1) := by decide +kernel
theorem dL_571 : decode code 571 = .ok (.aload_n 0, 1) := by decide +kernel
theorem dL_572 : decode code 572 = .ok (.iload_n 3, 1) := by decide +kernel
theorem dL_573 : decode code 573 = .ok (.iconst 3, 1) := by decide +kernel
theorem dL_574 : decode code 574 = .ok (.iadd, 1) := by decide +kernel
theorem dL_575 : decode code 575 = .ok (.iaload, 1) := by decide +kernel
theorem dL_576 : decode code 576 = .ok (.aload_n 0, 1) := by decide +kernel
theorem dL_577 : decode code 577 = .ok (.iload_n 3, 1) := by decide +kernel
theorem dL_578 : decode code 578 = .ok (.iconst 4, 1) := by decide +kernel
theorem dL_579 : decode code 579 = .ok (.iadd, 1) := by decide +kernel
theorem dL_580 : decode code 580 = .ok (.iaload, 1) := by decide +kernel
theorem dL_581 : decode code 581 = .ok (.aload_n 0, 1) := by decide +kernel
theorem dL_582 : decode code 582 = .ok (.iload_n 3, 1) := by decide +kernel
theorem dL_583 : decode code 583 = .ok (.iconst 5, 1) := by decide +kernel
theorem dL_584 : decode code 584 = .ok (.iadd, 1) := by decide +kernel
theorem dL_585 : decode code 585 = .ok (.iaload, 1) := by decide +kernel
theorem dL_586 : decode code 586 = .ok (.invokevirtual 74, 3) := by decide +kernel
theorem dL_589 : decode code 589 = .ok (.if_icmp .eq 593, 3) := by decide +kernel
theorem dL_592 : decode code 592 = .ok (.iconst 0, 1) := by decide +kernel
theorem dL_593 : decode code 593 = .ok (.ireturn, 1) := by decide +kernel
theorem dL_594 : decode code 594 = .ok (.aload_n 1, 1) := by decide +kernel
theorem dL_595 : decode code 595 = .ok (.aload_n 0, 1) := by decide +kernel
theorem dL_596 : decode code 596 = .ok (.iload_n 3, 1) := by decide +kernel
theorem dL_597 : decode code 597 = .ok (.iconst 1, 1) := by decide +kernel
theorem dL_598 : decode code 598 = .ok (.iadd, 1) := by decide +kernel
theorem dL_599 : decode code 599 = .ok (.iaload, 1) := by decide +kernel
theorem dL_600 : decode code 600 = .ok (.aload_n 0, 1) := by decide +kernel
theorem dL_601 : decode code 601 = .ok (.iload_n 3, 1) := by decide +kernel
theorem dL_602 : decode code 602 = .ok (.iconst 2, 1) := by decide +kernel
theorem dL_603 : decode code 603 = .ok (.iadd, 1) := by decide +kernel
theorem dL_604 : decode code 604 = .ok (.iaload, 1) := by decide +kernel
theorem dL_605 : decode code 605 = .ok (.aload_n 0, 1) := by decide +kernel
theorem dL_606 : decode code 606 = .ok (.iload_n 3, 1) := by decide +kernel
theorem dL_607 : decode code 607 = .ok (.iconst 3, 1) := by decide +kernel
theorem dL_608 : decode code 608 = .ok (.iadd, 1) := by decide +kernel
theorem dL_609 : decode code 609 = .ok (.iaload, 1) := by decide +kernel
theorem dL_610 : decode code 610 = .ok (.invokevirtual 75, 3) := by decide +kernel
theorem dL_613 : decode code 613 = .ok (.aload_n 2, 1) := by decide +kernel
theorem dL_614 : decode code 614 = .ok (.aload_n 0, 1) := by decide +kernel
theorem dL_615 : decode code 615 = .ok (.iload_n 3, 1) := by decide +kernel
theorem dL_616 : decode code 616 = .ok (.iconst 1, 1) := by decide +kernel
theorem dL_617 : decode code 617 = .ok (.iadd, 1) := by decide +kernel
theorem dL_618 : decode code 618 = .ok (.iaload, 1) := by decide +kernel
theorem dL_619 : decode code 619 = .ok (.aload_n 0, 1) := by decide +kernel
theorem dL_620 : decode code 620 = .ok (.iload_n 3, 1) := by decide +kernel
theorem dL_621 : decode code 621 = .ok (.iconst 2, 1) := by decide +kernel
theorem dL_622 : decode code 622 = .ok (.iadd, 1) := by decide +kernel
theorem dL_623 : decode code 623 = .ok (.iaload, 1) := by decide +kernel
theorem dL_624 : decode code 624 = .ok (.aload_n 0, 1) := by decide +kernel
theorem dL_625 : decode code 625 = .ok (.iload_n 3, 1) := by decide +kernel
theorem dL_626 : decode code 626 = .ok (.iconst 3, 1) := by decide +kernel
theorem dL_627 : decode code 627 = .ok (.iadd, 1) := by decide +kernel
theorem dL_628 : decode code 628 = .ok (.iaload, 1) := by decide +kernel
theorem dL_629 : decode code 629 = .ok (.invokevirtual 78, 3) := by decide +kernel
theorem dL_632 : decode code 632 = .ok (.if_icmp .eq 550, 3) := by decide +kernel
theorem dL_635 : decode code 635 = .ok (.iconst 0, 1) := by decide +kernel
theorem dL_636 : decode code 636 = .ok (.ireturn, 1) := by decide +kernel
theorem dL_637 : decode code 637 = .ok (.aload_n 1, 1) := by decide +kernel
theorem dL_638 : decode code 638 = .ok (.aload_n 0, 1) := by decide +kernel
theorem dL_639 : decode code 639 = .ok (.iload_n 3, 1) := by decide +kernel
theorem dL_640 : decode code 640 = .ok (.iconst 1, 1) := by decide +kernel
theorem dL_641 : decode code 641 = .ok (.iadd, 1) := by decide +kernel
theorem dL_642 : decode code 642 = .ok (.iaload, 1) := by decide +kernel
theorem dL_643 : decode code 643 = .ok (.aload_n 0, 1) := by decide +kernel
theorem dL_644 : decode code 644 = .ok (.iload_n 3, 1) := by decide +kernel
theorem dL_645 : decode code 645 = .ok (.iconst 2, 1) := by decide +kernel
theorem dL_646 : decode code 646 = .ok (.iadd, 1) := by decide +kernel
theorem dL_647 : decode code 647 = .ok (.iaload, 1) := by decide +kernel
theorem dL_648 : decode code 648 = .ok (.aload_n 0, 1) := by decide +kernel
theorem dL_649 : decode code 649 = .ok (.iload_n 3, 1) := by decide +kernel
theorem dL_650 : decode code 650 = .ok (.iconst 3, 1) := by decide +kernel
theorem dL_651 : decode code 651 = .ok (.iadd, 1) := by decide +kernel
theorem dL_652 : decode code 652 = .ok (.iaload, 1) := by decide +kernel
theorem dL_653 : decode code 653 = .ok (.aload_n 0, 1) := by decide +kernel
theorem dL_654 : decode code 654 = .ok (.iload_n 3, 1) := by decide +kernel
theorem dL_655 : decode code 655 = .ok (.iconst 4, 1) := by decide +kernel
theorem dL_656 : decode code 656 = .ok (.iadd, 1) := by decide +kernel
theorem dL_657 : decode code 657 = .ok (.iaload, 1) := by decide +kernel
theorem dL_658 : decode code 658 = .ok (.invokevirtual 79, 3) := by decide +kernel
theorem dL_661 : decode code 661 = .ok (.aload_n 2, 1) := by decide +kernel
theorem dL_662 : decode code 662 = .ok (.aload_n 0, 1) := by decide +kernel
theorem dL_663 : decode code 663 = .ok (.iload_n 3, 1) := by decide +kernel
theorem dL_664 : decode code 664 = .ok (.iconst 1, 1) := by decide +kernel
theorem dL_665 : decode code 665 = .ok (.iadd, 1) := by decide +kernel
theorem dL_666 : decode code 666 = .ok (.iaload, 1) := by decide +kernel
theorem dL_667 : decode code 667 = .ok (.aload_n 0, 1) := by decide +kernel
