theorem d_L_law_419 : decode b_L_law 419 = .ok (.iaload, 1) := by decide +kernel
theorem d_L_law_420 : decode b_L_law 420 = .ok (.aload_n 0, 1) := by decide +kernel
theorem d_L_law_421 : decode b_L_law 421 = .ok (.iload 5, 2) := by decide +kernel
theorem d_L_law_423 : decode b_L_law 423 = .ok (.iconst 2, 1) := by decide +kernel
theorem d_L_law_424 : decode b_L_law 424 = .ok (.iadd, 1) := by decide +kernel
theorem d_L_law_425 : decode b_L_law 425 = .ok (.iaload, 1) := by decide +kernel
theorem d_L_law_426 : decode b_L_law 426 = .ok (.aload_n 3, 1) := by decide +kernel
theorem d_L_law_427 : decode b_L_law 427 = .ok (.invokestatic 95, 3) := by decide +kernel
theorem d_L_law_430 : decode b_L_law 430 = .ok (.istore 6, 2) := by decide +kernel
theorem d_L_law_432 : decode b_L_law 432 = .ok (.aload_n 2, 1) := by decide +kernel
theorem d_L_law_433 : decode b_L_law 433 = .ok (.aload_n 0, 1) := by decide +kernel
theorem d_L_law_434 : decode b_L_law 434 = .ok (.iload 5, 2) := by decide +kernel
theorem d_L_law_436 : decode b_L_law 436 = .ok (.iconst 1, 1) := by decide +kernel
theorem d_L_law_437 : decode b_L_law 437 = .ok (.iadd, 1) := by decide +kernel
theorem d_L_law_438 : decode b_L_law 438 = .ok (.iaload, 1) := by decide +kernel
theorem d_L_law_439 : decode b_L_law 439 = .ok (.aload_n 0, 1) := by decide +kernel
theorem d_L_law_440 : decode b_L_law 440 = .ok (.iload 5, 2) := by decide +kernel
theorem d_L_law_442 : decode b_L_law 442 = .ok (.iconst 2, 1) := by decide +kernel
theorem d_L_law_443 : decode b_L_law 443 = .ok (.iadd, 1) := by decide +kernel
theorem d_L_law_444 : decode b_L_law 444 = .ok (.iaload, 1) := by decide +kernel
theorem d_L_law_445 : decode b_L_law 445 = .ok (.invokevirtual 97, 3) := by decide +kernel
theorem d_L_law_448 : decode b_L_law 448 = .ok (.istore 7, 2) := by decide +kernel
theorem d_L_law_450 : decode b_L_law 450 = .ok (.aload_n 2, 1) := by decide +kernel
theorem d_L_law_451 : decode b_L_law 451 = .ok (.invokevirtual 77, 3) := by decide +kernel
theorem d_L_law_454 : decode b_L_law 454 = .ok (.iload 6, 2) := by decide +kernel
theorem d_L_law_456 : decode b_L_law 456 = .ok (.if_icmp .eq 5, 3) := by decide +kernel
theorem d_L_law_459 : decode b_L_law 459 = .ok (.iconst 0, 1) := by decide +kernel
theorem d_L_law_460 : decode b_L_law 460 = .ok (.ireturn, 1) := by decide +kernel
theorem d_L_law_461 : decode b_L_law 461 = .ok (.iload 6, 2) := by decide +kernel
theorem d_L_law_463 : decode b_L_law 463 = .ok (.ifCond .ne 15, 3) := by decide +kernel
theorem d_L_law_466 : decode b_L_law 466 = .ok (.aload_n 3, 1) := by decide +kernel
theorem d_L_law_467 : decode b_L_law 467 = .ok (.iconst 0, 1) := by decide +kernel
theorem d_L_law_468 : decode b_L_law 468 = .ok (.laload, 1) := by decide +kernel
theorem d_L_law_469 : decode b_L_law 469 = .ok (.iload 7, 2) := by decide +kernel
theorem d_L_law_471 : decode b_L_law 471 = .ok (.i2l, 1) := by decide +kernel
theorem d_L_law_472 : decode b_L_law 472 = .ok (.lcmp, 1) := by decide +kernel
theorem d_L_law_473 : decode b_L_law 473 = .ok (.ifCond .eq 5, 3) := by decide +kernel
theorem d_L_law_476 : decode b_L_law 476 = .ok (.iconst 0, 1) := by decide +kernel
theorem d_L_law_477 : decode b_L_law 477 = .ok (.ireturn, 1) := by decide +kernel
theorem d_L_law_478 : decode b_L_law 478 = .ok (.goto 619, 3) := by decide +kernel
theorem d_L_law_481 : decode b_L_law 481 = .ok (.aload_n 1, 1) := by decide +kernel
theorem d_L_law_482 : decode b_L_law 482 = .ok (.aload_n 0, 1) := by decide +kernel
theorem d_L_law_483 : decode b_L_law 483 = .ok (.iload 5, 2) := by decide +kernel
theorem d_L_law_485 : decode b_L_law 485 = .ok (.iconst 1, 1) := by decide +kernel
theorem d_L_law_486 : decode b_L_law 486 = .ok (.iadd, 1) := by decide +kernel
theorem d_L_law_487 : decode b_L_law 487 = .ok (.iaload, 1) := by decide +kernel
theorem d_L_law_488 : decode b_L_law 488 = .ok (.aload_n 0, 1) := by decide +kernel
theorem d_L_law_489 : decode b_L_law 489 = .ok (.iload 5, 2) := by decide +kernel
theorem d_L_law_491 : decode b_L_law 491 = .ok (.iconst 2, 1) := by decide +kernel
theorem d_L_law_492 : decode b_L_law 492 = .ok (.iadd, 1) := by decide +kernel
theorem d_L_law_493 : decode b_L_law 493 = .ok (.iaload, 1) := by decide +kernel
theorem d_L_law_494 : decode b_L_law 494 = .ok (.aload_n 0, 1) := by decide +kernel
theorem d_L_law_495 : decode b_L_law 495 = .ok (.iload 5, 2) := by decide +kernel
theorem d_L_law_497 : decode b_L_law 497 = .ok (.iconst 3, 1) := by decide +kernel
theorem d_L_law_498 : decode b_L_law 498 = .ok (.iadd, 1) := by decide +kernel
theorem d_L_law_499 : decode b_L_law 499 = .ok (.iaload, 1) := by decide +kernel
theorem d_L_law_500 : decode b_L_law 500 = .ok (.aload_n 3, 1) := by decide +kernel
theorem d_L_law_501 : decode b_L_law 501 = .ok (.invokestatic 98, 3) := by decide +kernel
theorem d_L_law_504 : decode b_L_law 504 = .ok (.istore 6, 2) := by decide +kernel
theorem d_L_law_506 : decode b_L_law 506 = .ok (.aload_n 2, 1) := by decide +kernel
theorem d_L_law_507 : decode b_L_law 507 = .ok (.aload_n 0, 1) := by decide +kernel
theorem d_L_law_508 : decode b_L_law 508 = .ok (.iload 5, 2) := by decide +kernel
theorem d_L_law_510 : decode b_L_law 510 = .ok (.iconst 1, 1) := by decide +kernel
theorem d_L_law_511 : decode b_L_law 511 = .ok (.iadd, 1) := by decide +kernel
theorem d_L_law_512 : decode b_L_law 512 = .ok (.iaload, 1) := by decide +kernel
theorem d_L_law_513 : decode b_L_law 513 = .ok (.aload_n 0, 1) := by decide +kernel
theorem d_L_law_514 : decode b_L_law 514 = .ok (.iload 5, 2) := by decide +kernel
theorem d_L_law_516 : decode b_L_law 516 = .ok (.iconst 2, 1) := by decide +kernel
theorem d_L_law_517 : decode b_L_law 517 = .ok (.iadd, 1) := by decide +kernel
theorem d_L_law_518 : decode b_L_law 518 = .ok (.iaload, 1) := by decide +kernel
theorem d_L_law_519 : decode b_L_law 519 = .ok (.aload_n 0, 1) := by decide +kernel
theorem d_L_law_520 : decode b_L_law 520 = .ok (.iload 5, 2) := by decide +kernel
theorem d_L_law_522 : decode b_L_law 522 = .ok (.iconst 3, 1) := by decide +kernel
theorem d_L_law_523 : decode b_L_law 523 = .ok (.iadd, 1) := by decide +kernel
theorem d_L_law_524 : decode b_L_law 524 = .ok (.iaload, 1) := by decide +kernel
theorem d_L_law_525 : decode b_L_law 525 = .ok (.invokevirtual 101, 3) := by decide +kernel
theorem d_L_law_528 : decode b_L_law 528 = .ok (.istore 7, 2) := by decide +kernel
theorem d_L_law_530 : decode b_L_law 530 = .ok (.aload_n 2, 1) := by decide +kernel
theorem d_L_law_531 : decode b_L_law 531 = .ok (.invokevirtual 77, 3) := by decide +kernel
theorem d_L_law_534 : decode b_L_law 534 = .ok (.iload 6, 2) := by decide +kernel
theorem d_L_law_536 : decode b_L_law 536 = .ok (.if_icmp .eq 5, 3) := by decide +kernel
theorem d_L_law_539 : decode b_L_law 539 = .ok (.iconst 0, 1) := by decide +kernel
theorem d_L_law_540 : decode b_L_law 540 = .ok (.ireturn, 1) := by decide +kernel
theorem d_L_law_541 : decode b_L_law 541 = .ok (.iload 6, 2) := by decide +kernel
theorem d_L_law_543 : decode b_L_law 543 = .ok (.ifCond .ne 15, 3) := by decide +kernel
theorem d_L_law_546 : decode b_L_law 546 = .ok (.aload_n 3, 1) := by decide +kernel
theorem d_L_law_547 : decode b_L_law 547 = .ok (.iconst 0, 1) := by decide +kernel
theorem d_L_law_548 : decode b_L_law 548 = .ok (.laload, 1) := by decide +kernel
theorem d_L_law_549 : decode b_L_law 549 = .ok (.iload 7, 2) := by decide +kernel
theorem d_L_law_551 : decode b_L_law 551 = .ok (.i2l, 1) := by decide +kernel
theorem d_L_law_552 : decode b_L_law 552 = .ok (.lcmp, 1) := by decide +kernel
theorem d_L_law_553 : decode b_L_law 553 = .ok (.ifCond .eq 5, 3) := by decide +kernel
theorem d_L_law_556 : decode b_L_law 556 = .ok (.iconst 0, 1) := by decide +kernel
theorem d_L_law_557 : decode b_L_law 557 = .ok (.ireturn, 1) := by decide +kernel
theorem d_L_law_558 : decode b_L_law 558 = .ok (.goto 539, 3) := by decide +kernel
theorem d_L_law_561 : decode b_L_law 561 = .ok (.aload_n 1, 1) := by decide +kernel
theorem d_L_law_562 : decode b_L_law 562 = .ok (.aload_n 0, 1) := by decide +kernel
theorem d_L_law_563 : decode b_L_law 563 = .ok (.iload 5, 2) := by decide +kernel
theorem d_L_law_565 : decode b_L_law 565 = .ok (.iconst 1, 1) := by decide +kernel
theorem d_L_law_566 : decode b_L_law 566 = .ok (.iadd, 1) := by decide +kernel
theorem d_L_law_567 : decode b_L_law 567 = .ok (.iaload, 1) := by decide +kernel
theorem d_L_law_568 : decode b_L_law 568 = .ok (.aload_n 0, 1) := by decide +kernel
theorem d_L_law_569 : decode b_L_law 569 = .ok (.iload 5, 2) := by decide +kernel
theorem d_L_law_571 : decode b_L_law 571 = .ok (.iconst 2, 1) := by decide +kernel
theorem d_L_law_572 : decode b_L_law 572 = .ok (.iadd, 1) := by decide +kernel
theorem d_L_law_573 : decode b_L_law 573 = .ok (.iaload, 1) := by decide +kernel
theorem d_L_law_574 : decode b_L_law 574 = .ok (.aload_n 0, 1) := by decide +kernel
theorem d_L_law_575 : decode b_L_law 575 = .ok (.iload 5, 2) := by decide +kernel
theorem d_L_law_577 : decode b_L_law 577 = .ok (.iconst 3, 1) := by decide +kernel
theorem d_L_law_578 : decode b_L_law 578 = .ok (.iadd, 1) := by decide +kernel
theorem d_L_law_579 : decode b_L_law 579 = .ok (.iaload, 1) := by decide +kernel
theorem d_L_law_580 : decode b_L_law 580 = .ok (.aload_n 0, 1) := by decide +kernel
theorem d_L_law_581 : decode b_L_law 581 = .ok (.iload 5, 2) := by decide +kernel
theorem d_L_law_583 : decode b_L_law 583 = .ok (.iconst 4, 1) := by decide +kernel
theorem d_L_law_584 : decode b_L_law 584 = .ok (.iadd, 1) := by decide +kernel
theorem d_L_law_585 : decode b_L_law 585 = .ok (.iaload, 1) := by decide +kernel
theorem d_L_law_586 : decode b_L_law 586 = .ok (.aload_n 3, 1) := by decide +kernel
theorem d_L_law_587 : decode b_L_law 587 = .ok (.invokestatic 102, 3) := by decide +kernel
theorem d_L_law_590 : decode b_L_law 590 = .ok (.istore 6, 2) := by decide +kernel
theorem d_L_law_592 : decode b_L_law 592 = .ok (.aload_n 2, 1) := by decide +kernel
theorem d_L_law_593 : decode b_L_law 593 = .ok (.aload_n 0, 1) := by decide +kernel
theorem d_L_law_594 : decode b_L_law 594 = .ok (.iload 5, 2) := by decide +kernel
theorem d_L_law_596 : decode b_L_law 596 = .ok (.iconst 1, 1) := by decide +kernel
theorem d_L_law_597 : decode b_L_law 597 = .ok (.iadd, 1) := by decide +kernel
theorem d_L_law_598 : decode b_L_law 598 = .ok (.iaload, 1) := by decide +kernel
theorem d_L_law_599 : decode b_L_law 599 = .ok (.aload_n 0, 1) := by decide +kernel
theorem d_L_law_600 : decode b_L_law 600 = .ok (.iload 5, 2) := by decide +kernel
theorem d_L_law_602 : decode b_L_law 602 = .ok (.iconst 2, 1) := by decide +kernel
theorem d_L_law_603 : decode b_L_law 603 = .ok (.iadd, 1) := by decide +kernel
theorem d_L_law_604 : decode b_L_law 604 = .ok (.iaload, 1) := by decide +kernel
theorem d_L_law_605 : decode b_L_law 605 = .ok (.aload_n 0, 1) := by decide +kernel
theorem d_L_law_606 : decode b_L_law 606 = .ok (.iload 5, 2) := by decide +kernel
theorem d_L_law_608 : decode b_L_law 608 = .ok (.iconst 3, 1) := by decide +kernel
theorem d_L_law_609 : decode b_L_law 609 = .ok (.iadd, 1) := by decide +kernel
theorem d_L_law_610 : decode b_L_law 610 = .ok (.iaload, 1) := by decide +kernel
theorem d_L_law_611 : decode b_L_law 611 = .ok (.aload_n 0, 1) := by decide +kernel
theorem d_L_law_612 : decode b_L_law 612 = .ok (.iload 5, 2) := by decide +kernel
theorem d_L_law_614 : decode b_L_law 614 = .ok (.iconst 4, 1) := by decide +kernel
theorem d_L_law_615 : decode b_L_law 615 = .ok (.iadd, 1) := by decide +kernel
theorem d_L_law_616 : decode b_L_law 616 = .ok (.iaload, 1) := by decide +kernel
theorem d_L_law_617 : decode b_L_law 617 = .ok (.invokevirtual 105, 3) := by decide +kernel
theorem d_L_law_620 : decode b_L_law 620 = .ok (.istore 7, 2) := by decide +kernel
theorem d_L_law_622 : decode b_L_law 622 = .ok (.aload_n 2, 1) := by decide +kernel
theorem d_L_law_623 : decode b_L_law 623 = .ok (.invokevirtual 77, 3) := by decide +kernel
theorem d_L_law_626 : decode b_L_law 626 = .ok (.iload 6, 2) := by decide +kernel
theorem d_L_law_628 : decode b_L_law 628 = .ok (.if_icmp .eq 5, 3) := by decide +kernel
theorem d_L_law_631 : decode b_L_law 631 = .ok (.iconst 0, 1) := by decide +kernel
theorem d_L_law_632 : decode b_L_law 632 = .ok (.ireturn, 1) := by decide +kernel
theorem d_L_law_633 : decode b_L_law 633 = .ok (.iload 6, 2) := by decide +kernel
theorem d_L_law_635 : decode b_L_law 635 = .ok (.ifCond .ne 22, 3) := by decide +kernel
theorem d_L_law_638 : decode b_L_law 638 = .ok (.aload_n 3, 1) := by decide +kernel
theorem d_L_law_639 : decode b_L_law 639 = .ok (.iconst 0, 1) := by decide +kernel
theorem d_L_law_640 : decode b_L_law 640 = .ok (.laload, 1) := by decide +kernel
theorem d_L_law_641 : decode b_L_law 641 = .ok (.iload 7, 2) := by decide +kernel
theorem d_L_law_643 : decode b_L_law 643 = .ok (.ifCond .eq 7, 3) := by decide +kernel
theorem d_L_law_646 : decode b_L_law 646 = .ok (.lconst 1, 1) := by decide +kernel
theorem d_L_law_647 : decode b_L_law 647 = .ok (.goto 4, 3) := by decide +kernel
theorem d_L_law_650 : decode b_L_law 650 = .ok (.lconst 0, 1) := by decide +kernel
theorem d_L_law_651 : decode b_L_law 651 = .ok (.lcmp, 1) := by decide +kernel
theorem d_L_law_652 : decode b_L_law 652 = .ok (.ifCond .eq 5, 3) := by decide +kernel
theorem d_L_law_655 : decode b_L_law 655 = .ok (.iconst 0, 1) := by decide +kernel
theorem d_L_law_656 : decode b_L_law 656 = .ok (.ireturn, 1) := by decide +kernel
theorem d_L_law_657 : decode b_L_law 657 = .ok (.goto 440, 3) := by decide +kernel
theorem d_L_law_660 : decode b_L_law 660 = .ok (.aload_n 1, 1) := by decide +kernel
theorem d_L_law_661 : decode b_L_law 661 = .ok (.aload_n 0, 1) := by decide +kernel
theorem d_L_law_662 : decode b_L_law 662 = .ok (.iload 5, 2) := by decide +kernel
theorem d_L_law_664 : decode b_L_law 664 = .ok (.iconst 1, 1) := by decide +kernel
theorem d_L_law_665 : decode b_L_law 665 = .ok (.iadd, 1) := by decide +kernel
theorem d_L_law_666 : decode b_L_law 666 = .ok (.iaload, 1) := by decide +kernel
theorem d_L_law_667 : decode b_L_law 667 = .ok (.ifCond .eq 7, 3) := by decide +kernel
theorem d_L_law_670 : decode b_L_law 670 = .ok (.iconst 1, 1) := by decide +kernel
theorem d_L_law_671 : decode b_L_law 671 = .ok (.goto 4, 3) := by decide +kernel
theorem d_L_law_674 : decode b_L_law 674 = .ok (.iconst 0, 1) := by decide +kernel
theorem d_L_law_675 : decode b_L_law 675 = .ok (.aload_n 3, 1) := by decide +kernel
theorem d_L_law_676 : decode b_L_law 676 = .ok (.invokestatic 106, 3) := by decide +kernel
theorem d_L_law_679 : decode b_L_law 679 = .ok (.istore 6, 2) := by decide +kernel
theorem d_L_law_681 : decode b_L_law 681 = .ok (.aload_n 2, 1) := by decide +kernel
theorem d_L_law_682 : decode b_L_law 682 = .ok (.aload_n 0, 1) := by decide +kernel
theorem d_L_law_683 : decode b_L_law 683 = .ok (.iload 5, 2) := by decide +kernel
theorem d_L_law_685 : decode b_L_law 685 = .ok (.iconst 1, 1) := by decide +kernel
theorem d_L_law_686 : decode b_L_law 686 = .ok (.iadd, 1) := by decide +kernel
theorem d_L_law_687 : decode b_L_law 687 = .ok (.iaload, 1) := by decide +kernel
theorem d_L_law_688 : decode b_L_law 688 = .ok (.ifCond .eq 7, 3) := by decide +kernel
theorem d_L_law_691 : decode b_L_law 691 = .ok (.iconst 1, 1) := by decide +kernel
theorem d_L_law_692 : decode b_L_law 692 = .ok (.goto 4, 3) := by decide +kernel
theorem d_L_law_695 : decode b_L_law 695 = .ok (.iconst 0, 1) := by decide +kernel
theorem d_L_law_696 : decode b_L_law 696 = .ok (.invokevirtual 109, 3) := by decide +kernel
theorem d_L_law_699 : decode b_L_law 699 = .ok (.istore 7, 2) := by decide +kernel
theorem d_L_law_701 : decode b_L_law 701 = .ok (.aload_n 2, 1) := by decide +kernel
theorem d_L_law_702 : decode b_L_law 702 = .ok (.invokevirtual 77, 3) := by decide +kernel
theorem d_L_law_705 : decode b_L_law 705 = .ok (.iload 6, 2) := by decide +kernel
theorem d_L_law_707 : decode b_L_law 707 = .ok (.if_icmp .eq 5, 3) := by decide +kernel
theorem d_L_law_710 : decode b_L_law 710 = .ok (.iconst 0, 1) := by decide +kernel
theorem d_L_law_711 : decode b_L_law 711 = .ok (.ireturn, 1) := by decide +kernel
theorem d_L_law_712 : decode b_L_law 712 = .ok (.iload 6, 2) := by decide +kernel
theorem d_L_law_714 : decode b_L_law 714 = .ok (.ifCond .ne 15, 3) := by decide +kernel
theorem d_L_law_717 : decode b_L_law 717 = .ok (.aload_n 3, 1) := by decide +kernel
theorem d_L_law_718 : decode b_L_law 718 = .ok (.iconst 0, 1) := by decide +kernel
theorem d_L_law_719 : decode b_L_law 719 = .ok (.laload, 1) := by decide +kernel
theorem d_L_law_720 : decode b_L_law 720 = .ok (.iload 7, 2) := by decide +kernel
theorem d_L_law_722 : decode b_L_law 722 = .ok (.i2l, 1) := by decide +kernel
theorem d_L_law_723 : decode b_L_law 723 = .ok (.lcmp, 1) := by decide +kernel
theorem d_L_law_724 : decode b_L_law 724 = .ok (.ifCond .eq 5, 3) := by decide +kernel
theorem d_L_law_727 : decode b_L_law 727 = .ok (.iconst 0, 1) := by decide +kernel
theorem d_L_law_728 : decode b_L_law 728 = .ok (.ireturn, 1) := by decide +kernel
theorem d_L_law_729 : decode b_L_law 729 = .ok (.goto 368, 3) := by decide +kernel
theorem d_L_law_732 : decode b_L_law 732 = .ok (.aload_n 1, 1) := by decide +kernel
theorem d_L_law_733 : decode b_L_law 733 = .ok (.aload_n 0, 1) := by decide +kernel
theorem d_L_law_734 : decode b_L_law 734 = .ok (.iload 5, 2) := by decide +kernel
theorem d_L_law_736 : decode b_L_law 736 = .ok (.iconst 1, 1) := by decide +kernel
theorem d_L_law_737 : decode b_L_law 737 = .ok (.iadd, 1) := by decide +kernel
theorem d_L_law_738 : decode b_L_law 738 = .ok (.iaload, 1) := by decide +kernel
theorem d_L_law_739 : decode b_L_law 739 = .ok (.aload_n 0, 1) := by decide +kernel
theorem d_L_law_740 : decode b_L_law 740 = .ok (.iload 5, 2) := by decide +kernel
theorem d_L_law_742 : decode b_L_law 742 = .ok (.iconst 2, 1) := by decide +kernel
theorem d_L_law_743 : decode b_L_law 743 = .ok (.iadd, 1) := by decide +kernel
theorem d_L_law_744 : decode b_L_law 744 = .ok (.iaload, 1) := by decide +kernel
theorem d_L_law_745 : decode b_L_law 745 = .ok (.i2d, 1) := by decide +kernel
theorem d_L_law_746 : decode b_L_law 746 = .ok (.ldc2_w 110, 3) := by decide +kernel
theorem d_L_law_749 : decode b_L_law 749 = .ok (.dmul, 1) := by decide +kernel
theorem d_L_law_750 : decode b_L_law 750 = .ok (.aload 4, 2) := by decide +kernel
theorem d_L_law_752 : decode b_L_law 752 = .ok (.invokestatic 112, 3) := by decide +kernel
theorem d_L_law_755 : decode b_L_law 755 = .ok (.istore 6, 2) := by decide +kernel
theorem d_L_law_757 : decode b_L_law 757 = .ok (.aload_n 2, 1) := by decide +kernel
theorem d_L_law_758 : decode b_L_law 758 = .ok (.aload_n 0, 1) := by decide +kernel
theorem d_L_law_759 : decode b_L_law 759 = .ok (.iload 5, 2) := by decide +kernel
theorem d_L_law_761 : decode b_L_law 761 = .ok (.iconst 1, 1) := by decide +kernel
theorem d_L_law_762 : decode b_L_law 762 = .ok (.iadd, 1) := by decide +kernel
theorem d_L_law_763 : decode b_L_law 763 = .ok (.iaload, 1) := by decide +kernel
theorem d_L_law_764 : decode b_L_law 764 = .ok (.aload_n 0, 1) := by decide +kernel
