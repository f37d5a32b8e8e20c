theorem dL_offices_350 : decode cL_offices 350 = .ok (.invokevirtual 78, 3) := by decide +kernel
theorem dL_offices_353 : decode cL_offices 353 = .ok (.iadd, 1) := by decide +kernel
theorem dL_offices_354 : decode cL_offices 354 = .ok (.istore 4, 2) := by decide +kernel
theorem dL_offices_356 : decode cL_offices 356 = .ok (.iload 5, 2) := by decide +kernel
theorem dL_offices_358 : decode cL_offices 358 = .ok (.iload 13, 2) := by decide +kernel
theorem dL_offices_360 : decode cL_offices 360 = .ok (.iadd, 1) := by decide +kernel
theorem dL_offices_361 : decode cL_offices 361 = .ok (.istore 5, 2) := by decide +kernel
theorem dL_offices_363 : decode cL_offices 363 = .ok (.iload 6, 2) := by decide +kernel
theorem dL_offices_365 : decode cL_offices 365 = .ok (.aload_n 0, 1) := by decide +kernel
theorem dL_offices_366 : decode cL_offices 366 = .ok (.iload 12, 2) := by decide +kernel
theorem dL_offices_368 : decode cL_offices 368 = .ok (.iconst 0, 1) := by decide +kernel
theorem dL_offices_369 : decode cL_offices 369 = .ok (.invokevirtual 78, 3) := by decide +kernel
theorem dL_offices_372 : decode cL_offices 372 = .ok (.iadd, 1) := by decide +kernel
theorem dL_offices_373 : decode cL_offices 373 = .ok (.istore 6, 2) := by decide +kernel
theorem dL_offices_375 : decode cL_offices 375 = .ok (.iload 8, 2) := by decide +kernel
theorem dL_offices_377 : decode cL_offices 377 = .ok (.aload_n 0, 1) := by decide +kernel
theorem dL_offices_378 : decode cL_offices 378 = .ok (.iload 12, 2) := by decide +kernel
theorem dL_offices_380 : decode cL_offices 380 = .ok (.bipush 7, 2) := by decide +kernel
theorem dL_offices_382 : decode cL_offices 382 = .ok (.invokevirtual 78, 3) := by decide +kernel
theorem dL_offices_385 : decode cL_offices 385 = .ok (.iadd, 1) := by decide +kernel
theorem dL_offices_386 : decode cL_offices 386 = .ok (.istore 8, 2) := by decide +kernel
theorem dL_offices_388 : decode cL_offices 388 = .ok (.aload_n 0, 1) := by decide +kernel
theorem dL_offices_389 : decode cL_offices 389 = .ok (.iload 12, 2) := by decide +kernel
theorem dL_offices_391 : decode cL_offices 391 = .ok (.iconst 2, 1) := by decide +kernel
theorem dL_offices_392 : decode cL_offices 392 = .ok (.invokevirtual 78, 3) := by decide +kernel
theorem dL_offices_395 : decode cL_offices 395 = .ok (.iconst 1, 1) := by decide +kernel
theorem dL_offices_396 : decode cL_offices 396 = .ok (.if_icmp .ne 29, 3) := by decide +kernel
theorem dL_offices_399 : decode cL_offices 399 = .ok (.iload 7, 2) := by decide +kernel
theorem dL_offices_401 : decode cL_offices 401 = .ok (.ifCond .lt 20, 3) := by decide +kernel
theorem dL_offices_404 : decode cL_offices 404 = .ok (.aload_n 0, 1) := by decide +kernel
theorem dL_offices_405 : decode cL_offices 405 = .ok (.iload 12, 2) := by decide +kernel
theorem dL_offices_407 : decode cL_offices 407 = .ok (.iconst 1, 1) := by decide +kernel
theorem dL_offices_408 : decode cL_offices 408 = .ok (.invokevirtual 78, 3) := by decide +kernel
theorem dL_offices_411 : decode cL_offices 411 = .ok (.aload_n 0, 1) := by decide +kernel
theorem dL_offices_412 : decode cL_offices 412 = .ok (.iload 7, 2) := by decide +kernel
theorem dL_offices_414 : decode cL_offices 414 = .ok (.iconst 1, 1) := by decide +kernel
theorem dL_offices_415 : decode cL_offices 415 = .ok (.invokevirtual 78, 3) := by decide +kernel
theorem dL_offices_418 : decode cL_offices 418 = .ok (.if_icmp .le 7, 3) := by decide +kernel
theorem dL_offices_421 : decode cL_offices 421 = .ok (.iload 12, 2) := by decide +kernel
theorem dL_offices_423 : decode cL_offices 423 = .ok (.istore 7, 2) := by decide +kernel
theorem dL_offices_425 : decode cL_offices 425 = .ok (.aload_n 0, 1) := by decide +kernel
theorem dL_offices_426 : decode cL_offices 426 = .ok (.iload 12, 2) := by decide +kernel
theorem dL_offices_428 : decode cL_offices 428 = .ok (.bipush 6, 2) := by decide +kernel
theorem dL_offices_430 : decode cL_offices 430 = .ok (.invokevirtual 78, 3) := by decide +kernel
theorem dL_offices_433 : decode cL_offices 433 = .ok (.istore 14, 2) := by decide +kernel
theorem dL_offices_435 : decode cL_offices 435 = .ok (.iload 14, 2) := by decide +kernel
theorem dL_offices_437 : decode cL_offices 437 = .ok (.ifCond .ge 7, 3) := by decide +kernel
theorem dL_offices_440 : decode cL_offices 440 = .ok (.iconst 0, 1) := by decide +kernel
theorem dL_offices_441 : decode cL_offices 441 = .ok (.goto 10, 3) := by decide +kernel
theorem dL_offices_444 : decode cL_offices 444 = .ok (.aload_n 0, 1) := by decide +kernel
theorem dL_offices_445 : decode cL_offices 445 = .ok (.iload 14, 2) := by decide +kernel
theorem dL_offices_447 : decode cL_offices 447 = .ok (.iconst 4, 1) := by decide +kernel
theorem dL_offices_448 : decode cL_offices 448 = .ok (.invokevirtual 90, 3) := by decide +kernel
theorem dL_offices_451 : decode cL_offices 451 = .ok (.istore 15, 2) := by decide +kernel
theorem dL_offices_453 : decode cL_offices 453 = .ok (.aload_n 0, 1) := by decide +kernel
theorem dL_offices_454 : decode cL_offices 454 = .ok (.iload 12, 2) := by decide +kernel
theorem dL_offices_456 : decode cL_offices 456 = .ok (.iconst 4, 1) := by decide +kernel
theorem dL_offices_457 : decode cL_offices 457 = .ok (.invokevirtual 78, 3) := by decide +kernel
theorem dL_offices_460 : decode cL_offices 460 = .ok (.ifCond .le 14, 3) := by decide +kernel
theorem dL_offices_463 : decode cL_offices 463 = .ok (.aload_n 0, 1) := by decide +kernel
theorem dL_offices_464 : decode cL_offices 464 = .ok (.iload 12, 2) := by decide +kernel
theorem dL_offices_466 : decode cL_offices 466 = .ok (.iconst 0, 1) := by decide +kernel
theorem dL_offices_467 : decode cL_offices 467 = .ok (.iconst 1, 1) := by decide +kernel
theorem dL_offices_468 : decode cL_offices 468 = .ok (.invokevirtual 82, 3) := by decide +kernel
theorem dL_offices_471 : decode cL_offices 471 = .ok (.goto 4, 3) := by decide +kernel
theorem dL_offices_474 : decode cL_offices 474 = .ok (.iconst 0, 1) := by decide +kernel
theorem dL_offices_475 : decode cL_offices 475 = .ok (.istore 16, 2) := by decide +kernel
theorem dL_offices_477 : decode cL_offices 477 = .ok (.iload 15, 2) := by decide +kernel
theorem dL_offices_479 : decode cL_offices 479 = .ok (.ifCond .le 7, 3) := by decide +kernel
theorem dL_offices_482 : decode cL_offices 482 = .ok (.iconst 0, 1) := by decide +kernel
theorem dL_offices_483 : decode cL_offices 483 = .ok (.goto 81, 3) := by decide +kernel
theorem dL_offices_486 : decode cL_offices 486 = .ok (.aload_n 0, 1) := by decide +kernel
theorem dL_offices_487 : decode cL_offices 487 = .ok (.iload 12, 2) := by decide +kernel
theorem dL_offices_489 : decode cL_offices 489 = .ok (.iconst 2, 1) := by decide +kernel
theorem dL_offices_490 : decode cL_offices 490 = .ok (.invokevirtual 78, 3) := by decide +kernel
theorem dL_offices_493 : decode cL_offices 493 = .ok (.ifCond .ne 7, 3) := by decide +kernel
theorem dL_offices_496 : decode cL_offices 496 = .ok (.iconst 1, 1) := by decide +kernel
theorem dL_offices_497 : decode cL_offices 497 = .ok (.goto 67, 3) := by decide +kernel
theorem dL_offices_500 : decode cL_offices 500 = .ok (.iload 14, 2) := by decide +kernel
theorem dL_offices_502 : decode cL_offices 502 = .ok (.ifCond .ge 7, 3) := by decide +kernel
theorem dL_offices_505 : decode cL_offices 505 = .ok (.iconst 2, 1) := by decide +kernel
theorem dL_offices_506 : decode cL_offices 506 = .ok (.goto 58, 3) := by decide +kernel
theorem dL_offices_509 : decode cL_offices 509 = .ok (.iload 16, 2) := by decide +kernel
theorem dL_offices_511 : decode cL_offices 511 = .ok (.ifCond .ne 7, 3) := by decide +kernel
theorem dL_offices_514 : decode cL_offices 514 = .ok (.iconst 3, 1) := by decide +kernel
theorem dL_offices_515 : decode cL_offices 515 = .ok (.goto 49, 3) := by decide +kernel
theorem dL_offices_518 : decode cL_offices 518 = .ok (.iload 16, 2) := by decide +kernel
theorem dL_offices_520 : decode cL_offices 520 = .ok (.aload_n 0, 1) := by decide +kernel
theorem dL_offices_521 : decode cL_offices 521 = .ok (.iconst 0, 1) := by decide +kernel
theorem dL_offices_522 : decode cL_offices 522 = .ok (.invokevirtual 73, 3) := by decide +kernel
theorem dL_offices_525 : decode cL_offices 525 = .ok (.aload_n 0, 1) := by decide +kernel
theorem dL_offices_526 : decode cL_offices 526 = .ok (.iload 14, 2) := by decide +kernel
theorem dL_offices_528 : decode cL_offices 528 = .ok (.iconst 3, 1) := by decide +kernel
theorem dL_offices_529 : decode cL_offices 529 = .ok (.invokevirtual 90, 3) := by decide +kernel
theorem dL_offices_532 : decode cL_offices 532 = .ok (.isub, 1) := by decide +kernel
theorem dL_offices_533 : decode cL_offices 533 = .ok (.if_icmp .le 7, 3) := by decide +kernel
theorem dL_offices_536 : decode cL_offices 536 = .ok (.iconst 4, 1) := by decide +kernel
theorem dL_offices_537 : decode cL_offices 537 = .ok (.goto 27, 3) := by decide +kernel
theorem dL_offices_540 : decode cL_offices 540 = .ok (.iload 16, 2) := by decide +kernel
theorem dL_offices_542 : decode cL_offices 542 = .ok (.aload_n 0, 1) := by decide +kernel
theorem dL_offices_543 : decode cL_offices 543 = .ok (.iconst 2, 1) := by decide +kernel
theorem dL_offices_544 : decode cL_offices 544 = .ok (.invokevirtual 73, 3) := by decide +kernel
theorem dL_offices_547 : decode cL_offices 547 = .ok (.aload_n 0, 1) := by decide +kernel
theorem dL_offices_548 : decode cL_offices 548 = .ok (.iload 12, 2) := by decide +kernel
theorem dL_offices_550 : decode cL_offices 550 = .ok (.iconst 3, 1) := by decide +kernel
theorem dL_offices_551 : decode cL_offices 551 = .ok (.invokevirtual 78, 3) := by decide +kernel
theorem dL_offices_554 : decode cL_offices 554 = .ok (.isub, 1) := by decide +kernel
theorem dL_offices_555 : decode cL_offices 555 = .ok (.if_icmp .le 7, 3) := by decide +kernel
theorem dL_offices_558 : decode cL_offices 558 = .ok (.iconst 5, 1) := by decide +kernel
theorem dL_offices_559 : decode cL_offices 559 = .ok (.goto 5, 3) := by decide +kernel
theorem dL_offices_562 : decode cL_offices 562 = .ok (.bipush 6, 2) := by decide +kernel
theorem dL_offices_564 : decode cL_offices 564 = .ok (.istore 17, 2) := by decide +kernel
theorem dL_offices_566 : decode cL_offices 566 = .ok (.iload 11, 2) := by decide +kernel
theorem dL_offices_568 : decode cL_offices 568 = .ok (.ifCond .eq 125, 3) := by decide +kernel
theorem dL_offices_571 : decode cL_offices 571 = .ok (.iload 13, 2) := by decide +kernel
theorem dL_offices_573 : decode cL_offices 573 = .ok (.aload_n 0, 1) := by decide +kernel
theorem dL_offices_574 : decode cL_offices 574 = .ok (.iload 12, 2) := by decide +kernel
theorem dL_offices_576 : decode cL_offices 576 = .ok (.iconst 5, 1) := by decide +kernel
theorem dL_offices_577 : decode cL_offices 577 = .ok (.invokevirtual 78, 3) := by decide +kernel
theorem dL_offices_580 : decode cL_offices 580 = .ok (.if_icmp .ne 113, 3) := by decide +kernel
theorem dL_offices_583 : decode cL_offices 583 = .ok (.iload 13, 2) := by decide +kernel
theorem dL_offices_585 : decode cL_offices 585 = .ok (.aload_n 0, 1) := by decide +kernel
theorem dL_offices_586 : decode cL_offices 586 = .ok (.iload 10, 2) := by decide +kernel
theorem dL_offices_588 : decode cL_offices 588 = .ok (.iconst 5, 1) := by decide +kernel
theorem dL_offices_589 : decode cL_offices 589 = .ok (.invokevirtual 78, 3) := by decide +kernel
theorem dL_offices_592 : decode cL_offices 592 = .ok (.if_icmp .gt 101, 3) := by decide +kernel
theorem dL_offices_595 : decode cL_offices 595 = .ok (.aload_n 0, 1) := by decide +kernel
theorem dL_offices_596 : decode cL_offices 596 = .ok (.iload 12, 2) := by decide +kernel
theorem dL_offices_598 : decode cL_offices 598 = .ok (.invokevirtual 96, 3) := by decide +kernel
theorem dL_offices_601 : decode cL_offices 601 = .ok (.iload 17, 2) := by decide +kernel
theorem dL_offices_603 : decode cL_offices 603 = .ok (.if_icmp .ne 90, 3) := by decide +kernel
theorem dL_offices_606 : decode cL_offices 606 = .ok (.iload 14, 2) := by decide +kernel
theorem dL_offices_608 : decode cL_offices 608 = .ok (.ifCond .lt 25, 3) := by decide +kernel
theorem dL_offices_611 : decode cL_offices 611 = .ok (.aload_n 0, 1) := by decide +kernel
theorem dL_offices_612 : decode cL_offices 612 = .ok (.iload 14, 2) := by decide +kernel
theorem dL_offices_614 : decode cL_offices 614 = .ok (.iconst 1, 1) := by decide +kernel
theorem dL_offices_615 : decode cL_offices 615 = .ok (.invokevirtual 90, 3) := by decide +kernel
theorem dL_offices_618 : decode cL_offices 618 = .ok (.iload 12, 2) := by decide +kernel
theorem dL_offices_620 : decode cL_offices 620 = .ok (.if_icmp .ne 73, 3) := by decide +kernel
theorem dL_offices_623 : decode cL_offices 623 = .ok (.aload_n 0, 1) := by decide +kernel
theorem dL_offices_624 : decode cL_offices 624 = .ok (.iload 14, 2) := by decide +kernel
theorem dL_offices_626 : decode cL_offices 626 = .ok (.iconst 2, 1) := by decide +kernel
theorem dL_offices_627 : decode cL_offices 627 = .ok (.invokevirtual 90, 3) := by decide +kernel
theorem dL_offices_630 : decode cL_offices 630 = .ok (.ifCond .ne 63, 3) := by decide +kernel
theorem dL_offices_633 : decode cL_offices 633 = .ok (.iload 15, 2) := by decide +kernel
theorem dL_offices_635 : decode cL_offices 635 = .ok (.ifCond .eq 35, 3) := by decide +kernel
theorem dL_offices_638 : decode cL_offices 638 = .ok (.iload 16, 2) := by decide +kernel
theorem dL_offices_640 : decode cL_offices 640 = .ok (.iload 15, 2) := by decide +kernel
theorem dL_offices_642 : decode cL_offices 642 = .ok (.if_icmp .lt 51, 3) := by decide +kernel
theorem dL_offices_645 : decode cL_offices 645 = .ok (.aload_n 0, 1) := by decide +kernel
theorem dL_offices_646 : decode cL_offices 646 = .ok (.iload 12, 2) := by decide +kernel
theorem dL_offices_648 : decode cL_offices 648 = .ok (.iconst 0, 1) := by decide +kernel
theorem dL_offices_649 : decode cL_offices 649 = .ok (.iconst 2, 1) := by decide +kernel
theorem dL_offices_650 : decode cL_offices 650 = .ok (.invokevirtual 82, 3) := by decide +kernel
theorem dL_offices_653 : decode cL_offices 653 = .ok (.iload 15, 2) := by decide +kernel
theorem dL_offices_655 : decode cL_offices 655 = .ok (.if_icmp .ne 38, 3) := by decide +kernel
theorem dL_offices_658 : decode cL_offices 658 = .ok (.aload_n 0, 1) := by decide +kernel
theorem dL_offices_659 : decode cL_offices 659 = .ok (.iload 12, 2) := by decide +kernel
theorem dL_offices_661 : decode cL_offices 661 = .ok (.iconst 0, 1) := by decide +kernel
theorem dL_offices_662 : decode cL_offices 662 = .ok (.invokevirtual 99, 3) := by decide +kernel
theorem dL_offices_665 : decode cL_offices 665 = .ok (.bipush (-4), 2) := by decide +kernel
theorem dL_offices_667 : decode cL_offices 667 = .ok (.if_icmp .ne 26, 3) := by decide +kernel
theorem dL_offices_670 : decode cL_offices 670 = .ok (.aload_n 0, 1) := by decide +kernel
theorem dL_offices_671 : decode cL_offices 671 = .ok (.iload 12, 2) := by decide +kernel
theorem dL_offices_673 : decode cL_offices 673 = .ok (.aload_n 0, 1) := by decide +kernel
theorem dL_offices_674 : decode cL_offices 674 = .ok (.iload 12, 2) := by decide +kernel
theorem dL_offices_676 : decode cL_offices 676 = .ok (.iconst 4, 1) := by decide +kernel
theorem dL_offices_677 : decode cL_offices 677 = .ok (.invokevirtual 78, 3) := by decide +kernel
theorem dL_offices_680 : decode cL_offices 680 = .ok (.iconst 0, 1) := by decide +kernel
theorem dL_offices_681 : decode cL_offices 681 = .ok (.invokevirtual 82, 3) := by decide +kernel
theorem dL_offices_684 : decode cL_offices 684 = .ok (.bipush (-2), 2) := by decide +kernel
theorem dL_offices_686 : decode cL_offices 686 = .ok (.if_icmp .ne 7, 3) := by decide +kernel
theorem dL_offices_689 : decode cL_offices 689 = .ok (.iconst 1, 1) := by decide +kernel
theorem dL_offices_690 : decode cL_offices 690 = .ok (.goto 4, 3) := by decide +kernel
theorem dL_offices_693 : decode cL_offices 693 = .ok (.iconst 0, 1) := by decide +kernel
theorem dL_offices_694 : decode cL_offices 694 = .ok (.istore 11, 2) := by decide +kernel
theorem dL_offices_696 : decode cL_offices 696 = .ok (.iinc 12 1, 3) := by decide +kernel
theorem dL_offices_699 : decode cL_offices 699 = .ok (.goto (-482), 3) := by decide +kernel
theorem dL_offices_702 : decode cL_offices 702 = .ok (.iconst 0, 1) := by decide +kernel
theorem dL_offices_703 : decode cL_offices 703 = .ok (.istore 12, 2) := by decide +kernel
theorem dL_offices_705 : decode cL_offices 705 = .ok (.iload 12, 2) := by decide +kernel
theorem dL_offices_707 : decode cL_offices 707 = .ok (.iload_n 1, 1) := by decide +kernel
theorem dL_offices_708 : decode cL_offices 708 = .ok (.if_icmp .ge 37, 3) := by decide +kernel
theorem dL_offices_711 : decode cL_offices 711 = .ok (.iload 11, 2) := by decide +kernel
theorem dL_offices_713 : decode cL_offices 713 = .ok (.ifCond .eq 32, 3) := by decide +kernel
theorem dL_offices_716 : decode cL_offices 716 = .ok (.aload_n 0, 1) := by decide +kernel
theorem dL_offices_717 : decode cL_offices 717 = .ok (.iload 12, 2) := by decide +kernel
theorem dL_offices_719 : decode cL_offices 719 = .ok (.bipush 8, 2) := by decide +kernel
theorem dL_offices_721 : decode cL_offices 721 = .ok (.invokevirtual 78, 3) := by decide +kernel
theorem dL_offices_724 : decode cL_offices 724 = .ok (.aload 9, 2) := by decide +kernel
theorem dL_offices_726 : decode cL_offices 726 = .ok (.iload 12, 2) := by decide +kernel
theorem dL_offices_728 : decode cL_offices 728 = .ok (.iaload, 1) := by decide +kernel
theorem dL_offices_729 : decode cL_offices 729 = .ok (.if_icmp .ne 7, 3) := by decide +kernel
theorem dL_offices_732 : decode cL_offices 732 = .ok (.iconst 1, 1) := by decide +kernel
theorem dL_offices_733 : decode cL_offices 733 = .ok (.goto 4, 3) := by decide +kernel
theorem dL_offices_736 : decode cL_offices 736 = .ok (.iconst 0, 1) := by decide +kernel
theorem dL_offices_737 : decode cL_offices 737 = .ok (.istore 11, 2) := by decide +kernel
theorem dL_offices_739 : decode cL_offices 739 = .ok (.iinc 12 1, 3) := by decide +kernel
theorem dL_offices_742 : decode cL_offices 742 = .ok (.goto (-37), 3) := by decide +kernel
theorem dL_offices_745 : decode cL_offices 745 = .ok (.iload 11, 2) := by decide +kernel
theorem dL_offices_747 : decode cL_offices 747 = .ok (.ifCond .eq 157, 3) := by decide +kernel
theorem dL_offices_750 : decode cL_offices 750 = .ok (.iload_n 3, 1) := by decide +kernel
theorem dL_offices_751 : decode cL_offices 751 = .ok (.aload_n 0, 1) := by decide +kernel
theorem dL_offices_752 : decode cL_offices 752 = .ok (.iconst 5, 1) := by decide +kernel
theorem dL_offices_753 : decode cL_offices 753 = .ok (.invokevirtual 73, 3) := by decide +kernel
theorem dL_offices_756 : decode cL_offices 756 = .ok (.if_icmp .ne 148, 3) := by decide +kernel
theorem dL_offices_759 : decode cL_offices 759 = .ok (.iload 4, 2) := by decide +kernel
theorem dL_offices_761 : decode cL_offices 761 = .ok (.aload_n 0, 1) := by decide +kernel
theorem dL_offices_762 : decode cL_offices 762 = .ok (.bipush 8, 2) := by decide +kernel
theorem dL_offices_764 : decode cL_offices 764 = .ok (.invokevirtual 73, 3) := by decide +kernel
theorem dL_offices_767 : decode cL_offices 767 = .ok (.if_icmp .ne 137, 3) := by decide +kernel
theorem dL_offices_770 : decode cL_offices 770 = .ok (.iload 5, 2) := by decide +kernel
theorem dL_offices_772 : decode cL_offices 772 = .ok (.aload_n 0, 1) := by decide +kernel
theorem dL_offices_773 : decode cL_offices 773 = .ok (.bipush 9, 2) := by decide +kernel
theorem dL_offices_775 : decode cL_offices 775 = .ok (.invokevirtual 73, 3) := by decide +kernel
theorem dL_offices_778 : decode cL_offices 778 = .ok (.if_icmp .ne 126, 3) := by decide +kernel
theorem dL_offices_781 : decode cL_offices 781 = .ok (.iload 6, 2) := by decide +kernel
theorem dL_offices_783 : decode cL_offices 783 = .ok (.aload_n 0, 1) := by decide +kernel
theorem dL_offices_784 : decode cL_offices 784 = .ok (.invokevirtual 102, 3) := by decide +kernel
theorem dL_offices_787 : decode cL_offices 787 = .ok (.if_icmp .ne 117, 3) := by decide +kernel
theorem dL_offices_790 : decode cL_offices 790 = .ok (.iload 7, 2) := by decide +kernel
theorem dL_offices_792 : decode cL_offices 792 = .ok (.aload_n 0, 1) := by decide +kernel
theorem dL_offices_793 : decode cL_offices 793 = .ok (.invokevirtual 105, 3) := by decide +kernel
theorem dL_offices_796 : decode cL_offices 796 = .ok (.if_icmp .ne 108, 3) := by decide +kernel
theorem dL_offices_799 : decode cL_offices 799 = .ok (.iload 8, 2) := by decide +kernel
theorem dL_offices_801 : decode cL_offices 801 = .ok (.aload_n 0, 1) := by decide +kernel
theorem dL_offices_802 : decode cL_offices 802 = .ok (.bipush 11, 2) := by decide +kernel
theorem dL_offices_804 : decode cL_offices 804 = .ok (.invokevirtual 73, 3) := by decide +kernel
theorem dL_offices_807 : decode cL_offices 807 = .ok (.if_icmp .ne 97, 3) := by decide +kernel
theorem dL_offices_810 : decode cL_offices 810 = .ok (.aload_n 0, 1) := by decide +kernel
theorem dL_offices_811 : decode cL_offices 811 = .ok (.bipush 10, 2) := by decide +kernel
theorem dL_offices_813 : decode cL_offices 813 = .ok (.invokevirtual 73, 3) := by decide +kernel
theorem dL_offices_816 : decode cL_offices 816 = .ok (.iload 4, 2) := by decide +kernel
theorem dL_offices_818 : decode cL_offices 818 = .ok (.aload_n 0, 1) := by decide +kernel
theorem dL_offices_819 : decode cL_offices 819 = .ok (.bipush 11, 2) := by decide +kernel
theorem dL_offices_821 : decode cL_offices 821 = .ok (.invokevirtual 73, 3) := by decide +kernel
theorem dL_offices_824 : decode cL_offices 824 = .ok (.iadd, 1) := by decide +kernel
theorem dL_offices_825 : decode cL_offices 825 = .ok (.aload_n 0, 1) := by decide +kernel
theorem dL_offices_826 : decode cL_offices 826 = .ok (.bipush 12, 2) := by decide +kernel
theorem dL_offices_828 : decode cL_offices 828 = .ok (.invokevirtual 73, 3) := by decide +kernel
theorem dL_offices_831 : decode cL_offices 831 = .ok (.iadd, 1) := by decide +kernel
theorem dL_offices_832 : decode cL_offices 832 = .ok (.aload_n 0, 1) := by decide +kernel
theorem dL_offices_833 : decode cL_offices 833 = .ok (.bipush 13, 2) := by decide +kernel
theorem dL_offices_835 : decode cL_offices 835 = .ok (.invokevirtual 73, 3) := by decide +kernel
theorem dL_offices_838 : decode cL_offices 838 = .ok (.iadd, 1) := by decide +kernel
theorem dL_offices_839 : decode cL_offices 839 = .ok (.if_icmp .ne 65, 3) := by decide +kernel
theorem dL_offices_842 : decode cL_offices 842 = .ok (.aload_n 0, 1) := by decide +kernel
theorem dL_offices_843 : decode cL_offices 843 = .ok (.invokevirtual 108, 3) := by decide +kernel
theorem dL_offices_846 : decode cL_offices 846 = .ok (.aload_n 0, 1) := by decide +kernel
theorem dL_offices_847 : decode cL_offices 847 = .ok (.iconst 3, 1) := by decide +kernel
theorem dL_offices_848 : decode cL_offices 848 = .ok (.invokevirtual 73, 3) := by decide +kernel
theorem dL_offices_851 : decode cL_offices 851 = .ok (.ifCond .ne 7, 3) := by decide +kernel
theorem dL_offices_854 : decode cL_offices 854 = .ok (.fconst 0, 1) := by decide +kernel
theorem dL_offices_855 : decode cL_offices 855 = .ok (.goto 17, 3) := by decide +kernel
theorem dL_offices_858 : decode cL_offices 858 = .ok (.aload_n 0, 1) := by decide +kernel
theorem dL_offices_859 : decode cL_offices 859 = .ok (.bipush 18, 2) := by decide +kernel
theorem dL_offices_861 : decode cL_offices 861 = .ok (.invokevirtual 73, 3) := by decide +kernel
theorem dL_offices_864 : decode cL_offices 864 = .ok (.i2f, 1) := by decide +kernel
theorem dL_offices_865 : decode cL_offices 865 = .ok (.aload_n 0, 1) := by decide +kernel
theorem dL_offices_866 : decode cL_offices 866 = .ok (.iconst 3, 1) := by decide +kernel
theorem dL_offices_867 : decode cL_offices 867 = .ok (.invokevirtual 73, 3) := by decide +kernel
theorem dL_offices_870 : decode cL_offices 870 = .ok (.i2f, 1) := by decide +kernel
theorem dL_offices_871 : decode cL_offices 871 = .ok (.fdiv, 1) := by decide +kernel
theorem dL_offices_872 : decode cL_offices 872 = .ok (.fcmp .l, 1) := by decide +kernel
theorem dL_offices_873 : decode cL_offices 873 = .ok (.ifCond .ne 31, 3) := by decide +kernel
theorem dL_offices_876 : decode cL_offices 876 = .ok (.aload_n 0, 1) := by decide +kernel
theorem dL_offices_877 : decode cL_offices 877 = .ok (.invokevirtual 112, 3) := by decide +kernel
theorem dL_offices_880 : decode cL_offices 880 = .ok (.iload 4, 2) := by decide +kernel
theorem dL_offices_882 : decode cL_offices 882 = .ok (.ifCond .ne 7, 3) := by decide +kernel
theorem dL_offices_885 : decode cL_offices 885 = .ok (.dconst 0, 1) := by decide +kernel
theorem dL_offices_886 : decode cL_offices 886 = .ok (.goto 10, 3) := by decide +kernel
theorem dL_offices_889 : decode cL_offices 889 = .ok (.iload 5, 2) := by decide +kernel
theorem dL_offices_891 : decode cL_offices 891 = .ok (.i2d, 1) := by decide +kernel
theorem dL_offices_892 : decode cL_offices 892 = .ok (.iload 4, 2) := by decide +kernel
theorem dL_offices_894 : decode cL_offices 894 = .ok (.i2d, 1) := by decide +kernel
theorem dL_offices_895 : decode cL_offices 895 = .ok (.ddiv, 1) := by decide +kernel
theorem dL_offices_896 : decode cL_offices 896 = .ok (.dcmp .l, 1) := by decide +kernel
theorem dL_offices_897 : decode cL_offices 897 = .ok (.ifCond .ne 7, 3) := by decide +kernel
theorem dL_offices_900 : decode cL_offices 900 = .ok (.iconst 1, 1) := by decide +kernel
theorem dL_offices_901 : decode cL_offices 901 = .ok (.goto 4, 3) := by decide +kernel
theorem dL_offices_904 : decode cL_offices 904 = .ok (.iconst 0, 1) := by decide +kernel
theorem dL_offices_905 : decode cL_offices 905 = .ok (.ireturn, 1) := by decide +kernel
theorem dL_minutes_0 : decode cL_minutes 0 = .ok (.aload_n 0, 1) := by decide +kernel
theorem dL_minutes_1 : decode cL_minutes 1 = .ok (.iconst 4, 1) := by decide +kernel
theorem dL_minutes_2 : decode cL_minutes 2 = .ok (.invokevirtual 73, 3) := by decide +kernel
theorem dL_minutes_5 : decode cL_minutes 5 = .ok (.istore_n 1, 1) := by decide +kernel
theorem dL_minutes_6 : decode cL_minutes 6 = .ok (.aload_n 0, 1) := by decide +kernel
theorem dL_minutes_7 : decode cL_minutes 7 = .ok (.bipush 6, 2) := by decide +kernel
theorem dL_minutes_9 : decode cL_minutes 9 = .ok (.invokevirtual 73, 3) := by decide +kernel
theorem dL_minutes_12 : decode cL_minutes 12 = .ok (.istore_n 2, 1) := by decide +kernel
theorem dL_minutes_13 : decode cL_minutes 13 = .ok (.iload_n 2, 1) := by decide +kernel
theorem dL_minutes_14 : decode cL_minutes 14 = .ok (.newarray .int, 2) := by decide +kernel
theorem dL_minutes_16 : decode cL_minutes 16 = .ok (.astore_n 3, 1) := by decide +kernel
theorem dL_minutes_17 : decode cL_minutes 17 = .ok (.iload_n 2, 1) := by decide +kernel
theorem dL_minutes_18 : decode cL_minutes 18 = .ok (.newarray .int, 2) := by decide +kernel
theorem dL_minutes_20 : decode cL_minutes 20 = .ok (.astore 4, 2) := by decide +kernel
theorem dL_minutes_22 : decode cL_minutes 22 = .ok (.iload_n 2, 1) := by decide +kernel
theorem dL_minutes_23 : decode cL_minutes 23 = .ok (.newarray .int, 2) := by decide +kernel
theorem dL_minutes_25 : decode cL_minutes 25 = .ok (.astore 5, 2) := by decide +kernel
theorem dL_minutes_27 : decode cL_minutes 27 = .ok (.iload_n 2, 1) := by decide +kernel
theorem dL_minutes_28 : decode cL_minutes 28 = .ok (.newarray .int, 2) := by decide +kernel
theorem dL_minutes_30 : decode cL_minutes 30 = .ok (.astore 6, 2) := by decide +kernel
theorem dL_minutes_32 : decode cL_minutes 32 = .ok (.iload_n 2, 1) := by decide +kernel
theorem dL_minutes_33 : decode cL_minutes 33 = .ok (.newarray .int, 2) := by decide +kernel
theorem dL_minutes_35 : decode cL_minutes 35 = .ok (.astore 7, 2) := by decide +kernel
theorem dL_minutes_37 : decode cL_minutes 37 = .ok (.iload_n 1, 1) := by decide +kernel
theorem dL_minutes_38 : decode cL_minutes 38 = .ok (.newarray .int, 2) := by decide +kernel
theorem dL_minutes_40 : decode cL_minutes 40 = .ok (.astore 8, 2) := by decide +kernel
theorem dL_minutes_42 : decode cL_minutes 42 = .ok (.iconst 0, 1) := by decide +kernel
theorem dL_minutes_43 : decode cL_minutes 43 = .ok (.istore 9, 2) := by decide +kernel
theorem dL_minutes_45 : decode cL_minutes 45 = .ok (.iload 9, 2) := by decide +kernel
theorem dL_minutes_47 : decode cL_minutes 47 = .ok (.iload_n 2, 1) := by decide +kernel
theorem dL_minutes_48 : decode cL_minutes 48 = .ok (.if_icmp .ge 68, 3) := by decide +kernel
theorem dL_minutes_51 : decode cL_minutes 51 = .ok (.aload_n 3, 1) := by decide +kernel
theorem dL_minutes_52 : decode cL_minutes 52 = .ok (.iload 9, 2) := by decide +kernel
theorem dL_minutes_54 : decode cL_minutes 54 = .ok (.aload_n 0, 1) := by decide +kernel
theorem dL_minutes_55 : decode cL_minutes 55 = .ok (.iload 9, 2) := by decide +kernel
theorem dL_minutes_57 : decode cL_minutes 57 = .ok (.iconst 0, 1) := by decide +kernel
theorem dL_minutes_58 : decode cL_minutes 58 = .ok (.invokevirtual 90, 3) := by decide +kernel
theorem dL_minutes_61 : decode cL_minutes 61 = .ok (.iastore, 1) := by decide +kernel
theorem dL_minutes_62 : decode cL_minutes 62 = .ok (.aload 4, 2) := by decide +kernel
theorem dL_minutes_64 : decode cL_minutes 64 = .ok (.iload 9, 2) := by decide +kernel
theorem dL_minutes_66 : decode cL_minutes 66 = .ok (.aload_n 0, 1) := by decide +kernel
theorem dL_minutes_67 : decode cL_minutes 67 = .ok (.iload 9, 2) := by decide +kernel
theorem dL_minutes_69 : decode cL_minutes 69 = .ok (.iconst 1, 1) := by decide +kernel
theorem dL_minutes_70 : decode cL_minutes 70 = .ok (.invokevirtual 90, 3) := by decide +kernel
theorem dL_minutes_73 : decode cL_minutes 73 = .ok (.iastore, 1) := by decide +kernel
theorem dL_minutes_74 : decode cL_minutes 74 = .ok (.aload 5, 2) := by decide +kernel
theorem dL_minutes_76 : decode cL_minutes 76 = .ok (.iload 9, 2) := by decide +kernel
theorem dL_minutes_78 : decode cL_minutes 78 = .ok (.aload_n 0, 1) := by decide +kernel
theorem dL_minutes_79 : decode cL_minutes 79 = .ok (.iload 9, 2) := by decide +kernel
theorem dL_minutes_81 : decode cL_minutes 81 = .ok (.iconst 2, 1) := by decide +kernel
theorem dL_minutes_82 : decode cL_minutes 82 = .ok (.invokevirtual 90, 3) := by decide +kernel
theorem dL_minutes_85 : decode cL_minutes 85 = .ok (.iastore, 1) := by decide +kernel
theorem dL_minutes_86 : decode cL_minutes 86 = .ok (.aload 6, 2) := by decide +kernel
theorem dL_minutes_88 : decode cL_minutes 88 = .ok (.iload 9, 2) := by decide +kernel
theorem dL_minutes_90 : decode cL_minutes 90 = .ok (.aload_n 0, 1) := by decide +kernel
theorem dL_minutes_91 : decode cL_minutes 91 = .ok (.iload 9, 2) := by decide +kernel
theorem dL_minutes_93 : decode cL_minutes 93 = .ok (.iconst 3, 1) := by decide +kernel
theorem dL_minutes_94 : decode cL_minutes 94 = .ok (.invokevirtual 90, 3) := by decide +kernel
theorem dL_minutes_97 : decode cL_minutes 97 = .ok (.iastore, 1) := by decide +kernel
theorem dL_minutes_98 : decode cL_minutes 98 = .ok (.aload 7, 2) := by decide +kernel
theorem dL_minutes_100 : decode cL_minutes 100 = .ok (.iload 9, 2) := by decide +kernel
theorem dL_minutes_102 : decode cL_minutes 102 = .ok (.aload_n 0, 1) := by decide +kernel
theorem dL_minutes_103 : decode cL_minutes 103 = .ok (.iload 9, 2) := by decide +kernel
theorem dL_minutes_105 : decode cL_minutes 105 = .ok (.iconst 4, 1) := by decide +kernel
theorem dL_minutes_106 : decode cL_minutes 106 = .ok (.invokevirtual 90, 3) := by decide +kernel
theorem dL_minutes_109 : decode cL_minutes 109 = .ok (.iastore, 1) := by decide +kernel
theorem dL_minutes_110 : decode cL_minutes 110 = .ok (.iinc 9 1, 3) := by decide +kernel
theorem dL_minutes_113 : decode cL_minutes 113 = .ok (.goto (-68), 3) := by decide +kernel
theorem dL_minutes_116 : decode cL_minutes 116 = .ok (.iconst 0, 1) := by decide +kernel
theorem dL_minutes_117 : decode cL_minutes 117 = .ok (.istore 9, 2) := by decide +kernel
theorem dL_minutes_119 : decode cL_minutes 119 = .ok (.iload 9, 2) := by decide +kernel
theorem dL_minutes_121 : decode cL_minutes 121 = .ok (.iload_n 1, 1) := by decide +kernel
theorem dL_minutes_122 : decode cL_minutes 122 = .ok (.if_icmp .ge 20, 3) := by decide +kernel
theorem dL_minutes_125 : decode cL_minutes 125 = .ok (.aload 8, 2) := by decide +kernel
theorem dL_minutes_127 : decode cL_minutes 127 = .ok (.iload 9, 2) := by decide +kernel
theorem dL_minutes_129 : decode cL_minutes 129 = .ok (.aload_n 0, 1) := by decide +kernel
theorem dL_minutes_130 : decode cL_minutes 130 = .ok (.iload 9, 2) := by decide +kernel
theorem dL_minutes_132 : decode cL_minutes 132 = .ok (.invokevirtual 96, 3) := by decide +kernel
theorem dL_minutes_135 : decode cL_minutes 135 = .ok (.iastore, 1) := by decide +kernel
theorem dL_minutes_136 : decode cL_minutes 136 = .ok (.iinc 9 1, 3) := by decide +kernel
theorem dL_minutes_139 : decode cL_minutes 139 = .ok (.goto (-20), 3) := by decide +kernel
theorem dL_minutes_142 : decode cL_minutes 142 = .ok (.bipush 8, 2) := by decide +kernel
theorem dL_minutes_144 : decode cL_minutes 144 = .ok (.newarray .int, 2) := by decide +kernel
theorem dL_minutes_146 : decode cL_minutes 146 = .ok (.dup, 1) := by decide +kernel
theorem dL_minutes_147 : decode cL_minutes 147 = .ok (.iconst 0, 1) := by decide +kernel
theorem dL_minutes_148 : decode cL_minutes 148 = .ok (.aload_n 0, 1) := by decide +kernel
theorem dL_minutes_149 : decode cL_minutes 149 = .ok (.iconst 3, 1) := by decide +kernel
theorem dL_minutes_150 : decode cL_minutes 150 = .ok (.invokevirtual 73, 3) := by decide +kernel
theorem dL_minutes_153 : decode cL_minutes 153 = .ok (.iastore, 1) := by decide +kernel
theorem dL_minutes_154 : decode cL_minutes 154 = .ok (.dup, 1) := by decide +kernel
theorem dL_minutes_155 : decode cL_minutes 155 = .ok (.iconst 1, 1) := by decide +kernel
theorem dL_minutes_156 : decode cL_minutes 156 = .ok (.aload_n 0, 1) := by decide +kernel
theorem dL_minutes_157 : decode cL_minutes 157 = .ok (.bipush 11, 2) := by decide +kernel
theorem dL_minutes_159 : decode cL_minutes 159 = .ok (.invokevirtual 73, 3) := by decide +kernel
theorem dL_minutes_162 : decode cL_minutes 162 = .ok (.iastore, 1) := by decide +kernel
theorem dL_minutes_163 : decode cL_minutes 163 = .ok (.dup, 1) := by decide +kernel
theorem dL_minutes_164 : decode cL_minutes 164 = .ok (.iconst 2, 1) := by decide +kernel
theorem dL_minutes_165 : decode cL_minutes 165 = .ok (.aload_n 0, 1) := by decide +kernel
theorem dL_minutes_166 : decode cL_minutes 166 = .ok (.bipush 12, 2) := by decide +kernel
theorem dL_minutes_168 : decode cL_minutes 168 = .ok (.invokevirtual 73, 3) := by decide +kernel
theorem dL_minutes_171 : decode cL_minutes 171 = .ok (.iastore, 1) := by decide +kernel
theorem dL_minutes_172 : decode cL_minutes 172 = .ok (.dup, 1) := by decide +kernel
theorem dL_minutes_173 : decode cL_minutes 173 = .ok (.iconst 3, 1) := by decide +kernel
theorem dL_minutes_174 : decode cL_minutes 174 = .ok (.aload_n 0, 1) := by decide +kernel
theorem dL_minutes_175 : decode cL_minutes 175 = .ok (.bipush 18, 2) := by decide +kernel
theorem dL_minutes_177 : decode cL_minutes 177 = .ok (.invokevirtual 73, 3) := by decide +kernel
theorem dL_minutes_180 : decode cL_minutes 180 = .ok (.iastore, 1) := by decide +kernel
theorem dL_minutes_181 : decode cL_minutes 181 = .ok (.dup, 1) := by decide +kernel
theorem dL_minutes_182 : decode cL_minutes 182 = .ok (.iconst 4, 1) := by decide +kernel
theorem dL_minutes_183 : decode cL_minutes 183 = .ok (.aload_n 0, 1) := by decide +kernel
theorem dL_minutes_184 : decode cL_minutes 184 = .ok (.bipush 14, 2) := by decide +kernel
theorem dL_minutes_186 : decode cL_minutes 186 = .ok (.invokevirtual 73, 3) := by decide +kernel
theorem dL_minutes_189 : decode cL_minutes 189 = .ok (.iastore, 1) := by decide +kernel
theorem dL_minutes_190 : decode cL_minutes 190 = .ok (.dup, 1) := by decide +kernel
theorem dL_minutes_191 : decode cL_minutes 191 = .ok (.iconst 5, 1) := by decide +kernel
theorem dL_minutes_192 : decode cL_minutes 192 = .ok (.aload_n 0, 1) := by decide +kernel
theorem dL_minutes_193 : decode cL_minutes 193 = .ok (.bipush 15, 2) := by decide +kernel
theorem dL_minutes_195 : decode cL_minutes 195 = .ok (.invokevirtual 73, 3) := by decide +kernel
theorem dL_minutes_198 : decode cL_minutes 198 = .ok (.iastore, 1) := by decide +kernel
theorem dL_minutes_199 : decode cL_minutes 199 = .ok (.dup, 1) := by decide +kernel
theorem dL_minutes_200 : decode cL_minutes 200 = .ok (.bipush 6, 2) := by decide +kernel
theorem dL_minutes_202 : decode cL_minutes 202 = .ok (.aload_n 0, 1) := by decide +kernel
theorem dL_minutes_203 : decode cL_minutes 203 = .ok (.bipush 17, 2) := by decide +kernel
theorem dL_minutes_205 : decode cL_minutes 205 = .ok (.invokevirtual 73, 3) := by decide +kernel
theorem dL_minutes_208 : decode cL_minutes 208 = .ok (.iastore, 1) := by decide +kernel
theorem dL_minutes_209 : decode cL_minutes 209 = .ok (.dup, 1) := by decide +kernel
theorem dL_minutes_210 : decode cL_minutes 210 = .ok (.bipush 7, 2) := by decide +kernel
theorem dL_minutes_212 : decode cL_minutes 212 = .ok (.aload_n 0, 1) := by decide +kernel
theorem dL_minutes_213 : decode cL_minutes 213 = .ok (.bipush 7, 2) := by decide +kernel
theorem dL_minutes_215 : decode cL_minutes 215 = .ok (.invokevirtual 73, 3) := by decide +kernel
theorem dL_minutes_218 : decode cL_minutes 218 = .ok (.iastore, 1) := by decide +kernel
theorem dL_minutes_219 : decode cL_minutes 219 = .ok (.astore 9, 2) := by decide +kernel
theorem dL_minutes_221 : decode cL_minutes 221 = .ok (.aload_n 0, 1) := by decide +kernel
theorem dL_minutes_222 : decode cL_minutes 222 = .ok (.iconst 0, 1) := by decide +kernel
theorem dL_minutes_223 : decode cL_minutes 223 = .ok (.iconst 3, 1) := by decide +kernel
theorem dL_minutes_224 : decode cL_minutes 224 = .ok (.invokevirtual 116, 3) := by decide +kernel
theorem dL_minutes_227 : decode cL_minutes 227 = .ok (.iload_n 2, 1) := by decide +kernel
theorem dL_minutes_228 : decode cL_minutes 228 = .ok (.if_icmp .ne 7, 3) := by decide +kernel
theorem dL_minutes_231 : decode cL_minutes 231 = .ok (.iconst 1, 1) := by decide +kernel
theorem dL_minutes_232 : decode cL_minutes 232 = .ok (.goto 4, 3) := by decide +kernel
theorem dL_minutes_235 : decode cL_minutes 235 = .ok (.iconst 0, 1) := by decide +kernel
theorem dL_minutes_236 : decode cL_minutes 236 = .ok (.istore 10, 2) := by decide +kernel
theorem dL_minutes_238 : decode cL_minutes 238 = .ok (.bipush 6, 2) := by decide +kernel
theorem dL_minutes_240 : decode cL_minutes 240 = .ok (.newarray .int, 2) := by decide +kernel
theorem dL_minutes_242 : decode cL_minutes 242 = .ok (.astore 11, 2) := by decide +kernel
theorem dL_minutes_244 : decode cL_minutes 244 = .ok (.iconst 0, 1) := by decide +kernel
theorem dL_minutes_245 : decode cL_minutes 245 = .ok (.istore 12, 2) := by decide +kernel
theorem dL_minutes_247 : decode cL_minutes 247 = .ok (.iload 12, 2) := by decide +kernel
theorem dL_minutes_249 : decode cL_minutes 249 = .ok (.bipush 6, 2) := by decide +kernel
theorem dL_minutes_251 : decode cL_minutes 251 = .ok (.if_icmp .ge 21, 3) := by decide +kernel
theorem dL_minutes_254 : decode cL_minutes 254 = .ok (.aload 11, 2) := by decide +kernel
theorem dL_minutes_256 : decode cL_minutes 256 = .ok (.iload 12, 2) := by decide +kernel
theorem dL_minutes_258 : decode cL_minutes 258 = .ok (.aload_n 0, 1) := by decide +kernel
theorem dL_minutes_259 : decode cL_minutes 259 = .ok (.iconst 1, 1) := by decide +kernel
theorem dL_minutes_260 : decode cL_minutes 260 = .ok (.iload 12, 2) := by decide +kernel
theorem dL_minutes_262 : decode cL_minutes 262 = .ok (.invokevirtual 116, 3) := by decide +kernel
theorem dL_minutes_265 : decode cL_minutes 265 = .ok (.iastore, 1) := by decide +kernel
theorem dL_minutes_266 : decode cL_minutes 266 = .ok (.iinc 12 1, 3) := by decide +kernel
theorem dL_minutes_269 : decode cL_minutes 269 = .ok (.goto (-22), 3) := by decide +kernel
theorem dL_minutes_272 : decode cL_minutes 272 = .ok (.iload 10, 2) := by decide +kernel
theorem dL_minutes_274 : decode cL_minutes 274 = .ok (.ifCond .eq 52, 3) := by decide +kernel
theorem dL_minutes_277 : decode cL_minutes 277 = .ok (.aload_n 0, 1) := by decide +kernel
theorem dL_minutes_278 : decode cL_minutes 278 = .ok (.iconst 0, 1) := by decide +kernel
theorem dL_minutes_279 : decode cL_minutes 279 = .ok (.aload_n 0, 1) := by decide +kernel
theorem dL_minutes_280 : decode cL_minutes 280 = .ok (.iconst 0, 1) := by decide +kernel
theorem dL_minutes_281 : decode cL_minutes 281 = .ok (.invokevirtual 73, 3) := by decide +kernel
theorem dL_minutes_284 : decode cL_minutes 284 = .ok (.iconst 1, 1) := by decide +kernel
theorem dL_minutes_285 : decode cL_minutes 285 = .ok (.iconst 0, 1) := by decide +kernel
theorem dL_minutes_286 : decode cL_minutes 286 = .ok (.invokevirtual 119, 3) := by decide +kernel
theorem dL_minutes_289 : decode cL_minutes 289 = .ok (.aload 11, 2) := by decide +kernel
theorem dL_minutes_291 : decode cL_minutes 291 = .ok (.iconst 0, 1) := by decide +kernel
theorem dL_minutes_292 : decode cL_minutes 292 = .ok (.iaload, 1) := by decide +kernel
theorem dL_minutes_293 : decode cL_minutes 293 = .ok (.if_icmp .ne 33, 3) := by decide +kernel
theorem dL_minutes_296 : decode cL_minutes 296 = .ok (.aload_n 0, 1) := by decide +kernel
theorem dL_minutes_297 : decode cL_minutes 297 = .ok (.iconst 1, 1) := by decide +kernel
theorem dL_minutes_298 : decode cL_minutes 298 = .ok (.invokevirtual 123, 3) := by decide +kernel
theorem dL_minutes_301 : decode cL_minutes 301 = .ok (.aload 11, 2) := by decide +kernel
theorem dL_minutes_303 : decode cL_minutes 303 = .ok (.iconst 0, 1) := by decide +kernel
theorem dL_minutes_304 : decode cL_minutes 304 = .ok (.iaload, 1) := by decide +kernel
theorem dL_minutes_305 : decode cL_minutes 305 = .ok (.if_icmp .ne 21, 3) := by decide +kernel
theorem dL_minutes_308 : decode cL_minutes 308 = .ok (.aload_n 0, 1) := by decide +kernel
theorem dL_minutes_309 : decode cL_minutes 309 = .ok (.iconst 3, 1) := by decide +kernel
theorem dL_minutes_310 : decode cL_minutes 310 = .ok (.invokevirtual 73, 3) := by decide +kernel
theorem dL_minutes_313 : decode cL_minutes 313 = .ok (.aload 9, 2) := by decide +kernel
theorem dL_minutes_315 : decode cL_minutes 315 = .ok (.iconst 0, 1) := by decide +kernel
theorem dL_minutes_316 : decode cL_minutes 316 = .ok (.iaload, 1) := by decide +kernel
theorem dL_minutes_317 : decode cL_minutes 317 = .ok (.iconst 1, 1) := by decide +kernel
theorem dL_minutes_318 : decode cL_minutes 318 = .ok (.iadd, 1) := by decide +kernel
theorem dL_minutes_319 : decode cL_minutes 319 = .ok (.if_icmp .ne 7, 3) := by decide +kernel
theorem dL_minutes_322 : decode cL_minutes 322 = .ok (.iconst 1, 1) := by decide +kernel
theorem dL_minutes_323 : decode cL_minutes 323 = .ok (.goto 4, 3) := by decide +kernel
theorem dL_minutes_326 : decode cL_minutes 326 = .ok (.iconst 0, 1) := by decide +kernel
theorem dL_minutes_327 : decode cL_minutes 327 = .ok (.istore 10, 2) := by decide +kernel
theorem dL_minutes_329 : decode cL_minutes 329 = .ok (.aload 9, 2) := by decide +kernel
theorem dL_minutes_331 : decode cL_minutes 331 = .ok (.iconst 0, 1) := by decide +kernel
theorem dL_minutes_332 : decode cL_minutes 332 = .ok (.iaload, 1) := by decide +kernel
theorem dL_minutes_333 : decode cL_minutes 333 = .ok (.iconst 1, 1) := by decide +kernel
theorem dL_minutes_334 : decode cL_minutes 334 = .ok (.iadd, 1) := by decide +kernel
theorem dL_minutes_335 : decode cL_minutes 335 = .ok (.bipush 60, 2) := by decide +kernel
theorem dL_minutes_337 : decode cL_minutes 337 = .ok (.irem, 1) := by decide +kernel
theorem dL_minutes_338 : decode cL_minutes 338 = .ok (.ifCond .ne 7, 3) := by decide +kernel
theorem dL_minutes_341 : decode cL_minutes 341 = .ok (.iconst 1, 1) := by decide +kernel
theorem dL_minutes_342 : decode cL_minutes 342 = .ok (.goto 4, 3) := by decide +kernel
theorem dL_minutes_345 : decode cL_minutes 345 = .ok (.iconst 0, 1) := by decide +kernel
theorem dL_minutes_346 : decode cL_minutes 346 = .ok (.istore 12, 2) := by decide +kernel
theorem dL_minutes_348 : decode cL_minutes 348 = .ok (.iconst 0, 1) := by decide +kernel
theorem dL_minutes_349 : decode cL_minutes 349 = .ok (.istore 13, 2) := by decide +kernel
theorem dL_minutes_351 : decode cL_minutes 351 = .ok (.iconst 0, 1) := by decide +kernel
theorem dL_minutes_352 : decode cL_minutes 352 = .ok (.istore 14, 2) := by decide +kernel
theorem dL_minutes_354 : decode cL_minutes 354 = .ok (.iload 14, 2) := by decide +kernel
theorem dL_minutes_356 : decode cL_minutes 356 = .ok (.iload_n 2, 1) := by decide +kernel
theorem dL_minutes_357 : decode cL_minutes 357 = .ok (.if_icmp .ge 474, 3) := by decide +kernel
theorem dL_minutes_360 : decode cL_minutes 360 = .ok (.iload 10, 2) := by decide +kernel
theorem dL_minutes_362 : decode cL_minutes 362 = .ok (.ifCond .eq 469, 3) := by decide +kernel
theorem dL_minutes_365 : decode cL_minutes 365 = .ok (.iconst (-1), 1) := by decide +kernel
theorem dL_minutes_366 : decode cL_minutes 366 = .ok (.istore 15, 2) := by decide +kernel
theorem dL_minutes_368 : decode cL_minutes 368 = .ok (.iconst 0, 1) := by decide +kernel
theorem dL_minutes_369 : decode cL_minutes 369 = .ok (.istore 16, 2) := by decide +kernel
theorem dL_minutes_371 : decode cL_minutes 371 = .ok (.iload 16, 2) := by decide +kernel
theorem dL_minutes_373 : decode cL_minutes 373 = .ok (.aload_n 0, 1) := by decide +kernel
theorem dL_minutes_374 : decode cL_minutes 374 = .ok (.bipush 6, 2) := by decide +kernel
theorem dL_minutes_376 : decode cL_minutes 376 = .ok (.invokevirtual 73, 3) := by decide +kernel
theorem dL_minutes_379 : decode cL_minutes 379 = .ok (.if_icmp .ge 27, 3) := by decide +kernel
theorem dL_minutes_382 : decode cL_minutes 382 = .ok (.aload_n 0, 1) := by decide +kernel
theorem dL_minutes_383 : decode cL_minutes 383 = .ok (.iload 16, 2) := by decide +kernel
theorem dL_minutes_385 : decode cL_minutes 385 = .ok (.iconst 0, 1) := by decide +kernel
theorem dL_minutes_386 : decode cL_minutes 386 = .ok (.invokevirtual 90, 3) := by decide +kernel
theorem dL_minutes_389 : decode cL_minutes 389 = .ok (.aload_n 3, 1) := by decide +kernel
theorem dL_minutes_390 : decode cL_minutes 390 = .ok (.iload 14, 2) := by decide +kernel
theorem dL_minutes_392 : decode cL_minutes 392 = .ok (.iaload, 1) := by decide +kernel
theorem dL_minutes_393 : decode cL_minutes 393 = .ok (.if_icmp .ne 7, 3) := by decide +kernel
theorem dL_minutes_396 : decode cL_minutes 396 = .ok (.iload 16, 2) := by decide +kernel
theorem dL_minutes_398 : decode cL_minutes 398 = .ok (.istore 15, 2) := by decide +kernel
theorem dL_minutes_400 : decode cL_minutes 400 = .ok (.iinc 16 1, 3) := by decide +kernel
theorem dL_minutes_403 : decode cL_minutes 403 = .ok (.goto (-32), 3) := by decide +kernel
theorem dL_minutes_406 : decode cL_minutes 406 = .ok (.aload 5, 2) := by decide +kernel
theorem dL_minutes_408 : decode cL_minutes 408 = .ok (.iload 14, 2) := by decide +kernel
theorem dL_minutes_410 : decode cL_minutes 410 = .ok (.iaload, 1) := by decide +kernel
theorem dL_minutes_411 : decode cL_minutes 411 = .ok (.ifCond .ne 14, 3) := by decide +kernel
theorem dL_minutes_414 : decode cL_minutes 414 = .ok (.aload 7, 2) := by decide +kernel
theorem dL_minutes_416 : decode cL_minutes 416 = .ok (.iload 14, 2) := by decide +kernel
theorem dL_minutes_418 : decode cL_minutes 418 = .ok (.iaload, 1) := by decide +kernel
theorem dL_minutes_419 : decode cL_minutes 419 = .ok (.ifCond .le 6, 3) := by decide +kernel
theorem dL_minutes_422 : decode cL_minutes 422 = .ok (.iinc 13 1, 3) := by decide +kernel
theorem dL_minutes_425 : decode cL_minutes 425 = .ok (.iload 15, 2) := by decide +kernel
theorem dL_minutes_427 : decode cL_minutes 427 = .ok (.ifCond .ge 26, 3) := by decide +kernel
theorem dL_minutes_430 : decode cL_minutes 430 = .ok (.aload_n 0, 1) := by decide +kernel
theorem dL_minutes_431 : decode cL_minutes 431 = .ok (.bipush 15, 2) := by decide +kernel
theorem dL_minutes_433 : decode cL_minutes 433 = .ok (.invokevirtual 73, 3) := by decide +kernel
theorem dL_minutes_436 : decode cL_minutes 436 = .ok (.aload 9, 2) := by decide +kernel
theorem dL_minutes_438 : decode cL_minutes 438 = .ok (.iconst 5, 1) := by decide +kernel
theorem dL_minutes_439 : decode cL_minutes 439 = .ok (.iaload, 1) := by decide +kernel
theorem dL_minutes_440 : decode cL_minutes 440 = .ok (.if_icmp .le 7, 3) := by decide +kernel
theorem dL_minutes_443 : decode cL_minutes 443 = .ok (.iconst 1, 1) := by decide +kernel
theorem dL_minutes_444 : decode cL_minutes 444 = .ok (.goto 4, 3) := by decide +kernel
theorem dL_minutes_447 : decode cL_minutes 447 = .ok (.iconst 0, 1) := by decide +kernel
theorem dL_minutes_448 : decode cL_minutes 448 = .ok (.istore 10, 2) := by decide +kernel
theorem dL_minutes_450 : decode cL_minutes 450 = .ok (.goto 375, 3) := by decide +kernel
theorem dL_minutes_453 : decode cL_minutes 453 = .ok (.aload 4, 2) := by decide +kernel
theorem dL_minutes_455 : decode cL_minutes 455 = .ok (.iload 14, 2) := by decide +kernel
theorem dL_minutes_457 : decode cL_minutes 457 = .ok (.iaload, 1) := by decide +kernel
theorem dL_minutes_458 : decode cL_minutes 458 = .ok (.iconst 1, 1) := by decide +kernel
theorem dL_minutes_459 : decode cL_minutes 459 = .ok (.iadd, 1) := by decide +kernel
theorem dL_minutes_460 : decode cL_minutes 460 = .ok (.iload_n 1, 1) := by decide +kernel
theorem dL_minutes_461 : decode cL_minutes 461 = .ok (.irem, 1) := by decide +kernel
theorem dL_minutes_462 : decode cL_minutes 462 = .ok (.istore 16, 2) := by decide +kernel
theorem dL_minutes_464 : decode cL_minutes 464 = .ok (.aload 5, 2) := by decide +kernel
theorem dL_minutes_466 : decode cL_minutes 466 = .ok (.iload 14, 2) := by decide +kernel
theorem dL_minutes_468 : decode cL_minutes 468 = .ok (.iaload, 1) := by decide +kernel
theorem dL_minutes_469 : decode cL_minutes 469 = .ok (.iconst 1, 1) := by decide +kernel
theorem dL_minutes_470 : decode cL_minutes 470 = .ok (.if_icmp .le 45, 3) := by decide +kernel
theorem dL_minutes_473 : decode cL_minutes 473 = .ok (.aload_n 0, 1) := by decide +kernel
theorem dL_minutes_474 : decode cL_minutes 474 = .ok (.iload 15, 2) := by decide +kernel
theorem dL_minutes_476 : decode cL_minutes 476 = .ok (.iconst 1, 1) := by decide +kernel
theorem dL_minutes_477 : decode cL_minutes 477 = .ok (.invokevirtual 90, 3) := by decide +kernel
theorem dL_minutes_480 : decode cL_minutes 480 = .ok (.aload 4, 2) := by decide +kernel
theorem dL_minutes_482 : decode cL_minutes 482 = .ok (.iload 14, 2) := by decide +kernel
theorem dL_minutes_484 : decode cL_minutes 484 = .ok (.iaload, 1) := by decide +kernel
theorem dL_minutes_485 : decode cL_minutes 485 = .ok (.if_icmp .ne 24, 3) := by decide +kernel
theorem dL_minutes_488 : decode cL_minutes 488 = .ok (.aload_n 0, 1) := by decide +kernel
theorem dL_minutes_489 : decode cL_minutes 489 = .ok (.iload 15, 2) := by decide +kernel
theorem dL_minutes_491 : decode cL_minutes 491 = .ok (.iconst 2, 1) := by decide +kernel
theorem dL_minutes_492 : decode cL_minutes 492 = .ok (.invokevirtual 90, 3) := by decide +kernel
theorem dL_minutes_495 : decode cL_minutes 495 = .ok (.aload 5, 2) := by decide +kernel
theorem dL_minutes_497 : decode cL_minutes 497 = .ok (.iload 14, 2) := by decide +kernel
theorem dL_minutes_499 : decode cL_minutes 499 = .ok (.iaload, 1) := by decide +kernel
theorem dL_minutes_500 : decode cL_minutes 500 = .ok (.iconst 1, 1) := by decide +kernel
theorem dL_minutes_501 : decode cL_minutes 501 = .ok (.isub, 1) := by decide +kernel
theorem dL_minutes_502 : decode cL_minutes 502 = .ok (.if_icmp .ne 7, 3) := by decide +kernel
theorem dL_minutes_505 : decode cL_minutes 505 = .ok (.iconst 1, 1) := by decide +kernel
theorem dL_minutes_506 : decode cL_minutes 506 = .ok (.goto 4, 3) := by decide +kernel
theorem dL_minutes_509 : decode cL_minutes 509 = .ok (.iconst 0, 1) := by decide +kernel
theorem dL_minutes_510 : decode cL_minutes 510 = .ok (.istore 10, 2) := by decide +kernel
theorem dL_minutes_512 : decode cL_minutes 512 = .ok (.goto 313, 3) := by decide +kernel
theorem dL_minutes_515 : decode cL_minutes 515 = .ok (.aload 5, 2) := by decide +kernel
theorem dL_minutes_517 : decode cL_minutes 517 = .ok (.iload 14, 2) := by decide +kernel
theorem dL_minutes_519 : decode cL_minutes 519 = .ok (.iaload, 1) := by decide +kernel
theorem dL_minutes_520 : decode cL_minutes 520 = .ok (.iconst 1, 1) := by decide +kernel
theorem dL_minutes_521 : decode cL_minutes 521 = .ok (.if_icmp .ne 112, 3) := by decide +kernel
theorem dL_minutes_524 : decode cL_minutes 524 = .ok (.aload_n 0, 1) := by decide +kernel
theorem dL_minutes_525 : decode cL_minutes 525 = .ok (.aload 4, 2) := by decide +kernel
theorem dL_minutes_527 : decode cL_minutes 527 = .ok (.iload 14, 2) := by decide +kernel
theorem dL_minutes_529 : decode cL_minutes 529 = .ok (.iaload, 1) := by decide +kernel
theorem dL_minutes_530 : decode cL_minutes 530 = .ok (.iconst 2, 1) := by decide +kernel
theorem dL_minutes_531 : decode cL_minutes 531 = .ok (.invokevirtual 78, 3) := by decide +kernel
theorem dL_minutes_534 : decode cL_minutes 534 = .ok (.iconst 1, 1) := by decide +kernel
theorem dL_minutes_535 : decode cL_minutes 535 = .ok (.if_icmp .ne 56, 3) := by decide +kernel
theorem dL_minutes_538 : decode cL_minutes 538 = .ok (.aload_n 0, 1) := by decide +kernel
theorem dL_minutes_539 : decode cL_minutes 539 = .ok (.iload 15, 2) := by decide +kernel
theorem dL_minutes_541 : decode cL_minutes 541 = .ok (.iconst 1, 1) := by decide +kernel
theorem dL_minutes_542 : decode cL_minutes 542 = .ok (.invokevirtual 90, 3) := by decide +kernel
theorem dL_minutes_545 : decode cL_minutes 545 = .ok (.aload 4, 2) := by decide +kernel
theorem dL_minutes_547 : decode cL_minutes 547 = .ok (.iload 14, 2) := by decide +kernel
theorem dL_minutes_549 : decode cL_minutes 549 = .ok (.iaload, 1) := by decide +kernel
theorem dL_minutes_550 : decode cL_minutes 550 = .ok (.if_icmp .ne 37, 3) := by decide +kernel
theorem dL_minutes_553 : decode cL_minutes 553 = .ok (.aload_n 0, 1) := by decide +kernel
theorem dL_minutes_554 : decode cL_minutes 554 = .ok (.iload 15, 2) := by decide +kernel
theorem dL_minutes_556 : decode cL_minutes 556 = .ok (.iconst 2, 1) := by decide +kernel
theorem dL_minutes_557 : decode cL_minutes 557 = .ok (.invokevirtual 90, 3) := by decide +kernel
theorem dL_minutes_560 : decode cL_minutes 560 = .ok (.ifCond .ne 27, 3) := by decide +kernel
theorem dL_minutes_563 : decode cL_minutes 563 = .ok (.aload_n 0, 1) := by decide +kernel
theorem dL_minutes_564 : decode cL_minutes 564 = .ok (.iload 15, 2) := by decide +kernel
theorem dL_minutes_566 : decode cL_minutes 566 = .ok (.iconst 3, 1) := by decide +kernel
theorem dL_minutes_567 : decode cL_minutes 567 = .ok (.invokevirtual 90, 3) := by decide +kernel
theorem dL_minutes_570 : decode cL_minutes 570 = .ok (.ifCond .ne 17, 3) := by decide +kernel
theorem dL_minutes_573 : decode cL_minutes 573 = .ok (.aload_n 0, 1) := by decide +kernel
theorem dL_minutes_574 : decode cL_minutes 574 = .ok (.iload 15, 2) := by decide +kernel
theorem dL_minutes_576 : decode cL_minutes 576 = .ok (.iconst 4, 1) := by decide +kernel
theorem dL_minutes_577 : decode cL_minutes 577 = .ok (.invokevirtual 90, 3) := by decide +kernel
theorem dL_minutes_580 : decode cL_minutes 580 = .ok (.ifCond .ne 7, 3) := by decide +kernel
theorem dL_minutes_583 : decode cL_minutes 583 = .ok (.iconst 1, 1) := by decide +kernel
theorem dL_minutes_584 : decode cL_minutes 584 = .ok (.goto 44, 3) := by decide +kernel
theorem dL_minutes_587 : decode cL_minutes 587 = .ok (.iconst 0, 1) := by decide +kernel
theorem dL_minutes_588 : decode cL_minutes 588 = .ok (.goto 40, 3) := by decide +kernel
theorem dL_minutes_591 : decode cL_minutes 591 = .ok (.aload_n 0, 1) := by decide +kernel
theorem dL_minutes_592 : decode cL_minutes 592 = .ok (.iload 15, 2) := by decide +kernel
theorem dL_minutes_594 : decode cL_minutes 594 = .ok (.iconst 1, 1) := by decide +kernel
theorem dL_minutes_595 : decode cL_minutes 595 = .ok (.invokevirtual 90, 3) := by decide +kernel
theorem dL_minutes_598 : decode cL_minutes 598 = .ok (.iload 16, 2) := by decide +kernel
theorem dL_minutes_600 : decode cL_minutes 600 = .ok (.if_icmp .ne 27, 3) := by decide +kernel
theorem dL_minutes_603 : decode cL_minutes 603 = .ok (.aload_n 0, 1) := by decide +kernel
theorem dL_minutes_604 : decode cL_minutes 604 = .ok (.iload 15, 2) := by decide +kernel
theorem dL_minutes_606 : decode cL_minutes 606 = .ok (.iconst 2, 1) := by decide +kernel
theorem dL_minutes_607 : decode cL_minutes 607 = .ok (.invokevirtual 90, 3) := by decide +kernel
theorem dL_minutes_610 : decode cL_minutes 610 = .ok (.aload_n 0, 1) := by decide +kernel
theorem dL_minutes_611 : decode cL_minutes 611 = .ok (.aload 4, 2) := by decide +kernel
theorem dL_minutes_613 : decode cL_minutes 613 = .ok (.iload 14, 2) := by decide +kernel
theorem dL_minutes_615 : decode cL_minutes 615 = .ok (.iaload, 1) := by decide +kernel
theorem dL_minutes_616 : decode cL_minutes 616 = .ok (.iconst 0, 1) := by decide +kernel
theorem dL_minutes_617 : decode cL_minutes 617 = .ok (.invokevirtual 78, 3) := by decide +kernel
theorem dL_minutes_620 : decode cL_minutes 620 = .ok (.if_icmp .ne 7, 3) := by decide +kernel
theorem dL_minutes_623 : decode cL_minutes 623 = .ok (.iconst 1, 1) := by decide +kernel
theorem dL_minutes_624 : decode cL_minutes 624 = .ok (.goto 4, 3) := by decide +kernel
theorem dL_minutes_627 : decode cL_minutes 627 = .ok (.iconst 0, 1) := by decide +kernel
theorem dL_minutes_628 : decode cL_minutes 628 = .ok (.istore 10, 2) := by decide +kernel
theorem dL_minutes_630 : decode cL_minutes 630 = .ok (.goto 195, 3) := by decide +kernel
theorem dL_minutes_633 : decode cL_minutes 633 = .ok (.aload 7, 2) := by decide +kernel
theorem dL_minutes_635 : decode cL_minutes 635 = .ok (.iload 14, 2) := by decide +kernel
theorem dL_minutes_637 : decode cL_minutes 637 = .ok (.iaload, 1) := by decide +kernel
theorem dL_minutes_638 : decode cL_minutes 638 = .ok (.ifCond .le 72, 3) := by decide +kernel
theorem dL_minutes_641 : decode cL_minutes 641 = .ok (.aload_n 0, 1) := by decide +kernel
theorem dL_minutes_642 : decode cL_minutes 642 = .ok (.iload 15, 2) := by decide +kernel
theorem dL_minutes_644 : decode cL_minutes 644 = .ok (.iconst 1, 1) := by decide +kernel
theorem dL_minutes_645 : decode cL_minutes 645 = .ok (.invokevirtual 90, 3) := by decide +kernel
theorem dL_minutes_648 : decode cL_minutes 648 = .ok (.aload 4, 2) := by decide +kernel
theorem dL_minutes_650 : decode cL_minutes 650 = .ok (.iload 14, 2) := by decide +kernel
theorem dL_minutes_652 : decode cL_minutes 652 = .ok (.iaload, 1) := by decide +kernel
theorem dL_minutes_653 : decode cL_minutes 653 = .ok (.if_icmp .ne 51, 3) := by decide +kernel
theorem dL_minutes_656 : decode cL_minutes 656 = .ok (.aload_n 0, 1) := by decide +kernel
theorem dL_minutes_657 : decode cL_minutes 657 = .ok (.iload 15, 2) := by decide +kernel
theorem dL_minutes_659 : decode cL_minutes 659 = .ok (.iconst 2, 1) := by decide +kernel
theorem dL_minutes_660 : decode cL_minutes 660 = .ok (.invokevirtual 90, 3) := by decide +kernel
theorem dL_minutes_663 : decode cL_minutes 663 = .ok (.ifCond .ne 41, 3) := by decide +kernel
theorem dL_minutes_666 : decode cL_minutes 666 = .ok (.aload_n 0, 1) := by decide +kernel
theorem dL_minutes_667 : decode cL_minutes 667 = .ok (.iload 15, 2) := by decide +kernel
theorem dL_minutes_669 : decode cL_minutes 669 = .ok (.iconst 3, 1) := by decide +kernel
theorem dL_minutes_670 : decode cL_minutes 670 = .ok (.invokevirtual 90, 3) := by decide +kernel
theorem dL_minutes_673 : decode cL_minutes 673 = .ok (.aload 6, 2) := by decide +kernel
theorem dL_minutes_675 : decode cL_minutes 675 = .ok (.iload 14, 2) := by decide +kernel
theorem dL_minutes_677 : decode cL_minutes 677 = .ok (.iaload, 1) := by decide +kernel
theorem dL_minutes_678 : decode cL_minutes 678 = .ok (.iconst 1, 1) := by decide +kernel
theorem dL_minutes_679 : decode cL_minutes 679 = .ok (.iadd, 1) := by decide +kernel
theorem dL_minutes_680 : decode cL_minutes 680 = .ok (.if_icmp .ne 24, 3) := by decide +kernel
theorem dL_minutes_683 : decode cL_minutes 683 = .ok (.aload_n 0, 1) := by decide +kernel
theorem dL_minutes_684 : decode cL_minutes 684 = .ok (.iload 15, 2) := by decide +kernel
theorem dL_minutes_686 : decode cL_minutes 686 = .ok (.iconst 4, 1) := by decide +kernel
theorem dL_minutes_687 : decode cL_minutes 687 = .ok (.invokevirtual 90, 3) := by decide +kernel
theorem dL_minutes_690 : decode cL_minutes 690 = .ok (.aload 7, 2) := by decide +kernel
theorem dL_minutes_692 : decode cL_minutes 692 = .ok (.iload 14, 2) := by decide +kernel
theorem dL_minutes_694 : decode cL_minutes 694 = .ok (.iaload, 1) := by decide +kernel
theorem dL_minutes_695 : decode cL_minutes 695 = .ok (.iconst 1, 1) := by decide +kernel
theorem dL_minutes_696 : decode cL_minutes 696 = .ok (.isub, 1) := by decide +kernel
theorem dL_minutes_697 : decode cL_minutes 697 = .ok (.if_icmp .ne 7, 3) := by decide +kernel
theorem dL_minutes_700 : decode cL_minutes 700 = .ok (.iconst 1, 1) := by decide +kernel
theorem dL_minutes_701 : decode cL_minutes 701 = .ok (.goto 4, 3) := by decide +kernel
theorem dL_minutes_704 : decode cL_minutes 704 = .ok (.iconst 0, 1) := by decide +kernel
theorem dL_minutes_705 : decode cL_minutes 705 = .ok (.istore 10, 2) := by decide +kernel
theorem dL_minutes_707 : decode cL_minutes 707 = .ok (.goto 118, 3) := by decide +kernel
theorem dL_minutes_710 : decode cL_minutes 710 = .ok (.aload 8, 2) := by decide +kernel
theorem dL_minutes_712 : decode cL_minutes 712 = .ok (.aload 4, 2) := by decide +kernel
theorem dL_minutes_714 : decode cL_minutes 714 = .ok (.iload 14, 2) := by decide +kernel
theorem dL_minutes_716 : decode cL_minutes 716 = .ok (.iaload, 1) := by decide +kernel
theorem dL_minutes_717 : decode cL_minutes 717 = .ok (.iaload, 1) := by decide +kernel
theorem dL_minutes_718 : decode cL_minutes 718 = .ok (.bipush 6, 2) := by decide +kernel
theorem dL_minutes_720 : decode cL_minutes 720 = .ok (.if_icmp .ne 49, 3) := by decide +kernel
theorem dL_minutes_723 : decode cL_minutes 723 = .ok (.aload_n 0, 1) := by decide +kernel
theorem dL_minutes_724 : decode cL_minutes 724 = .ok (.iload 15, 2) := by decide +kernel
theorem dL_minutes_726 : decode cL_minutes 726 = .ok (.iconst 4, 1) := by decide +kernel
theorem dL_minutes_727 : decode cL_minutes 727 = .ok (.invokevirtual 90, 3) := by decide +kernel
theorem dL_minutes_730 : decode cL_minutes 730 = .ok (.aload_n 0, 1) := by decide +kernel
theorem dL_minutes_731 : decode cL_minutes 731 = .ok (.aload 4, 2) := by decide +kernel
theorem dL_minutes_733 : decode cL_minutes 733 = .ok (.iload 14, 2) := by decide +kernel
theorem dL_minutes_735 : decode cL_minutes 735 = .ok (.iaload, 1) := by decide +kernel
theorem dL_minutes_736 : decode cL_minutes 736 = .ok (.iconst 0, 1) := by decide +kernel
theorem dL_minutes_737 : decode cL_minutes 737 = .ok (.iconst 1, 1) := by decide +kernel
theorem dL_minutes_738 : decode cL_minutes 738 = .ok (.invokevirtual 82, 3) := by decide +kernel
theorem dL_minutes_741 : decode cL_minutes 741 = .ok (.if_icmp .ne 22, 3) := by decide +kernel
theorem dL_minutes_744 : decode cL_minutes 744 = .ok (.aload_n 0, 1) := by decide +kernel
theorem dL_minutes_745 : decode cL_minutes 745 = .ok (.iload 15, 2) := by decide +kernel
theorem dL_minutes_747 : decode cL_minutes 747 = .ok (.iconst 3, 1) := by decide +kernel
theorem dL_minutes_748 : decode cL_minutes 748 = .ok (.invokevirtual 90, 3) := by decide +kernel
theorem dL_minutes_751 : decode cL_minutes 751 = .ok (.aload 6, 2) := by decide +kernel
theorem dL_minutes_753 : decode cL_minutes 753 = .ok (.iload 14, 2) := by decide +kernel
theorem dL_minutes_755 : decode cL_minutes 755 = .ok (.iaload, 1) := by decide +kernel
theorem dL_minutes_756 : decode cL_minutes 756 = .ok (.if_icmp .ne 7, 3) := by decide +kernel
theorem dL_minutes_759 : decode cL_minutes 759 = .ok (.iconst 1, 1) := by decide +kernel
theorem dL_minutes_760 : decode cL_minutes 760 = .ok (.goto 4, 3) := by decide +kernel
theorem dL_minutes_763 : decode cL_minutes 763 = .ok (.iconst 0, 1) := by decide +kernel
theorem dL_minutes_764 : decode cL_minutes 764 = .ok (.istore 10, 2) := by decide +kernel
theorem dL_minutes_766 : decode cL_minutes 766 = .ok (.goto 59, 3) := by decide +kernel
theorem dL_minutes_769 : decode cL_minutes 769 = .ok (.iload 12, 2) := by decide +kernel
theorem dL_minutes_771 : decode cL_minutes 771 = .ok (.ifCond .eq 15, 3) := by decide +kernel
theorem dL_minutes_774 : decode cL_minutes 774 = .ok (.aload 8, 2) := by decide +kernel
theorem dL_minutes_776 : decode cL_minutes 776 = .ok (.aload 4, 2) := by decide +kernel
theorem dL_minutes_778 : decode cL_minutes 778 = .ok (.iload 14, 2) := by decide +kernel
theorem dL_minutes_780 : decode cL_minutes 780 = .ok (.iaload, 1) := by decide +kernel
theorem dL_minutes_781 : decode cL_minutes 781 = .ok (.iaload, 1) := by decide +kernel
theorem dL_minutes_782 : decode cL_minutes 782 = .ok (.iconst 5, 1) := by decide +kernel
theorem dL_minutes_783 : decode cL_minutes 783 = .ok (.if_icmp .eq 35, 3) := by decide +kernel
theorem dL_minutes_786 : decode cL_minutes 786 = .ok (.aload_n 0, 1) := by decide +kernel
theorem dL_minutes_787 : decode cL_minutes 787 = .ok (.iload 15, 2) := by decide +kernel
theorem dL_minutes_789 : decode cL_minutes 789 = .ok (.iconst 1, 1) := by decide +kernel
theorem dL_minutes_790 : decode cL_minutes 790 = .ok (.invokevirtual 90, 3) := by decide +kernel
theorem dL_minutes_793 : decode cL_minutes 793 = .ok (.iload 16, 2) := by decide +kernel
theorem dL_minutes_795 : decode cL_minutes 795 = .ok (.if_icmp .ne 27, 3) := by decide +kernel
theorem dL_minutes_798 : decode cL_minutes 798 = .ok (.aload_n 0, 1) := by decide +kernel
theorem dL_minutes_799 : decode cL_minutes 799 = .ok (.iload 15, 2) := by decide +kernel
theorem dL_minutes_801 : decode cL_minutes 801 = .ok (.iconst 2, 1) := by decide +kernel
theorem dL_minutes_802 : decode cL_minutes 802 = .ok (.invokevirtual 90, 3) := by decide +kernel
theorem dL_minutes_805 : decode cL_minutes 805 = .ok (.aload_n 0, 1) := by decide +kernel
theorem dL_minutes_806 : decode cL_minutes 806 = .ok (.aload 4, 2) := by decide +kernel
theorem dL_minutes_808 : decode cL_minutes 808 = .ok (.iload 14, 2) := by decide +kernel
theorem dL_minutes_810 : decode cL_minutes 810 = .ok (.iaload, 1) := by decide +kernel
theorem dL_minutes_811 : decode cL_minutes 811 = .ok (.iconst 0, 1) := by decide +kernel
theorem dL_minutes_812 : decode cL_minutes 812 = .ok (.invokevirtual 78, 3) := by decide +kernel
theorem dL_minutes_815 : decode cL_minutes 815 = .ok (.if_icmp .ne 7, 3) := by decide +kernel
theorem dL_minutes_818 : decode cL_minutes 818 = .ok (.iconst 1, 1) := by decide +kernel
theorem dL_minutes_819 : decode cL_minutes 819 = .ok (.goto 4, 3) := by decide +kernel
theorem dL_minutes_822 : decode cL_minutes 822 = .ok (.iconst 0, 1) := by decide +kernel
theorem dL_minutes_823 : decode cL_minutes 823 = .ok (.istore 10, 2) := by decide +kernel
theorem dL_minutes_825 : decode cL_minutes 825 = .ok (.iinc 14 1, 3) := by decide +kernel
theorem dL_minutes_828 : decode cL_minutes 828 = .ok (.goto (-474), 3) := by decide +kernel
theorem dL_minutes_831 : decode cL_minutes 831 = .ok (.iload 10, 2) := by decide +kernel
theorem dL_minutes_833 : decode cL_minutes 833 = .ok (.ifCond .eq 130, 3) := by decide +kernel
theorem dL_minutes_836 : decode cL_minutes 836 = .ok (.aload_n 0, 1) := by decide +kernel
theorem dL_minutes_837 : decode cL_minutes 837 = .ok (.bipush 18, 2) := by decide +kernel
theorem dL_minutes_839 : decode cL_minutes 839 = .ok (.invokevirtual 73, 3) := by decide +kernel
theorem dL_minutes_842 : decode cL_minutes 842 = .ok (.aload 9, 2) := by decide +kernel
theorem dL_minutes_844 : decode cL_minutes 844 = .ok (.iconst 3, 1) := by decide +kernel
theorem dL_minutes_845 : decode cL_minutes 845 = .ok (.iaload, 1) := by decide +kernel
theorem dL_minutes_846 : decode cL_minutes 846 = .ok (.iload 13, 2) := by decide +kernel
theorem dL_minutes_848 : decode cL_minutes 848 = .ok (.iadd, 1) := by decide +kernel
theorem dL_minutes_849 : decode cL_minutes 849 = .ok (.if_icmp .ne 114, 3) := by decide +kernel
theorem dL_minutes_852 : decode cL_minutes 852 = .ok (.aload_n 0, 1) := by decide +kernel
theorem dL_minutes_853 : decode cL_minutes 853 = .ok (.bipush 11, 2) := by decide +kernel
theorem dL_minutes_855 : decode cL_minutes 855 = .ok (.invokevirtual 73, 3) := by decide +kernel
theorem dL_minutes_858 : decode cL_minutes 858 = .ok (.aload 9, 2) := by decide +kernel
theorem dL_minutes_860 : decode cL_minutes 860 = .ok (.iconst 1, 1) := by decide +kernel
theorem dL_minutes_861 : decode cL_minutes 861 = .ok (.iaload, 1) := by decide +kernel
theorem dL_minutes_862 : decode cL_minutes 862 = .ok (.aload 11, 2) := by decide +kernel
theorem dL_minutes_864 : decode cL_minutes 864 = .ok (.iconst 0, 1) := by decide +kernel
theorem dL_minutes_865 : decode cL_minutes 865 = .ok (.iaload, 1) := by decide +kernel
theorem dL_minutes_866 : decode cL_minutes 866 = .ok (.iadd, 1) := by decide +kernel
theorem dL_minutes_867 : decode cL_minutes 867 = .ok (.if_icmp .ne 96, 3) := by decide +kernel
theorem dL_minutes_870 : decode cL_minutes 870 = .ok (.aload_n 0, 1) := by decide +kernel
theorem dL_minutes_871 : decode cL_minutes 871 = .ok (.bipush 12, 2) := by decide +kernel
theorem dL_minutes_873 : decode cL_minutes 873 = .ok (.invokevirtual 73, 3) := by decide +kernel
theorem dL_minutes_876 : decode cL_minutes 876 = .ok (.aload 9, 2) := by decide +kernel
theorem dL_minutes_878 : decode cL_minutes 878 = .ok (.iconst 2, 1) := by decide +kernel
theorem dL_minutes_879 : decode cL_minutes 879 = .ok (.iaload, 1) := by decide +kernel
theorem dL_minutes_880 : decode cL_minutes 880 = .ok (.aload 11, 2) := by decide +kernel
theorem dL_minutes_882 : decode cL_minutes 882 = .ok (.iconst 1, 1) := by decide +kernel
theorem dL_minutes_883 : decode cL_minutes 883 = .ok (.iaload, 1) := by decide +kernel
theorem dL_minutes_884 : decode cL_minutes 884 = .ok (.iadd, 1) := by decide +kernel
theorem dL_minutes_885 : decode cL_minutes 885 = .ok (.if_icmp .ne 78, 3) := by decide +kernel
theorem dL_minutes_888 : decode cL_minutes 888 = .ok (.aload 11, 2) := by decide +kernel
theorem dL_minutes_890 : decode cL_minutes 890 = .ok (.iconst 2, 1) := by decide +kernel
theorem dL_minutes_891 : decode cL_minutes 891 = .ok (.iaload, 1) := by decide +kernel
theorem dL_minutes_892 : decode cL_minutes 892 = .ok (.iload 13, 2) := by decide +kernel
theorem dL_minutes_894 : decode cL_minutes 894 = .ok (.if_icmp .ne 69, 3) := by decide +kernel
theorem dL_minutes_897 : decode cL_minutes 897 = .ok (.aload 11, 2) := by decide +kernel
theorem dL_minutes_899 : decode cL_minutes 899 = .ok (.iconst 3, 1) := by decide +kernel
theorem dL_minutes_900 : decode cL_minutes 900 = .ok (.iaload, 1) := by decide +kernel
theorem dL_minutes_901 : decode cL_minutes 901 = .ok (.aload_n 0, 1) := by decide +kernel
theorem dL_minutes_902 : decode cL_minutes 902 = .ok (.bipush 6, 2) := by decide +kernel
theorem dL_minutes_904 : decode cL_minutes 904 = .ok (.invokevirtual 73, 3) := by decide +kernel
theorem dL_minutes_907 : decode cL_minutes 907 = .ok (.if_icmp .ne 56, 3) := by decide +kernel
theorem dL_minutes_910 : decode cL_minutes 910 = .ok (.aload_n 0, 1) := by decide +kernel
theorem dL_minutes_911 : decode cL_minutes 911 = .ok (.bipush 17, 2) := by decide +kernel
theorem dL_minutes_913 : decode cL_minutes 913 = .ok (.invokevirtual 73, 3) := by decide +kernel
theorem dL_minutes_916 : decode cL_minutes 916 = .ok (.aload 9, 2) := by decide +kernel
theorem dL_minutes_918 : decode cL_minutes 918 = .ok (.bipush 6, 2) := by decide +kernel
theorem dL_minutes_920 : decode cL_minutes 920 = .ok (.iaload, 1) := by decide +kernel
theorem dL_minutes_921 : decode cL_minutes 921 = .ok (.aload 11, 2) := by decide +kernel
theorem dL_minutes_923 : decode cL_minutes 923 = .ok (.iconst 4, 1) := by decide +kernel
theorem dL_minutes_924 : decode cL_minutes 924 = .ok (.iaload, 1) := by decide +kernel
theorem dL_minutes_925 : decode cL_minutes 925 = .ok (.iadd, 1) := by decide +kernel
theorem dL_minutes_926 : decode cL_minutes 926 = .ok (.if_icmp .ne 37, 3) := by decide +kernel
theorem dL_minutes_929 : decode cL_minutes 929 = .ok (.aload_n 0, 1) := by decide +kernel
theorem dL_minutes_930 : decode cL_minutes 930 = .ok (.bipush 14, 2) := by decide +kernel
theorem dL_minutes_932 : decode cL_minutes 932 = .ok (.invokevirtual 73, 3) := by decide +kernel
theorem dL_minutes_935 : decode cL_minutes 935 = .ok (.aload 9, 2) := by decide +kernel
theorem dL_minutes_937 : decode cL_minutes 937 = .ok (.iconst 4, 1) := by decide +kernel
theorem dL_minutes_938 : decode cL_minutes 938 = .ok (.iaload, 1) := by decide +kernel
theorem dL_minutes_939 : decode cL_minutes 939 = .ok (.aload 11, 2) := by decide +kernel
theorem dL_minutes_941 : decode cL_minutes 941 = .ok (.iconst 5, 1) := by decide +kernel
theorem dL_minutes_942 : decode cL_minutes 942 = .ok (.iaload, 1) := by decide +kernel
theorem dL_minutes_943 : decode cL_minutes 943 = .ok (.iadd, 1) := by decide +kernel
theorem dL_minutes_944 : decode cL_minutes 944 = .ok (.if_icmp .ne 19, 3) := by decide +kernel
theorem dL_minutes_947 : decode cL_minutes 947 = .ok (.iload_n 2, 1) := by decide +kernel
theorem dL_minutes_948 : decode cL_minutes 948 = .ok (.iconst 1, 1) := by decide +kernel
theorem dL_minutes_949 : decode cL_minutes 949 = .ok (.if_icmp .ne 10, 3) := by decide +kernel
theorem dL_minutes_952 : decode cL_minutes 952 = .ok (.aload 11, 2) := by decide +kernel
theorem dL_minutes_954 : decode cL_minutes 954 = .ok (.iconst 4, 1) := by decide +kernel
theorem dL_minutes_955 : decode cL_minutes 955 = .ok (.iaload, 1) := by decide +kernel
theorem dL_minutes_956 : decode cL_minutes 956 = .ok (.ifCond .ne 7, 3) := by decide +kernel
theorem dL_minutes_959 : decode cL_minutes 959 = .ok (.iconst 1, 1) := by decide +kernel
theorem dL_minutes_960 : decode cL_minutes 960 = .ok (.goto 4, 3) := by decide +kernel
theorem dL_minutes_963 : decode cL_minutes 963 = .ok (.iconst 0, 1) := by decide +kernel
theorem dL_minutes_964 : decode cL_minutes 964 = .ok (.istore 10, 2) := by decide +kernel
theorem dL_minutes_966 : decode cL_minutes 966 = .ok (.iload_n 2, 1) := by decide +kernel
theorem dL_minutes_967 : decode cL_minutes 967 = .ok (.ifCond .ne 127, 3) := by decide +kernel
theorem dL_minutes_970 : decode cL_minutes 970 = .ok (.aload 9, 2) := by decide +kernel
theorem dL_minutes_972 : decode cL_minutes 972 = .ok (.bipush 7, 2) := by decide +kernel
theorem dL_minutes_974 : decode cL_minutes 974 = .ok (.iaload, 1) := by decide +kernel
theorem dL_minutes_975 : decode cL_minutes 975 = .ok (.iconst 1, 1) := by decide +kernel
theorem dL_minutes_976 : decode cL_minutes 976 = .ok (.iadd, 1) := by decide +kernel
theorem dL_minutes_977 : decode cL_minutes 977 = .ok (.aload_n 0, 1) := by decide +kernel
theorem dL_minutes_978 : decode cL_minutes 978 = .ok (.iconst 1, 1) := by decide +kernel
theorem dL_minutes_979 : decode cL_minutes 979 = .ok (.invokevirtual 73, 3) := by decide +kernel
theorem dL_minutes_982 : decode cL_minutes 982 = .ok (.if_icmp .lt 74, 3) := by decide +kernel
theorem dL_minutes_985 : decode cL_minutes 985 = .ok (.aload_n 0, 1) := by decide +kernel
theorem dL_minutes_986 : decode cL_minutes 986 = .ok (.invokevirtual 105, 3) := by decide +kernel
theorem dL_minutes_989 : decode cL_minutes 989 = .ok (.ifCond .lt 67, 3) := by decide +kernel
theorem dL_minutes_992 : decode cL_minutes 992 = .ok (.iload 10, 2) := by decide +kernel
theorem dL_minutes_994 : decode cL_minutes 994 = .ok (.ifCond .eq 56, 3) := by decide +kernel
theorem dL_minutes_997 : decode cL_minutes 997 = .ok (.aload 11, 2) := by decide +kernel
theorem dL_minutes_999 : decode cL_minutes 999 = .ok (.iconst 5, 1) := by decide +kernel
theorem dL_minutes_1000 : decode cL_minutes 1000 = .ok (.iaload, 1) := by decide +kernel
theorem dL_minutes_1001 : decode cL_minutes 1001 = .ok (.iconst 1, 1) := by decide +kernel
theorem dL_minutes_1002 : decode cL_minutes 1002 = .ok (.if_icmp .ne 48, 3) := by decide +kernel
theorem dL_minutes_1005 : decode cL_minutes 1005 = .ok (.aload_n 0, 1) := by decide +kernel
theorem dL_minutes_1006 : decode cL_minutes 1006 = .ok (.bipush 6, 2) := by decide +kernel
theorem dL_minutes_1008 : decode cL_minutes 1008 = .ok (.invokevirtual 73, 3) := by decide +kernel
theorem dL_minutes_1011 : decode cL_minutes 1011 = .ok (.iconst 1, 1) := by decide +kernel
theorem dL_minutes_1012 : decode cL_minutes 1012 = .ok (.if_icmp .ne 38, 3) := by decide +kernel
theorem dL_minutes_1015 : decode cL_minutes 1015 = .ok (.aload_n 0, 1) := by decide +kernel
theorem dL_minutes_1016 : decode cL_minutes 1016 = .ok (.iconst 0, 1) := by decide +kernel
theorem dL_minutes_1017 : decode cL_minutes 1017 = .ok (.iconst 1, 1) := by decide +kernel
theorem dL_minutes_1018 : decode cL_minutes 1018 = .ok (.invokevirtual 90, 3) := by decide +kernel
theorem dL_minutes_1021 : decode cL_minutes 1021 = .ok (.aload_n 0, 1) := by decide +kernel
theorem dL_minutes_1022 : decode cL_minutes 1022 = .ok (.invokevirtual 105, 3) := by decide +kernel
theorem dL_minutes_1025 : decode cL_minutes 1025 = .ok (.if_icmp .ne 25, 3) := by decide +kernel
theorem dL_minutes_1028 : decode cL_minutes 1028 = .ok (.aload_n 0, 1) := by decide +kernel
theorem dL_minutes_1029 : decode cL_minutes 1029 = .ok (.iconst 0, 1) := by decide +kernel
theorem dL_minutes_1030 : decode cL_minutes 1030 = .ok (.iconst 2, 1) := by decide +kernel
theorem dL_minutes_1031 : decode cL_minutes 1031 = .ok (.invokevirtual 90, 3) := by decide +kernel
theorem dL_minutes_1034 : decode cL_minutes 1034 = .ok (.ifCond .ne 16, 3) := by decide +kernel
theorem dL_minutes_1037 : decode cL_minutes 1037 = .ok (.aload_n 0, 1) := by decide +kernel
theorem dL_minutes_1038 : decode cL_minutes 1038 = .ok (.bipush 7, 2) := by decide +kernel
theorem dL_minutes_1040 : decode cL_minutes 1040 = .ok (.invokevirtual 73, 3) := by decide +kernel
theorem dL_minutes_1043 : decode cL_minutes 1043 = .ok (.ifCond .ne 7, 3) := by decide +kernel
theorem dL_minutes_1046 : decode cL_minutes 1046 = .ok (.iconst 1, 1) := by decide +kernel
theorem dL_minutes_1047 : decode cL_minutes 1047 = .ok (.goto 4, 3) := by decide +kernel
theorem dL_minutes_1050 : decode cL_minutes 1050 = .ok (.iconst 0, 1) := by decide +kernel
theorem dL_minutes_1051 : decode cL_minutes 1051 = .ok (.istore 10, 2) := by decide +kernel
theorem dL_minutes_1053 : decode cL_minutes 1053 = .ok (.goto 69, 3) := by decide +kernel
theorem dL_minutes_1056 : decode cL_minutes 1056 = .ok (.iload 10, 2) := by decide +kernel
theorem dL_minutes_1058 : decode cL_minutes 1058 = .ok (.ifCond .eq 30, 3) := by decide +kernel
theorem dL_minutes_1061 : decode cL_minutes 1061 = .ok (.aload 11, 2) := by decide +kernel
theorem dL_minutes_1063 : decode cL_minutes 1063 = .ok (.iconst 5, 1) := by decide +kernel
theorem dL_minutes_1064 : decode cL_minutes 1064 = .ok (.iaload, 1) := by decide +kernel
theorem dL_minutes_1065 : decode cL_minutes 1065 = .ok (.ifCond .ne 23, 3) := by decide +kernel
theorem dL_minutes_1068 : decode cL_minutes 1068 = .ok (.aload_n 0, 1) := by decide +kernel
theorem dL_minutes_1069 : decode cL_minutes 1069 = .ok (.bipush 7, 2) := by decide +kernel
theorem dL_minutes_1071 : decode cL_minutes 1071 = .ok (.invokevirtual 73, 3) := by decide +kernel
theorem dL_minutes_1074 : decode cL_minutes 1074 = .ok (.aload 9, 2) := by decide +kernel
theorem dL_minutes_1076 : decode cL_minutes 1076 = .ok (.bipush 7, 2) := by decide +kernel
theorem dL_minutes_1078 : decode cL_minutes 1078 = .ok (.iaload, 1) := by decide +kernel
theorem dL_minutes_1079 : decode cL_minutes 1079 = .ok (.iconst 1, 1) := by decide +kernel
theorem dL_minutes_1080 : decode cL_minutes 1080 = .ok (.iadd, 1) := by decide +kernel
theorem dL_minutes_1081 : decode cL_minutes 1081 = .ok (.if_icmp .ne 7, 3) := by decide +kernel
theorem dL_minutes_1084 : decode cL_minutes 1084 = .ok (.iconst 1, 1) := by decide +kernel
theorem dL_minutes_1085 : decode cL_minutes 1085 = .ok (.goto 4, 3) := by decide +kernel
theorem dL_minutes_1088 : decode cL_minutes 1088 = .ok (.iconst 0, 1) := by decide +kernel
theorem dL_minutes_1089 : decode cL_minutes 1089 = .ok (.istore 10, 2) := by decide +kernel
theorem dL_minutes_1091 : decode cL_minutes 1091 = .ok (.goto 31, 3) := by decide +kernel
theorem dL_minutes_1094 : decode cL_minutes 1094 = .ok (.iload 10, 2) := by decide +kernel
theorem dL_minutes_1096 : decode cL_minutes 1096 = .ok (.ifCond .eq 23, 3) := by decide +kernel
theorem dL_minutes_1099 : decode cL_minutes 1099 = .ok (.aload_n 0, 1) := by decide +kernel
theorem dL_minutes_1100 : decode cL_minutes 1100 = .ok (.bipush 7, 2) := by decide +kernel
theorem dL_minutes_1102 : decode cL_minutes 1102 = .ok (.invokevirtual 73, 3) := by decide +kernel
theorem dL_minutes_1105 : decode cL_minutes 1105 = .ok (.ifCond .ne 14, 3) := by decide +kernel
theorem dL_minutes_1108 : decode cL_minutes 1108 = .ok (.aload 11, 2) := by decide +kernel
theorem dL_minutes_1110 : decode cL_minutes 1110 = .ok (.iconst 5, 1) := by decide +kernel
theorem dL_minutes_1111 : decode cL_minutes 1111 = .ok (.iaload, 1) := by decide +kernel
theorem dL_minutes_1112 : decode cL_minutes 1112 = .ok (.ifCond .ne 7, 3) := by decide +kernel
theorem dL_minutes_1115 : decode cL_minutes 1115 = .ok (.iconst 1, 1) := by decide +kernel
theorem dL_minutes_1116 : decode cL_minutes 1116 = .ok (.goto 4, 3) := by decide +kernel
theorem dL_minutes_1119 : decode cL_minutes 1119 = .ok (.iconst 0, 1) := by decide +kernel
theorem dL_minutes_1120 : decode cL_minutes 1120 = .ok (.istore 10, 2) := by decide +kernel
theorem dL_minutes_1122 : decode cL_minutes 1122 = .ok (.iload 10, 2) := by decide +kernel
theorem dL_minutes_1124 : decode cL_minutes 1124 = .ok (.ifCond .eq 14, 3) := by decide +kernel
theorem dL_minutes_1127 : decode cL_minutes 1127 = .ok (.aload_n 0, 1) := by decide +kernel
theorem dL_minutes_1128 : decode cL_minutes 1128 = .ok (.invokevirtual 126, 3) := by decide +kernel
theorem dL_minutes_1131 : decode cL_minutes 1131 = .ok (.ifCond .lt 7, 3) := by decide +kernel
theorem dL_minutes_1134 : decode cL_minutes 1134 = .ok (.iconst 1, 1) := by decide +kernel
theorem dL_minutes_1135 : decode cL_minutes 1135 = .ok (.goto 4, 3) := by decide +kernel
theorem dL_minutes_1138 : decode cL_minutes 1138 = .ok (.iconst 0, 1) := by decide +kernel
theorem dL_minutes_1139 : decode cL_minutes 1139 = .ok (.ireturn, 1) := by decide +kernel
theorem dL_would_0 : decode cL_would 0 = .ok (.aload_n 0, 1) := by decide +kernel
theorem dL_would_1 : decode cL_would 1 = .ok (.invokestatic 129, 3) := by decide +kernel
theorem dL_would_4 : decode cL_would 4 = .ok (.lstore_n 3, 1) := by decide +kernel
theorem dL_would_5 : decode cL_would 5 = .ok (.aload_n 0, 1) := by decide +kernel
theorem dL_would_6 : decode cL_would 6 = .ok (.iconst 4, 1) := by decide +kernel
theorem dL_would_7 : decode cL_would 7 = .ok (.invokevirtual 73, 3) := by decide +kernel
theorem dL_would_10 : decode cL_would 10 = .ok (.istore 5, 2) := by decide +kernel
theorem dL_would_12 : decode cL_would 12 = .ok (.iconst 1, 1) := by decide +kernel
theorem dL_would_13 : decode cL_would 13 = .ok (.iload_n 1, 1) := by decide +kernel
theorem dL_would_14 : decode cL_would 14 = .ok (.sipush 255, 3) := by decide +kernel
theorem dL_would_17 : decode cL_would 17 = .ok (.iand, 1) := by decide +kernel
theorem dL_would_18 : decode cL_would 18 = .ok (.bipush 60, 2) := by decide +kernel
theorem dL_would_20 : decode cL_would 20 = .ok (.irem, 1) := by decide +kernel
theorem dL_would_21 : decode cL_would 21 = .ok (.iadd, 1) := by decide +kernel
theorem dL_would_22 : decode cL_would 22 = .ok (.istore 6, 2) := by decide +kernel
theorem dL_would_24 : decode cL_would 24 = .ok (.iload_n 1, 1) := by decide +kernel
theorem dL_would_25 : decode cL_would 25 = .ok (.bipush 6, 2) := by decide +kernel
theorem dL_would_27 : decode cL_would 27 = .ok (.ishr, 1) := by decide +kernel
theorem dL_would_28 : decode cL_would 28 = .ok (.sipush 255, 3) := by decide +kernel
theorem dL_would_31 : decode cL_would 31 = .ok (.iand, 1) := by decide +kernel
theorem dL_would_32 : decode cL_would 32 = .ok (.bipush 6, 2) := by decide +kernel
theorem dL_would_34 : decode cL_would 34 = .ok (.irem, 1) := by decide +kernel
theorem dL_would_35 : decode cL_would 35 = .ok (.istore 7, 2) := by decide +kernel
theorem dL_would_37 : decode cL_would 37 = .ok (.bipush 6, 2) := by decide +kernel
theorem dL_would_39 : decode cL_would 39 = .ok (.newarray .int, 2) := by decide +kernel
theorem dL_would_41 : decode cL_would 41 = .ok (.dup, 1) := by decide +kernel
theorem dL_would_42 : decode cL_would 42 = .ok (.iconst 0, 1) := by decide +kernel
theorem dL_would_43 : decode cL_would 43 = .ok (.aload_n 0, 1) := by decide +kernel
theorem dL_would_44 : decode cL_would 44 = .ok (.bipush 11, 2) := by decide +kernel
theorem dL_would_46 : decode cL_would 46 = .ok (.invokevirtual 73, 3) := by decide +kernel
theorem dL_would_49 : decode cL_would 49 = .ok (.iastore, 1) := by decide +kernel
theorem dL_would_50 : decode cL_would 50 = .ok (.dup, 1) := by decide +kernel
theorem dL_would_51 : decode cL_would 51 = .ok (.iconst 1, 1) := by decide +kernel
theorem dL_would_52 : decode cL_would 52 = .ok (.aload_n 0, 1) := by decide +kernel
theorem dL_would_53 : decode cL_would 53 = .ok (.bipush 12, 2) := by decide +kernel
theorem dL_would_55 : decode cL_would 55 = .ok (.invokevirtual 73, 3) := by decide +kernel
theorem dL_would_58 : decode cL_would 58 = .ok (.iastore, 1) := by decide +kernel
theorem dL_would_59 : decode cL_would 59 = .ok (.dup, 1) := by decide +kernel
theorem dL_would_60 : decode cL_would 60 = .ok (.iconst 2, 1) := by decide +kernel
theorem dL_would_61 : decode cL_would 61 = .ok (.aload_n 0, 1) := by decide +kernel
theorem dL_would_62 : decode cL_would 62 = .ok (.bipush 18, 2) := by decide +kernel
theorem dL_would_64 : decode cL_would 64 = .ok (.invokevirtual 73, 3) := by decide +kernel
theorem dL_would_67 : decode cL_would 67 = .ok (.iastore, 1) := by decide +kernel
theorem dL_would_68 : decode cL_would 68 = .ok (.dup, 1) := by decide +kernel
theorem dL_would_69 : decode cL_would 69 = .ok (.iconst 3, 1) := by decide +kernel
theorem dL_would_70 : decode cL_would 70 = .ok (.iconst 0, 1) := by decide +kernel
theorem dL_would_71 : decode cL_would 71 = .ok (.iastore, 1) := by decide +kernel
theorem dL_would_72 : decode cL_would 72 = .ok (.dup, 1) := by decide +kernel
theorem dL_would_73 : decode cL_would 73 = .ok (.iconst 4, 1) := by decide +kernel
theorem dL_would_74 : decode cL_would 74 = .ok (.aload_n 0, 1) := by decide +kernel
theorem dL_would_75 : decode cL_would 75 = .ok (.bipush 17, 2) := by decide +kernel
theorem dL_would_77 : decode cL_would 77 = .ok (.invokevirtual 73, 3) := by decide +kernel
theorem dL_would_80 : decode cL_would 80 = .ok (.iastore, 1) := by decide +kernel
theorem dL_would_81 : decode cL_would 81 = .ok (.dup, 1) := by decide +kernel
theorem dL_would_82 : decode cL_would 82 = .ok (.iconst 5, 1) := by decide +kernel
theorem dL_would_83 : decode cL_would 83 = .ok (.aload_n 0, 1) := by decide +kernel
theorem dL_would_84 : decode cL_would 84 = .ok (.bipush 14, 2) := by decide +kernel
theorem dL_would_86 : decode cL_would 86 = .ok (.invokevirtual 73, 3) := by decide +kernel
theorem dL_would_89 : decode cL_would 89 = .ok (.iastore, 1) := by decide +kernel
theorem dL_would_90 : decode cL_would 90 = .ok (.astore 8, 2) := by decide +kernel
theorem dL_would_92 : decode cL_would 92 = .ok (.aload_n 0, 1) := by decide +kernel
theorem dL_would_93 : decode cL_would 93 = .ok (.iload 6, 2) := by decide +kernel
theorem dL_would_95 : decode cL_would 95 = .ok (.iload 7, 2) := by decide +kernel
theorem dL_would_97 : decode cL_would 97 = .ok (.invokevirtual 116, 3) := by decide +kernel
theorem dL_would_100 : decode cL_would 100 = .ok (.istore 9, 2) := by decide +kernel
theorem dL_would_102 : decode cL_would 102 = .ok (.aload_n 0, 1) := by decide +kernel
theorem dL_would_103 : decode cL_would 103 = .ok (.iload 6, 2) := by decide +kernel
theorem dL_would_105 : decode cL_would 105 = .ok (.invokevirtual 123, 3) := by decide +kernel
theorem dL_would_108 : decode cL_would 108 = .ok (.ifCond .lt 7, 3) := by decide +kernel
theorem dL_would_111 : decode cL_would 111 = .ok (.iconst 1, 1) := by decide +kernel
theorem dL_would_112 : decode cL_would 112 = .ok (.goto 4, 3) := by decide +kernel
theorem dL_would_115 : decode cL_would 115 = .ok (.iconst 0, 1) := by decide +kernel
theorem dL_would_116 : decode cL_would 116 = .ok (.istore 10, 2) := by decide +kernel
theorem dL_would_118 : decode cL_would 118 = .ok (.bipush 6, 2) := by decide +kernel
theorem dL_would_120 : decode cL_would 120 = .ok (.newarray .int, 2) := by decide +kernel
theorem dL_would_122 : decode cL_would 122 = .ok (.dup, 1) := by decide +kernel
theorem dL_would_123 : decode cL_would 123 = .ok (.iconst 0, 1) := by decide +kernel
theorem dL_would_124 : decode cL_would 124 = .ok (.aload_n 0, 1) := by decide +kernel
theorem dL_would_125 : decode cL_would 125 = .ok (.bipush 11, 2) := by decide +kernel
theorem dL_would_127 : decode cL_would 127 = .ok (.invokevirtual 73, 3) := by decide +kernel
theorem dL_would_130 : decode cL_would 130 = .ok (.iastore, 1) := by decide +kernel
theorem dL_would_131 : decode cL_would 131 = .ok (.dup, 1) := by decide +kernel
theorem dL_would_132 : decode cL_would 132 = .ok (.iconst 1, 1) := by decide +kernel
theorem dL_would_133 : decode cL_would 133 = .ok (.aload_n 0, 1) := by decide +kernel
theorem dL_would_134 : decode cL_would 134 = .ok (.bipush 12, 2) := by decide +kernel
theorem dL_would_136 : decode cL_would 136 = .ok (.invokevirtual 73, 3) := by decide +kernel
theorem dL_would_139 : decode cL_would 139 = .ok (.iastore, 1) := by decide +kernel
theorem dL_would_140 : decode cL_would 140 = .ok (.dup, 1) := by decide +kernel
theorem dL_would_141 : decode cL_would 141 = .ok (.iconst 2, 1) := by decide +kernel
theorem dL_would_142 : decode cL_would 142 = .ok (.aload_n 0, 1) := by decide +kernel
theorem dL_would_143 : decode cL_would 143 = .ok (.bipush 18, 2) := by decide +kernel
theorem dL_would_145 : decode cL_would 145 = .ok (.invokevirtual 73, 3) := by decide +kernel
theorem dL_would_148 : decode cL_would 148 = .ok (.iastore, 1) := by decide +kernel
theorem dL_would_149 : decode cL_would 149 = .ok (.dup, 1) := by decide +kernel
theorem dL_would_150 : decode cL_would 150 = .ok (.iconst 3, 1) := by decide +kernel
theorem dL_would_151 : decode cL_would 151 = .ok (.aload_n 0, 1) := by decide +kernel
theorem dL_would_152 : decode cL_would 152 = .ok (.bipush 6, 2) := by decide +kernel
theorem dL_would_154 : decode cL_would 154 = .ok (.invokevirtual 73, 3) := by decide +kernel
theorem dL_would_157 : decode cL_would 157 = .ok (.iastore, 1) := by decide +kernel
theorem dL_would_158 : decode cL_would 158 = .ok (.dup, 1) := by decide +kernel
theorem dL_would_159 : decode cL_would 159 = .ok (.iconst 4, 1) := by decide +kernel
theorem dL_would_160 : decode cL_would 160 = .ok (.aload_n 0, 1) := by decide +kernel
theorem dL_would_161 : decode cL_would 161 = .ok (.bipush 17, 2) := by decide +kernel
theorem dL_would_163 : decode cL_would 163 = .ok (.invokevirtual 73, 3) := by decide +kernel
theorem dL_would_166 : decode cL_would 166 = .ok (.iastore, 1) := by decide +kernel
theorem dL_would_167 : decode cL_would 167 = .ok (.dup, 1) := by decide +kernel
theorem dL_would_168 : decode cL_would 168 = .ok (.iconst 5, 1) := by decide +kernel
theorem dL_would_169 : decode cL_would 169 = .ok (.aload_n 0, 1) := by decide +kernel
theorem dL_would_170 : decode cL_would 170 = .ok (.bipush 14, 2) := by decide +kernel
theorem dL_would_172 : decode cL_would 172 = .ok (.invokevirtual 73, 3) := by decide +kernel
theorem dL_would_175 : decode cL_would 175 = .ok (.iastore, 1) := by decide +kernel
theorem dL_would_176 : decode cL_would 176 = .ok (.astore 11, 2) := by decide +kernel
theorem dL_would_178 : decode cL_would 178 = .ok (.iload 10, 2) := by decide +kernel
theorem dL_would_180 : decode cL_would 180 = .ok (.ifCond .eq 30, 3) := by decide +kernel
theorem dL_would_183 : decode cL_would 183 = .ok (.aload 11, 2) := by decide +kernel
theorem dL_would_185 : decode cL_would 185 = .ok (.iload 7, 2) := by decide +kernel
theorem dL_would_187 : decode cL_would 187 = .ok (.iaload, 1) := by decide +kernel
theorem dL_would_188 : decode cL_would 188 = .ok (.aload 8, 2) := by decide +kernel
theorem dL_would_190 : decode cL_would 190 = .ok (.iload 7, 2) := by decide +kernel
theorem dL_would_192 : decode cL_would 192 = .ok (.iaload, 1) := by decide +kernel
theorem dL_would_193 : decode cL_would 193 = .ok (.isub, 1) := by decide +kernel
theorem dL_would_194 : decode cL_would 194 = .ok (.iload 9, 2) := by decide +kernel
theorem dL_would_196 : decode cL_would 196 = .ok (.if_icmp .ne 14, 3) := by decide +kernel
theorem dL_would_199 : decode cL_would 199 = .ok (.aload_n 0, 1) := by decide +kernel
theorem dL_would_200 : decode cL_would 200 = .ok (.invokevirtual 126, 3) := by decide +kernel
theorem dL_would_203 : decode cL_would 203 = .ok (.ifCond .lt 7, 3) := by decide +kernel
theorem dL_would_206 : decode cL_would 206 = .ok (.iconst 1, 1) := by decide +kernel
theorem dL_would_207 : decode cL_would 207 = .ok (.goto 4, 3) := by decide +kernel
theorem dL_would_210 : decode cL_would 210 = .ok (.iconst 0, 1) := by decide +kernel
theorem dL_would_211 : decode cL_would 211 = .ok (.istore 10, 2) := by decide +kernel
theorem dL_would_213 : decode cL_would 213 = .ok (.iload_n 1, 1) := by decide +kernel
theorem dL_would_214 : decode cL_would 214 = .ok (.bipush 9, 2) := by decide +kernel
theorem dL_would_216 : decode cL_would 216 = .ok (.ishr, 1) := by decide +kernel
theorem dL_would_217 : decode cL_would 217 = .ok (.sipush 255, 3) := by decide +kernel
theorem dL_would_220 : decode cL_would 220 = .ok (.iand, 1) := by decide +kernel
theorem dL_would_221 : decode cL_would 221 = .ok (.iconst 3, 1) := by decide +kernel
theorem dL_would_222 : decode cL_would 222 = .ok (.irem, 1) := by decide +kernel
theorem dL_would_223 : decode cL_would 223 = .ok (.istore 12, 2) := by decide +kernel
theorem dL_would_225 : decode cL_would 225 = .ok (.iconst 1, 1) := by decide +kernel
theorem dL_would_226 : decode cL_would 226 = .ok (.iload_n 1, 1) := by decide +kernel
theorem dL_would_227 : decode cL_would 227 = .ok (.bipush 11, 2) := by decide +kernel
theorem dL_would_229 : decode cL_would 229 = .ok (.ishr, 1) := by decide +kernel
theorem dL_would_230 : decode cL_would 230 = .ok (.bipush 15, 2) := by decide +kernel
theorem dL_would_232 : decode cL_would 232 = .ok (.iand, 1) := by decide +kernel
theorem dL_would_233 : decode cL_would 233 = .ok (.iadd, 1) := by decide +kernel
theorem dL_would_234 : decode cL_would 234 = .ok (.istore 13, 2) := by decide +kernel
theorem dL_would_236 : decode cL_would 236 = .ok (.aload_n 0, 1) := by decide +kernel
theorem dL_would_237 : decode cL_would 237 = .ok (.iload 12, 2) := by decide +kernel
theorem dL_would_239 : decode cL_would 239 = .ok (.iload 13, 2) := by decide +kernel
theorem dL_would_241 : decode cL_would 241 = .ok (.iload 6, 2) := by decide +kernel
theorem dL_would_243 : decode cL_would 243 = .ok (.iload 7, 2) := by decide +kernel
theorem dL_would_245 : decode cL_would 245 = .ok (.invokevirtual 119, 3) := by decide +kernel
theorem dL_would_248 : decode cL_would 248 = .ok (.istore 9, 2) := by decide +kernel
theorem dL_would_250 : decode cL_would 250 = .ok (.aload_n 0, 1) := by decide +kernel
theorem dL_would_251 : decode cL_would 251 = .ok (.iload 12, 2) := by decide +kernel
theorem dL_would_253 : decode cL_would 253 = .ok (.iload 13, 2) := by decide +kernel
theorem dL_would_255 : decode cL_would 255 = .ok (.invokevirtual 135, 3) := by decide +kernel
theorem dL_would_258 : decode cL_would 258 = .ok (.istore 14, 2) := by decide +kernel
theorem dL_would_260 : decode cL_would 260 = .ok (.iload 10, 2) := by decide +kernel
theorem dL_would_262 : decode cL_would 262 = .ok (.ifCond .eq 34, 3) := by decide +kernel
theorem dL_would_265 : decode cL_would 265 = .ok (.aload_n 0, 1) := by decide +kernel
theorem dL_would_266 : decode cL_would 266 = .ok (.iload 6, 2) := by decide +kernel
theorem dL_would_268 : decode cL_would 268 = .ok (.iload 7, 2) := by decide +kernel
theorem dL_would_270 : decode cL_would 270 = .ok (.invokevirtual 116, 3) := by decide +kernel
theorem dL_would_273 : decode cL_would 273 = .ok (.iload 9, 2) := by decide +kernel
theorem dL_would_275 : decode cL_would 275 = .ok (.if_icmp .ne 21, 3) := by decide +kernel
theorem dL_would_278 : decode cL_would 278 = .ok (.iload 14, 2) := by decide +kernel
theorem dL_would_280 : decode cL_would 280 = .ok (.bipush (-2), 2) := by decide +kernel
theorem dL_would_282 : decode cL_would 282 = .ok (.if_icmp .eq 10, 3) := by decide +kernel
theorem dL_would_285 : decode cL_would 285 = .ok (.aload_n 0, 1) := by decide +kernel
theorem dL_would_286 : decode cL_would 286 = .ok (.invokevirtual 126, 3) := by decide +kernel
theorem dL_would_289 : decode cL_would 289 = .ok (.ifCond .lt 7, 3) := by decide +kernel
theorem dL_would_292 : decode cL_would 292 = .ok (.iconst 1, 1) := by decide +kernel
theorem dL_would_293 : decode cL_would 293 = .ok (.goto 4, 3) := by decide +kernel
theorem dL_would_296 : decode cL_would 296 = .ok (.iconst 0, 1) := by decide +kernel
theorem dL_would_297 : decode cL_would 297 = .ok (.istore 10, 2) := by decide +kernel
theorem dL_would_299 : decode cL_would 299 = .ok (.iload_n 2, 1) := by decide +kernel
theorem dL_would_300 : decode cL_would 300 = .ok (.sipush 255, 3) := by decide +kernel
theorem dL_would_303 : decode cL_would 303 = .ok (.iand, 1) := by decide +kernel
theorem dL_would_304 : decode cL_would 304 = .ok (.iload 5, 2) := by decide +kernel
theorem dL_would_306 : decode cL_would 306 = .ok (.irem, 1) := by decide +kernel
theorem dL_would_307 : decode cL_would 307 = .ok (.istore 15, 2) := by decide +kernel
theorem dL_would_309 : decode cL_would 309 = .ok (.aload_n 0, 1) := by decide +kernel
theorem dL_would_310 : decode cL_would 310 = .ok (.iload 15, 2) := by decide +kernel
theorem dL_would_312 : decode cL_would 312 = .ok (.iload 6, 2) := by decide +kernel
theorem dL_would_314 : decode cL_would 314 = .ok (.iload 7, 2) := by decide +kernel
theorem dL_would_316 : decode cL_would 316 = .ok (.invokevirtual 138, 3) := by decide +kernel
theorem dL_would_319 : decode cL_would 319 = .ok (.istore 9, 2) := by decide +kernel
theorem dL_would_321 : decode cL_would 321 = .ok (.aload_n 0, 1) := by decide +kernel
theorem dL_would_322 : decode cL_would 322 = .ok (.bipush 6, 2) := by decide +kernel
theorem dL_would_324 : decode cL_would 324 = .ok (.invokevirtual 73, 3) := by decide +kernel
theorem dL_would_327 : decode cL_would 327 = .ok (.istore 16, 2) := by decide +kernel
theorem dL_would_329 : decode cL_would 329 = .ok (.aload_n 0, 1) := by decide +kernel
theorem dL_would_330 : decode cL_would 330 = .ok (.iload 15, 2) := by decide +kernel
theorem dL_would_332 : decode cL_would 332 = .ok (.bipush 6, 2) := by decide +kernel
theorem dL_would_334 : decode cL_would 334 = .ok (.invokevirtual 78, 3) := by decide +kernel
theorem dL_would_337 : decode cL_would 337 = .ok (.istore 17, 2) := by decide +kernel
theorem dL_would_339 : decode cL_would 339 = .ok (.aload_n 0, 1) := by decide +kernel
theorem dL_would_340 : decode cL_would 340 = .ok (.iload 15, 2) := by decide +kernel
theorem dL_would_342 : decode cL_would 342 = .ok (.iconst 1, 1) := by decide +kernel
theorem dL_would_343 : decode cL_would 343 = .ok (.aload_n 0, 1) := by decide +kernel
theorem dL_would_344 : decode cL_would 344 = .ok (.iload 15, 2) := by decide +kernel
theorem dL_would_346 : decode cL_would 346 = .ok (.iconst 2, 1) := by decide +kernel
theorem dL_would_347 : decode cL_would 347 = .ok (.invokevirtual 78, 3) := by decide +kernel
theorem dL_would_350 : decode cL_would 350 = .ok (.isub, 1) := by decide +kernel
theorem dL_would_351 : decode cL_would 351 = .ok (.invokevirtual 141, 3) := by decide +kernel
theorem dL_would_354 : decode cL_would 354 = .ok (.istore 18, 2) := by decide +kernel
theorem dL_would_356 : decode cL_would 356 = .ok (.iload 10, 2) := by decide +kernel
theorem dL_would_358 : decode cL_would 358 = .ok (.ifCond .eq 56, 3) := by decide +kernel
theorem dL_would_361 : decode cL_would 361 = .ok (.iload 18, 2) := by decide +kernel
theorem dL_would_363 : decode cL_would 363 = .ok (.iload 17, 2) := by decide +kernel
theorem dL_would_365 : decode cL_would 365 = .ok (.ifCond .lt 7, 3) := by decide +kernel
theorem dL_would_368 : decode cL_would 368 = .ok (.iconst 1, 1) := by decide +kernel
theorem dL_would_369 : decode cL_would 369 = .ok (.goto 4, 3) := by decide +kernel
theorem dL_would_372 : decode cL_would 372 = .ok (.iconst 0, 1) := by decide +kernel
theorem dL_would_373 : decode cL_would 373 = .ok (.if_icmp .ne 41, 3) := by decide +kernel
theorem dL_would_376 : decode cL_would 376 = .ok (.aload_n 0, 1) := by decide +kernel
theorem dL_would_377 : decode cL_would 377 = .ok (.bipush 6, 2) := by decide +kernel
theorem dL_would_379 : decode cL_would 379 = .ok (.invokevirtual 73, 3) := by decide +kernel
theorem dL_would_382 : decode cL_would 382 = .ok (.iload 16, 2) := by decide +kernel
theorem dL_would_384 : decode cL_would 384 = .ok (.iload 18, 2) := by decide +kernel
theorem dL_would_386 : decode cL_would 386 = .ok (.isub, 1) := by decide +kernel
theorem dL_would_387 : decode cL_would 387 = .ok (.if_icmp .ne 27, 3) := by decide +kernel
theorem dL_would_390 : decode cL_would 390 = .ok (.aload_n 0, 1) := by decide +kernel
theorem dL_would_391 : decode cL_would 391 = .ok (.iload 6, 2) := by decide +kernel
theorem dL_would_393 : decode cL_would 393 = .ok (.iload 7, 2) := by decide +kernel
theorem dL_would_395 : decode cL_would 395 = .ok (.invokevirtual 116, 3) := by decide +kernel
theorem dL_would_398 : decode cL_would 398 = .ok (.iload 9, 2) := by decide +kernel
theorem dL_would_400 : decode cL_would 400 = .ok (.if_icmp .ne 14, 3) := by decide +kernel
theorem dL_would_403 : decode cL_would 403 = .ok (.aload_n 0, 1) := by decide +kernel
theorem dL_would_404 : decode cL_would 404 = .ok (.invokevirtual 126, 3) := by decide +kernel
theorem dL_would_407 : decode cL_would 407 = .ok (.ifCond .lt 7, 3) := by decide +kernel
theorem dL_would_410 : decode cL_would 410 = .ok (.iconst 1, 1) := by decide +kernel
theorem dL_would_411 : decode cL_would 411 = .ok (.goto 4, 3) := by decide +kernel
theorem dL_would_414 : decode cL_would 414 = .ok (.iconst 0, 1) := by decide +kernel
theorem dL_would_415 : decode cL_would 415 = .ok (.istore 10, 2) := by decide +kernel
theorem dL_would_417 : decode cL_would 417 = .ok (.aload_n 0, 1) := by decide +kernel
theorem dL_would_418 : decode cL_would 418 = .ok (.iload 15, 2) := by decide +kernel
theorem dL_would_420 : decode cL_would 420 = .ok (.invokevirtual 144, 3) := by decide +kernel
theorem dL_would_423 : decode cL_would 423 = .ok (.istore 19, 2) := by decide +kernel
theorem dL_would_425 : decode cL_would 425 = .ok (.iload 19, 2) := by decide +kernel
theorem dL_would_427 : decode cL_would 427 = .ok (.ifCond .le 87, 3) := by decide +kernel
theorem dL_would_430 : decode cL_would 430 = .ok (.iload 19, 2) := by decide +kernel
theorem dL_would_432 : decode cL_would 432 = .ok (.bipush 100, 2) := by decide +kernel
theorem dL_would_434 : decode cL_would 434 = .ok (.if_icmp .gt 80, 3) := by decide +kernel
theorem dL_would_437 : decode cL_would 437 = .ok (.iload 10, 2) := by decide +kernel
theorem dL_would_439 : decode cL_would 439 = .ok (.ifCond .eq 69, 3) := by decide +kernel
theorem dL_would_442 : decode cL_would 442 = .ok (.aload_n 0, 1) := by decide +kernel
theorem dL_would_443 : decode cL_would 443 = .ok (.iload 19, 2) := by decide +kernel
theorem dL_would_445 : decode cL_would 445 = .ok (.invokevirtual 123, 3) := by decide +kernel
theorem dL_would_448 : decode cL_would 448 = .ok (.ifCond .lt 60, 3) := by decide +kernel
theorem dL_would_451 : decode cL_would 451 = .ok (.aload_n 0, 1) := by decide +kernel
theorem dL_would_452 : decode cL_would 452 = .ok (.iload 15, 2) := by decide +kernel
theorem dL_would_454 : decode cL_would 454 = .ok (.bipush 6, 2) := by decide +kernel
theorem dL_would_456 : decode cL_would 456 = .ok (.invokevirtual 78, 3) := by decide +kernel
theorem dL_would_459 : decode cL_would 459 = .ok (.ifCond .lt 49, 3) := by decide +kernel
theorem dL_would_462 : decode cL_would 462 = .ok (.aload_n 0, 1) := by decide +kernel
theorem dL_would_463 : decode cL_would 463 = .ok (.invokevirtual 126, 3) := by decide +kernel
theorem dL_would_466 : decode cL_would 466 = .ok (.ifCond .lt 42, 3) := by decide +kernel
theorem dL_would_469 : decode cL_would 469 = .ok (.iload 19, 2) := by decide +kernel
theorem dL_would_471 : decode cL_would 471 = .ok (.iconst 1, 1) := by decide +kernel
theorem dL_would_472 : decode cL_would 472 = .ok (.if_icmp .eq 32, 3) := by decide +kernel
theorem dL_would_475 : decode cL_would 475 = .ok (.aload_n 0, 1) := by decide +kernel
theorem dL_would_476 : decode cL_would 476 = .ok (.iload 19, 2) := by decide +kernel
theorem dL_would_478 : decode cL_would 478 = .ok (.iconst 1, 1) := by decide +kernel
theorem dL_would_479 : decode cL_would 479 = .ok (.isub, 1) := by decide +kernel
theorem dL_would_480 : decode cL_would 480 = .ok (.invokevirtual 123, 3) := by decide +kernel
theorem dL_would_483 : decode cL_would 483 = .ok (.ifCond .lt 25, 3) := by decide +kernel
theorem dL_would_486 : decode cL_would 486 = .ok (.aload_n 0, 1) := by decide +kernel
theorem dL_would_487 : decode cL_would 487 = .ok (.iload 15, 2) := by decide +kernel
theorem dL_would_489 : decode cL_would 489 = .ok (.bipush 6, 2) := by decide +kernel
theorem dL_would_491 : decode cL_would 491 = .ok (.invokevirtual 78, 3) := by decide +kernel
theorem dL_would_494 : decode cL_would 494 = .ok (.ifCond .ge 14, 3) := by decide +kernel
theorem dL_would_497 : decode cL_would 497 = .ok (.aload_n 0, 1) := by decide +kernel
theorem dL_would_498 : decode cL_would 498 = .ok (.invokevirtual 126, 3) := by decide +kernel
theorem dL_would_501 : decode cL_would 501 = .ok (.ifCond .lt 7, 3) := by decide +kernel
theorem dL_would_504 : decode cL_would 504 = .ok (.iconst 1, 1) := by decide +kernel
theorem dL_would_505 : decode cL_would 505 = .ok (.goto 4, 3) := by decide +kernel
theorem dL_would_508 : decode cL_would 508 = .ok (.iconst 0, 1) := by decide +kernel
theorem dL_would_509 : decode cL_would 509 = .ok (.istore 10, 2) := by decide +kernel
theorem dL_would_511 : decode cL_would 511 = .ok (.goto 38, 3) := by decide +kernel
theorem dL_would_514 : decode cL_would 514 = .ok (.iload 10, 2) := by decide +kernel
theorem dL_would_516 : decode cL_would 516 = .ok (.ifCond .eq 30, 3) := by decide +kernel
theorem dL_would_519 : decode cL_would 519 = .ok (.iload 19, 2) := by decide +kernel
theorem dL_would_521 : decode cL_would 521 = .ok (.ifCond .ne 7, 3) := by decide +kernel
theorem dL_would_524 : decode cL_would 524 = .ok (.iconst 1, 1) := by decide +kernel
theorem dL_would_525 : decode cL_would 525 = .ok (.goto 4, 3) := by decide +kernel
theorem dL_would_528 : decode cL_would 528 = .ok (.iconst 0, 1) := by decide +kernel
theorem dL_would_529 : decode cL_would 529 = .ok (.iload 17, 2) := by decide +kernel
theorem dL_would_531 : decode cL_would 531 = .ok (.ifCond .lt 7, 3) := by decide +kernel
theorem dL_would_534 : decode cL_would 534 = .ok (.iconst 1, 1) := by decide +kernel
theorem dL_would_535 : decode cL_would 535 = .ok (.goto 4, 3) := by decide +kernel
theorem dL_would_538 : decode cL_would 538 = .ok (.iconst 0, 1) := by decide +kernel
theorem dL_would_539 : decode cL_would 539 = .ok (.if_icmp .ne 7, 3) := by decide +kernel
theorem dL_would_542 : decode cL_would 542 = .ok (.iconst 1, 1) := by decide +kernel
theorem dL_would_543 : decode cL_would 543 = .ok (.goto 4, 3) := by decide +kernel
theorem dL_would_546 : decode cL_would 546 = .ok (.iconst 0, 1) := by decide +kernel
theorem dL_would_547 : decode cL_would 547 = .ok (.istore 10, 2) := by decide +kernel
theorem dL_would_549 : decode cL_would 549 = .ok (.aload_n 0, 1) := by decide +kernel
theorem dL_would_550 : decode cL_would 550 = .ok (.invokevirtual 147, 3) := by decide +kernel
theorem dL_would_553 : decode cL_would 553 = .ok (.istore 20, 2) := by decide +kernel
theorem dL_would_555 : decode cL_would 555 = .ok (.iload 20, 2) := by decide +kernel
theorem dL_would_557 : decode cL_would 557 = .ok (.ifCond .le 83, 3) := by decide +kernel
theorem dL_would_560 : decode cL_would 560 = .ok (.iload 20, 2) := by decide +kernel
theorem dL_would_562 : decode cL_would 562 = .ok (.bipush 100, 2) := by decide +kernel
theorem dL_would_564 : decode cL_would 564 = .ok (.if_icmp .gt 76, 3) := by decide +kernel
theorem dL_would_567 : decode cL_would 567 = .ok (.iload 10, 2) := by decide +kernel
theorem dL_would_569 : decode cL_would 569 = .ok (.ifCond .eq 65, 3) := by decide +kernel
theorem dL_would_572 : decode cL_would 572 = .ok (.aload_n 0, 1) := by decide +kernel
theorem dL_would_573 : decode cL_would 573 = .ok (.iload 20, 2) := by decide +kernel
theorem dL_would_575 : decode cL_would 575 = .ok (.invokevirtual 123, 3) := by decide +kernel
theorem dL_would_578 : decode cL_would 578 = .ok (.ifCond .lt 56, 3) := by decide +kernel
theorem dL_would_581 : decode cL_would 581 = .ok (.aload_n 0, 1) := by decide +kernel
theorem dL_would_582 : decode cL_would 582 = .ok (.bipush 8, 2) := by decide +kernel
theorem dL_would_584 : decode cL_would 584 = .ok (.invokevirtual 73, 3) := by decide +kernel
theorem dL_would_587 : decode cL_would 587 = .ok (.ifCond .ne 47, 3) := by decide +kernel
theorem dL_would_590 : decode cL_would 590 = .ok (.aload_n 0, 1) := by decide +kernel
theorem dL_would_591 : decode cL_would 591 = .ok (.invokevirtual 126, 3) := by decide +kernel
theorem dL_would_594 : decode cL_would 594 = .ok (.ifCond .lt 40, 3) := by decide +kernel
theorem dL_would_597 : decode cL_would 597 = .ok (.iload 20, 2) := by decide +kernel
theorem dL_would_599 : decode cL_would 599 = .ok (.iconst 1, 1) := by decide +kernel
theorem dL_would_600 : decode cL_would 600 = .ok (.if_icmp .eq 30, 3) := by decide +kernel
theorem dL_would_603 : decode cL_would 603 = .ok (.aload_n 0, 1) := by decide +kernel
theorem dL_would_604 : decode cL_would 604 = .ok (.iload 20, 2) := by decide +kernel
theorem dL_would_606 : decode cL_would 606 = .ok (.iconst 1, 1) := by decide +kernel
theorem dL_would_607 : decode cL_would 607 = .ok (.isub, 1) := by decide +kernel
theorem dL_would_608 : decode cL_would 608 = .ok (.invokevirtual 123, 3) := by decide +kernel
theorem dL_would_611 : decode cL_would 611 = .ok (.ifCond .lt 23, 3) := by decide +kernel
theorem dL_would_614 : decode cL_would 614 = .ok (.aload_n 0, 1) := by decide +kernel
theorem dL_would_615 : decode cL_would 615 = .ok (.bipush 8, 2) := by decide +kernel
theorem dL_would_617 : decode cL_would 617 = .ok (.invokevirtual 73, 3) := by decide +kernel
theorem dL_would_620 : decode cL_would 620 = .ok (.ifCond .le 14, 3) := by decide +kernel
theorem dL_would_623 : decode cL_would 623 = .ok (.aload_n 0, 1) := by decide +kernel
theorem dL_would_624 : decode cL_would 624 = .ok (.invokevirtual 126, 3) := by decide +kernel
theorem dL_would_627 : decode cL_would 627 = .ok (.ifCond .lt 7, 3) := by decide +kernel
theorem dL_would_630 : decode cL_would 630 = .ok (.iconst 1, 1) := by decide +kernel
theorem dL_would_631 : decode cL_would 631 = .ok (.goto 4, 3) := by decide +kernel
theorem dL_would_634 : decode cL_would 634 = .ok (.iconst 0, 1) := by decide +kernel
theorem dL_would_635 : decode cL_would 635 = .ok (.istore 10, 2) := by decide +kernel
theorem dL_would_637 : decode cL_would 637 = .ok (.goto 42, 3) := by decide +kernel
theorem dL_would_640 : decode cL_would 640 = .ok (.iload 10, 2) := by decide +kernel
theorem dL_would_642 : decode cL_would 642 = .ok (.ifCond .eq 34, 3) := by decide +kernel
theorem dL_would_645 : decode cL_would 645 = .ok (.iload 20, 2) := by decide +kernel
theorem dL_would_647 : decode cL_would 647 = .ok (.ifCond .ne 7, 3) := by decide +kernel
theorem dL_would_650 : decode cL_would 650 = .ok (.iconst 1, 1) := by decide +kernel
theorem dL_would_651 : decode cL_would 651 = .ok (.goto 4, 3) := by decide +kernel
theorem dL_would_654 : decode cL_would 654 = .ok (.iconst 0, 1) := by decide +kernel
theorem dL_would_655 : decode cL_would 655 = .ok (.aload_n 0, 1) := by decide +kernel
theorem dL_would_656 : decode cL_would 656 = .ok (.bipush 8, 2) := by decide +kernel
theorem dL_would_658 : decode cL_would 658 = .ok (.invokevirtual 73, 3) := by decide +kernel
theorem dL_would_661 : decode cL_would 661 = .ok (.ifCond .ne 7, 3) := by decide +kernel
theorem dL_would_664 : decode cL_would 664 = .ok (.iconst 1, 1) := by decide +kernel
theorem dL_would_665 : decode cL_would 665 = .ok (.goto 4, 3) := by decide +kernel
theorem dL_would_668 : decode cL_would 668 = .ok (.iconst 0, 1) := by decide +kernel
theorem dL_would_669 : decode cL_would 669 = .ok (.if_icmp .ne 7, 3) := by decide +kernel
theorem dL_would_672 : decode cL_would 672 = .ok (.iconst 1, 1) := by decide +kernel
theorem dL_would_673 : decode cL_would 673 = .ok (.goto 4, 3) := by decide +kernel
theorem dL_would_676 : decode cL_would 676 = .ok (.iconst 0, 1) := by decide +kernel
theorem dL_would_677 : decode cL_would 677 = .ok (.istore 10, 2) := by decide +kernel
theorem dL_would_679 : decode cL_would 679 = .ok (.aload_n 0, 1) := by decide +kernel
theorem dL_would_680 : decode cL_would 680 = .ok (.invokevirtual 150, 3) := by decide +kernel
theorem dL_would_683 : decode cL_would 683 = .ok (.istore 21, 2) := by decide +kernel
theorem dL_would_685 : decode cL_would 685 = .ok (.iload 10, 2) := by decide +kernel
theorem dL_would_687 : decode cL_would 687 = .ok (.ifCond .eq 30, 3) := by decide +kernel
theorem dL_would_690 : decode cL_would 690 = .ok (.iload 20, 2) := by decide +kernel
theorem dL_would_692 : decode cL_would 692 = .ok (.ifCond .ge 7, 3) := by decide +kernel
theorem dL_would_695 : decode cL_would 695 = .ok (.iconst 1, 1) := by decide +kernel
theorem dL_would_696 : decode cL_would 696 = .ok (.goto 4, 3) := by decide +kernel
theorem dL_would_699 : decode cL_would 699 = .ok (.iconst 0, 1) := by decide +kernel
theorem dL_would_700 : decode cL_would 700 = .ok (.iload 21, 2) := by decide +kernel
theorem dL_would_702 : decode cL_would 702 = .ok (.ifCond .ge 7, 3) := by decide +kernel
theorem dL_would_705 : decode cL_would 705 = .ok (.iconst 1, 1) := by decide +kernel
theorem dL_would_706 : decode cL_would 706 = .ok (.goto 4, 3) := by decide +kernel
theorem dL_would_709 : decode cL_would 709 = .ok (.iconst 0, 1) := by decide +kernel
theorem dL_would_710 : decode cL_would 710 = .ok (.if_icmp .ne 7, 3) := by decide +kernel
theorem dL_would_713 : decode cL_would 713 = .ok (.iconst 1, 1) := by decide +kernel
theorem dL_would_714 : decode cL_would 714 = .ok (.goto 4, 3) := by decide +kernel
theorem dL_would_717 : decode cL_would 717 = .ok (.iconst 0, 1) := by decide +kernel
theorem dL_would_718 : decode cL_would 718 = .ok (.istore 10, 2) := by decide +kernel
theorem dL_would_720 : decode cL_would 720 = .ok (.iload 21, 2) := by decide +kernel
theorem dL_would_722 : decode cL_would 722 = .ok (.ifCond .le 113, 3) := by decide +kernel
theorem dL_would_725 : decode cL_would 725 = .ok (.aload_n 0, 1) := by decide +kernel
theorem dL_would_726 : decode cL_would 726 = .ok (.iconst 2, 1) := by decide +kernel
theorem dL_would_727 : decode cL_would 727 = .ok (.iload 21, 2) := by decide +kernel
theorem dL_would_729 : decode cL_would 729 = .ok (.invokevirtual 135, 3) := by decide +kernel
theorem dL_would_732 : decode cL_would 732 = .ok (.istore 14, 2) := by decide +kernel
theorem dL_would_734 : decode cL_would 734 = .ok (.iload 10, 2) := by decide +kernel
theorem dL_would_736 : decode cL_would 736 = .ok (.ifCond .eq 37, 3) := by decide +kernel
theorem dL_would_739 : decode cL_would 739 = .ok (.aload_n 0, 1) := by decide +kernel
theorem dL_would_740 : decode cL_would 740 = .ok (.invokevirtual 147, 3) := by decide +kernel
theorem dL_would_743 : decode cL_would 743 = .ok (.ifCond .lt 30, 3) := by decide +kernel
theorem dL_would_746 : decode cL_would 746 = .ok (.aload_n 0, 1) := by decide +kernel
theorem dL_would_747 : decode cL_would 747 = .ok (.invokevirtual 147, 3) := by decide +kernel
theorem dL_would_750 : decode cL_would 750 = .ok (.iload 20, 2) := by decide +kernel
theorem dL_would_752 : decode cL_would 752 = .ok (.if_icmp .gt 21, 3) := by decide +kernel
theorem dL_would_755 : decode cL_would 755 = .ok (.iload 14, 2) := by decide +kernel
theorem dL_would_757 : decode cL_would 757 = .ok (.bipush (-2), 2) := by decide +kernel
theorem dL_would_759 : decode cL_would 759 = .ok (.if_icmp .eq 10, 3) := by decide +kernel
theorem dL_would_762 : decode cL_would 762 = .ok (.aload_n 0, 1) := by decide +kernel
theorem dL_would_763 : decode cL_would 763 = .ok (.invokevirtual 126, 3) := by decide +kernel
theorem dL_would_766 : decode cL_would 766 = .ok (.ifCond .lt 7, 3) := by decide +kernel
theorem dL_would_769 : decode cL_would 769 = .ok (.iconst 1, 1) := by decide +kernel
theorem dL_would_770 : decode cL_would 770 = .ok (.goto 4, 3) := by decide +kernel
theorem dL_would_773 : decode cL_would 773 = .ok (.iconst 0, 1) := by decide +kernel
theorem dL_would_774 : decode cL_would 774 = .ok (.istore 10, 2) := by decide +kernel
theorem dL_would_776 : decode cL_would 776 = .ok (.iload 21, 2) := by decide +kernel
theorem dL_would_778 : decode cL_would 778 = .ok (.iconst 1, 1) := by decide +kernel
theorem dL_would_779 : decode cL_would 779 = .ok (.if_icmp .le 56, 3) := by decide +kernel
theorem dL_would_782 : decode cL_would 782 = .ok (.aload_n 0, 1) := by decide +kernel
theorem dL_would_783 : decode cL_would 783 = .ok (.iconst 2, 1) := by decide +kernel
theorem dL_would_784 : decode cL_would 784 = .ok (.iload 21, 2) := by decide +kernel
theorem dL_would_786 : decode cL_would 786 = .ok (.iconst 1, 1) := by decide +kernel
theorem dL_would_787 : decode cL_would 787 = .ok (.isub, 1) := by decide +kernel
theorem dL_would_788 : decode cL_would 788 = .ok (.invokevirtual 135, 3) := by decide +kernel
theorem dL_would_791 : decode cL_would 791 = .ok (.istore 14, 2) := by decide +kernel
theorem dL_would_793 : decode cL_would 793 = .ok (.iload 10, 2) := by decide +kernel
theorem dL_would_795 : decode cL_would 795 = .ok (.ifCond .eq 37, 3) := by decide +kernel
theorem dL_would_798 : decode cL_would 798 = .ok (.aload_n 0, 1) := by decide +kernel
theorem dL_would_799 : decode cL_would 799 = .ok (.invokevirtual 147, 3) := by decide +kernel
theorem dL_would_802 : decode cL_would 802 = .ok (.ifCond .lt 12, 3) := by decide +kernel
theorem dL_would_805 : decode cL_would 805 = .ok (.aload_n 0, 1) := by decide +kernel
theorem dL_would_806 : decode cL_would 806 = .ok (.invokevirtual 147, 3) := by decide +kernel
theorem dL_would_809 : decode cL_would 809 = .ok (.iload 20, 2) := by decide +kernel
theorem dL_would_811 : decode cL_would 811 = .ok (.if_icmp .le 21, 3) := by decide +kernel
theorem dL_would_814 : decode cL_would 814 = .ok (.iload 14, 2) := by decide +kernel
theorem dL_would_816 : decode cL_would 816 = .ok (.bipush (-2), 2) := by decide +kernel
theorem dL_would_818 : decode cL_would 818 = .ok (.if_icmp .eq 10, 3) := by decide +kernel
theorem dL_would_821 : decode cL_would 821 = .ok (.aload_n 0, 1) := by decide +kernel
theorem dL_would_822 : decode cL_would 822 = .ok (.invokevirtual 126, 3) := by decide +kernel
theorem dL_would_825 : decode cL_would 825 = .ok (.ifCond .lt 7, 3) := by decide +kernel
theorem dL_would_828 : decode cL_would 828 = .ok (.iconst 1, 1) := by decide +kernel
theorem dL_would_829 : decode cL_would 829 = .ok (.goto 4, 3) := by decide +kernel
theorem dL_would_832 : decode cL_would 832 = .ok (.iconst 0, 1) := by decide +kernel
theorem dL_would_833 : decode cL_would 833 = .ok (.istore 10, 2) := by decide +kernel
theorem dL_would_835 : decode cL_would 835 = .ok (.iload 6, 2) := by decide +kernel
theorem dL_would_837 : decode cL_would 837 = .ok (.bipush 25, 2) := by decide +kernel
theorem dL_would_839 : decode cL_would 839 = .ok (.irem, 1) := by decide +kernel
theorem dL_would_840 : decode cL_would 840 = .ok (.istore 22, 2) := by decide +kernel
theorem dL_would_842 : decode cL_would 842 = .ok (.aload_n 0, 1) := by decide +kernel
theorem dL_would_843 : decode cL_would 843 = .ok (.iload 22, 2) := by decide +kernel
theorem dL_would_845 : decode cL_would 845 = .ok (.invokevirtual 153, 3) := by decide +kernel
theorem dL_would_848 : decode cL_would 848 = .ok (.istore 23, 2) := by decide +kernel
theorem dL_would_850 : decode cL_would 850 = .ok (.aload_n 0, 1) := by decide +kernel
theorem dL_would_851 : decode cL_would 851 = .ok (.iconst 0, 1) := by decide +kernel
theorem dL_would_852 : decode cL_would 852 = .ok (.iload 23, 2) := by decide +kernel
theorem dL_would_854 : decode cL_would 854 = .ok (.iload 22, 2) := by decide +kernel
theorem dL_would_856 : decode cL_would 856 = .ok (.iconst 0, 1) := by decide +kernel
theorem dL_would_857 : decode cL_would 857 = .ok (.invokevirtual 119, 3) := by decide +kernel
theorem dL_would_860 : decode cL_would 860 = .ok (.istore 24, 2) := by decide +kernel
theorem dL_would_862 : decode cL_would 862 = .ok (.iconst 1, 1) := by decide +kernel
theorem dL_would_863 : decode cL_would 863 = .ok (.istore 25, 2) := by decide +kernel
theorem dL_would_865 : decode cL_would 865 = .ok (.iload 25, 2) := by decide +kernel
theorem dL_would_867 : decode cL_would 867 = .ok (.bipush 20, 2) := by decide +kernel
theorem dL_would_869 : decode cL_would 869 = .ok (.if_icmp .gt 58, 3) := by decide +kernel
theorem dL_would_872 : decode cL_would 872 = .ok (.iload 10, 2) := by decide +kernel
theorem dL_would_874 : decode cL_would 874 = .ok (.ifCond .eq 44, 3) := by decide +kernel
theorem dL_would_877 : decode cL_would 877 = .ok (.aload_n 0, 1) := by decide +kernel
theorem dL_would_878 : decode cL_would 878 = .ok (.iconst 0, 1) := by decide +kernel
theorem dL_would_879 : decode cL_would 879 = .ok (.iload 25, 2) := by decide +kernel
theorem dL_would_881 : decode cL_would 881 = .ok (.iload 22, 2) := by decide +kernel
theorem dL_would_883 : decode cL_would 883 = .ok (.iconst 0, 1) := by decide +kernel
theorem dL_would_884 : decode cL_would 884 = .ok (.invokevirtual 119, 3) := by decide +kernel
theorem dL_would_887 : decode cL_would 887 = .ok (.iload 24, 2) := by decide +kernel
theorem dL_would_889 : decode cL_would 889 = .ok (.if_icmp .gt 29, 3) := by decide +kernel
theorem dL_would_892 : decode cL_would 892 = .ok (.iload 25, 2) := by decide +kernel
theorem dL_would_894 : decode cL_would 894 = .ok (.iload 23, 2) := by decide +kernel
theorem dL_would_896 : decode cL_would 896 = .ok (.if_icmp .ge 18, 3) := by decide +kernel
theorem dL_would_899 : decode cL_would 899 = .ok (.aload_n 0, 1) := by decide +kernel
theorem dL_would_900 : decode cL_would 900 = .ok (.iconst 0, 1) := by decide +kernel
theorem dL_would_901 : decode cL_would 901 = .ok (.iload 25, 2) := by decide +kernel
theorem dL_would_903 : decode cL_would 903 = .ok (.iload 22, 2) := by decide +kernel
theorem dL_would_905 : decode cL_would 905 = .ok (.iconst 0, 1) := by decide +kernel
theorem dL_would_906 : decode cL_would 906 = .ok (.invokevirtual 119, 3) := by decide +kernel
theorem dL_would_909 : decode cL_would 909 = .ok (.iload 24, 2) := by decide +kernel
theorem dL_would_911 : decode cL_would 911 = .ok (.if_icmp .ge 7, 3) := by decide +kernel
theorem dL_would_914 : decode cL_would 914 = .ok (.iconst 1, 1) := by decide +kernel
theorem dL_would_915 : decode cL_would 915 = .ok (.goto 4, 3) := by decide +kernel
theorem dL_would_918 : decode cL_would 918 = .ok (.iconst 0, 1) := by decide +kernel
theorem dL_would_919 : decode cL_would 919 = .ok (.istore 10, 2) := by decide +kernel
theorem dL_would_921 : decode cL_would 921 = .ok (.iinc 25 2, 3) := by decide +kernel
theorem dL_would_924 : decode cL_would 924 = .ok (.goto (-59), 3) := by decide +kernel
theorem dL_would_927 : decode cL_would 927 = .ok (.aload_n 0, 1) := by decide +kernel
theorem dL_would_928 : decode cL_would 928 = .ok (.iload 15, 2) := by decide +kernel
theorem dL_would_930 : decode cL_would 930 = .ok (.iconst 2, 1) := by decide +kernel
theorem dL_would_931 : decode cL_would 931 = .ok (.invokevirtual 78, 3) := by decide +kernel
theorem dL_would_934 : decode cL_would 934 = .ok (.iconst 1, 1) := by decide +kernel
theorem dL_would_935 : decode cL_would 935 = .ok (.if_icmp .ne 107, 3) := by decide +kernel
theorem dL_would_938 : decode cL_would 938 = .ok (.aload_n 0, 1) := by decide +kernel
theorem dL_would_939 : decode cL_would 939 = .ok (.bipush 6, 2) := by decide +kernel
theorem dL_would_941 : decode cL_would 941 = .ok (.invokevirtual 73, 3) := by decide +kernel
theorem dL_would_944 : decode cL_would 944 = .ok (.iconst 3, 1) := by decide +kernel
theorem dL_would_945 : decode cL_would 945 = .ok (.if_icmp .ge 97, 3) := by decide +kernel
theorem dL_would_948 : decode cL_would 948 = .ok (.aload_n 0, 1) := by decide +kernel
theorem dL_would_949 : decode cL_would 949 = .ok (.bipush 15, 2) := by decide +kernel
theorem dL_would_951 : decode cL_would 951 = .ok (.invokevirtual 73, 3) := by decide +kernel
theorem dL_would_954 : decode cL_would 954 = .ok (.istore 25, 2) := by decide +kernel
theorem dL_would_956 : decode cL_would 956 = .ok (.aload_n 0, 1) := by decide +kernel
theorem dL_would_957 : decode cL_would 957 = .ok (.iload 15, 2) := by decide +kernel
theorem dL_would_959 : decode cL_would 959 = .ok (.invokevirtual 156, 3) := by decide +kernel
theorem dL_would_962 : decode cL_would 962 = .ok (.istore 26, 2) := by decide +kernel
theorem dL_would_964 : decode cL_would 964 = .ok (.iload 10, 2) := by decide +kernel
theorem dL_would_966 : decode cL_would 966 = .ok (.ifCond .eq 70, 3) := by decide +kernel
theorem dL_would_969 : decode cL_would 969 = .ok (.iload 26, 2) := by decide +kernel
theorem dL_would_971 : decode cL_would 971 = .ok (.ifCond .le 65, 3) := by decide +kernel
theorem dL_would_974 : decode cL_would 974 = .ok (.aload_n 0, 1) := by decide +kernel
theorem dL_would_975 : decode cL_would 975 = .ok (.iload 15, 2) := by decide +kernel
theorem dL_would_977 : decode cL_would 977 = .ok (.bipush 6, 2) := by decide +kernel
theorem dL_would_979 : decode cL_would 979 = .ok (.invokevirtual 78, 3) := by decide +kernel
theorem dL_would_982 : decode cL_would 982 = .ok (.ifCond .lt 54, 3) := by decide +kernel
theorem dL_would_985 : decode cL_would 985 = .ok (.aload_n 0, 1) := by decide +kernel
theorem dL_would_986 : decode cL_would 986 = .ok (.aload_n 0, 1) := by decide +kernel
theorem dL_would_987 : decode cL_would 987 = .ok (.bipush 6, 2) := by decide +kernel
theorem dL_would_989 : decode cL_would 989 = .ok (.invokevirtual 73, 3) := by decide +kernel
theorem dL_would_992 : decode cL_would 992 = .ok (.iconst 1, 1) := by decide +kernel
theorem dL_would_993 : decode cL_would 993 = .ok (.isub, 1) := by decide +kernel
theorem dL_would_994 : decode cL_would 994 = .ok (.iconst 0, 1) := by decide +kernel
theorem dL_would_995 : decode cL_would 995 = .ok (.invokevirtual 90, 3) := by decide +kernel
theorem dL_would_998 : decode cL_would 998 = .ok (.iload 26, 2) := by decide +kernel
theorem dL_would_1000 : decode cL_would 1000 = .ok (.if_icmp .ne 36, 3) := by decide +kernel
theorem dL_would_1003 : decode cL_would 1003 = .ok (.aload_n 0, 1) := by decide +kernel
theorem dL_would_1004 : decode cL_would 1004 = .ok (.bipush 15, 2) := by decide +kernel
theorem dL_would_1006 : decode cL_would 1006 = .ok (.invokevirtual 73, 3) := by decide +kernel
theorem dL_would_1009 : decode cL_would 1009 = .ok (.iload 25, 2) := by decide +kernel
theorem dL_would_1011 : decode cL_would 1011 = .ok (.iload 17, 2) := by decide +kernel
theorem dL_would_1013 : decode cL_would 1013 = .ok (.ifCond .lt 7, 3) := by decide +kernel
theorem dL_would_1016 : decode cL_would 1016 = .ok (.iconst 1, 1) := by decide +kernel
theorem dL_would_1017 : decode cL_would 1017 = .ok (.goto 4, 3) := by decide +kernel
theorem dL_would_1020 : decode cL_would 1020 = .ok (.iconst 0, 1) := by decide +kernel
theorem dL_would_1021 : decode cL_would 1021 = .ok (.iadd, 1) := by decide +kernel
theorem dL_would_1022 : decode cL_would 1022 = .ok (.if_icmp .ne 14, 3) := by decide +kernel
theorem dL_would_1025 : decode cL_would 1025 = .ok (.aload_n 0, 1) := by decide +kernel
theorem dL_would_1026 : decode cL_would 1026 = .ok (.invokevirtual 126, 3) := by decide +kernel
theorem dL_would_1029 : decode cL_would 1029 = .ok (.ifCond .lt 7, 3) := by decide +kernel
theorem dL_would_1032 : decode cL_would 1032 = .ok (.iconst 1, 1) := by decide +kernel
theorem dL_would_1033 : decode cL_would 1033 = .ok (.goto 4, 3) := by decide +kernel
theorem dL_would_1036 : decode cL_would 1036 = .ok (.iconst 0, 1) := by decide +kernel
theorem dL_would_1037 : decode cL_would 1037 = .ok (.istore 10, 2) := by decide +kernel
theorem dL_would_1039 : decode cL_would 1039 = .ok (.goto 41, 3) := by decide +kernel
theorem dL_would_1042 : decode cL_would 1042 = .ok (.iload 10, 2) := by decide +kernel
theorem dL_would_1044 : decode cL_would 1044 = .ok (.ifCond .eq 33, 3) := by decide +kernel
theorem dL_would_1047 : decode cL_would 1047 = .ok (.aload_n 0, 1) := by decide +kernel
theorem dL_would_1048 : decode cL_would 1048 = .ok (.iload 15, 2) := by decide +kernel
theorem dL_would_1050 : decode cL_would 1050 = .ok (.invokevirtual 156, 3) := by decide +kernel
theorem dL_would_1053 : decode cL_would 1053 = .ok (.aload_n 0, 1) := by decide +kernel
theorem dL_would_1054 : decode cL_would 1054 = .ok (.iload 15, 2) := by decide +kernel
theorem dL_would_1056 : decode cL_would 1056 = .ok (.iconst 2, 1) := by decide +kernel
theorem dL_would_1057 : decode cL_would 1057 = .ok (.invokevirtual 78, 3) := by decide +kernel
theorem dL_would_1060 : decode cL_would 1060 = .ok (.ifCond .ne 8, 3) := by decide +kernel
theorem dL_would_1063 : decode cL_would 1063 = .ok (.bipush (-4), 2) := by decide +kernel
theorem dL_would_1065 : decode cL_would 1065 = .ok (.goto 5, 3) := by decide +kernel
theorem dL_would_1068 : decode cL_would 1068 = .ok (.bipush (-3), 2) := by decide +kernel
theorem dL_would_1070 : decode cL_would 1070 = .ok (.if_icmp .ne 7, 3) := by decide +kernel
theorem dL_would_1073 : decode cL_would 1073 = .ok (.iconst 1, 1) := by decide +kernel
theorem dL_would_1074 : decode cL_would 1074 = .ok (.goto 4, 3) := by decide +kernel
theorem dL_would_1077 : decode cL_would 1077 = .ok (.iconst 0, 1) := by decide +kernel
theorem dL_would_1078 : decode cL_would 1078 = .ok (.istore 10, 2) := by decide +kernel
theorem dL_would_1080 : decode cL_would 1080 = .ok (.iload 10, 2) := by decide +kernel
theorem dL_would_1082 : decode cL_would 1082 = .ok (.ifCond .eq 16, 3) := by decide +kernel
theorem dL_would_1085 : decode cL_would 1085 = .ok (.aload_n 0, 1) := by decide +kernel
theorem dL_would_1086 : decode cL_would 1086 = .ok (.invokestatic 129, 3) := by decide +kernel
theorem dL_would_1089 : decode cL_would 1089 = .ok (.lload_n 3, 1) := by decide +kernel
theorem dL_would_1090 : decode cL_would 1090 = .ok (.lcmp, 1) := by decide +kernel
theorem dL_would_1091 : decode cL_would 1091 = .ok (.ifCond .ne 7, 3) := by decide +kernel
theorem dL_would_1094 : decode cL_would 1094 = .ok (.iconst 1, 1) := by decide +kernel
theorem dL_would_1095 : decode cL_would 1095 = .ok (.goto 4, 3) := by decide +kernel
theorem dL_would_1098 : decode cL_would 1098 = .ok (.iconst 0, 1) := by decide +kernel
theorem dL_would_1099 : decode cL_would 1099 = .ok (.ireturn, 1) := by decide +kernel
theorem dL_does_0 : decode cL_does 0 = .ok (.aload_n 0, 1) := by decide +kernel
theorem dL_does_1 : decode cL_does 1 = .ok (.invokestatic 129, 3) := by decide +kernel
theorem dL_does_4 : decode cL_does 4 = .ok (.lstore_n 3, 1) := by decide +kernel
theorem dL_does_5 : decode cL_does 5 = .ok (.aload_n 0, 1) := by decide +kernel
theorem dL_does_6 : decode cL_does 6 = .ok (.iconst 4, 1) := by decide +kernel
theorem dL_does_7 : decode cL_does 7 = .ok (.invokevirtual 73, 3) := by decide +kernel
theorem dL_does_10 : decode cL_does 10 = .ok (.istore 5, 2) := by decide +kernel
theorem dL_does_12 : decode cL_does 12 = .ok (.iload_n 2, 1) := by decide +kernel
theorem dL_does_13 : decode cL_does 13 = .ok (.sipush 255, 3) := by decide +kernel
theorem dL_does_16 : decode cL_does 16 = .ok (.iand, 1) := by decide +kernel
theorem dL_does_17 : decode cL_does 17 = .ok (.iload 5, 2) := by decide +kernel
theorem dL_does_19 : decode cL_does 19 = .ok (.irem, 1) := by decide +kernel
theorem dL_does_20 : decode cL_does 20 = .ok (.istore 6, 2) := by decide +kernel
theorem dL_does_22 : decode cL_does 22 = .ok (.iload_n 1, 1) := by decide +kernel
theorem dL_does_23 : decode cL_does 23 = .ok (.bipush 15, 2) := by decide +kernel
theorem dL_does_25 : decode cL_does 25 = .ok (.iand, 1) := by decide +kernel
theorem dL_does_26 : decode cL_does 26 = .ok (.tableswitch 256 0 14 #[74, 74, 74, 74, 114, 130, 146, 158, 158, 169, 169, 169, 184, 208, 232], 74) := by decide +kernel
theorem dL_does_100 : decode cL_does 100 = .ok (.aload_n 0, 1) := by decide +kernel
theorem dL_does_101 : decode cL_does 101 = .ok (.iload 6, 2) := by decide +kernel
theorem dL_does_103 : decode cL_does 103 = .ok (.iload 6, 2) := by decide +kernel
theorem dL_does_105 : decode cL_does 105 = .ok (.iconst 1, 1) := by decide +kernel
theorem dL_does_106 : decode cL_does 106 = .ok (.iadd, 1) := by decide +kernel
theorem dL_does_107 : decode cL_does 107 = .ok (.iload_n 2, 1) := by decide +kernel
theorem dL_does_108 : decode cL_does 108 = .ok (.iconst 4, 1) := by decide +kernel
theorem dL_does_109 : decode cL_does 109 = .ok (.ishr, 1) := by decide +kernel
theorem dL_does_110 : decode cL_does 110 = .ok (.sipush 255, 3) := by decide +kernel
theorem dL_does_113 : decode cL_does 113 = .ok (.iand, 1) := by decide +kernel
theorem dL_does_114 : decode cL_does 114 = .ok (.iload 5, 2) := by decide +kernel
theorem dL_does_116 : decode cL_does 116 = .ok (.iconst 1, 1) := by decide +kernel
theorem dL_does_117 : decode cL_does 117 = .ok (.isub, 1) := by decide +kernel
theorem dL_does_118 : decode cL_does 118 = .ok (.irem, 1) := by decide +kernel
theorem dL_does_119 : decode cL_does 119 = .ok (.iadd, 1) := by decide +kernel
theorem dL_does_120 : decode cL_does 120 = .ok (.iload 5, 2) := by decide +kernel
theorem dL_does_122 : decode cL_does 122 = .ok (.irem, 1) := by decide +kernel
theorem dL_does_123 : decode cL_does 123 = .ok (.iconst 1, 1) := by decide +kernel
theorem dL_does_124 : decode cL_does 124 = .ok (.iload_n 2, 1) := by decide +kernel
theorem dL_does_125 : decode cL_does 125 = .ok (.bipush 6, 2) := by decide +kernel
theorem dL_does_127 : decode cL_does 127 = .ok (.ishr, 1) := by decide +kernel
theorem dL_does_128 : decode cL_does 128 = .ok (.bipush 7, 2) := by decide +kernel
theorem dL_does_130 : decode cL_does 130 = .ok (.iand, 1) := by decide +kernel
theorem dL_does_131 : decode cL_does 131 = .ok (.iadd, 1) := by decide +kernel
theorem dL_does_132 : decode cL_does 132 = .ok (.invokevirtual 159, 3) := by decide +kernel
theorem dL_does_135 : decode cL_does 135 = .ok (.istore 7, 2) := by decide +kernel
theorem dL_does_137 : decode cL_does 137 = .ok (.goto 159, 3) := by decide +kernel
theorem dL_does_140 : decode cL_does 140 = .ok (.aload_n 0, 1) := by decide +kernel
theorem dL_does_141 : decode cL_does 141 = .ok (.iload 6, 2) := by decide +kernel
theorem dL_does_143 : decode cL_does 143 = .ok (.iload_n 2, 1) := by decide +kernel
theorem dL_does_144 : decode cL_does 144 = .ok (.iconst 3, 1) := by decide +kernel
theorem dL_does_145 : decode cL_does 145 = .ok (.ishr, 1) := by decide +kernel
theorem dL_does_146 : decode cL_does 146 = .ok (.iconst 3, 1) := by decide +kernel
theorem dL_does_147 : decode cL_does 147 = .ok (.iand, 1) := by decide +kernel
theorem dL_does_148 : decode cL_does 148 = .ok (.invokevirtual 99, 3) := by decide +kernel
theorem dL_does_151 : decode cL_does 151 = .ok (.istore 7, 2) := by decide +kernel
theorem dL_does_153 : decode cL_does 153 = .ok (.goto 143, 3) := by decide +kernel
theorem dL_does_156 : decode cL_does 156 = .ok (.aload_n 0, 1) := by decide +kernel
theorem dL_does_157 : decode cL_does 157 = .ok (.iload 6, 2) := by decide +kernel
theorem dL_does_159 : decode cL_does 159 = .ok (.iload_n 2, 1) := by decide +kernel
theorem dL_does_160 : decode cL_does 160 = .ok (.iconst 3, 1) := by decide +kernel
theorem dL_does_161 : decode cL_does 161 = .ok (.ishr, 1) := by decide +kernel
theorem dL_does_162 : decode cL_does 162 = .ok (.iconst 1, 1) := by decide +kernel
theorem dL_does_163 : decode cL_does 163 = .ok (.iand, 1) := by decide +kernel
theorem dL_does_164 : decode cL_does 164 = .ok (.invokevirtual 141, 3) := by decide +kernel
theorem dL_does_167 : decode cL_does 167 = .ok (.istore 7, 2) := by decide +kernel
theorem dL_does_169 : decode cL_does 169 = .ok (.goto 127, 3) := by decide +kernel
theorem dL_does_172 : decode cL_does 172 = .ok (.aload_n 0, 1) := by decide +kernel
theorem dL_does_173 : decode cL_does 173 = .ok (.iload_n 2, 1) := by decide +kernel
theorem dL_does_174 : decode cL_does 174 = .ok (.iconst 3, 1) := by decide +kernel
theorem dL_does_175 : decode cL_does 175 = .ok (.iand, 1) := by decide +kernel
theorem dL_does_176 : decode cL_does 176 = .ok (.invokevirtual 162, 3) := by decide +kernel
theorem dL_does_179 : decode cL_does 179 = .ok (.istore 7, 2) := by decide +kernel
theorem dL_does_181 : decode cL_does 181 = .ok (.goto 115, 3) := by decide +kernel
theorem dL_does_184 : decode cL_does 184 = .ok (.aload_n 0, 1) := by decide +kernel
theorem dL_does_185 : decode cL_does 185 = .ok (.iload 6, 2) := by decide +kernel
theorem dL_does_187 : decode cL_does 187 = .ok (.invokevirtual 156, 3) := by decide +kernel
theorem dL_does_190 : decode cL_does 190 = .ok (.istore 7, 2) := by decide +kernel
theorem dL_does_192 : decode cL_does 192 = .ok (.goto 104, 3) := by decide +kernel
theorem dL_does_195 : decode cL_does 195 = .ok (.aload_n 0, 1) := by decide +kernel
theorem dL_does_196 : decode cL_does 196 = .ok (.iconst 1, 1) := by decide +kernel
theorem dL_does_197 : decode cL_does 197 = .ok (.iload_n 2, 1) := by decide +kernel
theorem dL_does_198 : decode cL_does 198 = .ok (.bipush 31, 2) := by decide +kernel
theorem dL_does_200 : decode cL_does 200 = .ok (.iand, 1) := by decide +kernel
theorem dL_does_201 : decode cL_does 201 = .ok (.iadd, 1) := by decide +kernel
theorem dL_does_202 : decode cL_does 202 = .ok (.invokevirtual 123, 3) := by decide +kernel
theorem dL_does_205 : decode cL_does 205 = .ok (.istore 7, 2) := by decide +kernel
theorem dL_does_207 : decode cL_does 207 = .ok (.goto 89, 3) := by decide +kernel
theorem dL_does_210 : decode cL_does 210 = .ok (.aload_n 0, 1) := by decide +kernel
theorem dL_does_211 : decode cL_does 211 = .ok (.iload 6, 2) := by decide +kernel
theorem dL_does_213 : decode cL_does 213 = .ok (.iload_n 2, 1) := by decide +kernel
theorem dL_does_214 : decode cL_does 214 = .ok (.iconst 3, 1) := by decide +kernel
theorem dL_does_215 : decode cL_does 215 = .ok (.ishr, 1) := by decide +kernel
theorem dL_does_216 : decode cL_does 216 = .ok (.iconst 1, 1) := by decide +kernel
theorem dL_does_217 : decode cL_does 217 = .ok (.iand, 1) := by decide +kernel
theorem dL_does_218 : decode cL_does 218 = .ok (.iconst 1, 1) := by decide +kernel
theorem dL_does_219 : decode cL_does 219 = .ok (.iload_n 2, 1) := by decide +kernel
theorem dL_does_220 : decode cL_does 220 = .ok (.iconst 4, 1) := by decide +kernel
theorem dL_does_221 : decode cL_does 221 = .ok (.ishr, 1) := by decide +kernel
theorem dL_does_222 : decode cL_does 222 = .ok (.bipush 15, 2) := by decide +kernel
theorem dL_does_224 : decode cL_does 224 = .ok (.iand, 1) := by decide +kernel
theorem dL_does_225 : decode cL_does 225 = .ok (.iadd, 1) := by decide +kernel
theorem dL_does_226 : decode cL_does 226 = .ok (.invokevirtual 165, 3) := by decide +kernel
theorem dL_does_229 : decode cL_does 229 = .ok (.istore 7, 2) := by decide +kernel
theorem dL_does_231 : decode cL_does 231 = .ok (.goto 65, 3) := by decide +kernel
theorem dL_does_234 : decode cL_does 234 = .ok (.aload_n 0, 1) := by decide +kernel
theorem dL_does_235 : decode cL_does 235 = .ok (.iload_n 2, 1) := by decide +kernel
theorem dL_does_236 : decode cL_does 236 = .ok (.sipush 255, 3) := by decide +kernel
theorem dL_does_239 : decode cL_does 239 = .ok (.iand, 1) := by decide +kernel
theorem dL_does_240 : decode cL_does 240 = .ok (.iconst 3, 1) := by decide +kernel
theorem dL_does_241 : decode cL_does 241 = .ok (.irem, 1) := by decide +kernel
theorem dL_does_242 : decode cL_does 242 = .ok (.iconst 1, 1) := by decide +kernel
theorem dL_does_243 : decode cL_does 243 = .ok (.iload_n 2, 1) := by decide +kernel
theorem dL_does_244 : decode cL_does 244 = .ok (.iconst 2, 1) := by decide +kernel
theorem dL_does_245 : decode cL_does 245 = .ok (.ishr, 1) := by decide +kernel
theorem dL_does_246 : decode cL_does 246 = .ok (.bipush 15, 2) := by decide +kernel
theorem dL_does_248 : decode cL_does 248 = .ok (.iand, 1) := by decide +kernel
theorem dL_does_249 : decode cL_does 249 = .ok (.iadd, 1) := by decide +kernel
theorem dL_does_250 : decode cL_does 250 = .ok (.invokevirtual 135, 3) := by decide +kernel
theorem dL_does_253 : decode cL_does 253 = .ok (.istore 7, 2) := by decide +kernel
theorem dL_does_255 : decode cL_does 255 = .ok (.goto 41, 3) := by decide +kernel
theorem dL_does_258 : decode cL_does 258 = .ok (.iload_n 2, 1) := by decide +kernel
theorem dL_does_259 : decode cL_does 259 = .ok (.iconst 1, 1) := by decide +kernel
theorem dL_does_260 : decode cL_does 260 = .ok (.iand, 1) := by decide +kernel
theorem dL_does_261 : decode cL_does 261 = .ok (.ifCond .ne 11, 3) := by decide +kernel
theorem dL_does_264 : decode cL_does 264 = .ok (.aload_n 0, 1) := by decide +kernel
theorem dL_does_265 : decode cL_does 265 = .ok (.iconst 1, 1) := by decide +kernel
theorem dL_does_266 : decode cL_does 266 = .ok (.invokevirtual 168, 3) := by decide +kernel
theorem dL_does_269 : decode cL_does 269 = .ok (.goto 8, 3) := by decide +kernel
theorem dL_does_272 : decode cL_does 272 = .ok (.aload_n 0, 1) := by decide +kernel
theorem dL_does_273 : decode cL_does 273 = .ok (.iconst 1, 1) := by decide +kernel
theorem dL_does_274 : decode cL_does 274 = .ok (.invokevirtual 171, 3) := by decide +kernel
theorem dL_does_277 : decode cL_does 277 = .ok (.istore 7, 2) := by decide +kernel
theorem dL_does_279 : decode cL_does 279 = .ok (.goto 17, 3) := by decide +kernel
theorem dL_does_282 : decode cL_does 282 = .ok (.aload_n 0, 1) := by decide +kernel
theorem dL_does_283 : decode cL_does 283 = .ok (.invokevirtual 126, 3) := by decide +kernel
theorem dL_does_286 : decode cL_does 286 = .ok (.iconst (-1), 1) := by decide +kernel
theorem dL_does_287 : decode cL_does 287 = .ok (.if_icmp .lt 7, 3) := by decide +kernel
theorem dL_does_290 : decode cL_does 290 = .ok (.iconst 1, 1) := by decide +kernel
theorem dL_does_291 : decode cL_does 291 = .ok (.goto 4, 3) := by decide +kernel
theorem dL_does_294 : decode cL_does 294 = .ok (.iconst 0, 1) := by decide +kernel
theorem dL_does_295 : decode cL_does 295 = .ok (.ireturn, 1) := by decide +kernel
theorem dL_does_296 : decode cL_does 296 = .ok (.iload 7, 2) := by decide +kernel
theorem dL_does_298 : decode cL_does 298 = .ok (.ifCond .ge 12, 3) := by decide +kernel
theorem dL_does_301 : decode cL_does 301 = .ok (.aload_n 0, 1) := by decide +kernel
theorem dL_does_302 : decode cL_does 302 = .ok (.invokestatic 129, 3) := by decide +kernel
theorem dL_does_305 : decode cL_does 305 = .ok (.lload_n 3, 1) := by decide +kernel
theorem dL_does_306 : decode cL_does 306 = .ok (.lcmp, 1) := by decide +kernel
theorem dL_does_307 : decode cL_does 307 = .ok (.ifCond .ne 7, 3) := by decide +kernel
theorem dL_does_310 : decode cL_does 310 = .ok (.iconst 1, 1) := by decide +kernel
theorem dL_does_311 : decode cL_does 311 = .ok (.goto 4, 3) := by decide +kernel
theorem dL_does_314 : decode cL_does 314 = .ok (.iconst 0, 1) := by decide +kernel
theorem dL_does_315 : decode cL_does 315 = .ok (.ireturn, 1) := by decide +kernel
theorem dL_law_0 : decode cL_law 0 = .ok (.bipush 6, 2) := by decide +kernel
theorem dL_law_2 : decode cL_law 2 = .ok (.newarray .int, 2) := by decide +kernel
theorem dL_law_4 : decode cL_law 4 = .ok (.astore_n 1, 1) := by decide +kernel
theorem dL_law_5 : decode cL_law 5 = .ok (.iconst 0, 1) := by decide +kernel
theorem dL_law_6 : decode cL_law 6 = .ok (.istore_n 2, 1) := by decide +kernel
theorem dL_law_7 : decode cL_law 7 = .ok (.iload_n 2, 1) := by decide +kernel
theorem dL_law_8 : decode cL_law 8 = .ok (.bipush 6, 2) := by decide +kernel
theorem dL_law_10 : decode cL_law 10 = .ok (.if_icmp .ge 24, 3) := by decide +kernel
theorem dL_law_13 : decode cL_law 13 = .ok (.iload_n 2, 1) := by decide +kernel
theorem dL_law_14 : decode cL_law 14 = .ok (.aload_n 0, 1) := by decide +kernel
theorem dL_law_15 : decode cL_law 15 = .ok (.arraylength, 1) := by decide +kernel
theorem dL_law_16 : decode cL_law 16 = .ok (.if_icmp .ge 18, 3) := by decide +kernel
theorem dL_law_19 : decode cL_law 19 = .ok (.aload_n 1, 1) := by decide +kernel
theorem dL_law_20 : decode cL_law 20 = .ok (.iload_n 2, 1) := by decide +kernel
theorem dL_law_21 : decode cL_law 21 = .ok (.aload_n 0, 1) := by decide +kernel
theorem dL_law_22 : decode cL_law 22 = .ok (.iload_n 2, 1) := by decide +kernel
theorem dL_law_23 : decode cL_law 23 = .ok (.iaload, 1) := by decide +kernel
theorem dL_law_24 : decode cL_law 24 = .ok (.ldc 174, 2) := by decide +kernel
theorem dL_law_26 : decode cL_law 26 = .ok (.iand, 1) := by decide +kernel
theorem dL_law_27 : decode cL_law 27 = .ok (.iastore, 1) := by decide +kernel
theorem dL_law_28 : decode cL_law 28 = .ok (.iinc 2 1, 3) := by decide +kernel
theorem dL_law_31 : decode cL_law 31 = .ok (.goto (-24), 3) := by decide +kernel
theorem dL_law_34 : decode cL_law 34 = .ok (.new 18, 3) := by decide +kernel
theorem dL_law_37 : decode cL_law 37 = .ok (.dup, 1) := by decide +kernel
theorem dL_law_38 : decode cL_law 38 = .ok (.invokespecial 175, 3) := by decide +kernel
theorem dL_law_41 : decode cL_law 41 = .ok (.astore_n 2, 1) := by decide +kernel
theorem dL_law_42 : decode cL_law 42 = .ok (.aload_n 2, 1) := by decide +kernel
theorem dL_law_43 : decode cL_law 43 = .ok (.invokevirtual 126, 3) := by decide +kernel
theorem dL_law_46 : decode cL_law 46 = .ok (.iconst (-1), 1) := by decide +kernel
theorem dL_law_47 : decode cL_law 47 = .ok (.if_icmp .ne 83, 3) := by decide +kernel
theorem dL_law_50 : decode cL_law 50 = .ok (.aload_n 2, 1) := by decide +kernel
theorem dL_law_51 : decode cL_law 51 = .ok (.iconst 0, 1) := by decide +kernel
theorem dL_law_52 : decode cL_law 52 = .ok (.invokevirtual 73, 3) := by decide +kernel
theorem dL_law_55 : decode cL_law 55 = .ok (.bipush 6, 2) := by decide +kernel
theorem dL_law_57 : decode cL_law 57 = .ok (.if_icmp .ne 73, 3) := by decide +kernel
theorem dL_law_60 : decode cL_law 60 = .ok (.aload_n 2, 1) := by decide +kernel
theorem dL_law_61 : decode cL_law 61 = .ok (.iconst 1, 1) := by decide +kernel
theorem dL_law_62 : decode cL_law 62 = .ok (.invokevirtual 73, 3) := by decide +kernel
theorem dL_law_65 : decode cL_law 65 = .ok (.bipush 10, 2) := by decide +kernel
theorem dL_law_67 : decode cL_law 67 = .ok (.if_icmp .ne 63, 3) := by decide +kernel
theorem dL_law_70 : decode cL_law 70 = .ok (.aload_n 2, 1) := by decide +kernel
theorem dL_law_71 : decode cL_law 71 = .ok (.iconst 2, 1) := by decide +kernel
theorem dL_law_72 : decode cL_law 72 = .ok (.invokevirtual 73, 3) := by decide +kernel
theorem dL_law_75 : decode cL_law 75 = .ok (.bipush 30, 2) := by decide +kernel
theorem dL_law_77 : decode cL_law 77 = .ok (.if_icmp .ne 53, 3) := by decide +kernel
theorem dL_law_80 : decode cL_law 80 = .ok (.aload_n 2, 1) := by decide +kernel
theorem dL_law_81 : decode cL_law 81 = .ok (.invokevirtual 102, 3) := by decide +kernel
theorem dL_law_84 : decode cL_law 84 = .ok (.bipush 6, 2) := by decide +kernel
theorem dL_law_86 : decode cL_law 86 = .ok (.if_icmp .ne 44, 3) := by decide +kernel
theorem dL_law_89 : decode cL_law 89 = .ok (.aload_n 2, 1) := by decide +kernel
theorem dL_law_90 : decode cL_law 90 = .ok (.invokevirtual 105, 3) := by decide +kernel
theorem dL_law_93 : decode cL_law 93 = .ok (.iconst 1, 1) := by decide +kernel
theorem dL_law_94 : decode cL_law 94 = .ok (.if_icmp .ne 36, 3) := by decide +kernel
theorem dL_law_97 : decode cL_law 97 = .ok (.aload_n 2, 1) := by decide +kernel
theorem dL_law_98 : decode cL_law 98 = .ok (.invokevirtual 147, 3) := by decide +kernel
theorem dL_law_101 : decode cL_law 101 = .ok (.ifCond .ne 29, 3) := by decide +kernel
theorem dL_law_104 : decode cL_law 104 = .ok (.aload_n 2, 1) := by decide +kernel
theorem dL_law_105 : decode cL_law 105 = .ok (.iconst 0, 1) := by decide +kernel
theorem dL_law_106 : decode cL_law 106 = .ok (.invokevirtual 144, 3) := by decide +kernel
theorem dL_law_109 : decode cL_law 109 = .ok (.ifCond .ne 21, 3) := by decide +kernel
theorem dL_law_112 : decode cL_law 112 = .ok (.aload_n 2, 1) := by decide +kernel
theorem dL_law_113 : decode cL_law 113 = .ok (.invokestatic 176, 3) := by decide +kernel
theorem dL_law_116 : decode cL_law 116 = .ok (.ifCond .eq 14, 3) := by decide +kernel
theorem dL_law_119 : decode cL_law 119 = .ok (.aload_n 2, 1) := by decide +kernel
theorem dL_law_120 : decode cL_law 120 = .ok (.invokestatic 180, 3) := by decide +kernel
theorem dL_law_123 : decode cL_law 123 = .ok (.ifCond .eq 7, 3) := by decide +kernel
theorem dL_law_126 : decode cL_law 126 = .ok (.iconst 1, 1) := by decide +kernel
theorem dL_law_127 : decode cL_law 127 = .ok (.goto 4, 3) := by decide +kernel
theorem dL_law_130 : decode cL_law 130 = .ok (.iconst 0, 1) := by decide +kernel
theorem dL_law_131 : decode cL_law 131 = .ok (.istore_n 3, 1) := by decide +kernel
theorem dL_law_132 : decode cL_law 132 = .ok (.iconst 0, 1) := by decide +kernel
theorem dL_law_133 : decode cL_law 133 = .ok (.istore 4, 2) := by decide +kernel
theorem dL_law_135 : decode cL_law 135 = .ok (.iload 4, 2) := by decide +kernel
theorem dL_law_137 : decode cL_law 137 = .ok (.iconst 1, 1) := by decide +kernel
theorem dL_law_138 : decode cL_law 138 = .ok (.iadd, 1) := by decide +kernel
theorem dL_law_139 : decode cL_law 139 = .ok (.bipush 6, 2) := by decide +kernel
theorem dL_law_141 : decode cL_law 141 = .ok (.if_icmp .ge 315, 3) := by decide +kernel
theorem dL_law_144 : decode cL_law 144 = .ok (.iload_n 3, 1) := by decide +kernel
theorem dL_law_145 : decode cL_law 145 = .ok (.ifCond .eq 311, 3) := by decide +kernel
theorem dL_law_148 : decode cL_law 148 = .ok (.iload 4, 2) := by decide +kernel
theorem dL_law_150 : decode cL_law 150 = .ok (.iconst 2, 1) := by decide +kernel
theorem dL_law_151 : decode cL_law 151 = .ok (.if_icmp .eq 53, 3) := by decide +kernel
theorem dL_law_154 : decode cL_law 154 = .ok (.aload_n 2, 1) := by decide +kernel
theorem dL_law_155 : decode cL_law 155 = .ok (.aload_n 1, 1) := by decide +kernel
theorem dL_law_156 : decode cL_law 156 = .ok (.iload 4, 2) := by decide +kernel
theorem dL_law_158 : decode cL_law 158 = .ok (.iaload, 1) := by decide +kernel
theorem dL_law_159 : decode cL_law 159 = .ok (.aload_n 1, 1) := by decide +kernel
theorem dL_law_160 : decode cL_law 160 = .ok (.iload 4, 2) := by decide +kernel
theorem dL_law_162 : decode cL_law 162 = .ok (.iconst 1, 1) := by decide +kernel
theorem dL_law_163 : decode cL_law 163 = .ok (.iadd, 1) := by decide +kernel
theorem dL_law_164 : decode cL_law 164 = .ok (.iaload, 1) := by decide +kernel
theorem dL_law_165 : decode cL_law 165 = .ok (.invokestatic 183, 3) := by decide +kernel
theorem dL_law_168 : decode cL_law 168 = .ok (.invokestatic 187, 3) := by decide +kernel
theorem dL_law_171 : decode cL_law 171 = .ok (.ifCond .eq 31, 3) := by decide +kernel
theorem dL_law_174 : decode cL_law 174 = .ok (.aload_n 2, 1) := by decide +kernel
theorem dL_law_175 : decode cL_law 175 = .ok (.invokevirtual 191, 3) := by decide +kernel
theorem dL_law_178 : decode cL_law 178 = .ok (.ifCond .lt 24, 3) := by decide +kernel
theorem dL_law_181 : decode cL_law 181 = .ok (.aload_n 2, 1) := by decide +kernel
theorem dL_law_182 : decode cL_law 182 = .ok (.invokevirtual 194, 3) := by decide +kernel
theorem dL_law_185 : decode cL_law 185 = .ok (.bipush (-2), 2) := by decide +kernel
theorem dL_law_187 : decode cL_law 187 = .ok (.if_icmp .ne 15, 3) := by decide +kernel
theorem dL_law_190 : decode cL_law 190 = .ok (.aload_n 2, 1) := by decide +kernel
theorem dL_law_191 : decode cL_law 191 = .ok (.invokevirtual 126, 3) := by decide +kernel
theorem dL_law_194 : decode cL_law 194 = .ok (.iconst (-1), 1) := by decide +kernel
theorem dL_law_195 : decode cL_law 195 = .ok (.if_icmp .ne 7, 3) := by decide +kernel
theorem dL_law_198 : decode cL_law 198 = .ok (.iconst 1, 1) := by decide +kernel
theorem dL_law_199 : decode cL_law 199 = .ok (.goto 4, 3) := by decide +kernel
theorem dL_law_202 : decode cL_law 202 = .ok (.iconst 0, 1) := by decide +kernel
theorem dL_law_203 : decode cL_law 203 = .ok (.istore_n 3, 1) := by decide +kernel
theorem dL_law_204 : decode cL_law 204 = .ok (.iconst 0, 1) := by decide +kernel
theorem dL_law_205 : decode cL_law 205 = .ok (.istore 5, 2) := by decide +kernel
theorem dL_law_207 : decode cL_law 207 = .ok (.iload 5, 2) := by decide +kernel
theorem dL_law_209 : decode cL_law 209 = .ok (.bipush 7, 2) := by decide +kernel
theorem dL_law_211 : decode cL_law 211 = .ok (.if_icmp .ge 38, 3) := by decide +kernel
theorem dL_law_214 : decode cL_law 214 = .ok (.iload_n 3, 1) := by decide +kernel
theorem dL_law_215 : decode cL_law 215 = .ok (.ifCond .eq 34, 3) := by decide +kernel
theorem dL_law_218 : decode cL_law 218 = .ok (.aload_n 2, 1) := by decide +kernel
theorem dL_law_219 : decode cL_law 219 = .ok (.aload_n 1, 1) := by decide +kernel
theorem dL_law_220 : decode cL_law 220 = .ok (.iload 4, 2) := by decide +kernel
theorem dL_law_222 : decode cL_law 222 = .ok (.iaload, 1) := by decide +kernel
theorem dL_law_223 : decode cL_law 223 = .ok (.iconst 3, 1) := by decide +kernel
theorem dL_law_224 : decode cL_law 224 = .ok (.iload 5, 2) := by decide +kernel
theorem dL_law_226 : decode cL_law 226 = .ok (.imul, 1) := by decide +kernel
theorem dL_law_227 : decode cL_law 227 = .ok (.ishr, 1) := by decide +kernel
theorem dL_law_228 : decode cL_law 228 = .ok (.aload_n 1, 1) := by decide +kernel
theorem dL_law_229 : decode cL_law 229 = .ok (.iload 4, 2) := by decide +kernel
theorem dL_law_231 : decode cL_law 231 = .ok (.iconst 1, 1) := by decide +kernel
theorem dL_law_232 : decode cL_law 232 = .ok (.iadd, 1) := by decide +kernel
theorem dL_law_233 : decode cL_law 233 = .ok (.iaload, 1) := by decide +kernel
theorem dL_law_234 : decode cL_law 234 = .ok (.iconst 2, 1) := by decide +kernel
theorem dL_law_235 : decode cL_law 235 = .ok (.iload 5, 2) := by decide +kernel
theorem dL_law_237 : decode cL_law 237 = .ok (.imul, 1) := by decide +kernel
theorem dL_law_238 : decode cL_law 238 = .ok (.ishr, 1) := by decide +kernel
theorem dL_law_239 : decode cL_law 239 = .ok (.invokestatic 197, 3) := by decide +kernel
theorem dL_law_242 : decode cL_law 242 = .ok (.istore_n 3, 1) := by decide +kernel
theorem dL_law_243 : decode cL_law 243 = .ok (.iinc 5 1, 3) := by decide +kernel
theorem dL_law_246 : decode cL_law 246 = .ok (.goto (-39), 3) := by decide +kernel
theorem dL_law_249 : decode cL_law 249 = .ok (.iload_n 3, 1) := by decide +kernel
theorem dL_law_250 : decode cL_law 250 = .ok (.ifCond .eq 10, 3) := by decide +kernel
theorem dL_law_253 : decode cL_law 253 = .ok (.aload_n 2, 1) := by decide +kernel
theorem dL_law_254 : decode cL_law 254 = .ok (.invokestatic 129, 3) := by decide +kernel
theorem dL_law_257 : decode cL_law 257 = .ok (.goto 4, 3) := by decide +kernel
theorem dL_law_260 : decode cL_law 260 = .ok (.lconst 0, 1) := by decide +kernel
theorem dL_law_261 : decode cL_law 261 = .ok (.lstore 5, 2) := by decide +kernel
theorem dL_law_263 : decode cL_law 263 = .ok (.iload_n 3, 1) := by decide +kernel
theorem dL_law_264 : decode cL_law 264 = .ok (.ifCond .eq 58, 3) := by decide +kernel
theorem dL_law_267 : decode cL_law 267 = .ok (.aload_n 2, 1) := by decide +kernel
theorem dL_law_268 : decode cL_law 268 = .ok (.invokestatic 176, 3) := by decide +kernel
theorem dL_law_271 : decode cL_law 271 = .ok (.ifCond .eq 51, 3) := by decide +kernel
theorem dL_law_274 : decode cL_law 274 = .ok (.aload_n 2, 1) := by decide +kernel
theorem dL_law_275 : decode cL_law 275 = .ok (.invokestatic 129, 3) := by decide +kernel
theorem dL_law_278 : decode cL_law 278 = .ok (.lload 5, 2) := by decide +kernel
theorem dL_law_280 : decode cL_law 280 = .ok (.lcmp, 1) := by decide +kernel
theorem dL_law_281 : decode cL_law 281 = .ok (.ifCond .ne 41, 3) := by decide +kernel
theorem dL_law_284 : decode cL_law 284 = .ok (.aload_n 2, 1) := by decide +kernel
theorem dL_law_285 : decode cL_law 285 = .ok (.invokestatic 180, 3) := by decide +kernel
theorem dL_law_288 : decode cL_law 288 = .ok (.ifCond .eq 34, 3) := by decide +kernel
theorem dL_law_291 : decode cL_law 291 = .ok (.aload_n 2, 1) := by decide +kernel
theorem dL_law_292 : decode cL_law 292 = .ok (.invokestatic 129, 3) := by decide +kernel
theorem dL_law_295 : decode cL_law 295 = .ok (.lload 5, 2) := by decide +kernel
theorem dL_law_297 : decode cL_law 297 = .ok (.lcmp, 1) := by decide +kernel
theorem dL_law_298 : decode cL_law 298 = .ok (.ifCond .ne 24, 3) := by decide +kernel
theorem dL_law_301 : decode cL_law 301 = .ok (.aload_n 2, 1) := by decide +kernel
theorem dL_law_302 : decode cL_law 302 = .ok (.aload_n 1, 1) := by decide +kernel
theorem dL_law_303 : decode cL_law 303 = .ok (.iload 4, 2) := by decide +kernel
theorem dL_law_305 : decode cL_law 305 = .ok (.iaload, 1) := by decide +kernel
theorem dL_law_306 : decode cL_law 306 = .ok (.aload_n 1, 1) := by decide +kernel
theorem dL_law_307 : decode cL_law 307 = .ok (.iload 4, 2) := by decide +kernel
theorem dL_law_309 : decode cL_law 309 = .ok (.iconst 1, 1) := by decide +kernel
theorem dL_law_310 : decode cL_law 310 = .ok (.iadd, 1) := by decide +kernel
theorem dL_law_311 : decode cL_law 311 = .ok (.iaload, 1) := by decide +kernel
theorem dL_law_312 : decode cL_law 312 = .ok (.invokestatic 201, 3) := by decide +kernel
theorem dL_law_315 : decode cL_law 315 = .ok (.ifCond .eq 7, 3) := by decide +kernel
theorem dL_law_318 : decode cL_law 318 = .ok (.iconst 1, 1) := by decide +kernel
theorem dL_law_319 : decode cL_law 319 = .ok (.goto 4, 3) := by decide +kernel
theorem dL_law_322 : decode cL_law 322 = .ok (.iconst 0, 1) := by decide +kernel
theorem dL_law_323 : decode cL_law 323 = .ok (.istore_n 3, 1) := by decide +kernel
theorem dL_law_324 : decode cL_law 324 = .ok (.iload 4, 2) := by decide +kernel
theorem dL_law_326 : decode cL_law 326 = .ok (.iconst 4, 1) := by decide +kernel
theorem dL_law_327 : decode cL_law 327 = .ok (.if_icmp .lt 123, 3) := by decide +kernel
theorem dL_law_330 : decode cL_law 330 = .ok (.iload_n 3, 1) := by decide +kernel
theorem dL_law_331 : decode cL_law 331 = .ok (.ifCond .ne 6, 3) := by decide +kernel
theorem dL_law_334 : decode cL_law 334 = .ok (.goto 116, 3) := by decide +kernel
theorem dL_law_337 : decode cL_law 337 = .ok (.aload_n 2, 1) := by decide +kernel
theorem dL_law_338 : decode cL_law 338 = .ok (.invokestatic 204, 3) := by decide +kernel
theorem dL_law_341 : decode cL_law 341 = .ok (.astore 7, 2) := by decide +kernel
theorem dL_law_343 : decode cL_law 343 = .ok (.new 18, 3) := by decide +kernel
theorem dL_law_346 : decode cL_law 346 = .ok (.dup, 1) := by decide +kernel
theorem dL_law_347 : decode cL_law 347 = .ok (.invokespecial 175, 3) := by decide +kernel
theorem dL_law_350 : decode cL_law 350 = .ok (.astore 8, 2) := by decide +kernel
theorem dL_law_352 : decode cL_law 352 = .ok (.aload 8, 2) := by decide +kernel
theorem dL_law_354 : decode cL_law 354 = .ok (.aload 7, 2) := by decide +kernel
theorem dL_law_356 : decode cL_law 356 = .ok (.invokestatic 187, 3) := by decide +kernel
theorem dL_law_359 : decode cL_law 359 = .ok (.ifCond .eq 89, 3) := by decide +kernel
theorem dL_law_362 : decode cL_law 362 = .ok (.aload 8, 2) := by decide +kernel
theorem dL_law_364 : decode cL_law 364 = .ok (.invokevirtual 191, 3) := by decide +kernel
theorem dL_law_367 : decode cL_law 367 = .ok (.aload_n 2, 1) := by decide +kernel
theorem dL_law_368 : decode cL_law 368 = .ok (.iconst 4, 1) := by decide +kernel
theorem dL_law_369 : decode cL_law 369 = .ok (.invokevirtual 73, 3) := by decide +kernel
theorem dL_law_372 : decode cL_law 372 = .ok (.if_icmp .ne 76, 3) := by decide +kernel
theorem dL_law_375 : decode cL_law 375 = .ok (.aload 8, 2) := by decide +kernel
theorem dL_law_377 : decode cL_law 377 = .ok (.invokevirtual 63, 3) := by decide +kernel
theorem dL_law_380 : decode cL_law 380 = .ok (.aload 7, 2) := by decide +kernel
theorem dL_law_382 : decode cL_law 382 = .ok (.invokevirtual 7, 3) := by decide +kernel
theorem dL_law_385 : decode cL_law 385 = .ok (.if_icmp .ne 63, 3) := by decide +kernel
theorem dL_law_388 : decode cL_law 388 = .ok (.aload 8, 2) := by decide +kernel
theorem dL_law_390 : decode cL_law 390 = .ok (.bipush 8, 2) := by decide +kernel
theorem dL_law_392 : decode cL_law 392 = .ok (.invokevirtual 73, 3) := by decide +kernel
theorem dL_law_395 : decode cL_law 395 = .ok (.aload_n 2, 1) := by decide +kernel
theorem dL_law_396 : decode cL_law 396 = .ok (.bipush 8, 2) := by decide +kernel
theorem dL_law_398 : decode cL_law 398 = .ok (.invokevirtual 73, 3) := by decide +kernel
theorem dL_law_401 : decode cL_law 401 = .ok (.if_icmp .ne 47, 3) := by decide +kernel
theorem dL_law_404 : decode cL_law 404 = .ok (.aload 8, 2) := by decide +kernel
theorem dL_law_406 : decode cL_law 406 = .ok (.bipush 9, 2) := by decide +kernel
theorem dL_law_408 : decode cL_law 408 = .ok (.invokevirtual 73, 3) := by decide +kernel
theorem dL_law_411 : decode cL_law 411 = .ok (.aload_n 2, 1) := by decide +kernel
theorem dL_law_412 : decode cL_law 412 = .ok (.bipush 9, 2) := by decide +kernel
theorem dL_law_414 : decode cL_law 414 = .ok (.invokevirtual 73, 3) := by decide +kernel
theorem dL_law_417 : decode cL_law 417 = .ok (.if_icmp .ne 31, 3) := by decide +kernel
theorem dL_law_420 : decode cL_law 420 = .ok (.aload 8, 2) := by decide +kernel
theorem dL_law_422 : decode cL_law 422 = .ok (.invokevirtual 102, 3) := by decide +kernel
theorem dL_law_425 : decode cL_law 425 = .ok (.aload_n 2, 1) := by decide +kernel
theorem dL_law_426 : decode cL_law 426 = .ok (.invokevirtual 102, 3) := by decide +kernel
theorem dL_law_429 : decode cL_law 429 = .ok (.if_icmp .ne 19, 3) := by decide +kernel
theorem dL_law_432 : decode cL_law 432 = .ok (.aload 8, 2) := by decide +kernel
theorem dL_law_434 : decode cL_law 434 = .ok (.invokevirtual 105, 3) := by decide +kernel
theorem dL_law_437 : decode cL_law 437 = .ok (.aload_n 2, 1) := by decide +kernel
theorem dL_law_438 : decode cL_law 438 = .ok (.invokevirtual 105, 3) := by decide +kernel
theorem dL_law_441 : decode cL_law 441 = .ok (.if_icmp .ne 7, 3) := by decide +kernel
theorem dL_law_444 : decode cL_law 444 = .ok (.iconst 1, 1) := by decide +kernel
theorem dL_law_445 : decode cL_law 445 = .ok (.goto 4, 3) := by decide +kernel
theorem dL_law_448 : decode cL_law 448 = .ok (.iconst 0, 1) := by decide +kernel
theorem dL_law_449 : decode cL_law 449 = .ok (.istore_n 3, 1) := by decide +kernel
theorem dL_law_450 : decode cL_law 450 = .ok (.iinc 4 2, 3) := by decide +kernel
theorem dL_law_453 : decode cL_law 453 = .ok (.goto (-318), 3) := by decide +kernel
theorem dL_law_456 : decode cL_law 456 = .ok (.iload_n 3, 1) := by decide +kernel
theorem dL_law_457 : decode cL_law 457 = .ok (.ireturn, 1) := by decide +kernel
