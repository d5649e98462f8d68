/-! the law: calls -/
theorem dL_law_387 : decode code 387 = .ok (.aload_n 1, 1) := by decide +kernel
theorem dL_law_388 : decode code 388 = .ok (.invokevirtual 170, 3) := by decide +kernel
theorem dL_law_391 : decode code 391 = .ok (.aload_n 2, 1) := by decide +kernel
theorem dL_law_392 : decode code 392 = .ok (.invokevirtual 173, 3) := by decide +kernel
theorem dL_law_395 : decode code 395 = .ok (.if_icmp .eq 2644, 3) := by decide +kernel
theorem dL_law_400 : decode code 400 = .ok (.aload_n 1, 1) := by decide +kernel
theorem dL_law_401 : decode code 401 = .ok (.invokevirtual 174, 3) := by decide +kernel
theorem dL_law_404 : decode code 404 = .ok (.aload_n 2, 1) := by decide +kernel
theorem dL_law_405 : decode code 405 = .ok (.invokevirtual 177, 3) := by decide +kernel
theorem dL_law_408 : decode code 408 = .ok (.if_icmp .eq 2631, 3) := by decide +kernel
theorem dL_law_413 : decode code 413 = .ok (.aload_n 1, 1) := by decide +kernel
theorem dL_law_414 : decode code 414 = .ok (.aload_n 0, 1) := by decide +kernel
theorem dL_law_415 : decode code 415 = .ok (.iload 5, 2) := by decide +kernel
theorem dL_law_417 : decode code 417 = .ok (.iconst 1, 1) := by decide +kernel
theorem dL_law_418 : decode code 418 = .ok (.iadd, 1) := by decide +kernel
theorem dL_law_419 : decode code 419 = .ok (.iaload, 1) := by decide +kernel
theorem dL_law_420 : decode code 420 = .ok (.aload_n 0, 1) := by decide +kernel
theorem dL_law_421 : decode code 421 = .ok (.iload 5, 2) := by decide +kernel
theorem dL_law_423 : decode code 423 = .ok (.iconst 2, 1) := by decide +kernel
theorem dL_law_424 : decode code 424 = .ok (.iadd, 1) := by decide +kernel
theorem dL_law_425 : decode code 425 = .ok (.iaload, 1) := by decide +kernel
theorem dL_law_426 : decode code 426 = .ok (.aload_n 3, 1) := by decide +kernel
theorem dL_law_427 : decode code 427 = .ok (.invokestatic 178, 3) := by decide +kernel
theorem dL_law_430 : decode code 430 = .ok (.istore 6, 2) := by decide +kernel
theorem dL_law_432 : decode code 432 = .ok (.aload_n 2, 1) := by decide +kernel
theorem dL_law_433 : decode code 433 = .ok (.aload_n 0, 1) := by decide +kernel
theorem dL_law_434 : decode code 434 = .ok (.iload 5, 2) := by decide +kernel
theorem dL_law_436 : decode code 436 = .ok (.iconst 1, 1) := by decide +kernel
theorem dL_law_437 : decode code 437 = .ok (.iadd, 1) := by decide +kernel
theorem dL_law_438 : decode code 438 = .ok (.iaload, 1) := by decide +kernel
theorem dL_law_439 : decode code 439 = .ok (.aload_n 0, 1) := by decide +kernel
theorem dL_law_440 : decode code 440 = .ok (.iload 5, 2) := by decide +kernel
theorem dL_law_442 : decode code 442 = .ok (.iconst 2, 1) := by decide +kernel
theorem dL_law_443 : decode code 443 = .ok (.iadd, 1) := by decide +kernel
theorem dL_law_444 : decode code 444 = .ok (.iaload, 1) := by decide +kernel
theorem dL_law_445 : decode code 445 = .ok (.invokevirtual 181, 3) := by decide +kernel
theorem dL_law_448 : decode code 448 = .ok (.istore 7, 2) := by decide +kernel
theorem dL_law_450 : decode code 450 = .ok (.aload_n 2, 1) := by decide +kernel
theorem dL_law_451 : decode code 451 = .ok (.invokevirtual 154, 3) := by decide +kernel
theorem dL_law_454 : decode code 454 = .ok (.iload 6, 2) := by decide +kernel
theorem dL_law_456 : decode code 456 = .ok (.if_icmp .eq 5, 3) := by decide +kernel
theorem dL_law_461 : decode code 461 = .ok (.iload 6, 2) := by decide +kernel
theorem dL_law_463 : decode code 463 = .ok (.ifCond .ne 15, 3) := by decide +kernel
theorem dL_law_466 : decode code 466 = .ok (.aload_n 3, 1) := by decide +kernel
theorem dL_law_467 : decode code 467 = .ok (.iconst 0, 1) := by decide +kernel
theorem dL_law_468 : decode code 468 = .ok (.laload, 1) := by decide +kernel
theorem dL_law_469 : decode code 469 = .ok (.iload 7, 2) := by decide +kernel
theorem dL_law_471 : decode code 471 = .ok (.i2l, 1) := by decide +kernel
theorem dL_law_472 : decode code 472 = .ok (.lcmp, 1) := by decide +kernel
theorem dL_law_473 : decode code 473 = .ok (.ifCond .eq 5, 3) := by decide +kernel
theorem dL_law_478 : decode code 478 = .ok (.goto 2561, 3) := by decide +kernel
theorem dL_law_481 : decode code 481 = .ok (.aload_n 1, 1) := by decide +kernel
theorem dL_law_482 : decode code 482 = .ok (.aload_n 0, 1) := by decide +kernel
theorem dL_law_483 : decode code 483 = .ok (.iload 5, 2) := by decide +kernel
theorem dL_law_485 : decode code 485 = .ok (.iconst 1, 1) := by decide +kernel
theorem dL_law_486 : decode code 486 = .ok (.iadd, 1) := by decide +kernel
theorem dL_law_487 : decode code 487 = .ok (.iaload, 1) := by decide +kernel
theorem dL_law_488 : decode code 488 = .ok (.aload_n 3, 1) := by decide +kernel
theorem dL_law_489 : decode code 489 = .ok (.invokestatic 182, 3) := by decide +kernel
theorem dL_law_492 : decode code 492 = .ok (.istore 6, 2) := by decide +kernel
theorem dL_law_494 : decode code 494 = .ok (.aload_n 2, 1) := by decide +kernel
theorem dL_law_495 : decode code 495 = .ok (.aload_n 0, 1) := by decide +kernel
theorem dL_law_496 : decode code 496 = .ok (.iload 5, 2) := by decide +kernel
theorem dL_law_498 : decode code 498 = .ok (.iconst 1, 1) := by decide +kernel
theorem dL_law_499 : decode code 499 = .ok (.iadd, 1) := by decide +kernel
theorem dL_law_500 : decode code 500 = .ok (.iaload, 1) := by decide +kernel
theorem dL_law_501 : decode code 501 = .ok (.invokevirtual 184, 3) := by decide +kernel
theorem dL_law_504 : decode code 504 = .ok (.istore 7, 2) := by decide +kernel
theorem dL_law_506 : decode code 506 = .ok (.aload_n 2, 1) := by decide +kernel
theorem dL_law_507 : decode code 507 = .ok (.invokevirtual 154, 3) := by decide +kernel
theorem dL_law_510 : decode code 510 = .ok (.iload 6, 2) := by decide +kernel
theorem dL_law_512 : decode code 512 = .ok (.if_icmp .eq 5, 3) := by decide +kernel
theorem dL_law_517 : decode code 517 = .ok (.iload 6, 2) := by decide +kernel
theorem dL_law_519 : decode code 519 = .ok (.ifCond .ne 22, 3) := by decide +kernel
theorem dL_law_522 : decode code 522 = .ok (.aload_n 3, 1) := by decide +kernel
theorem dL_law_523 : decode code 523 = .ok (.iconst 0, 1) := by decide +kernel
theorem dL_law_524 : decode code 524 = .ok (.laload, 1) := by decide +kernel
theorem dL_law_525 : decode code 525 = .ok (.iload 7, 2) := by decide +kernel
theorem dL_law_527 : decode code 527 = .ok (.ifCond .eq 7, 3) := by decide +kernel
theorem dL_law_530 : decode code 530 = .ok (.lconst 1, 1) := by decide +kernel
theorem dL_law_531 : decode code 531 = .ok (.goto 4, 3) := by decide +kernel
theorem dL_law_534 : decode code 534 = .ok (.lconst 0, 1) := by decide +kernel
theorem dL_law_535 : decode code 535 = .ok (.lcmp, 1) := by decide +kernel
theorem dL_law_536 : decode code 536 = .ok (.ifCond .eq 5, 3) := by decide +kernel
theorem dL_law_541 : decode code 541 = .ok (.goto 2498, 3) := by decide +kernel
theorem dL_law_544 : decode code 544 = .ok (.aload_n 1, 1) := by decide +kernel
theorem dL_law_545 : decode code 545 = .ok (.aload_n 0, 1) := by decide +kernel
theorem dL_law_546 : decode code 546 = .ok (.iload 5, 2) := by decide +kernel
theorem dL_law_548 : decode code 548 = .ok (.iconst 1, 1) := by decide +kernel
theorem dL_law_549 : decode code 549 = .ok (.iadd, 1) := by decide +kernel
theorem dL_law_550 : decode code 550 = .ok (.iaload, 1) := by decide +kernel
theorem dL_law_551 : decode code 551 = .ok (.aload_n 3, 1) := by decide +kernel
theorem dL_law_552 : decode code 552 = .ok (.invokestatic 185, 3) := by decide +kernel
theorem dL_law_555 : decode code 555 = .ok (.istore 6, 2) := by decide +kernel
theorem dL_law_557 : decode code 557 = .ok (.aload_n 2, 1) := by decide +kernel
theorem dL_law_558 : decode code 558 = .ok (.aload_n 0, 1) := by decide +kernel
theorem dL_law_559 : decode code 559 = .ok (.iload 5, 2) := by decide +kernel
theorem dL_law_561 : decode code 561 = .ok (.iconst 1, 1) := by decide +kernel
theorem dL_law_562 : decode code 562 = .ok (.iadd, 1) := by decide +kernel
theorem dL_law_563 : decode code 563 = .ok (.iaload, 1) := by decide +kernel
theorem dL_law_564 : decode code 564 = .ok (.invokevirtual 187, 3) := by decide +kernel
theorem dL_law_567 : decode code 567 = .ok (.istore 7, 2) := by decide +kernel
theorem dL_law_569 : decode code 569 = .ok (.aload_n 2, 1) := by decide +kernel
theorem dL_law_570 : decode code 570 = .ok (.invokevirtual 154, 3) := by decide +kernel
theorem dL_law_573 : decode code 573 = .ok (.iload 6, 2) := by decide +kernel
theorem dL_law_575 : decode code 575 = .ok (.if_icmp .eq 5, 3) := by decide +kernel
theorem dL_law_580 : decode code 580 = .ok (.iload 6, 2) := by decide +kernel
theorem dL_law_582 : decode code 582 = .ok (.ifCond .ne 15, 3) := by decide +kernel
theorem dL_law_585 : decode code 585 = .ok (.aload_n 3, 1) := by decide +kernel
theorem dL_law_586 : decode code 586 = .ok (.iconst 0, 1) := by decide +kernel
theorem dL_law_587 : decode code 587 = .ok (.laload, 1) := by decide +kernel
theorem dL_law_588 : decode code 588 = .ok (.iload 7, 2) := by decide +kernel
theorem dL_law_590 : decode code 590 = .ok (.i2l, 1) := by decide +kernel
theorem dL_law_591 : decode code 591 = .ok (.lcmp, 1) := by decide +kernel
theorem dL_law_592 : decode code 592 = .ok (.ifCond .eq 5, 3) := by decide +kernel
theorem dL_law_597 : decode code 597 = .ok (.goto 2442, 3) := by decide +kernel
theorem dL_law_600 : decode code 600 = .ok (.aload_n 1, 1) := by decide +kernel
theorem dL_law_601 : decode code 601 = .ok (.aload_n 0, 1) := by decide +kernel
theorem dL_law_602 : decode code 602 = .ok (.iload 5, 2) := by decide +kernel
theorem dL_law_604 : decode code 604 = .ok (.iconst 1, 1) := by decide +kernel
theorem dL_law_605 : decode code 605 = .ok (.iadd, 1) := by decide +kernel
theorem dL_law_606 : decode code 606 = .ok (.iaload, 1) := by decide +kernel
theorem dL_law_607 : decode code 607 = .ok (.aload_n 3, 1) := by decide +kernel
theorem dL_law_608 : decode code 608 = .ok (.invokestatic 188, 3) := by decide +kernel
theorem dL_law_611 : decode code 611 = .ok (.istore 6, 2) := by decide +kernel
theorem dL_law_613 : decode code 613 = .ok (.aload_n 2, 1) := by decide +kernel
theorem dL_law_614 : decode code 614 = .ok (.aload_n 0, 1) := by decide +kernel
theorem dL_law_615 : decode code 615 = .ok (.iload 5, 2) := by decide +kernel
theorem dL_law_617 : decode code 617 = .ok (.iconst 1, 1) := by decide +kernel
theorem dL_law_618 : decode code 618 = .ok (.iadd, 1) := by decide +kernel
theorem dL_law_619 : decode code 619 = .ok (.iaload, 1) := by decide +kernel
theorem dL_law_620 : decode code 620 = .ok (.invokevirtual 190, 3) := by decide +kernel
theorem dL_law_623 : decode code 623 = .ok (.istore 7, 2) := by decide +kernel
theorem dL_law_625 : decode code 625 = .ok (.aload_n 2, 1) := by decide +kernel
theorem dL_law_626 : decode code 626 = .ok (.invokevirtual 154, 3) := by decide +kernel
theorem dL_law_629 : decode code 629 = .ok (.iload 6, 2) := by decide +kernel
theorem dL_law_631 : decode code 631 = .ok (.if_icmp .eq 5, 3) := by decide +kernel
theorem dL_law_636 : decode code 636 = .ok (.iload 6, 2) := by decide +kernel
theorem dL_law_638 : decode code 638 = .ok (.ifCond .ne 15, 3) := by decide +kernel
theorem dL_law_641 : decode code 641 = .ok (.aload_n 3, 1) := by decide +kernel
theorem dL_law_642 : decode code 642 = .ok (.iconst 0, 1) := by decide +kernel
theorem dL_law_643 : decode code 643 = .ok (.laload, 1) := by decide +kernel
theorem dL_law_644 : decode code 644 = .ok (.iload 7, 2) := by decide +kernel
theorem dL_law_646 : decode code 646 = .ok (.i2l, 1) := by decide +kernel
theorem dL_law_647 : decode code 647 = .ok (.lcmp, 1) := by decide +kernel
theorem dL_law_648 : decode code 648 = .ok (.ifCond .eq 5, 3) := by decide +kernel
theorem dL_law_653 : decode code 653 = .ok (.goto 2386, 3) := by decide +kernel
theorem dL_law_656 : decode code 656 = .ok (.aload_n 1, 1) := by decide +kernel
theorem dL_law_657 : decode code 657 = .ok (.aload_n 0, 1) := by decide +kernel
theorem dL_law_658 : decode code 658 = .ok (.iload 5, 2) := by decide +kernel
theorem dL_law_660 : decode code 660 = .ok (.iconst 1, 1) := by decide +kernel
theorem dL_law_661 : decode code 661 = .ok (.iadd, 1) := by decide +kernel
theorem dL_law_662 : decode code 662 = .ok (.iaload, 1) := by decide +kernel
theorem dL_law_663 : decode code 663 = .ok (.aload_n 3, 1) := by decide +kernel
theorem dL_law_664 : decode code 664 = .ok (.invokestatic 191, 3) := by decide +kernel
theorem dL_law_667 : decode code 667 = .ok (.istore 6, 2) := by decide +kernel
theorem dL_law_669 : decode code 669 = .ok (.aload_n 2, 1) := by decide +kernel
theorem dL_law_670 : decode code 670 = .ok (.aload_n 0, 1) := by decide +kernel
theorem dL_law_671 : decode code 671 = .ok (.iload 5, 2) := by decide +kernel
theorem dL_law_673 : decode code 673 = .ok (.iconst 1, 1) := by decide +kernel
theorem dL_law_674 : decode code 674 = .ok (.iadd, 1) := by decide +kernel
theorem dL_law_675 : decode code 675 = .ok (.iaload, 1) := by decide +kernel
theorem dL_law_676 : decode code 676 = .ok (.invokevirtual 193, 3) := by decide +kernel
theorem dL_law_679 : decode code 679 = .ok (.istore 7, 2) := by decide +kernel
theorem dL_law_681 : decode code 681 = .ok (.aload_n 2, 1) := by decide +kernel
theorem dL_law_682 : decode code 682 = .ok (.invokevirtual 154, 3) := by decide +kernel
theorem dL_law_685 : decode code 685 = .ok (.iload 6, 2) := by decide +kernel
theorem dL_law_687 : decode code 687 = .ok (.if_icmp .eq 5, 3) := by decide +kernel
theorem dL_law_692 : decode code 692 = .ok (.iload 6, 2) := by decide +kernel
theorem dL_law_694 : decode code 694 = .ok (.ifCond .ne 15, 3) := by decide +kernel
theorem dL_law_697 : decode code 697 = .ok (.aload_n 3, 1) := by decide +kernel
theorem dL_law_698 : decode code 698 = .ok (.iconst 0, 1) := by decide +kernel
theorem dL_law_699 : decode code 699 = .ok (.laload, 1) := by decide +kernel
theorem dL_law_700 : decode code 700 = .ok (.iload 7, 2) := by decide +kernel
theorem dL_law_702 : decode code 702 = .ok (.i2l, 1) := by decide +kernel
theorem dL_law_703 : decode code 703 = .ok (.lcmp, 1) := by decide +kernel
theorem dL_law_704 : decode code 704 = .ok (.ifCond .eq 5, 3) := by decide +kernel
theorem dL_law_709 : decode code 709 = .ok (.goto 2330, 3) := by decide +kernel
theorem dL_law_712 : decode code 712 = .ok (.aload_n 1, 1) := by decide +kernel
theorem dL_law_713 : decode code 713 = .ok (.aload_n 0, 1) := by decide +kernel
theorem dL_law_714 : decode code 714 = .ok (.iload 5, 2) := by decide +kernel
theorem dL_law_716 : decode code 716 = .ok (.iconst 1, 1) := by decide +kernel
theorem dL_law_717 : decode code 717 = .ok (.iadd, 1) := by decide +kernel
theorem dL_law_718 : decode code 718 = .ok (.iaload, 1) := by decide +kernel
theorem dL_law_719 : decode code 719 = .ok (.aload_n 3, 1) := by decide +kernel
theorem dL_law_720 : decode code 720 = .ok (.invokestatic 194, 3) := by decide +kernel
theorem dL_law_723 : decode code 723 = .ok (.istore 6, 2) := by decide +kernel
theorem dL_law_725 : decode code 725 = .ok (.aload_n 2, 1) := by decide +kernel
theorem dL_law_726 : decode code 726 = .ok (.aload_n 0, 1) := by decide +kernel
theorem dL_law_727 : decode code 727 = .ok (.iload 5, 2) := by decide +kernel
theorem dL_law_729 : decode code 729 = .ok (.iconst 1, 1) := by decide +kernel
theorem dL_law_730 : decode code 730 = .ok (.iadd, 1) := by decide +kernel
theorem dL_law_731 : decode code 731 = .ok (.iaload, 1) := by decide +kernel
theorem dL_law_732 : decode code 732 = .ok (.invokevirtual 196, 3) := by decide +kernel
theorem dL_law_735 : decode code 735 = .ok (.istore 7, 2) := by decide +kernel
theorem dL_law_737 : decode code 737 = .ok (.aload_n 2, 1) := by decide +kernel
theorem dL_law_738 : decode code 738 = .ok (.invokevirtual 154, 3) := by decide +kernel
theorem dL_law_741 : decode code 741 = .ok (.iload 6, 2) := by decide +kernel
theorem dL_law_743 : decode code 743 = .ok (.if_icmp .eq 5, 3) := by decide +kernel
theorem dL_law_748 : decode code 748 = .ok (.iload 6, 2) := by decide +kernel
theorem dL_law_750 : decode code 750 = .ok (.ifCond .ne 15, 3) := by decide +kernel
theorem dL_law_753 : decode code 753 = .ok (.aload_n 3, 1) := by decide +kernel
theorem dL_law_754 : decode code 754 = .ok (.iconst 0, 1) := by decide +kernel
theorem dL_law_755 : decode code 755 = .ok (.laload, 1) := by decide +kernel
theorem dL_law_756 : decode code 756 = .ok (.iload 7, 2) := by decide +kernel
theorem dL_law_758 : decode code 758 = .ok (.i2l, 1) := by decide +kernel
theorem dL_law_759 : decode code 759 = .ok (.lcmp, 1) := by decide +kernel
theorem dL_law_760 : decode code 760 = .ok (.ifCond .eq 5, 3) := by decide +kernel
theorem dL_law_765 : decode code 765 = .ok (.goto 2274, 3) := by decide +kernel
theorem dL_law_768 : decode code 768 = .ok (.aload_n 1, 1) := by decide +kernel
theorem dL_law_769 : decode code 769 = .ok (.aload_n 0, 1) := by decide +kernel
theorem dL_law_770 : decode code 770 = .ok (.iload 5, 2) := by decide +kernel
theorem dL_law_772 : decode code 772 = .ok (.iconst 1, 1) := by decide +kernel
theorem dL_law_773 : decode code 773 = .ok (.iadd, 1) := by decide +kernel
theorem dL_law_774 : decode code 774 = .ok (.iaload, 1) := by decide +kernel
theorem dL_law_775 : decode code 775 = .ok (.aload_n 0, 1) := by decide +kernel
theorem dL_law_776 : decode code 776 = .ok (.iload 5, 2) := by decide +kernel
theorem dL_law_778 : decode code 778 = .ok (.iconst 2, 1) := by decide +kernel
theorem dL_law_779 : decode code 779 = .ok (.iadd, 1) := by decide +kernel
theorem dL_law_780 : decode code 780 = .ok (.iaload, 1) := by decide +kernel
theorem dL_law_781 : decode code 781 = .ok (.aload_n 3, 1) := by decide +kernel
theorem dL_law_782 : decode code 782 = .ok (.invokestatic 197, 3) := by decide +kernel
theorem dL_law_785 : decode code 785 = .ok (.istore 6, 2) := by decide +kernel
theorem dL_law_787 : decode code 787 = .ok (.aload_n 2, 1) := by decide +kernel
theorem dL_law_788 : decode code 788 = .ok (.aload_n 0, 1) := by decide +kernel
theorem dL_law_789 : decode code 789 = .ok (.iload 5, 2) := by decide +kernel
theorem dL_law_791 : decode code 791 = .ok (.iconst 1, 1) := by decide +kernel
theorem dL_law_792 : decode code 792 = .ok (.iadd, 1) := by decide +kernel
theorem dL_law_793 : decode code 793 = .ok (.iaload, 1) := by decide +kernel
theorem dL_law_794 : decode code 794 = .ok (.aload_n 0, 1) := by decide +kernel
theorem dL_law_795 : decode code 795 = .ok (.iload 5, 2) := by decide +kernel
theorem dL_law_797 : decode code 797 = .ok (.iconst 2, 1) := by decide +kernel
theorem dL_law_798 : decode code 798 = .ok (.iadd, 1) := by decide +kernel
theorem dL_law_799 : decode code 799 = .ok (.iaload, 1) := by decide +kernel
theorem dL_law_800 : decode code 800 = .ok (.invokevirtual 199, 3) := by decide +kernel
theorem dL_law_803 : decode code 803 = .ok (.istore 7, 2) := by decide +kernel
theorem dL_law_805 : decode code 805 = .ok (.aload_n 2, 1) := by decide +kernel
theorem dL_law_806 : decode code 806 = .ok (.invokevirtual 154, 3) := by decide +kernel
theorem dL_law_809 : decode code 809 = .ok (.iload 6, 2) := by decide +kernel
theorem dL_law_811 : decode code 811 = .ok (.if_icmp .eq 5, 3) := by decide +kernel
theorem dL_law_816 : decode code 816 = .ok (.iload 6, 2) := by decide +kernel
theorem dL_law_818 : decode code 818 = .ok (.ifCond .ne 15, 3) := by decide +kernel
theorem dL_law_821 : decode code 821 = .ok (.aload_n 3, 1) := by decide +kernel
theorem dL_law_822 : decode code 822 = .ok (.iconst 0, 1) := by decide +kernel
theorem dL_law_823 : decode code 823 = .ok (.laload, 1) := by decide +kernel
theorem dL_law_824 : decode code 824 = .ok (.iload 7, 2) := by decide +kernel
theorem dL_law_826 : decode code 826 = .ok (.i2l, 1) := by decide +kernel
theorem dL_law_827 : decode code 827 = .ok (.lcmp, 1) := by decide +kernel
theorem dL_law_828 : decode code 828 = .ok (.ifCond .eq 5, 3) := by decide +kernel
theorem dL_law_833 : decode code 833 = .ok (.goto 2206, 3) := by decide +kernel
theorem w_law_4 {l : Launch} {G : GT} {b L : Nat} {xs : Nat → Int32} {x a o v u q i n er : Int} {M B : Row} {T : Int → Bool} {S : Int → Row} {Y : Int → Int} {cs sl : Nat} {H : AH} (C : LC l G b L xs x a o v u q i cs sl) (W0 : LW H x a o v u M B n er T S M B n er T S Y) (h3 : ok3 M q) (hS : ∀ k, 0 ≤ k → k < 2 → T k = true → ok3 (S k) q) : LA l G b x a o v i 387 vU vU vU vU [] cs sl H := by
  obtain ⟨⟨hG, hT, hN, hNc⟩, hX, hA, hL, hR, fin⟩ := C
  have hR0 := W0.1.1
  refine a_aload_n dL_law_387 rfl rfl ?_
  refine a_callV (d' := 999) dL_law_388 lc_170 (as := []) rfl rfl (kRun_0 hR0.la) (Nat.le_refl _) (Nat.le_of_ble_eq_true rfl) (nocov rfl) (by omega) (by omega) (CL.mono (k_runwayCount hR0) ?_)
  rintro r1 H1 ⟨e1, o1, R1⟩
  rw [ans_0] at e1
  subst e1
  have W1 := W0.cla hA o1 (fun c i => pX_in) R1
  show LA l G b x a o v i 391 vU vU vU vU [vI _] cs sl H1
  refine a_aload_n dL_law_391 rfl rfl ?_
  refine a_callV (d' := 999) dL_law_392 lc_173 (as := []) rfl rfl (kMod_0 W1.2.1.1.1) (Nat.le_refl _) (Nat.le_of_ble_eq_true rfl) (nocov rfl) (by omega) (by omega) (CL.mono (c_runwayCount W1.2.1.1) ?_)
  rintro r2 H2 ⟨rfl, w2⟩
  obtain ⟨W2, e2, e2v⟩ := W1.pub hA w2
  show LA l G b x a o v i 395 vU vU vU vU [vI _, vI _] cs sl H2
  exact a_icmp_eq dL_law_395 (tgt := 3039) rfl (fun _ => (fin _ _ _ _ _ _ _ ⟨_, _, _, _, _, _, _, W2, h3.up (by omega), fun k k1 k2 t => (hS k k1 k2 t).up (by omega)⟩ (by omega) (by omega))) (fun c8 => absurd rfl c8)
theorem w_law_5 {l : Launch} {G : GT} {b L : Nat} {xs : Nat → Int32} {x a o v u q i n er : Int} {M B : Row} {T : Int → Bool} {S : Int → Row} {Y : Int → Int} {cs sl : Nat} {H : AH} (C : LC l G b L xs x a o v u q i cs sl) (W0 : LW H x a o v u M B n er T S M B n er T S Y) (h3 : ok3 M q) (hS : ∀ k, 0 ≤ k → k < 2 → T k = true → ok3 (S k) q) : LA l G b x a o v i 400 vU vU vU vU [] cs sl H := by
  obtain ⟨⟨hG, hT, hN, hNc⟩, hX, hA, hL, hR, fin⟩ := C
  have hR0 := W0.1.1
  refine a_aload_n dL_law_400 rfl rfl ?_
  refine a_callV (d' := 999) dL_law_401 lc_174 (as := []) rfl rfl (kRun_0 hR0.la) (Nat.le_refl _) (Nat.le_of_ble_eq_true rfl) (nocov rfl) (by omega) (by omega) (CL.mono (k_flightCount hR0) ?_)
  rintro r1 H1 ⟨e1, o1, R1⟩
  rw [ans_0] at e1
  subst e1
  have W1 := W0.cla hA o1 (fun c i => pX_in) R1
  show LA l G b x a o v i 404 vU vU vU vU [vI _] cs sl H1
  refine a_aload_n dL_law_404 rfl rfl ?_
  refine a_callV (d' := 999) dL_law_405 lc_177 (as := []) rfl rfl (kMod_0 W1.2.1.1.1) (Nat.le_refl _) (Nat.le_of_ble_eq_true rfl) (nocov rfl) (by omega) (by omega) (CL.mono (c_flightCount W1.2.1.1) ?_)
  rintro r2 H2 ⟨rfl, w2⟩
  obtain ⟨W2, e2, e2v⟩ := W1.pub hA w2
  show LA l G b x a o v i 408 vU vU vU vU [vI _, vI _] cs sl H2
  exact a_icmp_eq dL_law_408 (tgt := 3039) rfl (fun _ => (fin _ _ _ _ _ _ _ ⟨_, _, _, _, _, _, _, W2, h3.up (by omega), fun k k1 k2 t => (hS k k1 k2 t).up (by omega)⟩ (by omega) (by omega))) (fun c8 => absurd rfl c8)
theorem w_law_6 {l : Launch} {G : GT} {b L : Nat} {xs : Nat → Int32} {x a o v u q i n er : Int} {M B : Row} {T : Int → Bool} {S : Int → Row} {Y : Int → Int} {cs sl : Nat} {H : AH} (C : LC l G b L xs x a o v u q i cs sl) (W0 : LW H x a o v u M B n er T S M B n er T S Y) (h3 : ok3 M q) (hS : ∀ k, 0 ≤ k → k < 2 → T k = true → ok3 (S k) q) : LA l G b x a o v i 413 vU vU vU vU [] cs sl H := by
  obtain ⟨⟨hG, hT, hN, hNc⟩, hX, hA, hL, hR, fin⟩ := C
  have hR0 := W0.1.1
  refine a_aload_n dL_law_413 rfl rfl ?_
  refine a_xload_n dL_law_414 rfl rfl ?_
  refine a_iload dL_law_415 rfl ?_
  refine a_iconst dL_law_417 ⟨by decide, by decide⟩ ?_
  refine a_iadd dL_law_418 (by unfold inI; omega) ?_
  refine a_sld hX dL_law_419 (by omega) ?_
  refine a_xload_n dL_law_420 rfl rfl ?_
  refine a_iload dL_law_421 rfl ?_
  refine a_iconst dL_law_423 ⟨by decide, by decide⟩ ?_
  refine a_iadd dL_law_424 (by unfold inI; omega) ?_
  refine a_sld hX dL_law_425 (by omega) ?_
  refine a_aload_n dL_law_426 rfl rfl ?_
  refine a_callSH (d' := 998 + 1) dL_law_427 lc_178 (as := [vR x, vI (xs (i + 1).toNat).toInt, vI (xs (i + 2).toNat).toInt, vR o]) rfl rfl (Nat.le_refl _) (Nat.le_of_ble_eq_true rfl) (nocov rfl) (by omega) (by omega) (CLH.mono (l_nameByte (d := 998) hG (kRun_0 hR0.la) (fun r9 H9 q9 => ⟨ans_I q9.1, by rw [q9.2.1.2.1]; exact W0.2.2.2.2.1⟩) (k_nameByte hG hR0)) ?_)
  intro r1 H1 q1
  obtain ⟨rfl, W1, hv⟩ := lqx vI_in vI_nt (fun c i => pX_in) hA (Or.inl rfl) W0 (th01 _) q1
  show LA l G b x a o v i 430 vU vU vU vU [vI _] (cs + 4) (sl + 24) H1
  refine a_istore dL_law_430 (by decide) rfl ?_
  show LA l G b x a o v i 432 (vI _) vU vU vU [] (cs + 4) (sl + 24) H1
  refine a_aload_n dL_law_432 rfl rfl ?_
  refine a_xload_n dL_law_433 rfl rfl ?_
  refine a_iload dL_law_434 rfl ?_
  refine a_iconst dL_law_436 ⟨by decide, by decide⟩ ?_
  refine a_iadd dL_law_437 (by unfold inI; omega) ?_
  refine a_sld hX dL_law_438 (by omega) ?_
  refine a_xload_n dL_law_439 rfl rfl ?_
  refine a_iload dL_law_440 rfl ?_
  refine a_iconst dL_law_442 ⟨by decide, by decide⟩ ?_
  refine a_iadd dL_law_443 (by unfold inI; omega) ?_
  refine a_sld hX dL_law_444 (by omega) ?_
  refine a_callV (d' := 999) dL_law_445 lc_181 (as := [vI (xs (i + 1).toNat).toInt, vI (xs (i + 2).toNat).toInt]) rfl rfl (kMod_0 W1.2.1.1.1) (Nat.le_refl _) (Nat.le_of_ble_eq_true rfl) (nocov rfl) (by omega) (by omega) (CL.mono (c_nameByte W1.2.1.1) ?_)
  rintro r2 H2 ⟨rfl, w2⟩
  obtain ⟨W2, e2, e2v⟩ := W1.pub hA w2
  show LA l G b x a o v i 448 (vI _) vU vU vU [vI _] (cs + 4) (sl + 24) H2
  refine a_istore dL_law_448 (by decide) rfl ?_
  show LA l G b x a o v i 450 (vI _) (vI _) vU vU [] (cs + 4) (sl + 24) H2
  refine a_aload_n dL_law_450 rfl rfl ?_
  refine a_callV (d' := 999) dL_law_451 lc_154 (as := []) rfl rfl (kMod_0 W2.2.1.1.1) (Nat.le_refl _) (Nat.le_of_ble_eq_true rfl) (nocov rfl) (by omega) (by omega) (CL.mono (c_thrown W2.2.1.1.1) ?_)
  rintro r3 H3 ⟨rfl, rfl⟩
  show LA l G b x a o v i 454 (vI _) (vI _) vU vU [vI _] (cs + 4) (sl + 24) H3
  refine a_iload dL_law_454 rfl ?_
  refine a_icmp_eq dL_law_456 (tgt := 461) rfl (fun _ => ?_) (fun c9 => absurd w2.1 c9)
  refine a_iload dL_law_461 rfl ?_
  refine a_if_ne dL_law_463 (tgt := 478) rfl (fun _ => ?_) (fun c9 => ?_)
  · exact a_goto dL_law_478 (tgt := 3039) rfl (fin _ _ _ _ _ _ _ ⟨_, _, _, _, _, _, _, W2, h3.up (by omega), fun k k1 k2 t => (hS k k1 k2 t).up (by omega)⟩ (by omega) (by omega))
  · refine a_aload_n dL_law_466 rfl rfl ?_
    refine a_iconst dL_law_467 ⟨by decide, by decide⟩ ?_
    refine b_lald dL_law_468 (congrArg Prod.fst W2.2.2.2.2.1) (congrArg Prod.snd W2.2.2.2.2.1) (by omega) ?_
    refine a_iload dL_law_469 rfl ?_
    refine a_i2l dL_law_471 ?_
    refine a_lcmp_eq dL_law_472 dL_law_473 (tgt := 478) rfl (fun _ => ?_) (fun c8 => absurd ((e2 0).trans (hv c9)) c8)
    exact a_goto dL_law_478 (tgt := 3039) rfl (fin _ _ _ _ _ _ _ ⟨_, _, _, _, _, _, _, W2, h3.up (by omega), fun k k1 k2 t => (hS k k1 k2 t).up (by omega)⟩ (by omega) (by omega))
theorem w_law_7 {l : Launch} {G : GT} {b L : Nat} {xs : Nat → Int32} {x a o v u q i n er : Int} {M B : Row} {T : Int → Bool} {S : Int → Row} {Y : Int → Int} {cs sl : Nat} {H : AH} (C : LC l G b L xs x a o v u q i cs sl) (W0 : LW H x a o v u M B n er T S M B n er T S Y) (h3 : ok3 M q) (hS : ∀ k, 0 ≤ k → k < 2 → T k = true → ok3 (S k) q) : LA l G b x a o v i 481 vU vU vU vU [] cs sl H := by
  obtain ⟨⟨hG, hT, hN, hNc⟩, hX, hA, hL, hR, fin⟩ := C
  have hR0 := W0.1.1
  refine a_aload_n dL_law_481 rfl rfl ?_
  refine a_xload_n dL_law_482 rfl rfl ?_
  refine a_iload dL_law_483 rfl ?_
  refine a_iconst dL_law_485 ⟨by decide, by decide⟩ ?_
  refine a_iadd dL_law_486 (by unfold inI; omega) ?_
  refine a_sld hX dL_law_487 (by omega) ?_
  refine a_aload_n dL_law_488 rfl rfl ?_
  refine a_callSH (d' := 998 + 1) dL_law_489 lc_182 (as := [vR x, vI (xs (i + 1).toNat).toInt, vR o]) rfl rfl (Nat.le_refl _) (Nat.le_of_ble_eq_true rfl) (nocov rfl) (by omega) (by omega) (CLH.mono (l_isArrival (d := 998) hG (kRun_0 hR0.la) (fun r9 H9 q9 => ⟨ans_Z q9.1 (bi_01 _), by rw [q9.2.1.2.1]; exact W0.2.2.2.2.1⟩) (k_isArrival hG hR0)) ?_)
  intro r1 H1 q1
  obtain ⟨rfl, W1, hv⟩ := lqx vI_in vI_nt (fun c i => pX_in) hA (Or.inl rfl) W0 (th01 _) q1
  show LA l G b x a o v i 492 vU vU vU vU [vI _] (cs + 4) (sl + 24) H1
  refine a_istore dL_law_492 (by decide) rfl ?_
  show LA l G b x a o v i 494 (vI _) vU vU vU [] (cs + 4) (sl + 24) H1
  refine a_aload_n dL_law_494 rfl rfl ?_
  refine a_xload_n dL_law_495 rfl rfl ?_
  refine a_iload dL_law_496 rfl ?_
  refine a_iconst dL_law_498 ⟨by decide, by decide⟩ ?_
  refine a_iadd dL_law_499 (by unfold inI; omega) ?_
  refine a_sld hX dL_law_500 (by omega) ?_
  refine a_callV (d' := 999) dL_law_501 lc_184 (as := [vI (xs (i + 1).toNat).toInt]) rfl rfl (kMod_0 W1.2.1.1.1) (Nat.le_refl _) (Nat.le_of_ble_eq_true rfl) (nocov rfl) (by omega) (by omega) (CL.mono (c_isArrival W1.2.1.1) ?_)
  rintro r2 H2 ⟨rfl, w2⟩
  obtain ⟨W2, e2, e2v⟩ := W1.pub hA w2
  show LA l G b x a o v i 504 (vI _) vU vU vU [vI _] (cs + 4) (sl + 24) H2
  refine a_istore dL_law_504 (by decide) rfl ?_
  show LA l G b x a o v i 506 (vI _) (vI _) vU vU [] (cs + 4) (sl + 24) H2
  refine a_aload_n dL_law_506 rfl rfl ?_
  refine a_callV (d' := 999) dL_law_507 lc_154 (as := []) rfl rfl (kMod_0 W2.2.1.1.1) (Nat.le_refl _) (Nat.le_of_ble_eq_true rfl) (nocov rfl) (by omega) (by omega) (CL.mono (c_thrown W2.2.1.1.1) ?_)
  rintro r3 H3 ⟨rfl, rfl⟩
  show LA l G b x a o v i 510 (vI _) (vI _) vU vU [vI _] (cs + 4) (sl + 24) H3
  refine a_iload dL_law_510 rfl ?_
  refine a_icmp_eq dL_law_512 (tgt := 517) rfl (fun _ => ?_) (fun c9 => absurd w2.1 c9)
  refine a_iload dL_law_517 rfl ?_
  refine a_if_ne dL_law_519 (tgt := 541) rfl (fun _ => ?_) (fun c9 => ?_)
  · exact a_goto dL_law_541 (tgt := 3039) rfl (fin _ _ _ _ _ _ _ ⟨_, _, _, _, _, _, _, W2, h3.up (by omega), fun k k1 k2 t => (hS k k1 k2 t).up (by omega)⟩ (by omega) (by omega))
  · refine a_aload_n dL_law_522 rfl rfl ?_
    refine a_iconst dL_law_523 ⟨by decide, by decide⟩ ?_
    refine b_lald dL_law_524 (congrArg Prod.fst W2.2.2.2.2.1) (congrArg Prod.snd W2.2.2.2.2.1) (by omega) ?_
    refine a_iload dL_law_525 rfl ?_
    refine a_if_eq dL_law_527 (tgt := 534) rfl (fun c7 => ?_) (fun c7 => ?_)
    · refine a_lconst dL_law_534 ?_
      show LA l G b x a o v i 535 (vI _) (vI _) vU vU [vJ 0, vJ _] (cs + 4) (sl + 24) H3
      refine a_lcmp_eq dL_law_535 dL_law_536 (tgt := 541) rfl (fun _ => ?_) (fun c8 => absurd ((e2 0).trans ((hv c9).trans c7)) c8)
      exact a_goto dL_law_541 (tgt := 3039) rfl (fin _ _ _ _ _ _ _ ⟨_, _, _, _, _, _, _, W2, h3.up (by omega), fun k k1 k2 t => (hS k k1 k2 t).up (by omega)⟩ (by omega) (by omega))
    · refine a_lconst dL_law_530 ?_
      show LA l G b x a o v i 531 (vI _) (vI _) vU vU [vJ 1, vJ _] (cs + 4) (sl + 24) H3
      refine a_goto dL_law_531 (tgt := 535) rfl ?_
      refine a_lcmp_eq dL_law_535 dL_law_536 (tgt := 541) rfl (fun _ => ?_) (fun c8 => absurd ((e2 0).trans ((hv c9).trans ((bi_01 _).resolve_left c7))) c8)
      exact a_goto dL_law_541 (tgt := 3039) rfl (fin _ _ _ _ _ _ _ ⟨_, _, _, _, _, _, _, W2, h3.up (by omega), fun k k1 k2 t => (hS k k1 k2 t).up (by omega)⟩ (by omega) (by omega))
theorem w_law_8 {l : Launch} {G : GT} {b L : Nat} {xs : Nat → Int32} {x a o v u q i n er : Int} {M B : Row} {T : Int → Bool} {S : Int → Row} {Y : Int → Int} {cs sl : Nat} {H : AH} (C : LC l G b L xs x a o v u q i cs sl) (W0 : LW H x a o v u M B n er T S M B n er T S Y) (h3 : ok3 M q) (hS : ∀ k, 0 ≤ k → k < 2 → T k = true → ok3 (S k) q) : LA l G b x a o v i 544 vU vU vU vU [] cs sl H := by
  obtain ⟨⟨hG, hT, hN, hNc⟩, hX, hA, hL, hR, fin⟩ := C
  have hR0 := W0.1.1
  refine a_aload_n dL_law_544 rfl rfl ?_
  refine a_xload_n dL_law_545 rfl rfl ?_
  refine a_iload dL_law_546 rfl ?_
  refine a_iconst dL_law_548 ⟨by decide, by decide⟩ ?_
  refine a_iadd dL_law_549 (by unfold inI; omega) ?_
  refine a_sld hX dL_law_550 (by omega) ?_
  refine a_aload_n dL_law_551 rfl rfl ?_
  refine a_callSH (d' := 998 + 1) dL_law_552 lc_185 (as := [vR x, vI (xs (i + 1).toNat).toInt, vR o]) rfl rfl (Nat.le_refl _) (Nat.le_of_ble_eq_true rfl) (nocov rfl) (by omega) (by omega) (CLH.mono (l_classOf (d := 998) hG (kRun_0 hR0.la) (fun r9 H9 q9 => ⟨ans_I q9.1, by rw [q9.2.1.2.1]; exact W0.2.2.2.2.1⟩) (k_classOf hG hR0)) ?_)
  intro r1 H1 q1
  obtain ⟨rfl, W1, hv⟩ := lqx vI_in vI_nt (fun c i => pX_in) hA (Or.inl rfl) W0 (th01 _) q1
  show LA l G b x a o v i 555 vU vU vU vU [vI _] (cs + 4) (sl + 24) H1
  refine a_istore dL_law_555 (by decide) rfl ?_
  show LA l G b x a o v i 557 (vI _) vU vU vU [] (cs + 4) (sl + 24) H1
  refine a_aload_n dL_law_557 rfl rfl ?_
  refine a_xload_n dL_law_558 rfl rfl ?_
  refine a_iload dL_law_559 rfl ?_
  refine a_iconst dL_law_561 ⟨by decide, by decide⟩ ?_
  refine a_iadd dL_law_562 (by unfold inI; omega) ?_
  refine a_sld hX dL_law_563 (by omega) ?_
  refine a_callV (d' := 999) dL_law_564 lc_187 (as := [vI (xs (i + 1).toNat).toInt]) rfl rfl (kMod_0 W1.2.1.1.1) (Nat.le_refl _) (Nat.le_of_ble_eq_true rfl) (nocov rfl) (by omega) (by omega) (CL.mono (c_classOf W1.2.1.1) ?_)
  rintro r2 H2 ⟨rfl, w2⟩
  obtain ⟨W2, e2, e2v⟩ := W1.pub hA w2
  show LA l G b x a o v i 567 (vI _) vU vU vU [vI _] (cs + 4) (sl + 24) H2
  refine a_istore dL_law_567 (by decide) rfl ?_
  show LA l G b x a o v i 569 (vI _) (vI _) vU vU [] (cs + 4) (sl + 24) H2
  refine a_aload_n dL_law_569 rfl rfl ?_
  refine a_callV (d' := 999) dL_law_570 lc_154 (as := []) rfl rfl (kMod_0 W2.2.1.1.1) (Nat.le_refl _) (Nat.le_of_ble_eq_true rfl) (nocov rfl) (by omega) (by omega) (CL.mono (c_thrown W2.2.1.1.1) ?_)
  rintro r3 H3 ⟨rfl, rfl⟩
  show LA l G b x a o v i 573 (vI _) (vI _) vU vU [vI _] (cs + 4) (sl + 24) H3
  refine a_iload dL_law_573 rfl ?_
  refine a_icmp_eq dL_law_575 (tgt := 580) rfl (fun _ => ?_) (fun c9 => absurd w2.1 c9)
  refine a_iload dL_law_580 rfl ?_
  refine a_if_ne dL_law_582 (tgt := 597) rfl (fun _ => ?_) (fun c9 => ?_)
  · exact a_goto dL_law_597 (tgt := 3039) rfl (fin _ _ _ _ _ _ _ ⟨_, _, _, _, _, _, _, W2, h3.up (by omega), fun k k1 k2 t => (hS k k1 k2 t).up (by omega)⟩ (by omega) (by omega))
  · refine a_aload_n dL_law_585 rfl rfl ?_
    refine a_iconst dL_law_586 ⟨by decide, by decide⟩ ?_
    refine b_lald dL_law_587 (congrArg Prod.fst W2.2.2.2.2.1) (congrArg Prod.snd W2.2.2.2.2.1) (by omega) ?_
    refine a_iload dL_law_588 rfl ?_
    refine a_i2l dL_law_590 ?_
    refine a_lcmp_eq dL_law_591 dL_law_592 (tgt := 597) rfl (fun _ => ?_) (fun c8 => absurd ((e2 0).trans (hv c9)) c8)
    exact a_goto dL_law_597 (tgt := 3039) rfl (fin _ _ _ _ _ _ _ ⟨_, _, _, _, _, _, _, W2, h3.up (by omega), fun k k1 k2 t => (hS k k1 k2 t).up (by omega)⟩ (by omega) (by omega))
theorem w_law_9 {l : Launch} {G : GT} {b L : Nat} {xs : Nat → Int32} {x a o v u q i n er : Int} {M B : Row} {T : Int → Bool} {S : Int → Row} {Y : Int → Int} {cs sl : Nat} {H : AH} (C : LC l G b L xs x a o v u q i cs sl) (W0 : LW H x a o v u M B n er T S M B n er T S Y) (h3 : ok3 M q) (hS : ∀ k, 0 ≤ k → k < 2 → T k = true → ok3 (S k) q) : LA l G b x a o v i 600 vU vU vU vU [] cs sl H := by
  obtain ⟨⟨hG, hT, hN, hNc⟩, hX, hA, hL, hR, fin⟩ := C
  have hR0 := W0.1.1
  refine a_aload_n dL_law_600 rfl rfl ?_
  refine a_xload_n dL_law_601 rfl rfl ?_
  refine a_iload dL_law_602 rfl ?_
  refine a_iconst dL_law_604 ⟨by decide, by decide⟩ ?_
  refine a_iadd dL_law_605 (by unfold inI; omega) ?_
  refine a_sld hX dL_law_606 (by omega) ?_
  refine a_aload_n dL_law_607 rfl rfl ?_
  refine a_callSH (d' := 998 + 1) dL_law_608 lc_188 (as := [vR x, vI (xs (i + 1).toNat).toInt, vR o]) rfl rfl (Nat.le_refl _) (Nat.le_of_ble_eq_true rfl) (nocov rfl) (by omega) (by omega) (CLH.mono (l_earliest (d := 998) hG (kRun_0 hR0.la) (fun r9 H9 q9 => ⟨ans_I q9.1, by rw [q9.2.1.2.1]; exact W0.2.2.2.2.1⟩) (k_earliest hG hR0)) ?_)
  intro r1 H1 q1
  obtain ⟨rfl, W1, hv⟩ := lqx vI_in vI_nt (fun c i => pX_in) hA (Or.inl rfl) W0 (th01 _) q1
  show LA l G b x a o v i 611 vU vU vU vU [vI _] (cs + 4) (sl + 24) H1
  refine a_istore dL_law_611 (by decide) rfl ?_
  show LA l G b x a o v i 613 (vI _) vU vU vU [] (cs + 4) (sl + 24) H1
  refine a_aload_n dL_law_613 rfl rfl ?_
  refine a_xload_n dL_law_614 rfl rfl ?_
  refine a_iload dL_law_615 rfl ?_
  refine a_iconst dL_law_617 ⟨by decide, by decide⟩ ?_
  refine a_iadd dL_law_618 (by unfold inI; omega) ?_
  refine a_sld hX dL_law_619 (by omega) ?_
  refine a_callV (d' := 999) dL_law_620 lc_190 (as := [vI (xs (i + 1).toNat).toInt]) rfl rfl (kMod_0 W1.2.1.1.1) (Nat.le_refl _) (Nat.le_of_ble_eq_true rfl) (nocov rfl) (by omega) (by omega) (CL.mono (c_earliest W1.2.1.1) ?_)
  rintro r2 H2 ⟨rfl, w2⟩
  obtain ⟨W2, e2, e2v⟩ := W1.pub hA w2
  show LA l G b x a o v i 623 (vI _) vU vU vU [vI _] (cs + 4) (sl + 24) H2
  refine a_istore dL_law_623 (by decide) rfl ?_
  show LA l G b x a o v i 625 (vI _) (vI _) vU vU [] (cs + 4) (sl + 24) H2
  refine a_aload_n dL_law_625 rfl rfl ?_
  refine a_callV (d' := 999) dL_law_626 lc_154 (as := []) rfl rfl (kMod_0 W2.2.1.1.1) (Nat.le_refl _) (Nat.le_of_ble_eq_true rfl) (nocov rfl) (by omega) (by omega) (CL.mono (c_thrown W2.2.1.1.1) ?_)
  rintro r3 H3 ⟨rfl, rfl⟩
  show LA l G b x a o v i 629 (vI _) (vI _) vU vU [vI _] (cs + 4) (sl + 24) H3
  refine a_iload dL_law_629 rfl ?_
  refine a_icmp_eq dL_law_631 (tgt := 636) rfl (fun _ => ?_) (fun c9 => absurd w2.1 c9)
  refine a_iload dL_law_636 rfl ?_
  refine a_if_ne dL_law_638 (tgt := 653) rfl (fun _ => ?_) (fun c9 => ?_)
  · exact a_goto dL_law_653 (tgt := 3039) rfl (fin _ _ _ _ _ _ _ ⟨_, _, _, _, _, _, _, W2, h3.up (by omega), fun k k1 k2 t => (hS k k1 k2 t).up (by omega)⟩ (by omega) (by omega))
  · refine a_aload_n dL_law_641 rfl rfl ?_
    refine a_iconst dL_law_642 ⟨by decide, by decide⟩ ?_
    refine b_lald dL_law_643 (congrArg Prod.fst W2.2.2.2.2.1) (congrArg Prod.snd W2.2.2.2.2.1) (by omega) ?_
    refine a_iload dL_law_644 rfl ?_
    refine a_i2l dL_law_646 ?_
    refine a_lcmp_eq dL_law_647 dL_law_648 (tgt := 653) rfl (fun _ => ?_) (fun c8 => absurd ((e2 0).trans (hv c9)) c8)
    exact a_goto dL_law_653 (tgt := 3039) rfl (fin _ _ _ _ _ _ _ ⟨_, _, _, _, _, _, _, W2, h3.up (by omega), fun k k1 k2 t => (hS k k1 k2 t).up (by omega)⟩ (by omega) (by omega))
theorem w_law_10 {l : Launch} {G : GT} {b L : Nat} {xs : Nat → Int32} {x a o v u q i n er : Int} {M B : Row} {T : Int → Bool} {S : Int → Row} {Y : Int → Int} {cs sl : Nat} {H : AH} (C : LC l G b L xs x a o v u q i cs sl) (W0 : LW H x a o v u M B n er T S M B n er T S Y) (h3 : ok3 M q) (hS : ∀ k, 0 ≤ k → k < 2 → T k = true → ok3 (S k) q) : LA l G b x a o v i 656 vU vU vU vU [] cs sl H := by
  obtain ⟨⟨hG, hT, hN, hNc⟩, hX, hA, hL, hR, fin⟩ := C
  have hR0 := W0.1.1
  refine a_aload_n dL_law_656 rfl rfl ?_
  refine a_xload_n dL_law_657 rfl rfl ?_
  refine a_iload dL_law_658 rfl ?_
  refine a_iconst dL_law_660 ⟨by decide, by decide⟩ ?_
  refine a_iadd dL_law_661 (by unfold inI; omega) ?_
  refine a_sld hX dL_law_662 (by omega) ?_
  refine a_aload_n dL_law_663 rfl rfl ?_
  refine a_callSH (d' := 998 + 1) dL_law_664 lc_191 (as := [vR x, vI (xs (i + 1).toNat).toInt, vR o]) rfl rfl (Nat.le_refl _) (Nat.le_of_ble_eq_true rfl) (nocov rfl) (by omega) (by omega) (CLH.mono (l_target (d := 998) hG (kRun_0 hR0.la) (fun r9 H9 q9 => ⟨ans_I q9.1, by rw [q9.2.1.2.1]; exact W0.2.2.2.2.1⟩) (k_target hG hR0)) ?_)
  intro r1 H1 q1
  obtain ⟨rfl, W1, hv⟩ := lqx vI_in vI_nt (fun c i => pX_in) hA (Or.inl rfl) W0 (th01 _) q1
  show LA l G b x a o v i 667 vU vU vU vU [vI _] (cs + 4) (sl + 24) H1
  refine a_istore dL_law_667 (by decide) rfl ?_
  show LA l G b x a o v i 669 (vI _) vU vU vU [] (cs + 4) (sl + 24) H1
  refine a_aload_n dL_law_669 rfl rfl ?_
  refine a_xload_n dL_law_670 rfl rfl ?_
  refine a_iload dL_law_671 rfl ?_
  refine a_iconst dL_law_673 ⟨by decide, by decide⟩ ?_
  refine a_iadd dL_law_674 (by unfold inI; omega) ?_
  refine a_sld hX dL_law_675 (by omega) ?_
  refine a_callV (d' := 999) dL_law_676 lc_193 (as := [vI (xs (i + 1).toNat).toInt]) rfl rfl (kMod_0 W1.2.1.1.1) (Nat.le_refl _) (Nat.le_of_ble_eq_true rfl) (nocov rfl) (by omega) (by omega) (CL.mono (c_target W1.2.1.1) ?_)
  rintro r2 H2 ⟨rfl, w2⟩
  obtain ⟨W2, e2, e2v⟩ := W1.pub hA w2
  show LA l G b x a o v i 679 (vI _) vU vU vU [vI _] (cs + 4) (sl + 24) H2
  refine a_istore dL_law_679 (by decide) rfl ?_
  show LA l G b x a o v i 681 (vI _) (vI _) vU vU [] (cs + 4) (sl + 24) H2
  refine a_aload_n dL_law_681 rfl rfl ?_
  refine a_callV (d' := 999) dL_law_682 lc_154 (as := []) rfl rfl (kMod_0 W2.2.1.1.1) (Nat.le_refl _) (Nat.le_of_ble_eq_true rfl) (nocov rfl) (by omega) (by omega) (CL.mono (c_thrown W2.2.1.1.1) ?_)
  rintro r3 H3 ⟨rfl, rfl⟩
  show LA l G b x a o v i 685 (vI _) (vI _) vU vU [vI _] (cs + 4) (sl + 24) H3
  refine a_iload dL_law_685 rfl ?_
  refine a_icmp_eq dL_law_687 (tgt := 692) rfl (fun _ => ?_) (fun c9 => absurd w2.1 c9)
  refine a_iload dL_law_692 rfl ?_
  refine a_if_ne dL_law_694 (tgt := 709) rfl (fun _ => ?_) (fun c9 => ?_)
  · exact a_goto dL_law_709 (tgt := 3039) rfl (fin _ _ _ _ _ _ _ ⟨_, _, _, _, _, _, _, W2, h3.up (by omega), fun k k1 k2 t => (hS k k1 k2 t).up (by omega)⟩ (by omega) (by omega))
  · refine a_aload_n dL_law_697 rfl rfl ?_
    refine a_iconst dL_law_698 ⟨by decide, by decide⟩ ?_
    refine b_lald dL_law_699 (congrArg Prod.fst W2.2.2.2.2.1) (congrArg Prod.snd W2.2.2.2.2.1) (by omega) ?_
    refine a_iload dL_law_700 rfl ?_
    refine a_i2l dL_law_702 ?_
    refine a_lcmp_eq dL_law_703 dL_law_704 (tgt := 709) rfl (fun _ => ?_) (fun c8 => absurd ((e2 0).trans (hv c9)) c8)
    exact a_goto dL_law_709 (tgt := 3039) rfl (fin _ _ _ _ _ _ _ ⟨_, _, _, _, _, _, _, W2, h3.up (by omega), fun k k1 k2 t => (hS k k1 k2 t).up (by omega)⟩ (by omega) (by omega))
theorem w_law_11 {l : Launch} {G : GT} {b L : Nat} {xs : Nat → Int32} {x a o v u q i n er : Int} {M B : Row} {T : Int → Bool} {S : Int → Row} {Y : Int → Int} {cs sl : Nat} {H : AH} (C : LC l G b L xs x a o v u q i cs sl) (W0 : LW H x a o v u M B n er T S M B n er T S Y) (h3 : ok3 M q) (hS : ∀ k, 0 ≤ k → k < 2 → T k = true → ok3 (S k) q) : LA l G b x a o v i 712 vU vU vU vU [] cs sl H := by
  obtain ⟨⟨hG, hT, hN, hNc⟩, hX, hA, hL, hR, fin⟩ := C
  have hR0 := W0.1.1
  refine a_aload_n dL_law_712 rfl rfl ?_
  refine a_xload_n dL_law_713 rfl rfl ?_
  refine a_iload dL_law_714 rfl ?_
  refine a_iconst dL_law_716 ⟨by decide, by decide⟩ ?_
  refine a_iadd dL_law_717 (by unfold inI; omega) ?_
  refine a_sld hX dL_law_718 (by omega) ?_
  refine a_aload_n dL_law_719 rfl rfl ?_
  refine a_callSH (d' := 998 + 1) dL_law_720 lc_194 (as := [vR x, vI (xs (i + 1).toNat).toInt, vR o]) rfl rfl (Nat.le_refl _) (Nat.le_of_ble_eq_true rfl) (nocov rfl) (by omega) (by omega) (CLH.mono (l_latest (d := 998) hG (kRun_0 hR0.la) (fun r9 H9 q9 => ⟨ans_I q9.1, by rw [q9.2.1.2.1]; exact W0.2.2.2.2.1⟩) (k_latest hG hR0)) ?_)
  intro r1 H1 q1
  obtain ⟨rfl, W1, hv⟩ := lqx vI_in vI_nt (fun c i => pX_in) hA (Or.inl rfl) W0 (th01 _) q1
  show LA l G b x a o v i 723 vU vU vU vU [vI _] (cs + 4) (sl + 24) H1
  refine a_istore dL_law_723 (by decide) rfl ?_
  show LA l G b x a o v i 725 (vI _) vU vU vU [] (cs + 4) (sl + 24) H1
  refine a_aload_n dL_law_725 rfl rfl ?_
  refine a_xload_n dL_law_726 rfl rfl ?_
  refine a_iload dL_law_727 rfl ?_
  refine a_iconst dL_law_729 ⟨by decide, by decide⟩ ?_
  refine a_iadd dL_law_730 (by unfold inI; omega) ?_
  refine a_sld hX dL_law_731 (by omega) ?_
  refine a_callV (d' := 999) dL_law_732 lc_196 (as := [vI (xs (i + 1).toNat).toInt]) rfl rfl (kMod_0 W1.2.1.1.1) (Nat.le_refl _) (Nat.le_of_ble_eq_true rfl) (nocov rfl) (by omega) (by omega) (CL.mono (c_latest W1.2.1.1) ?_)
  rintro r2 H2 ⟨rfl, w2⟩
  obtain ⟨W2, e2, e2v⟩ := W1.pub hA w2
  show LA l G b x a o v i 735 (vI _) vU vU vU [vI _] (cs + 4) (sl + 24) H2
  refine a_istore dL_law_735 (by decide) rfl ?_
  show LA l G b x a o v i 737 (vI _) (vI _) vU vU [] (cs + 4) (sl + 24) H2
  refine a_aload_n dL_law_737 rfl rfl ?_
  refine a_callV (d' := 999) dL_law_738 lc_154 (as := []) rfl rfl (kMod_0 W2.2.1.1.1) (Nat.le_refl _) (Nat.le_of_ble_eq_true rfl) (nocov rfl) (by omega) (by omega) (CL.mono (c_thrown W2.2.1.1.1) ?_)
  rintro r3 H3 ⟨rfl, rfl⟩
  show LA l G b x a o v i 741 (vI _) (vI _) vU vU [vI _] (cs + 4) (sl + 24) H3
  refine a_iload dL_law_741 rfl ?_
  refine a_icmp_eq dL_law_743 (tgt := 748) rfl (fun _ => ?_) (fun c9 => absurd w2.1 c9)
  refine a_iload dL_law_748 rfl ?_
  refine a_if_ne dL_law_750 (tgt := 765) rfl (fun _ => ?_) (fun c9 => ?_)
  · exact a_goto dL_law_765 (tgt := 3039) rfl (fin _ _ _ _ _ _ _ ⟨_, _, _, _, _, _, _, W2, h3.up (by omega), fun k k1 k2 t => (hS k k1 k2 t).up (by omega)⟩ (by omega) (by omega))
  · refine a_aload_n dL_law_753 rfl rfl ?_
    refine a_iconst dL_law_754 ⟨by decide, by decide⟩ ?_
    refine b_lald dL_law_755 (congrArg Prod.fst W2.2.2.2.2.1) (congrArg Prod.snd W2.2.2.2.2.1) (by omega) ?_
    refine a_iload dL_law_756 rfl ?_
    refine a_i2l dL_law_758 ?_
    refine a_lcmp_eq dL_law_759 dL_law_760 (tgt := 765) rfl (fun _ => ?_) (fun c8 => absurd ((e2 0).trans (hv c9)) c8)
    exact a_goto dL_law_765 (tgt := 3039) rfl (fin _ _ _ _ _ _ _ ⟨_, _, _, _, _, _, _, W2, h3.up (by omega), fun k k1 k2 t => (hS k k1 k2 t).up (by omega)⟩ (by omega) (by omega))
theorem w_law_12 {l : Launch} {G : GT} {b L : Nat} {xs : Nat → Int32} {x a o v u q i n er : Int} {M B : Row} {T : Int → Bool} {S : Int → Row} {Y : Int → Int} {cs sl : Nat} {H : AH} (C : LC l G b L xs x a o v u q i cs sl) (W0 : LW H x a o v u M B n er T S M B n er T S Y) (h3 : ok3 M q) (hS : ∀ k, 0 ≤ k → k < 2 → T k = true → ok3 (S k) q) : LA l G b x a o v i 768 vU vU vU vU [] cs sl H := by
  obtain ⟨⟨hG, hT, hN, hNc⟩, hX, hA, hL, hR, fin⟩ := C
  have hR0 := W0.1.1
  refine a_aload_n dL_law_768 rfl rfl ?_
  refine a_xload_n dL_law_769 rfl rfl ?_
  refine a_iload dL_law_770 rfl ?_
  refine a_iconst dL_law_772 ⟨by decide, by decide⟩ ?_
  refine a_iadd dL_law_773 (by unfold inI; omega) ?_
  refine a_sld hX dL_law_774 (by omega) ?_
  refine a_xload_n dL_law_775 rfl rfl ?_
  refine a_iload dL_law_776 rfl ?_
  refine a_iconst dL_law_778 ⟨by decide, by decide⟩ ?_
  refine a_iadd dL_law_779 (by unfold inI; omega) ?_
  refine a_sld hX dL_law_780 (by omega) ?_
  refine a_aload_n dL_law_781 rfl rfl ?_
  refine a_callSH (d' := 998 + 1) dL_law_782 lc_197 (as := [vR x, vI (xs (i + 1).toNat).toInt, vI (xs (i + 2).toNat).toInt, vR o]) rfl rfl (Nat.le_refl _) (Nat.le_of_ble_eq_true rfl) (nocov rfl) (by omega) (by omega) (CLH.mono (l_wake (d := 998) hG (kRun_0 hR0.la) (fun r9 H9 q9 => ⟨ans_I q9.1, by rw [q9.2.1.2.1]; exact W0.2.2.2.2.1⟩) (k_wake hG hR0)) ?_)
  intro r1 H1 q1
  obtain ⟨rfl, W1, hv⟩ := lqx vI_in vI_nt (fun c i => pX_in) hA (Or.inl rfl) W0 (th01 _) q1
  show LA l G b x a o v i 785 vU vU vU vU [vI _] (cs + 4) (sl + 24) H1
  refine a_istore dL_law_785 (by decide) rfl ?_
  show LA l G b x a o v i 787 (vI _) vU vU vU [] (cs + 4) (sl + 24) H1
  refine a_aload_n dL_law_787 rfl rfl ?_
  refine a_xload_n dL_law_788 rfl rfl ?_
  refine a_iload dL_law_789 rfl ?_
  refine a_iconst dL_law_791 ⟨by decide, by decide⟩ ?_
  refine a_iadd dL_law_792 (by unfold inI; omega) ?_
  refine a_sld hX dL_law_793 (by omega) ?_
  refine a_xload_n dL_law_794 rfl rfl ?_
  refine a_iload dL_law_795 rfl ?_
  refine a_iconst dL_law_797 ⟨by decide, by decide⟩ ?_
  refine a_iadd dL_law_798 (by unfold inI; omega) ?_
  refine a_sld hX dL_law_799 (by omega) ?_
  refine a_callV (d' := 999) dL_law_800 lc_199 (as := [vI (xs (i + 1).toNat).toInt, vI (xs (i + 2).toNat).toInt]) rfl rfl (kMod_0 W1.2.1.1.1) (Nat.le_refl _) (Nat.le_of_ble_eq_true rfl) (nocov rfl) (by omega) (by omega) (CL.mono (c_wake W1.2.1.1) ?_)
  rintro r2 H2 ⟨rfl, w2⟩
  obtain ⟨W2, e2, e2v⟩ := W1.pub hA w2
  show LA l G b x a o v i 803 (vI _) vU vU vU [vI _] (cs + 4) (sl + 24) H2
  refine a_istore dL_law_803 (by decide) rfl ?_
  show LA l G b x a o v i 805 (vI _) (vI _) vU vU [] (cs + 4) (sl + 24) H2
  refine a_aload_n dL_law_805 rfl rfl ?_
  refine a_callV (d' := 999) dL_law_806 lc_154 (as := []) rfl rfl (kMod_0 W2.2.1.1.1) (Nat.le_refl _) (Nat.le_of_ble_eq_true rfl) (nocov rfl) (by omega) (by omega) (CL.mono (c_thrown W2.2.1.1.1) ?_)
  rintro r3 H3 ⟨rfl, rfl⟩
  show LA l G b x a o v i 809 (vI _) (vI _) vU vU [vI _] (cs + 4) (sl + 24) H3
  refine a_iload dL_law_809 rfl ?_
  refine a_icmp_eq dL_law_811 (tgt := 816) rfl (fun _ => ?_) (fun c9 => absurd w2.1 c9)
  refine a_iload dL_law_816 rfl ?_
  refine a_if_ne dL_law_818 (tgt := 833) rfl (fun _ => ?_) (fun c9 => ?_)
  · exact a_goto dL_law_833 (tgt := 3039) rfl (fin _ _ _ _ _ _ _ ⟨_, _, _, _, _, _, _, W2, h3.up (by omega), fun k k1 k2 t => (hS k k1 k2 t).up (by omega)⟩ (by omega) (by omega))
  · refine a_aload_n dL_law_821 rfl rfl ?_
    refine a_iconst dL_law_822 ⟨by decide, by decide⟩ ?_
    refine b_lald dL_law_823 (congrArg Prod.fst W2.2.2.2.2.1) (congrArg Prod.snd W2.2.2.2.2.1) (by omega) ?_
    refine a_iload dL_law_824 rfl ?_
    refine a_i2l dL_law_826 ?_
    refine a_lcmp_eq dL_law_827 dL_law_828 (tgt := 833) rfl (fun _ => ?_) (fun c8 => absurd ((e2 0).trans (hv c9)) c8)
    exact a_goto dL_law_833 (tgt := 3039) rfl (fin _ _ _ _ _ _ _ ⟨_, _, _, _, _, _, _, W2, h3.up (by omega), fun k k1 k2 t => (hS k k1 k2 t).up (by omega)⟩ (by omega) (by omega))
