theorem dL_491 : decode code 491 = .ok (.invokevirtual 52, 3) := by decide +kernel
theorem dL_494 : decode code 494 = .ok (.if_icmp .eq 941, 3) := by decide +kernel
theorem dL_497 : decode code 497 = .ok (.iconst 0, 1) := by decide +kernel
theorem dL_498 : decode code 498 = .ok (.ireturn, 1) := by decide +kernel
theorem dL_499 : decode code 499 = .ok (.aload_n 1, 1) := by decide +kernel
theorem dL_500 : decode code 500 = .ok (.aload_n 0, 1) := by decide +kernel
theorem dL_501 : decode code 501 = .ok (.iload_n 3, 1) := by decide +kernel
theorem dL_502 : decode code 502 = .ok (.iconst 1, 1) := by decide +kernel
theorem dL_503 : decode code 503 = .ok (.iadd, 1) := by decide +kernel
theorem dL_504 : decode code 504 = .ok (.iaload, 1) := by decide +kernel
theorem dL_505 : decode code 505 = .ok (.aload_n 0, 1) := by decide +kernel
theorem dL_506 : decode code 506 = .ok (.iload_n 3, 1) := by decide +kernel
theorem dL_507 : decode code 507 = .ok (.iconst 2, 1) := by decide +kernel
theorem dL_508 : decode code 508 = .ok (.iadd, 1) := by decide +kernel
theorem dL_509 : decode code 509 = .ok (.iaload, 1) := by decide +kernel
theorem dL_510 : decode code 510 = .ok (.invokevirtual 53, 3) := by decide +kernel
theorem dL_513 : decode code 513 = .ok (.aload_n 2, 1) := by decide +kernel
theorem dL_514 : decode code 514 = .ok (.aload_n 0, 1) := by decide +kernel
theorem dL_515 : decode code 515 = .ok (.iload_n 3, 1) := by decide +kernel
theorem dL_516 : decode code 516 = .ok (.iconst 1, 1) := by decide +kernel
theorem dL_517 : decode code 517 = .ok (.iadd, 1) := by decide +kernel
theorem dL_518 : decode code 518 = .ok (.iaload, 1) := by decide +kernel
theorem dL_519 : decode code 519 = .ok (.aload_n 0, 1) := by decide +kernel
theorem dL_520 : decode code 520 = .ok (.iload_n 3, 1) := by decide +kernel
theorem dL_521 : decode code 521 = .ok (.iconst 2, 1) := by decide +kernel
theorem dL_522 : decode code 522 = .ok (.iadd, 1) := by decide +kernel
theorem dL_523 : decode code 523 = .ok (.iaload, 1) := by decide +kernel
theorem dL_524 : decode code 524 = .ok (.invokevirtual 56, 3) := by decide +kernel
theorem dL_527 : decode code 527 = .ok (.if_icmp .eq 908, 3) := by decide +kernel
theorem dL_530 : decode code 530 = .ok (.iconst 0, 1) := by decide +kernel
theorem dL_531 : decode code 531 = .ok (.ireturn, 1) := by decide +kernel
theorem dL_532 : decode code 532 = .ok (.aload_n 1, 1) := by decide +kernel
theorem dL_533 : decode code 533 = .ok (.aload_n 0, 1) := by decide +kernel
theorem dL_534 : decode code 534 = .ok (.iload_n 3, 1) := by decide +kernel
theorem dL_535 : decode code 535 = .ok (.iconst 1, 1) := by decide +kernel
theorem dL_536 : decode code 536 = .ok (.iadd, 1) := by decide +kernel
theorem dL_537 : decode code 537 = .ok (.iaload, 1) := by decide +kernel
theorem dL_538 : decode code 538 = .ok (.aload_n 0, 1) := by decide +kernel
theorem dL_539 : decode code 539 = .ok (.iload_n 3, 1) := by decide +kernel
theorem dL_540 : decode code 540 = .ok (.iconst 2, 1) := by decide +kernel
theorem dL_541 : decode code 541 = .ok (.iadd, 1) := by decide +kernel
theorem dL_542 : decode code 542 = .ok (.iaload, 1) := by decide +kernel
theorem dL_543 : decode code 543 = .ok (.invokevirtual 57, 3) := by decide +kernel
theorem dL_546 : decode code 546 = .ok (.aload_n 2, 1) := by decide +kernel
theorem dL_547 : decode code 547 = .ok (.aload_n 0, 1) := by decide +kernel
theorem dL_548 : decode code 548 = .ok (.iload_n 3, 1) := by decide +kernel
theorem dL_549 : decode code 549 = .ok (.iconst 1, 1) := by decide +kernel
theorem dL_550 : decode code 550 = .ok (.iadd, 1) := by decide +kernel
theorem dL_551 : decode code 551 = .ok (.iaload, 1) := by decide +kernel
theorem dL_552 : decode code 552 = .ok (.aload_n 0, 1) := by decide +kernel
theorem dL_553 : decode code 553 = .ok (.iload_n 3, 1) := by decide +kernel
theorem dL_554 : decode code 554 = .ok (.iconst 2, 1) := by decide +kernel
theorem dL_555 : decode code 555 = .ok (.iadd, 1) := by decide +kernel
theorem dL_556 : decode code 556 = .ok (.iaload, 1) := by decide +kernel
theorem dL_557 : decode code 557 = .ok (.invokevirtual 60, 3) := by decide +kernel
theorem dL_560 : decode code 560 = .ok (.if_icmp .eq 875, 3) := by decide +kernel
theorem dL_563 : decode code 563 = .ok (.iconst 0, 1) := by decide +kernel
theorem dL_564 : decode code 564 = .ok (.ireturn, 1) := by decide +kernel
theorem dL_565 : decode code 565 = .ok (.aload_n 1, 1) := by decide +kernel
theorem dL_566 : decode code 566 = .ok (.aload_n 0, 1) := by decide +kernel
theorem dL_567 : decode code 567 = .ok (.iload_n 3, 1) := by decide +kernel
theorem dL_568 : decode code 568 = .ok (.iconst 1, 1) := by decide +kernel
theorem dL_569 : decode code 569 = .ok (.iadd, 1) := by decide +kernel
theorem dL_570 : decode code 570 = .ok (.iaload, 1) := by decide +kernel
theorem dL_571 : decode code 571 = .ok (.aload_n 0, 1) := by decide +kernel
theorem dL_572 : decode code 572 = .ok (.iload_n 3, 1) := by decide +kernel
theorem dL_573 : decode code 573 = .ok (.iconst 2, 1) := by decide +kernel
theorem dL_574 : decode code 574 = .ok (.iadd, 1) := by decide +kernel
theorem dL_575 : decode code 575 = .ok (.iaload, 1) := by decide +kernel
theorem dL_576 : decode code 576 = .ok (.invokevirtual 61, 3) := by decide +kernel
theorem dL_579 : decode code 579 = .ok (.aload_n 2, 1) := by decide +kernel
theorem dL_580 : decode code 580 = .ok (.aload_n 0, 1) := by decide +kernel
theorem dL_581 : decode code 581 = .ok (.iload_n 3, 1) := by decide +kernel
theorem dL_582 : decode code 582 = .ok (.iconst 1, 1) := by decide +kernel
theorem dL_583 : decode code 583 = .ok (.iadd, 1) := by decide +kernel
theorem dL_584 : decode code 584 = .ok (.iaload, 1) := by decide +kernel
theorem dL_585 : decode code 585 = .ok (.aload_n 0, 1) := by decide +kernel
theorem dL_586 : decode code 586 = .ok (.iload_n 3, 1) := by decide +kernel
theorem dL_587 : decode code 587 = .ok (.iconst 2, 1) := by decide +kernel
theorem dL_588 : decode code 588 = .ok (.iadd, 1) := by decide +kernel
theorem dL_589 : decode code 589 = .ok (.iaload, 1) := by decide +kernel
theorem dL_590 : decode code 590 = .ok (.invokevirtual 64, 3) := by decide +kernel
theorem dL_593 : decode code 593 = .ok (.if_icmp .eq 842, 3) := by decide +kernel
theorem dL_596 : decode code 596 = .ok (.iconst 0, 1) := by decide +kernel
theorem dL_597 : decode code 597 = .ok (.ireturn, 1) := by decide +kernel
theorem dL_598 : decode code 598 = .ok (.aload_n 1, 1) := by decide +kernel
theorem dL_599 : decode code 599 = .ok (.invokevirtual 65, 3) := by decide +kernel
theorem dL_602 : decode code 602 = .ok (.aload_n 2, 1) := by decide +kernel
theorem dL_603 : decode code 603 = .ok (.invokevirtual 68, 3) := by decide +kernel
theorem dL_606 : decode code 606 = .ok (.if_icmp .eq 829, 3) := by decide +kernel
theorem dL_609 : decode code 609 = .ok (.iconst 0, 1) := by decide +kernel
theorem dL_610 : decode code 610 = .ok (.ireturn, 1) := by decide +kernel
theorem dL_611 : decode code 611 = .ok (.aload_n 1, 1) := by decide +kernel
theorem dL_612 : decode code 612 = .ok (.invokevirtual 69, 3) := by decide +kernel
theorem dL_615 : decode code 615 = .ok (.aload_n 2, 1) := by decide +kernel
theorem dL_616 : decode code 616 = .ok (.invokevirtual 72, 3) := by decide +kernel
theorem dL_619 : decode code 619 = .ok (.if_icmp .eq 816, 3) := by decide +kernel
theorem dL_622 : decode code 622 = .ok (.iconst 0, 1) := by decide +kernel
theorem dL_623 : decode code 623 = .ok (.ireturn, 1) := by decide +kernel
theorem dL_624 : decode code 624 = .ok (.aload_n 1, 1) := by decide +kernel
theorem dL_625 : decode code 625 = .ok (.aload_n 0, 1) := by decide +kernel
theorem dL_626 : decode code 626 = .ok (.iload_n 3, 1) := by decide +kernel
theorem dL_627 : decode code 627 = .ok (.iconst 1, 1) := by decide +kernel
theorem dL_628 : decode code 628 = .ok (.iadd, 1) := by decide +kernel
theorem dL_629 : decode code 629 = .ok (.iaload, 1) := by decide +kernel
theorem dL_630 : decode code 630 = .ok (.invokevirtual 73, 3) := by decide +kernel
theorem dL_633 : decode code 633 = .ok (.aload_n 2, 1) := by decide +kernel
theorem dL_634 : decode code 634 = .ok (.aload_n 0, 1) := by decide +kernel
theorem dL_635 : decode code 635 = .ok (.iload_n 3, 1) := by decide +kernel
theorem dL_636 : decode code 636 = .ok (.iconst 1, 1) := by decide +kernel
theorem dL_637 : decode code 637 = .ok (.iadd, 1) := by decide +kernel
theorem dL_638 : decode code 638 = .ok (.iaload, 1) := by decide +kernel
theorem dL_639 : decode code 639 = .ok (.invokevirtual 76, 3) := by decide +kernel
theorem dL_642 : decode code 642 = .ok (.if_icmp .eq 793, 3) := by decide +kernel
theorem dL_645 : decode code 645 = .ok (.iconst 0, 1) := by decide +kernel
theorem dL_646 : decode code 646 = .ok (.ireturn, 1) := by decide +kernel
theorem dL_647 : decode code 647 = .ok (.aload_n 1, 1) := by decide +kernel
theorem dL_648 : decode code 648 = .ok (.aload_n 0, 1) := by decide +kernel
theorem dL_649 : decode code 649 = .ok (.iload_n 3, 1) := by decide +kernel
theorem dL_650 : decode code 650 = .ok (.iconst 1, 1) := by decide +kernel
theorem dL_651 : decode code 651 = .ok (.iadd, 1) := by decide +kernel
theorem dL_652 : decode code 652 = .ok (.iaload, 1) := by decide +kernel
theorem dL_653 : decode code 653 = .ok (.invokevirtual 77, 3) := by decide +kernel
theorem dL_656 : decode code 656 = .ok (.aload_n 2, 1) := by decide +kernel
theorem dL_657 : decode code 657 = .ok (.aload_n 0, 1) := by decide +kernel
theorem dL_658 : decode code 658 = .ok (.iload_n 3, 1) := by decide +kernel
theorem dL_659 : decode code 659 = .ok (.iconst 1, 1) := by decide +kernel
theorem dL_660 : decode code 660 = .ok (.iadd, 1) := by decide +kernel
theorem dL_661 : decode code 661 = .ok (.iaload, 1) := by decide +kernel
theorem dL_662 : decode code 662 = .ok (.invokevirtual 80, 3) := by decide +kernel
theorem dL_665 : decode code 665 = .ok (.if_icmp .eq 770, 3) := by decide +kernel
theorem dL_668 : decode code 668 = .ok (.iconst 0, 1) := by decide +kernel
theorem dL_669 : decode code 669 = .ok (.ireturn, 1) := by decide +kernel
theorem dL_670 : decode code 670 = .ok (.aload_n 1, 1) := by decide +kernel
theorem dL_671 : decode code 671 = .ok (.invokevirtual 81, 3) := by decide +kernel
theorem dL_674 : decode code 674 = .ok (.aload_n 2, 1) := by decide +kernel
theorem dL_675 : decode code 675 = .ok (.invokevirtual 84, 3) := by decide +kernel
theorem dL_678 : decode code 678 = .ok (.if_icmp .eq 757, 3) := by decide +kernel
theorem dL_681 : decode code 681 = .ok (.iconst 0, 1) := by decide +kernel
theorem dL_682 : decode code 682 = .ok (.ireturn, 1) := by decide +kernel
theorem dL_683 : decode code 683 = .ok (.aload_n 1, 1) := by decide +kernel
theorem dL_684 : decode code 684 = .ok (.aload_n 0, 1) := by decide +kernel
theorem dL_685 : decode code 685 = .ok (.iload_n 3, 1) := by decide +kernel
theorem dL_686 : decode code 686 = .ok (.iconst 1, 1) := by decide +kernel
theorem dL_687 : decode code 687 = .ok (.iadd, 1) := by decide +kernel
theorem dL_688 : decode code 688 = .ok (.iaload, 1) := by decide +kernel
theorem dL_689 : decode code 689 = .ok (.invokevirtual 85, 3) := by decide +kernel
theorem dL_692 : decode code 692 = .ok (.aload_n 2, 1) := by decide +kernel
theorem dL_693 : decode code 693 = .ok (.aload_n 0, 1) := by decide +kernel
theorem dL_694 : decode code 694 = .ok (.iload_n 3, 1) := by decide +kernel
theorem dL_695 : decode code 695 = .ok (.iconst 1, 1) := by decide +kernel
theorem dL_696 : decode code 696 = .ok (.iadd, 1) := by decide +kernel
theorem dL_697 : decode code 697 = .ok (.iaload, 1) := by decide +kernel
theorem dL_698 : decode code 698 = .ok (.invokevirtual 88, 3) := by decide +kernel
theorem dL_701 : decode code 701 = .ok (.if_icmp .eq 734, 3) := by decide +kernel
theorem dL_704 : decode code 704 = .ok (.iconst 0, 1) := by decide +kernel
theorem dL_705 : decode code 705 = .ok (.ireturn, 1) := by decide +kernel
theorem dL_706 : decode code 706 = .ok (.aload_n 1, 1) := by decide +kernel
theorem dL_707 : decode code 707 = .ok (.aload_n 0, 1) := by decide +kernel
theorem dL_708 : decode code 708 = .ok (.iload_n 3, 1) := by decide +kernel
theorem dL_709 : decode code 709 = .ok (.iconst 1, 1) := by decide +kernel
theorem dL_710 : decode code 710 = .ok (.iadd, 1) := by decide +kernel
theorem dL_711 : decode code 711 = .ok (.iaload, 1) := by decide +kernel
theorem dL_712 : decode code 712 = .ok (.invokevirtual 89, 3) := by decide +kernel
theorem dL_715 : decode code 715 = .ok (.aload_n 2, 1) := by decide +kernel
theorem dL_716 : decode code 716 = .ok (.aload_n 0, 1) := by decide +kernel
theorem dL_717 : decode code 717 = .ok (.iload_n 3, 1) := by decide +kernel
theorem dL_718 : decode code 718 = .ok (.iconst 1, 1) := by decide +kernel
theorem dL_719 : decode code 719 = .ok (.iadd, 1) := by decide +kernel
theorem dL_720 : decode code 720 = .ok (.iaload, 1) := by decide +kernel
theorem dL_721 : decode code 721 = .ok (.invokevirtual 92, 3) := by decide +kernel
theorem dL_724 : decode code 724 = .ok (.if_icmp .eq 711, 3) := by decide +kernel
theorem dL_727 : decode code 727 = .ok (.iconst 0, 1) := by decide +kernel
theorem dL_728 : decode code 728 = .ok (.ireturn, 1) := by decide +kernel
theorem dL_729 : decode code 729 = .ok (.aload_n 1, 1) := by decide +kernel
theorem dL_730 : decode code 730 = .ok (.aload_n 0, 1) := by decide +kernel
theorem dL_731 : decode code 731 = .ok (.iload_n 3, 1) := by decide +kernel
theorem dL_732 : decode code 732 = .ok (.iconst 1, 1) := by decide +kernel
theorem dL_733 : decode code 733 = .ok (.iadd, 1) := by decide +kernel
theorem dL_734 : decode code 734 = .ok (.iaload, 1) := by decide +kernel
theorem dL_735 : decode code 735 = .ok (.invokevirtual 93, 3) := by decide +kernel
theorem dL_738 : decode code 738 = .ok (.aload_n 2, 1) := by decide +kernel
theorem dL_739 : decode code 739 = .ok (.aload_n 0, 1) := by decide +kernel
theorem dL_740 : decode code 740 = .ok (.iload_n 3, 1) := by decide +kernel
theorem dL_741 : decode code 741 = .ok (.iconst 1, 1) := by decide +kernel
theorem dL_742 : decode code 742 = .ok (.iadd, 1) := by decide +kernel
theorem dL_743 : decode code 743 = .ok (.iaload, 1) := by decide +kernel
theorem dL_744 : decode code 744 = .ok (.invokevirtual 96, 3) := by decide +kernel
theorem dL_747 : decode code 747 = .ok (.if_icmp .eq 688, 3) := by decide +kernel
theorem dL_750 : decode code 750 = .ok (.iconst 0, 1) := by decide +kernel
theorem dL_751 : decode code 751 = .ok (.ireturn, 1) := by decide +kernel
theorem dL_752 : decode code 752 = .ok (.aload_n 1, 1) := by decide +kernel
theorem dL_753 : decode code 753 = .ok (.aload_n 0, 1) := by decide +kernel
theorem dL_754 : decode code 754 = .ok (.iload_n 3, 1) := by decide +kernel
theorem dL_755 : decode code 755 = .ok (.iconst 1, 1) := by decide +kernel
theorem dL_756 : decode code 756 = .ok (.iadd, 1) := by decide +kernel
theorem dL_757 : decode code 757 = .ok (.iaload, 1) := by decide +kernel
theorem dL_758 : decode code 758 = .ok (.invokevirtual 97, 3) := by decide +kernel
theorem dL_761 : decode code 761 = .ok (.aload_n 2, 1) := by decide +kernel
theorem dL_762 : decode code 762 = .ok (.aload_n 0, 1) := by decide +kernel
theorem dL_763 : decode code 763 = .ok (.iload_n 3, 1) := by decide +kernel
theorem dL_764 : decode code 764 = .ok (.iconst 1, 1) := by decide +kernel
theorem dL_765 : decode code 765 = .ok (.iadd, 1) := by decide +kernel
theorem dL_766 : decode code 766 = .ok (.iaload, 1) := by decide +kernel
theorem dL_767 : decode code 767 = .ok (.invokevirtual 100, 3) := by decide +kernel
theorem dL_770 : decode code 770 = .ok (.if_icmp .eq 665, 3) := by decide +kernel
theorem dL_773 : decode code 773 = .ok (.iconst 0, 1) := by decide +kernel
theorem dL_774 : decode code 774 = .ok (.ireturn, 1) := by decide +kernel
theorem dL_775 : decode code 775 = .ok (.aload_n 1, 1) := by decide +kernel
theorem dL_776 : decode code 776 = .ok (.aload_n 0, 1) := by decide +kernel
theorem dL_777 : decode code 777 = .ok (.iload_n 3, 1) := by decide +kernel
theorem dL_778 : decode code 778 = .ok (.iconst 1, 1) := by decide +kernel
theorem dL_779 : decode code 779 = .ok (.iadd, 1) := by decide +kernel
theorem dL_780 : decode code 780 = .ok (.iaload, 1) := by decide +kernel
theorem dL_781 : decode code 781 = .ok (.aload_n 0, 1) := by decide +kernel
theorem dL_782 : decode code 782 = .ok (.iload_n 3, 1) := by decide +kernel
theorem dL_783 : decode code 783 = .ok (.iconst 2, 1) := by decide +kernel
theorem dL_784 : decode code 784 = .ok (.iadd, 1) := by decide +kernel
theorem dL_785 : decode code 785 = .ok (.iaload, 1) := by decide +kernel
theorem dL_786 : decode code 786 = .ok (.invokevirtual 101, 3) := by decide +kernel
theorem dL_789 : decode code 789 = .ok (.aload_n 2, 1) := by decide +kernel
theorem dL_790 : decode code 790 = .ok (.aload_n 0, 1) := by decide +kernel
theorem dL_791 : decode code 791 = .ok (.iload_n 3, 1) := by decide +kernel
theorem dL_792 : decode code 792 = .ok (.iconst 1, 1) := by decide +kernel
theorem dL_793 : decode code 793 = .ok (.iadd, 1) := by decide +kernel
theorem dL_794 : decode code 794 = .ok (.iaload, 1) := by decide +kernel
theorem dL_795 : decode code 795 = .ok (.aload_n 0, 1) := by decide +kernel
theorem dL_796 : decode code 796 = .ok (.iload_n 3, 1) := by decide +kernel
theorem dL_797 : decode code 797 = .ok (.iconst 2, 1) := by decide +kernel
theorem dL_798 : decode code 798 = .ok (.iadd, 1) := by decide +kernel
theorem dL_799 : decode code 799 = .ok (.iaload, 1) := by decide +kernel
theorem dL_800 : decode code 800 = .ok (.invokevirtual 104, 3) := by decide +kernel
theorem dL_803 : decode code 803 = .ok (.if_icmp .eq 632, 3) := by decide +kernel
theorem dL_806 : decode code 806 = .ok (.iconst 0, 1) := by decide +kernel
theorem dL_807 : decode code 807 = .ok (.ireturn, 1) := by decide +kernel
theorem dL_808 : decode code 808 = .ok (.aload_n 1, 1) := by decide +kernel
theorem dL_809 : decode code 809 = .ok (.aload_n 0, 1) := by decide +kernel
theorem dL_810 : decode code 810 = .ok (.iload_n 3, 1) := by decide +kernel
theorem dL_811 : decode code 811 = .ok (.iconst 1, 1) := by decide +kernel
theorem dL_812 : decode code 812 = .ok (.iadd, 1) := by decide +kernel
theorem dL_813 : decode code 813 = .ok (.iaload, 1) := by decide +kernel
theorem dL_814 : decode code 814 = .ok (.aload_n 0, 1) := by decide +kernel
theorem dL_815 : decode code 815 = .ok (.iload_n 3, 1) := by decide +kernel
theorem dL_816 : decode code 816 = .ok (.iconst 2, 1) := by decide +kernel
theorem dL_817 : decode code 817 = .ok (.iadd, 1) := by decide +kernel
theorem dL_818 : decode code 818 = .ok (.iaload, 1) := by decide +kernel
theorem dL_819 : decode code 819 = .ok (.invokevirtual 105, 3) := by decide +kernel
theorem dL_822 : decode code 822 = .ok (.aload_n 2, 1) := by decide +kernel
theorem dL_823 : decode code 823 = .ok (.aload_n 0, 1) := by decide +kernel
theorem dL_824 : decode code 824 = .ok (.iload_n 3, 1) := by decide +kernel
theorem dL_825 : decode code 825 = .ok (.iconst 1, 1) := by decide +kernel
