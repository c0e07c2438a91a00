theorem d_law_556 : decode code 556 = .ok (.iaload, 1) := by decide +kernel
theorem d_law_557 : decode code 557 = .ok (.invokevirtual 97, 3) := by decide +kernel
theorem d_law_560 : decode code 560 = .ok (.istore 6, 2) := by decide +kernel
theorem d_law_562 : decode code 562 = .ok (.aload_n 2, 1) := by decide +kernel
theorem d_law_563 : decode code 563 = .ok (.invokevirtual 68, 3) := by decide +kernel
theorem d_law_566 : decode code 566 = .ok (.iload 5, 2) := by decide +kernel
theorem d_law_568 : decode code 568 = .ok (.if_icmp .eq 5, 3) := by decide +kernel
theorem d_law_573 : decode code 573 = .ok (.iload 5, 2) := by decide +kernel
theorem d_law_575 : decode code 575 = .ok (.ifCond .ne 15, 3) := by decide +kernel
theorem d_law_578 : decode code 578 = .ok (.aload_n 3, 1) := by decide +kernel
theorem d_law_579 : decode code 579 = .ok (.iconst 0, 1) := by decide +kernel
theorem d_law_580 : decode code 580 = .ok (.laload, 1) := by decide +kernel
theorem d_law_581 : decode code 581 = .ok (.iload 6, 2) := by decide +kernel
theorem d_law_583 : decode code 583 = .ok (.i2l, 1) := by decide +kernel
theorem d_law_584 : decode code 584 = .ok (.lcmp, 1) := by decide +kernel
theorem d_law_585 : decode code 585 = .ok (.ifCond .eq 5, 3) := by decide +kernel
theorem d_law_588 : decode code 588 = .ok (.iconst 0, 1) := by decide +kernel
theorem d_law_590 : decode code 590 = .ok (.goto 419, 3) := by decide +kernel
theorem d_law_593 : decode code 593 = .ok (.aload_n 1, 1) := by decide +kernel
theorem d_law_594 : decode code 594 = .ok (.aload_n 0, 1) := by decide +kernel
theorem d_law_595 : decode code 595 = .ok (.iload 4, 2) := by decide +kernel
theorem d_law_597 : decode code 597 = .ok (.iconst 1, 1) := by decide +kernel
theorem d_law_598 : decode code 598 = .ok (.iadd, 1) := by decide +kernel
theorem d_law_599 : decode code 599 = .ok (.iaload, 1) := by decide +kernel
theorem d_law_600 : decode code 600 = .ok (.aload_n 3, 1) := by decide +kernel
theorem d_law_601 : decode code 601 = .ok (.invokestatic 98, 3) := by decide +kernel
theorem d_law_604 : decode code 604 = .ok (.istore 5, 2) := by decide +kernel
theorem d_law_606 : decode code 606 = .ok (.aload_n 2, 1) := by decide +kernel
theorem d_law_607 : decode code 607 = .ok (.aload_n 0, 1) := by decide +kernel
theorem d_law_608 : decode code 608 = .ok (.iload 4, 2) := by decide +kernel
theorem d_law_610 : decode code 610 = .ok (.iconst 1, 1) := by decide +kernel
theorem d_law_611 : decode code 611 = .ok (.iadd, 1) := by decide +kernel
theorem d_law_612 : decode code 612 = .ok (.iaload, 1) := by decide +kernel
theorem d_law_613 : decode code 613 = .ok (.invokevirtual 100, 3) := by decide +kernel
theorem d_law_616 : decode code 616 = .ok (.istore 6, 2) := by decide +kernel
theorem d_law_618 : decode code 618 = .ok (.aload_n 2, 1) := by decide +kernel
theorem d_law_619 : decode code 619 = .ok (.invokevirtual 68, 3) := by decide +kernel
theorem d_law_622 : decode code 622 = .ok (.iload 5, 2) := by decide +kernel
theorem d_law_624 : decode code 624 = .ok (.if_icmp .eq 5, 3) := by decide +kernel
theorem d_law_629 : decode code 629 = .ok (.iload 5, 2) := by decide +kernel
theorem d_law_631 : decode code 631 = .ok (.ifCond .ne 15, 3) := by decide +kernel
theorem d_law_634 : decode code 634 = .ok (.aload_n 3, 1) := by decide +kernel
theorem d_law_635 : decode code 635 = .ok (.iconst 0, 1) := by decide +kernel
theorem d_law_636 : decode code 636 = .ok (.laload, 1) := by decide +kernel
theorem d_law_637 : decode code 637 = .ok (.iload 6, 2) := by decide +kernel
theorem d_law_639 : decode code 639 = .ok (.i2l, 1) := by decide +kernel
theorem d_law_640 : decode code 640 = .ok (.lcmp, 1) := by decide +kernel
theorem d_law_641 : decode code 641 = .ok (.ifCond .eq 5, 3) := by decide +kernel
theorem d_law_644 : decode code 644 = .ok (.iconst 0, 1) := by decide +kernel
theorem d_law_646 : decode code 646 = .ok (.goto 363, 3) := by decide +kernel
theorem d_law_649 : decode code 649 = .ok (.aload_n 1, 1) := by decide +kernel
theorem d_law_650 : decode code 650 = .ok (.aload_n 0, 1) := by decide +kernel
theorem d_law_651 : decode code 651 = .ok (.iload 4, 2) := by decide +kernel
theorem d_law_653 : decode code 653 = .ok (.iconst 1, 1) := by decide +kernel
theorem d_law_654 : decode code 654 = .ok (.iadd, 1) := by decide +kernel
theorem d_law_655 : decode code 655 = .ok (.iaload, 1) := by decide +kernel
theorem d_law_656 : decode code 656 = .ok (.aload_n 0, 1) := by decide +kernel
theorem d_law_657 : decode code 657 = .ok (.iload 4, 2) := by decide +kernel
theorem d_law_659 : decode code 659 = .ok (.iconst 2, 1) := by decide +kernel
theorem d_law_660 : decode code 660 = .ok (.iadd, 1) := by decide +kernel
theorem d_law_661 : decode code 661 = .ok (.iaload, 1) := by decide +kernel
theorem d_law_662 : decode code 662 = .ok (.aload_n 3, 1) := by decide +kernel
theorem d_law_663 : decode code 663 = .ok (.invokestatic 101, 3) := by decide +kernel
theorem d_law_666 : decode code 666 = .ok (.istore 5, 2) := by decide +kernel
theorem d_law_668 : decode code 668 = .ok (.aload_n 2, 1) := by decide +kernel
theorem d_law_669 : decode code 669 = .ok (.aload_n 0, 1) := by decide +kernel
theorem d_law_670 : decode code 670 = .ok (.iload 4, 2) := by decide +kernel
theorem d_law_672 : decode code 672 = .ok (.iconst 1, 1) := by decide +kernel
theorem d_law_673 : decode code 673 = .ok (.iadd, 1) := by decide +kernel
theorem d_law_674 : decode code 674 = .ok (.iaload, 1) := by decide +kernel
theorem d_law_675 : decode code 675 = .ok (.aload_n 0, 1) := by decide +kernel
theorem d_law_676 : decode code 676 = .ok (.iload 4, 2) := by decide +kernel
theorem d_law_678 : decode code 678 = .ok (.iconst 2, 1) := by decide +kernel
theorem d_law_679 : decode code 679 = .ok (.iadd, 1) := by decide +kernel
theorem d_law_680 : decode code 680 = .ok (.iaload, 1) := by decide +kernel
theorem d_law_681 : decode code 681 = .ok (.invokevirtual 103, 3) := by decide +kernel
theorem d_law_684 : decode code 684 = .ok (.istore 6, 2) := by decide +kernel
theorem d_law_686 : decode code 686 = .ok (.aload_n 2, 1) := by decide +kernel
theorem d_law_687 : decode code 687 = .ok (.invokevirtual 68, 3) := by decide +kernel
theorem d_law_690 : decode code 690 = .ok (.iload 5, 2) := by decide +kernel
theorem d_law_692 : decode code 692 = .ok (.if_icmp .eq 5, 3) := by decide +kernel
theorem d_law_697 : decode code 697 = .ok (.iload 5, 2) := by decide +kernel
theorem d_law_699 : decode code 699 = .ok (.ifCond .ne 15, 3) := by decide +kernel
theorem d_law_702 : decode code 702 = .ok (.aload_n 3, 1) := by decide +kernel
theorem d_law_703 : decode code 703 = .ok (.iconst 0, 1) := by decide +kernel
theorem d_law_704 : decode code 704 = .ok (.laload, 1) := by decide +kernel
theorem d_law_705 : decode code 705 = .ok (.iload 6, 2) := by decide +kernel
theorem d_law_707 : decode code 707 = .ok (.i2l, 1) := by decide +kernel
theorem d_law_708 : decode code 708 = .ok (.lcmp, 1) := by decide +kernel
theorem d_law_709 : decode code 709 = .ok (.ifCond .eq 5, 3) := by decide +kernel
theorem d_law_712 : decode code 712 = .ok (.iconst 0, 1) := by decide +kernel
theorem d_law_714 : decode code 714 = .ok (.goto 295, 3) := by decide +kernel
theorem d_law_717 : decode code 717 = .ok (.aload_n 1, 1) := by decide +kernel
theorem d_law_718 : decode code 718 = .ok (.aload_n 0, 1) := by decide +kernel
theorem d_law_719 : decode code 719 = .ok (.iload 4, 2) := by decide +kernel
theorem d_law_721 : decode code 721 = .ok (.iconst 1, 1) := by decide +kernel
theorem d_law_722 : decode code 722 = .ok (.iadd, 1) := by decide +kernel
theorem d_law_723 : decode code 723 = .ok (.iaload, 1) := by decide +kernel
theorem d_law_724 : decode code 724 = .ok (.aload_n 3, 1) := by decide +kernel
theorem d_law_725 : decode code 725 = .ok (.invokestatic 104, 3) := by decide +kernel
theorem d_law_728 : decode code 728 = .ok (.istore 5, 2) := by decide +kernel
theorem d_law_730 : decode code 730 = .ok (.aload_n 2, 1) := by decide +kernel
theorem d_law_731 : decode code 731 = .ok (.aload_n 0, 1) := by decide +kernel
theorem d_law_732 : decode code 732 = .ok (.iload 4, 2) := by decide +kernel
theorem d_law_734 : decode code 734 = .ok (.iconst 1, 1) := by decide +kernel
theorem d_law_735 : decode code 735 = .ok (.iadd, 1) := by decide +kernel
theorem d_law_736 : decode code 736 = .ok (.iaload, 1) := by decide +kernel
theorem d_law_737 : decode code 737 = .ok (.invokevirtual 106, 3) := by decide +kernel
theorem d_law_740 : decode code 740 = .ok (.istore 6, 2) := by decide +kernel
theorem d_law_742 : decode code 742 = .ok (.aload_n 2, 1) := by decide +kernel
theorem d_law_743 : decode code 743 = .ok (.invokevirtual 68, 3) := by decide +kernel
theorem d_law_746 : decode code 746 = .ok (.iload 5, 2) := by decide +kernel
theorem d_law_748 : decode code 748 = .ok (.if_icmp .eq 5, 3) := by decide +kernel
theorem d_law_753 : decode code 753 = .ok (.iload 5, 2) := by decide +kernel
theorem d_law_755 : decode code 755 = .ok (.ifCond .ne 15, 3) := by decide +kernel
theorem d_law_758 : decode code 758 = .ok (.aload_n 3, 1) := by decide +kernel
theorem d_law_759 : decode code 759 = .ok (.iconst 0, 1) := by decide +kernel
theorem d_law_760 : decode code 760 = .ok (.laload, 1) := by decide +kernel
theorem d_law_761 : decode code 761 = .ok (.iload 6, 2) := by decide +kernel
theorem d_law_763 : decode code 763 = .ok (.i2l, 1) := by decide +kernel
theorem d_law_764 : decode code 764 = .ok (.lcmp, 1) := by decide +kernel
theorem d_law_765 : decode code 765 = .ok (.ifCond .eq 5, 3) := by decide +kernel
theorem d_law_768 : decode code 768 = .ok (.iconst 0, 1) := by decide +kernel
theorem d_law_770 : decode code 770 = .ok (.goto 239, 3) := by decide +kernel
theorem d_law_773 : decode code 773 = .ok (.aload_n 1, 1) := by decide +kernel
theorem d_law_774 : decode code 774 = .ok (.aload_n 0, 1) := by decide +kernel
theorem d_law_775 : decode code 775 = .ok (.iload 4, 2) := by decide +kernel
theorem d_law_777 : decode code 777 = .ok (.iconst 1, 1) := by decide +kernel
theorem d_law_778 : decode code 778 = .ok (.iadd, 1) := by decide +kernel
theorem d_law_779 : decode code 779 = .ok (.iaload, 1) := by decide +kernel
theorem d_law_780 : decode code 780 = .ok (.aload_n 0, 1) := by decide +kernel
theorem d_law_781 : decode code 781 = .ok (.iload 4, 2) := by decide +kernel
theorem d_law_783 : decode code 783 = .ok (.iconst 2, 1) := by decide +kernel
theorem d_law_784 : decode code 784 = .ok (.iadd, 1) := by decide +kernel
theorem d_law_785 : decode code 785 = .ok (.iaload, 1) := by decide +kernel
theorem d_law_786 : decode code 786 = .ok (.aload_n 3, 1) := by decide +kernel
theorem d_law_787 : decode code 787 = .ok (.invokestatic 107, 3) := by decide +kernel
theorem d_law_790 : decode code 790 = .ok (.istore 5, 2) := by decide +kernel
theorem d_law_792 : decode code 792 = .ok (.aload_n 2, 1) := by decide +kernel
theorem d_law_793 : decode code 793 = .ok (.aload_n 0, 1) := by decide +kernel
theorem d_law_794 : decode code 794 = .ok (.iload 4, 2) := by decide +kernel
theorem d_law_796 : decode code 796 = .ok (.iconst 1, 1) := by decide +kernel
theorem d_law_797 : decode code 797 = .ok (.iadd, 1) := by decide +kernel
theorem d_law_798 : decode code 798 = .ok (.iaload, 1) := by decide +kernel
theorem d_law_799 : decode code 799 = .ok (.aload_n 0, 1) := by decide +kernel
theorem d_law_800 : decode code 800 = .ok (.iload 4, 2) := by decide +kernel
theorem d_law_802 : decode code 802 = .ok (.iconst 2, 1) := by decide +kernel
theorem d_law_803 : decode code 803 = .ok (.iadd, 1) := by decide +kernel
theorem d_law_804 : decode code 804 = .ok (.iaload, 1) := by decide +kernel
theorem d_law_805 : decode code 805 = .ok (.invokevirtual 109, 3) := by decide +kernel
