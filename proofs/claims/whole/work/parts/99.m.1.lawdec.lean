theorem dL_542 : decode code 542 = .ok (.iload_n 3, 1) := by decide +kernel
theorem dL_543 : decode code 543 = .ok (.iconst 3, 1) := by decide +kernel
theorem dL_544 : decode code 544 = .ok (.iadd, 1) := by decide +kernel
theorem dL_545 : decode code 545 = .ok (.iaload, 1) := by decide +kernel
theorem dL_546 : decode code 546 = .ok (.invokevirtual 46, 3) := by decide +kernel
theorem dL_549 : decode code 549 = .ok (.if_icmp .eq 1092, 3) := by decide +kernel
theorem dL_552 : decode code 552 = .ok (.iconst 0, 1) := by decide +kernel
theorem dL_553 : decode code 553 = .ok (.ireturn, 1) := by decide +kernel
theorem dL_554 : decode code 554 = .ok (.aload_n 1, 1) := by decide +kernel
theorem dL_555 : decode code 555 = .ok (.aload_n 0, 1) := by decide +kernel
theorem dL_556 : decode code 556 = .ok (.iload_n 3, 1) := by decide +kernel
theorem dL_557 : decode code 557 = .ok (.iconst 1, 1) := by decide +kernel
theorem dL_558 : decode code 558 = .ok (.iadd, 1) := by decide +kernel
theorem dL_559 : decode code 559 = .ok (.iaload, 1) := by decide +kernel
theorem dL_560 : decode code 560 = .ok (.invokevirtual 47, 3) := by decide +kernel
theorem dL_563 : decode code 563 = .ok (.aload_n 2, 1) := by decide +kernel
theorem dL_564 : decode code 564 = .ok (.aload_n 0, 1) := by decide +kernel
theorem dL_565 : decode code 565 = .ok (.iload_n 3, 1) := by decide +kernel
theorem dL_566 : decode code 566 = .ok (.iconst 1, 1) := by decide +kernel
theorem dL_567 : decode code 567 = .ok (.iadd, 1) := by decide +kernel
theorem dL_568 : decode code 568 = .ok (.iaload, 1) := by decide +kernel
theorem dL_569 : decode code 569 = .ok (.invokevirtual 51, 3) := by decide +kernel
theorem dL_572 : decode code 572 = .ok (.if_icmp .eq 1069, 3) := by decide +kernel
theorem dL_575 : decode code 575 = .ok (.iconst 0, 1) := by decide +kernel
theorem dL_576 : decode code 576 = .ok (.ireturn, 1) := by decide +kernel
theorem dL_577 : decode code 577 = .ok (.aload_n 1, 1) := by decide +kernel
theorem dL_578 : decode code 578 = .ok (.aload_n 0, 1) := by decide +kernel
theorem dL_579 : decode code 579 = .ok (.iload_n 3, 1) := by decide +kernel
theorem dL_580 : decode code 580 = .ok (.iconst 1, 1) := by decide +kernel
theorem dL_581 : decode code 581 = .ok (.iadd, 1) := by decide +kernel
theorem dL_582 : decode code 582 = .ok (.iaload, 1) := by decide +kernel
theorem dL_583 : decode code 583 = .ok (.i2l, 1) := by decide +kernel
theorem dL_584 : decode code 584 = .ok (.bipush 32, 2) := by decide +kernel
theorem dL_586 : decode code 586 = .ok (.lshl, 1) := by decide +kernel
theorem dL_587 : decode code 587 = .ok (.aload_n 0, 1) := by decide +kernel
theorem dL_588 : decode code 588 = .ok (.iload_n 3, 1) := by decide +kernel
theorem dL_589 : decode code 589 = .ok (.iconst 2, 1) := by decide +kernel
theorem dL_590 : decode code 590 = .ok (.iadd, 1) := by decide +kernel
theorem dL_591 : decode code 591 = .ok (.iaload, 1) := by decide +kernel
theorem dL_592 : decode code 592 = .ok (.i2l, 1) := by decide +kernel
theorem dL_593 : decode code 593 = .ok (.ldc2_w 52, 3) := by decide +kernel
theorem dL_596 : decode code 596 = .ok (.land, 1) := by decide +kernel
theorem dL_597 : decode code 597 = .ok (.lor, 1) := by decide +kernel
theorem dL_598 : decode code 598 = .ok (.aload_n 0, 1) := by decide +kernel
theorem dL_599 : decode code 599 = .ok (.iload_n 3, 1) := by decide +kernel
theorem dL_600 : decode code 600 = .ok (.iconst 3, 1) := by decide +kernel
theorem dL_601 : decode code 601 = .ok (.iadd, 1) := by decide +kernel
theorem dL_602 : decode code 602 = .ok (.iaload, 1) := by decide +kernel
theorem dL_603 : decode code 603 = .ok (.invokevirtual 54, 3) := by decide +kernel
theorem dL_606 : decode code 606 = .ok (.aload_n 2, 1) := by decide +kernel
theorem dL_607 : decode code 607 = .ok (.aload_n 0, 1) := by decide +kernel
theorem dL_608 : decode code 608 = .ok (.iload_n 3, 1) := by decide +kernel
theorem dL_609 : decode code 609 = .ok (.iconst 1, 1) := by decide +kernel
theorem dL_610 : decode code 610 = .ok (.iadd, 1) := by decide +kernel
theorem dL_611 : decode code 611 = .ok (.iaload, 1) := by decide +kernel
theorem dL_612 : decode code 612 = .ok (.i2l, 1) := by decide +kernel
theorem dL_613 : decode code 613 = .ok (.bipush 32, 2) := by decide +kernel
theorem dL_615 : decode code 615 = .ok (.lshl, 1) := by decide +kernel
theorem dL_616 : decode code 616 = .ok (.aload_n 0, 1) := by decide +kernel
theorem dL_617 : decode code 617 = .ok (.iload_n 3, 1) := by decide +kernel
theorem dL_618 : decode code 618 = .ok (.iconst 2, 1) := by decide +kernel
theorem dL_619 : decode code 619 = .ok (.iadd, 1) := by decide +kernel
theorem dL_620 : decode code 620 = .ok (.iaload, 1) := by decide +kernel
theorem dL_621 : decode code 621 = .ok (.i2l, 1) := by decide +kernel
theorem dL_622 : decode code 622 = .ok (.ldc2_w 52, 3) := by decide +kernel
theorem dL_625 : decode code 625 = .ok (.land, 1) := by decide +kernel
theorem dL_626 : decode code 626 = .ok (.lor, 1) := by decide +kernel
theorem dL_627 : decode code 627 = .ok (.aload_n 0, 1) := by decide +kernel
theorem dL_628 : decode code 628 = .ok (.iload_n 3, 1) := by decide +kernel
theorem dL_629 : decode code 629 = .ok (.iconst 3, 1) := by decide +kernel
theorem dL_630 : decode code 630 = .ok (.iadd, 1) := by decide +kernel
theorem dL_631 : decode code 631 = .ok (.iaload, 1) := by decide +kernel
theorem dL_632 : decode code 632 = .ok (.invokevirtual 58, 3) := by decide +kernel
theorem dL_635 : decode code 635 = .ok (.if_icmp .eq 1006, 3) := by decide +kernel
theorem dL_638 : decode code 638 = .ok (.iconst 0, 1) := by decide +kernel
theorem dL_639 : decode code 639 = .ok (.ireturn, 1) := by decide +kernel
theorem dL_640 : decode code 640 = .ok (.aload_n 1, 1) := by decide +kernel
theorem dL_641 : decode code 641 = .ok (.invokevirtual 59, 3) := by decide +kernel
theorem dL_644 : decode code 644 = .ok (.aload_n 2, 1) := by decide +kernel
theorem dL_645 : decode code 645 = .ok (.invokevirtual 63, 3) := by decide +kernel
theorem dL_648 : decode code 648 = .ok (.if_icmp .eq 993, 3) := by decide +kernel
theorem dL_651 : decode code 651 = .ok (.iconst 0, 1) := by decide +kernel
theorem dL_652 : decode code 652 = .ok (.ireturn, 1) := by decide +kernel
theorem dL_653 : decode code 653 = .ok (.aload_n 1, 1) := by decide +kernel
theorem dL_654 : decode code 654 = .ok (.aload_n 0, 1) := by decide +kernel
theorem dL_655 : decode code 655 = .ok (.iload_n 3, 1) := by decide +kernel
theorem dL_656 : decode code 656 = .ok (.iconst 1, 1) := by decide +kernel
theorem dL_657 : decode code 657 = .ok (.iadd, 1) := by decide +kernel
theorem dL_658 : decode code 658 = .ok (.iaload, 1) := by decide +kernel
theorem dL_659 : decode code 659 = .ok (.invokevirtual 64, 3) := by decide +kernel
theorem dL_662 : decode code 662 = .ok (.aload_n 2, 1) := by decide +kernel
theorem dL_663 : decode code 663 = .ok (.aload_n 0, 1) := by decide +kernel
theorem dL_664 : decode code 664 = .ok (.iload_n 3, 1) := by decide +kernel
theorem dL_665 : decode code 665 = .ok (.iconst 1, 1) := by decide +kernel
theorem dL_666 : decode code 666 = .ok (.iadd, 1) := by decide +kernel
theorem dL_667 : decode code 667 = .ok (.iaload, 1) := by decide +kernel
theorem dL_668 : decode code 668 = .ok (.invokevirtual 67, 3) := by decide +kernel
theorem dL_671 : decode code 671 = .ok (.if_icmp .eq 970, 3) := by decide +kernel
theorem dL_674 : decode code 674 = .ok (.iconst 0, 1) := by decide +kernel
theorem dL_675 : decode code 675 = .ok (.ireturn, 1) := by decide +kernel
theorem dL_676 : decode code 676 = .ok (.aload_n 1, 1) := by decide +kernel
theorem dL_677 : decode code 677 = .ok (.aload_n 0, 1) := by decide +kernel
theorem dL_678 : decode code 678 = .ok (.iload_n 3, 1) := by decide +kernel
theorem dL_679 : decode code 679 = .ok (.iconst 1, 1) := by decide +kernel
theorem dL_680 : decode code 680 = .ok (.iadd, 1) := by decide +kernel
theorem dL_681 : decode code 681 = .ok (.iaload, 1) := by decide +kernel
theorem dL_682 : decode code 682 = .ok (.aload_n 0, 1) := by decide +kernel
theorem dL_683 : decode code 683 = .ok (.iload_n 3, 1) := by decide +kernel
theorem dL_684 : decode code 684 = .ok (.iconst 2, 1) := by decide +kernel
theorem dL_685 : decode code 685 = .ok (.iadd, 1) := by decide +kernel
theorem dL_686 : decode code 686 = .ok (.iaload, 1) := by decide +kernel
theorem dL_687 : decode code 687 = .ok (.aload_n 0, 1) := by decide +kernel
theorem dL_688 : decode code 688 = .ok (.iload_n 3, 1) := by decide +kernel
theorem dL_689 : decode code 689 = .ok (.iconst 3, 1) := by decide +kernel
theorem dL_690 : decode code 690 = .ok (.iadd, 1) := by decide +kernel
theorem dL_691 : decode code 691 = .ok (.iaload, 1) := by decide +kernel
theorem dL_692 : decode code 692 = .ok (.invokevirtual 68, 3) := by decide +kernel
theorem dL_695 : decode code 695 = .ok (.aload_n 2, 1) := by decide +kernel
theorem dL_696 : decode code 696 = .ok (.aload_n 0, 1) := by decide +kernel
theorem dL_697 : decode code 697 = .ok (.iload_n 3, 1) := by decide +kernel
theorem dL_698 : decode code 698 = .ok (.iconst 1, 1) := by decide +kernel
theorem dL_699 : decode code 699 = .ok (.iadd, 1) := by decide +kernel
theorem dL_700 : decode code 700 = .ok (.iaload, 1) := by decide +kernel
theorem dL_701 : decode code 701 = .ok (.aload_n 0, 1) := by decide +kernel
theorem dL_702 : decode code 702 = .ok (.iload_n 3, 1) := by decide +kernel
theorem dL_703 : decode code 703 = .ok (.iconst 2, 1) := by decide +kernel
theorem dL_704 : decode code 704 = .ok (.iadd, 1) := by decide +kernel
theorem dL_705 : decode code 705 = .ok (.iaload, 1) := by decide +kernel
theorem dL_706 : decode code 706 = .ok (.aload_n 0, 1) := by decide +kernel
theorem dL_707 : decode code 707 = .ok (.iload_n 3, 1) := by decide +kernel
theorem dL_708 : decode code 708 = .ok (.iconst 3, 1) := by decide +kernel
theorem dL_709 : decode code 709 = .ok (.iadd, 1) := by decide +kernel
theorem dL_710 : decode code 710 = .ok (.iaload, 1) := by decide +kernel
theorem dL_711 : decode code 711 = .ok (.invokevirtual 71, 3) := by decide +kernel
theorem dL_714 : decode code 714 = .ok (.if_icmp .eq 927, 3) := by decide +kernel
theorem dL_717 : decode code 717 = .ok (.iconst 0, 1) := by decide +kernel
theorem dL_718 : decode code 718 = .ok (.ireturn, 1) := by decide +kernel
theorem dL_719 : decode code 719 = .ok (.aload_n 1, 1) := by decide +kernel
theorem dL_720 : decode code 720 = .ok (.aload_n 0, 1) := by decide +kernel
theorem dL_721 : decode code 721 = .ok (.iload_n 3, 1) := by decide +kernel
theorem dL_722 : decode code 722 = .ok (.iconst 1, 1) := by decide +kernel
theorem dL_723 : decode code 723 = .ok (.iadd, 1) := by decide +kernel
theorem dL_724 : decode code 724 = .ok (.iaload, 1) := by decide +kernel
theorem dL_725 : decode code 725 = .ok (.aload_n 0, 1) := by decide +kernel
theorem dL_726 : decode code 726 = .ok (.iload_n 3, 1) := by decide +kernel
theorem dL_727 : decode code 727 = .ok (.iconst 2, 1) := by decide +kernel
theorem dL_728 : decode code 728 = .ok (.iadd, 1) := by decide +kernel
theorem dL_729 : decode code 729 = .ok (.iaload, 1) := by decide +kernel
theorem dL_730 : decode code 730 = .ok (.invokevirtual 72, 3) := by decide +kernel
theorem dL_733 : decode code 733 = .ok (.aload_n 2, 1) := by decide +kernel
theorem dL_734 : decode code 734 = .ok (.aload_n 0, 1) := by decide +kernel
theorem dL_735 : decode code 735 = .ok (.iload_n 3, 1) := by decide +kernel
theorem dL_736 : decode code 736 = .ok (.iconst 1, 1) := by decide +kernel
theorem dL_737 : decode code 737 = .ok (.iadd, 1) := by decide +kernel
theorem dL_738 : decode code 738 = .ok (.iaload, 1) := by decide +kernel
theorem dL_739 : decode code 739 = .ok (.aload_n 0, 1) := by decide +kernel
theorem dL_740 : decode code 740 = .ok (.iload_n 3, 1) := by decide +kernel
theorem dL_741 : decode code 741 = .ok (.iconst 2, 1) := by decide +kernel
theorem dL_742 : decode code 742 = .ok (.iadd, 1) := by decide +kernel
theorem dL_743 : decode code 743 = .ok (.iaload, 1) := by decide +kernel
theorem dL_744 : decode code 744 = .ok (.invokevirtual 75, 3) := by decide +kernel
theorem dL_747 : decode code 747 = .ok (.if_icmp .eq 894, 3) := by decide +kernel
theorem dL_750 : decode code 750 = .ok (.iconst 0, 1) := by decide +kernel
theorem dL_751 : decode code 751 = .ok (.ireturn, 1) := by decide +kernel
theorem dL_752 : decode code 752 = .ok (.aload_n 1, 1) := by decide +kernel
theorem dL_753 : decode code 753 = .ok (.aload_n 0, 1) := by decide +kernel
theorem dL_754 : decode code 754 = .ok (.iload_n 3, 1) := by decide +kernel
theorem dL_755 : decode code 755 = .ok (.iconst 1, 1) := by decide +kernel
theorem dL_756 : decode code 756 = .ok (.iadd, 1) := by decide +kernel
theorem dL_757 : decode code 757 = .ok (.iaload, 1) := by decide +kernel
theorem dL_758 : decode code 758 = .ok (.aload_n 0, 1) := by decide +kernel
theorem dL_759 : decode code 759 = .ok (.iload_n 3, 1) := by decide +kernel
theorem dL_760 : decode code 760 = .ok (.iconst 2, 1) := by decide +kernel
theorem dL_761 : decode code 761 = .ok (.iadd, 1) := by decide +kernel
theorem dL_762 : decode code 762 = .ok (.iaload, 1) := by decide +kernel
theorem dL_763 : decode code 763 = .ok (.invokevirtual 76, 3) := by decide +kernel
theorem dL_766 : decode code 766 = .ok (.aload_n 2, 1) := by decide +kernel
theorem dL_767 : decode code 767 = .ok (.aload_n 0, 1) := by decide +kernel
theorem dL_768 : decode code 768 = .ok (.iload_n 3, 1) := by decide +kernel
theorem dL_769 : decode code 769 = .ok (.iconst 1, 1) := by decide +kernel
theorem dL_770 : decode code 770 = .ok (.iadd, 1) := by decide +kernel
theorem dL_771 : decode code 771 = .ok (.iaload, 1) := by decide +kernel
theorem dL_772 : decode code 772 = .ok (.aload_n 0, 1) := by decide +kernel
theorem dL_773 : decode code 773 = .ok (.iload_n 3, 1) := by decide +kernel
theorem dL_774 : decode code 774 = .ok (.iconst 2, 1) := by decide +kernel
theorem dL_775 : decode code 775 = .ok (.iadd, 1) := by decide +kernel
theorem dL_776 : decode code 776 = .ok (.iaload, 1) := by decide +kernel
theorem dL_777 : decode code 777 = .ok (.invokevirtual 79, 3) := by decide +kernel
theorem dL_780 : decode code 780 = .ok (.if_icmp .eq 861, 3) := by decide +kernel
theorem dL_783 : decode code 783 = .ok (.iconst 0, 1) := by decide +kernel
theorem dL_784 : decode code 784 = .ok (.ireturn, 1) := by decide +kernel
theorem dL_785 : decode code 785 = .ok (.aload_n 1, 1) := by decide +kernel
theorem dL_786 : decode code 786 = .ok (.aload_n 0, 1) := by decide +kernel
theorem dL_787 : decode code 787 = .ok (.iload_n 3, 1) := by decide +kernel
theorem dL_788 : decode code 788 = .ok (.iconst 1, 1) := by decide +kernel
theorem dL_789 : decode code 789 = .ok (.iadd, 1) := by decide +kernel
theorem dL_790 : decode code 790 = .ok (.iaload, 1) := by decide +kernel
theorem dL_791 : decode code 791 = .ok (.aload_n 0, 1) := by decide +kernel
theorem dL_792 : decode code 792 = .ok (.iload_n 3, 1) := by decide +kernel
theorem dL_793 : decode code 793 = .ok (.iconst 2, 1) := by decide +kernel
theorem dL_794 : decode code 794 = .ok (.iadd, 1) := by decide +kernel
theorem dL_795 : decode code 795 = .ok (.iaload, 1) := by decide +kernel
theorem dL_796 : decode code 796 = .ok (.invokevirtual 80, 3) := by decide +kernel
theorem dL_799 : decode code 799 = .ok (.aload_n 2, 1) := by decide +kernel
theorem dL_800 : decode code 800 = .ok (.aload_n 0, 1) := by decide +kernel
theorem dL_801 : decode code 801 = .ok (.iload_n 3, 1) := by decide +kernel
theorem dL_802 : decode code 802 = .ok (.iconst 1, 1) := by decide +kernel
theorem dL_803 : decode code 803 = .ok (.iadd, 1) := by decide +kernel
theorem dL_804 : decode code 804 = .ok (.iaload, 1) := by decide +kernel
theorem dL_805 : decode code 805 = .ok (.aload_n 0, 1) := by decide +kernel
theorem dL_806 : decode code 806 = .ok (.iload_n 3, 1) := by decide +kernel
theorem dL_807 : decode code 807 = .ok (.iconst 2, 1) := by decide +kernel
theorem dL_808 : decode code 808 = .ok (.iadd, 1) := by decide +kernel
theorem dL_809 : decode code 809 = .ok (.iaload, 1) := by decide +kernel
theorem dL_810 : decode code 810 = .ok (.invokevirtual 83, 3) := by decide +kernel
theorem dL_813 : decode code 813 = .ok (.if_icmp .eq 828, 3) := by decide +kernel
theorem dL_816 : decode code 816 = .ok (.iconst 0, 1) := by decide +kernel
theorem dL_817 : decode code 817 = .ok (.ireturn, 1) := by decide +kernel
theorem dL_818 : decode code 818 = .ok (.aload_n 1, 1) := by decide +kernel
theorem dL_819 : decode code 819 = .ok (.aload_n 0, 1) := by decide +kernel
theorem dL_820 : decode code 820 = .ok (.iload_n 3, 1) := by decide +kernel
theorem dL_821 : decode code 821 = .ok (.iconst 1, 1) := by decide +kernel
theorem dL_822 : decode code 822 = .ok (.iadd, 1) := by decide +kernel
theorem dL_823 : decode code 823 = .ok (.iaload, 1) := by decide +kernel
theorem dL_824 : decode code 824 = .ok (.invokevirtual 84, 3) := by decide +kernel
theorem dL_827 : decode code 827 = .ok (.aload_n 2, 1) := by decide +kernel
theorem dL_828 : decode code 828 = .ok (.aload_n 0, 1) := by decide +kernel
theorem dL_829 : decode code 829 = .ok (.iload_n 3, 1) := by decide +kernel
theorem dL_830 : decode code 830 = .ok (.iconst 1, 1) := by decide +kernel
theorem dL_831 : decode code 831 = .ok (.iadd, 1) := by decide +kernel
theorem dL_832 : decode code 832 = .ok (.iaload, 1) := by decide +kernel
theorem dL_833 : decode code 833 = .ok (.invokevirtual 87, 3) := by decide +kernel
theorem dL_836 : decode code 836 = .ok (.if_icmp .eq 805, 3) := by decide +kernel
theorem dL_839 : decode code 839 = .ok (.iconst 0, 1) := by decide +kernel
theorem dL_840 : decode code 840 = .ok (.ireturn, 1) := by decide +kernel
theorem dL_841 : decode code 841 = .ok (.aload_n 1, 1) := by decide +kernel
theorem dL_842 : decode code 842 = .ok (.invokevirtual 88, 3) := by decide +kernel
theorem dL_845 : decode code 845 = .ok (.aload_n 2, 1) := by decide +kernel
theorem dL_846 : decode code 846 = .ok (.invokevirtual 91, 3) := by decide +kernel
theorem dL_849 : decode code 849 = .ok (.if_icmp .eq 792, 3) := by decide +kernel
theorem dL_852 : decode code 852 = .ok (.iconst 0, 1) := by decide +kernel
theorem dL_853 : decode code 853 = .ok (.ireturn, 1) := by decide +kernel
theorem dL_854 : decode code 854 = .ok (.aload_n 1, 1) := by decide +kernel
theorem dL_855 : decode code 855 = .ok (.aload_n 0, 1) := by decide +kernel
theorem dL_856 : decode code 856 = .ok (.iload_n 3, 1) := by decide +kernel
theorem dL_857 : decode code 857 = .ok (.iconst 1, 1) := by decide +kernel
theorem dL_858 : decode code 858 = .ok (.iadd, 1) := by decide +kernel
theorem dL_859 : decode code 859 = .ok (.iaload, 1) := by decide +kernel
theorem dL_860 : decode code 860 = .ok (.invokevirtual 92, 3) := by decide +kernel
theorem dL_863 : decode code 863 = .ok (.aload_n 2, 1) := by decide +kernel
theorem dL_864 : decode code 864 = .ok (.aload_n 0, 1) := by decide +kernel
theorem dL_865 : decode code 865 = .ok (.iload_n 3, 1) := by decide +kernel
theorem dL_866 : decode code 866 = .ok (.iconst 1, 1) := by decide +kernel
theorem dL_867 : decode code 867 = .ok (.iadd, 1) := by decide +kernel
theorem dL_868 : decode code 868 = .ok (.iaload, 1) := by decide +kernel
theorem dL_869 : decode code 869 = .ok (.invokevirtual 95, 3) := by decide +kernel
theorem dL_872 : decode code 872 = .ok (.if_icmp .eq 769, 3) := by decide +kernel
theorem dL_875 : decode code 875 = .ok (.iconst 0, 1) := by decide +kernel
theorem dL_876 : decode code 876 = .ok (.ireturn, 1) := by decide +kernel
theorem dL_877 : decode code 877 = .ok (.aload_n 1, 1) := by decide +kernel
theorem dL_878 : decode code 878 = .ok (.aload_n 0, 1) := by decide +kernel
theorem dL_879 : decode code 879 = .ok (.iload_n 3, 1) := by decide +kernel
theorem dL_880 : decode code 880 = .ok (.iconst 1, 1) := by decide +kernel
theorem dL_881 : decode code 881 = .ok (.iadd, 1) := by decide +kernel
theorem dL_882 : decode code 882 = .ok (.iaload, 1) := by decide +kernel
theorem dL_883 : decode code 883 = .ok (.invokevirtual 96, 3) := by decide +kernel
theorem dL_886 : decode code 886 = .ok (.aload_n 2, 1) := by decide +kernel
theorem dL_887 : decode code 887 = .ok (.aload_n 0, 1) := by decide +kernel
theorem dL_888 : decode code 888 = .ok (.iload_n 3, 1) := by decide +kernel
theorem dL_889 : decode code 889 = .ok (.iconst 1, 1) := by decide +kernel
theorem dL_890 : decode code 890 = .ok (.iadd, 1) := by decide +kernel
theorem dL_891 : decode code 891 = .ok (.iaload, 1) := by decide +kernel
theorem dL_892 : decode code 892 = .ok (.invokevirtual 99, 3) := by decide +kernel
theorem dL_895 : decode code 895 = .ok (.if_icmp .eq 746, 3) := by decide +kernel
theorem dL_898 : decode code 898 = .ok (.iconst 0, 1) := by decide +kernel
theorem dL_899 : decode code 899 = .ok (.ireturn, 1) := by decide +kernel
theorem dL_900 : decode code 900 = .ok (.aload_n 1, 1) := by decide +kernel
theorem dL_901 : decode code 901 = .ok (.aload_n 0, 1) := by decide +kernel
theorem dL_902 : decode code 902 = .ok (.iload_n 3, 1) := by decide +kernel
theorem dL_903 : decode code 903 = .ok (.iconst 1, 1) := by decide +kernel
theorem dL_904 : decode code 904 = .ok (.iadd, 1) := by decide +kernel
theorem dL_905 : decode code 905 = .ok (.iaload, 1) := by decide +kernel
theorem dL_906 : decode code 906 = .ok (.aload_n 0, 1) := by decide +kernel
theorem dL_907 : decode code 907 = .ok (.iload_n 3, 1) := by decide +kernel
theorem dL_908 : decode code 908 = .ok (.iconst 2, 1) := by decide +kernel
theorem dL_909 : decode code 909 = .ok (.iadd, 1) := by decide +kernel
theorem dL_910 : decode code 910 = .ok (.iaload, 1) := by decide +kernel
theorem dL_911 : decode code 911 = .ok (.aload_n 0, 1) := by decide +kernel
theorem dL_912 : decode code 912 = .ok (.iload_n 3, 1) := by decide +kernel
theorem dL_913 : decode code 913 = .ok (.iconst 3, 1) := by decide +kernel
theorem dL_914 : decode code 914 = .ok (.iadd, 1) := by decide +kernel
theorem dL_915 : decode code 915 = .ok (.iaload, 1) := by decide +kernel
theorem dL_916 : decode code 916 = .ok (.aload_n 0, 1) := by decide +kernel
theorem dL_917 : decode code 917 = .ok (.iload_n 3, 1) := by decide +kernel
theorem dL_918 : decode code 918 = .ok (.iconst 4, 1) := by decide +kernel
theorem dL_919 : decode code 919 = .ok (.iadd, 1) := by decide +kernel
theorem dL_920 : decode code 920 = .ok (.iaload, 1) := by decide +kernel
theorem dL_921 : decode code 921 = .ok (.invokevirtual 100, 3) := by decide +kernel
theorem dL_924 : decode code 924 = .ok (.aload_n 2, 1) := by decide +kernel
theorem dL_925 : decode code 925 = .ok (.aload_n 0, 1) := by decide +kernel
