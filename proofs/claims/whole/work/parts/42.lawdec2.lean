theorem dL_law_540 : decode code 540 = .ok (.iload 5, 2) := by decide +kernel
theorem dL_law_542 : decode code 542 = .ok (.ifCond .ne 15, 3) := by decide +kernel
theorem dL_law_545 : decode code 545 = .ok (.aload_n 3, 1) := by decide +kernel
theorem dL_law_546 : decode code 546 = .ok (.iconst 0, 1) := by decide +kernel
theorem dL_law_547 : decode code 547 = .ok (.laload, 1) := by decide +kernel
theorem dL_law_548 : decode code 548 = .ok (.iload 6, 2) := by decide +kernel
theorem dL_law_550 : decode code 550 = .ok (.i2l, 1) := by decide +kernel
theorem dL_law_551 : decode code 551 = .ok (.lcmp, 1) := by decide +kernel
theorem dL_law_552 : decode code 552 = .ok (.ifCond .eq 5, 3) := by decide +kernel
theorem dL_law_555 : decode code 555 = .ok (.iconst 0, 1) := by decide +kernel
theorem dL_law_556 : decode code 556 = .ok (.ireturn, 1) := by decide +kernel
theorem dL_law_557 : decode code 557 = .ok (.goto 975, 3) := by decide +kernel
theorem dL_law_560 : decode code 560 = .ok (.aload_n 1, 1) := by decide +kernel
theorem dL_law_561 : decode code 561 = .ok (.invokevirtual 82, 3) := by decide +kernel
theorem dL_law_564 : decode code 564 = .ok (.aload_n 2, 1) := by decide +kernel
theorem dL_law_565 : decode code 565 = .ok (.invokevirtual 85, 3) := by decide +kernel
theorem dL_law_568 : decode code 568 = .ok (.if_icmp .eq 964, 3) := by decide +kernel
theorem dL_law_571 : decode code 571 = .ok (.iconst 0, 1) := by decide +kernel
theorem dL_law_572 : decode code 572 = .ok (.ireturn, 1) := by decide +kernel
theorem dL_law_573 : decode code 573 = .ok (.aload_n 1, 1) := by decide +kernel
theorem dL_law_574 : decode code 574 = .ok (.aload_n 0, 1) := by decide +kernel
theorem dL_law_575 : decode code 575 = .ok (.iload 4, 2) := by decide +kernel
theorem dL_law_577 : decode code 577 = .ok (.iconst 1, 1) := by decide +kernel
theorem dL_law_578 : decode code 578 = .ok (.iadd, 1) := by decide +kernel
theorem dL_law_579 : decode code 579 = .ok (.iaload, 1) := by decide +kernel
theorem dL_law_580 : decode code 580 = .ok (.i2l, 1) := by decide +kernel
theorem dL_law_581 : decode code 581 = .ok (.bipush 32, 2) := by decide +kernel
theorem dL_law_583 : decode code 583 = .ok (.lshl, 1) := by decide +kernel
theorem dL_law_584 : decode code 584 = .ok (.aload_n 0, 1) := by decide +kernel
theorem dL_law_585 : decode code 585 = .ok (.iload 4, 2) := by decide +kernel
theorem dL_law_587 : decode code 587 = .ok (.iconst 2, 1) := by decide +kernel
theorem dL_law_588 : decode code 588 = .ok (.iadd, 1) := by decide +kernel
theorem dL_law_589 : decode code 589 = .ok (.iaload, 1) := by decide +kernel
theorem dL_law_590 : decode code 590 = .ok (.i2l, 1) := by decide +kernel
theorem dL_law_591 : decode code 591 = .ok (.ldc2_w 66, 3) := by decide +kernel
theorem dL_law_594 : decode code 594 = .ok (.land, 1) := by decide +kernel
theorem dL_law_595 : decode code 595 = .ok (.lor, 1) := by decide +kernel
theorem dL_law_596 : decode code 596 = .ok (.aload_n 3, 1) := by decide +kernel
theorem dL_law_597 : decode code 597 = .ok (.invokestatic 86, 3) := by decide +kernel
theorem dL_law_600 : decode code 600 = .ok (.istore 5, 2) := by decide +kernel
theorem dL_law_602 : decode code 602 = .ok (.aload_n 2, 1) := by decide +kernel
theorem dL_law_603 : decode code 603 = .ok (.aload_n 0, 1) := by decide +kernel
theorem dL_law_604 : decode code 604 = .ok (.iload 4, 2) := by decide +kernel
theorem dL_law_606 : decode code 606 = .ok (.iconst 1, 1) := by decide +kernel
theorem dL_law_607 : decode code 607 = .ok (.iadd, 1) := by decide +kernel
theorem dL_law_608 : decode code 608 = .ok (.iaload, 1) := by decide +kernel
theorem dL_law_609 : decode code 609 = .ok (.i2l, 1) := by decide +kernel
theorem dL_law_610 : decode code 610 = .ok (.bipush 32, 2) := by decide +kernel
theorem dL_law_612 : decode code 612 = .ok (.lshl, 1) := by decide +kernel
theorem dL_law_613 : decode code 613 = .ok (.aload_n 0, 1) := by decide +kernel
theorem dL_law_614 : decode code 614 = .ok (.iload 4, 2) := by decide +kernel
theorem dL_law_616 : decode code 616 = .ok (.iconst 2, 1) := by decide +kernel
theorem dL_law_617 : decode code 617 = .ok (.iadd, 1) := by decide +kernel
theorem dL_law_618 : decode code 618 = .ok (.iaload, 1) := by decide +kernel
theorem dL_law_619 : decode code 619 = .ok (.i2l, 1) := by decide +kernel
theorem dL_law_620 : decode code 620 = .ok (.ldc2_w 66, 3) := by decide +kernel
theorem dL_law_623 : decode code 623 = .ok (.land, 1) := by decide +kernel
theorem dL_law_624 : decode code 624 = .ok (.lor, 1) := by decide +kernel
theorem dL_law_625 : decode code 625 = .ok (.invokevirtual 89, 3) := by decide +kernel
theorem dL_law_628 : decode code 628 = .ok (.istore 6, 2) := by decide +kernel
theorem dL_law_630 : decode code 630 = .ok (.aload_n 2, 1) := by decide +kernel
theorem dL_law_631 : decode code 631 = .ok (.invokevirtual 74, 3) := by decide +kernel
theorem dL_law_634 : decode code 634 = .ok (.iload 5, 2) := by decide +kernel
theorem dL_law_636 : decode code 636 = .ok (.if_icmp .eq 5, 3) := by decide +kernel
theorem dL_law_639 : decode code 639 = .ok (.iconst 0, 1) := by decide +kernel
theorem dL_law_640 : decode code 640 = .ok (.ireturn, 1) := by decide +kernel
theorem dL_law_641 : decode code 641 = .ok (.iload 5, 2) := by decide +kernel
theorem dL_law_643 : decode code 643 = .ok (.ifCond .ne 15, 3) := by decide +kernel
theorem dL_law_646 : decode code 646 = .ok (.aload_n 3, 1) := by decide +kernel
theorem dL_law_647 : decode code 647 = .ok (.iconst 0, 1) := by decide +kernel
theorem dL_law_648 : decode code 648 = .ok (.laload, 1) := by decide +kernel
theorem dL_law_649 : decode code 649 = .ok (.iload 6, 2) := by decide +kernel
theorem dL_law_651 : decode code 651 = .ok (.i2l, 1) := by decide +kernel
theorem dL_law_652 : decode code 652 = .ok (.lcmp, 1) := by decide +kernel
theorem dL_law_653 : decode code 653 = .ok (.ifCond .eq 5, 3) := by decide +kernel
theorem dL_law_656 : decode code 656 = .ok (.iconst 0, 1) := by decide +kernel
theorem dL_law_657 : decode code 657 = .ok (.ireturn, 1) := by decide +kernel
theorem dL_law_658 : decode code 658 = .ok (.goto 874, 3) := by decide +kernel
theorem dL_law_661 : decode code 661 = .ok (.aload_n 1, 1) := by decide +kernel
theorem dL_law_662 : decode code 662 = .ok (.aload_n 0, 1) := by decide +kernel
theorem dL_law_663 : decode code 663 = .ok (.iload 4, 2) := by decide +kernel
theorem dL_law_665 : decode code 665 = .ok (.iconst 1, 1) := by decide +kernel
theorem dL_law_666 : decode code 666 = .ok (.iadd, 1) := by decide +kernel
theorem dL_law_667 : decode code 667 = .ok (.iaload, 1) := by decide +kernel
theorem dL_law_668 : decode code 668 = .ok (.aload_n 0, 1) := by decide +kernel
theorem dL_law_669 : decode code 669 = .ok (.iload 4, 2) := by decide +kernel
theorem dL_law_671 : decode code 671 = .ok (.iconst 2, 1) := by decide +kernel
theorem dL_law_672 : decode code 672 = .ok (.iadd, 1) := by decide +kernel
theorem dL_law_673 : decode code 673 = .ok (.iaload, 1) := by decide +kernel
theorem dL_law_674 : decode code 674 = .ok (.i2l, 1) := by decide +kernel
theorem dL_law_675 : decode code 675 = .ok (.bipush 32, 2) := by decide +kernel
theorem dL_law_677 : decode code 677 = .ok (.lshl, 1) := by decide +kernel
theorem dL_law_678 : decode code 678 = .ok (.aload_n 0, 1) := by decide +kernel
theorem dL_law_679 : decode code 679 = .ok (.iload 4, 2) := by decide +kernel
theorem dL_law_681 : decode code 681 = .ok (.iconst 3, 1) := by decide +kernel
theorem dL_law_682 : decode code 682 = .ok (.iadd, 1) := by decide +kernel
theorem dL_law_683 : decode code 683 = .ok (.iaload, 1) := by decide +kernel
theorem dL_law_684 : decode code 684 = .ok (.i2l, 1) := by decide +kernel
theorem dL_law_685 : decode code 685 = .ok (.ldc2_w 66, 3) := by decide +kernel
theorem dL_law_688 : decode code 688 = .ok (.land, 1) := by decide +kernel
theorem dL_law_689 : decode code 689 = .ok (.lor, 1) := by decide +kernel
theorem dL_law_690 : decode code 690 = .ok (.aload_n 0, 1) := by decide +kernel
theorem dL_law_691 : decode code 691 = .ok (.iload 4, 2) := by decide +kernel
theorem dL_law_693 : decode code 693 = .ok (.iconst 4, 1) := by decide +kernel
theorem dL_law_694 : decode code 694 = .ok (.iadd, 1) := by decide +kernel
theorem dL_law_695 : decode code 695 = .ok (.iaload, 1) := by decide +kernel
theorem dL_law_696 : decode code 696 = .ok (.i2l, 1) := by decide +kernel
theorem dL_law_697 : decode code 697 = .ok (.bipush 32, 2) := by decide +kernel
theorem dL_law_699 : decode code 699 = .ok (.lshl, 1) := by decide +kernel
theorem dL_law_700 : decode code 700 = .ok (.aload_n 0, 1) := by decide +kernel
theorem dL_law_701 : decode code 701 = .ok (.iload 4, 2) := by decide +kernel
theorem dL_law_703 : decode code 703 = .ok (.iconst 5, 1) := by decide +kernel
theorem dL_law_704 : decode code 704 = .ok (.iadd, 1) := by decide +kernel
theorem dL_law_705 : decode code 705 = .ok (.iaload, 1) := by decide +kernel
theorem dL_law_706 : decode code 706 = .ok (.i2l, 1) := by decide +kernel
theorem dL_law_707 : decode code 707 = .ok (.ldc2_w 66, 3) := by decide +kernel
theorem dL_law_710 : decode code 710 = .ok (.land, 1) := by decide +kernel
theorem dL_law_711 : decode code 711 = .ok (.lor, 1) := by decide +kernel
theorem dL_law_712 : decode code 712 = .ok (.aload_n 3, 1) := by decide +kernel
theorem dL_law_713 : decode code 713 = .ok (.invokestatic 90, 3) := by decide +kernel
theorem dL_law_716 : decode code 716 = .ok (.istore 5, 2) := by decide +kernel
theorem dL_law_718 : decode code 718 = .ok (.aload_n 2, 1) := by decide +kernel
theorem dL_law_719 : decode code 719 = .ok (.aload_n 0, 1) := by decide +kernel
theorem dL_law_720 : decode code 720 = .ok (.iload 4, 2) := by decide +kernel
theorem dL_law_722 : decode code 722 = .ok (.iconst 1, 1) := by decide +kernel
theorem dL_law_723 : decode code 723 = .ok (.iadd, 1) := by decide +kernel
theorem dL_law_724 : decode code 724 = .ok (.iaload, 1) := by decide +kernel
theorem dL_law_725 : decode code 725 = .ok (.aload_n 0, 1) := by decide +kernel
theorem dL_law_726 : decode code 726 = .ok (.iload 4, 2) := by decide +kernel
theorem dL_law_728 : decode code 728 = .ok (.iconst 2, 1) := by decide +kernel
theorem dL_law_729 : decode code 729 = .ok (.iadd, 1) := by decide +kernel
theorem dL_law_730 : decode code 730 = .ok (.iaload, 1) := by decide +kernel
theorem dL_law_731 : decode code 731 = .ok (.i2l, 1) := by decide +kernel
theorem dL_law_732 : decode code 732 = .ok (.bipush 32, 2) := by decide +kernel
theorem dL_law_734 : decode code 734 = .ok (.lshl, 1) := by decide +kernel
theorem dL_law_735 : decode code 735 = .ok (.aload_n 0, 1) := by decide +kernel
theorem dL_law_736 : decode code 736 = .ok (.iload 4, 2) := by decide +kernel
theorem dL_law_738 : decode code 738 = .ok (.iconst 3, 1) := by decide +kernel
theorem dL_law_739 : decode code 739 = .ok (.iadd, 1) := by decide +kernel
theorem dL_law_740 : decode code 740 = .ok (.iaload, 1) := by decide +kernel
theorem dL_law_741 : decode code 741 = .ok (.i2l, 1) := by decide +kernel
theorem dL_law_742 : decode code 742 = .ok (.ldc2_w 66, 3) := by decide +kernel
theorem dL_law_745 : decode code 745 = .ok (.land, 1) := by decide +kernel
theorem dL_law_746 : decode code 746 = .ok (.lor, 1) := by decide +kernel
theorem dL_law_747 : decode code 747 = .ok (.aload_n 0, 1) := by decide +kernel
theorem dL_law_748 : decode code 748 = .ok (.iload 4, 2) := by decide +kernel
theorem dL_law_750 : decode code 750 = .ok (.iconst 4, 1) := by decide +kernel
theorem dL_law_751 : decode code 751 = .ok (.iadd, 1) := by decide +kernel
theorem dL_law_752 : decode code 752 = .ok (.iaload, 1) := by decide +kernel
theorem dL_law_753 : decode code 753 = .ok (.i2l, 1) := by decide +kernel
theorem dL_law_754 : decode code 754 = .ok (.bipush 32, 2) := by decide +kernel
theorem dL_law_756 : decode code 756 = .ok (.lshl, 1) := by decide +kernel
theorem dL_law_757 : decode code 757 = .ok (.aload_n 0, 1) := by decide +kernel
theorem dL_law_758 : decode code 758 = .ok (.iload 4, 2) := by decide +kernel
theorem dL_law_760 : decode code 760 = .ok (.iconst 5, 1) := by decide +kernel
theorem dL_law_761 : decode code 761 = .ok (.iadd, 1) := by decide +kernel
theorem dL_law_762 : decode code 762 = .ok (.iaload, 1) := by decide +kernel
theorem dL_law_763 : decode code 763 = .ok (.i2l, 1) := by decide +kernel
theorem dL_law_764 : decode code 764 = .ok (.ldc2_w 66, 3) := by decide +kernel
theorem dL_law_767 : decode code 767 = .ok (.land, 1) := by decide +kernel
theorem dL_law_768 : decode code 768 = .ok (.lor, 1) := by decide +kernel
theorem dL_law_769 : decode code 769 = .ok (.invokevirtual 93, 3) := by decide +kernel
theorem dL_law_772 : decode code 772 = .ok (.istore 6, 2) := by decide +kernel
theorem dL_law_774 : decode code 774 = .ok (.aload_n 2, 1) := by decide +kernel
theorem dL_law_775 : decode code 775 = .ok (.invokevirtual 74, 3) := by decide +kernel
theorem dL_law_778 : decode code 778 = .ok (.iload 5, 2) := by decide +kernel
theorem dL_law_780 : decode code 780 = .ok (.if_icmp .eq 5, 3) := by decide +kernel
theorem dL_law_783 : decode code 783 = .ok (.iconst 0, 1) := by decide +kernel
theorem dL_law_784 : decode code 784 = .ok (.ireturn, 1) := by decide +kernel
theorem dL_law_785 : decode code 785 = .ok (.iload 5, 2) := by decide +kernel
theorem dL_law_787 : decode code 787 = .ok (.ifCond .ne 22, 3) := by decide +kernel
theorem dL_law_790 : decode code 790 = .ok (.aload_n 3, 1) := by decide +kernel
theorem dL_law_791 : decode code 791 = .ok (.iconst 0, 1) := by decide +kernel
theorem dL_law_792 : decode code 792 = .ok (.laload, 1) := by decide +kernel
theorem dL_law_793 : decode code 793 = .ok (.iload 6, 2) := by decide +kernel
theorem dL_law_795 : decode code 795 = .ok (.ifCond .eq 7, 3) := by decide +kernel
theorem dL_law_798 : decode code 798 = .ok (.lconst 1, 1) := by decide +kernel
theorem dL_law_799 : decode code 799 = .ok (.goto 4, 3) := by decide +kernel
theorem dL_law_802 : decode code 802 = .ok (.lconst 0, 1) := by decide +kernel
theorem dL_law_803 : decode code 803 = .ok (.lcmp, 1) := by decide +kernel
theorem dL_law_804 : decode code 804 = .ok (.ifCond .eq 5, 3) := by decide +kernel
theorem dL_law_807 : decode code 807 = .ok (.iconst 0, 1) := by decide +kernel
theorem dL_law_808 : decode code 808 = .ok (.ireturn, 1) := by decide +kernel
theorem dL_law_809 : decode code 809 = .ok (.goto 723, 3) := by decide +kernel
theorem dL_law_812 : decode code 812 = .ok (.aload_n 1, 1) := by decide +kernel
theorem dL_law_813 : decode code 813 = .ok (.aload_n 0, 1) := by decide +kernel
theorem dL_law_814 : decode code 814 = .ok (.iload 4, 2) := by decide +kernel
theorem dL_law_816 : decode code 816 = .ok (.iconst 1, 1) := by decide +kernel
theorem dL_law_817 : decode code 817 = .ok (.iadd, 1) := by decide +kernel
theorem dL_law_818 : decode code 818 = .ok (.iaload, 1) := by decide +kernel
theorem dL_law_819 : decode code 819 = .ok (.aload_n 3, 1) := by decide +kernel
theorem dL_law_820 : decode code 820 = .ok (.invokestatic 94, 3) := by decide +kernel
theorem dL_law_823 : decode code 823 = .ok (.istore 5, 2) := by decide +kernel
theorem dL_law_825 : decode code 825 = .ok (.aload_n 2, 1) := by decide +kernel
theorem dL_law_826 : decode code 826 = .ok (.aload_n 0, 1) := by decide +kernel
theorem dL_law_827 : decode code 827 = .ok (.iload 4, 2) := by decide +kernel
theorem dL_law_829 : decode code 829 = .ok (.iconst 1, 1) := by decide +kernel
theorem dL_law_830 : decode code 830 = .ok (.iadd, 1) := by decide +kernel
theorem dL_law_831 : decode code 831 = .ok (.iaload, 1) := by decide +kernel
theorem dL_law_832 : decode code 832 = .ok (.invokevirtual 97, 3) := by decide +kernel
theorem dL_law_835 : decode code 835 = .ok (.istore 6, 2) := by decide +kernel
theorem dL_law_837 : decode code 837 = .ok (.aload_n 2, 1) := by decide +kernel
theorem dL_law_838 : decode code 838 = .ok (.invokevirtual 74, 3) := by decide +kernel
theorem dL_law_841 : decode code 841 = .ok (.iload 5, 2) := by decide +kernel
theorem dL_law_843 : decode code 843 = .ok (.if_icmp .eq 5, 3) := by decide +kernel
theorem dL_law_846 : decode code 846 = .ok (.iconst 0, 1) := by decide +kernel
theorem dL_law_847 : decode code 847 = .ok (.ireturn, 1) := by decide +kernel
theorem dL_law_848 : decode code 848 = .ok (.iload 5, 2) := by decide +kernel
theorem dL_law_850 : decode code 850 = .ok (.ifCond .ne 22, 3) := by decide +kernel
theorem dL_law_853 : decode code 853 = .ok (.aload_n 3, 1) := by decide +kernel
theorem dL_law_854 : decode code 854 = .ok (.iconst 0, 1) := by decide +kernel
theorem dL_law_855 : decode code 855 = .ok (.laload, 1) := by decide +kernel
theorem dL_law_856 : decode code 856 = .ok (.iload 6, 2) := by decide +kernel
theorem dL_law_858 : decode code 858 = .ok (.ifCond .eq 7, 3) := by decide +kernel
theorem dL_law_861 : decode code 861 = .ok (.lconst 1, 1) := by decide +kernel
theorem dL_law_862 : decode code 862 = .ok (.goto 4, 3) := by decide +kernel
theorem dL_law_865 : decode code 865 = .ok (.lconst 0, 1) := by decide +kernel
theorem dL_law_866 : decode code 866 = .ok (.lcmp, 1) := by decide +kernel
theorem dL_law_867 : decode code 867 = .ok (.ifCond .eq 5, 3) := by decide +kernel
theorem dL_law_870 : decode code 870 = .ok (.iconst 0, 1) := by decide +kernel
theorem dL_law_871 : decode code 871 = .ok (.ireturn, 1) := by decide +kernel
theorem dL_law_872 : decode code 872 = .ok (.goto 660, 3) := by decide +kernel
theorem dL_law_875 : decode code 875 = .ok (.aload_n 1, 1) := by decide +kernel
theorem dL_law_876 : decode code 876 = .ok (.aload_n 0, 1) := by decide +kernel
theorem dL_law_877 : decode code 877 = .ok (.iload 4, 2) := by decide +kernel
theorem dL_law_879 : decode code 879 = .ok (.iconst 1, 1) := by decide +kernel
theorem dL_law_880 : decode code 880 = .ok (.iadd, 1) := by decide +kernel
theorem dL_law_881 : decode code 881 = .ok (.iaload, 1) := by decide +kernel
theorem dL_law_882 : decode code 882 = .ok (.aload_n 0, 1) := by decide +kernel
theorem dL_law_883 : decode code 883 = .ok (.iload 4, 2) := by decide +kernel
theorem dL_law_885 : decode code 885 = .ok (.iconst 2, 1) := by decide +kernel
theorem dL_law_886 : decode code 886 = .ok (.iadd, 1) := by decide +kernel
theorem dL_law_887 : decode code 887 = .ok (.iaload, 1) := by decide +kernel
theorem dL_law_888 : decode code 888 = .ok (.i2l, 1) := by decide +kernel
theorem dL_law_889 : decode code 889 = .ok (.bipush 32, 2) := by decide +kernel
theorem dL_law_891 : decode code 891 = .ok (.lshl, 1) := by decide +kernel
theorem dL_law_892 : decode code 892 = .ok (.aload_n 0, 1) := by decide +kernel
theorem dL_law_893 : decode code 893 = .ok (.iload 4, 2) := by decide +kernel
theorem dL_law_895 : decode code 895 = .ok (.iconst 3, 1) := by decide +kernel
theorem dL_law_896 : decode code 896 = .ok (.iadd, 1) := by decide +kernel
theorem dL_law_897 : decode code 897 = .ok (.iaload, 1) := by decide +kernel
theorem dL_law_898 : decode code 898 = .ok (.i2l, 1) := by decide +kernel
theorem dL_law_899 : decode code 899 = .ok (.ldc2_w 66, 3) := by decide +kernel
theorem dL_law_902 : decode code 902 = .ok (.land, 1) := by decide +kernel
theorem dL_law_903 : decode code 903 = .ok (.lor, 1) := by decide +kernel
theorem dL_law_904 : decode code 904 = .ok (.aload_n 3, 1) := by decide +kernel
theorem dL_law_905 : decode code 905 = .ok (.invokestatic 98, 3) := by decide +kernel
theorem dL_law_908 : decode code 908 = .ok (.istore 5, 2) := by decide +kernel
theorem dL_law_910 : decode code 910 = .ok (.aload_n 2, 1) := by decide +kernel
theorem dL_law_911 : decode code 911 = .ok (.aload_n 0, 1) := by decide +kernel
theorem dL_law_912 : decode code 912 = .ok (.iload 4, 2) := by decide +kernel
theorem dL_law_914 : decode code 914 = .ok (.iconst 1, 1) := by decide +kernel
theorem dL_law_915 : decode code 915 = .ok (.iadd, 1) := by decide +kernel
theorem dL_law_916 : decode code 916 = .ok (.iaload, 1) := by decide +kernel
theorem dL_law_917 : decode code 917 = .ok (.aload_n 0, 1) := by decide +kernel
theorem dL_law_918 : decode code 918 = .ok (.iload 4, 2) := by decide +kernel
theorem dL_law_920 : decode code 920 = .ok (.iconst 2, 1) := by decide +kernel
theorem dL_law_921 : decode code 921 = .ok (.iadd, 1) := by decide +kernel
theorem dL_law_922 : decode code 922 = .ok (.iaload, 1) := by decide +kernel
theorem dL_law_923 : decode code 923 = .ok (.i2l, 1) := by decide +kernel
theorem dL_law_924 : decode code 924 = .ok (.bipush 32, 2) := by decide +kernel
theorem dL_law_926 : decode code 926 = .ok (.lshl, 1) := by decide +kernel
theorem dL_law_927 : decode code 927 = .ok (.aload_n 0, 1) := by decide +kernel
theorem dL_law_928 : decode code 928 = .ok (.iload 4, 2) := by decide +kernel
theorem dL_law_930 : decode code 930 = .ok (.iconst 3, 1) := by decide +kernel
theorem dL_law_931 : decode code 931 = .ok (.iadd, 1) := by decide +kernel
theorem dL_law_932 : decode code 932 = .ok (.iaload, 1) := by decide +kernel
theorem dL_law_933 : decode code 933 = .ok (.i2l, 1) := by decide +kernel
theorem dL_law_934 : decode code 934 = .ok (.ldc2_w 66, 3) := by decide +kernel
theorem dL_law_937 : decode code 937 = .ok (.land, 1) := by decide +kernel
theorem dL_law_938 : decode code 938 = .ok (.lor, 1) := by decide +kernel
theorem dL_law_939 : decode code 939 = .ok (.invokevirtual 101, 3) := by decide +kernel
theorem dL_law_942 : decode code 942 = .ok (.istore 6, 2) := by decide +kernel
theorem dL_law_944 : decode code 944 = .ok (.aload_n 2, 1) := by decide +kernel
theorem dL_law_945 : decode code 945 = .ok (.invokevirtual 74, 3) := by decide +kernel
theorem dL_law_948 : decode code 948 = .ok (.iload 5, 2) := by decide +kernel
theorem dL_law_950 : decode code 950 = .ok (.if_icmp .eq 5, 3) := by decide +kernel
theorem dL_law_953 : decode code 953 = .ok (.iconst 0, 1) := by decide +kernel
theorem dL_law_954 : decode code 954 = .ok (.ireturn, 1) := by decide +kernel
theorem dL_law_955 : decode code 955 = .ok (.iload 5, 2) := by decide +kernel
theorem dL_law_957 : decode code 957 = .ok (.ifCond .ne 15, 3) := by decide +kernel
theorem dL_law_960 : decode code 960 = .ok (.aload_n 3, 1) := by decide +kernel
theorem dL_law_961 : decode code 961 = .ok (.iconst 0, 1) := by decide +kernel
theorem dL_law_962 : decode code 962 = .ok (.laload, 1) := by decide +kernel
theorem dL_law_963 : decode code 963 = .ok (.iload 6, 2) := by decide +kernel
theorem dL_law_965 : decode code 965 = .ok (.i2l, 1) := by decide +kernel
theorem dL_law_966 : decode code 966 = .ok (.lcmp, 1) := by decide +kernel
theorem dL_law_967 : decode code 967 = .ok (.ifCond .eq 5, 3) := by decide +kernel
theorem dL_law_970 : decode code 970 = .ok (.iconst 0, 1) := by decide +kernel
theorem dL_law_971 : decode code 971 = .ok (.ireturn, 1) := by decide +kernel
theorem dL_law_972 : decode code 972 = .ok (.goto 560, 3) := by decide +kernel
theorem dL_law_975 : decode code 975 = .ok (.aload_n 1, 1) := by decide +kernel
theorem dL_law_976 : decode code 976 = .ok (.aload_n 0, 1) := by decide +kernel
theorem dL_law_977 : decode code 977 = .ok (.iload 4, 2) := by decide +kernel
theorem dL_law_979 : decode code 979 = .ok (.iconst 1, 1) := by decide +kernel
theorem dL_law_980 : decode code 980 = .ok (.iadd, 1) := by decide +kernel
theorem dL_law_981 : decode code 981 = .ok (.iaload, 1) := by decide +kernel
theorem dL_law_982 : decode code 982 = .ok (.aload_n 0, 1) := by decide +kernel
theorem dL_law_983 : decode code 983 = .ok (.iload 4, 2) := by decide +kernel
theorem dL_law_985 : decode code 985 = .ok (.iconst 2, 1) := by decide +kernel
theorem dL_law_986 : decode code 986 = .ok (.iadd, 1) := by decide +kernel
theorem dL_law_987 : decode code 987 = .ok (.iaload, 1) := by decide +kernel
theorem dL_law_988 : decode code 988 = .ok (.i2l, 1) := by decide +kernel
theorem dL_law_989 : decode code 989 = .ok (.bipush 32, 2) := by decide +kernel
theorem dL_law_991 : decode code 991 = .ok (.lshl, 1) := by decide +kernel
theorem dL_law_992 : decode code 992 = .ok (.aload_n 0, 1) := by decide +kernel
theorem dL_law_993 : decode code 993 = .ok (.iload 4, 2) := by decide +kernel
theorem dL_law_995 : decode code 995 = .ok (.iconst 3, 1) := by decide +kernel
theorem dL_law_996 : decode code 996 = .ok (.iadd, 1) := by decide +kernel
theorem dL_law_997 : decode code 997 = .ok (.iaload, 1) := by decide +kernel
theorem dL_law_998 : decode code 998 = .ok (.i2l, 1) := by decide +kernel
theorem dL_law_999 : decode code 999 = .ok (.ldc2_w 66, 3) := by decide +kernel
theorem dL_law_1002 : decode code 1002 = .ok (.land, 1) := by decide +kernel
theorem dL_law_1003 : decode code 1003 = .ok (.lor, 1) := by decide +kernel
theorem dL_law_1004 : decode code 1004 = .ok (.aload_n 0, 1) := by decide +kernel
theorem dL_law_1005 : decode code 1005 = .ok (.iload 4, 2) := by decide +kernel
theorem dL_law_1007 : decode code 1007 = .ok (.iconst 4, 1) := by decide +kernel
theorem dL_law_1008 : decode code 1008 = .ok (.iadd, 1) := by decide +kernel
theorem dL_law_1009 : decode code 1009 = .ok (.iaload, 1) := by decide +kernel
theorem dL_law_1010 : decode code 1010 = .ok (.i2l, 1) := by decide +kernel
theorem dL_law_1011 : decode code 1011 = .ok (.bipush 32, 2) := by decide +kernel
theorem dL_law_1013 : decode code 1013 = .ok (.lshl, 1) := by decide +kernel
theorem dL_law_1014 : decode code 1014 = .ok (.aload_n 0, 1) := by decide +kernel
theorem dL_law_1015 : decode code 1015 = .ok (.iload 4, 2) := by decide +kernel
theorem dL_law_1017 : decode code 1017 = .ok (.iconst 5, 1) := by decide +kernel
theorem dL_law_1018 : decode code 1018 = .ok (.iadd, 1) := by decide +kernel
theorem dL_law_1019 : decode code 1019 = .ok (.iaload, 1) := by decide +kernel
theorem dL_law_1020 : decode code 1020 = .ok (.i2l, 1) := by decide +kernel
theorem dL_law_1021 : decode code 1021 = .ok (.ldc2_w 66, 3) := by decide +kernel
theorem dL_law_1024 : decode code 1024 = .ok (.land, 1) := by decide +kernel
theorem dL_law_1025 : decode code 1025 = .ok (.lor, 1) := by decide +kernel
theorem dL_law_1026 : decode code 1026 = .ok (.aload_n 3, 1) := by decide +kernel
theorem dL_law_1027 : decode code 1027 = .ok (.invokestatic 102, 3) := by decide +kernel
theorem dL_law_1030 : decode code 1030 = .ok (.istore 5, 2) := by decide +kernel
theorem dL_law_1032 : decode code 1032 = .ok (.aload_n 2, 1) := by decide +kernel
