theorem d_law_581 : decode code 581 = .ok (.iaload, 1) := by decide +kernel
theorem d_law_582 : decode code 582 = .ok (.aload_n 0, 1) := by decide +kernel
theorem d_law_583 : decode code 583 = .ok (.iload 5, 2) := by decide +kernel
theorem d_law_585 : decode code 585 = .ok (.iconst 2, 1) := by decide +kernel
theorem d_law_586 : decode code 586 = .ok (.iadd, 1) := by decide +kernel
theorem d_law_587 : decode code 587 = .ok (.iaload, 1) := by decide +kernel
theorem d_law_588 : decode code 588 = .ok (.invokevirtual 180, 3) := by decide +kernel
theorem d_law_591 : decode code 591 = .ok (.istore 7, 2) := by decide +kernel
theorem d_law_593 : decode code 593 = .ok (.aload_n 2, 1) := by decide +kernel
theorem d_law_594 : decode code 594 = .ok (.invokevirtual 160, 3) := by decide +kernel
theorem d_law_597 : decode code 597 = .ok (.iload 6, 2) := by decide +kernel
theorem d_law_599 : decode code 599 = .ok (.if_icmp .eq 5, 3) := by decide +kernel
theorem d_law_604 : decode code 604 = .ok (.iload 6, 2) := by decide +kernel
theorem d_law_606 : decode code 606 = .ok (.ifCond .ne 15, 3) := by decide +kernel
theorem d_law_621 : decode code 621 = .ok (.goto 2451, 3) := by decide +kernel
theorem d_law_624 : decode code 624 = .ok (.aload_n 1, 1) := by decide +kernel
theorem d_law_625 : decode code 625 = .ok (.aload_n 0, 1) := by decide +kernel
theorem d_law_626 : decode code 626 = .ok (.iload 5, 2) := by decide +kernel
theorem d_law_628 : decode code 628 = .ok (.iconst 1, 1) := by decide +kernel
theorem d_law_629 : decode code 629 = .ok (.iadd, 1) := by decide +kernel
theorem d_law_630 : decode code 630 = .ok (.iaload, 1) := by decide +kernel
theorem d_law_631 : decode code 631 = .ok (.aload_n 3, 1) := by decide +kernel
theorem d_law_632 : decode code 632 = .ok (.invokestatic 181, 3) := by decide +kernel
theorem d_law_635 : decode code 635 = .ok (.istore 6, 2) := by decide +kernel
theorem d_law_637 : decode code 637 = .ok (.aload_n 2, 1) := by decide +kernel
theorem d_law_638 : decode code 638 = .ok (.aload_n 0, 1) := by decide +kernel
theorem d_law_639 : decode code 639 = .ok (.iload 5, 2) := by decide +kernel
theorem d_law_641 : decode code 641 = .ok (.iconst 1, 1) := by decide +kernel
theorem d_law_642 : decode code 642 = .ok (.iadd, 1) := by decide +kernel
theorem d_law_643 : decode code 643 = .ok (.iaload, 1) := by decide +kernel
theorem d_law_644 : decode code 644 = .ok (.invokevirtual 183, 3) := by decide +kernel
theorem d_law_647 : decode code 647 = .ok (.istore 7, 2) := by decide +kernel
theorem d_law_649 : decode code 649 = .ok (.aload_n 2, 1) := by decide +kernel
theorem d_law_650 : decode code 650 = .ok (.invokevirtual 160, 3) := by decide +kernel
theorem d_law_653 : decode code 653 = .ok (.iload 6, 2) := by decide +kernel
theorem d_law_655 : decode code 655 = .ok (.if_icmp .eq 5, 3) := by decide +kernel
theorem d_law_660 : decode code 660 = .ok (.iload 6, 2) := by decide +kernel
theorem d_law_662 : decode code 662 = .ok (.ifCond .ne 15, 3) := by decide +kernel
theorem d_law_677 : decode code 677 = .ok (.goto 2395, 3) := by decide +kernel
theorem d_law_680 : decode code 680 = .ok (.aload_n 1, 1) := by decide +kernel
theorem d_law_681 : decode code 681 = .ok (.aload_n 0, 1) := by decide +kernel
theorem d_law_682 : decode code 682 = .ok (.iload 5, 2) := by decide +kernel
theorem d_law_684 : decode code 684 = .ok (.iconst 1, 1) := by decide +kernel
theorem d_law_685 : decode code 685 = .ok (.iadd, 1) := by decide +kernel
theorem d_law_686 : decode code 686 = .ok (.iaload, 1) := by decide +kernel
theorem d_law_687 : decode code 687 = .ok (.aload_n 0, 1) := by decide +kernel
theorem d_law_688 : decode code 688 = .ok (.iload 5, 2) := by decide +kernel
theorem d_law_690 : decode code 690 = .ok (.iconst 2, 1) := by decide +kernel
theorem d_law_691 : decode code 691 = .ok (.iadd, 1) := by decide +kernel
theorem d_law_692 : decode code 692 = .ok (.iaload, 1) := by decide +kernel
theorem d_law_693 : decode code 693 = .ok (.aload_n 0, 1) := by decide +kernel
theorem d_law_694 : decode code 694 = .ok (.iload 5, 2) := by decide +kernel
theorem d_law_696 : decode code 696 = .ok (.iconst 3, 1) := by decide +kernel
theorem d_law_697 : decode code 697 = .ok (.iadd, 1) := by decide +kernel
theorem d_law_698 : decode code 698 = .ok (.iaload, 1) := by decide +kernel
theorem d_law_699 : decode code 699 = .ok (.ifCond .eq 7, 3) := by decide +kernel
theorem d_law_702 : decode code 702 = .ok (.iconst 1, 1) := by decide +kernel
theorem d_law_703 : decode code 703 = .ok (.goto 4, 3) := by decide +kernel
theorem d_law_706 : decode code 706 = .ok (.iconst 0, 1) := by decide +kernel
theorem d_law_707 : decode code 707 = .ok (.aload_n 3, 1) := by decide +kernel
theorem d_law_708 : decode code 708 = .ok (.invokestatic 184, 3) := by decide +kernel
theorem d_law_711 : decode code 711 = .ok (.istore 6, 2) := by decide +kernel
theorem d_law_713 : decode code 713 = .ok (.aload_n 2, 1) := by decide +kernel
theorem d_law_714 : decode code 714 = .ok (.aload_n 0, 1) := by decide +kernel
theorem d_law_715 : decode code 715 = .ok (.iload 5, 2) := by decide +kernel
theorem d_law_717 : decode code 717 = .ok (.iconst 1, 1) := by decide +kernel
theorem d_law_718 : decode code 718 = .ok (.iadd, 1) := by decide +kernel
theorem d_law_719 : decode code 719 = .ok (.iaload, 1) := by decide +kernel
theorem d_law_720 : decode code 720 = .ok (.aload_n 0, 1) := by decide +kernel
theorem d_law_721 : decode code 721 = .ok (.iload 5, 2) := by decide +kernel
theorem d_law_723 : decode code 723 = .ok (.iconst 2, 1) := by decide +kernel
theorem d_law_724 : decode code 724 = .ok (.iadd, 1) := by decide +kernel
theorem d_law_725 : decode code 725 = .ok (.iaload, 1) := by decide +kernel
theorem d_law_726 : decode code 726 = .ok (.aload_n 0, 1) := by decide +kernel
theorem d_law_727 : decode code 727 = .ok (.iload 5, 2) := by decide +kernel
theorem d_law_729 : decode code 729 = .ok (.iconst 3, 1) := by decide +kernel
theorem d_law_730 : decode code 730 = .ok (.iadd, 1) := by decide +kernel
theorem d_law_731 : decode code 731 = .ok (.iaload, 1) := by decide +kernel
theorem d_law_732 : decode code 732 = .ok (.ifCond .eq 7, 3) := by decide +kernel
theorem d_law_735 : decode code 735 = .ok (.iconst 1, 1) := by decide +kernel
theorem d_law_736 : decode code 736 = .ok (.goto 4, 3) := by decide +kernel
theorem d_law_739 : decode code 739 = .ok (.iconst 0, 1) := by decide +kernel
theorem d_law_740 : decode code 740 = .ok (.invokevirtual 187, 3) := by decide +kernel
theorem d_law_743 : decode code 743 = .ok (.istore 7, 2) := by decide +kernel
theorem d_law_745 : decode code 745 = .ok (.aload_n 2, 1) := by decide +kernel
theorem d_law_746 : decode code 746 = .ok (.invokevirtual 160, 3) := by decide +kernel
theorem d_law_749 : decode code 749 = .ok (.iload 6, 2) := by decide +kernel
theorem d_law_751 : decode code 751 = .ok (.if_icmp .eq 5, 3) := by decide +kernel
theorem d_law_756 : decode code 756 = .ok (.iload 6, 2) := by decide +kernel
theorem d_law_758 : decode code 758 = .ok (.ifCond .ne 15, 3) := by decide +kernel
theorem d_law_773 : decode code 773 = .ok (.goto 2299, 3) := by decide +kernel
theorem d_law_776 : decode code 776 = .ok (.aload_n 1, 1) := by decide +kernel
theorem d_law_777 : decode code 777 = .ok (.invokevirtual 188, 3) := by decide +kernel
theorem d_law_780 : decode code 780 = .ok (.aload_n 2, 1) := by decide +kernel
theorem d_law_781 : decode code 781 = .ok (.invokevirtual 191, 3) := by decide +kernel
theorem d_law_784 : decode code 784 = .ok (.if_icmp .eq 2288, 3) := by decide +kernel
theorem d_law_789 : decode code 789 = .ok (.aload_n 1, 1) := by decide +kernel
theorem d_law_790 : decode code 790 = .ok (.aload_n 0, 1) := by decide +kernel
theorem d_law_791 : decode code 791 = .ok (.iload 5, 2) := by decide +kernel
theorem d_law_793 : decode code 793 = .ok (.iconst 1, 1) := by decide +kernel
theorem d_law_794 : decode code 794 = .ok (.iadd, 1) := by decide +kernel
theorem d_law_795 : decode code 795 = .ok (.iaload, 1) := by decide +kernel
theorem d_law_796 : decode code 796 = .ok (.aload_n 3, 1) := by decide +kernel
theorem d_law_797 : decode code 797 = .ok (.invokestatic 192, 3) := by decide +kernel
theorem d_law_800 : decode code 800 = .ok (.istore 6, 2) := by decide +kernel
theorem d_law_802 : decode code 802 = .ok (.aload_n 2, 1) := by decide +kernel
theorem d_law_803 : decode code 803 = .ok (.aload_n 0, 1) := by decide +kernel
theorem d_law_804 : decode code 804 = .ok (.iload 5, 2) := by decide +kernel
theorem d_law_806 : decode code 806 = .ok (.iconst 1, 1) := by decide +kernel
theorem d_law_807 : decode code 807 = .ok (.iadd, 1) := by decide +kernel
theorem d_law_808 : decode code 808 = .ok (.iaload, 1) := by decide +kernel
theorem d_law_809 : decode code 809 = .ok (.invokevirtual 194, 3) := by decide +kernel
theorem d_law_812 : decode code 812 = .ok (.istore 7, 2) := by decide +kernel
theorem d_law_814 : decode code 814 = .ok (.aload_n 2, 1) := by decide +kernel
theorem d_law_815 : decode code 815 = .ok (.invokevirtual 160, 3) := by decide +kernel
theorem d_law_818 : decode code 818 = .ok (.iload 6, 2) := by decide +kernel
theorem d_law_820 : decode code 820 = .ok (.if_icmp .eq 5, 3) := by decide +kernel
theorem d_law_825 : decode code 825 = .ok (.iload 6, 2) := by decide +kernel
theorem d_law_827 : decode code 827 = .ok (.ifCond .ne 15, 3) := by decide +kernel
theorem d_law_830 : decode code 830 = .ok (.aload_n 3, 1) := by decide +kernel
theorem d_law_831 : decode code 831 = .ok (.iconst 0, 1) := by decide +kernel
theorem d_law_832 : decode code 832 = .ok (.laload, 1) := by decide +kernel
theorem d_law_833 : decode code 833 = .ok (.iload 7, 2) := by decide +kernel
theorem d_law_835 : decode code 835 = .ok (.i2l, 1) := by decide +kernel
theorem d_law_836 : decode code 836 = .ok (.lcmp, 1) := by decide +kernel
theorem d_law_837 : decode code 837 = .ok (.ifCond .eq 5, 3) := by decide +kernel
theorem d_law_842 : decode code 842 = .ok (.goto 2230, 3) := by decide +kernel
theorem d_law_845 : decode code 845 = .ok (.aload_n 1, 1) := by decide +kernel
theorem d_law_846 : decode code 846 = .ok (.aload_n 0, 1) := by decide +kernel
theorem d_law_847 : decode code 847 = .ok (.iload 5, 2) := by decide +kernel
theorem d_law_849 : decode code 849 = .ok (.iconst 1, 1) := by decide +kernel
theorem d_law_850 : decode code 850 = .ok (.iadd, 1) := by decide +kernel
theorem d_law_851 : decode code 851 = .ok (.iaload, 1) := by decide +kernel
theorem d_law_852 : decode code 852 = .ok (.aload_n 0, 1) := by decide +kernel
theorem d_law_853 : decode code 853 = .ok (.iload 5, 2) := by decide +kernel
theorem d_law_855 : decode code 855 = .ok (.iconst 2, 1) := by decide +kernel
theorem d_law_856 : decode code 856 = .ok (.iadd, 1) := by decide +kernel
theorem d_law_857 : decode code 857 = .ok (.iaload, 1) := by decide +kernel
theorem d_law_858 : decode code 858 = .ok (.aload_n 3, 1) := by decide +kernel
theorem d_law_859 : decode code 859 = .ok (.invokestatic 195, 3) := by decide +kernel
theorem d_law_862 : decode code 862 = .ok (.istore 6, 2) := by decide +kernel
theorem d_law_864 : decode code 864 = .ok (.aload_n 2, 1) := by decide +kernel
theorem d_law_865 : decode code 865 = .ok (.aload_n 0, 1) := by decide +kernel
theorem d_law_866 : decode code 866 = .ok (.iload 5, 2) := by decide +kernel
theorem d_law_868 : decode code 868 = .ok (.iconst 1, 1) := by decide +kernel
theorem d_law_869 : decode code 869 = .ok (.iadd, 1) := by decide +kernel
theorem d_law_870 : decode code 870 = .ok (.iaload, 1) := by decide +kernel
theorem d_law_871 : decode code 871 = .ok (.aload_n 0, 1) := by decide +kernel
theorem d_law_872 : decode code 872 = .ok (.iload 5, 2) := by decide +kernel
theorem d_law_874 : decode code 874 = .ok (.iconst 2, 1) := by decide +kernel
