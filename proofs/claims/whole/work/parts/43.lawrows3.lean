/-! the law: what its instructions are -/
theorem dd_L_law_725 : decode Y_L_law.2.1 725 = .ok (.ifCond .eq 5, 3) := by decide +kernel
theorem dd_L_law_728 : decode Y_L_law.2.1 728 = .ok (.iconst 0, 1) := by decide +kernel
theorem dd_L_law_729 : decode Y_L_law.2.1 729 = .ok (.ireturn, 1) := by decide +kernel
theorem dd_L_law_730 : decode Y_L_law.2.1 730 = .ok (.goto 1531, 3) := by decide +kernel
theorem dd_L_law_733 : decode Y_L_law.2.1 733 = .ok (.aload_n 1, 1) := by decide +kernel
theorem dd_L_law_734 : decode Y_L_law.2.1 734 = .ok (.aload_n 0, 1) := by decide +kernel
theorem dd_L_law_735 : decode Y_L_law.2.1 735 = .ok (.iload 4, 2) := by decide +kernel
theorem dd_L_law_737 : decode Y_L_law.2.1 737 = .ok (.iconst 1, 1) := by decide +kernel
theorem dd_L_law_738 : decode Y_L_law.2.1 738 = .ok (.iadd, 1) := by decide +kernel
theorem dd_L_law_739 : decode Y_L_law.2.1 739 = .ok (.iaload, 1) := by decide +kernel
theorem dd_L_law_740 : decode Y_L_law.2.1 740 = .ok (.aload_n 0, 1) := by decide +kernel
theorem dd_L_law_741 : decode Y_L_law.2.1 741 = .ok (.iload 4, 2) := by decide +kernel
theorem dd_L_law_743 : decode Y_L_law.2.1 743 = .ok (.iconst 2, 1) := by decide +kernel
theorem dd_L_law_744 : decode Y_L_law.2.1 744 = .ok (.iadd, 1) := by decide +kernel
theorem dd_L_law_745 : decode Y_L_law.2.1 745 = .ok (.iaload, 1) := by decide +kernel
theorem dd_L_law_746 : decode Y_L_law.2.1 746 = .ok (.aload_n 3, 1) := by decide +kernel
theorem dd_L_law_747 : decode Y_L_law.2.1 747 = .ok (.invokestatic 144, 3) := by decide +kernel
theorem dd_L_law_750 : decode Y_L_law.2.1 750 = .ok (.istore 5, 2) := by decide +kernel
theorem dd_L_law_752 : decode Y_L_law.2.1 752 = .ok (.aload_n 2, 1) := by decide +kernel
theorem dd_L_law_753 : decode Y_L_law.2.1 753 = .ok (.aload_n 0, 1) := by decide +kernel
theorem dd_L_law_754 : decode Y_L_law.2.1 754 = .ok (.iload 4, 2) := by decide +kernel
theorem dd_L_law_756 : decode Y_L_law.2.1 756 = .ok (.iconst 1, 1) := by decide +kernel
theorem dd_L_law_757 : decode Y_L_law.2.1 757 = .ok (.iadd, 1) := by decide +kernel
theorem dd_L_law_758 : decode Y_L_law.2.1 758 = .ok (.iaload, 1) := by decide +kernel
theorem dd_L_law_759 : decode Y_L_law.2.1 759 = .ok (.aload_n 0, 1) := by decide +kernel
theorem dd_L_law_760 : decode Y_L_law.2.1 760 = .ok (.iload 4, 2) := by decide +kernel
theorem dd_L_law_762 : decode Y_L_law.2.1 762 = .ok (.iconst 2, 1) := by decide +kernel
theorem dd_L_law_763 : decode Y_L_law.2.1 763 = .ok (.iadd, 1) := by decide +kernel
theorem dd_L_law_764 : decode Y_L_law.2.1 764 = .ok (.iaload, 1) := by decide +kernel
theorem dd_L_law_765 : decode Y_L_law.2.1 765 = .ok (.invokevirtual 146, 3) := by decide +kernel
theorem dd_L_law_768 : decode Y_L_law.2.1 768 = .ok (.istore 6, 2) := by decide +kernel
theorem dd_L_law_770 : decode Y_L_law.2.1 770 = .ok (.aload_n 2, 1) := by decide +kernel
theorem dd_L_law_771 : decode Y_L_law.2.1 771 = .ok (.invokevirtual 117, 3) := by decide +kernel
theorem dd_L_law_774 : decode Y_L_law.2.1 774 = .ok (.iload 5, 2) := by decide +kernel
theorem dd_L_law_776 : decode Y_L_law.2.1 776 = .ok (.if_icmp .eq 5, 3) := by decide +kernel
theorem dd_L_law_779 : decode Y_L_law.2.1 779 = .ok (.iconst 0, 1) := by decide +kernel
theorem dd_L_law_780 : decode Y_L_law.2.1 780 = .ok (.ireturn, 1) := by decide +kernel
theorem dd_L_law_781 : decode Y_L_law.2.1 781 = .ok (.iload 5, 2) := by decide +kernel
theorem dd_L_law_783 : decode Y_L_law.2.1 783 = .ok (.ifCond .ne 15, 3) := by decide +kernel
theorem dd_L_law_786 : decode Y_L_law.2.1 786 = .ok (.aload_n 3, 1) := by decide +kernel
theorem dd_L_law_787 : decode Y_L_law.2.1 787 = .ok (.iconst 0, 1) := by decide +kernel
theorem dd_L_law_788 : decode Y_L_law.2.1 788 = .ok (.laload, 1) := by decide +kernel
theorem dd_L_law_789 : decode Y_L_law.2.1 789 = .ok (.iload 6, 2) := by decide +kernel
theorem dd_L_law_791 : decode Y_L_law.2.1 791 = .ok (.i2l, 1) := by decide +kernel
theorem dd_L_law_792 : decode Y_L_law.2.1 792 = .ok (.lcmp, 1) := by decide +kernel
theorem dd_L_law_793 : decode Y_L_law.2.1 793 = .ok (.ifCond .eq 5, 3) := by decide +kernel
theorem dd_L_law_796 : decode Y_L_law.2.1 796 = .ok (.iconst 0, 1) := by decide +kernel
theorem dd_L_law_797 : decode Y_L_law.2.1 797 = .ok (.ireturn, 1) := by decide +kernel
theorem dd_L_law_798 : decode Y_L_law.2.1 798 = .ok (.goto 1463, 3) := by decide +kernel
theorem dd_L_law_801 : decode Y_L_law.2.1 801 = .ok (.aload_n 1, 1) := by decide +kernel
theorem dd_L_law_802 : decode Y_L_law.2.1 802 = .ok (.invokevirtual 147, 3) := by decide +kernel
theorem dd_L_law_805 : decode Y_L_law.2.1 805 = .ok (.aload_n 2, 1) := by decide +kernel
theorem dd_L_law_806 : decode Y_L_law.2.1 806 = .ok (.invokevirtual 150, 3) := by decide +kernel
theorem dd_L_law_809 : decode Y_L_law.2.1 809 = .ok (.if_icmp .eq 1452, 3) := by decide +kernel
theorem dd_L_law_812 : decode Y_L_law.2.1 812 = .ok (.iconst 0, 1) := by decide +kernel
theorem dd_L_law_813 : decode Y_L_law.2.1 813 = .ok (.ireturn, 1) := by decide +kernel
theorem dd_L_law_814 : decode Y_L_law.2.1 814 = .ok (.aload_n 1, 1) := by decide +kernel
theorem dd_L_law_815 : decode Y_L_law.2.1 815 = .ok (.aload_n 0, 1) := by decide +kernel
theorem dd_L_law_816 : decode Y_L_law.2.1 816 = .ok (.iload 4, 2) := by decide +kernel
theorem dd_L_law_818 : decode Y_L_law.2.1 818 = .ok (.iconst 1, 1) := by decide +kernel
theorem dd_L_law_819 : decode Y_L_law.2.1 819 = .ok (.iadd, 1) := by decide +kernel
theorem dd_L_law_820 : decode Y_L_law.2.1 820 = .ok (.iaload, 1) := by decide +kernel
theorem dd_L_law_821 : decode Y_L_law.2.1 821 = .ok (.aload_n 0, 1) := by decide +kernel
theorem dd_L_law_822 : decode Y_L_law.2.1 822 = .ok (.iload 4, 2) := by decide +kernel
theorem dd_L_law_824 : decode Y_L_law.2.1 824 = .ok (.iconst 2, 1) := by decide +kernel
theorem dd_L_law_825 : decode Y_L_law.2.1 825 = .ok (.iadd, 1) := by decide +kernel
theorem dd_L_law_826 : decode Y_L_law.2.1 826 = .ok (.iaload, 1) := by decide +kernel
theorem dd_L_law_827 : decode Y_L_law.2.1 827 = .ok (.aload_n 3, 1) := by decide +kernel
theorem dd_L_law_828 : decode Y_L_law.2.1 828 = .ok (.invokestatic 151, 3) := by decide +kernel
theorem dd_L_law_831 : decode Y_L_law.2.1 831 = .ok (.istore 5, 2) := by decide +kernel
theorem dd_L_law_833 : decode Y_L_law.2.1 833 = .ok (.aload_n 2, 1) := by decide +kernel
theorem dd_L_law_834 : decode Y_L_law.2.1 834 = .ok (.aload_n 0, 1) := by decide +kernel
theorem dd_L_law_835 : decode Y_L_law.2.1 835 = .ok (.iload 4, 2) := by decide +kernel
theorem dd_L_law_837 : decode Y_L_law.2.1 837 = .ok (.iconst 1, 1) := by decide +kernel
theorem dd_L_law_838 : decode Y_L_law.2.1 838 = .ok (.iadd, 1) := by decide +kernel
theorem dd_L_law_839 : decode Y_L_law.2.1 839 = .ok (.iaload, 1) := by decide +kernel
theorem dd_L_law_840 : decode Y_L_law.2.1 840 = .ok (.aload_n 0, 1) := by decide +kernel
theorem dd_L_law_841 : decode Y_L_law.2.1 841 = .ok (.iload 4, 2) := by decide +kernel
theorem dd_L_law_843 : decode Y_L_law.2.1 843 = .ok (.iconst 2, 1) := by decide +kernel
theorem dd_L_law_844 : decode Y_L_law.2.1 844 = .ok (.iadd, 1) := by decide +kernel
theorem dd_L_law_845 : decode Y_L_law.2.1 845 = .ok (.iaload, 1) := by decide +kernel
theorem dd_L_law_846 : decode Y_L_law.2.1 846 = .ok (.invokevirtual 153, 3) := by decide +kernel
theorem dd_L_law_849 : decode Y_L_law.2.1 849 = .ok (.istore 6, 2) := by decide +kernel
theorem dd_L_law_851 : decode Y_L_law.2.1 851 = .ok (.aload_n 2, 1) := by decide +kernel
theorem dd_L_law_852 : decode Y_L_law.2.1 852 = .ok (.invokevirtual 117, 3) := by decide +kernel
theorem dd_L_law_855 : decode Y_L_law.2.1 855 = .ok (.iload 5, 2) := by decide +kernel
theorem dd_L_law_857 : decode Y_L_law.2.1 857 = .ok (.if_icmp .eq 5, 3) := by decide +kernel
theorem dd_L_law_860 : decode Y_L_law.2.1 860 = .ok (.iconst 0, 1) := by decide +kernel
theorem dd_L_law_861 : decode Y_L_law.2.1 861 = .ok (.ireturn, 1) := by decide +kernel
theorem dd_L_law_862 : decode Y_L_law.2.1 862 = .ok (.iload 5, 2) := by decide +kernel
theorem dd_L_law_864 : decode Y_L_law.2.1 864 = .ok (.ifCond .ne 15, 3) := by decide +kernel
theorem dd_L_law_867 : decode Y_L_law.2.1 867 = .ok (.aload_n 3, 1) := by decide +kernel
theorem dd_L_law_868 : decode Y_L_law.2.1 868 = .ok (.iconst 0, 1) := by decide +kernel
theorem dd_L_law_869 : decode Y_L_law.2.1 869 = .ok (.laload, 1) := by decide +kernel
theorem dd_L_law_870 : decode Y_L_law.2.1 870 = .ok (.iload 6, 2) := by decide +kernel
theorem dd_L_law_872 : decode Y_L_law.2.1 872 = .ok (.i2l, 1) := by decide +kernel
theorem dd_L_law_873 : decode Y_L_law.2.1 873 = .ok (.lcmp, 1) := by decide +kernel
theorem dd_L_law_874 : decode Y_L_law.2.1 874 = .ok (.ifCond .eq 5, 3) := by decide +kernel
theorem dd_L_law_877 : decode Y_L_law.2.1 877 = .ok (.iconst 0, 1) := by decide +kernel
theorem dd_L_law_878 : decode Y_L_law.2.1 878 = .ok (.ireturn, 1) := by decide +kernel
theorem dd_L_law_879 : decode Y_L_law.2.1 879 = .ok (.goto 1382, 3) := by decide +kernel
theorem dd_L_law_882 : decode Y_L_law.2.1 882 = .ok (.aload_n 1, 1) := by decide +kernel
theorem dd_L_law_883 : decode Y_L_law.2.1 883 = .ok (.invokevirtual 154, 3) := by decide +kernel
theorem dd_L_law_886 : decode Y_L_law.2.1 886 = .ok (.aload_n 2, 1) := by decide +kernel
theorem dd_L_law_887 : decode Y_L_law.2.1 887 = .ok (.invokevirtual 157, 3) := by decide +kernel
theorem dd_L_law_890 : decode Y_L_law.2.1 890 = .ok (.if_icmp .eq 1371, 3) := by decide +kernel
theorem dd_L_law_893 : decode Y_L_law.2.1 893 = .ok (.iconst 0, 1) := by decide +kernel
theorem dd_L_law_894 : decode Y_L_law.2.1 894 = .ok (.ireturn, 1) := by decide +kernel
theorem dd_L_law_895 : decode Y_L_law.2.1 895 = .ok (.aload_n 1, 1) := by decide +kernel
theorem dd_L_law_896 : decode Y_L_law.2.1 896 = .ok (.aload_n 0, 1) := by decide +kernel
theorem dd_L_law_897 : decode Y_L_law.2.1 897 = .ok (.iload 4, 2) := by decide +kernel
theorem dd_L_law_899 : decode Y_L_law.2.1 899 = .ok (.iconst 1, 1) := by decide +kernel
theorem dd_L_law_900 : decode Y_L_law.2.1 900 = .ok (.iadd, 1) := by decide +kernel
theorem dd_L_law_901 : decode Y_L_law.2.1 901 = .ok (.iaload, 1) := by decide +kernel
theorem dd_L_law_902 : decode Y_L_law.2.1 902 = .ok (.aload_n 0, 1) := by decide +kernel
theorem dd_L_law_903 : decode Y_L_law.2.1 903 = .ok (.iload 4, 2) := by decide +kernel
theorem dd_L_law_905 : decode Y_L_law.2.1 905 = .ok (.iconst 2, 1) := by decide +kernel
theorem dd_L_law_906 : decode Y_L_law.2.1 906 = .ok (.iadd, 1) := by decide +kernel
theorem dd_L_law_907 : decode Y_L_law.2.1 907 = .ok (.iaload, 1) := by decide +kernel
theorem dd_L_law_908 : decode Y_L_law.2.1 908 = .ok (.aload_n 0, 1) := by decide +kernel
