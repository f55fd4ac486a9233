theorem zd_La_law_722 : decode code 722 = .ok (.aload_n 0, 1) := by decide +kernel
theorem zd_La_law_723 : decode code 723 = .ok (.iload 4, 2) := by decide +kernel
theorem zd_La_law_725 : decode code 725 = .ok (.iconst 1, 1) := by decide +kernel
theorem zd_La_law_726 : decode code 726 = .ok (.iadd, 1) := by decide +kernel
theorem zd_La_law_727 : decode code 727 = .ok (.iaload, 1) := by decide +kernel
theorem zd_La_law_728 : decode code 728 = .ok (.aload_n 0, 1) := by decide +kernel
theorem zd_La_law_729 : decode code 729 = .ok (.iload 4, 2) := by decide +kernel
theorem zd_La_law_731 : decode code 731 = .ok (.iconst 2, 1) := by decide +kernel
theorem zd_La_law_732 : decode code 732 = .ok (.iadd, 1) := by decide +kernel
theorem zd_La_law_733 : decode code 733 = .ok (.iaload, 1) := by decide +kernel
theorem zd_La_law_734 : decode code 734 = .ok (.invokevirtual 110, 3) := by decide +kernel
theorem zd_La_law_737 : decode code 737 = .ok (.istore 6, 2) := by decide +kernel
theorem zd_La_law_739 : decode code 739 = .ok (.aload_n 2, 1) := by decide +kernel
theorem zd_La_law_740 : decode code 740 = .ok (.invokevirtual 71, 3) := by decide +kernel
theorem zd_La_law_743 : decode code 743 = .ok (.iload 5, 2) := by decide +kernel
theorem zd_La_law_745 : decode code 745 = .ok (.if_icmp .eq 5, 3) := by decide +kernel
theorem zd_La_law_748 : decode code 748 = .ok (.iconst 0, 1) := by decide +kernel
theorem zd_La_law_749 : decode code 749 = .ok (.ireturn, 1) := by decide +kernel
theorem zd_La_law_750 : decode code 750 = .ok (.iload 5, 2) := by decide +kernel
theorem zd_La_law_752 : decode code 752 = .ok (.ifCond .ne 15, 3) := by decide +kernel
theorem zd_La_law_755 : decode code 755 = .ok (.aload_n 3, 1) := by decide +kernel
theorem zd_La_law_756 : decode code 756 = .ok (.iconst 0, 1) := by decide +kernel
theorem zd_La_law_757 : decode code 757 = .ok (.laload, 1) := by decide +kernel
theorem zd_La_law_758 : decode code 758 = .ok (.iload 6, 2) := by decide +kernel
theorem zd_La_law_760 : decode code 760 = .ok (.i2l, 1) := by decide +kernel
theorem zd_La_law_761 : decode code 761 = .ok (.lcmp, 1) := by decide +kernel
theorem zd_La_law_762 : decode code 762 = .ok (.ifCond .eq 5, 3) := by decide +kernel
theorem zd_La_law_765 : decode code 765 = .ok (.iconst 0, 1) := by decide +kernel
theorem zd_La_law_766 : decode code 766 = .ok (.ireturn, 1) := by decide +kernel
theorem zd_La_law_767 : decode code 767 = .ok (.goto 152, 3) := by decide +kernel
theorem zd_La_law_770 : decode code 770 = .ok (.aload_n 1, 1) := by decide +kernel
theorem zd_La_law_771 : decode code 771 = .ok (.aload_n 0, 1) := by decide +kernel
theorem zd_La_law_772 : decode code 772 = .ok (.iload 4, 2) := by decide +kernel
theorem zd_La_law_774 : decode code 774 = .ok (.iconst 1, 1) := by decide +kernel
theorem zd_La_law_775 : decode code 775 = .ok (.iadd, 1) := by decide +kernel
theorem zd_La_law_776 : decode code 776 = .ok (.iaload, 1) := by decide +kernel
theorem zd_La_law_777 : decode code 777 = .ok (.aload_n 3, 1) := by decide +kernel
theorem zd_La_law_778 : decode code 778 = .ok (.invokestatic 111, 3) := by decide +kernel
theorem zd_La_law_781 : decode code 781 = .ok (.istore 5, 2) := by decide +kernel
theorem zd_La_law_783 : decode code 783 = .ok (.aload_n 2, 1) := by decide +kernel
theorem zd_La_law_784 : decode code 784 = .ok (.aload_n 0, 1) := by decide +kernel
theorem zd_La_law_785 : decode code 785 = .ok (.iload 4, 2) := by decide +kernel
theorem zd_La_law_787 : decode code 787 = .ok (.iconst 1, 1) := by decide +kernel
theorem zd_La_law_788 : decode code 788 = .ok (.iadd, 1) := by decide +kernel
theorem zd_La_law_789 : decode code 789 = .ok (.iaload, 1) := by decide +kernel
theorem zd_La_law_790 : decode code 790 = .ok (.invokevirtual 113, 3) := by decide +kernel
theorem zd_La_law_793 : decode code 793 = .ok (.istore 6, 2) := by decide +kernel
theorem zd_La_law_795 : decode code 795 = .ok (.aload_n 2, 1) := by decide +kernel
theorem zd_La_law_796 : decode code 796 = .ok (.invokevirtual 71, 3) := by decide +kernel
theorem zd_La_law_799 : decode code 799 = .ok (.iload 5, 2) := by decide +kernel
theorem zd_La_law_801 : decode code 801 = .ok (.if_icmp .eq 5, 3) := by decide +kernel
theorem zd_La_law_804 : decode code 804 = .ok (.iconst 0, 1) := by decide +kernel
theorem zd_La_law_805 : decode code 805 = .ok (.ireturn, 1) := by decide +kernel
theorem zd_La_law_806 : decode code 806 = .ok (.iload 5, 2) := by decide +kernel
theorem zd_La_law_808 : decode code 808 = .ok (.ifCond .ne 15, 3) := by decide +kernel
theorem zd_La_law_811 : decode code 811 = .ok (.aload_n 3, 1) := by decide +kernel
theorem zd_La_law_812 : decode code 812 = .ok (.iconst 0, 1) := by decide +kernel
theorem zd_La_law_813 : decode code 813 = .ok (.laload, 1) := by decide +kernel
theorem zd_La_law_814 : decode code 814 = .ok (.iload 6, 2) := by decide +kernel
theorem zd_La_law_816 : decode code 816 = .ok (.i2l, 1) := by decide +kernel
theorem zd_La_law_817 : decode code 817 = .ok (.lcmp, 1) := by decide +kernel
theorem zd_La_law_818 : decode code 818 = .ok (.ifCond .eq 5, 3) := by decide +kernel
theorem zd_La_law_821 : decode code 821 = .ok (.iconst 0, 1) := by decide +kernel
theorem zd_La_law_822 : decode code 822 = .ok (.ireturn, 1) := by decide +kernel
theorem zd_La_law_823 : decode code 823 = .ok (.goto 96, 3) := by decide +kernel
theorem zd_La_law_826 : decode code 826 = .ok (.aload_n 1, 1) := by decide +kernel
theorem zd_La_law_827 : decode code 827 = .ok (.aload_n 0, 1) := by decide +kernel
theorem zd_La_law_828 : decode code 828 = .ok (.iload 4, 2) := by decide +kernel
theorem zd_La_law_830 : decode code 830 = .ok (.iconst 1, 1) := by decide +kernel
theorem zd_La_law_831 : decode code 831 = .ok (.iadd, 1) := by decide +kernel
theorem zd_La_law_832 : decode code 832 = .ok (.iaload, 1) := by decide +kernel
theorem zd_La_law_833 : decode code 833 = .ok (.aload_n 0, 1) := by decide +kernel
theorem zd_La_law_834 : decode code 834 = .ok (.iload 4, 2) := by decide +kernel
theorem zd_La_law_836 : decode code 836 = .ok (.iconst 2, 1) := by decide +kernel
theorem zd_La_law_837 : decode code 837 = .ok (.iadd, 1) := by decide +kernel
theorem zd_La_law_838 : decode code 838 = .ok (.iaload, 1) := by decide +kernel
theorem zd_La_law_839 : decode code 839 = .ok (.aload_n 3, 1) := by decide +kernel
theorem zd_La_law_840 : decode code 840 = .ok (.invokestatic 114, 3) := by decide +kernel
theorem zd_La_law_843 : decode code 843 = .ok (.istore 5, 2) := by decide +kernel
theorem zd_La_law_845 : decode code 845 = .ok (.aload_n 2, 1) := by decide +kernel
theorem zd_La_law_846 : decode code 846 = .ok (.aload_n 0, 1) := by decide +kernel
theorem zd_La_law_847 : decode code 847 = .ok (.iload 4, 2) := by decide +kernel
theorem zd_La_law_849 : decode code 849 = .ok (.iconst 1, 1) := by decide +kernel
theorem zd_La_law_850 : decode code 850 = .ok (.iadd, 1) := by decide +kernel
theorem zd_La_law_851 : decode code 851 = .ok (.iaload, 1) := by decide +kernel
theorem zd_La_law_852 : decode code 852 = .ok (.aload_n 0, 1) := by decide +kernel
theorem zd_La_law_853 : decode code 853 = .ok (.iload 4, 2) := by decide +kernel
theorem zd_La_law_855 : decode code 855 = .ok (.iconst 2, 1) := by decide +kernel
theorem zd_La_law_856 : decode code 856 = .ok (.iadd, 1) := by decide +kernel
theorem zd_La_law_857 : decode code 857 = .ok (.iaload, 1) := by decide +kernel
theorem zd_La_law_858 : decode code 858 = .ok (.invokevirtual 116, 3) := by decide +kernel
theorem zd_La_law_861 : decode code 861 = .ok (.istore 6, 2) := by decide +kernel
theorem zd_La_law_863 : decode code 863 = .ok (.aload_n 2, 1) := by decide +kernel
theorem zd_La_law_864 : decode code 864 = .ok (.invokevirtual 71, 3) := by decide +kernel
theorem zd_La_law_867 : decode code 867 = .ok (.iload 5, 2) := by decide +kernel
theorem zd_La_law_869 : decode code 869 = .ok (.if_icmp .eq 5, 3) := by decide +kernel
theorem zd_La_law_872 : decode code 872 = .ok (.iconst 0, 1) := by decide +kernel
theorem zd_La_law_873 : decode code 873 = .ok (.ireturn, 1) := by decide +kernel
theorem zd_La_law_874 : decode code 874 = .ok (.iload 5, 2) := by decide +kernel
theorem zd_La_law_876 : decode code 876 = .ok (.ifCond .ne 15, 3) := by decide +kernel
theorem zd_La_law_879 : decode code 879 = .ok (.aload_n 3, 1) := by decide +kernel
theorem zd_La_law_880 : decode code 880 = .ok (.iconst 0, 1) := by decide +kernel
theorem zd_La_law_881 : decode code 881 = .ok (.laload, 1) := by decide +kernel
theorem zd_La_law_882 : decode code 882 = .ok (.iload 6, 2) := by decide +kernel
theorem zd_La_law_884 : decode code 884 = .ok (.i2l, 1) := by decide +kernel
theorem zd_La_law_885 : decode code 885 = .ok (.lcmp, 1) := by decide +kernel
theorem zd_La_law_886 : decode code 886 = .ok (.ifCond .eq 5, 3) := by decide +kernel
theorem zd_La_law_889 : decode code 889 = .ok (.iconst 0, 1) := by decide +kernel
theorem zd_La_law_890 : decode code 890 = .ok (.ireturn, 1) := by decide +kernel
theorem zd_La_law_891 : decode code 891 = .ok (.goto 28, 3) := by decide +kernel
theorem zd_La_law_894 : decode code 894 = .ok (.aload_n 1, 1) := by decide +kernel
theorem zd_La_law_895 : decode code 895 = .ok (.aload_n 0, 1) := by decide +kernel
theorem zd_La_law_896 : decode code 896 = .ok (.iload 4, 2) := by decide +kernel
theorem zd_La_law_898 : decode code 898 = .ok (.iconst 1, 1) := by decide +kernel
theorem zd_La_law_899 : decode code 899 = .ok (.iadd, 1) := by decide +kernel
theorem zd_La_law_900 : decode code 900 = .ok (.iaload, 1) := by decide +kernel
theorem zd_La_law_901 : decode code 901 = .ok (.invokevirtual 117, 3) := by decide +kernel
theorem zd_La_law_904 : decode code 904 = .ok (.aload_n 2, 1) := by decide +kernel
theorem zd_La_law_905 : decode code 905 = .ok (.aload_n 0, 1) := by decide +kernel
theorem zd_La_law_906 : decode code 906 = .ok (.iload 4, 2) := by decide +kernel
theorem zd_La_law_908 : decode code 908 = .ok (.iconst 1, 1) := by decide +kernel
theorem zd_La_law_909 : decode code 909 = .ok (.iadd, 1) := by decide +kernel
theorem zd_La_law_910 : decode code 910 = .ok (.iaload, 1) := by decide +kernel
theorem zd_La_law_911 : decode code 911 = .ok (.invokevirtual 120, 3) := by decide +kernel
theorem zd_La_law_914 : decode code 914 = .ok (.if_icmp .eq 5, 3) := by decide +kernel
theorem zd_La_law_917 : decode code 917 = .ok (.iconst 0, 1) := by decide +kernel
theorem zd_La_law_918 : decode code 918 = .ok (.ireturn, 1) := by decide +kernel
theorem zd_La_law_919 : decode code 919 = .ok (.iinc 4 4, 3) := by decide +kernel
theorem zd_La_law_922 : decode code 922 = .ok (.goto (-899), 3) := by decide +kernel
theorem zd_La_law_925 : decode code 925 = .ok (.iconst 1, 1) := by decide +kernel
theorem zd_La_law_926 : decode code 926 = .ok (.ireturn, 1) := by decide +kernel
