theorem d_law_808 : decode code 808 = .ok (.istore 6, 2) := by decide +kernel
theorem d_law_810 : decode code 810 = .ok (.aload_n 2, 1) := by decide +kernel
theorem d_law_811 : decode code 811 = .ok (.invokevirtual 68, 3) := by decide +kernel
theorem d_law_814 : decode code 814 = .ok (.iload 5, 2) := by decide +kernel
theorem d_law_816 : decode code 816 = .ok (.if_icmp .eq 5, 3) := by decide +kernel
theorem d_law_821 : decode code 821 = .ok (.iload 5, 2) := by decide +kernel
theorem d_law_823 : decode code 823 = .ok (.ifCond .ne 15, 3) := by decide +kernel
theorem d_law_826 : decode code 826 = .ok (.aload_n 3, 1) := by decide +kernel
theorem d_law_827 : decode code 827 = .ok (.iconst 0, 1) := by decide +kernel
theorem d_law_828 : decode code 828 = .ok (.laload, 1) := by decide +kernel
theorem d_law_829 : decode code 829 = .ok (.iload 6, 2) := by decide +kernel
theorem d_law_831 : decode code 831 = .ok (.i2l, 1) := by decide +kernel
theorem d_law_832 : decode code 832 = .ok (.lcmp, 1) := by decide +kernel
theorem d_law_833 : decode code 833 = .ok (.ifCond .eq 5, 3) := by decide +kernel
theorem d_law_836 : decode code 836 = .ok (.iconst 0, 1) := by decide +kernel
theorem d_law_838 : decode code 838 = .ok (.goto 171, 3) := by decide +kernel
theorem d_law_841 : decode code 841 = .ok (.aload_n 1, 1) := by decide +kernel
theorem d_law_842 : decode code 842 = .ok (.aload_n 0, 1) := by decide +kernel
theorem d_law_843 : decode code 843 = .ok (.iload 4, 2) := by decide +kernel
theorem d_law_845 : decode code 845 = .ok (.iconst 1, 1) := by decide +kernel
theorem d_law_846 : decode code 846 = .ok (.iadd, 1) := by decide +kernel
theorem d_law_847 : decode code 847 = .ok (.iaload, 1) := by decide +kernel
theorem d_law_848 : decode code 848 = .ok (.aload_n 0, 1) := by decide +kernel
theorem d_law_849 : decode code 849 = .ok (.iload 4, 2) := by decide +kernel
theorem d_law_851 : decode code 851 = .ok (.iconst 2, 1) := by decide +kernel
theorem d_law_852 : decode code 852 = .ok (.iadd, 1) := by decide +kernel
theorem d_law_853 : decode code 853 = .ok (.iaload, 1) := by decide +kernel
theorem d_law_854 : decode code 854 = .ok (.i2l, 1) := by decide +kernel
theorem d_law_855 : decode code 855 = .ok (.bipush 32, 2) := by decide +kernel
theorem d_law_857 : decode code 857 = .ok (.lshl, 1) := by decide +kernel
theorem d_law_858 : decode code 858 = .ok (.aload_n 0, 1) := by decide +kernel
theorem d_law_859 : decode code 859 = .ok (.iload 4, 2) := by decide +kernel
theorem d_law_861 : decode code 861 = .ok (.iconst 3, 1) := by decide +kernel
theorem d_law_862 : decode code 862 = .ok (.iadd, 1) := by decide +kernel
theorem d_law_863 : decode code 863 = .ok (.iaload, 1) := by decide +kernel
theorem d_law_864 : decode code 864 = .ok (.i2l, 1) := by decide +kernel
theorem d_law_865 : decode code 865 = .ok (.ldc2_w 72, 3) := by decide +kernel
theorem d_law_868 : decode code 868 = .ok (.land, 1) := by decide +kernel
theorem d_law_869 : decode code 869 = .ok (.lor, 1) := by decide +kernel
theorem d_law_870 : decode code 870 = .ok (.aload_n 0, 1) := by decide +kernel
theorem d_law_871 : decode code 871 = .ok (.iload 4, 2) := by decide +kernel
theorem d_law_873 : decode code 873 = .ok (.iconst 4, 1) := by decide +kernel
theorem d_law_874 : decode code 874 = .ok (.iadd, 1) := by decide +kernel
theorem d_law_875 : decode code 875 = .ok (.iaload, 1) := by decide +kernel
theorem d_law_876 : decode code 876 = .ok (.aload_n 3, 1) := by decide +kernel
theorem d_law_877 : decode code 877 = .ok (.invokestatic 110, 3) := by decide +kernel
theorem d_law_880 : decode code 880 = .ok (.istore 5, 2) := by decide +kernel
theorem d_law_882 : decode code 882 = .ok (.aload_n 2, 1) := by decide +kernel
theorem d_law_883 : decode code 883 = .ok (.aload_n 0, 1) := by decide +kernel
theorem d_law_884 : decode code 884 = .ok (.iload 4, 2) := by decide +kernel
theorem d_law_886 : decode code 886 = .ok (.iconst 1, 1) := by decide +kernel
theorem d_law_887 : decode code 887 = .ok (.iadd, 1) := by decide +kernel
theorem d_law_888 : decode code 888 = .ok (.iaload, 1) := by decide +kernel
theorem d_law_889 : decode code 889 = .ok (.aload_n 0, 1) := by decide +kernel
theorem d_law_890 : decode code 890 = .ok (.iload 4, 2) := by decide +kernel
theorem d_law_892 : decode code 892 = .ok (.iconst 2, 1) := by decide +kernel
theorem d_law_893 : decode code 893 = .ok (.iadd, 1) := by decide +kernel
theorem d_law_894 : decode code 894 = .ok (.iaload, 1) := by decide +kernel
theorem d_law_895 : decode code 895 = .ok (.i2l, 1) := by decide +kernel
theorem d_law_896 : decode code 896 = .ok (.bipush 32, 2) := by decide +kernel
theorem d_law_898 : decode code 898 = .ok (.lshl, 1) := by decide +kernel
theorem d_law_899 : decode code 899 = .ok (.aload_n 0, 1) := by decide +kernel
theorem d_law_900 : decode code 900 = .ok (.iload 4, 2) := by decide +kernel
theorem d_law_902 : decode code 902 = .ok (.iconst 3, 1) := by decide +kernel
theorem d_law_903 : decode code 903 = .ok (.iadd, 1) := by decide +kernel
theorem d_law_904 : decode code 904 = .ok (.iaload, 1) := by decide +kernel
theorem d_law_905 : decode code 905 = .ok (.i2l, 1) := by decide +kernel
theorem d_law_906 : decode code 906 = .ok (.ldc2_w 72, 3) := by decide +kernel
theorem d_law_909 : decode code 909 = .ok (.land, 1) := by decide +kernel
theorem d_law_910 : decode code 910 = .ok (.lor, 1) := by decide +kernel
theorem d_law_911 : decode code 911 = .ok (.aload_n 0, 1) := by decide +kernel
theorem d_law_912 : decode code 912 = .ok (.iload 4, 2) := by decide +kernel
theorem d_law_914 : decode code 914 = .ok (.iconst 4, 1) := by decide +kernel
theorem d_law_915 : decode code 915 = .ok (.iadd, 1) := by decide +kernel
theorem d_law_916 : decode code 916 = .ok (.iaload, 1) := by decide +kernel
theorem d_law_917 : decode code 917 = .ok (.invokevirtual 113, 3) := by decide +kernel
theorem d_law_920 : decode code 920 = .ok (.istore 6, 2) := by decide +kernel
theorem d_law_922 : decode code 922 = .ok (.aload_n 2, 1) := by decide +kernel
theorem d_law_923 : decode code 923 = .ok (.invokevirtual 68, 3) := by decide +kernel
theorem d_law_926 : decode code 926 = .ok (.iload 5, 2) := by decide +kernel
theorem d_law_928 : decode code 928 = .ok (.if_icmp .eq 5, 3) := by decide +kernel
theorem d_law_933 : decode code 933 = .ok (.iload 5, 2) := by decide +kernel
theorem d_law_935 : decode code 935 = .ok (.ifCond .ne 15, 3) := by decide +kernel
theorem d_law_938 : decode code 938 = .ok (.aload_n 3, 1) := by decide +kernel
theorem d_law_939 : decode code 939 = .ok (.iconst 0, 1) := by decide +kernel
theorem d_law_940 : decode code 940 = .ok (.laload, 1) := by decide +kernel
theorem d_law_941 : decode code 941 = .ok (.iload 6, 2) := by decide +kernel
theorem d_law_943 : decode code 943 = .ok (.i2l, 1) := by decide +kernel
theorem d_law_944 : decode code 944 = .ok (.lcmp, 1) := by decide +kernel
theorem d_law_945 : decode code 945 = .ok (.ifCond .eq 5, 3) := by decide +kernel
theorem d_law_948 : decode code 948 = .ok (.iconst 0, 1) := by decide +kernel
theorem d_law_950 : decode code 950 = .ok (.goto 59, 3) := by decide +kernel
theorem d_law_953 : decode code 953 = .ok (.aload_n 1, 1) := by decide +kernel
theorem d_law_954 : decode code 954 = .ok (.aload_n 0, 1) := by decide +kernel
theorem d_law_955 : decode code 955 = .ok (.iload 4, 2) := by decide +kernel
theorem d_law_957 : decode code 957 = .ok (.iconst 1, 1) := by decide +kernel
theorem d_law_958 : decode code 958 = .ok (.iadd, 1) := by decide +kernel
theorem d_law_959 : decode code 959 = .ok (.iaload, 1) := by decide +kernel
theorem d_law_960 : decode code 960 = .ok (.aload_n 3, 1) := by decide +kernel
theorem d_law_961 : decode code 961 = .ok (.invokestatic 114, 3) := by decide +kernel
theorem d_law_964 : decode code 964 = .ok (.istore 5, 2) := by decide +kernel
theorem d_law_966 : decode code 966 = .ok (.aload_n 2, 1) := by decide +kernel
theorem d_law_967 : decode code 967 = .ok (.aload_n 0, 1) := by decide +kernel
theorem d_law_968 : decode code 968 = .ok (.iload 4, 2) := by decide +kernel
theorem d_law_970 : decode code 970 = .ok (.iconst 1, 1) := by decide +kernel
theorem d_law_971 : decode code 971 = .ok (.iadd, 1) := by decide +kernel
theorem d_law_972 : decode code 972 = .ok (.iaload, 1) := by decide +kernel
theorem d_law_973 : decode code 973 = .ok (.invokevirtual 116, 3) := by decide +kernel
theorem d_law_976 : decode code 976 = .ok (.istore 6, 2) := by decide +kernel
theorem d_law_978 : decode code 978 = .ok (.aload_n 2, 1) := by decide +kernel
theorem d_law_979 : decode code 979 = .ok (.invokevirtual 68, 3) := by decide +kernel
theorem d_law_982 : decode code 982 = .ok (.iload 5, 2) := by decide +kernel
theorem d_law_984 : decode code 984 = .ok (.if_icmp .eq 5, 3) := by decide +kernel
theorem d_law_989 : decode code 989 = .ok (.iload 5, 2) := by decide +kernel
theorem d_law_991 : decode code 991 = .ok (.ifCond .ne 15, 3) := by decide +kernel
theorem d_law_994 : decode code 994 = .ok (.aload_n 3, 1) := by decide +kernel
theorem d_law_995 : decode code 995 = .ok (.iconst 0, 1) := by decide +kernel
theorem d_law_996 : decode code 996 = .ok (.laload, 1) := by decide +kernel
theorem d_law_997 : decode code 997 = .ok (.iload 6, 2) := by decide +kernel
theorem d_law_999 : decode code 999 = .ok (.i2l, 1) := by decide +kernel
theorem d_law_1000 : decode code 1000 = .ok (.lcmp, 1) := by decide +kernel
theorem d_law_1001 : decode code 1001 = .ok (.ifCond .eq 5, 3) := by decide +kernel
theorem d_law_1004 : decode code 1004 = .ok (.iconst 0, 1) := by decide +kernel
theorem d_law_1006 : decode code 1006 = .ok (.goto 3, 3) := by decide +kernel
theorem d_law_1009 : decode code 1009 = .ok (.iinc 4 5, 3) := by decide +kernel
theorem d_law_1012 : decode code 1012 = .ok (.goto (-989), 3) := by decide +kernel
theorem d_law_1015 : decode code 1015 = .ok (.iconst 1, 1) := by decide +kernel
theorem d_law_1016 : decode code 1016 = .ok (.ireturn, 1) := by decide +kernel
