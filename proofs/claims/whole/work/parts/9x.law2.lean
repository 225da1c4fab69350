theorem dL_law_728 : decode cL_law 728 = .ok (.aload_n 1, 1) := by decide +kernel
theorem dL_law_729 : decode cL_law 729 = .ok (.aload_n 0, 1) := by decide +kernel
theorem dL_law_730 : decode cL_law 730 = .ok (.iload 4, 2) := by decide +kernel
theorem dL_law_732 : decode cL_law 732 = .ok (.iconst 1, 1) := by decide +kernel
theorem dL_law_733 : decode cL_law 733 = .ok (.iadd, 1) := by decide +kernel
theorem dL_law_734 : decode cL_law 734 = .ok (.iaload, 1) := by decide +kernel
theorem dL_law_735 : decode cL_law 735 = .ok (.aload_n 0, 1) := by decide +kernel
theorem dL_law_736 : decode cL_law 736 = .ok (.iload 4, 2) := by decide +kernel
theorem dL_law_738 : decode cL_law 738 = .ok (.iconst 2, 1) := by decide +kernel
theorem dL_law_739 : decode cL_law 739 = .ok (.iadd, 1) := by decide +kernel
theorem dL_law_740 : decode cL_law 740 = .ok (.iaload, 1) := by decide +kernel
theorem dL_law_741 : decode cL_law 741 = .ok (.invokevirtual 73, 3) := by decide +kernel
theorem dL_law_744 : decode cL_law 744 = .ok (.aload_n 2, 1) := by decide +kernel
theorem dL_law_745 : decode cL_law 745 = .ok (.aload_n 0, 1) := by decide +kernel
theorem dL_law_746 : decode cL_law 746 = .ok (.iload 4, 2) := by decide +kernel
theorem dL_law_748 : decode cL_law 748 = .ok (.iconst 1, 1) := by decide +kernel
theorem dL_law_749 : decode cL_law 749 = .ok (.iadd, 1) := by decide +kernel
theorem dL_law_750 : decode cL_law 750 = .ok (.iaload, 1) := by decide +kernel
theorem dL_law_751 : decode cL_law 751 = .ok (.aload_n 0, 1) := by decide +kernel
theorem dL_law_752 : decode cL_law 752 = .ok (.iload 4, 2) := by decide +kernel
theorem dL_law_754 : decode cL_law 754 = .ok (.iconst 2, 1) := by decide +kernel
theorem dL_law_755 : decode cL_law 755 = .ok (.iadd, 1) := by decide +kernel
theorem dL_law_756 : decode cL_law 756 = .ok (.iaload, 1) := by decide +kernel
theorem dL_law_757 : decode cL_law 757 = .ok (.invokevirtual 76, 3) := by decide +kernel
theorem dL_law_760 : decode cL_law 760 = .ok (.if_icmp .eq 1104, 3) := by decide +kernel
theorem dL_law_765 : decode cL_law 765 = .ok (.aload_n 1, 1) := by decide +kernel
theorem dL_law_766 : decode cL_law 766 = .ok (.aload_n 0, 1) := by decide +kernel
theorem dL_law_767 : decode cL_law 767 = .ok (.iload 4, 2) := by decide +kernel
theorem dL_law_769 : decode cL_law 769 = .ok (.iconst 1, 1) := by decide +kernel
theorem dL_law_770 : decode cL_law 770 = .ok (.iadd, 1) := by decide +kernel
theorem dL_law_771 : decode cL_law 771 = .ok (.iaload, 1) := by decide +kernel
theorem dL_law_772 : decode cL_law 772 = .ok (.aload_n 0, 1) := by decide +kernel
theorem dL_law_773 : decode cL_law 773 = .ok (.iload 4, 2) := by decide +kernel
theorem dL_law_775 : decode cL_law 775 = .ok (.iconst 2, 1) := by decide +kernel
theorem dL_law_776 : decode cL_law 776 = .ok (.iadd, 1) := by decide +kernel
theorem dL_law_777 : decode cL_law 777 = .ok (.iaload, 1) := by decide +kernel
theorem dL_law_778 : decode cL_law 778 = .ok (.invokevirtual 77, 3) := by decide +kernel
theorem dL_law_781 : decode cL_law 781 = .ok (.aload_n 2, 1) := by decide +kernel
theorem dL_law_782 : decode cL_law 782 = .ok (.aload_n 0, 1) := by decide +kernel
theorem dL_law_783 : decode cL_law 783 = .ok (.iload 4, 2) := by decide +kernel
theorem dL_law_785 : decode cL_law 785 = .ok (.iconst 1, 1) := by decide +kernel
theorem dL_law_786 : decode cL_law 786 = .ok (.iadd, 1) := by decide +kernel
theorem dL_law_787 : decode cL_law 787 = .ok (.iaload, 1) := by decide +kernel
theorem dL_law_788 : decode cL_law 788 = .ok (.aload_n 0, 1) := by decide +kernel
theorem dL_law_789 : decode cL_law 789 = .ok (.iload 4, 2) := by decide +kernel
theorem dL_law_791 : decode cL_law 791 = .ok (.iconst 2, 1) := by decide +kernel
theorem dL_law_792 : decode cL_law 792 = .ok (.iadd, 1) := by decide +kernel
theorem dL_law_793 : decode cL_law 793 = .ok (.iaload, 1) := by decide +kernel
theorem dL_law_794 : decode cL_law 794 = .ok (.invokevirtual 80, 3) := by decide +kernel
theorem dL_law_797 : decode cL_law 797 = .ok (.if_icmp .eq 1067, 3) := by decide +kernel
theorem dL_law_802 : decode cL_law 802 = .ok (.aload_n 1, 1) := by decide +kernel
theorem dL_law_803 : decode cL_law 803 = .ok (.aload_n 0, 1) := by decide +kernel
theorem dL_law_804 : decode cL_law 804 = .ok (.iload 4, 2) := by decide +kernel
theorem dL_law_806 : decode cL_law 806 = .ok (.iconst 1, 1) := by decide +kernel
theorem dL_law_807 : decode cL_law 807 = .ok (.iadd, 1) := by decide +kernel
theorem dL_law_808 : decode cL_law 808 = .ok (.iaload, 1) := by decide +kernel
theorem dL_law_809 : decode cL_law 809 = .ok (.aload_n 0, 1) := by decide +kernel
theorem dL_law_810 : decode cL_law 810 = .ok (.iload 4, 2) := by decide +kernel
theorem dL_law_812 : decode cL_law 812 = .ok (.iconst 2, 1) := by decide +kernel
theorem dL_law_813 : decode cL_law 813 = .ok (.iadd, 1) := by decide +kernel
theorem dL_law_814 : decode cL_law 814 = .ok (.iaload, 1) := by decide +kernel
theorem dL_law_815 : decode cL_law 815 = .ok (.invokevirtual 81, 3) := by decide +kernel
theorem dL_law_818 : decode cL_law 818 = .ok (.aload_n 2, 1) := by decide +kernel
theorem dL_law_819 : decode cL_law 819 = .ok (.aload_n 0, 1) := by decide +kernel
theorem dL_law_820 : decode cL_law 820 = .ok (.iload 4, 2) := by decide +kernel
theorem dL_law_822 : decode cL_law 822 = .ok (.iconst 1, 1) := by decide +kernel
theorem dL_law_823 : decode cL_law 823 = .ok (.iadd, 1) := by decide +kernel
theorem dL_law_824 : decode cL_law 824 = .ok (.iaload, 1) := by decide +kernel
theorem dL_law_825 : decode cL_law 825 = .ok (.aload_n 0, 1) := by decide +kernel
theorem dL_law_826 : decode cL_law 826 = .ok (.iload 4, 2) := by decide +kernel
theorem dL_law_828 : decode cL_law 828 = .ok (.iconst 2, 1) := by decide +kernel
theorem dL_law_829 : decode cL_law 829 = .ok (.iadd, 1) := by decide +kernel
theorem dL_law_830 : decode cL_law 830 = .ok (.iaload, 1) := by decide +kernel
theorem dL_law_831 : decode cL_law 831 = .ok (.invokevirtual 84, 3) := by decide +kernel
theorem dL_law_834 : decode cL_law 834 = .ok (.if_icmp .eq 1030, 3) := by decide +kernel
theorem dL_law_839 : decode cL_law 839 = .ok (.aload_n 1, 1) := by decide +kernel
theorem dL_law_840 : decode cL_law 840 = .ok (.aload_n 0, 1) := by decide +kernel
theorem dL_law_841 : decode cL_law 841 = .ok (.iload 4, 2) := by decide +kernel
theorem dL_law_843 : decode cL_law 843 = .ok (.iconst 1, 1) := by decide +kernel
theorem dL_law_844 : decode cL_law 844 = .ok (.iadd, 1) := by decide +kernel
theorem dL_law_845 : decode cL_law 845 = .ok (.iaload, 1) := by decide +kernel
theorem dL_law_846 : decode cL_law 846 = .ok (.invokevirtual 85, 3) := by decide +kernel
theorem dL_law_849 : decode cL_law 849 = .ok (.aload_n 2, 1) := by decide +kernel
theorem dL_law_850 : decode cL_law 850 = .ok (.aload_n 0, 1) := by decide +kernel
theorem dL_law_851 : decode cL_law 851 = .ok (.iload 4, 2) := by decide +kernel
theorem dL_law_853 : decode cL_law 853 = .ok (.iconst 1, 1) := by decide +kernel
theorem dL_law_854 : decode cL_law 854 = .ok (.iadd, 1) := by decide +kernel
theorem dL_law_855 : decode cL_law 855 = .ok (.iaload, 1) := by decide +kernel
theorem dL_law_856 : decode cL_law 856 = .ok (.invokevirtual 88, 3) := by decide +kernel
theorem dL_law_859 : decode cL_law 859 = .ok (.if_icmp .eq 1005, 3) := by decide +kernel
theorem dL_law_864 : decode cL_law 864 = .ok (.aload_n 1, 1) := by decide +kernel
theorem dL_law_865 : decode cL_law 865 = .ok (.aload_n 0, 1) := by decide +kernel
theorem dL_law_866 : decode cL_law 866 = .ok (.iload 4, 2) := by decide +kernel
theorem dL_law_868 : decode cL_law 868 = .ok (.iconst 1, 1) := by decide +kernel
theorem dL_law_869 : decode cL_law 869 = .ok (.iadd, 1) := by decide +kernel
theorem dL_law_870 : decode cL_law 870 = .ok (.iaload, 1) := by decide +kernel
theorem dL_law_871 : decode cL_law 871 = .ok (.invokevirtual 89, 3) := by decide +kernel
theorem dL_law_874 : decode cL_law 874 = .ok (.aload_n 2, 1) := by decide +kernel
theorem dL_law_875 : decode cL_law 875 = .ok (.aload_n 0, 1) := by decide +kernel
theorem dL_law_876 : decode cL_law 876 = .ok (.iload 4, 2) := by decide +kernel
theorem dL_law_878 : decode cL_law 878 = .ok (.iconst 1, 1) := by decide +kernel
theorem dL_law_879 : decode cL_law 879 = .ok (.iadd, 1) := by decide +kernel
theorem dL_law_880 : decode cL_law 880 = .ok (.iaload, 1) := by decide +kernel
theorem dL_law_881 : decode cL_law 881 = .ok (.invokevirtual 92, 3) := by decide +kernel
theorem dL_law_884 : decode cL_law 884 = .ok (.if_icmp .eq 980, 3) := by decide +kernel
theorem dL_law_889 : decode cL_law 889 = .ok (.aload_n 1, 1) := by decide +kernel
theorem dL_law_890 : decode cL_law 890 = .ok (.aload_n 0, 1) := by decide +kernel
theorem dL_law_891 : decode cL_law 891 = .ok (.iload 4, 2) := by decide +kernel
theorem dL_law_893 : decode cL_law 893 = .ok (.iconst 1, 1) := by decide +kernel
theorem dL_law_894 : decode cL_law 894 = .ok (.iadd, 1) := by decide +kernel
theorem dL_law_895 : decode cL_law 895 = .ok (.iaload, 1) := by decide +kernel
theorem dL_law_896 : decode cL_law 896 = .ok (.invokevirtual 93, 3) := by decide +kernel
theorem dL_law_899 : decode cL_law 899 = .ok (.aload_n 2, 1) := by decide +kernel
theorem dL_law_900 : decode cL_law 900 = .ok (.aload_n 0, 1) := by decide +kernel
theorem dL_law_901 : decode cL_law 901 = .ok (.iload 4, 2) := by decide +kernel
theorem dL_law_903 : decode cL_law 903 = .ok (.iconst 1, 1) := by decide +kernel
theorem dL_law_904 : decode cL_law 904 = .ok (.iadd, 1) := by decide +kernel
theorem dL_law_905 : decode cL_law 905 = .ok (.iaload, 1) := by decide +kernel
theorem dL_law_906 : decode cL_law 906 = .ok (.invokevirtual 96, 3) := by decide +kernel
theorem dL_law_909 : decode cL_law 909 = .ok (.if_icmp .eq 955, 3) := by decide +kernel
theorem dL_law_914 : decode cL_law 914 = .ok (.aload_n 1, 1) := by decide +kernel
theorem dL_law_915 : decode cL_law 915 = .ok (.aload_n 0, 1) := by decide +kernel
theorem dL_law_916 : decode cL_law 916 = .ok (.iload 4, 2) := by decide +kernel
theorem dL_law_918 : decode cL_law 918 = .ok (.iconst 1, 1) := by decide +kernel
theorem dL_law_919 : decode cL_law 919 = .ok (.iadd, 1) := by decide +kernel
theorem dL_law_920 : decode cL_law 920 = .ok (.iaload, 1) := by decide +kernel
theorem dL_law_921 : decode cL_law 921 = .ok (.invokevirtual 97, 3) := by decide +kernel
theorem dL_law_924 : decode cL_law 924 = .ok (.aload_n 2, 1) := by decide +kernel
theorem dL_law_925 : decode cL_law 925 = .ok (.aload_n 0, 1) := by decide +kernel
theorem dL_law_926 : decode cL_law 926 = .ok (.iload 4, 2) := by decide +kernel
theorem dL_law_928 : decode cL_law 928 = .ok (.iconst 1, 1) := by decide +kernel
theorem dL_law_929 : decode cL_law 929 = .ok (.iadd, 1) := by decide +kernel
theorem dL_law_930 : decode cL_law 930 = .ok (.iaload, 1) := by decide +kernel
theorem dL_law_931 : decode cL_law 931 = .ok (.invokevirtual 100, 3) := by decide +kernel
theorem dL_law_934 : decode cL_law 934 = .ok (.if_icmp .eq 930, 3) := by decide +kernel
theorem dL_law_939 : decode cL_law 939 = .ok (.aload_n 1, 1) := by decide +kernel
theorem dL_law_940 : decode cL_law 940 = .ok (.invokevirtual 101, 3) := by decide +kernel
theorem dL_law_943 : decode cL_law 943 = .ok (.aload_n 2, 1) := by decide +kernel
theorem dL_law_944 : decode cL_law 944 = .ok (.invokevirtual 105, 3) := by decide +kernel
theorem dL_law_947 : decode cL_law 947 = .ok (.if_icmp .eq 917, 3) := by decide +kernel
theorem dL_law_952 : decode cL_law 952 = .ok (.aload_n 1, 1) := by decide +kernel
theorem dL_law_953 : decode cL_law 953 = .ok (.aload_n 0, 1) := by decide +kernel
theorem dL_law_954 : decode cL_law 954 = .ok (.iload 4, 2) := by decide +kernel
theorem dL_law_956 : decode cL_law 956 = .ok (.iconst 1, 1) := by decide +kernel
theorem dL_law_957 : decode cL_law 957 = .ok (.iadd, 1) := by decide +kernel
theorem dL_law_958 : decode cL_law 958 = .ok (.iaload, 1) := by decide +kernel
theorem dL_law_959 : decode cL_law 959 = .ok (.invokevirtual 106, 3) := by decide +kernel
theorem dL_law_962 : decode cL_law 962 = .ok (.aload_n 2, 1) := by decide +kernel
theorem dL_law_963 : decode cL_law 963 = .ok (.aload_n 0, 1) := by decide +kernel
theorem dL_law_964 : decode cL_law 964 = .ok (.iload 4, 2) := by decide +kernel
theorem dL_law_966 : decode cL_law 966 = .ok (.iconst 1, 1) := by decide +kernel
theorem dL_law_967 : decode cL_law 967 = .ok (.iadd, 1) := by decide +kernel
theorem dL_law_968 : decode cL_law 968 = .ok (.iaload, 1) := by decide +kernel
theorem dL_law_969 : decode cL_law 969 = .ok (.invokevirtual 109, 3) := by decide +kernel
theorem dL_law_972 : decode cL_law 972 = .ok (.if_icmp .eq 892, 3) := by decide +kernel
theorem dL_law_977 : decode cL_law 977 = .ok (.aload_n 1, 1) := by decide +kernel
theorem dL_law_978 : decode cL_law 978 = .ok (.aload_n 0, 1) := by decide +kernel
theorem dL_law_979 : decode cL_law 979 = .ok (.iload 4, 2) := by decide +kernel
theorem dL_law_981 : decode cL_law 981 = .ok (.iconst 1, 1) := by decide +kernel
theorem dL_law_982 : decode cL_law 982 = .ok (.iadd, 1) := by decide +kernel
theorem dL_law_983 : decode cL_law 983 = .ok (.iaload, 1) := by decide +kernel
theorem dL_law_984 : decode cL_law 984 = .ok (.invokevirtual 110, 3) := by decide +kernel
theorem dL_law_987 : decode cL_law 987 = .ok (.aload_n 2, 1) := by decide +kernel
theorem dL_law_988 : decode cL_law 988 = .ok (.aload_n 0, 1) := by decide +kernel
theorem dL_law_989 : decode cL_law 989 = .ok (.iload 4, 2) := by decide +kernel
theorem dL_law_991 : decode cL_law 991 = .ok (.iconst 1, 1) := by decide +kernel
theorem dL_law_992 : decode cL_law 992 = .ok (.iadd, 1) := by decide +kernel
theorem dL_law_993 : decode cL_law 993 = .ok (.iaload, 1) := by decide +kernel
theorem dL_law_994 : decode cL_law 994 = .ok (.invokevirtual 113, 3) := by decide +kernel
theorem dL_law_997 : decode cL_law 997 = .ok (.if_icmp .eq 867, 3) := by decide +kernel
theorem dL_law_1002 : decode cL_law 1002 = .ok (.aload_n 1, 1) := by decide +kernel
theorem dL_law_1003 : decode cL_law 1003 = .ok (.aload_n 0, 1) := by decide +kernel
theorem dL_law_1004 : decode cL_law 1004 = .ok (.iload 4, 2) := by decide +kernel
theorem dL_law_1006 : decode cL_law 1006 = .ok (.iconst 1, 1) := by decide +kernel
theorem dL_law_1007 : decode cL_law 1007 = .ok (.iadd, 1) := by decide +kernel
theorem dL_law_1008 : decode cL_law 1008 = .ok (.iaload, 1) := by decide +kernel
theorem dL_law_1009 : decode cL_law 1009 = .ok (.aload_n 0, 1) := by decide +kernel
theorem dL_law_1010 : decode cL_law 1010 = .ok (.iload 4, 2) := by decide +kernel
theorem dL_law_1012 : decode cL_law 1012 = .ok (.iconst 2, 1) := by decide +kernel
theorem dL_law_1013 : decode cL_law 1013 = .ok (.iadd, 1) := by decide +kernel
theorem dL_law_1014 : decode cL_law 1014 = .ok (.iaload, 1) := by decide +kernel
theorem dL_law_1015 : decode cL_law 1015 = .ok (.invokevirtual 114, 3) := by decide +kernel
theorem dL_law_1018 : decode cL_law 1018 = .ok (.aload_n 2, 1) := by decide +kernel
theorem dL_law_1019 : decode cL_law 1019 = .ok (.aload_n 0, 1) := by decide +kernel
theorem dL_law_1020 : decode cL_law 1020 = .ok (.iload 4, 2) := by decide +kernel
theorem dL_law_1022 : decode cL_law 1022 = .ok (.iconst 1, 1) := by decide +kernel
theorem dL_law_1023 : decode cL_law 1023 = .ok (.iadd, 1) := by decide +kernel
theorem dL_law_1024 : decode cL_law 1024 = .ok (.iaload, 1) := by decide +kernel
theorem dL_law_1025 : decode cL_law 1025 = .ok (.aload_n 0, 1) := by decide +kernel
theorem dL_law_1026 : decode cL_law 1026 = .ok (.iload 4, 2) := by decide +kernel
theorem dL_law_1028 : decode cL_law 1028 = .ok (.iconst 2, 1) := by decide +kernel
theorem dL_law_1029 : decode cL_law 1029 = .ok (.iadd, 1) := by decide +kernel
theorem dL_law_1030 : decode cL_law 1030 = .ok (.iaload, 1) := by decide +kernel
theorem dL_law_1031 : decode cL_law 1031 = .ok (.invokevirtual 117, 3) := by decide +kernel
theorem dL_law_1034 : decode cL_law 1034 = .ok (.if_icmp .eq 830, 3) := by decide +kernel
theorem dL_law_1039 : decode cL_law 1039 = .ok (.aload_n 1, 1) := by decide +kernel
theorem dL_law_1040 : decode cL_law 1040 = .ok (.aload_n 0, 1) := by decide +kernel
theorem dL_law_1041 : decode cL_law 1041 = .ok (.iload 4, 2) := by decide +kernel
theorem dL_law_1043 : decode cL_law 1043 = .ok (.iconst 1, 1) := by decide +kernel
theorem dL_law_1044 : decode cL_law 1044 = .ok (.iadd, 1) := by decide +kernel
theorem dL_law_1045 : decode cL_law 1045 = .ok (.iaload, 1) := by decide +kernel
theorem dL_law_1046 : decode cL_law 1046 = .ok (.aload_n 0, 1) := by decide +kernel
theorem dL_law_1047 : decode cL_law 1047 = .ok (.iload 4, 2) := by decide +kernel
theorem dL_law_1049 : decode cL_law 1049 = .ok (.iconst 2, 1) := by decide +kernel
theorem dL_law_1050 : decode cL_law 1050 = .ok (.iadd, 1) := by decide +kernel
theorem dL_law_1051 : decode cL_law 1051 = .ok (.iaload, 1) := by decide +kernel
theorem dL_law_1052 : decode cL_law 1052 = .ok (.invokevirtual 118, 3) := by decide +kernel
theorem dL_law_1055 : decode cL_law 1055 = .ok (.aload_n 2, 1) := by decide +kernel
theorem dL_law_1056 : decode cL_law 1056 = .ok (.aload_n 0, 1) := by decide +kernel
theorem dL_law_1057 : decode cL_law 1057 = .ok (.iload 4, 2) := by decide +kernel
theorem dL_law_1059 : decode cL_law 1059 = .ok (.iconst 1, 1) := by decide +kernel
theorem dL_law_1060 : decode cL_law 1060 = .ok (.iadd, 1) := by decide +kernel
theorem dL_law_1061 : decode cL_law 1061 = .ok (.iaload, 1) := by decide +kernel
theorem dL_law_1062 : decode cL_law 1062 = .ok (.aload_n 0, 1) := by decide +kernel
theorem dL_law_1063 : decode cL_law 1063 = .ok (.iload 4, 2) := by decide +kernel
theorem dL_law_1065 : decode cL_law 1065 = .ok (.iconst 2, 1) := by decide +kernel
theorem dL_law_1066 : decode cL_law 1066 = .ok (.iadd, 1) := by decide +kernel
theorem dL_law_1067 : decode cL_law 1067 = .ok (.iaload, 1) := by decide +kernel
theorem dL_law_1068 : decode cL_law 1068 = .ok (.invokevirtual 121, 3) := by decide +kernel
theorem dL_law_1071 : decode cL_law 1071 = .ok (.lcmp, 1) := by decide +kernel
theorem dL_law_1072 : decode cL_law 1072 = .ok (.ifCond .eq 792, 3) := by decide +kernel
theorem dL_law_1077 : decode cL_law 1077 = .ok (.aload_n 1, 1) := by decide +kernel
theorem dL_law_1078 : decode cL_law 1078 = .ok (.aload_n 0, 1) := by decide +kernel
theorem dL_law_1079 : decode cL_law 1079 = .ok (.iload 4, 2) := by decide +kernel
theorem dL_law_1081 : decode cL_law 1081 = .ok (.iconst 1, 1) := by decide +kernel
theorem dL_law_1082 : decode cL_law 1082 = .ok (.iadd, 1) := by decide +kernel
theorem dL_law_1083 : decode cL_law 1083 = .ok (.iaload, 1) := by decide +kernel
theorem dL_law_1084 : decode cL_law 1084 = .ok (.invokevirtual 122, 3) := by decide +kernel
theorem dL_law_1087 : decode cL_law 1087 = .ok (.aload_n 2, 1) := by decide +kernel
theorem dL_law_1088 : decode cL_law 1088 = .ok (.aload_n 0, 1) := by decide +kernel
theorem dL_law_1089 : decode cL_law 1089 = .ok (.iload 4, 2) := by decide +kernel
theorem dL_law_1091 : decode cL_law 1091 = .ok (.iconst 1, 1) := by decide +kernel
theorem dL_law_1092 : decode cL_law 1092 = .ok (.iadd, 1) := by decide +kernel
theorem dL_law_1093 : decode cL_law 1093 = .ok (.iaload, 1) := by decide +kernel
theorem dL_law_1094 : decode cL_law 1094 = .ok (.invokevirtual 126, 3) := by decide +kernel
theorem dL_law_1097 : decode cL_law 1097 = .ok (.lcmp, 1) := by decide +kernel
theorem dL_law_1098 : decode cL_law 1098 = .ok (.ifCond .eq 766, 3) := by decide +kernel
theorem dL_law_1103 : decode cL_law 1103 = .ok (.aload_n 1, 1) := by decide +kernel
theorem dL_law_1104 : decode cL_law 1104 = .ok (.aload_n 0, 1) := by decide +kernel
theorem dL_law_1105 : decode cL_law 1105 = .ok (.iload 4, 2) := by decide +kernel
theorem dL_law_1107 : decode cL_law 1107 = .ok (.iconst 1, 1) := by decide +kernel
theorem dL_law_1108 : decode cL_law 1108 = .ok (.iadd, 1) := by decide +kernel
theorem dL_law_1109 : decode cL_law 1109 = .ok (.iaload, 1) := by decide +kernel
theorem dL_law_1110 : decode cL_law 1110 = .ok (.aload_n 0, 1) := by decide +kernel
theorem dL_law_1111 : decode cL_law 1111 = .ok (.iload 4, 2) := by decide +kernel
theorem dL_law_1113 : decode cL_law 1113 = .ok (.iconst 2, 1) := by decide +kernel
theorem dL_law_1114 : decode cL_law 1114 = .ok (.iadd, 1) := by decide +kernel
theorem dL_law_1115 : decode cL_law 1115 = .ok (.iaload, 1) := by decide +kernel
theorem dL_law_1116 : decode cL_law 1116 = .ok (.invokevirtual 127, 3) := by decide +kernel
theorem dL_law_1119 : decode cL_law 1119 = .ok (.aload_n 2, 1) := by decide +kernel
theorem dL_law_1120 : decode cL_law 1120 = .ok (.aload_n 0, 1) := by decide +kernel
theorem dL_law_1121 : decode cL_law 1121 = .ok (.iload 4, 2) := by decide +kernel
theorem dL_law_1123 : decode cL_law 1123 = .ok (.iconst 1, 1) := by decide +kernel
theorem dL_law_1124 : decode cL_law 1124 = .ok (.iadd, 1) := by decide +kernel
theorem dL_law_1125 : decode cL_law 1125 = .ok (.iaload, 1) := by decide +kernel
theorem dL_law_1126 : decode cL_law 1126 = .ok (.aload_n 0, 1) := by decide +kernel
theorem dL_law_1127 : decode cL_law 1127 = .ok (.iload 4, 2) := by decide +kernel
theorem dL_law_1129 : decode cL_law 1129 = .ok (.iconst 2, 1) := by decide +kernel
theorem dL_law_1130 : decode cL_law 1130 = .ok (.iadd, 1) := by decide +kernel
theorem dL_law_1131 : decode cL_law 1131 = .ok (.iaload, 1) := by decide +kernel
theorem dL_law_1132 : decode cL_law 1132 = .ok (.invokevirtual 130, 3) := by decide +kernel
theorem dL_law_1135 : decode cL_law 1135 = .ok (.if_icmp .eq 729, 3) := by decide +kernel
theorem dL_law_1140 : decode cL_law 1140 = .ok (.aload_n 1, 1) := by decide +kernel
theorem dL_law_1141 : decode cL_law 1141 = .ok (.aload_n 0, 1) := by decide +kernel
theorem dL_law_1142 : decode cL_law 1142 = .ok (.iload 4, 2) := by decide +kernel
theorem dL_law_1144 : decode cL_law 1144 = .ok (.iconst 1, 1) := by decide +kernel
theorem dL_law_1145 : decode cL_law 1145 = .ok (.iadd, 1) := by decide +kernel
theorem dL_law_1146 : decode cL_law 1146 = .ok (.iaload, 1) := by decide +kernel
theorem dL_law_1147 : decode cL_law 1147 = .ok (.invokevirtual 131, 3) := by decide +kernel
theorem dL_law_1150 : decode cL_law 1150 = .ok (.aload_n 2, 1) := by decide +kernel
theorem dL_law_1151 : decode cL_law 1151 = .ok (.aload_n 0, 1) := by decide +kernel
theorem dL_law_1152 : decode cL_law 1152 = .ok (.iload 4, 2) := by decide +kernel
theorem dL_law_1154 : decode cL_law 1154 = .ok (.iconst 1, 1) := by decide +kernel
theorem dL_law_1155 : decode cL_law 1155 = .ok (.iadd, 1) := by decide +kernel
theorem dL_law_1156 : decode cL_law 1156 = .ok (.iaload, 1) := by decide +kernel
theorem dL_law_1157 : decode cL_law 1157 = .ok (.invokevirtual 134, 3) := by decide +kernel
theorem dL_law_1160 : decode cL_law 1160 = .ok (.if_icmp .eq 704, 3) := by decide +kernel
/-! the law's cases 12 .. 26 -/
section LAW
variable {p : Program} {e : Env} {s : State} {m : MethodId} {below : List Frame} {meth : Method} {c : Code} {l : Launch} {D : va_G} {ct : Nat → ClassId} {B b L : Nat} {xs : Nat → Int32} {adK adV sa : Nat → Nat} {S : St} {T : TT} {im : Option TT} {sh : Nat → Sh} {H : Heap} {locs : List Loc} {ls : Array Slot} {cells slots : Nat} {Q : State → Prop} {iv : Int32}
set_option maxRecDepth 100000 in
set_option maxHeartbeats 4000000 in
theorem L_12 (A : LH p s m meth c D ct B b L xs adK adV sa) (c0 : IC S (T, im, sh)) (g0 : IR S (T, im, sh)) (hP : MP D ct B s.heap S H) (hS : va_S (AB B) s.heap H locs) (hl : lv_has ls 8 (LV b B iv)) (hin : ∀ j : Nat, j < 6 → vp_in (iv + nI j) L) (hc : cells + 50 ≤ room_1.cells) (hs : slots + 100 ≤ room_1.slots) (fin : FIN p e s m below meth c l D ct B b cells slots Q iv) : W p l e room_1 s m #[Value.ref b] below meth c H locs cells slots Q (F0 m 728 ls []) := by
  obtain ⟨hx, hb, hr, hml, hown, hts, hK, hlocks, hN⟩ := id A.1
  obtain ⟨r, S1, S2, M2, f1, f2, c2, g2⟩ := J_kin c0 g0 (xs (iv + nI 1).toNatClampNeg) (xs (iv + nI 2).toNatClampNeg)
  refine lv_aload_n hx hb dL_law_728 rfl (lv_at hl 1 rfl) ?_
  refine ar A hS hl (v := nI 1) dL_law_729 dL_law_730 dL_law_732 (by decide) dL_law_733 dL_law_734 (hin 1 (by decide)) ?_
  refine ar A hS hl (v := nI 2) dL_law_735 dL_law_736 dL_law_738 (by decide) dL_law_739 dL_law_740 (hin 2 (by decide)) ?_
  refine n_Iw (kV (As := [.int (xs (iv + nI 1).toNatClampNeg), .int (xs (iv + nI 2).toNatClampNeg)]) A.1 (c_X11_kin l (xs (iv + nI 1).toNatClampNeg) (xs (iv + nI 2).toNatClampNeg) f1) ⟨wd_614, wd_611, wd_612, wd_613, wd_1⟩ kd_X11_kin ⟨Nat.le_of_ble_eq_true rfl, Nat.le_of_ble_eq_true rfl⟩ hP (lay_X11 B ct S) rfl rfl hl.1 rfl (Nat.le_of_ble_eq_true rfl) dL_law_741 ⟨by omega, by omega⟩) hS (fun H locs hP hS => ?_)
  refine lv_aload_n hx hb dL_law_744 rfl (lv_at hl 2 rfl) ?_
  refine ar A hS hl (v := nI 1) dL_law_745 dL_law_746 dL_law_748 (by decide) dL_law_749 dL_law_750 (hin 1 (by decide)) ?_
  refine ar A hS hl (v := nI 2) dL_law_751 dL_law_752 dL_law_754 (by decide) dL_law_755 dL_law_756 (hin 2 (by decide)) ?_
  refine n_Iw (kV (As := [.int (xs (iv + nI 1).toNatClampNeg), .int (xs (iv + nI 2).toNatClampNeg)]) A.1 (c_X12_kin l (xs (iv + nI 1).toNatClampNeg) (xs (iv + nI 2).toNatClampNeg) f2) ⟨wd_1526, wd_1523, wd_1524, wd_1525, wd_6⟩ kd_X12_kin ⟨Nat.le_of_ble_eq_true rfl, Nat.le_of_ble_eq_true rfl⟩ hP (lay_X12 B ct S1) rfl rfl hl.1 rfl (Nat.le_of_ble_eq_true rfl) dL_law_757 ⟨by omega, by omega⟩) hS (fun H locs hP hS => ?_)
  refine lv_icmp_eq (tgt := 1864) hx hb dL_law_760 (by decide) (fun _ => ?_) (fun q => absurd rfl q)
  exact W.widen (by omega) (by omega) (fin _ _ _ _ _ c2 g2 hP hS hl)
set_option maxRecDepth 100000 in
set_option maxHeartbeats 4000000 in
theorem L_13 (A : LH p s m meth c D ct B b L xs adK adV sa) (c0 : IC S (T, im, sh)) (g0 : IR S (T, im, sh)) (hP : MP D ct B s.heap S H) (hS : va_S (AB B) s.heap H locs) (hl : lv_has ls 8 (LV b B iv)) (hin : ∀ j : Nat, j < 6 → vp_in (iv + nI j) L) (hc : cells + 50 ≤ room_1.cells) (hs : slots + 100 ≤ room_1.slots) (fin : FIN p e s m below meth c l D ct B b cells slots Q iv) : W p l e room_1 s m #[Value.ref b] below meth c H locs cells slots Q (F0 m 765 ls []) := by
  obtain ⟨hx, hb, hr, hml, hown, hts, hK, hlocks, hN⟩ := id A.1
  obtain ⟨r, S1, S2, M2, f1, f2, c2, g2⟩ := J_set c0 g0 (xs (iv + nI 1).toNatClampNeg) (xs (iv + nI 2).toNatClampNeg)
  refine lv_aload_n hx hb dL_law_765 rfl (lv_at hl 1 rfl) ?_
  refine ar A hS hl (v := nI 1) dL_law_766 dL_law_767 dL_law_769 (by decide) dL_law_770 dL_law_771 (hin 1 (by decide)) ?_
  refine ar A hS hl (v := nI 2) dL_law_772 dL_law_773 dL_law_775 (by decide) dL_law_776 dL_law_777 (hin 2 (by decide)) ?_
  refine n_Iw (kV (As := [.int (xs (iv + nI 1).toNatClampNeg), .int (xs (iv + nI 2).toNatClampNeg)]) A.1 (c_X11_set l (xs (iv + nI 1).toNatClampNeg) (xs (iv + nI 2).toNatClampNeg) f1) ⟨wd_619, wd_616, wd_617, wd_618, wd_1⟩ kd_X11_set ⟨Nat.le_of_ble_eq_true rfl, Nat.le_of_ble_eq_true rfl⟩ hP (lay_X11 B ct S) rfl rfl hl.1 rfl (Nat.le_of_ble_eq_true rfl) dL_law_778 ⟨by omega, by omega⟩) hS (fun H locs hP hS => ?_)
  refine lv_aload_n hx hb dL_law_781 rfl (lv_at hl 2 rfl) ?_
  refine ar A hS hl (v := nI 1) dL_law_782 dL_law_783 dL_law_785 (by decide) dL_law_786 dL_law_787 (hin 1 (by decide)) ?_
  refine ar A hS hl (v := nI 2) dL_law_788 dL_law_789 dL_law_791 (by decide) dL_law_792 dL_law_793 (hin 2 (by decide)) ?_
  refine n_Iw (kV (As := [.int (xs (iv + nI 1).toNatClampNeg), .int (xs (iv + nI 2).toNatClampNeg)]) A.1 (c_X12_set l (xs (iv + nI 1).toNatClampNeg) (xs (iv + nI 2).toNatClampNeg) f2) ⟨wd_1530, wd_1527, wd_1528, wd_1529, wd_6⟩ kd_X12_set ⟨Nat.le_of_ble_eq_true rfl, Nat.le_of_ble_eq_true rfl⟩ hP (lay_X12 B ct S1) rfl rfl hl.1 rfl (Nat.le_of_ble_eq_true rfl) dL_law_794 ⟨by omega, by omega⟩) hS (fun H locs hP hS => ?_)
  refine lv_icmp_eq (tgt := 1864) hx hb dL_law_797 (by decide) (fun _ => ?_) (fun q => absurd rfl q)
  exact W.widen (by omega) (by omega) (fin _ _ _ _ _ c2 g2 hP hS hl)
set_option maxRecDepth 100000 in
set_option maxHeartbeats 4000000 in
theorem L_14 (A : LH p s m meth c D ct B b L xs adK adV sa) (c0 : IC S (T, im, sh)) (g0 : IR S (T, im, sh)) (hP : MP D ct B s.heap S H) (hS : va_S (AB B) s.heap H locs) (hl : lv_has ls 8 (LV b B iv)) (hin : ∀ j : Nat, j < 6 → vp_in (iv + nI j) L) (hc : cells + 50 ≤ room_1.cells) (hs : slots + 100 ≤ room_1.slots) (fin : FIN p e s m below meth c l D ct B b cells slots Q iv) : W p l e room_1 s m #[Value.ref b] below meth c H locs cells slots Q (F0 m 802 ls []) := by
  obtain ⟨hx, hb, hr, hml, hown, hts, hK, hlocks, hN⟩ := id A.1
  obtain ⟨r, S1, S2, M2, f1, f2, c2, g2⟩ := J_fate c0 g0 (xs (iv + nI 1).toNatClampNeg) (xs (iv + nI 2).toNatClampNeg)
  refine lv_aload_n hx hb dL_law_802 rfl (lv_at hl 1 rfl) ?_
  refine ar A hS hl (v := nI 1) dL_law_803 dL_law_804 dL_law_806 (by decide) dL_law_807 dL_law_808 (hin 1 (by decide)) ?_
  refine ar A hS hl (v := nI 2) dL_law_809 dL_law_810 dL_law_812 (by decide) dL_law_813 dL_law_814 (hin 2 (by decide)) ?_
  refine n_Iw (kV (As := [.int (xs (iv + nI 1).toNatClampNeg), .int (xs (iv + nI 2).toNatClampNeg)]) A.1 (c_X11_fate l (xs (iv + nI 1).toNatClampNeg) (xs (iv + nI 2).toNatClampNeg) f1) ⟨wd_624, wd_621, wd_622, wd_623, wd_1⟩ kd_X11_fate ⟨Nat.le_of_ble_eq_true rfl, Nat.le_of_ble_eq_true rfl⟩ hP (lay_X11 B ct S) rfl rfl hl.1 rfl (Nat.le_of_ble_eq_true rfl) dL_law_815 ⟨by omega, by omega⟩) hS (fun H locs hP hS => ?_)
  refine lv_aload_n hx hb dL_law_818 rfl (lv_at hl 2 rfl) ?_
  refine ar A hS hl (v := nI 1) dL_law_819 dL_law_820 dL_law_822 (by decide) dL_law_823 dL_law_824 (hin 1 (by decide)) ?_
  refine ar A hS hl (v := nI 2) dL_law_825 dL_law_826 dL_law_828 (by decide) dL_law_829 dL_law_830 (hin 2 (by decide)) ?_
  refine n_Iw (kV (As := [.int (xs (iv + nI 1).toNatClampNeg), .int (xs (iv + nI 2).toNatClampNeg)]) A.1 (c_X12_fate l (xs (iv + nI 1).toNatClampNeg) (xs (iv + nI 2).toNatClampNeg) f2) ⟨wd_1534, wd_1531, wd_1532, wd_1533, wd_6⟩ kd_X12_fate ⟨Nat.le_of_ble_eq_true rfl, Nat.le_of_ble_eq_true rfl⟩ hP (lay_X12 B ct S1) rfl rfl hl.1 rfl (Nat.le_of_ble_eq_true rfl) dL_law_831 ⟨by omega, by omega⟩) hS (fun H locs hP hS => ?_)
  refine lv_icmp_eq (tgt := 1864) hx hb dL_law_834 (by decide) (fun _ => ?_) (fun q => absurd rfl q)
  exact W.widen (by omega) (by omega) (fin _ _ _ _ _ c2 g2 hP hS hl)
set_option maxRecDepth 100000 in
set_option maxHeartbeats 4000000 in
theorem L_15 (A : LH p s m meth c D ct B b L xs adK adV sa) (c0 : IC S (T, im, sh)) (g0 : IR S (T, im, sh)) (hP : MP D ct B s.heap S H) (hS : va_S (AB B) s.heap H locs) (hl : lv_has ls 8 (LV b B iv)) (hin : ∀ j : Nat, j < 6 → vp_in (iv + nI j) L) (hc : cells + 50 ≤ room_1.cells) (hs : slots + 100 ≤ room_1.slots) (fin : FIN p e s m below meth c l D ct B b cells slots Q iv) : W p l e room_1 s m #[Value.ref b] below meth c H locs cells slots Q (F0 m 839 ls []) := by
  obtain ⟨hx, hb, hr, hml, hown, hts, hK, hlocks, hN⟩ := id A.1
  obtain ⟨r, S1, S2, M2, f1, f2, c2, g2⟩ := J_sum c0 g0 (xs (iv + nI 1).toNatClampNeg)
  refine lv_aload_n hx hb dL_law_839 rfl (lv_at hl 1 rfl) ?_
  refine ar A hS hl (v := nI 1) dL_law_840 dL_law_841 dL_law_843 (by decide) dL_law_844 dL_law_845 (hin 1 (by decide)) ?_
  refine n_Iw (kV (As := [.int (xs (iv + nI 1).toNatClampNeg)]) A.1 (c_X11_sum l (xs (iv + nI 1).toNatClampNeg) f1) ⟨wd_729, wd_726, wd_727, wd_728, wd_1⟩ kd_X11_sum ⟨Nat.le_of_ble_eq_true rfl, Nat.le_of_ble_eq_true rfl⟩ hP (lay_X11 B ct S) rfl rfl hl.1 rfl (Nat.le_of_ble_eq_true rfl) dL_law_846 ⟨by omega, by omega⟩) hS (fun H locs hP hS => ?_)
  refine lv_aload_n hx hb dL_law_849 rfl (lv_at hl 2 rfl) ?_
  refine ar A hS hl (v := nI 1) dL_law_850 dL_law_851 dL_law_853 (by decide) dL_law_854 dL_law_855 (hin 1 (by decide)) ?_
  refine n_Iw (kV (As := [.int (xs (iv + nI 1).toNatClampNeg)]) A.1 (c_X12_sum l (xs (iv + nI 1).toNatClampNeg) f2) ⟨wd_1589, wd_1586, wd_1587, wd_1588, wd_6⟩ kd_X12_sum ⟨Nat.le_of_ble_eq_true rfl, Nat.le_of_ble_eq_true rfl⟩ hP (lay_X12 B ct S1) rfl rfl hl.1 rfl (Nat.le_of_ble_eq_true rfl) dL_law_856 ⟨by omega, by omega⟩) hS (fun H locs hP hS => ?_)
  refine lv_icmp_eq (tgt := 1864) hx hb dL_law_859 (by decide) (fun _ => ?_) (fun q => absurd rfl q)
  exact W.widen (by omega) (by omega) (fin _ _ _ _ _ c2 g2 hP hS hl)
set_option maxRecDepth 100000 in
set_option maxHeartbeats 4000000 in
theorem L_16 (A : LH p s m meth c D ct B b L xs adK adV sa) (c0 : IC S (T, im, sh)) (g0 : IR S (T, im, sh)) (hP : MP D ct B s.heap S H) (hS : va_S (AB B) s.heap H locs) (hl : lv_has ls 8 (LV b B iv)) (hin : ∀ j : Nat, j < 6 → vp_in (iv + nI j) L) (hc : cells + 50 ≤ room_1.cells) (hs : slots + 100 ≤ room_1.slots) (fin : FIN p e s m below meth c l D ct B b cells slots Q iv) : W p l e room_1 s m #[Value.ref b] below meth c H locs cells slots Q (F0 m 864 ls []) := by
  obtain ⟨hx, hb, hr, hml, hown, hts, hK, hlocks, hN⟩ := id A.1
  obtain ⟨r, S1, S2, M2, f1, f2, c2, g2⟩ := J_sums c0 g0 (xs (iv + nI 1).toNatClampNeg)
  refine lv_aload_n hx hb dL_law_864 rfl (lv_at hl 1 rfl) ?_
  refine ar A hS hl (v := nI 1) dL_law_865 dL_law_866 dL_law_868 (by decide) dL_law_869 dL_law_870 (hin 1 (by decide)) ?_
  refine n_Iw (kV (As := [.int (xs (iv + nI 1).toNatClampNeg)]) A.1 (c_X11_sums l (xs (iv + nI 1).toNatClampNeg) f1) ⟨wd_733, wd_730, wd_731, wd_732, wd_1⟩ kd_X11_sums ⟨Nat.le_of_ble_eq_true rfl, Nat.le_of_ble_eq_true rfl⟩ hP (lay_X11 B ct S) rfl rfl hl.1 rfl (Nat.le_of_ble_eq_true rfl) dL_law_871 ⟨by omega, by omega⟩) hS (fun H locs hP hS => ?_)
  refine lv_aload_n hx hb dL_law_874 rfl (lv_at hl 2 rfl) ?_
  refine ar A hS hl (v := nI 1) dL_law_875 dL_law_876 dL_law_878 (by decide) dL_law_879 dL_law_880 (hin 1 (by decide)) ?_
  refine n_Iw (kV (As := [.int (xs (iv + nI 1).toNatClampNeg)]) A.1 (c_X12_sums l (xs (iv + nI 1).toNatClampNeg) f2) ⟨wd_1593, wd_1590, wd_1591, wd_1592, wd_6⟩ kd_X12_sums ⟨Nat.le_of_ble_eq_true rfl, Nat.le_of_ble_eq_true rfl⟩ hP (lay_X12 B ct S1) rfl rfl hl.1 rfl (Nat.le_of_ble_eq_true rfl) dL_law_881 ⟨by omega, by omega⟩) hS (fun H locs hP hS => ?_)
  refine lv_icmp_eq (tgt := 1864) hx hb dL_law_884 (by decide) (fun _ => ?_) (fun q => absurd rfl q)
  exact W.widen (by omega) (by omega) (fin _ _ _ _ _ c2 g2 hP hS hl)
set_option maxRecDepth 100000 in
set_option maxHeartbeats 4000000 in
theorem L_17 (A : LH p s m meth c D ct B b L xs adK adV sa) (c0 : IC S (T, im, sh)) (g0 : IR S (T, im, sh)) (hP : MP D ct B s.heap S H) (hS : va_S (AB B) s.heap H locs) (hl : lv_has ls 8 (LV b B iv)) (hin : ∀ j : Nat, j < 6 → vp_in (iv + nI j) L) (hc : cells + 50 ≤ room_1.cells) (hs : slots + 100 ≤ room_1.slots) (fin : FIN p e s m below meth c l D ct B b cells slots Q iv) : W p l e room_1 s m #[Value.ref b] below meth c H locs cells slots Q (F0 m 889 ls []) := by
  obtain ⟨hx, hb, hr, hml, hown, hts, hK, hlocks, hN⟩ := id A.1
  obtain ⟨r, S1, S2, M2, f1, f2, c2, g2⟩ := J_market c0 g0 (xs (iv + nI 1).toNatClampNeg)
  refine lv_aload_n hx hb dL_law_889 rfl (lv_at hl 1 rfl) ?_
  refine ar A hS hl (v := nI 1) dL_law_890 dL_law_891 dL_law_893 (by decide) dL_law_894 dL_law_895 (hin 1 (by decide)) ?_
  refine n_Iw (kV (As := [.int (xs (iv + nI 1).toNatClampNeg)]) A.1 (c_X11_market l (xs (iv + nI 1).toNatClampNeg) f1) ⟨wd_757, wd_754, wd_755, wd_756, wd_1⟩ kd_X11_market ⟨Nat.le_of_ble_eq_true rfl, Nat.le_of_ble_eq_true rfl⟩ hP (lay_X11 B ct S) rfl rfl hl.1 rfl (Nat.le_of_ble_eq_true rfl) dL_law_896 ⟨by omega, by omega⟩) hS (fun H locs hP hS => ?_)
  refine lv_aload_n hx hb dL_law_899 rfl (lv_at hl 2 rfl) ?_
  refine ar A hS hl (v := nI 1) dL_law_900 dL_law_901 dL_law_903 (by decide) dL_law_904 dL_law_905 (hin 1 (by decide)) ?_
  refine n_Iw (kV (As := [.int (xs (iv + nI 1).toNatClampNeg)]) A.1 (c_X12_market l (xs (iv + nI 1).toNatClampNeg) f2) ⟨wd_1613, wd_1610, wd_1611, wd_1612, wd_6⟩ kd_X12_market ⟨Nat.le_of_ble_eq_true rfl, Nat.le_of_ble_eq_true rfl⟩ hP (lay_X12 B ct S1) rfl rfl hl.1 rfl (Nat.le_of_ble_eq_true rfl) dL_law_906 ⟨by omega, by omega⟩) hS (fun H locs hP hS => ?_)
  refine lv_icmp_eq (tgt := 1864) hx hb dL_law_909 (by decide) (fun _ => ?_) (fun q => absurd rfl q)
  exact W.widen (by omega) (by omega) (fin _ _ _ _ _ c2 g2 hP hS hl)
set_option maxRecDepth 100000 in
set_option maxHeartbeats 4000000 in
theorem L_18 (A : LH p s m meth c D ct B b L xs adK adV sa) (c0 : IC S (T, im, sh)) (g0 : IR S (T, im, sh)) (hP : MP D ct B s.heap S H) (hS : va_S (AB B) s.heap H locs) (hl : lv_has ls 8 (LV b B iv)) (hin : ∀ j : Nat, j < 6 → vp_in (iv + nI j) L) (hc : cells + 50 ≤ room_1.cells) (hs : slots + 100 ≤ room_1.slots) (fin : FIN p e s m below meth c l D ct B b cells slots Q iv) : W p l e room_1 s m #[Value.ref b] below meth c H locs cells slots Q (F0 m 914 ls []) := by
  obtain ⟨hx, hb, hr, hml, hown, hts, hK, hlocks, hN⟩ := id A.1
  obtain ⟨r, S1, S2, M2, f1, f2, c2, g2⟩ := J_chain c0 g0 (xs (iv + nI 1).toNatClampNeg)
  refine lv_aload_n hx hb dL_law_914 rfl (lv_at hl 1 rfl) ?_
  refine ar A hS hl (v := nI 1) dL_law_915 dL_law_916 dL_law_918 (by decide) dL_law_919 dL_law_920 (hin 1 (by decide)) ?_
  refine n_Iw (kV (As := [.int (xs (iv + nI 1).toNatClampNeg)]) A.1 (c_X11_chain l (xs (iv + nI 1).toNatClampNeg) f1) ⟨wd_765, wd_762, wd_763, wd_764, wd_1⟩ kd_X11_chain ⟨Nat.le_of_ble_eq_true rfl, Nat.le_of_ble_eq_true rfl⟩ hP (lay_X11 B ct S) rfl rfl hl.1 rfl (Nat.le_of_ble_eq_true rfl) dL_law_921 ⟨by omega, by omega⟩) hS (fun H locs hP hS => ?_)
  refine lv_aload_n hx hb dL_law_924 rfl (lv_at hl 2 rfl) ?_
  refine ar A hS hl (v := nI 1) dL_law_925 dL_law_926 dL_law_928 (by decide) dL_law_929 dL_law_930 (hin 1 (by decide)) ?_
  refine n_Iw (kV (As := [.int (xs (iv + nI 1).toNatClampNeg)]) A.1 (c_X12_chain l (xs (iv + nI 1).toNatClampNeg) f2) ⟨wd_1617, wd_1614, wd_1615, wd_1616, wd_6⟩ kd_X12_chain ⟨Nat.le_of_ble_eq_true rfl, Nat.le_of_ble_eq_true rfl⟩ hP (lay_X12 B ct S1) rfl rfl hl.1 rfl (Nat.le_of_ble_eq_true rfl) dL_law_931 ⟨by omega, by omega⟩) hS (fun H locs hP hS => ?_)
  refine lv_icmp_eq (tgt := 1864) hx hb dL_law_934 (by decide) (fun _ => ?_) (fun q => absurd rfl q)
  exact W.widen (by omega) (by omega) (fin _ _ _ _ _ c2 g2 hP hS hl)
set_option maxRecDepth 100000 in
set_option maxHeartbeats 4000000 in
theorem L_19 (A : LH p s m meth c D ct B b L xs adK adV sa) (c0 : IC S (T, im, sh)) (g0 : IR S (T, im, sh)) (hP : MP D ct B s.heap S H) (hS : va_S (AB B) s.heap H locs) (hl : lv_has ls 8 (LV b B iv)) (hin : ∀ j : Nat, j < 6 → vp_in (iv + nI j) L) (hc : cells + 50 ≤ room_1.cells) (hs : slots + 100 ≤ room_1.slots) (fin : FIN p e s m below meth c l D ct B b cells slots Q iv) : W p l e room_1 s m #[Value.ref b] below meth c H locs cells slots Q (F0 m 939 ls []) := by
  obtain ⟨hx, hb, hr, hml, hown, hts, hK, hlocks, hN⟩ := id A.1
  obtain ⟨r, S1, S2, M2, f1, f2, c2, g2⟩ := J_longest c0 g0 
  refine lv_aload_n hx hb dL_law_939 rfl (lv_at hl 1 rfl) ?_
  refine n_Iw (kV (As := []) A.1 (c_X11_longest l f1) ⟨wd_773, wd_770, wd_771, wd_772, wd_1⟩ kd_X11_longest ⟨Nat.le_of_ble_eq_true rfl, Nat.le_of_ble_eq_true rfl⟩ hP (lay_X11 B ct S) rfl rfl hl.1 rfl (Nat.le_of_ble_eq_true rfl) dL_law_940 ⟨by omega, by omega⟩) hS (fun H locs hP hS => ?_)
  refine lv_aload_n hx hb dL_law_943 rfl (lv_at hl 2 rfl) ?_
  refine n_Iw (kV (As := []) A.1 (c_X12_longest l f2) ⟨wd_1625, wd_1622, wd_1623, wd_1624, wd_6⟩ kd_X12_longest ⟨Nat.le_of_ble_eq_true rfl, Nat.le_of_ble_eq_true rfl⟩ hP (lay_X12 B ct S1) rfl rfl hl.1 rfl (Nat.le_of_ble_eq_true rfl) dL_law_944 ⟨by omega, by omega⟩) hS (fun H locs hP hS => ?_)
  refine lv_icmp_eq (tgt := 1864) hx hb dL_law_947 (by decide) (fun _ => ?_) (fun q => absurd rfl q)
  exact W.widen (by omega) (by omega) (fin _ _ _ _ _ c2 g2 hP hS hl)
set_option maxRecDepth 100000 in
set_option maxHeartbeats 4000000 in
theorem L_20 (A : LH p s m meth c D ct B b L xs adK adV sa) (c0 : IC S (T, im, sh)) (g0 : IR S (T, im, sh)) (hP : MP D ct B s.heap S H) (hS : va_S (AB B) s.heap H locs) (hl : lv_has ls 8 (LV b B iv)) (hin : ∀ j : Nat, j < 6 → vp_in (iv + nI j) L) (hc : cells + 50 ≤ room_1.cells) (hs : slots + 100 ≤ room_1.slots) (fin : FIN p e s m below meth c l D ct B b cells slots Q iv) : W p l e room_1 s m #[Value.ref b] below meth c H locs cells slots Q (F0 m 952 ls []) := by
  obtain ⟨hx, hb, hr, hml, hown, hts, hK, hlocks, hN⟩ := id A.1
  obtain ⟨r, S1, S2, M2, f1, f2, c2, g2⟩ := J_turners c0 g0 (xs (iv + nI 1).toNatClampNeg)
  refine lv_aload_n hx hb dL_law_952 rfl (lv_at hl 1 rfl) ?_
  refine ar A hS hl (v := nI 1) dL_law_953 dL_law_954 dL_law_956 (by decide) dL_law_957 dL_law_958 (hin 1 (by decide)) ?_
  refine n_Iw (kV (As := [.int (xs (iv + nI 1).toNatClampNeg)]) A.1 (c_X11_turners l (xs (iv + nI 1).toNatClampNeg) f1) ⟨wd_778, wd_775, wd_776, wd_777, wd_1⟩ kd_X11_turners ⟨Nat.le_of_ble_eq_true rfl, Nat.le_of_ble_eq_true rfl⟩ hP (lay_X11 B ct S) rfl rfl hl.1 rfl (Nat.le_of_ble_eq_true rfl) dL_law_959 ⟨by omega, by omega⟩) hS (fun H locs hP hS => ?_)
  refine lv_aload_n hx hb dL_law_962 rfl (lv_at hl 2 rfl) ?_
  refine ar A hS hl (v := nI 1) dL_law_963 dL_law_964 dL_law_966 (by decide) dL_law_967 dL_law_968 (hin 1 (by decide)) ?_
  refine n_Iw (kV (As := [.int (xs (iv + nI 1).toNatClampNeg)]) A.1 (c_X12_turners l (xs (iv + nI 1).toNatClampNeg) f2) ⟨wd_1629, wd_1626, wd_1627, wd_1628, wd_6⟩ kd_X12_turners ⟨Nat.le_of_ble_eq_true rfl, Nat.le_of_ble_eq_true rfl⟩ hP (lay_X12 B ct S1) rfl rfl hl.1 rfl (Nat.le_of_ble_eq_true rfl) dL_law_969 ⟨by omega, by omega⟩) hS (fun H locs hP hS => ?_)
  refine lv_icmp_eq (tgt := 1864) hx hb dL_law_972 (by decide) (fun _ => ?_) (fun q => absurd rfl q)
  exact W.widen (by omega) (by omega) (fin _ _ _ _ _ c2 g2 hP hS hl)
set_option maxRecDepth 100000 in
set_option maxHeartbeats 4000000 in
theorem L_21 (A : LH p s m meth c D ct B b L xs adK adV sa) (c0 : IC S (T, im, sh)) (g0 : IR S (T, im, sh)) (hP : MP D ct B s.heap S H) (hS : va_S (AB B) s.heap H locs) (hl : lv_has ls 8 (LV b B iv)) (hin : ∀ j : Nat, j < 6 → vp_in (iv + nI j) L) (hc : cells + 50 ≤ room_1.cells) (hs : slots + 100 ≤ room_1.slots) (fin : FIN p e s m below meth c l D ct B b cells slots Q iv) : W p l e room_1 s m #[Value.ref b] below meth c H locs cells slots Q (F0 m 977 ls []) := by
  obtain ⟨hx, hb, hr, hml, hown, hts, hK, hlocks, hN⟩ := id A.1
  obtain ⟨r, S1, S2, M2, f1, f2, c2, g2⟩ := J_yes c0 g0 (xs (iv + nI 1).toNatClampNeg)
  refine lv_aload_n hx hb dL_law_977 rfl (lv_at hl 1 rfl) ?_
  refine ar A hS hl (v := nI 1) dL_law_978 dL_law_979 dL_law_981 (by decide) dL_law_982 dL_law_983 (hin 1 (by decide)) ?_
  refine n_Iw (kV (As := [.int (xs (iv + nI 1).toNatClampNeg)]) A.1 (c_X11_yes l (xs (iv + nI 1).toNatClampNeg) f1) ⟨wd_782, wd_779, wd_780, wd_781, wd_1⟩ kd_X11_yes ⟨Nat.le_of_ble_eq_true rfl, Nat.le_of_ble_eq_true rfl⟩ hP (lay_X11 B ct S) rfl rfl hl.1 rfl (Nat.le_of_ble_eq_true rfl) dL_law_984 ⟨by omega, by omega⟩) hS (fun H locs hP hS => ?_)
  refine lv_aload_n hx hb dL_law_987 rfl (lv_at hl 2 rfl) ?_
  refine ar A hS hl (v := nI 1) dL_law_988 dL_law_989 dL_law_991 (by decide) dL_law_992 dL_law_993 (hin 1 (by decide)) ?_
  refine n_Iw (kV (As := [.int (xs (iv + nI 1).toNatClampNeg)]) A.1 (c_X12_yes l (xs (iv + nI 1).toNatClampNeg) f2) ⟨wd_1637, wd_1634, wd_1635, wd_1636, wd_6⟩ kd_X12_yes ⟨Nat.le_of_ble_eq_true rfl, Nat.le_of_ble_eq_true rfl⟩ hP (lay_X12 B ct S1) rfl rfl hl.1 rfl (Nat.le_of_ble_eq_true rfl) dL_law_994 ⟨by omega, by omega⟩) hS (fun H locs hP hS => ?_)
  refine lv_icmp_eq (tgt := 1864) hx hb dL_law_997 (by decide) (fun _ => ?_) (fun q => absurd rfl q)
  exact W.widen (by omega) (by omega) (fin _ _ _ _ _ c2 g2 hP hS hl)
set_option maxRecDepth 100000 in
set_option maxHeartbeats 4000000 in
theorem L_22 (A : LH p s m meth c D ct B b L xs adK adV sa) (c0 : IC S (T, im, sh)) (g0 : IR S (T, im, sh)) (hP : MP D ct B s.heap S H) (hS : va_S (AB B) s.heap H locs) (hl : lv_has ls 8 (LV b B iv)) (hin : ∀ j : Nat, j < 6 → vp_in (iv + nI j) L) (hc : cells + 50 ≤ room_1.cells) (hs : slots + 100 ≤ room_1.slots) (fin : FIN p e s m below meth c l D ct B b cells slots Q iv) : W p l e room_1 s m #[Value.ref b] below meth c H locs cells slots Q (F0 m 1002 ls []) := by
  obtain ⟨hx, hb, hr, hml, hown, hts, hK, hlocks, hN⟩ := id A.1
  obtain ⟨r, S1, S2, M2, f1, f2, c2, g2⟩ := J_moods c0 g0 (xs (iv + nI 1).toNatClampNeg) (xs (iv + nI 2).toNatClampNeg)
  refine lv_aload_n hx hb dL_law_1002 rfl (lv_at hl 1 rfl) ?_
  refine ar A hS hl (v := nI 1) dL_law_1003 dL_law_1004 dL_law_1006 (by decide) dL_law_1007 dL_law_1008 (hin 1 (by decide)) ?_
  refine ar A hS hl (v := nI 2) dL_law_1009 dL_law_1010 dL_law_1012 (by decide) dL_law_1013 dL_law_1014 (hin 2 (by decide)) ?_
  refine n_Iw (kV (As := [.int (xs (iv + nI 1).toNatClampNeg), .int (xs (iv + nI 2).toNatClampNeg)]) A.1 (c_X11_moods l (xs (iv + nI 1).toNatClampNeg) (xs (iv + nI 2).toNatClampNeg) f1) ⟨wd_786, wd_783, wd_784, wd_785, wd_1⟩ kd_X11_moods ⟨Nat.le_of_ble_eq_true rfl, Nat.le_of_ble_eq_true rfl⟩ hP (lay_X11 B ct S) rfl rfl hl.1 rfl (Nat.le_of_ble_eq_true rfl) dL_law_1015 ⟨by omega, by omega⟩) hS (fun H locs hP hS => ?_)
  refine lv_aload_n hx hb dL_law_1018 rfl (lv_at hl 2 rfl) ?_
  refine ar A hS hl (v := nI 1) dL_law_1019 dL_law_1020 dL_law_1022 (by decide) dL_law_1023 dL_law_1024 (hin 1 (by decide)) ?_
  refine ar A hS hl (v := nI 2) dL_law_1025 dL_law_1026 dL_law_1028 (by decide) dL_law_1029 dL_law_1030 (hin 2 (by decide)) ?_
  refine n_Iw (kV (As := [.int (xs (iv + nI 1).toNatClampNeg), .int (xs (iv + nI 2).toNatClampNeg)]) A.1 (c_X12_moods l (xs (iv + nI 1).toNatClampNeg) (xs (iv + nI 2).toNatClampNeg) f2) ⟨wd_1641, wd_1638, wd_1639, wd_1640, wd_6⟩ kd_X12_moods ⟨Nat.le_of_ble_eq_true rfl, Nat.le_of_ble_eq_true rfl⟩ hP (lay_X12 B ct S1) rfl rfl hl.1 rfl (Nat.le_of_ble_eq_true rfl) dL_law_1031 ⟨by omega, by omega⟩) hS (fun H locs hP hS => ?_)
  refine lv_icmp_eq (tgt := 1864) hx hb dL_law_1034 (by decide) (fun _ => ?_) (fun q => absurd rfl q)
  exact W.widen (by omega) (by omega) (fin _ _ _ _ _ c2 g2 hP hS hl)
set_option maxRecDepth 100000 in
set_option maxHeartbeats 4000000 in
theorem L_23 (A : LH p s m meth c D ct B b L xs adK adV sa) (c0 : IC S (T, im, sh)) (g0 : IR S (T, im, sh)) (hP : MP D ct B s.heap S H) (hS : va_S (AB B) s.heap H locs) (hl : lv_has ls 8 (LV b B iv)) (hin : ∀ j : Nat, j < 6 → vp_in (iv + nI j) L) (hc : cells + 50 ≤ room_1.cells) (hs : slots + 100 ≤ room_1.slots) (fin : FIN p e s m below meth c l D ct B b cells slots Q iv) : W p l e room_1 s m #[Value.ref b] below meth c H locs cells slots Q (F0 m 1039 ls []) := by
  obtain ⟨hx, hb, hr, hml, hown, hts, hK, hlocks, hN⟩ := id A.1
  obtain ⟨r, S1, S2, M2, f1, f2, c2, g2⟩ := J_likely c0 g0 (xs (iv + nI 1).toNatClampNeg) (xs (iv + nI 2).toNatClampNeg)
  refine lv_aload_n hx hb dL_law_1039 rfl (lv_at hl 1 rfl) ?_
  refine ar A hS hl (v := nI 1) dL_law_1040 dL_law_1041 dL_law_1043 (by decide) dL_law_1044 dL_law_1045 (hin 1 (by decide)) ?_
  refine ar A hS hl (v := nI 2) dL_law_1046 dL_law_1047 dL_law_1049 (by decide) dL_law_1050 dL_law_1051 (hin 2 (by decide)) ?_
  refine n_Lw (kV (As := [.int (xs (iv + nI 1).toNatClampNeg), .int (xs (iv + nI 2).toNatClampNeg)]) A.1 (c_X11_likely l (xs (iv + nI 1).toNatClampNeg) (xs (iv + nI 2).toNatClampNeg) f1) ⟨wd_790, wd_787, wd_788, wd_789, wd_1⟩ kd_X11_likely ⟨Nat.le_of_ble_eq_true rfl, Nat.le_of_ble_eq_true rfl⟩ hP (lay_X11 B ct S) rfl rfl hl.1 rfl (Nat.le_of_ble_eq_true rfl) dL_law_1052 ⟨by omega, by omega⟩) hS (fun H locs hP hS => ?_)
  refine lv_aload_n hx hb dL_law_1055 rfl (lv_at hl 2 rfl) ?_
  refine ar A hS hl (v := nI 1) dL_law_1056 dL_law_1057 dL_law_1059 (by decide) dL_law_1060 dL_law_1061 (hin 1 (by decide)) ?_
  refine ar A hS hl (v := nI 2) dL_law_1062 dL_law_1063 dL_law_1065 (by decide) dL_law_1066 dL_law_1067 (hin 2 (by decide)) ?_
  refine n_Lw (kV (As := [.int (xs (iv + nI 1).toNatClampNeg), .int (xs (iv + nI 2).toNatClampNeg)]) A.1 (c_X12_likely l (xs (iv + nI 1).toNatClampNeg) (xs (iv + nI 2).toNatClampNeg) f2) ⟨wd_1645, wd_1642, wd_1643, wd_1644, wd_6⟩ kd_X12_likely ⟨Nat.le_of_ble_eq_true rfl, Nat.le_of_ble_eq_true rfl⟩ hP (lay_X12 B ct S1) rfl rfl hl.1 rfl (Nat.le_of_ble_eq_true rfl) dL_law_1068 ⟨by omega, by omega⟩) hS (fun H locs hP hS => ?_)
  refine W.lcmp hx hb dL_law_1071 ?_
  refine lv_if_eq (tgt := 1864) hx hb dL_law_1072 (by decide) (fun _ => ?_) (fun q => absurd (lcmp_0 r) q)
  exact W.widen (by omega) (by omega) (fin _ _ _ _ _ c2 g2 hP hS hl)
set_option maxRecDepth 100000 in
set_option maxHeartbeats 4000000 in
theorem L_24 (A : LH p s m meth c D ct B b L xs adK adV sa) (c0 : IC S (T, im, sh)) (g0 : IR S (T, im, sh)) (hP : MP D ct B s.heap S H) (hS : va_S (AB B) s.heap H locs) (hl : lv_has ls 8 (LV b B iv)) (hin : ∀ j : Nat, j < 6 → vp_in (iv + nI j) L) (hc : cells + 50 ≤ room_1.cells) (hs : slots + 100 ≤ room_1.slots) (fin : FIN p e s m below meth c l D ct B b cells slots Q iv) : W p l e room_1 s m #[Value.ref b] below meth c H locs cells slots Q (F0 m 1077 ls []) := by
  obtain ⟨hx, hb, hr, hml, hown, hts, hK, hlocks, hN⟩ := id A.1
  obtain ⟨r, S1, S2, M2, f1, f2, c2, g2⟩ := J_mean c0 g0 (xs (iv + nI 1).toNatClampNeg)
  refine lv_aload_n hx hb dL_law_1077 rfl (lv_at hl 1 rfl) ?_
  refine ar A hS hl (v := nI 1) dL_law_1078 dL_law_1079 dL_law_1081 (by decide) dL_law_1082 dL_law_1083 (hin 1 (by decide)) ?_
  refine n_Lw (kV (As := [.int (xs (iv + nI 1).toNatClampNeg)]) A.1 (c_X11_mean l (xs (iv + nI 1).toNatClampNeg) f1) ⟨wd_817, wd_814, wd_815, wd_816, wd_1⟩ kd_X11_mean ⟨Nat.le_of_ble_eq_true rfl, Nat.le_of_ble_eq_true rfl⟩ hP (lay_X11 B ct S) rfl rfl hl.1 rfl (Nat.le_of_ble_eq_true rfl) dL_law_1084 ⟨by omega, by omega⟩) hS (fun H locs hP hS => ?_)
  refine lv_aload_n hx hb dL_law_1087 rfl (lv_at hl 2 rfl) ?_
  refine ar A hS hl (v := nI 1) dL_law_1088 dL_law_1089 dL_law_1091 (by decide) dL_law_1092 dL_law_1093 (hin 1 (by decide)) ?_
  refine n_Lw (kV (As := [.int (xs (iv + nI 1).toNatClampNeg)]) A.1 (c_X12_mean l (xs (iv + nI 1).toNatClampNeg) f2) ⟨wd_1660, wd_1657, wd_1658, wd_1659, wd_6⟩ kd_X12_mean ⟨Nat.le_of_ble_eq_true rfl, Nat.le_of_ble_eq_true rfl⟩ hP (lay_X12 B ct S1) rfl rfl hl.1 rfl (Nat.le_of_ble_eq_true rfl) dL_law_1094 ⟨by omega, by omega⟩) hS (fun H locs hP hS => ?_)
  refine W.lcmp hx hb dL_law_1097 ?_
  refine lv_if_eq (tgt := 1864) hx hb dL_law_1098 (by decide) (fun _ => ?_) (fun q => absurd (lcmp_0 r) q)
  exact W.widen (by omega) (by omega) (fin _ _ _ _ _ c2 g2 hP hS hl)
set_option maxRecDepth 100000 in
set_option maxHeartbeats 4000000 in
theorem L_25 (A : LH p s m meth c D ct B b L xs adK adV sa) (c0 : IC S (T, im, sh)) (g0 : IR S (T, im, sh)) (hP : MP D ct B s.heap S H) (hS : va_S (AB B) s.heap H locs) (hl : lv_has ls 8 (LV b B iv)) (hin : ∀ j : Nat, j < 6 → vp_in (iv + nI j) L) (hc : cells + 50 ≤ room_1.cells) (hs : slots + 100 ≤ room_1.slots) (fin : FIN p e s m below meth c l D ct B b cells slots Q iv) : W p l e room_1 s m #[Value.ref b] below meth c H locs cells slots Q (F0 m 1103 ls []) := by
  obtain ⟨hx, hb, hr, hml, hown, hts, hK, hlocks, hN⟩ := id A.1
  obtain ⟨r, S1, S2, M2, f1, f2, c2, g2⟩ := J_turn c0 g0 (xs (iv + nI 1).toNatClampNeg) (xs (iv + nI 2).toNatClampNeg)
  refine lv_aload_n hx hb dL_law_1103 rfl (lv_at hl 1 rfl) ?_
  refine ar A hS hl (v := nI 1) dL_law_1104 dL_law_1105 dL_law_1107 (by decide) dL_law_1108 dL_law_1109 (hin 1 (by decide)) ?_
  refine ar A hS hl (v := nI 2) dL_law_1110 dL_law_1111 dL_law_1113 (by decide) dL_law_1114 dL_law_1115 (hin 2 (by decide)) ?_
  refine n_Iw (kV (As := [.int (xs (iv + nI 1).toNatClampNeg), .int (xs (iv + nI 2).toNatClampNeg)]) A.1 (c_X11_turn l (xs (iv + nI 1).toNatClampNeg) (xs (iv + nI 2).toNatClampNeg) f1) ⟨wd_825, wd_822, wd_823, wd_824, wd_1⟩ kd_X11_turn ⟨Nat.le_of_ble_eq_true rfl, Nat.le_of_ble_eq_true rfl⟩ hP (lay_X11 B ct S) rfl rfl hl.1 rfl (Nat.le_of_ble_eq_true rfl) dL_law_1116 ⟨by omega, by omega⟩) hS (fun H locs hP hS => ?_)
  refine lv_aload_n hx hb dL_law_1119 rfl (lv_at hl 2 rfl) ?_
  refine ar A hS hl (v := nI 1) dL_law_1120 dL_law_1121 dL_law_1123 (by decide) dL_law_1124 dL_law_1125 (hin 1 (by decide)) ?_
  refine ar A hS hl (v := nI 2) dL_law_1126 dL_law_1127 dL_law_1129 (by decide) dL_law_1130 dL_law_1131 (hin 2 (by decide)) ?_
  refine n_Iw (kV (As := [.int (xs (iv + nI 1).toNatClampNeg), .int (xs (iv + nI 2).toNatClampNeg)]) A.1 (c_X12_turn l (xs (iv + nI 1).toNatClampNeg) (xs (iv + nI 2).toNatClampNeg) f2) ⟨wd_1664, wd_1661, wd_1662, wd_1663, wd_6⟩ kd_X12_turn ⟨Nat.le_of_ble_eq_true rfl, Nat.le_of_ble_eq_true rfl⟩ hP (lay_X12 B ct S1) rfl rfl hl.1 rfl (Nat.le_of_ble_eq_true rfl) dL_law_1132 ⟨by omega, by omega⟩) hS (fun H locs hP hS => ?_)
  refine lv_icmp_eq (tgt := 1864) hx hb dL_law_1135 (by decide) (fun _ => ?_) (fun q => absurd rfl q)
  exact W.widen (by omega) (by omega) (fin _ _ _ _ _ c2 g2 hP hS hl)
set_option maxRecDepth 100000 in
set_option maxHeartbeats 4000000 in
theorem L_26 (A : LH p s m meth c D ct B b L xs adK adV sa) (c0 : IC S (T, im, sh)) (g0 : IR S (T, im, sh)) (hP : MP D ct B s.heap S H) (hS : va_S (AB B) s.heap H locs) (hl : lv_has ls 8 (LV b B iv)) (hin : ∀ j : Nat, j < 6 → vp_in (iv + nI j) L) (hc : cells + 50 ≤ room_1.cells) (hs : slots + 100 ≤ room_1.slots) (fin : FIN p e s m below meth c l D ct B b cells slots Q iv) : W p l e room_1 s m #[Value.ref b] below meth c H locs cells slots Q (F0 m 1140 ls []) := by
  obtain ⟨hx, hb, hr, hml, hown, hts, hK, hlocks, hN⟩ := id A.1
  obtain ⟨r, S1, S2, M2, f1, f2, c2, g2⟩ := J_guard c0 g0 (xs (iv + nI 1).toNatClampNeg)
  refine lv_aload_n hx hb dL_law_1140 rfl (lv_at hl 1 rfl) ?_
  refine ar A hS hl (v := nI 1) dL_law_1141 dL_law_1142 dL_law_1144 (by decide) dL_law_1145 dL_law_1146 (hin 1 (by decide)) ?_
  refine n_Iw (kV (As := [.int (xs (iv + nI 1).toNatClampNeg)]) A.1 (c_X11_guard l (xs (iv + nI 1).toNatClampNeg) f1) ⟨wd_830, wd_827, wd_828, wd_829, wd_1⟩ kd_X11_guard ⟨Nat.le_of_ble_eq_true rfl, Nat.le_of_ble_eq_true rfl⟩ hP (lay_X11 B ct S) rfl rfl hl.1 rfl (Nat.le_of_ble_eq_true rfl) dL_law_1147 ⟨by omega, by omega⟩) hS (fun H locs hP hS => ?_)
  refine lv_aload_n hx hb dL_law_1150 rfl (lv_at hl 2 rfl) ?_
  refine ar A hS hl (v := nI 1) dL_law_1151 dL_law_1152 dL_law_1154 (by decide) dL_law_1155 dL_law_1156 (hin 1 (by decide)) ?_
  refine n_Iw (kV (As := [.int (xs (iv + nI 1).toNatClampNeg)]) A.1 (c_X12_guard l (xs (iv + nI 1).toNatClampNeg) f2) ⟨wd_1672, wd_1669, wd_1670, wd_1671, wd_6⟩ kd_X12_guard ⟨Nat.le_of_ble_eq_true rfl, Nat.le_of_ble_eq_true rfl⟩ hP (lay_X12 B ct S1) rfl rfl hl.1 rfl (Nat.le_of_ble_eq_true rfl) dL_law_1157 ⟨by omega, by omega⟩) hS (fun H locs hP hS => ?_)
  refine lv_icmp_eq (tgt := 1864) hx hb dL_law_1160 (by decide) (fun _ => ?_) (fun q => absurd rfl q)
  exact W.widen (by omega) (by omega) (fin _ _ _ _ _ c2 g2 hP hS hl)
end LAW
