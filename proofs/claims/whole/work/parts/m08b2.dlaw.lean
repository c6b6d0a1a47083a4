theorem d_W_law_820 : decode (ab_bc mt_W_law) 820 = .ok (.ifCond .ne 15, 3) := by decide +kernel
theorem d_W_law_823 : decode (ab_bc mt_W_law) 823 = .ok (.aload_n 3, 1) := by decide +kernel
theorem d_W_law_824 : decode (ab_bc mt_W_law) 824 = .ok (.iconst 0, 1) := by decide +kernel
theorem d_W_law_825 : decode (ab_bc mt_W_law) 825 = .ok (.laload, 1) := by decide +kernel
theorem d_W_law_826 : decode (ab_bc mt_W_law) 826 = .ok (.iload 6, 2) := by decide +kernel
theorem d_W_law_828 : decode (ab_bc mt_W_law) 828 = .ok (.i2l, 1) := by decide +kernel
theorem d_W_law_829 : decode (ab_bc mt_W_law) 829 = .ok (.lcmp, 1) := by decide +kernel
theorem d_W_law_830 : decode (ab_bc mt_W_law) 830 = .ok (.ifCond .eq 5, 3) := by decide +kernel
theorem d_W_law_833 : decode (ab_bc mt_W_law) 833 = .ok (.iconst 0, 1) := by decide +kernel
theorem d_W_law_834 : decode (ab_bc mt_W_law) 834 = .ok (.ireturn, 1) := by decide +kernel
theorem d_W_law_835 : decode (ab_bc mt_W_law) 835 = .ok (.goto 823, 3) := by decide +kernel
theorem d_W_law_838 : decode (ab_bc mt_W_law) 838 = .ok (.aload_n 1, 1) := by decide +kernel
theorem d_W_law_839 : decode (ab_bc mt_W_law) 839 = .ok (.aload_n 0, 1) := by decide +kernel
theorem d_W_law_840 : decode (ab_bc mt_W_law) 840 = .ok (.iload 4, 2) := by decide +kernel
theorem d_W_law_842 : decode (ab_bc mt_W_law) 842 = .ok (.iconst 1, 1) := by decide +kernel
theorem d_W_law_843 : decode (ab_bc mt_W_law) 843 = .ok (.iadd, 1) := by decide +kernel
theorem d_W_law_844 : decode (ab_bc mt_W_law) 844 = .ok (.iaload, 1) := by decide +kernel
theorem d_W_law_845 : decode (ab_bc mt_W_law) 845 = .ok (.aload_n 0, 1) := by decide +kernel
theorem d_W_law_846 : decode (ab_bc mt_W_law) 846 = .ok (.iload 4, 2) := by decide +kernel
theorem d_W_law_848 : decode (ab_bc mt_W_law) 848 = .ok (.iconst 2, 1) := by decide +kernel
theorem d_W_law_849 : decode (ab_bc mt_W_law) 849 = .ok (.iadd, 1) := by decide +kernel
theorem d_W_law_850 : decode (ab_bc mt_W_law) 850 = .ok (.iaload, 1) := by decide +kernel
theorem d_W_law_851 : decode (ab_bc mt_W_law) 851 = .ok (.aload_n 3, 1) := by decide +kernel
theorem d_W_law_852 : decode (ab_bc mt_W_law) 852 = .ok (.invokestatic 118, 3) := by decide +kernel
theorem d_W_law_855 : decode (ab_bc mt_W_law) 855 = .ok (.istore 5, 2) := by decide +kernel
theorem d_W_law_857 : decode (ab_bc mt_W_law) 857 = .ok (.aload_n 2, 1) := by decide +kernel
theorem d_W_law_858 : decode (ab_bc mt_W_law) 858 = .ok (.aload_n 0, 1) := by decide +kernel
theorem d_W_law_859 : decode (ab_bc mt_W_law) 859 = .ok (.iload 4, 2) := by decide +kernel
theorem d_W_law_861 : decode (ab_bc mt_W_law) 861 = .ok (.iconst 1, 1) := by decide +kernel
theorem d_W_law_862 : decode (ab_bc mt_W_law) 862 = .ok (.iadd, 1) := by decide +kernel
theorem d_W_law_863 : decode (ab_bc mt_W_law) 863 = .ok (.iaload, 1) := by decide +kernel
theorem d_W_law_864 : decode (ab_bc mt_W_law) 864 = .ok (.aload_n 0, 1) := by decide +kernel
theorem d_W_law_865 : decode (ab_bc mt_W_law) 865 = .ok (.iload 4, 2) := by decide +kernel
theorem d_W_law_867 : decode (ab_bc mt_W_law) 867 = .ok (.iconst 2, 1) := by decide +kernel
theorem d_W_law_868 : decode (ab_bc mt_W_law) 868 = .ok (.iadd, 1) := by decide +kernel
theorem d_W_law_869 : decode (ab_bc mt_W_law) 869 = .ok (.iaload, 1) := by decide +kernel
theorem d_W_law_870 : decode (ab_bc mt_W_law) 870 = .ok (.invokevirtual 120, 3) := by decide +kernel
theorem d_W_law_873 : decode (ab_bc mt_W_law) 873 = .ok (.istore 6, 2) := by decide +kernel
theorem d_W_law_875 : decode (ab_bc mt_W_law) 875 = .ok (.aload_n 2, 1) := by decide +kernel
theorem d_W_law_876 : decode (ab_bc mt_W_law) 876 = .ok (.invokevirtual 84, 3) := by decide +kernel
theorem d_W_law_879 : decode (ab_bc mt_W_law) 879 = .ok (.iload 5, 2) := by decide +kernel
theorem d_W_law_881 : decode (ab_bc mt_W_law) 881 = .ok (.if_icmp .eq 5, 3) := by decide +kernel
theorem d_W_law_884 : decode (ab_bc mt_W_law) 884 = .ok (.iconst 0, 1) := by decide +kernel
theorem d_W_law_885 : decode (ab_bc mt_W_law) 885 = .ok (.ireturn, 1) := by decide +kernel
theorem d_W_law_886 : decode (ab_bc mt_W_law) 886 = .ok (.iload 5, 2) := by decide +kernel
theorem d_W_law_888 : decode (ab_bc mt_W_law) 888 = .ok (.ifCond .ne 15, 3) := by decide +kernel
theorem d_W_law_891 : decode (ab_bc mt_W_law) 891 = .ok (.aload_n 3, 1) := by decide +kernel
theorem d_W_law_892 : decode (ab_bc mt_W_law) 892 = .ok (.iconst 0, 1) := by decide +kernel
theorem d_W_law_893 : decode (ab_bc mt_W_law) 893 = .ok (.laload, 1) := by decide +kernel
theorem d_W_law_894 : decode (ab_bc mt_W_law) 894 = .ok (.iload 6, 2) := by decide +kernel
theorem d_W_law_896 : decode (ab_bc mt_W_law) 896 = .ok (.i2l, 1) := by decide +kernel
theorem d_W_law_897 : decode (ab_bc mt_W_law) 897 = .ok (.lcmp, 1) := by decide +kernel
theorem d_W_law_898 : decode (ab_bc mt_W_law) 898 = .ok (.ifCond .eq 5, 3) := by decide +kernel
theorem d_W_law_901 : decode (ab_bc mt_W_law) 901 = .ok (.iconst 0, 1) := by decide +kernel
theorem d_W_law_902 : decode (ab_bc mt_W_law) 902 = .ok (.ireturn, 1) := by decide +kernel
theorem d_W_law_903 : decode (ab_bc mt_W_law) 903 = .ok (.goto 755, 3) := by decide +kernel
theorem d_W_law_906 : decode (ab_bc mt_W_law) 906 = .ok (.aload_n 1, 1) := by decide +kernel
theorem d_W_law_907 : decode (ab_bc mt_W_law) 907 = .ok (.aload_n 0, 1) := by decide +kernel
theorem d_W_law_908 : decode (ab_bc mt_W_law) 908 = .ok (.iload 4, 2) := by decide +kernel
theorem d_W_law_910 : decode (ab_bc mt_W_law) 910 = .ok (.iconst 1, 1) := by decide +kernel
theorem d_W_law_911 : decode (ab_bc mt_W_law) 911 = .ok (.iadd, 1) := by decide +kernel
theorem d_W_law_912 : decode (ab_bc mt_W_law) 912 = .ok (.iaload, 1) := by decide +kernel
theorem d_W_law_913 : decode (ab_bc mt_W_law) 913 = .ok (.aload_n 0, 1) := by decide +kernel
theorem d_W_law_914 : decode (ab_bc mt_W_law) 914 = .ok (.iload 4, 2) := by decide +kernel
theorem d_W_law_916 : decode (ab_bc mt_W_law) 916 = .ok (.iconst 2, 1) := by decide +kernel
theorem d_W_law_917 : decode (ab_bc mt_W_law) 917 = .ok (.iadd, 1) := by decide +kernel
theorem d_W_law_918 : decode (ab_bc mt_W_law) 918 = .ok (.iaload, 1) := by decide +kernel
theorem d_W_law_919 : decode (ab_bc mt_W_law) 919 = .ok (.aload_n 3, 1) := by decide +kernel
theorem d_W_law_920 : decode (ab_bc mt_W_law) 920 = .ok (.invokestatic 121, 3) := by decide +kernel
theorem d_W_law_923 : decode (ab_bc mt_W_law) 923 = .ok (.istore 5, 2) := by decide +kernel
theorem d_W_law_925 : decode (ab_bc mt_W_law) 925 = .ok (.aload_n 2, 1) := by decide +kernel
theorem d_W_law_926 : decode (ab_bc mt_W_law) 926 = .ok (.aload_n 0, 1) := by decide +kernel
theorem d_W_law_927 : decode (ab_bc mt_W_law) 927 = .ok (.iload 4, 2) := by decide +kernel
theorem d_W_law_929 : decode (ab_bc mt_W_law) 929 = .ok (.iconst 1, 1) := by decide +kernel
theorem d_W_law_930 : decode (ab_bc mt_W_law) 930 = .ok (.iadd, 1) := by decide +kernel
theorem d_W_law_931 : decode (ab_bc mt_W_law) 931 = .ok (.iaload, 1) := by decide +kernel
theorem d_W_law_932 : decode (ab_bc mt_W_law) 932 = .ok (.aload_n 0, 1) := by decide +kernel
theorem d_W_law_933 : decode (ab_bc mt_W_law) 933 = .ok (.iload 4, 2) := by decide +kernel
theorem d_W_law_935 : decode (ab_bc mt_W_law) 935 = .ok (.iconst 2, 1) := by decide +kernel
theorem d_W_law_936 : decode (ab_bc mt_W_law) 936 = .ok (.iadd, 1) := by decide +kernel
theorem d_W_law_937 : decode (ab_bc mt_W_law) 937 = .ok (.iaload, 1) := by decide +kernel
theorem d_W_law_938 : decode (ab_bc mt_W_law) 938 = .ok (.invokevirtual 123, 3) := by decide +kernel
theorem d_W_law_941 : decode (ab_bc mt_W_law) 941 = .ok (.istore 6, 2) := by decide +kernel
theorem d_W_law_943 : decode (ab_bc mt_W_law) 943 = .ok (.aload_n 2, 1) := by decide +kernel
theorem d_W_law_944 : decode (ab_bc mt_W_law) 944 = .ok (.invokevirtual 84, 3) := by decide +kernel
theorem d_W_law_947 : decode (ab_bc mt_W_law) 947 = .ok (.iload 5, 2) := by decide +kernel
theorem d_W_law_949 : decode (ab_bc mt_W_law) 949 = .ok (.if_icmp .eq 5, 3) := by decide +kernel
theorem d_W_law_952 : decode (ab_bc mt_W_law) 952 = .ok (.iconst 0, 1) := by decide +kernel
theorem d_W_law_953 : decode (ab_bc mt_W_law) 953 = .ok (.ireturn, 1) := by decide +kernel
theorem d_W_law_954 : decode (ab_bc mt_W_law) 954 = .ok (.iload 5, 2) := by decide +kernel
theorem d_W_law_956 : decode (ab_bc mt_W_law) 956 = .ok (.ifCond .ne 15, 3) := by decide +kernel
theorem d_W_law_959 : decode (ab_bc mt_W_law) 959 = .ok (.aload_n 3, 1) := by decide +kernel
theorem d_W_law_960 : decode (ab_bc mt_W_law) 960 = .ok (.iconst 0, 1) := by decide +kernel
theorem d_W_law_961 : decode (ab_bc mt_W_law) 961 = .ok (.laload, 1) := by decide +kernel
theorem d_W_law_962 : decode (ab_bc mt_W_law) 962 = .ok (.iload 6, 2) := by decide +kernel
theorem d_W_law_964 : decode (ab_bc mt_W_law) 964 = .ok (.i2l, 1) := by decide +kernel
theorem d_W_law_965 : decode (ab_bc mt_W_law) 965 = .ok (.lcmp, 1) := by decide +kernel
theorem d_W_law_966 : decode (ab_bc mt_W_law) 966 = .ok (.ifCond .eq 5, 3) := by decide +kernel
theorem d_W_law_969 : decode (ab_bc mt_W_law) 969 = .ok (.iconst 0, 1) := by decide +kernel
theorem d_W_law_970 : decode (ab_bc mt_W_law) 970 = .ok (.ireturn, 1) := by decide +kernel
theorem d_W_law_971 : decode (ab_bc mt_W_law) 971 = .ok (.goto 687, 3) := by decide +kernel
theorem d_W_law_974 : decode (ab_bc mt_W_law) 974 = .ok (.aload_n 1, 1) := by decide +kernel
theorem d_W_law_975 : decode (ab_bc mt_W_law) 975 = .ok (.invokevirtual 124, 3) := by decide +kernel
theorem d_W_law_978 : decode (ab_bc mt_W_law) 978 = .ok (.aload_n 2, 1) := by decide +kernel
theorem d_W_law_979 : decode (ab_bc mt_W_law) 979 = .ok (.invokevirtual 128, 3) := by decide +kernel
theorem d_W_law_982 : decode (ab_bc mt_W_law) 982 = .ok (.lcmp, 1) := by decide +kernel
theorem d_W_law_983 : decode (ab_bc mt_W_law) 983 = .ok (.ifCond .eq 675, 3) := by decide +kernel
theorem d_W_law_986 : decode (ab_bc mt_W_law) 986 = .ok (.iconst 0, 1) := by decide +kernel
theorem d_W_law_987 : decode (ab_bc mt_W_law) 987 = .ok (.ireturn, 1) := by decide +kernel
theorem d_W_law_988 : decode (ab_bc mt_W_law) 988 = .ok (.aload_n 1, 1) := by decide +kernel
theorem d_W_law_989 : decode (ab_bc mt_W_law) 989 = .ok (.aload_n 0, 1) := by decide +kernel
theorem d_W_law_990 : decode (ab_bc mt_W_law) 990 = .ok (.iload 4, 2) := by decide +kernel
theorem d_W_law_992 : decode (ab_bc mt_W_law) 992 = .ok (.iconst 1, 1) := by decide +kernel
theorem d_W_law_993 : decode (ab_bc mt_W_law) 993 = .ok (.iadd, 1) := by decide +kernel
theorem d_W_law_994 : decode (ab_bc mt_W_law) 994 = .ok (.iaload, 1) := by decide +kernel
theorem d_W_law_995 : decode (ab_bc mt_W_law) 995 = .ok (.aload_n 3, 1) := by decide +kernel
theorem d_W_law_996 : decode (ab_bc mt_W_law) 996 = .ok (.invokestatic 129, 3) := by decide +kernel
theorem d_W_law_999 : decode (ab_bc mt_W_law) 999 = .ok (.istore 5, 2) := by decide +kernel
theorem d_W_law_1001 : decode (ab_bc mt_W_law) 1001 = .ok (.aload_n 2, 1) := by decide +kernel
theorem d_W_law_1002 : decode (ab_bc mt_W_law) 1002 = .ok (.aload_n 0, 1) := by decide +kernel
theorem d_W_law_1003 : decode (ab_bc mt_W_law) 1003 = .ok (.iload 4, 2) := by decide +kernel
theorem d_W_law_1005 : decode (ab_bc mt_W_law) 1005 = .ok (.iconst 1, 1) := by decide +kernel
theorem d_W_law_1006 : decode (ab_bc mt_W_law) 1006 = .ok (.iadd, 1) := by decide +kernel
theorem d_W_law_1007 : decode (ab_bc mt_W_law) 1007 = .ok (.iaload, 1) := by decide +kernel
theorem d_W_law_1008 : decode (ab_bc mt_W_law) 1008 = .ok (.invokevirtual 131, 3) := by decide +kernel
theorem d_W_law_1011 : decode (ab_bc mt_W_law) 1011 = .ok (.istore 6, 2) := by decide +kernel
theorem d_W_law_1013 : decode (ab_bc mt_W_law) 1013 = .ok (.aload_n 2, 1) := by decide +kernel
theorem d_W_law_1014 : decode (ab_bc mt_W_law) 1014 = .ok (.invokevirtual 84, 3) := by decide +kernel
theorem d_W_law_1017 : decode (ab_bc mt_W_law) 1017 = .ok (.iload 5, 2) := by decide +kernel
theorem d_W_law_1019 : decode (ab_bc mt_W_law) 1019 = .ok (.if_icmp .eq 5, 3) := by decide +kernel
theorem d_W_law_1022 : decode (ab_bc mt_W_law) 1022 = .ok (.iconst 0, 1) := by decide +kernel
theorem d_W_law_1023 : decode (ab_bc mt_W_law) 1023 = .ok (.ireturn, 1) := by decide +kernel
theorem d_W_law_1024 : decode (ab_bc mt_W_law) 1024 = .ok (.iload 5, 2) := by decide +kernel
theorem d_W_law_1026 : decode (ab_bc mt_W_law) 1026 = .ok (.ifCond .ne 15, 3) := by decide +kernel
theorem d_W_law_1029 : decode (ab_bc mt_W_law) 1029 = .ok (.aload_n 3, 1) := by decide +kernel
theorem d_W_law_1030 : decode (ab_bc mt_W_law) 1030 = .ok (.iconst 0, 1) := by decide +kernel
theorem d_W_law_1031 : decode (ab_bc mt_W_law) 1031 = .ok (.laload, 1) := by decide +kernel
theorem d_W_law_1032 : decode (ab_bc mt_W_law) 1032 = .ok (.iload 6, 2) := by decide +kernel
theorem d_W_law_1034 : decode (ab_bc mt_W_law) 1034 = .ok (.i2l, 1) := by decide +kernel
theorem d_W_law_1035 : decode (ab_bc mt_W_law) 1035 = .ok (.lcmp, 1) := by decide +kernel
theorem d_W_law_1036 : decode (ab_bc mt_W_law) 1036 = .ok (.ifCond .eq 5, 3) := by decide +kernel
theorem d_W_law_1039 : decode (ab_bc mt_W_law) 1039 = .ok (.iconst 0, 1) := by decide +kernel
theorem d_W_law_1040 : decode (ab_bc mt_W_law) 1040 = .ok (.ireturn, 1) := by decide +kernel
theorem d_W_law_1041 : decode (ab_bc mt_W_law) 1041 = .ok (.goto 617, 3) := by decide +kernel
theorem d_W_law_1044 : decode (ab_bc mt_W_law) 1044 = .ok (.aload_n 1, 1) := by decide +kernel
theorem d_W_law_1045 : decode (ab_bc mt_W_law) 1045 = .ok (.aload_n 0, 1) := by decide +kernel
theorem d_W_law_1046 : decode (ab_bc mt_W_law) 1046 = .ok (.iload 4, 2) := by decide +kernel
theorem d_W_law_1048 : decode (ab_bc mt_W_law) 1048 = .ok (.iconst 1, 1) := by decide +kernel
theorem d_W_law_1049 : decode (ab_bc mt_W_law) 1049 = .ok (.iadd, 1) := by decide +kernel
theorem d_W_law_1050 : decode (ab_bc mt_W_law) 1050 = .ok (.iaload, 1) := by decide +kernel
theorem d_W_law_1051 : decode (ab_bc mt_W_law) 1051 = .ok (.aload_n 3, 1) := by decide +kernel
theorem d_W_law_1052 : decode (ab_bc mt_W_law) 1052 = .ok (.invokestatic 132, 3) := by decide +kernel
theorem d_W_law_1055 : decode (ab_bc mt_W_law) 1055 = .ok (.istore 5, 2) := by decide +kernel
theorem d_W_law_1057 : decode (ab_bc mt_W_law) 1057 = .ok (.aload_n 2, 1) := by decide +kernel
theorem d_W_law_1058 : decode (ab_bc mt_W_law) 1058 = .ok (.aload_n 0, 1) := by decide +kernel
theorem d_W_law_1059 : decode (ab_bc mt_W_law) 1059 = .ok (.iload 4, 2) := by decide +kernel
theorem d_W_law_1061 : decode (ab_bc mt_W_law) 1061 = .ok (.iconst 1, 1) := by decide +kernel
theorem d_W_law_1062 : decode (ab_bc mt_W_law) 1062 = .ok (.iadd, 1) := by decide +kernel
theorem d_W_law_1063 : decode (ab_bc mt_W_law) 1063 = .ok (.iaload, 1) := by decide +kernel
theorem d_W_law_1064 : decode (ab_bc mt_W_law) 1064 = .ok (.invokevirtual 134, 3) := by decide +kernel
theorem d_W_law_1067 : decode (ab_bc mt_W_law) 1067 = .ok (.istore 6, 2) := by decide +kernel
theorem d_W_law_1069 : decode (ab_bc mt_W_law) 1069 = .ok (.aload_n 2, 1) := by decide +kernel
theorem d_W_law_1070 : decode (ab_bc mt_W_law) 1070 = .ok (.invokevirtual 84, 3) := by decide +kernel
theorem d_W_law_1073 : decode (ab_bc mt_W_law) 1073 = .ok (.iload 5, 2) := by decide +kernel
theorem d_W_law_1075 : decode (ab_bc mt_W_law) 1075 = .ok (.if_icmp .eq 5, 3) := by decide +kernel
theorem d_W_law_1078 : decode (ab_bc mt_W_law) 1078 = .ok (.iconst 0, 1) := by decide +kernel
theorem d_W_law_1079 : decode (ab_bc mt_W_law) 1079 = .ok (.ireturn, 1) := by decide +kernel
theorem d_W_law_1080 : decode (ab_bc mt_W_law) 1080 = .ok (.iload 5, 2) := by decide +kernel
theorem d_W_law_1082 : decode (ab_bc mt_W_law) 1082 = .ok (.ifCond .ne 15, 3) := by decide +kernel
theorem d_W_law_1085 : decode (ab_bc mt_W_law) 1085 = .ok (.aload_n 3, 1) := by decide +kernel
theorem d_W_law_1086 : decode (ab_bc mt_W_law) 1086 = .ok (.iconst 0, 1) := by decide +kernel
theorem d_W_law_1087 : decode (ab_bc mt_W_law) 1087 = .ok (.laload, 1) := by decide +kernel
theorem d_W_law_1088 : decode (ab_bc mt_W_law) 1088 = .ok (.iload 6, 2) := by decide +kernel
theorem d_W_law_1090 : decode (ab_bc mt_W_law) 1090 = .ok (.i2l, 1) := by decide +kernel
theorem d_W_law_1091 : decode (ab_bc mt_W_law) 1091 = .ok (.lcmp, 1) := by decide +kernel
theorem d_W_law_1092 : decode (ab_bc mt_W_law) 1092 = .ok (.ifCond .eq 5, 3) := by decide +kernel
theorem d_W_law_1095 : decode (ab_bc mt_W_law) 1095 = .ok (.iconst 0, 1) := by decide +kernel
theorem d_W_law_1096 : decode (ab_bc mt_W_law) 1096 = .ok (.ireturn, 1) := by decide +kernel
theorem d_W_law_1097 : decode (ab_bc mt_W_law) 1097 = .ok (.goto 561, 3) := by decide +kernel
theorem d_W_law_1100 : decode (ab_bc mt_W_law) 1100 = .ok (.aload_n 1, 1) := by decide +kernel
theorem d_W_law_1101 : decode (ab_bc mt_W_law) 1101 = .ok (.aload_n 0, 1) := by decide +kernel
theorem d_W_law_1102 : decode (ab_bc mt_W_law) 1102 = .ok (.iload 4, 2) := by decide +kernel
theorem d_W_law_1104 : decode (ab_bc mt_W_law) 1104 = .ok (.iconst 1, 1) := by decide +kernel
theorem d_W_law_1105 : decode (ab_bc mt_W_law) 1105 = .ok (.iadd, 1) := by decide +kernel
theorem d_W_law_1106 : decode (ab_bc mt_W_law) 1106 = .ok (.iaload, 1) := by decide +kernel
theorem d_W_law_1107 : decode (ab_bc mt_W_law) 1107 = .ok (.aload_n 0, 1) := by decide +kernel
theorem d_W_law_1108 : decode (ab_bc mt_W_law) 1108 = .ok (.iload 4, 2) := by decide +kernel
theorem d_W_law_1110 : decode (ab_bc mt_W_law) 1110 = .ok (.iconst 2, 1) := by decide +kernel
theorem d_W_law_1111 : decode (ab_bc mt_W_law) 1111 = .ok (.iadd, 1) := by decide +kernel
theorem d_W_law_1112 : decode (ab_bc mt_W_law) 1112 = .ok (.iaload, 1) := by decide +kernel
theorem d_W_law_1113 : decode (ab_bc mt_W_law) 1113 = .ok (.aload_n 3, 1) := by decide +kernel
theorem d_W_law_1114 : decode (ab_bc mt_W_law) 1114 = .ok (.invokestatic 135, 3) := by decide +kernel
theorem d_W_law_1117 : decode (ab_bc mt_W_law) 1117 = .ok (.istore 5, 2) := by decide +kernel
theorem d_W_law_1119 : decode (ab_bc mt_W_law) 1119 = .ok (.aload_n 2, 1) := by decide +kernel
theorem d_W_law_1120 : decode (ab_bc mt_W_law) 1120 = .ok (.aload_n 0, 1) := by decide +kernel
theorem d_W_law_1121 : decode (ab_bc mt_W_law) 1121 = .ok (.iload 4, 2) := by decide +kernel
theorem d_W_law_1123 : decode (ab_bc mt_W_law) 1123 = .ok (.iconst 1, 1) := by decide +kernel
theorem d_W_law_1124 : decode (ab_bc mt_W_law) 1124 = .ok (.iadd, 1) := by decide +kernel
theorem d_W_law_1125 : decode (ab_bc mt_W_law) 1125 = .ok (.iaload, 1) := by decide +kernel
theorem d_W_law_1126 : decode (ab_bc mt_W_law) 1126 = .ok (.aload_n 0, 1) := by decide +kernel
theorem d_W_law_1127 : decode (ab_bc mt_W_law) 1127 = .ok (.iload 4, 2) := by decide +kernel
theorem d_W_law_1129 : decode (ab_bc mt_W_law) 1129 = .ok (.iconst 2, 1) := by decide +kernel
theorem d_W_law_1130 : decode (ab_bc mt_W_law) 1130 = .ok (.iadd, 1) := by decide +kernel
theorem d_W_law_1131 : decode (ab_bc mt_W_law) 1131 = .ok (.iaload, 1) := by decide +kernel
theorem d_W_law_1132 : decode (ab_bc mt_W_law) 1132 = .ok (.invokevirtual 137, 3) := by decide +kernel
theorem d_W_law_1135 : decode (ab_bc mt_W_law) 1135 = .ok (.istore 6, 2) := by decide +kernel
theorem d_W_law_1137 : decode (ab_bc mt_W_law) 1137 = .ok (.aload_n 2, 1) := by decide +kernel
theorem d_W_law_1138 : decode (ab_bc mt_W_law) 1138 = .ok (.invokevirtual 84, 3) := by decide +kernel
theorem d_W_law_1141 : decode (ab_bc mt_W_law) 1141 = .ok (.iload 5, 2) := by decide +kernel
theorem d_W_law_1143 : decode (ab_bc mt_W_law) 1143 = .ok (.if_icmp .eq 5, 3) := by decide +kernel
theorem d_W_law_1146 : decode (ab_bc mt_W_law) 1146 = .ok (.iconst 0, 1) := by decide +kernel
theorem d_W_law_1147 : decode (ab_bc mt_W_law) 1147 = .ok (.ireturn, 1) := by decide +kernel
theorem d_W_law_1148 : decode (ab_bc mt_W_law) 1148 = .ok (.iload 5, 2) := by decide +kernel
theorem d_W_law_1150 : decode (ab_bc mt_W_law) 1150 = .ok (.ifCond .ne 15, 3) := by decide +kernel
theorem d_W_law_1153 : decode (ab_bc mt_W_law) 1153 = .ok (.aload_n 3, 1) := by decide +kernel
theorem d_W_law_1154 : decode (ab_bc mt_W_law) 1154 = .ok (.iconst 0, 1) := by decide +kernel
theorem d_W_law_1155 : decode (ab_bc mt_W_law) 1155 = .ok (.laload, 1) := by decide +kernel
theorem d_W_law_1156 : decode (ab_bc mt_W_law) 1156 = .ok (.iload 6, 2) := by decide +kernel
theorem d_W_law_1158 : decode (ab_bc mt_W_law) 1158 = .ok (.i2l, 1) := by decide +kernel
theorem d_W_law_1159 : decode (ab_bc mt_W_law) 1159 = .ok (.lcmp, 1) := by decide +kernel
