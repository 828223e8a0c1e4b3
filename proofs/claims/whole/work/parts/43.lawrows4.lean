/-! the law: what its instructions are -/
theorem dd_L_law_909 : decode Y_L_law.2.1 909 = .ok (.iload 4, 2) := by decide +kernel
theorem dd_L_law_911 : decode Y_L_law.2.1 911 = .ok (.iconst 3, 1) := by decide +kernel
theorem dd_L_law_912 : decode Y_L_law.2.1 912 = .ok (.iadd, 1) := by decide +kernel
theorem dd_L_law_913 : decode Y_L_law.2.1 913 = .ok (.iaload, 1) := by decide +kernel
theorem dd_L_law_914 : decode Y_L_law.2.1 914 = .ok (.aload_n 3, 1) := by decide +kernel
theorem dd_L_law_915 : decode Y_L_law.2.1 915 = .ok (.invokestatic 158, 3) := by decide +kernel
theorem dd_L_law_918 : decode Y_L_law.2.1 918 = .ok (.istore 5, 2) := by decide +kernel
theorem dd_L_law_920 : decode Y_L_law.2.1 920 = .ok (.aload_n 2, 1) := by decide +kernel
theorem dd_L_law_921 : decode Y_L_law.2.1 921 = .ok (.aload_n 0, 1) := by decide +kernel
theorem dd_L_law_922 : decode Y_L_law.2.1 922 = .ok (.iload 4, 2) := by decide +kernel
theorem dd_L_law_924 : decode Y_L_law.2.1 924 = .ok (.iconst 1, 1) := by decide +kernel
theorem dd_L_law_925 : decode Y_L_law.2.1 925 = .ok (.iadd, 1) := by decide +kernel
theorem dd_L_law_926 : decode Y_L_law.2.1 926 = .ok (.iaload, 1) := by decide +kernel
theorem dd_L_law_927 : decode Y_L_law.2.1 927 = .ok (.aload_n 0, 1) := by decide +kernel
theorem dd_L_law_928 : decode Y_L_law.2.1 928 = .ok (.iload 4, 2) := by decide +kernel
theorem dd_L_law_930 : decode Y_L_law.2.1 930 = .ok (.iconst 2, 1) := by decide +kernel
theorem dd_L_law_931 : decode Y_L_law.2.1 931 = .ok (.iadd, 1) := by decide +kernel
theorem dd_L_law_932 : decode Y_L_law.2.1 932 = .ok (.iaload, 1) := by decide +kernel
theorem dd_L_law_933 : decode Y_L_law.2.1 933 = .ok (.aload_n 0, 1) := by decide +kernel
theorem dd_L_law_934 : decode Y_L_law.2.1 934 = .ok (.iload 4, 2) := by decide +kernel
theorem dd_L_law_936 : decode Y_L_law.2.1 936 = .ok (.iconst 3, 1) := by decide +kernel
theorem dd_L_law_937 : decode Y_L_law.2.1 937 = .ok (.iadd, 1) := by decide +kernel
theorem dd_L_law_938 : decode Y_L_law.2.1 938 = .ok (.iaload, 1) := by decide +kernel
theorem dd_L_law_939 : decode Y_L_law.2.1 939 = .ok (.invokevirtual 161, 3) := by decide +kernel
theorem dd_L_law_942 : decode Y_L_law.2.1 942 = .ok (.istore 6, 2) := by decide +kernel
theorem dd_L_law_944 : decode Y_L_law.2.1 944 = .ok (.aload_n 2, 1) := by decide +kernel
theorem dd_L_law_945 : decode Y_L_law.2.1 945 = .ok (.invokevirtual 117, 3) := by decide +kernel
theorem dd_L_law_948 : decode Y_L_law.2.1 948 = .ok (.iload 5, 2) := by decide +kernel
theorem dd_L_law_950 : decode Y_L_law.2.1 950 = .ok (.if_icmp .eq 5, 3) := by decide +kernel
theorem dd_L_law_953 : decode Y_L_law.2.1 953 = .ok (.iconst 0, 1) := by decide +kernel
theorem dd_L_law_954 : decode Y_L_law.2.1 954 = .ok (.ireturn, 1) := by decide +kernel
theorem dd_L_law_955 : decode Y_L_law.2.1 955 = .ok (.iload 5, 2) := by decide +kernel
theorem dd_L_law_957 : decode Y_L_law.2.1 957 = .ok (.ifCond .ne 22, 3) := by decide +kernel
theorem dd_L_law_960 : decode Y_L_law.2.1 960 = .ok (.aload_n 3, 1) := by decide +kernel
theorem dd_L_law_961 : decode Y_L_law.2.1 961 = .ok (.iconst 0, 1) := by decide +kernel
theorem dd_L_law_962 : decode Y_L_law.2.1 962 = .ok (.laload, 1) := by decide +kernel
theorem dd_L_law_963 : decode Y_L_law.2.1 963 = .ok (.iload 6, 2) := by decide +kernel
theorem dd_L_law_965 : decode Y_L_law.2.1 965 = .ok (.ifCond .eq 7, 3) := by decide +kernel
theorem dd_L_law_968 : decode Y_L_law.2.1 968 = .ok (.lconst 1, 1) := by decide +kernel
theorem dd_L_law_969 : decode Y_L_law.2.1 969 = .ok (.goto 4, 3) := by decide +kernel
theorem dd_L_law_972 : decode Y_L_law.2.1 972 = .ok (.lconst 0, 1) := by decide +kernel
theorem dd_L_law_973 : decode Y_L_law.2.1 973 = .ok (.lcmp, 1) := by decide +kernel
theorem dd_L_law_974 : decode Y_L_law.2.1 974 = .ok (.ifCond .eq 5, 3) := by decide +kernel
theorem dd_L_law_977 : decode Y_L_law.2.1 977 = .ok (.iconst 0, 1) := by decide +kernel
theorem dd_L_law_978 : decode Y_L_law.2.1 978 = .ok (.ireturn, 1) := by decide +kernel
theorem dd_L_law_979 : decode Y_L_law.2.1 979 = .ok (.goto 1282, 3) := by decide +kernel
theorem dd_L_law_982 : decode Y_L_law.2.1 982 = .ok (.aload_n 1, 1) := by decide +kernel
theorem dd_L_law_983 : decode Y_L_law.2.1 983 = .ok (.aload_n 0, 1) := by decide +kernel
theorem dd_L_law_984 : decode Y_L_law.2.1 984 = .ok (.iload 4, 2) := by decide +kernel
theorem dd_L_law_986 : decode Y_L_law.2.1 986 = .ok (.iconst 1, 1) := by decide +kernel
theorem dd_L_law_987 : decode Y_L_law.2.1 987 = .ok (.iadd, 1) := by decide +kernel
theorem dd_L_law_988 : decode Y_L_law.2.1 988 = .ok (.iaload, 1) := by decide +kernel
theorem dd_L_law_989 : decode Y_L_law.2.1 989 = .ok (.aload_n 3, 1) := by decide +kernel
theorem dd_L_law_990 : decode Y_L_law.2.1 990 = .ok (.invokestatic 162, 3) := by decide +kernel
theorem dd_L_law_993 : decode Y_L_law.2.1 993 = .ok (.istore 5, 2) := by decide +kernel
theorem dd_L_law_995 : decode Y_L_law.2.1 995 = .ok (.aload_n 2, 1) := by decide +kernel
theorem dd_L_law_996 : decode Y_L_law.2.1 996 = .ok (.aload_n 0, 1) := by decide +kernel
theorem dd_L_law_997 : decode Y_L_law.2.1 997 = .ok (.iload 4, 2) := by decide +kernel
theorem dd_L_law_999 : decode Y_L_law.2.1 999 = .ok (.iconst 1, 1) := by decide +kernel
theorem dd_L_law_1000 : decode Y_L_law.2.1 1000 = .ok (.iadd, 1) := by decide +kernel
theorem dd_L_law_1001 : decode Y_L_law.2.1 1001 = .ok (.iaload, 1) := by decide +kernel
theorem dd_L_law_1002 : decode Y_L_law.2.1 1002 = .ok (.invokevirtual 164, 3) := by decide +kernel
theorem dd_L_law_1005 : decode Y_L_law.2.1 1005 = .ok (.istore 6, 2) := by decide +kernel
theorem dd_L_law_1007 : decode Y_L_law.2.1 1007 = .ok (.aload_n 2, 1) := by decide +kernel
theorem dd_L_law_1008 : decode Y_L_law.2.1 1008 = .ok (.invokevirtual 117, 3) := by decide +kernel
theorem dd_L_law_1011 : decode Y_L_law.2.1 1011 = .ok (.iload 5, 2) := by decide +kernel
theorem dd_L_law_1013 : decode Y_L_law.2.1 1013 = .ok (.if_icmp .eq 5, 3) := by decide +kernel
theorem dd_L_law_1016 : decode Y_L_law.2.1 1016 = .ok (.iconst 0, 1) := by decide +kernel
theorem dd_L_law_1017 : decode Y_L_law.2.1 1017 = .ok (.ireturn, 1) := by decide +kernel
theorem dd_L_law_1018 : decode Y_L_law.2.1 1018 = .ok (.iload 5, 2) := by decide +kernel
theorem dd_L_law_1020 : decode Y_L_law.2.1 1020 = .ok (.ifCond .ne 15, 3) := by decide +kernel
theorem dd_L_law_1023 : decode Y_L_law.2.1 1023 = .ok (.aload_n 3, 1) := by decide +kernel
theorem dd_L_law_1024 : decode Y_L_law.2.1 1024 = .ok (.iconst 0, 1) := by decide +kernel
theorem dd_L_law_1025 : decode Y_L_law.2.1 1025 = .ok (.laload, 1) := by decide +kernel
theorem dd_L_law_1026 : decode Y_L_law.2.1 1026 = .ok (.iload 6, 2) := by decide +kernel
theorem dd_L_law_1028 : decode Y_L_law.2.1 1028 = .ok (.i2l, 1) := by decide +kernel
theorem dd_L_law_1029 : decode Y_L_law.2.1 1029 = .ok (.lcmp, 1) := by decide +kernel
theorem dd_L_law_1030 : decode Y_L_law.2.1 1030 = .ok (.ifCond .eq 5, 3) := by decide +kernel
theorem dd_L_law_1033 : decode Y_L_law.2.1 1033 = .ok (.iconst 0, 1) := by decide +kernel
theorem dd_L_law_1034 : decode Y_L_law.2.1 1034 = .ok (.ireturn, 1) := by decide +kernel
theorem dd_L_law_1035 : decode Y_L_law.2.1 1035 = .ok (.goto 1226, 3) := by decide +kernel
theorem dd_L_law_1038 : decode Y_L_law.2.1 1038 = .ok (.aload_n 1, 1) := by decide +kernel
theorem dd_L_law_1039 : decode Y_L_law.2.1 1039 = .ok (.aload_n 0, 1) := by decide +kernel
theorem dd_L_law_1040 : decode Y_L_law.2.1 1040 = .ok (.iload 4, 2) := by decide +kernel
theorem dd_L_law_1042 : decode Y_L_law.2.1 1042 = .ok (.iconst 1, 1) := by decide +kernel
theorem dd_L_law_1043 : decode Y_L_law.2.1 1043 = .ok (.iadd, 1) := by decide +kernel
theorem dd_L_law_1044 : decode Y_L_law.2.1 1044 = .ok (.iaload, 1) := by decide +kernel
theorem dd_L_law_1045 : decode Y_L_law.2.1 1045 = .ok (.aload_n 3, 1) := by decide +kernel
theorem dd_L_law_1046 : decode Y_L_law.2.1 1046 = .ok (.invokestatic 165, 3) := by decide +kernel
theorem dd_L_law_1049 : decode Y_L_law.2.1 1049 = .ok (.istore 5, 2) := by decide +kernel
theorem dd_L_law_1051 : decode Y_L_law.2.1 1051 = .ok (.aload_n 2, 1) := by decide +kernel
theorem dd_L_law_1052 : decode Y_L_law.2.1 1052 = .ok (.aload_n 0, 1) := by decide +kernel
theorem dd_L_law_1053 : decode Y_L_law.2.1 1053 = .ok (.iload 4, 2) := by decide +kernel
theorem dd_L_law_1055 : decode Y_L_law.2.1 1055 = .ok (.iconst 1, 1) := by decide +kernel
theorem dd_L_law_1056 : decode Y_L_law.2.1 1056 = .ok (.iadd, 1) := by decide +kernel
theorem dd_L_law_1057 : decode Y_L_law.2.1 1057 = .ok (.iaload, 1) := by decide +kernel
theorem dd_L_law_1058 : decode Y_L_law.2.1 1058 = .ok (.invokevirtual 167, 3) := by decide +kernel
theorem dd_L_law_1061 : decode Y_L_law.2.1 1061 = .ok (.istore 6, 2) := by decide +kernel
theorem dd_L_law_1063 : decode Y_L_law.2.1 1063 = .ok (.aload_n 2, 1) := by decide +kernel
theorem dd_L_law_1064 : decode Y_L_law.2.1 1064 = .ok (.invokevirtual 117, 3) := by decide +kernel
theorem dd_L_law_1067 : decode Y_L_law.2.1 1067 = .ok (.iload 5, 2) := by decide +kernel
theorem dd_L_law_1069 : decode Y_L_law.2.1 1069 = .ok (.if_icmp .eq 5, 3) := by decide +kernel
theorem dd_L_law_1072 : decode Y_L_law.2.1 1072 = .ok (.iconst 0, 1) := by decide +kernel
theorem dd_L_law_1073 : decode Y_L_law.2.1 1073 = .ok (.ireturn, 1) := by decide +kernel
theorem dd_L_law_1074 : decode Y_L_law.2.1 1074 = .ok (.iload 5, 2) := by decide +kernel
theorem dd_L_law_1076 : decode Y_L_law.2.1 1076 = .ok (.ifCond .ne 15, 3) := by decide +kernel
theorem dd_L_law_1079 : decode Y_L_law.2.1 1079 = .ok (.aload_n 3, 1) := by decide +kernel
theorem dd_L_law_1080 : decode Y_L_law.2.1 1080 = .ok (.iconst 0, 1) := by decide +kernel
theorem dd_L_law_1081 : decode Y_L_law.2.1 1081 = .ok (.laload, 1) := by decide +kernel
theorem dd_L_law_1082 : decode Y_L_law.2.1 1082 = .ok (.iload 6, 2) := by decide +kernel
theorem dd_L_law_1084 : decode Y_L_law.2.1 1084 = .ok (.i2l, 1) := by decide +kernel
theorem dd_L_law_1085 : decode Y_L_law.2.1 1085 = .ok (.lcmp, 1) := by decide +kernel
theorem dd_L_law_1086 : decode Y_L_law.2.1 1086 = .ok (.ifCond .eq 5, 3) := by decide +kernel
theorem dd_L_law_1089 : decode Y_L_law.2.1 1089 = .ok (.iconst 0, 1) := by decide +kernel
theorem dd_L_law_1090 : decode Y_L_law.2.1 1090 = .ok (.ireturn, 1) := by decide +kernel
theorem dd_L_law_1091 : decode Y_L_law.2.1 1091 = .ok (.goto 1170, 3) := by decide +kernel
theorem dd_L_law_1094 : decode Y_L_law.2.1 1094 = .ok (.aload_n 1, 1) := by decide +kernel
theorem dd_L_law_1095 : decode Y_L_law.2.1 1095 = .ok (.invokevirtual 168, 3) := by decide +kernel
theorem dd_L_law_1098 : decode Y_L_law.2.1 1098 = .ok (.aload_n 2, 1) := by decide +kernel
theorem dd_L_law_1099 : decode Y_L_law.2.1 1099 = .ok (.invokevirtual 171, 3) := by decide +kernel
