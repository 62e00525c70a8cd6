def LL_law_6 : List (Nat × Instr × Nat) := [(978, .pop, 1), (979, .aload_n 2, 1), (980, .aload_n 0, 1), (981, .iload_n 3, 1), (982, .iconst 1, 1), (983, .iadd, 1), (984, .iaload, 1), (985, .aload_n 0, 1), (986, .iload_n 3, 1), (987, .iconst 2, 1), (988, .iadd, 1), (989, .iaload, 1), (990, .aload_n 0, 1), (991, .iload_n 3, 1), (992, .iconst 3, 1), (993, .iadd, 1), (994, .iaload, 1), (995, .invokevirtual 84, 3), (998, .pop, 1), (999, .goto 1746, 3), (1002, .aload_n 1, 1), (1003, .aload_n 0, 1), (1004, .iload_n 3, 1), (1005, .iconst 1, 1), (1006, .iadd, 1), (1007, .iaload, 1), (1008, .aload_n 0, 1), (1009, .iload_n 3, 1), (1010, .iconst 2, 1), (1011, .iadd, 1), (1012, .iaload, 1), (1013, .invokevirtual 85, 3), (1016, .pop, 1), (1017, .aload_n 2, 1), (1018, .aload_n 0, 1), (1019, .iload_n 3, 1), (1020, .iconst 1, 1), (1021, .iadd, 1), (1022, .iaload, 1), (1023, .aload_n 0, 1), (1024, .iload_n 3, 1), (1025, .iconst 2, 1), (1026, .iadd, 1), (1027, .iaload, 1), (1028, .invokevirtual 88, 3), (1031, .pop, 1), (1032, .goto 1713, 3), (1035, .aload_n 1, 1), (1036, .aload_n 0, 1), (1037, .iload_n 3, 1), (1038, .iconst 1, 1), (1039, .iadd, 1), (1040, .iaload, 1), (1041, .aload_n 0, 1), (1042, .iload_n 3, 1), (1043, .iconst 2, 1), (1044, .iadd, 1), (1045, .iaload, 1), (1046, .aload_n 0, 1), (1047, .iload_n 3, 1), (1048, .iconst 3, 1), (1049, .iadd, 1), (1050, .iaload, 1), (1051, .aload_n 0, 1), (1052, .iload_n 3, 1), (1053, .iconst 4, 1), (1054, .iadd, 1), (1055, .iaload, 1), (1056, .aload_n 0, 1), (1057, .iload_n 3, 1), (1058, .iconst 5, 1), (1059, .iadd, 1), (1060, .iaload, 1), (1061, .aload_n 0, 1), (1062, .iload_n 3, 1), (1063, .bipush 6, 2), (1065, .iadd, 1), (1066, .iaload, 1), (1067, .aload_n 0, 1), (1068, .iload_n 3, 1), (1069, .bipush 7, 2), (1071, .iadd, 1), (1072, .iaload, 1), (1073, .invokevirtual 89, 3), (1076, .pop, 1), (1077, .aload_n 2, 1), (1078, .aload_n 0, 1), (1079, .iload_n 3, 1), (1080, .iconst 1, 1), (1081, .iadd, 1), (1082, .iaload, 1), (1083, .aload_n 0, 1), (1084, .iload_n 3, 1), (1085, .iconst 2, 1), (1086, .iadd, 1), (1087, .iaload, 1), (1088, .aload_n 0, 1), (1089, .iload_n 3, 1), (1090, .iconst 3, 1), (1091, .iadd, 1)]
theorem kL_law_6 : chkB code LL_law_6 = true := by decide +kernel
theorem dL_law_978 : decode code 978 = .ok (.pop, 1) := getB' kL_law_6 0 rfl
theorem dL_law_979 : decode code 979 = .ok (.aload_n 2, 1) := getB' kL_law_6 1 rfl
theorem dL_law_980 : decode code 980 = .ok (.aload_n 0, 1) := getB' kL_law_6 2 rfl
theorem dL_law_981 : decode code 981 = .ok (.iload_n 3, 1) := getB' kL_law_6 3 rfl
theorem dL_law_982 : decode code 982 = .ok (.iconst 1, 1) := getB' kL_law_6 4 rfl
theorem dL_law_983 : decode code 983 = .ok (.iadd, 1) := getB' kL_law_6 5 rfl
theorem dL_law_984 : decode code 984 = .ok (.iaload, 1) := getB' kL_law_6 6 rfl
theorem dL_law_985 : decode code 985 = .ok (.aload_n 0, 1) := getB' kL_law_6 7 rfl
theorem dL_law_986 : decode code 986 = .ok (.iload_n 3, 1) := getB' kL_law_6 8 rfl
theorem dL_law_987 : decode code 987 = .ok (.iconst 2, 1) := getB' kL_law_6 9 rfl
theorem dL_law_988 : decode code 988 = .ok (.iadd, 1) := getB' kL_law_6 10 rfl
theorem dL_law_989 : decode code 989 = .ok (.iaload, 1) := getB' kL_law_6 11 rfl
theorem dL_law_990 : decode code 990 = .ok (.aload_n 0, 1) := getB' kL_law_6 12 rfl
theorem dL_law_991 : decode code 991 = .ok (.iload_n 3, 1) := getB' kL_law_6 13 rfl
theorem dL_law_992 : decode code 992 = .ok (.iconst 3, 1) := getB' kL_law_6 14 rfl
theorem dL_law_993 : decode code 993 = .ok (.iadd, 1) := getB' kL_law_6 15 rfl
theorem dL_law_994 : decode code 994 = .ok (.iaload, 1) := getB' kL_law_6 16 rfl
theorem dL_law_995 : decode code 995 = .ok (.invokevirtual 84, 3) := getB' kL_law_6 17 rfl
theorem dL_law_998 : decode code 998 = .ok (.pop, 1) := getB' kL_law_6 18 rfl
theorem dL_law_999 : decode code 999 = .ok (.goto 1746, 3) := getB' kL_law_6 19 rfl
theorem dL_law_1002 : decode code 1002 = .ok (.aload_n 1, 1) := getB' kL_law_6 20 rfl
theorem dL_law_1003 : decode code 1003 = .ok (.aload_n 0, 1) := getB' kL_law_6 21 rfl
theorem dL_law_1004 : decode code 1004 = .ok (.iload_n 3, 1) := getB' kL_law_6 22 rfl
theorem dL_law_1005 : decode code 1005 = .ok (.iconst 1, 1) := getB' kL_law_6 23 rfl
theorem dL_law_1006 : decode code 1006 = .ok (.iadd, 1) := getB' kL_law_6 24 rfl
theorem dL_law_1007 : decode code 1007 = .ok (.iaload, 1) := getB' kL_law_6 25 rfl
theorem dL_law_1008 : decode code 1008 = .ok (.aload_n 0, 1) := getB' kL_law_6 26 rfl
theorem dL_law_1009 : decode code 1009 = .ok (.iload_n 3, 1) := getB' kL_law_6 27 rfl
theorem dL_law_1010 : decode code 1010 = .ok (.iconst 2, 1) := getB' kL_law_6 28 rfl
theorem dL_law_1011 : decode code 1011 = .ok (.iadd, 1) := getB' kL_law_6 29 rfl
theorem dL_law_1012 : decode code 1012 = .ok (.iaload, 1) := getB' kL_law_6 30 rfl
theorem dL_law_1013 : decode code 1013 = .ok (.invokevirtual 85, 3) := getB' kL_law_6 31 rfl
theorem dL_law_1016 : decode code 1016 = .ok (.pop, 1) := getB' kL_law_6 32 rfl
theorem dL_law_1017 : decode code 1017 = .ok (.aload_n 2, 1) := getB' kL_law_6 33 rfl
theorem dL_law_1018 : decode code 1018 = .ok (.aload_n 0, 1) := getB' kL_law_6 34 rfl
theorem dL_law_1019 : decode code 1019 = .ok (.iload_n 3, 1) := getB' kL_law_6 35 rfl
theorem dL_law_1020 : decode code 1020 = .ok (.iconst 1, 1) := getB' kL_law_6 36 rfl
theorem dL_law_1021 : decode code 1021 = .ok (.iadd, 1) := getB' kL_law_6 37 rfl
theorem dL_law_1022 : decode code 1022 = .ok (.iaload, 1) := getB' kL_law_6 38 rfl
theorem dL_law_1023 : decode code 1023 = .ok (.aload_n 0, 1) := getB' kL_law_6 39 rfl
theorem dL_law_1024 : decode code 1024 = .ok (.iload_n 3, 1) := getB' kL_law_6 40 rfl
theorem dL_law_1025 : decode code 1025 = .ok (.iconst 2, 1) := getB' kL_law_6 41 rfl
theorem dL_law_1026 : decode code 1026 = .ok (.iadd, 1) := getB' kL_law_6 42 rfl
theorem dL_law_1027 : decode code 1027 = .ok (.iaload, 1) := getB' kL_law_6 43 rfl
theorem dL_law_1028 : decode code 1028 = .ok (.invokevirtual 88, 3) := getB' kL_law_6 44 rfl
theorem dL_law_1031 : decode code 1031 = .ok (.pop, 1) := getB' kL_law_6 45 rfl
theorem dL_law_1032 : decode code 1032 = .ok (.goto 1713, 3) := getB' kL_law_6 46 rfl
theorem dL_law_1035 : decode code 1035 = .ok (.aload_n 1, 1) := getB' kL_law_6 47 rfl
theorem dL_law_1036 : decode code 1036 = .ok (.aload_n 0, 1) := getB' kL_law_6 48 rfl
theorem dL_law_1037 : decode code 1037 = .ok (.iload_n 3, 1) := getB' kL_law_6 49 rfl
theorem dL_law_1038 : decode code 1038 = .ok (.iconst 1, 1) := getB' kL_law_6 50 rfl
theorem dL_law_1039 : decode code 1039 = .ok (.iadd, 1) := getB' kL_law_6 51 rfl
theorem dL_law_1040 : decode code 1040 = .ok (.iaload, 1) := getB' kL_law_6 52 rfl
theorem dL_law_1041 : decode code 1041 = .ok (.aload_n 0, 1) := getB' kL_law_6 53 rfl
theorem dL_law_1042 : decode code 1042 = .ok (.iload_n 3, 1) := getB' kL_law_6 54 rfl
theorem dL_law_1043 : decode code 1043 = .ok (.iconst 2, 1) := getB' kL_law_6 55 rfl
theorem dL_law_1044 : decode code 1044 = .ok (.iadd, 1) := getB' kL_law_6 56 rfl
theorem dL_law_1045 : decode code 1045 = .ok (.iaload, 1) := getB' kL_law_6 57 rfl
theorem dL_law_1046 : decode code 1046 = .ok (.aload_n 0, 1) := getB' kL_law_6 58 rfl
theorem dL_law_1047 : decode code 1047 = .ok (.iload_n 3, 1) := getB' kL_law_6 59 rfl
theorem dL_law_1048 : decode code 1048 = .ok (.iconst 3, 1) := getB' kL_law_6 60 rfl
theorem dL_law_1049 : decode code 1049 = .ok (.iadd, 1) := getB' kL_law_6 61 rfl
theorem dL_law_1050 : decode code 1050 = .ok (.iaload, 1) := getB' kL_law_6 62 rfl
theorem dL_law_1051 : decode code 1051 = .ok (.aload_n 0, 1) := getB' kL_law_6 63 rfl
theorem dL_law_1052 : decode code 1052 = .ok (.iload_n 3, 1) := getB' kL_law_6 64 rfl
theorem dL_law_1053 : decode code 1053 = .ok (.iconst 4, 1) := getB' kL_law_6 65 rfl
theorem dL_law_1054 : decode code 1054 = .ok (.iadd, 1) := getB' kL_law_6 66 rfl
theorem dL_law_1055 : decode code 1055 = .ok (.iaload, 1) := getB' kL_law_6 67 rfl
theorem dL_law_1056 : decode code 1056 = .ok (.aload_n 0, 1) := getB' kL_law_6 68 rfl
theorem dL_law_1057 : decode code 1057 = .ok (.iload_n 3, 1) := getB' kL_law_6 69 rfl
theorem dL_law_1058 : decode code 1058 = .ok (.iconst 5, 1) := getB' kL_law_6 70 rfl
theorem dL_law_1059 : decode code 1059 = .ok (.iadd, 1) := getB' kL_law_6 71 rfl
theorem dL_law_1060 : decode code 1060 = .ok (.iaload, 1) := getB' kL_law_6 72 rfl
theorem dL_law_1061 : decode code 1061 = .ok (.aload_n 0, 1) := getB' kL_law_6 73 rfl
theorem dL_law_1062 : decode code 1062 = .ok (.iload_n 3, 1) := getB' kL_law_6 74 rfl
theorem dL_law_1063 : decode code 1063 = .ok (.bipush 6, 2) := getB' kL_law_6 75 rfl
theorem dL_law_1065 : decode code 1065 = .ok (.iadd, 1) := getB' kL_law_6 76 rfl
theorem dL_law_1066 : decode code 1066 = .ok (.iaload, 1) := getB' kL_law_6 77 rfl
theorem dL_law_1067 : decode code 1067 = .ok (.aload_n 0, 1) := getB' kL_law_6 78 rfl
theorem dL_law_1068 : decode code 1068 = .ok (.iload_n 3, 1) := getB' kL_law_6 79 rfl
theorem dL_law_1069 : decode code 1069 = .ok (.bipush 7, 2) := getB' kL_law_6 80 rfl
theorem dL_law_1071 : decode code 1071 = .ok (.iadd, 1) := getB' kL_law_6 81 rfl
theorem dL_law_1072 : decode code 1072 = .ok (.iaload, 1) := getB' kL_law_6 82 rfl
theorem dL_law_1073 : decode code 1073 = .ok (.invokevirtual 89, 3) := getB' kL_law_6 83 rfl
theorem dL_law_1076 : decode code 1076 = .ok (.pop, 1) := getB' kL_law_6 84 rfl
theorem dL_law_1077 : decode code 1077 = .ok (.aload_n 2, 1) := getB' kL_law_6 85 rfl
theorem dL_law_1078 : decode code 1078 = .ok (.aload_n 0, 1) := getB' kL_law_6 86 rfl
theorem dL_law_1079 : decode code 1079 = .ok (.iload_n 3, 1) := getB' kL_law_6 87 rfl
theorem dL_law_1080 : decode code 1080 = .ok (.iconst 1, 1) := getB' kL_law_6 88 rfl
theorem dL_law_1081 : decode code 1081 = .ok (.iadd, 1) := getB' kL_law_6 89 rfl
theorem dL_law_1082 : decode code 1082 = .ok (.iaload, 1) := getB' kL_law_6 90 rfl
theorem dL_law_1083 : decode code 1083 = .ok (.aload_n 0, 1) := getB' kL_law_6 91 rfl
theorem dL_law_1084 : decode code 1084 = .ok (.iload_n 3, 1) := getB' kL_law_6 92 rfl
theorem dL_law_1085 : decode code 1085 = .ok (.iconst 2, 1) := getB' kL_law_6 93 rfl
theorem dL_law_1086 : decode code 1086 = .ok (.iadd, 1) := getB' kL_law_6 94 rfl
theorem dL_law_1087 : decode code 1087 = .ok (.iaload, 1) := getB' kL_law_6 95 rfl
theorem dL_law_1088 : decode code 1088 = .ok (.aload_n 0, 1) := getB' kL_law_6 96 rfl
theorem dL_law_1089 : decode code 1089 = .ok (.iload_n 3, 1) := getB' kL_law_6 97 rfl
theorem dL_law_1090 : decode code 1090 = .ok (.iconst 3, 1) := getB' kL_law_6 98 rfl
theorem dL_law_1091 : decode code 1091 = .ok (.iadd, 1) := getB' kL_law_6 99 rfl
