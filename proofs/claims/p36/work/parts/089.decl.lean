def LL_law_7 : List (Nat × Instr × Nat) := [(1092, .iaload, 1), (1093, .aload_n 0, 1), (1094, .iload_n 3, 1), (1095, .iconst 4, 1), (1096, .iadd, 1), (1097, .iaload, 1), (1098, .aload_n 0, 1), (1099, .iload_n 3, 1), (1100, .iconst 5, 1), (1101, .iadd, 1), (1102, .iaload, 1), (1103, .aload_n 0, 1), (1104, .iload_n 3, 1), (1105, .bipush 6, 2), (1107, .iadd, 1), (1108, .iaload, 1), (1109, .aload_n 0, 1), (1110, .iload_n 3, 1), (1111, .bipush 7, 2), (1113, .iadd, 1), (1114, .iaload, 1), (1115, .invokevirtual 93, 3), (1118, .pop, 1), (1119, .goto 1626, 3), (1122, .aload_n 1, 1), (1123, .aload_n 0, 1), (1124, .iload_n 3, 1), (1125, .iconst 1, 1), (1126, .iadd, 1), (1127, .iaload, 1), (1128, .aload_n 0, 1), (1129, .iload_n 3, 1), (1130, .iconst 2, 1), (1131, .iadd, 1), (1132, .iaload, 1), (1133, .invokevirtual 94, 3), (1136, .pop, 1), (1137, .aload_n 2, 1), (1138, .aload_n 0, 1), (1139, .iload_n 3, 1), (1140, .iconst 1, 1), (1141, .iadd, 1), (1142, .iaload, 1), (1143, .aload_n 0, 1), (1144, .iload_n 3, 1), (1145, .iconst 2, 1), (1146, .iadd, 1), (1147, .iaload, 1), (1148, .invokevirtual 97, 3), (1151, .pop, 1), (1152, .goto 1593, 3), (1155, .aload_n 1, 1), (1156, .aload_n 0, 1), (1157, .iload_n 3, 1), (1158, .iconst 1, 1), (1159, .iadd, 1), (1160, .iaload, 1), (1161, .aload_n 0, 1), (1162, .iload_n 3, 1), (1163, .iconst 2, 1), (1164, .iadd, 1), (1165, .iaload, 1), (1166, .invokevirtual 98, 3), (1169, .pop, 1), (1170, .aload_n 2, 1), (1171, .aload_n 0, 1), (1172, .iload_n 3, 1), (1173, .iconst 1, 1), (1174, .iadd, 1), (1175, .iaload, 1), (1176, .aload_n 0, 1), (1177, .iload_n 3, 1), (1178, .iconst 2, 1), (1179, .iadd, 1), (1180, .iaload, 1), (1181, .invokevirtual 101, 3), (1184, .pop, 1), (1185, .goto 1560, 3), (1188, .aload_n 1, 1), (1189, .aload_n 0, 1), (1190, .iload_n 3, 1), (1191, .iconst 1, 1), (1192, .iadd, 1), (1193, .iaload, 1), (1194, .aload_n 0, 1), (1195, .iload_n 3, 1), (1196, .iconst 2, 1), (1197, .iadd, 1), (1198, .iaload, 1), (1199, .aload_n 0, 1), (1200, .iload_n 3, 1), (1201, .iconst 3, 1), (1202, .iadd, 1), (1203, .iaload, 1), (1204, .ifCond .eq 7, 3), (1207, .iconst 1, 1), (1208, .goto 4, 3), (1211, .iconst 0, 1), (1212, .invokevirtual 102, 3), (1215, .pop, 1)]
theorem kL_law_7 : chkB code LL_law_7 = true := by decide +kernel
theorem dL_law_1092 : decode code 1092 = .ok (.iaload, 1) := getB' kL_law_7 0 rfl
theorem dL_law_1093 : decode code 1093 = .ok (.aload_n 0, 1) := getB' kL_law_7 1 rfl
theorem dL_law_1094 : decode code 1094 = .ok (.iload_n 3, 1) := getB' kL_law_7 2 rfl
theorem dL_law_1095 : decode code 1095 = .ok (.iconst 4, 1) := getB' kL_law_7 3 rfl
theorem dL_law_1096 : decode code 1096 = .ok (.iadd, 1) := getB' kL_law_7 4 rfl
theorem dL_law_1097 : decode code 1097 = .ok (.iaload, 1) := getB' kL_law_7 5 rfl
theorem dL_law_1098 : decode code 1098 = .ok (.aload_n 0, 1) := getB' kL_law_7 6 rfl
theorem dL_law_1099 : decode code 1099 = .ok (.iload_n 3, 1) := getB' kL_law_7 7 rfl
theorem dL_law_1100 : decode code 1100 = .ok (.iconst 5, 1) := getB' kL_law_7 8 rfl
theorem dL_law_1101 : decode code 1101 = .ok (.iadd, 1) := getB' kL_law_7 9 rfl
theorem dL_law_1102 : decode code 1102 = .ok (.iaload, 1) := getB' kL_law_7 10 rfl
theorem dL_law_1103 : decode code 1103 = .ok (.aload_n 0, 1) := getB' kL_law_7 11 rfl
theorem dL_law_1104 : decode code 1104 = .ok (.iload_n 3, 1) := getB' kL_law_7 12 rfl
theorem dL_law_1105 : decode code 1105 = .ok (.bipush 6, 2) := getB' kL_law_7 13 rfl
theorem dL_law_1107 : decode code 1107 = .ok (.iadd, 1) := getB' kL_law_7 14 rfl
theorem dL_law_1108 : decode code 1108 = .ok (.iaload, 1) := getB' kL_law_7 15 rfl
theorem dL_law_1109 : decode code 1109 = .ok (.aload_n 0, 1) := getB' kL_law_7 16 rfl
theorem dL_law_1110 : decode code 1110 = .ok (.iload_n 3, 1) := getB' kL_law_7 17 rfl
theorem dL_law_1111 : decode code 1111 = .ok (.bipush 7, 2) := getB' kL_law_7 18 rfl
theorem dL_law_1113 : decode code 1113 = .ok (.iadd, 1) := getB' kL_law_7 19 rfl
theorem dL_law_1114 : decode code 1114 = .ok (.iaload, 1) := getB' kL_law_7 20 rfl
theorem dL_law_1115 : decode code 1115 = .ok (.invokevirtual 93, 3) := getB' kL_law_7 21 rfl
theorem dL_law_1118 : decode code 1118 = .ok (.pop, 1) := getB' kL_law_7 22 rfl
theorem dL_law_1119 : decode code 1119 = .ok (.goto 1626, 3) := getB' kL_law_7 23 rfl
theorem dL_law_1122 : decode code 1122 = .ok (.aload_n 1, 1) := getB' kL_law_7 24 rfl
theorem dL_law_1123 : decode code 1123 = .ok (.aload_n 0, 1) := getB' kL_law_7 25 rfl
theorem dL_law_1124 : decode code 1124 = .ok (.iload_n 3, 1) := getB' kL_law_7 26 rfl
theorem dL_law_1125 : decode code 1125 = .ok (.iconst 1, 1) := getB' kL_law_7 27 rfl
theorem dL_law_1126 : decode code 1126 = .ok (.iadd, 1) := getB' kL_law_7 28 rfl
theorem dL_law_1127 : decode code 1127 = .ok (.iaload, 1) := getB' kL_law_7 29 rfl
theorem dL_law_1128 : decode code 1128 = .ok (.aload_n 0, 1) := getB' kL_law_7 30 rfl
theorem dL_law_1129 : decode code 1129 = .ok (.iload_n 3, 1) := getB' kL_law_7 31 rfl
theorem dL_law_1130 : decode code 1130 = .ok (.iconst 2, 1) := getB' kL_law_7 32 rfl
theorem dL_law_1131 : decode code 1131 = .ok (.iadd, 1) := getB' kL_law_7 33 rfl
theorem dL_law_1132 : decode code 1132 = .ok (.iaload, 1) := getB' kL_law_7 34 rfl
theorem dL_law_1133 : decode code 1133 = .ok (.invokevirtual 94, 3) := getB' kL_law_7 35 rfl
theorem dL_law_1136 : decode code 1136 = .ok (.pop, 1) := getB' kL_law_7 36 rfl
theorem dL_law_1137 : decode code 1137 = .ok (.aload_n 2, 1) := getB' kL_law_7 37 rfl
theorem dL_law_1138 : decode code 1138 = .ok (.aload_n 0, 1) := getB' kL_law_7 38 rfl
theorem dL_law_1139 : decode code 1139 = .ok (.iload_n 3, 1) := getB' kL_law_7 39 rfl
theorem dL_law_1140 : decode code 1140 = .ok (.iconst 1, 1) := getB' kL_law_7 40 rfl
theorem dL_law_1141 : decode code 1141 = .ok (.iadd, 1) := getB' kL_law_7 41 rfl
theorem dL_law_1142 : decode code 1142 = .ok (.iaload, 1) := getB' kL_law_7 42 rfl
theorem dL_law_1143 : decode code 1143 = .ok (.aload_n 0, 1) := getB' kL_law_7 43 rfl
theorem dL_law_1144 : decode code 1144 = .ok (.iload_n 3, 1) := getB' kL_law_7 44 rfl
theorem dL_law_1145 : decode code 1145 = .ok (.iconst 2, 1) := getB' kL_law_7 45 rfl
theorem dL_law_1146 : decode code 1146 = .ok (.iadd, 1) := getB' kL_law_7 46 rfl
theorem dL_law_1147 : decode code 1147 = .ok (.iaload, 1) := getB' kL_law_7 47 rfl
theorem dL_law_1148 : decode code 1148 = .ok (.invokevirtual 97, 3) := getB' kL_law_7 48 rfl
theorem dL_law_1151 : decode code 1151 = .ok (.pop, 1) := getB' kL_law_7 49 rfl
theorem dL_law_1152 : decode code 1152 = .ok (.goto 1593, 3) := getB' kL_law_7 50 rfl
theorem dL_law_1155 : decode code 1155 = .ok (.aload_n 1, 1) := getB' kL_law_7 51 rfl
theorem dL_law_1156 : decode code 1156 = .ok (.aload_n 0, 1) := getB' kL_law_7 52 rfl
theorem dL_law_1157 : decode code 1157 = .ok (.iload_n 3, 1) := getB' kL_law_7 53 rfl
theorem dL_law_1158 : decode code 1158 = .ok (.iconst 1, 1) := getB' kL_law_7 54 rfl
theorem dL_law_1159 : decode code 1159 = .ok (.iadd, 1) := getB' kL_law_7 55 rfl
theorem dL_law_1160 : decode code 1160 = .ok (.iaload, 1) := getB' kL_law_7 56 rfl
theorem dL_law_1161 : decode code 1161 = .ok (.aload_n 0, 1) := getB' kL_law_7 57 rfl
theorem dL_law_1162 : decode code 1162 = .ok (.iload_n 3, 1) := getB' kL_law_7 58 rfl
theorem dL_law_1163 : decode code 1163 = .ok (.iconst 2, 1) := getB' kL_law_7 59 rfl
theorem dL_law_1164 : decode code 1164 = .ok (.iadd, 1) := getB' kL_law_7 60 rfl
theorem dL_law_1165 : decode code 1165 = .ok (.iaload, 1) := getB' kL_law_7 61 rfl
theorem dL_law_1166 : decode code 1166 = .ok (.invokevirtual 98, 3) := getB' kL_law_7 62 rfl
theorem dL_law_1169 : decode code 1169 = .ok (.pop, 1) := getB' kL_law_7 63 rfl
theorem dL_law_1170 : decode code 1170 = .ok (.aload_n 2, 1) := getB' kL_law_7 64 rfl
theorem dL_law_1171 : decode code 1171 = .ok (.aload_n 0, 1) := getB' kL_law_7 65 rfl
theorem dL_law_1172 : decode code 1172 = .ok (.iload_n 3, 1) := getB' kL_law_7 66 rfl
theorem dL_law_1173 : decode code 1173 = .ok (.iconst 1, 1) := getB' kL_law_7 67 rfl
theorem dL_law_1174 : decode code 1174 = .ok (.iadd, 1) := getB' kL_law_7 68 rfl
theorem dL_law_1175 : decode code 1175 = .ok (.iaload, 1) := getB' kL_law_7 69 rfl
theorem dL_law_1176 : decode code 1176 = .ok (.aload_n 0, 1) := getB' kL_law_7 70 rfl
theorem dL_law_1177 : decode code 1177 = .ok (.iload_n 3, 1) := getB' kL_law_7 71 rfl
theorem dL_law_1178 : decode code 1178 = .ok (.iconst 2, 1) := getB' kL_law_7 72 rfl
theorem dL_law_1179 : decode code 1179 = .ok (.iadd, 1) := getB' kL_law_7 73 rfl
theorem dL_law_1180 : decode code 1180 = .ok (.iaload, 1) := getB' kL_law_7 74 rfl
theorem dL_law_1181 : decode code 1181 = .ok (.invokevirtual 101, 3) := getB' kL_law_7 75 rfl
theorem dL_law_1184 : decode code 1184 = .ok (.pop, 1) := getB' kL_law_7 76 rfl
theorem dL_law_1185 : decode code 1185 = .ok (.goto 1560, 3) := getB' kL_law_7 77 rfl
theorem dL_law_1188 : decode code 1188 = .ok (.aload_n 1, 1) := getB' kL_law_7 78 rfl
theorem dL_law_1189 : decode code 1189 = .ok (.aload_n 0, 1) := getB' kL_law_7 79 rfl
theorem dL_law_1190 : decode code 1190 = .ok (.iload_n 3, 1) := getB' kL_law_7 80 rfl
theorem dL_law_1191 : decode code 1191 = .ok (.iconst 1, 1) := getB' kL_law_7 81 rfl
theorem dL_law_1192 : decode code 1192 = .ok (.iadd, 1) := getB' kL_law_7 82 rfl
theorem dL_law_1193 : decode code 1193 = .ok (.iaload, 1) := getB' kL_law_7 83 rfl
theorem dL_law_1194 : decode code 1194 = .ok (.aload_n 0, 1) := getB' kL_law_7 84 rfl
theorem dL_law_1195 : decode code 1195 = .ok (.iload_n 3, 1) := getB' kL_law_7 85 rfl
theorem dL_law_1196 : decode code 1196 = .ok (.iconst 2, 1) := getB' kL_law_7 86 rfl
theorem dL_law_1197 : decode code 1197 = .ok (.iadd, 1) := getB' kL_law_7 87 rfl
theorem dL_law_1198 : decode code 1198 = .ok (.iaload, 1) := getB' kL_law_7 88 rfl
theorem dL_law_1199 : decode code 1199 = .ok (.aload_n 0, 1) := getB' kL_law_7 89 rfl
theorem dL_law_1200 : decode code 1200 = .ok (.iload_n 3, 1) := getB' kL_law_7 90 rfl
theorem dL_law_1201 : decode code 1201 = .ok (.iconst 3, 1) := getB' kL_law_7 91 rfl
theorem dL_law_1202 : decode code 1202 = .ok (.iadd, 1) := getB' kL_law_7 92 rfl
theorem dL_law_1203 : decode code 1203 = .ok (.iaload, 1) := getB' kL_law_7 93 rfl
theorem dL_law_1204 : decode code 1204 = .ok (.ifCond .eq 7, 3) := getB' kL_law_7 94 rfl
theorem dL_law_1207 : decode code 1207 = .ok (.iconst 1, 1) := getB' kL_law_7 95 rfl
theorem dL_law_1208 : decode code 1208 = .ok (.goto 4, 3) := getB' kL_law_7 96 rfl
theorem dL_law_1211 : decode code 1211 = .ok (.iconst 0, 1) := getB' kL_law_7 97 rfl
theorem dL_law_1212 : decode code 1212 = .ok (.invokevirtual 102, 3) := getB' kL_law_7 98 rfl
theorem dL_law_1215 : decode code 1215 = .ok (.pop, 1) := getB' kL_law_7 99 rfl
