def LL_law_8 : List (Nat × Instr × Nat) := [(1216, .aload_n 2, 1), (1217, .aload_n 0, 1), (1218, .iload_n 3, 1), (1219, .iconst 1, 1), (1220, .iadd, 1), (1221, .iaload, 1), (1222, .aload_n 0, 1), (1223, .iload_n 3, 1), (1224, .iconst 2, 1), (1225, .iadd, 1), (1226, .iaload, 1), (1227, .aload_n 0, 1), (1228, .iload_n 3, 1), (1229, .iconst 3, 1), (1230, .iadd, 1), (1231, .iaload, 1), (1232, .ifCond .eq 7, 3), (1235, .iconst 1, 1), (1236, .goto 4, 3), (1239, .iconst 0, 1), (1240, .invokevirtual 106, 3), (1243, .pop, 1), (1244, .goto 1501, 3), (1247, .aload_n 1, 1), (1248, .aload_n 0, 1), (1249, .iload_n 3, 1), (1250, .iconst 1, 1), (1251, .iadd, 1), (1252, .iaload, 1), (1253, .aload_n 0, 1), (1254, .iload_n 3, 1), (1255, .iconst 2, 1), (1256, .iadd, 1), (1257, .iaload, 1), (1258, .aload_n 0, 1), (1259, .iload_n 3, 1), (1260, .iconst 3, 1), (1261, .iadd, 1), (1262, .iaload, 1), (1263, .ifCond .eq 7, 3), (1266, .iconst 1, 1), (1267, .goto 4, 3), (1270, .iconst 0, 1), (1271, .invokevirtual 107, 3), (1274, .pop, 1), (1275, .aload_n 2, 1), (1276, .aload_n 0, 1), (1277, .iload_n 3, 1), (1278, .iconst 1, 1), (1279, .iadd, 1), (1280, .iaload, 1), (1281, .aload_n 0, 1), (1282, .iload_n 3, 1), (1283, .iconst 2, 1), (1284, .iadd, 1), (1285, .iaload, 1), (1286, .aload_n 0, 1), (1287, .iload_n 3, 1), (1288, .iconst 3, 1), (1289, .iadd, 1), (1290, .iaload, 1), (1291, .ifCond .eq 7, 3), (1294, .iconst 1, 1), (1295, .goto 4, 3), (1298, .iconst 0, 1), (1299, .invokevirtual 111, 3), (1302, .pop, 1), (1303, .goto 1442, 3), (1306, .aload_n 1, 1), (1307, .aload_n 0, 1), (1308, .iload_n 3, 1), (1309, .iconst 1, 1), (1310, .iadd, 1), (1311, .iaload, 1), (1312, .aload_n 0, 1), (1313, .iload_n 3, 1), (1314, .iconst 2, 1), (1315, .iadd, 1), (1316, .iaload, 1), (1317, .aload_n 0, 1), (1318, .iload_n 3, 1), (1319, .iconst 3, 1), (1320, .iadd, 1), (1321, .iaload, 1), (1322, .ifCond .eq 7, 3), (1325, .iconst 1, 1), (1326, .goto 4, 3), (1329, .iconst 0, 1), (1330, .aload_n 0, 1), (1331, .iload_n 3, 1), (1332, .iconst 4, 1), (1333, .iadd, 1), (1334, .iaload, 1), (1335, .invokevirtual 112, 3), (1338, .pop, 1), (1339, .aload_n 2, 1), (1340, .aload_n 0, 1), (1341, .iload_n 3, 1), (1342, .iconst 1, 1), (1343, .iadd, 1)]
theorem kL_law_8 : chkB code LL_law_8 = true := by decide +kernel
theorem dL_law_1216 : decode code 1216 = .ok (.aload_n 2, 1) := getB' kL_law_8 0 rfl
theorem dL_law_1217 : decode code 1217 = .ok (.aload_n 0, 1) := getB' kL_law_8 1 rfl
theorem dL_law_1218 : decode code 1218 = .ok (.iload_n 3, 1) := getB' kL_law_8 2 rfl
theorem dL_law_1219 : decode code 1219 = .ok (.iconst 1, 1) := getB' kL_law_8 3 rfl
theorem dL_law_1220 : decode code 1220 = .ok (.iadd, 1) := getB' kL_law_8 4 rfl
theorem dL_law_1221 : decode code 1221 = .ok (.iaload, 1) := getB' kL_law_8 5 rfl
theorem dL_law_1222 : decode code 1222 = .ok (.aload_n 0, 1) := getB' kL_law_8 6 rfl
theorem dL_law_1223 : decode code 1223 = .ok (.iload_n 3, 1) := getB' kL_law_8 7 rfl
theorem dL_law_1224 : decode code 1224 = .ok (.iconst 2, 1) := getB' kL_law_8 8 rfl
theorem dL_law_1225 : decode code 1225 = .ok (.iadd, 1) := getB' kL_law_8 9 rfl
theorem dL_law_1226 : decode code 1226 = .ok (.iaload, 1) := getB' kL_law_8 10 rfl
theorem dL_law_1227 : decode code 1227 = .ok (.aload_n 0, 1) := getB' kL_law_8 11 rfl
theorem dL_law_1228 : decode code 1228 = .ok (.iload_n 3, 1) := getB' kL_law_8 12 rfl
theorem dL_law_1229 : decode code 1229 = .ok (.iconst 3, 1) := getB' kL_law_8 13 rfl
theorem dL_law_1230 : decode code 1230 = .ok (.iadd, 1) := getB' kL_law_8 14 rfl
theorem dL_law_1231 : decode code 1231 = .ok (.iaload, 1) := getB' kL_law_8 15 rfl
theorem dL_law_1232 : decode code 1232 = .ok (.ifCond .eq 7, 3) := getB' kL_law_8 16 rfl
theorem dL_law_1235 : decode code 1235 = .ok (.iconst 1, 1) := getB' kL_law_8 17 rfl
theorem dL_law_1236 : decode code 1236 = .ok (.goto 4, 3) := getB' kL_law_8 18 rfl
theorem dL_law_1239 : decode code 1239 = .ok (.iconst 0, 1) := getB' kL_law_8 19 rfl
theorem dL_law_1240 : decode code 1240 = .ok (.invokevirtual 106, 3) := getB' kL_law_8 20 rfl
theorem dL_law_1243 : decode code 1243 = .ok (.pop, 1) := getB' kL_law_8 21 rfl
theorem dL_law_1244 : decode code 1244 = .ok (.goto 1501, 3) := getB' kL_law_8 22 rfl
theorem dL_law_1247 : decode code 1247 = .ok (.aload_n 1, 1) := getB' kL_law_8 23 rfl
theorem dL_law_1248 : decode code 1248 = .ok (.aload_n 0, 1) := getB' kL_law_8 24 rfl
theorem dL_law_1249 : decode code 1249 = .ok (.iload_n 3, 1) := getB' kL_law_8 25 rfl
theorem dL_law_1250 : decode code 1250 = .ok (.iconst 1, 1) := getB' kL_law_8 26 rfl
theorem dL_law_1251 : decode code 1251 = .ok (.iadd, 1) := getB' kL_law_8 27 rfl
theorem dL_law_1252 : decode code 1252 = .ok (.iaload, 1) := getB' kL_law_8 28 rfl
theorem dL_law_1253 : decode code 1253 = .ok (.aload_n 0, 1) := getB' kL_law_8 29 rfl
theorem dL_law_1254 : decode code 1254 = .ok (.iload_n 3, 1) := getB' kL_law_8 30 rfl
theorem dL_law_1255 : decode code 1255 = .ok (.iconst 2, 1) := getB' kL_law_8 31 rfl
theorem dL_law_1256 : decode code 1256 = .ok (.iadd, 1) := getB' kL_law_8 32 rfl
theorem dL_law_1257 : decode code 1257 = .ok (.iaload, 1) := getB' kL_law_8 33 rfl
theorem dL_law_1258 : decode code 1258 = .ok (.aload_n 0, 1) := getB' kL_law_8 34 rfl
theorem dL_law_1259 : decode code 1259 = .ok (.iload_n 3, 1) := getB' kL_law_8 35 rfl
theorem dL_law_1260 : decode code 1260 = .ok (.iconst 3, 1) := getB' kL_law_8 36 rfl
theorem dL_law_1261 : decode code 1261 = .ok (.iadd, 1) := getB' kL_law_8 37 rfl
theorem dL_law_1262 : decode code 1262 = .ok (.iaload, 1) := getB' kL_law_8 38 rfl
theorem dL_law_1263 : decode code 1263 = .ok (.ifCond .eq 7, 3) := getB' kL_law_8 39 rfl
theorem dL_law_1266 : decode code 1266 = .ok (.iconst 1, 1) := getB' kL_law_8 40 rfl
theorem dL_law_1267 : decode code 1267 = .ok (.goto 4, 3) := getB' kL_law_8 41 rfl
theorem dL_law_1270 : decode code 1270 = .ok (.iconst 0, 1) := getB' kL_law_8 42 rfl
theorem dL_law_1271 : decode code 1271 = .ok (.invokevirtual 107, 3) := getB' kL_law_8 43 rfl
theorem dL_law_1274 : decode code 1274 = .ok (.pop, 1) := getB' kL_law_8 44 rfl
theorem dL_law_1275 : decode code 1275 = .ok (.aload_n 2, 1) := getB' kL_law_8 45 rfl
theorem dL_law_1276 : decode code 1276 = .ok (.aload_n 0, 1) := getB' kL_law_8 46 rfl
theorem dL_law_1277 : decode code 1277 = .ok (.iload_n 3, 1) := getB' kL_law_8 47 rfl
theorem dL_law_1278 : decode code 1278 = .ok (.iconst 1, 1) := getB' kL_law_8 48 rfl
theorem dL_law_1279 : decode code 1279 = .ok (.iadd, 1) := getB' kL_law_8 49 rfl
theorem dL_law_1280 : decode code 1280 = .ok (.iaload, 1) := getB' kL_law_8 50 rfl
theorem dL_law_1281 : decode code 1281 = .ok (.aload_n 0, 1) := getB' kL_law_8 51 rfl
theorem dL_law_1282 : decode code 1282 = .ok (.iload_n 3, 1) := getB' kL_law_8 52 rfl
theorem dL_law_1283 : decode code 1283 = .ok (.iconst 2, 1) := getB' kL_law_8 53 rfl
theorem dL_law_1284 : decode code 1284 = .ok (.iadd, 1) := getB' kL_law_8 54 rfl
theorem dL_law_1285 : decode code 1285 = .ok (.iaload, 1) := getB' kL_law_8 55 rfl
theorem dL_law_1286 : decode code 1286 = .ok (.aload_n 0, 1) := getB' kL_law_8 56 rfl
theorem dL_law_1287 : decode code 1287 = .ok (.iload_n 3, 1) := getB' kL_law_8 57 rfl
theorem dL_law_1288 : decode code 1288 = .ok (.iconst 3, 1) := getB' kL_law_8 58 rfl
theorem dL_law_1289 : decode code 1289 = .ok (.iadd, 1) := getB' kL_law_8 59 rfl
theorem dL_law_1290 : decode code 1290 = .ok (.iaload, 1) := getB' kL_law_8 60 rfl
theorem dL_law_1291 : decode code 1291 = .ok (.ifCond .eq 7, 3) := getB' kL_law_8 61 rfl
theorem dL_law_1294 : decode code 1294 = .ok (.iconst 1, 1) := getB' kL_law_8 62 rfl
theorem dL_law_1295 : decode code 1295 = .ok (.goto 4, 3) := getB' kL_law_8 63 rfl
theorem dL_law_1298 : decode code 1298 = .ok (.iconst 0, 1) := getB' kL_law_8 64 rfl
theorem dL_law_1299 : decode code 1299 = .ok (.invokevirtual 111, 3) := getB' kL_law_8 65 rfl
theorem dL_law_1302 : decode code 1302 = .ok (.pop, 1) := getB' kL_law_8 66 rfl
theorem dL_law_1303 : decode code 1303 = .ok (.goto 1442, 3) := getB' kL_law_8 67 rfl
theorem dL_law_1306 : decode code 1306 = .ok (.aload_n 1, 1) := getB' kL_law_8 68 rfl
theorem dL_law_1307 : decode code 1307 = .ok (.aload_n 0, 1) := getB' kL_law_8 69 rfl
theorem dL_law_1308 : decode code 1308 = .ok (.iload_n 3, 1) := getB' kL_law_8 70 rfl
theorem dL_law_1309 : decode code 1309 = .ok (.iconst 1, 1) := getB' kL_law_8 71 rfl
theorem dL_law_1310 : decode code 1310 = .ok (.iadd, 1) := getB' kL_law_8 72 rfl
theorem dL_law_1311 : decode code 1311 = .ok (.iaload, 1) := getB' kL_law_8 73 rfl
theorem dL_law_1312 : decode code 1312 = .ok (.aload_n 0, 1) := getB' kL_law_8 74 rfl
theorem dL_law_1313 : decode code 1313 = .ok (.iload_n 3, 1) := getB' kL_law_8 75 rfl
theorem dL_law_1314 : decode code 1314 = .ok (.iconst 2, 1) := getB' kL_law_8 76 rfl
theorem dL_law_1315 : decode code 1315 = .ok (.iadd, 1) := getB' kL_law_8 77 rfl
theorem dL_law_1316 : decode code 1316 = .ok (.iaload, 1) := getB' kL_law_8 78 rfl
theorem dL_law_1317 : decode code 1317 = .ok (.aload_n 0, 1) := getB' kL_law_8 79 rfl
theorem dL_law_1318 : decode code 1318 = .ok (.iload_n 3, 1) := getB' kL_law_8 80 rfl
theorem dL_law_1319 : decode code 1319 = .ok (.iconst 3, 1) := getB' kL_law_8 81 rfl
theorem dL_law_1320 : decode code 1320 = .ok (.iadd, 1) := getB' kL_law_8 82 rfl
theorem dL_law_1321 : decode code 1321 = .ok (.iaload, 1) := getB' kL_law_8 83 rfl
theorem dL_law_1322 : decode code 1322 = .ok (.ifCond .eq 7, 3) := getB' kL_law_8 84 rfl
theorem dL_law_1325 : decode code 1325 = .ok (.iconst 1, 1) := getB' kL_law_8 85 rfl
theorem dL_law_1326 : decode code 1326 = .ok (.goto 4, 3) := getB' kL_law_8 86 rfl
theorem dL_law_1329 : decode code 1329 = .ok (.iconst 0, 1) := getB' kL_law_8 87 rfl
theorem dL_law_1330 : decode code 1330 = .ok (.aload_n 0, 1) := getB' kL_law_8 88 rfl
theorem dL_law_1331 : decode code 1331 = .ok (.iload_n 3, 1) := getB' kL_law_8 89 rfl
theorem dL_law_1332 : decode code 1332 = .ok (.iconst 4, 1) := getB' kL_law_8 90 rfl
theorem dL_law_1333 : decode code 1333 = .ok (.iadd, 1) := getB' kL_law_8 91 rfl
theorem dL_law_1334 : decode code 1334 = .ok (.iaload, 1) := getB' kL_law_8 92 rfl
theorem dL_law_1335 : decode code 1335 = .ok (.invokevirtual 112, 3) := getB' kL_law_8 93 rfl
theorem dL_law_1338 : decode code 1338 = .ok (.pop, 1) := getB' kL_law_8 94 rfl
theorem dL_law_1339 : decode code 1339 = .ok (.aload_n 2, 1) := getB' kL_law_8 95 rfl
theorem dL_law_1340 : decode code 1340 = .ok (.aload_n 0, 1) := getB' kL_law_8 96 rfl
theorem dL_law_1341 : decode code 1341 = .ok (.iload_n 3, 1) := getB' kL_law_8 97 rfl
theorem dL_law_1342 : decode code 1342 = .ok (.iconst 1, 1) := getB' kL_law_8 98 rfl
theorem dL_law_1343 : decode code 1343 = .ok (.iadd, 1) := getB' kL_law_8 99 rfl
