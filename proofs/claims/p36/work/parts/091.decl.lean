def LL_law_9 : List (Nat × Instr × Nat) := [(1344, .iaload, 1), (1345, .aload_n 0, 1), (1346, .iload_n 3, 1), (1347, .iconst 2, 1), (1348, .iadd, 1), (1349, .iaload, 1), (1350, .aload_n 0, 1), (1351, .iload_n 3, 1), (1352, .iconst 3, 1), (1353, .iadd, 1), (1354, .iaload, 1), (1355, .ifCond .eq 7, 3), (1358, .iconst 1, 1), (1359, .goto 4, 3), (1362, .iconst 0, 1), (1363, .aload_n 0, 1), (1364, .iload_n 3, 1), (1365, .iconst 4, 1), (1366, .iadd, 1), (1367, .iaload, 1), (1368, .invokevirtual 116, 3), (1371, .pop, 1), (1372, .goto 1373, 3), (1375, .aload_n 1, 1), (1376, .aload_n 0, 1), (1377, .iload_n 3, 1), (1378, .iconst 1, 1), (1379, .iadd, 1), (1380, .iaload, 1), (1381, .aload_n 0, 1), (1382, .iload_n 3, 1), (1383, .iconst 2, 1), (1384, .iadd, 1), (1385, .iaload, 1), (1386, .invokevirtual 117, 3), (1389, .pop, 1), (1390, .aload_n 2, 1), (1391, .aload_n 0, 1), (1392, .iload_n 3, 1), (1393, .iconst 1, 1), (1394, .iadd, 1), (1395, .iaload, 1), (1396, .aload_n 0, 1), (1397, .iload_n 3, 1), (1398, .iconst 2, 1), (1399, .iadd, 1), (1400, .iaload, 1), (1401, .invokevirtual 120, 3), (1404, .pop, 1), (1405, .goto 1340, 3), (1408, .aload_n 1, 1), (1409, .aload_n 0, 1), (1410, .iload_n 3, 1), (1411, .iconst 1, 1), (1412, .iadd, 1), (1413, .iaload, 1), (1414, .aload_n 0, 1), (1415, .iload_n 3, 1), (1416, .iconst 2, 1), (1417, .iadd, 1), (1418, .iaload, 1), (1419, .aload_n 0, 1), (1420, .iload_n 3, 1), (1421, .iconst 3, 1), (1422, .iadd, 1), (1423, .iaload, 1), (1424, .invokevirtual 121, 3), (1427, .pop, 1), (1428, .aload_n 2, 1), (1429, .aload_n 0, 1), (1430, .iload_n 3, 1), (1431, .iconst 1, 1), (1432, .iadd, 1), (1433, .iaload, 1), (1434, .aload_n 0, 1), (1435, .iload_n 3, 1), (1436, .iconst 2, 1), (1437, .iadd, 1), (1438, .iaload, 1), (1439, .aload_n 0, 1), (1440, .iload_n 3, 1), (1441, .iconst 3, 1), (1442, .iadd, 1), (1443, .iaload, 1), (1444, .invokevirtual 124, 3), (1447, .pop, 1), (1448, .goto 1297, 3), (1451, .aload_n 1, 1), (1452, .aload_n 0, 1), (1453, .iload_n 3, 1), (1454, .iconst 1, 1), (1455, .iadd, 1), (1456, .iaload, 1), (1457, .aload_n 0, 1), (1458, .iload_n 3, 1), (1459, .iconst 2, 1), (1460, .iadd, 1), (1461, .iaload, 1), (1462, .aload_n 0, 1), (1463, .iload_n 3, 1)]
theorem kL_law_9 : chkB code LL_law_9 = true := by decide +kernel
theorem dL_law_1344 : decode code 1344 = .ok (.iaload, 1) := getB' kL_law_9 0 rfl
theorem dL_law_1345 : decode code 1345 = .ok (.aload_n 0, 1) := getB' kL_law_9 1 rfl
theorem dL_law_1346 : decode code 1346 = .ok (.iload_n 3, 1) := getB' kL_law_9 2 rfl
theorem dL_law_1347 : decode code 1347 = .ok (.iconst 2, 1) := getB' kL_law_9 3 rfl
theorem dL_law_1348 : decode code 1348 = .ok (.iadd, 1) := getB' kL_law_9 4 rfl
theorem dL_law_1349 : decode code 1349 = .ok (.iaload, 1) := getB' kL_law_9 5 rfl
theorem dL_law_1350 : decode code 1350 = .ok (.aload_n 0, 1) := getB' kL_law_9 6 rfl
theorem dL_law_1351 : decode code 1351 = .ok (.iload_n 3, 1) := getB' kL_law_9 7 rfl
theorem dL_law_1352 : decode code 1352 = .ok (.iconst 3, 1) := getB' kL_law_9 8 rfl
theorem dL_law_1353 : decode code 1353 = .ok (.iadd, 1) := getB' kL_law_9 9 rfl
theorem dL_law_1354 : decode code 1354 = .ok (.iaload, 1) := getB' kL_law_9 10 rfl
theorem dL_law_1355 : decode code 1355 = .ok (.ifCond .eq 7, 3) := getB' kL_law_9 11 rfl
theorem dL_law_1358 : decode code 1358 = .ok (.iconst 1, 1) := getB' kL_law_9 12 rfl
theorem dL_law_1359 : decode code 1359 = .ok (.goto 4, 3) := getB' kL_law_9 13 rfl
theorem dL_law_1362 : decode code 1362 = .ok (.iconst 0, 1) := getB' kL_law_9 14 rfl
theorem dL_law_1363 : decode code 1363 = .ok (.aload_n 0, 1) := getB' kL_law_9 15 rfl
theorem dL_law_1364 : decode code 1364 = .ok (.iload_n 3, 1) := getB' kL_law_9 16 rfl
theorem dL_law_1365 : decode code 1365 = .ok (.iconst 4, 1) := getB' kL_law_9 17 rfl
theorem dL_law_1366 : decode code 1366 = .ok (.iadd, 1) := getB' kL_law_9 18 rfl
theorem dL_law_1367 : decode code 1367 = .ok (.iaload, 1) := getB' kL_law_9 19 rfl
theorem dL_law_1368 : decode code 1368 = .ok (.invokevirtual 116, 3) := getB' kL_law_9 20 rfl
theorem dL_law_1371 : decode code 1371 = .ok (.pop, 1) := getB' kL_law_9 21 rfl
theorem dL_law_1372 : decode code 1372 = .ok (.goto 1373, 3) := getB' kL_law_9 22 rfl
theorem dL_law_1375 : decode code 1375 = .ok (.aload_n 1, 1) := getB' kL_law_9 23 rfl
theorem dL_law_1376 : decode code 1376 = .ok (.aload_n 0, 1) := getB' kL_law_9 24 rfl
theorem dL_law_1377 : decode code 1377 = .ok (.iload_n 3, 1) := getB' kL_law_9 25 rfl
theorem dL_law_1378 : decode code 1378 = .ok (.iconst 1, 1) := getB' kL_law_9 26 rfl
theorem dL_law_1379 : decode code 1379 = .ok (.iadd, 1) := getB' kL_law_9 27 rfl
theorem dL_law_1380 : decode code 1380 = .ok (.iaload, 1) := getB' kL_law_9 28 rfl
theorem dL_law_1381 : decode code 1381 = .ok (.aload_n 0, 1) := getB' kL_law_9 29 rfl
theorem dL_law_1382 : decode code 1382 = .ok (.iload_n 3, 1) := getB' kL_law_9 30 rfl
theorem dL_law_1383 : decode code 1383 = .ok (.iconst 2, 1) := getB' kL_law_9 31 rfl
theorem dL_law_1384 : decode code 1384 = .ok (.iadd, 1) := getB' kL_law_9 32 rfl
theorem dL_law_1385 : decode code 1385 = .ok (.iaload, 1) := getB' kL_law_9 33 rfl
theorem dL_law_1386 : decode code 1386 = .ok (.invokevirtual 117, 3) := getB' kL_law_9 34 rfl
theorem dL_law_1389 : decode code 1389 = .ok (.pop, 1) := getB' kL_law_9 35 rfl
theorem dL_law_1390 : decode code 1390 = .ok (.aload_n 2, 1) := getB' kL_law_9 36 rfl
theorem dL_law_1391 : decode code 1391 = .ok (.aload_n 0, 1) := getB' kL_law_9 37 rfl
theorem dL_law_1392 : decode code 1392 = .ok (.iload_n 3, 1) := getB' kL_law_9 38 rfl
theorem dL_law_1393 : decode code 1393 = .ok (.iconst 1, 1) := getB' kL_law_9 39 rfl
theorem dL_law_1394 : decode code 1394 = .ok (.iadd, 1) := getB' kL_law_9 40 rfl
theorem dL_law_1395 : decode code 1395 = .ok (.iaload, 1) := getB' kL_law_9 41 rfl
theorem dL_law_1396 : decode code 1396 = .ok (.aload_n 0, 1) := getB' kL_law_9 42 rfl
theorem dL_law_1397 : decode code 1397 = .ok (.iload_n 3, 1) := getB' kL_law_9 43 rfl
theorem dL_law_1398 : decode code 1398 = .ok (.iconst 2, 1) := getB' kL_law_9 44 rfl
theorem dL_law_1399 : decode code 1399 = .ok (.iadd, 1) := getB' kL_law_9 45 rfl
theorem dL_law_1400 : decode code 1400 = .ok (.iaload, 1) := getB' kL_law_9 46 rfl
theorem dL_law_1401 : decode code 1401 = .ok (.invokevirtual 120, 3) := getB' kL_law_9 47 rfl
theorem dL_law_1404 : decode code 1404 = .ok (.pop, 1) := getB' kL_law_9 48 rfl
theorem dL_law_1405 : decode code 1405 = .ok (.goto 1340, 3) := getB' kL_law_9 49 rfl
theorem dL_law_1408 : decode code 1408 = .ok (.aload_n 1, 1) := getB' kL_law_9 50 rfl
theorem dL_law_1409 : decode code 1409 = .ok (.aload_n 0, 1) := getB' kL_law_9 51 rfl
theorem dL_law_1410 : decode code 1410 = .ok (.iload_n 3, 1) := getB' kL_law_9 52 rfl
theorem dL_law_1411 : decode code 1411 = .ok (.iconst 1, 1) := getB' kL_law_9 53 rfl
theorem dL_law_1412 : decode code 1412 = .ok (.iadd, 1) := getB' kL_law_9 54 rfl
theorem dL_law_1413 : decode code 1413 = .ok (.iaload, 1) := getB' kL_law_9 55 rfl
theorem dL_law_1414 : decode code 1414 = .ok (.aload_n 0, 1) := getB' kL_law_9 56 rfl
theorem dL_law_1415 : decode code 1415 = .ok (.iload_n 3, 1) := getB' kL_law_9 57 rfl
theorem dL_law_1416 : decode code 1416 = .ok (.iconst 2, 1) := getB' kL_law_9 58 rfl
theorem dL_law_1417 : decode code 1417 = .ok (.iadd, 1) := getB' kL_law_9 59 rfl
theorem dL_law_1418 : decode code 1418 = .ok (.iaload, 1) := getB' kL_law_9 60 rfl
theorem dL_law_1419 : decode code 1419 = .ok (.aload_n 0, 1) := getB' kL_law_9 61 rfl
theorem dL_law_1420 : decode code 1420 = .ok (.iload_n 3, 1) := getB' kL_law_9 62 rfl
theorem dL_law_1421 : decode code 1421 = .ok (.iconst 3, 1) := getB' kL_law_9 63 rfl
theorem dL_law_1422 : decode code 1422 = .ok (.iadd, 1) := getB' kL_law_9 64 rfl
theorem dL_law_1423 : decode code 1423 = .ok (.iaload, 1) := getB' kL_law_9 65 rfl
theorem dL_law_1424 : decode code 1424 = .ok (.invokevirtual 121, 3) := getB' kL_law_9 66 rfl
theorem dL_law_1427 : decode code 1427 = .ok (.pop, 1) := getB' kL_law_9 67 rfl
theorem dL_law_1428 : decode code 1428 = .ok (.aload_n 2, 1) := getB' kL_law_9 68 rfl
theorem dL_law_1429 : decode code 1429 = .ok (.aload_n 0, 1) := getB' kL_law_9 69 rfl
theorem dL_law_1430 : decode code 1430 = .ok (.iload_n 3, 1) := getB' kL_law_9 70 rfl
theorem dL_law_1431 : decode code 1431 = .ok (.iconst 1, 1) := getB' kL_law_9 71 rfl
theorem dL_law_1432 : decode code 1432 = .ok (.iadd, 1) := getB' kL_law_9 72 rfl
theorem dL_law_1433 : decode code 1433 = .ok (.iaload, 1) := getB' kL_law_9 73 rfl
theorem dL_law_1434 : decode code 1434 = .ok (.aload_n 0, 1) := getB' kL_law_9 74 rfl
theorem dL_law_1435 : decode code 1435 = .ok (.iload_n 3, 1) := getB' kL_law_9 75 rfl
theorem dL_law_1436 : decode code 1436 = .ok (.iconst 2, 1) := getB' kL_law_9 76 rfl
theorem dL_law_1437 : decode code 1437 = .ok (.iadd, 1) := getB' kL_law_9 77 rfl
theorem dL_law_1438 : decode code 1438 = .ok (.iaload, 1) := getB' kL_law_9 78 rfl
theorem dL_law_1439 : decode code 1439 = .ok (.aload_n 0, 1) := getB' kL_law_9 79 rfl
theorem dL_law_1440 : decode code 1440 = .ok (.iload_n 3, 1) := getB' kL_law_9 80 rfl
theorem dL_law_1441 : decode code 1441 = .ok (.iconst 3, 1) := getB' kL_law_9 81 rfl
theorem dL_law_1442 : decode code 1442 = .ok (.iadd, 1) := getB' kL_law_9 82 rfl
theorem dL_law_1443 : decode code 1443 = .ok (.iaload, 1) := getB' kL_law_9 83 rfl
theorem dL_law_1444 : decode code 1444 = .ok (.invokevirtual 124, 3) := getB' kL_law_9 84 rfl
theorem dL_law_1447 : decode code 1447 = .ok (.pop, 1) := getB' kL_law_9 85 rfl
theorem dL_law_1448 : decode code 1448 = .ok (.goto 1297, 3) := getB' kL_law_9 86 rfl
theorem dL_law_1451 : decode code 1451 = .ok (.aload_n 1, 1) := getB' kL_law_9 87 rfl
theorem dL_law_1452 : decode code 1452 = .ok (.aload_n 0, 1) := getB' kL_law_9 88 rfl
theorem dL_law_1453 : decode code 1453 = .ok (.iload_n 3, 1) := getB' kL_law_9 89 rfl
theorem dL_law_1454 : decode code 1454 = .ok (.iconst 1, 1) := getB' kL_law_9 90 rfl
theorem dL_law_1455 : decode code 1455 = .ok (.iadd, 1) := getB' kL_law_9 91 rfl
theorem dL_law_1456 : decode code 1456 = .ok (.iaload, 1) := getB' kL_law_9 92 rfl
theorem dL_law_1457 : decode code 1457 = .ok (.aload_n 0, 1) := getB' kL_law_9 93 rfl
theorem dL_law_1458 : decode code 1458 = .ok (.iload_n 3, 1) := getB' kL_law_9 94 rfl
theorem dL_law_1459 : decode code 1459 = .ok (.iconst 2, 1) := getB' kL_law_9 95 rfl
theorem dL_law_1460 : decode code 1460 = .ok (.iadd, 1) := getB' kL_law_9 96 rfl
theorem dL_law_1461 : decode code 1461 = .ok (.iaload, 1) := getB' kL_law_9 97 rfl
theorem dL_law_1462 : decode code 1462 = .ok (.aload_n 0, 1) := getB' kL_law_9 98 rfl
theorem dL_law_1463 : decode code 1463 = .ok (.iload_n 3, 1) := getB' kL_law_9 99 rfl
