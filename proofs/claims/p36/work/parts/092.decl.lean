def LL_law_10 : List (Nat × Instr × Nat) := [(1464, .iconst 3, 1), (1465, .iadd, 1), (1466, .iaload, 1), (1467, .invokevirtual 125, 3), (1470, .pop, 1), (1471, .aload_n 2, 1), (1472, .aload_n 0, 1), (1473, .iload_n 3, 1), (1474, .iconst 1, 1), (1475, .iadd, 1), (1476, .iaload, 1), (1477, .aload_n 0, 1), (1478, .iload_n 3, 1), (1479, .iconst 2, 1), (1480, .iadd, 1), (1481, .iaload, 1), (1482, .aload_n 0, 1), (1483, .iload_n 3, 1), (1484, .iconst 3, 1), (1485, .iadd, 1), (1486, .iaload, 1), (1487, .invokevirtual 129, 3), (1490, .pop, 1), (1491, .goto 1254, 3), (1494, .aload_n 1, 1), (1495, .aload_n 0, 1), (1496, .iload_n 3, 1), (1497, .iconst 1, 1), (1498, .iadd, 1), (1499, .iaload, 1), (1500, .aload_n 0, 1), (1501, .iload_n 3, 1), (1502, .iconst 2, 1), (1503, .iadd, 1), (1504, .iaload, 1), (1505, .invokevirtual 130, 3), (1508, .pop, 1), (1509, .aload_n 2, 1), (1510, .aload_n 0, 1), (1511, .iload_n 3, 1), (1512, .iconst 1, 1), (1513, .iadd, 1), (1514, .iaload, 1), (1515, .aload_n 0, 1), (1516, .iload_n 3, 1), (1517, .iconst 2, 1), (1518, .iadd, 1), (1519, .iaload, 1), (1520, .invokevirtual 133, 3), (1523, .pop, 1), (1524, .goto 1221, 3), (1527, .aload_n 1, 1), (1528, .aload_n 0, 1), (1529, .iload_n 3, 1), (1530, .iconst 1, 1), (1531, .iadd, 1), (1532, .iaload, 1), (1533, .aload_n 0, 1), (1534, .iload_n 3, 1), (1535, .iconst 2, 1), (1536, .iadd, 1), (1537, .iaload, 1), (1538, .aload_n 0, 1), (1539, .iload_n 3, 1), (1540, .iconst 3, 1), (1541, .iadd, 1), (1542, .iaload, 1), (1543, .aload_n 0, 1), (1544, .iload_n 3, 1), (1545, .iconst 4, 1), (1546, .iadd, 1), (1547, .iaload, 1), (1548, .invokevirtual 134, 3), (1551, .pop, 1), (1552, .aload_n 2, 1), (1553, .aload_n 0, 1), (1554, .iload_n 3, 1), (1555, .iconst 1, 1), (1556, .iadd, 1), (1557, .iaload, 1), (1558, .aload_n 0, 1), (1559, .iload_n 3, 1), (1560, .iconst 2, 1), (1561, .iadd, 1), (1562, .iaload, 1), (1563, .aload_n 0, 1), (1564, .iload_n 3, 1), (1565, .iconst 3, 1), (1566, .iadd, 1), (1567, .iaload, 1), (1568, .aload_n 0, 1), (1569, .iload_n 3, 1), (1570, .iconst 4, 1), (1571, .iadd, 1), (1572, .iaload, 1), (1573, .invokevirtual 138, 3), (1576, .pop, 1), (1577, .goto 1168, 3), (1580, .aload_n 1, 1), (1581, .aload_n 0, 1)]
theorem kL_law_10 : chkB code LL_law_10 = true := by decide +kernel
theorem dL_law_1464 : decode code 1464 = .ok (.iconst 3, 1) := getB' kL_law_10 0 rfl
theorem dL_law_1465 : decode code 1465 = .ok (.iadd, 1) := getB' kL_law_10 1 rfl
theorem dL_law_1466 : decode code 1466 = .ok (.iaload, 1) := getB' kL_law_10 2 rfl
theorem dL_law_1467 : decode code 1467 = .ok (.invokevirtual 125, 3) := getB' kL_law_10 3 rfl
theorem dL_law_1470 : decode code 1470 = .ok (.pop, 1) := getB' kL_law_10 4 rfl
theorem dL_law_1471 : decode code 1471 = .ok (.aload_n 2, 1) := getB' kL_law_10 5 rfl
theorem dL_law_1472 : decode code 1472 = .ok (.aload_n 0, 1) := getB' kL_law_10 6 rfl
theorem dL_law_1473 : decode code 1473 = .ok (.iload_n 3, 1) := getB' kL_law_10 7 rfl
theorem dL_law_1474 : decode code 1474 = .ok (.iconst 1, 1) := getB' kL_law_10 8 rfl
theorem dL_law_1475 : decode code 1475 = .ok (.iadd, 1) := getB' kL_law_10 9 rfl
theorem dL_law_1476 : decode code 1476 = .ok (.iaload, 1) := getB' kL_law_10 10 rfl
theorem dL_law_1477 : decode code 1477 = .ok (.aload_n 0, 1) := getB' kL_law_10 11 rfl
theorem dL_law_1478 : decode code 1478 = .ok (.iload_n 3, 1) := getB' kL_law_10 12 rfl
theorem dL_law_1479 : decode code 1479 = .ok (.iconst 2, 1) := getB' kL_law_10 13 rfl
theorem dL_law_1480 : decode code 1480 = .ok (.iadd, 1) := getB' kL_law_10 14 rfl
theorem dL_law_1481 : decode code 1481 = .ok (.iaload, 1) := getB' kL_law_10 15 rfl
theorem dL_law_1482 : decode code 1482 = .ok (.aload_n 0, 1) := getB' kL_law_10 16 rfl
theorem dL_law_1483 : decode code 1483 = .ok (.iload_n 3, 1) := getB' kL_law_10 17 rfl
theorem dL_law_1484 : decode code 1484 = .ok (.iconst 3, 1) := getB' kL_law_10 18 rfl
theorem dL_law_1485 : decode code 1485 = .ok (.iadd, 1) := getB' kL_law_10 19 rfl
theorem dL_law_1486 : decode code 1486 = .ok (.iaload, 1) := getB' kL_law_10 20 rfl
theorem dL_law_1487 : decode code 1487 = .ok (.invokevirtual 129, 3) := getB' kL_law_10 21 rfl
theorem dL_law_1490 : decode code 1490 = .ok (.pop, 1) := getB' kL_law_10 22 rfl
theorem dL_law_1491 : decode code 1491 = .ok (.goto 1254, 3) := getB' kL_law_10 23 rfl
theorem dL_law_1494 : decode code 1494 = .ok (.aload_n 1, 1) := getB' kL_law_10 24 rfl
theorem dL_law_1495 : decode code 1495 = .ok (.aload_n 0, 1) := getB' kL_law_10 25 rfl
theorem dL_law_1496 : decode code 1496 = .ok (.iload_n 3, 1) := getB' kL_law_10 26 rfl
theorem dL_law_1497 : decode code 1497 = .ok (.iconst 1, 1) := getB' kL_law_10 27 rfl
theorem dL_law_1498 : decode code 1498 = .ok (.iadd, 1) := getB' kL_law_10 28 rfl
theorem dL_law_1499 : decode code 1499 = .ok (.iaload, 1) := getB' kL_law_10 29 rfl
theorem dL_law_1500 : decode code 1500 = .ok (.aload_n 0, 1) := getB' kL_law_10 30 rfl
theorem dL_law_1501 : decode code 1501 = .ok (.iload_n 3, 1) := getB' kL_law_10 31 rfl
theorem dL_law_1502 : decode code 1502 = .ok (.iconst 2, 1) := getB' kL_law_10 32 rfl
theorem dL_law_1503 : decode code 1503 = .ok (.iadd, 1) := getB' kL_law_10 33 rfl
theorem dL_law_1504 : decode code 1504 = .ok (.iaload, 1) := getB' kL_law_10 34 rfl
theorem dL_law_1505 : decode code 1505 = .ok (.invokevirtual 130, 3) := getB' kL_law_10 35 rfl
theorem dL_law_1508 : decode code 1508 = .ok (.pop, 1) := getB' kL_law_10 36 rfl
theorem dL_law_1509 : decode code 1509 = .ok (.aload_n 2, 1) := getB' kL_law_10 37 rfl
theorem dL_law_1510 : decode code 1510 = .ok (.aload_n 0, 1) := getB' kL_law_10 38 rfl
theorem dL_law_1511 : decode code 1511 = .ok (.iload_n 3, 1) := getB' kL_law_10 39 rfl
theorem dL_law_1512 : decode code 1512 = .ok (.iconst 1, 1) := getB' kL_law_10 40 rfl
theorem dL_law_1513 : decode code 1513 = .ok (.iadd, 1) := getB' kL_law_10 41 rfl
theorem dL_law_1514 : decode code 1514 = .ok (.iaload, 1) := getB' kL_law_10 42 rfl
theorem dL_law_1515 : decode code 1515 = .ok (.aload_n 0, 1) := getB' kL_law_10 43 rfl
theorem dL_law_1516 : decode code 1516 = .ok (.iload_n 3, 1) := getB' kL_law_10 44 rfl
theorem dL_law_1517 : decode code 1517 = .ok (.iconst 2, 1) := getB' kL_law_10 45 rfl
theorem dL_law_1518 : decode code 1518 = .ok (.iadd, 1) := getB' kL_law_10 46 rfl
theorem dL_law_1519 : decode code 1519 = .ok (.iaload, 1) := getB' kL_law_10 47 rfl
theorem dL_law_1520 : decode code 1520 = .ok (.invokevirtual 133, 3) := getB' kL_law_10 48 rfl
theorem dL_law_1523 : decode code 1523 = .ok (.pop, 1) := getB' kL_law_10 49 rfl
theorem dL_law_1524 : decode code 1524 = .ok (.goto 1221, 3) := getB' kL_law_10 50 rfl
theorem dL_law_1527 : decode code 1527 = .ok (.aload_n 1, 1) := getB' kL_law_10 51 rfl
theorem dL_law_1528 : decode code 1528 = .ok (.aload_n 0, 1) := getB' kL_law_10 52 rfl
theorem dL_law_1529 : decode code 1529 = .ok (.iload_n 3, 1) := getB' kL_law_10 53 rfl
theorem dL_law_1530 : decode code 1530 = .ok (.iconst 1, 1) := getB' kL_law_10 54 rfl
theorem dL_law_1531 : decode code 1531 = .ok (.iadd, 1) := getB' kL_law_10 55 rfl
theorem dL_law_1532 : decode code 1532 = .ok (.iaload, 1) := getB' kL_law_10 56 rfl
theorem dL_law_1533 : decode code 1533 = .ok (.aload_n 0, 1) := getB' kL_law_10 57 rfl
theorem dL_law_1534 : decode code 1534 = .ok (.iload_n 3, 1) := getB' kL_law_10 58 rfl
theorem dL_law_1535 : decode code 1535 = .ok (.iconst 2, 1) := getB' kL_law_10 59 rfl
theorem dL_law_1536 : decode code 1536 = .ok (.iadd, 1) := getB' kL_law_10 60 rfl
theorem dL_law_1537 : decode code 1537 = .ok (.iaload, 1) := getB' kL_law_10 61 rfl
theorem dL_law_1538 : decode code 1538 = .ok (.aload_n 0, 1) := getB' kL_law_10 62 rfl
theorem dL_law_1539 : decode code 1539 = .ok (.iload_n 3, 1) := getB' kL_law_10 63 rfl
theorem dL_law_1540 : decode code 1540 = .ok (.iconst 3, 1) := getB' kL_law_10 64 rfl
theorem dL_law_1541 : decode code 1541 = .ok (.iadd, 1) := getB' kL_law_10 65 rfl
theorem dL_law_1542 : decode code 1542 = .ok (.iaload, 1) := getB' kL_law_10 66 rfl
theorem dL_law_1543 : decode code 1543 = .ok (.aload_n 0, 1) := getB' kL_law_10 67 rfl
theorem dL_law_1544 : decode code 1544 = .ok (.iload_n 3, 1) := getB' kL_law_10 68 rfl
theorem dL_law_1545 : decode code 1545 = .ok (.iconst 4, 1) := getB' kL_law_10 69 rfl
theorem dL_law_1546 : decode code 1546 = .ok (.iadd, 1) := getB' kL_law_10 70 rfl
theorem dL_law_1547 : decode code 1547 = .ok (.iaload, 1) := getB' kL_law_10 71 rfl
theorem dL_law_1548 : decode code 1548 = .ok (.invokevirtual 134, 3) := getB' kL_law_10 72 rfl
theorem dL_law_1551 : decode code 1551 = .ok (.pop, 1) := getB' kL_law_10 73 rfl
theorem dL_law_1552 : decode code 1552 = .ok (.aload_n 2, 1) := getB' kL_law_10 74 rfl
theorem dL_law_1553 : decode code 1553 = .ok (.aload_n 0, 1) := getB' kL_law_10 75 rfl
theorem dL_law_1554 : decode code 1554 = .ok (.iload_n 3, 1) := getB' kL_law_10 76 rfl
theorem dL_law_1555 : decode code 1555 = .ok (.iconst 1, 1) := getB' kL_law_10 77 rfl
theorem dL_law_1556 : decode code 1556 = .ok (.iadd, 1) := getB' kL_law_10 78 rfl
theorem dL_law_1557 : decode code 1557 = .ok (.iaload, 1) := getB' kL_law_10 79 rfl
theorem dL_law_1558 : decode code 1558 = .ok (.aload_n 0, 1) := getB' kL_law_10 80 rfl
theorem dL_law_1559 : decode code 1559 = .ok (.iload_n 3, 1) := getB' kL_law_10 81 rfl
theorem dL_law_1560 : decode code 1560 = .ok (.iconst 2, 1) := getB' kL_law_10 82 rfl
theorem dL_law_1561 : decode code 1561 = .ok (.iadd, 1) := getB' kL_law_10 83 rfl
theorem dL_law_1562 : decode code 1562 = .ok (.iaload, 1) := getB' kL_law_10 84 rfl
theorem dL_law_1563 : decode code 1563 = .ok (.aload_n 0, 1) := getB' kL_law_10 85 rfl
theorem dL_law_1564 : decode code 1564 = .ok (.iload_n 3, 1) := getB' kL_law_10 86 rfl
theorem dL_law_1565 : decode code 1565 = .ok (.iconst 3, 1) := getB' kL_law_10 87 rfl
theorem dL_law_1566 : decode code 1566 = .ok (.iadd, 1) := getB' kL_law_10 88 rfl
theorem dL_law_1567 : decode code 1567 = .ok (.iaload, 1) := getB' kL_law_10 89 rfl
theorem dL_law_1568 : decode code 1568 = .ok (.aload_n 0, 1) := getB' kL_law_10 90 rfl
theorem dL_law_1569 : decode code 1569 = .ok (.iload_n 3, 1) := getB' kL_law_10 91 rfl
theorem dL_law_1570 : decode code 1570 = .ok (.iconst 4, 1) := getB' kL_law_10 92 rfl
theorem dL_law_1571 : decode code 1571 = .ok (.iadd, 1) := getB' kL_law_10 93 rfl
theorem dL_law_1572 : decode code 1572 = .ok (.iaload, 1) := getB' kL_law_10 94 rfl
theorem dL_law_1573 : decode code 1573 = .ok (.invokevirtual 138, 3) := getB' kL_law_10 95 rfl
theorem dL_law_1576 : decode code 1576 = .ok (.pop, 1) := getB' kL_law_10 96 rfl
theorem dL_law_1577 : decode code 1577 = .ok (.goto 1168, 3) := getB' kL_law_10 97 rfl
theorem dL_law_1580 : decode code 1580 = .ok (.aload_n 1, 1) := getB' kL_law_10 98 rfl
theorem dL_law_1581 : decode code 1581 = .ok (.aload_n 0, 1) := getB' kL_law_10 99 rfl
