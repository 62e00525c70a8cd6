def LL_law_11 : List (Nat × Instr × Nat) := [(1582, .iload_n 3, 1), (1583, .iconst 1, 1), (1584, .iadd, 1), (1585, .iaload, 1), (1586, .aload_n 0, 1), (1587, .iload_n 3, 1), (1588, .iconst 2, 1), (1589, .iadd, 1), (1590, .iaload, 1), (1591, .aload_n 0, 1), (1592, .iload_n 3, 1), (1593, .iconst 3, 1), (1594, .iadd, 1), (1595, .iaload, 1), (1596, .invokevirtual 139, 3), (1599, .pop, 1), (1600, .aload_n 2, 1), (1601, .aload_n 0, 1), (1602, .iload_n 3, 1), (1603, .iconst 1, 1), (1604, .iadd, 1), (1605, .iaload, 1), (1606, .aload_n 0, 1), (1607, .iload_n 3, 1), (1608, .iconst 2, 1), (1609, .iadd, 1), (1610, .iaload, 1), (1611, .aload_n 0, 1), (1612, .iload_n 3, 1), (1613, .iconst 3, 1), (1614, .iadd, 1), (1615, .iaload, 1), (1616, .invokevirtual 142, 3), (1619, .pop, 1), (1620, .goto 1125, 3), (1623, .aload_n 1, 1), (1624, .aload_n 0, 1), (1625, .iload_n 3, 1), (1626, .iconst 1, 1), (1627, .iadd, 1), (1628, .iaload, 1), (1629, .aload_n 0, 1), (1630, .iload_n 3, 1), (1631, .iconst 2, 1), (1632, .iadd, 1), (1633, .iaload, 1), (1634, .invokevirtual 143, 3), (1637, .pop, 1), (1638, .aload_n 2, 1), (1639, .aload_n 0, 1), (1640, .iload_n 3, 1), (1641, .iconst 1, 1), (1642, .iadd, 1), (1643, .iaload, 1), (1644, .aload_n 0, 1), (1645, .iload_n 3, 1), (1646, .iconst 2, 1), (1647, .iadd, 1), (1648, .iaload, 1), (1649, .invokevirtual 146, 3), (1652, .pop, 1), (1653, .goto 1092, 3), (1656, .aload_n 1, 1), (1657, .aload_n 0, 1), (1658, .iload_n 3, 1), (1659, .iconst 1, 1), (1660, .iadd, 1), (1661, .iaload, 1), (1662, .aload_n 0, 1), (1663, .iload_n 3, 1), (1664, .iconst 2, 1), (1665, .iadd, 1), (1666, .iaload, 1), (1667, .invokevirtual 147, 3), (1670, .pop, 1), (1671, .aload_n 2, 1), (1672, .aload_n 0, 1), (1673, .iload_n 3, 1), (1674, .iconst 1, 1), (1675, .iadd, 1), (1676, .iaload, 1), (1677, .aload_n 0, 1), (1678, .iload_n 3, 1), (1679, .iconst 2, 1), (1680, .iadd, 1), (1681, .iaload, 1), (1682, .invokevirtual 150, 3), (1685, .pop, 1), (1686, .goto 1059, 3), (1689, .aload_n 1, 1), (1690, .aload_n 0, 1), (1691, .iload_n 3, 1), (1692, .iconst 1, 1), (1693, .iadd, 1), (1694, .iaload, 1), (1695, .aload_n 0, 1), (1696, .iload_n 3, 1), (1697, .iconst 2, 1), (1698, .iadd, 1), (1699, .iaload, 1)]
theorem kL_law_11 : chkB code LL_law_11 = true := by decide +kernel
theorem dL_law_1582 : decode code 1582 = .ok (.iload_n 3, 1) := getB' kL_law_11 0 rfl
theorem dL_law_1583 : decode code 1583 = .ok (.iconst 1, 1) := getB' kL_law_11 1 rfl
theorem dL_law_1584 : decode code 1584 = .ok (.iadd, 1) := getB' kL_law_11 2 rfl
theorem dL_law_1585 : decode code 1585 = .ok (.iaload, 1) := getB' kL_law_11 3 rfl
theorem dL_law_1586 : decode code 1586 = .ok (.aload_n 0, 1) := getB' kL_law_11 4 rfl
theorem dL_law_1587 : decode code 1587 = .ok (.iload_n 3, 1) := getB' kL_law_11 5 rfl
theorem dL_law_1588 : decode code 1588 = .ok (.iconst 2, 1) := getB' kL_law_11 6 rfl
theorem dL_law_1589 : decode code 1589 = .ok (.iadd, 1) := getB' kL_law_11 7 rfl
theorem dL_law_1590 : decode code 1590 = .ok (.iaload, 1) := getB' kL_law_11 8 rfl
theorem dL_law_1591 : decode code 1591 = .ok (.aload_n 0, 1) := getB' kL_law_11 9 rfl
theorem dL_law_1592 : decode code 1592 = .ok (.iload_n 3, 1) := getB' kL_law_11 10 rfl
theorem dL_law_1593 : decode code 1593 = .ok (.iconst 3, 1) := getB' kL_law_11 11 rfl
theorem dL_law_1594 : decode code 1594 = .ok (.iadd, 1) := getB' kL_law_11 12 rfl
theorem dL_law_1595 : decode code 1595 = .ok (.iaload, 1) := getB' kL_law_11 13 rfl
theorem dL_law_1596 : decode code 1596 = .ok (.invokevirtual 139, 3) := getB' kL_law_11 14 rfl
theorem dL_law_1599 : decode code 1599 = .ok (.pop, 1) := getB' kL_law_11 15 rfl
theorem dL_law_1600 : decode code 1600 = .ok (.aload_n 2, 1) := getB' kL_law_11 16 rfl
theorem dL_law_1601 : decode code 1601 = .ok (.aload_n 0, 1) := getB' kL_law_11 17 rfl
theorem dL_law_1602 : decode code 1602 = .ok (.iload_n 3, 1) := getB' kL_law_11 18 rfl
theorem dL_law_1603 : decode code 1603 = .ok (.iconst 1, 1) := getB' kL_law_11 19 rfl
theorem dL_law_1604 : decode code 1604 = .ok (.iadd, 1) := getB' kL_law_11 20 rfl
theorem dL_law_1605 : decode code 1605 = .ok (.iaload, 1) := getB' kL_law_11 21 rfl
theorem dL_law_1606 : decode code 1606 = .ok (.aload_n 0, 1) := getB' kL_law_11 22 rfl
theorem dL_law_1607 : decode code 1607 = .ok (.iload_n 3, 1) := getB' kL_law_11 23 rfl
theorem dL_law_1608 : decode code 1608 = .ok (.iconst 2, 1) := getB' kL_law_11 24 rfl
theorem dL_law_1609 : decode code 1609 = .ok (.iadd, 1) := getB' kL_law_11 25 rfl
theorem dL_law_1610 : decode code 1610 = .ok (.iaload, 1) := getB' kL_law_11 26 rfl
theorem dL_law_1611 : decode code 1611 = .ok (.aload_n 0, 1) := getB' kL_law_11 27 rfl
theorem dL_law_1612 : decode code 1612 = .ok (.iload_n 3, 1) := getB' kL_law_11 28 rfl
theorem dL_law_1613 : decode code 1613 = .ok (.iconst 3, 1) := getB' kL_law_11 29 rfl
theorem dL_law_1614 : decode code 1614 = .ok (.iadd, 1) := getB' kL_law_11 30 rfl
theorem dL_law_1615 : decode code 1615 = .ok (.iaload, 1) := getB' kL_law_11 31 rfl
theorem dL_law_1616 : decode code 1616 = .ok (.invokevirtual 142, 3) := getB' kL_law_11 32 rfl
theorem dL_law_1619 : decode code 1619 = .ok (.pop, 1) := getB' kL_law_11 33 rfl
theorem dL_law_1620 : decode code 1620 = .ok (.goto 1125, 3) := getB' kL_law_11 34 rfl
theorem dL_law_1623 : decode code 1623 = .ok (.aload_n 1, 1) := getB' kL_law_11 35 rfl
theorem dL_law_1624 : decode code 1624 = .ok (.aload_n 0, 1) := getB' kL_law_11 36 rfl
theorem dL_law_1625 : decode code 1625 = .ok (.iload_n 3, 1) := getB' kL_law_11 37 rfl
theorem dL_law_1626 : decode code 1626 = .ok (.iconst 1, 1) := getB' kL_law_11 38 rfl
theorem dL_law_1627 : decode code 1627 = .ok (.iadd, 1) := getB' kL_law_11 39 rfl
theorem dL_law_1628 : decode code 1628 = .ok (.iaload, 1) := getB' kL_law_11 40 rfl
theorem dL_law_1629 : decode code 1629 = .ok (.aload_n 0, 1) := getB' kL_law_11 41 rfl
theorem dL_law_1630 : decode code 1630 = .ok (.iload_n 3, 1) := getB' kL_law_11 42 rfl
theorem dL_law_1631 : decode code 1631 = .ok (.iconst 2, 1) := getB' kL_law_11 43 rfl
theorem dL_law_1632 : decode code 1632 = .ok (.iadd, 1) := getB' kL_law_11 44 rfl
theorem dL_law_1633 : decode code 1633 = .ok (.iaload, 1) := getB' kL_law_11 45 rfl
theorem dL_law_1634 : decode code 1634 = .ok (.invokevirtual 143, 3) := getB' kL_law_11 46 rfl
theorem dL_law_1637 : decode code 1637 = .ok (.pop, 1) := getB' kL_law_11 47 rfl
theorem dL_law_1638 : decode code 1638 = .ok (.aload_n 2, 1) := getB' kL_law_11 48 rfl
theorem dL_law_1639 : decode code 1639 = .ok (.aload_n 0, 1) := getB' kL_law_11 49 rfl
theorem dL_law_1640 : decode code 1640 = .ok (.iload_n 3, 1) := getB' kL_law_11 50 rfl
theorem dL_law_1641 : decode code 1641 = .ok (.iconst 1, 1) := getB' kL_law_11 51 rfl
theorem dL_law_1642 : decode code 1642 = .ok (.iadd, 1) := getB' kL_law_11 52 rfl
theorem dL_law_1643 : decode code 1643 = .ok (.iaload, 1) := getB' kL_law_11 53 rfl
theorem dL_law_1644 : decode code 1644 = .ok (.aload_n 0, 1) := getB' kL_law_11 54 rfl
theorem dL_law_1645 : decode code 1645 = .ok (.iload_n 3, 1) := getB' kL_law_11 55 rfl
theorem dL_law_1646 : decode code 1646 = .ok (.iconst 2, 1) := getB' kL_law_11 56 rfl
theorem dL_law_1647 : decode code 1647 = .ok (.iadd, 1) := getB' kL_law_11 57 rfl
theorem dL_law_1648 : decode code 1648 = .ok (.iaload, 1) := getB' kL_law_11 58 rfl
theorem dL_law_1649 : decode code 1649 = .ok (.invokevirtual 146, 3) := getB' kL_law_11 59 rfl
theorem dL_law_1652 : decode code 1652 = .ok (.pop, 1) := getB' kL_law_11 60 rfl
theorem dL_law_1653 : decode code 1653 = .ok (.goto 1092, 3) := getB' kL_law_11 61 rfl
theorem dL_law_1656 : decode code 1656 = .ok (.aload_n 1, 1) := getB' kL_law_11 62 rfl
theorem dL_law_1657 : decode code 1657 = .ok (.aload_n 0, 1) := getB' kL_law_11 63 rfl
theorem dL_law_1658 : decode code 1658 = .ok (.iload_n 3, 1) := getB' kL_law_11 64 rfl
theorem dL_law_1659 : decode code 1659 = .ok (.iconst 1, 1) := getB' kL_law_11 65 rfl
theorem dL_law_1660 : decode code 1660 = .ok (.iadd, 1) := getB' kL_law_11 66 rfl
theorem dL_law_1661 : decode code 1661 = .ok (.iaload, 1) := getB' kL_law_11 67 rfl
theorem dL_law_1662 : decode code 1662 = .ok (.aload_n 0, 1) := getB' kL_law_11 68 rfl
theorem dL_law_1663 : decode code 1663 = .ok (.iload_n 3, 1) := getB' kL_law_11 69 rfl
theorem dL_law_1664 : decode code 1664 = .ok (.iconst 2, 1) := getB' kL_law_11 70 rfl
theorem dL_law_1665 : decode code 1665 = .ok (.iadd, 1) := getB' kL_law_11 71 rfl
theorem dL_law_1666 : decode code 1666 = .ok (.iaload, 1) := getB' kL_law_11 72 rfl
theorem dL_law_1667 : decode code 1667 = .ok (.invokevirtual 147, 3) := getB' kL_law_11 73 rfl
theorem dL_law_1670 : decode code 1670 = .ok (.pop, 1) := getB' kL_law_11 74 rfl
theorem dL_law_1671 : decode code 1671 = .ok (.aload_n 2, 1) := getB' kL_law_11 75 rfl
theorem dL_law_1672 : decode code 1672 = .ok (.aload_n 0, 1) := getB' kL_law_11 76 rfl
theorem dL_law_1673 : decode code 1673 = .ok (.iload_n 3, 1) := getB' kL_law_11 77 rfl
theorem dL_law_1674 : decode code 1674 = .ok (.iconst 1, 1) := getB' kL_law_11 78 rfl
theorem dL_law_1675 : decode code 1675 = .ok (.iadd, 1) := getB' kL_law_11 79 rfl
theorem dL_law_1676 : decode code 1676 = .ok (.iaload, 1) := getB' kL_law_11 80 rfl
theorem dL_law_1677 : decode code 1677 = .ok (.aload_n 0, 1) := getB' kL_law_11 81 rfl
theorem dL_law_1678 : decode code 1678 = .ok (.iload_n 3, 1) := getB' kL_law_11 82 rfl
theorem dL_law_1679 : decode code 1679 = .ok (.iconst 2, 1) := getB' kL_law_11 83 rfl
theorem dL_law_1680 : decode code 1680 = .ok (.iadd, 1) := getB' kL_law_11 84 rfl
theorem dL_law_1681 : decode code 1681 = .ok (.iaload, 1) := getB' kL_law_11 85 rfl
theorem dL_law_1682 : decode code 1682 = .ok (.invokevirtual 150, 3) := getB' kL_law_11 86 rfl
theorem dL_law_1685 : decode code 1685 = .ok (.pop, 1) := getB' kL_law_11 87 rfl
theorem dL_law_1686 : decode code 1686 = .ok (.goto 1059, 3) := getB' kL_law_11 88 rfl
theorem dL_law_1689 : decode code 1689 = .ok (.aload_n 1, 1) := getB' kL_law_11 89 rfl
theorem dL_law_1690 : decode code 1690 = .ok (.aload_n 0, 1) := getB' kL_law_11 90 rfl
theorem dL_law_1691 : decode code 1691 = .ok (.iload_n 3, 1) := getB' kL_law_11 91 rfl
theorem dL_law_1692 : decode code 1692 = .ok (.iconst 1, 1) := getB' kL_law_11 92 rfl
theorem dL_law_1693 : decode code 1693 = .ok (.iadd, 1) := getB' kL_law_11 93 rfl
theorem dL_law_1694 : decode code 1694 = .ok (.iaload, 1) := getB' kL_law_11 94 rfl
theorem dL_law_1695 : decode code 1695 = .ok (.aload_n 0, 1) := getB' kL_law_11 95 rfl
theorem dL_law_1696 : decode code 1696 = .ok (.iload_n 3, 1) := getB' kL_law_11 96 rfl
theorem dL_law_1697 : decode code 1697 = .ok (.iconst 2, 1) := getB' kL_law_11 97 rfl
theorem dL_law_1698 : decode code 1698 = .ok (.iadd, 1) := getB' kL_law_11 98 rfl
theorem dL_law_1699 : decode code 1699 = .ok (.iaload, 1) := getB' kL_law_11 99 rfl
