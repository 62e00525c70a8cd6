def LL_law_12 : List (Nat × Instr × Nat) := [(1700, .aload_n 0, 1), (1701, .iload_n 3, 1), (1702, .iconst 3, 1), (1703, .iadd, 1), (1704, .iaload, 1), (1705, .invokevirtual 151, 3), (1708, .pop, 1), (1709, .aload_n 2, 1), (1710, .aload_n 0, 1), (1711, .iload_n 3, 1), (1712, .iconst 1, 1), (1713, .iadd, 1), (1714, .iaload, 1), (1715, .aload_n 0, 1), (1716, .iload_n 3, 1), (1717, .iconst 2, 1), (1718, .iadd, 1), (1719, .iaload, 1), (1720, .aload_n 0, 1), (1721, .iload_n 3, 1), (1722, .iconst 3, 1), (1723, .iadd, 1), (1724, .iaload, 1), (1725, .invokevirtual 154, 3), (1728, .pop, 1), (1729, .goto 1016, 3), (1732, .aload_n 1, 1), (1733, .aload_n 0, 1), (1734, .iload_n 3, 1), (1735, .iconst 1, 1), (1736, .iadd, 1), (1737, .iaload, 1), (1738, .aload_n 0, 1), (1739, .iload_n 3, 1), (1740, .iconst 2, 1), (1741, .iadd, 1), (1742, .iaload, 1), (1743, .invokevirtual 155, 3), (1746, .pop, 1), (1747, .aload_n 2, 1), (1748, .aload_n 0, 1), (1749, .iload_n 3, 1), (1750, .iconst 1, 1), (1751, .iadd, 1), (1752, .iaload, 1), (1753, .aload_n 0, 1), (1754, .iload_n 3, 1), (1755, .iconst 2, 1), (1756, .iadd, 1), (1757, .iaload, 1), (1758, .invokevirtual 158, 3), (1761, .pop, 1), (1762, .goto 983, 3), (1765, .aload_n 1, 1), (1766, .aload_n 0, 1), (1767, .iload_n 3, 1), (1768, .iconst 1, 1), (1769, .iadd, 1), (1770, .iaload, 1), (1771, .aload_n 0, 1), (1772, .iload_n 3, 1), (1773, .iconst 2, 1), (1774, .iadd, 1), (1775, .iaload, 1), (1776, .invokevirtual 159, 3), (1779, .pop, 1), (1780, .aload_n 2, 1), (1781, .aload_n 0, 1), (1782, .iload_n 3, 1), (1783, .iconst 1, 1), (1784, .iadd, 1), (1785, .iaload, 1), (1786, .aload_n 0, 1), (1787, .iload_n 3, 1), (1788, .iconst 2, 1), (1789, .iadd, 1), (1790, .iaload, 1), (1791, .invokevirtual 162, 3), (1794, .pop, 1), (1795, .goto 950, 3), (1798, .aload_n 1, 1), (1799, .invokevirtual 163, 3), (1802, .aload_n 2, 1), (1803, .invokevirtual 167, 3), (1806, .if_icmp .eq 939, 3), (1809, .iconst 0, 1), (1810, .ireturn, 1), (1811, .aload_n 1, 1), (1812, .aload_n 0, 1), (1813, .iload_n 3, 1), (1814, .iconst 1, 1), (1815, .iadd, 1), (1816, .iaload, 1), (1817, .aload_n 0, 1), (1818, .iload_n 3, 1), (1819, .iconst 2, 1), (1820, .iadd, 1), (1821, .iaload, 1), (1822, .aload_n 0, 1), (1823, .iload_n 3, 1)]
theorem kL_law_12 : chkB code LL_law_12 = true := by decide +kernel
theorem dL_law_1700 : decode code 1700 = .ok (.aload_n 0, 1) := getB' kL_law_12 0 rfl
theorem dL_law_1701 : decode code 1701 = .ok (.iload_n 3, 1) := getB' kL_law_12 1 rfl
theorem dL_law_1702 : decode code 1702 = .ok (.iconst 3, 1) := getB' kL_law_12 2 rfl
theorem dL_law_1703 : decode code 1703 = .ok (.iadd, 1) := getB' kL_law_12 3 rfl
theorem dL_law_1704 : decode code 1704 = .ok (.iaload, 1) := getB' kL_law_12 4 rfl
theorem dL_law_1705 : decode code 1705 = .ok (.invokevirtual 151, 3) := getB' kL_law_12 5 rfl
theorem dL_law_1708 : decode code 1708 = .ok (.pop, 1) := getB' kL_law_12 6 rfl
theorem dL_law_1709 : decode code 1709 = .ok (.aload_n 2, 1) := getB' kL_law_12 7 rfl
theorem dL_law_1710 : decode code 1710 = .ok (.aload_n 0, 1) := getB' kL_law_12 8 rfl
theorem dL_law_1711 : decode code 1711 = .ok (.iload_n 3, 1) := getB' kL_law_12 9 rfl
theorem dL_law_1712 : decode code 1712 = .ok (.iconst 1, 1) := getB' kL_law_12 10 rfl
theorem dL_law_1713 : decode code 1713 = .ok (.iadd, 1) := getB' kL_law_12 11 rfl
theorem dL_law_1714 : decode code 1714 = .ok (.iaload, 1) := getB' kL_law_12 12 rfl
theorem dL_law_1715 : decode code 1715 = .ok (.aload_n 0, 1) := getB' kL_law_12 13 rfl
theorem dL_law_1716 : decode code 1716 = .ok (.iload_n 3, 1) := getB' kL_law_12 14 rfl
theorem dL_law_1717 : decode code 1717 = .ok (.iconst 2, 1) := getB' kL_law_12 15 rfl
theorem dL_law_1718 : decode code 1718 = .ok (.iadd, 1) := getB' kL_law_12 16 rfl
theorem dL_law_1719 : decode code 1719 = .ok (.iaload, 1) := getB' kL_law_12 17 rfl
theorem dL_law_1720 : decode code 1720 = .ok (.aload_n 0, 1) := getB' kL_law_12 18 rfl
theorem dL_law_1721 : decode code 1721 = .ok (.iload_n 3, 1) := getB' kL_law_12 19 rfl
theorem dL_law_1722 : decode code 1722 = .ok (.iconst 3, 1) := getB' kL_law_12 20 rfl
theorem dL_law_1723 : decode code 1723 = .ok (.iadd, 1) := getB' kL_law_12 21 rfl
theorem dL_law_1724 : decode code 1724 = .ok (.iaload, 1) := getB' kL_law_12 22 rfl
theorem dL_law_1725 : decode code 1725 = .ok (.invokevirtual 154, 3) := getB' kL_law_12 23 rfl
theorem dL_law_1728 : decode code 1728 = .ok (.pop, 1) := getB' kL_law_12 24 rfl
theorem dL_law_1729 : decode code 1729 = .ok (.goto 1016, 3) := getB' kL_law_12 25 rfl
theorem dL_law_1732 : decode code 1732 = .ok (.aload_n 1, 1) := getB' kL_law_12 26 rfl
theorem dL_law_1733 : decode code 1733 = .ok (.aload_n 0, 1) := getB' kL_law_12 27 rfl
theorem dL_law_1734 : decode code 1734 = .ok (.iload_n 3, 1) := getB' kL_law_12 28 rfl
theorem dL_law_1735 : decode code 1735 = .ok (.iconst 1, 1) := getB' kL_law_12 29 rfl
theorem dL_law_1736 : decode code 1736 = .ok (.iadd, 1) := getB' kL_law_12 30 rfl
theorem dL_law_1737 : decode code 1737 = .ok (.iaload, 1) := getB' kL_law_12 31 rfl
theorem dL_law_1738 : decode code 1738 = .ok (.aload_n 0, 1) := getB' kL_law_12 32 rfl
theorem dL_law_1739 : decode code 1739 = .ok (.iload_n 3, 1) := getB' kL_law_12 33 rfl
theorem dL_law_1740 : decode code 1740 = .ok (.iconst 2, 1) := getB' kL_law_12 34 rfl
theorem dL_law_1741 : decode code 1741 = .ok (.iadd, 1) := getB' kL_law_12 35 rfl
theorem dL_law_1742 : decode code 1742 = .ok (.iaload, 1) := getB' kL_law_12 36 rfl
theorem dL_law_1743 : decode code 1743 = .ok (.invokevirtual 155, 3) := getB' kL_law_12 37 rfl
theorem dL_law_1746 : decode code 1746 = .ok (.pop, 1) := getB' kL_law_12 38 rfl
theorem dL_law_1747 : decode code 1747 = .ok (.aload_n 2, 1) := getB' kL_law_12 39 rfl
theorem dL_law_1748 : decode code 1748 = .ok (.aload_n 0, 1) := getB' kL_law_12 40 rfl
theorem dL_law_1749 : decode code 1749 = .ok (.iload_n 3, 1) := getB' kL_law_12 41 rfl
theorem dL_law_1750 : decode code 1750 = .ok (.iconst 1, 1) := getB' kL_law_12 42 rfl
theorem dL_law_1751 : decode code 1751 = .ok (.iadd, 1) := getB' kL_law_12 43 rfl
theorem dL_law_1752 : decode code 1752 = .ok (.iaload, 1) := getB' kL_law_12 44 rfl
theorem dL_law_1753 : decode code 1753 = .ok (.aload_n 0, 1) := getB' kL_law_12 45 rfl
theorem dL_law_1754 : decode code 1754 = .ok (.iload_n 3, 1) := getB' kL_law_12 46 rfl
theorem dL_law_1755 : decode code 1755 = .ok (.iconst 2, 1) := getB' kL_law_12 47 rfl
theorem dL_law_1756 : decode code 1756 = .ok (.iadd, 1) := getB' kL_law_12 48 rfl
theorem dL_law_1757 : decode code 1757 = .ok (.iaload, 1) := getB' kL_law_12 49 rfl
theorem dL_law_1758 : decode code 1758 = .ok (.invokevirtual 158, 3) := getB' kL_law_12 50 rfl
theorem dL_law_1761 : decode code 1761 = .ok (.pop, 1) := getB' kL_law_12 51 rfl
theorem dL_law_1762 : decode code 1762 = .ok (.goto 983, 3) := getB' kL_law_12 52 rfl
theorem dL_law_1765 : decode code 1765 = .ok (.aload_n 1, 1) := getB' kL_law_12 53 rfl
theorem dL_law_1766 : decode code 1766 = .ok (.aload_n 0, 1) := getB' kL_law_12 54 rfl
theorem dL_law_1767 : decode code 1767 = .ok (.iload_n 3, 1) := getB' kL_law_12 55 rfl
theorem dL_law_1768 : decode code 1768 = .ok (.iconst 1, 1) := getB' kL_law_12 56 rfl
theorem dL_law_1769 : decode code 1769 = .ok (.iadd, 1) := getB' kL_law_12 57 rfl
theorem dL_law_1770 : decode code 1770 = .ok (.iaload, 1) := getB' kL_law_12 58 rfl
theorem dL_law_1771 : decode code 1771 = .ok (.aload_n 0, 1) := getB' kL_law_12 59 rfl
theorem dL_law_1772 : decode code 1772 = .ok (.iload_n 3, 1) := getB' kL_law_12 60 rfl
theorem dL_law_1773 : decode code 1773 = .ok (.iconst 2, 1) := getB' kL_law_12 61 rfl
theorem dL_law_1774 : decode code 1774 = .ok (.iadd, 1) := getB' kL_law_12 62 rfl
theorem dL_law_1775 : decode code 1775 = .ok (.iaload, 1) := getB' kL_law_12 63 rfl
theorem dL_law_1776 : decode code 1776 = .ok (.invokevirtual 159, 3) := getB' kL_law_12 64 rfl
theorem dL_law_1779 : decode code 1779 = .ok (.pop, 1) := getB' kL_law_12 65 rfl
theorem dL_law_1780 : decode code 1780 = .ok (.aload_n 2, 1) := getB' kL_law_12 66 rfl
theorem dL_law_1781 : decode code 1781 = .ok (.aload_n 0, 1) := getB' kL_law_12 67 rfl
theorem dL_law_1782 : decode code 1782 = .ok (.iload_n 3, 1) := getB' kL_law_12 68 rfl
theorem dL_law_1783 : decode code 1783 = .ok (.iconst 1, 1) := getB' kL_law_12 69 rfl
theorem dL_law_1784 : decode code 1784 = .ok (.iadd, 1) := getB' kL_law_12 70 rfl
theorem dL_law_1785 : decode code 1785 = .ok (.iaload, 1) := getB' kL_law_12 71 rfl
theorem dL_law_1786 : decode code 1786 = .ok (.aload_n 0, 1) := getB' kL_law_12 72 rfl
theorem dL_law_1787 : decode code 1787 = .ok (.iload_n 3, 1) := getB' kL_law_12 73 rfl
theorem dL_law_1788 : decode code 1788 = .ok (.iconst 2, 1) := getB' kL_law_12 74 rfl
theorem dL_law_1789 : decode code 1789 = .ok (.iadd, 1) := getB' kL_law_12 75 rfl
theorem dL_law_1790 : decode code 1790 = .ok (.iaload, 1) := getB' kL_law_12 76 rfl
theorem dL_law_1791 : decode code 1791 = .ok (.invokevirtual 162, 3) := getB' kL_law_12 77 rfl
theorem dL_law_1794 : decode code 1794 = .ok (.pop, 1) := getB' kL_law_12 78 rfl
theorem dL_law_1795 : decode code 1795 = .ok (.goto 950, 3) := getB' kL_law_12 79 rfl
theorem dL_law_1798 : decode code 1798 = .ok (.aload_n 1, 1) := getB' kL_law_12 80 rfl
theorem dL_law_1799 : decode code 1799 = .ok (.invokevirtual 163, 3) := getB' kL_law_12 81 rfl
theorem dL_law_1802 : decode code 1802 = .ok (.aload_n 2, 1) := getB' kL_law_12 82 rfl
theorem dL_law_1803 : decode code 1803 = .ok (.invokevirtual 167, 3) := getB' kL_law_12 83 rfl
theorem dL_law_1806 : decode code 1806 = .ok (.if_icmp .eq 939, 3) := getB' kL_law_12 84 rfl
theorem dL_law_1809 : decode code 1809 = .ok (.iconst 0, 1) := getB' kL_law_12 85 rfl
theorem dL_law_1810 : decode code 1810 = .ok (.ireturn, 1) := getB' kL_law_12 86 rfl
theorem dL_law_1811 : decode code 1811 = .ok (.aload_n 1, 1) := getB' kL_law_12 87 rfl
theorem dL_law_1812 : decode code 1812 = .ok (.aload_n 0, 1) := getB' kL_law_12 88 rfl
theorem dL_law_1813 : decode code 1813 = .ok (.iload_n 3, 1) := getB' kL_law_12 89 rfl
theorem dL_law_1814 : decode code 1814 = .ok (.iconst 1, 1) := getB' kL_law_12 90 rfl
theorem dL_law_1815 : decode code 1815 = .ok (.iadd, 1) := getB' kL_law_12 91 rfl
theorem dL_law_1816 : decode code 1816 = .ok (.iaload, 1) := getB' kL_law_12 92 rfl
theorem dL_law_1817 : decode code 1817 = .ok (.aload_n 0, 1) := getB' kL_law_12 93 rfl
theorem dL_law_1818 : decode code 1818 = .ok (.iload_n 3, 1) := getB' kL_law_12 94 rfl
theorem dL_law_1819 : decode code 1819 = .ok (.iconst 2, 1) := getB' kL_law_12 95 rfl
theorem dL_law_1820 : decode code 1820 = .ok (.iadd, 1) := getB' kL_law_12 96 rfl
theorem dL_law_1821 : decode code 1821 = .ok (.iaload, 1) := getB' kL_law_12 97 rfl
theorem dL_law_1822 : decode code 1822 = .ok (.aload_n 0, 1) := getB' kL_law_12 98 rfl
theorem dL_law_1823 : decode code 1823 = .ok (.iload_n 3, 1) := getB' kL_law_12 99 rfl
