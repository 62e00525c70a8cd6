def LL_law_13 : List (Nat × Instr × Nat) := [(1824, .iconst 3, 1), (1825, .iadd, 1), (1826, .iaload, 1), (1827, .invokevirtual 168, 3), (1830, .pop, 1), (1831, .aload_n 2, 1), (1832, .aload_n 0, 1), (1833, .iload_n 3, 1), (1834, .iconst 1, 1), (1835, .iadd, 1), (1836, .iaload, 1), (1837, .aload_n 0, 1), (1838, .iload_n 3, 1), (1839, .iconst 2, 1), (1840, .iadd, 1), (1841, .iaload, 1), (1842, .aload_n 0, 1), (1843, .iload_n 3, 1), (1844, .iconst 3, 1), (1845, .iadd, 1), (1846, .iaload, 1), (1847, .invokevirtual 171, 3), (1850, .pop, 1), (1851, .goto 894, 3), (1854, .aload_n 1, 1), (1855, .aload_n 0, 1), (1856, .iload_n 3, 1), (1857, .iconst 1, 1), (1858, .iadd, 1), (1859, .iaload, 1), (1860, .invokevirtual 172, 3), (1863, .pop, 1), (1864, .aload_n 2, 1), (1865, .aload_n 0, 1), (1866, .iload_n 3, 1), (1867, .iconst 1, 1), (1868, .iadd, 1), (1869, .iaload, 1), (1870, .invokevirtual 176, 3), (1873, .pop, 1), (1874, .goto 871, 3), (1877, .aload_n 1, 1), (1878, .aload_n 0, 1), (1879, .iload_n 3, 1), (1880, .iconst 1, 1), (1881, .iadd, 1), (1882, .iaload, 1), (1883, .aload_n 0, 1), (1884, .iload_n 3, 1), (1885, .iconst 2, 1), (1886, .iadd, 1), (1887, .iaload, 1), (1888, .invokevirtual 177, 3), (1891, .pop, 1), (1892, .aload_n 2, 1), (1893, .aload_n 0, 1), (1894, .iload_n 3, 1), (1895, .iconst 1, 1), (1896, .iadd, 1), (1897, .iaload, 1), (1898, .aload_n 0, 1), (1899, .iload_n 3, 1), (1900, .iconst 2, 1), (1901, .iadd, 1), (1902, .iaload, 1), (1903, .invokevirtual 180, 3), (1906, .pop, 1), (1907, .goto 838, 3), (1910, .aload_n 1, 1), (1911, .aload_n 0, 1), (1912, .iload_n 3, 1), (1913, .iconst 1, 1), (1914, .iadd, 1), (1915, .iaload, 1), (1916, .aload_n 0, 1), (1917, .iload_n 3, 1), (1918, .iconst 2, 1), (1919, .iadd, 1), (1920, .iaload, 1), (1921, .invokevirtual 181, 3), (1924, .pop, 1), (1925, .aload_n 2, 1), (1926, .aload_n 0, 1), (1927, .iload_n 3, 1), (1928, .iconst 1, 1), (1929, .iadd, 1), (1930, .iaload, 1), (1931, .aload_n 0, 1), (1932, .iload_n 3, 1), (1933, .iconst 2, 1), (1934, .iadd, 1), (1935, .iaload, 1), (1936, .invokevirtual 184, 3), (1939, .pop, 1), (1940, .goto 805, 3), (1943, .aload_n 1, 1), (1944, .aload_n 0, 1), (1945, .iload_n 3, 1), (1946, .iconst 1, 1), (1947, .iadd, 1)]
theorem kL_law_13 : chkB code LL_law_13 = true := by decide +kernel
theorem dL_law_1824 : decode code 1824 = .ok (.iconst 3, 1) := getB' kL_law_13 0 rfl
theorem dL_law_1825 : decode code 1825 = .ok (.iadd, 1) := getB' kL_law_13 1 rfl
theorem dL_law_1826 : decode code 1826 = .ok (.iaload, 1) := getB' kL_law_13 2 rfl
theorem dL_law_1827 : decode code 1827 = .ok (.invokevirtual 168, 3) := getB' kL_law_13 3 rfl
theorem dL_law_1830 : decode code 1830 = .ok (.pop, 1) := getB' kL_law_13 4 rfl
theorem dL_law_1831 : decode code 1831 = .ok (.aload_n 2, 1) := getB' kL_law_13 5 rfl
theorem dL_law_1832 : decode code 1832 = .ok (.aload_n 0, 1) := getB' kL_law_13 6 rfl
theorem dL_law_1833 : decode code 1833 = .ok (.iload_n 3, 1) := getB' kL_law_13 7 rfl
theorem dL_law_1834 : decode code 1834 = .ok (.iconst 1, 1) := getB' kL_law_13 8 rfl
theorem dL_law_1835 : decode code 1835 = .ok (.iadd, 1) := getB' kL_law_13 9 rfl
theorem dL_law_1836 : decode code 1836 = .ok (.iaload, 1) := getB' kL_law_13 10 rfl
theorem dL_law_1837 : decode code 1837 = .ok (.aload_n 0, 1) := getB' kL_law_13 11 rfl
theorem dL_law_1838 : decode code 1838 = .ok (.iload_n 3, 1) := getB' kL_law_13 12 rfl
theorem dL_law_1839 : decode code 1839 = .ok (.iconst 2, 1) := getB' kL_law_13 13 rfl
theorem dL_law_1840 : decode code 1840 = .ok (.iadd, 1) := getB' kL_law_13 14 rfl
theorem dL_law_1841 : decode code 1841 = .ok (.iaload, 1) := getB' kL_law_13 15 rfl
theorem dL_law_1842 : decode code 1842 = .ok (.aload_n 0, 1) := getB' kL_law_13 16 rfl
theorem dL_law_1843 : decode code 1843 = .ok (.iload_n 3, 1) := getB' kL_law_13 17 rfl
theorem dL_law_1844 : decode code 1844 = .ok (.iconst 3, 1) := getB' kL_law_13 18 rfl
theorem dL_law_1845 : decode code 1845 = .ok (.iadd, 1) := getB' kL_law_13 19 rfl
theorem dL_law_1846 : decode code 1846 = .ok (.iaload, 1) := getB' kL_law_13 20 rfl
theorem dL_law_1847 : decode code 1847 = .ok (.invokevirtual 171, 3) := getB' kL_law_13 21 rfl
theorem dL_law_1850 : decode code 1850 = .ok (.pop, 1) := getB' kL_law_13 22 rfl
theorem dL_law_1851 : decode code 1851 = .ok (.goto 894, 3) := getB' kL_law_13 23 rfl
theorem dL_law_1854 : decode code 1854 = .ok (.aload_n 1, 1) := getB' kL_law_13 24 rfl
theorem dL_law_1855 : decode code 1855 = .ok (.aload_n 0, 1) := getB' kL_law_13 25 rfl
theorem dL_law_1856 : decode code 1856 = .ok (.iload_n 3, 1) := getB' kL_law_13 26 rfl
theorem dL_law_1857 : decode code 1857 = .ok (.iconst 1, 1) := getB' kL_law_13 27 rfl
theorem dL_law_1858 : decode code 1858 = .ok (.iadd, 1) := getB' kL_law_13 28 rfl
theorem dL_law_1859 : decode code 1859 = .ok (.iaload, 1) := getB' kL_law_13 29 rfl
theorem dL_law_1860 : decode code 1860 = .ok (.invokevirtual 172, 3) := getB' kL_law_13 30 rfl
theorem dL_law_1863 : decode code 1863 = .ok (.pop, 1) := getB' kL_law_13 31 rfl
theorem dL_law_1864 : decode code 1864 = .ok (.aload_n 2, 1) := getB' kL_law_13 32 rfl
theorem dL_law_1865 : decode code 1865 = .ok (.aload_n 0, 1) := getB' kL_law_13 33 rfl
theorem dL_law_1866 : decode code 1866 = .ok (.iload_n 3, 1) := getB' kL_law_13 34 rfl
theorem dL_law_1867 : decode code 1867 = .ok (.iconst 1, 1) := getB' kL_law_13 35 rfl
theorem dL_law_1868 : decode code 1868 = .ok (.iadd, 1) := getB' kL_law_13 36 rfl
theorem dL_law_1869 : decode code 1869 = .ok (.iaload, 1) := getB' kL_law_13 37 rfl
theorem dL_law_1870 : decode code 1870 = .ok (.invokevirtual 176, 3) := getB' kL_law_13 38 rfl
theorem dL_law_1873 : decode code 1873 = .ok (.pop, 1) := getB' kL_law_13 39 rfl
theorem dL_law_1874 : decode code 1874 = .ok (.goto 871, 3) := getB' kL_law_13 40 rfl
theorem dL_law_1877 : decode code 1877 = .ok (.aload_n 1, 1) := getB' kL_law_13 41 rfl
theorem dL_law_1878 : decode code 1878 = .ok (.aload_n 0, 1) := getB' kL_law_13 42 rfl
theorem dL_law_1879 : decode code 1879 = .ok (.iload_n 3, 1) := getB' kL_law_13 43 rfl
theorem dL_law_1880 : decode code 1880 = .ok (.iconst 1, 1) := getB' kL_law_13 44 rfl
theorem dL_law_1881 : decode code 1881 = .ok (.iadd, 1) := getB' kL_law_13 45 rfl
theorem dL_law_1882 : decode code 1882 = .ok (.iaload, 1) := getB' kL_law_13 46 rfl
theorem dL_law_1883 : decode code 1883 = .ok (.aload_n 0, 1) := getB' kL_law_13 47 rfl
theorem dL_law_1884 : decode code 1884 = .ok (.iload_n 3, 1) := getB' kL_law_13 48 rfl
theorem dL_law_1885 : decode code 1885 = .ok (.iconst 2, 1) := getB' kL_law_13 49 rfl
theorem dL_law_1886 : decode code 1886 = .ok (.iadd, 1) := getB' kL_law_13 50 rfl
theorem dL_law_1887 : decode code 1887 = .ok (.iaload, 1) := getB' kL_law_13 51 rfl
theorem dL_law_1888 : decode code 1888 = .ok (.invokevirtual 177, 3) := getB' kL_law_13 52 rfl
theorem dL_law_1891 : decode code 1891 = .ok (.pop, 1) := getB' kL_law_13 53 rfl
theorem dL_law_1892 : decode code 1892 = .ok (.aload_n 2, 1) := getB' kL_law_13 54 rfl
theorem dL_law_1893 : decode code 1893 = .ok (.aload_n 0, 1) := getB' kL_law_13 55 rfl
theorem dL_law_1894 : decode code 1894 = .ok (.iload_n 3, 1) := getB' kL_law_13 56 rfl
theorem dL_law_1895 : decode code 1895 = .ok (.iconst 1, 1) := getB' kL_law_13 57 rfl
theorem dL_law_1896 : decode code 1896 = .ok (.iadd, 1) := getB' kL_law_13 58 rfl
theorem dL_law_1897 : decode code 1897 = .ok (.iaload, 1) := getB' kL_law_13 59 rfl
theorem dL_law_1898 : decode code 1898 = .ok (.aload_n 0, 1) := getB' kL_law_13 60 rfl
theorem dL_law_1899 : decode code 1899 = .ok (.iload_n 3, 1) := getB' kL_law_13 61 rfl
theorem dL_law_1900 : decode code 1900 = .ok (.iconst 2, 1) := getB' kL_law_13 62 rfl
theorem dL_law_1901 : decode code 1901 = .ok (.iadd, 1) := getB' kL_law_13 63 rfl
theorem dL_law_1902 : decode code 1902 = .ok (.iaload, 1) := getB' kL_law_13 64 rfl
theorem dL_law_1903 : decode code 1903 = .ok (.invokevirtual 180, 3) := getB' kL_law_13 65 rfl
theorem dL_law_1906 : decode code 1906 = .ok (.pop, 1) := getB' kL_law_13 66 rfl
theorem dL_law_1907 : decode code 1907 = .ok (.goto 838, 3) := getB' kL_law_13 67 rfl
theorem dL_law_1910 : decode code 1910 = .ok (.aload_n 1, 1) := getB' kL_law_13 68 rfl
theorem dL_law_1911 : decode code 1911 = .ok (.aload_n 0, 1) := getB' kL_law_13 69 rfl
theorem dL_law_1912 : decode code 1912 = .ok (.iload_n 3, 1) := getB' kL_law_13 70 rfl
theorem dL_law_1913 : decode code 1913 = .ok (.iconst 1, 1) := getB' kL_law_13 71 rfl
theorem dL_law_1914 : decode code 1914 = .ok (.iadd, 1) := getB' kL_law_13 72 rfl
theorem dL_law_1915 : decode code 1915 = .ok (.iaload, 1) := getB' kL_law_13 73 rfl
theorem dL_law_1916 : decode code 1916 = .ok (.aload_n 0, 1) := getB' kL_law_13 74 rfl
theorem dL_law_1917 : decode code 1917 = .ok (.iload_n 3, 1) := getB' kL_law_13 75 rfl
theorem dL_law_1918 : decode code 1918 = .ok (.iconst 2, 1) := getB' kL_law_13 76 rfl
theorem dL_law_1919 : decode code 1919 = .ok (.iadd, 1) := getB' kL_law_13 77 rfl
theorem dL_law_1920 : decode code 1920 = .ok (.iaload, 1) := getB' kL_law_13 78 rfl
theorem dL_law_1921 : decode code 1921 = .ok (.invokevirtual 181, 3) := getB' kL_law_13 79 rfl
theorem dL_law_1924 : decode code 1924 = .ok (.pop, 1) := getB' kL_law_13 80 rfl
theorem dL_law_1925 : decode code 1925 = .ok (.aload_n 2, 1) := getB' kL_law_13 81 rfl
theorem dL_law_1926 : decode code 1926 = .ok (.aload_n 0, 1) := getB' kL_law_13 82 rfl
theorem dL_law_1927 : decode code 1927 = .ok (.iload_n 3, 1) := getB' kL_law_13 83 rfl
theorem dL_law_1928 : decode code 1928 = .ok (.iconst 1, 1) := getB' kL_law_13 84 rfl
theorem dL_law_1929 : decode code 1929 = .ok (.iadd, 1) := getB' kL_law_13 85 rfl
theorem dL_law_1930 : decode code 1930 = .ok (.iaload, 1) := getB' kL_law_13 86 rfl
theorem dL_law_1931 : decode code 1931 = .ok (.aload_n 0, 1) := getB' kL_law_13 87 rfl
theorem dL_law_1932 : decode code 1932 = .ok (.iload_n 3, 1) := getB' kL_law_13 88 rfl
theorem dL_law_1933 : decode code 1933 = .ok (.iconst 2, 1) := getB' kL_law_13 89 rfl
theorem dL_law_1934 : decode code 1934 = .ok (.iadd, 1) := getB' kL_law_13 90 rfl
theorem dL_law_1935 : decode code 1935 = .ok (.iaload, 1) := getB' kL_law_13 91 rfl
theorem dL_law_1936 : decode code 1936 = .ok (.invokevirtual 184, 3) := getB' kL_law_13 92 rfl
theorem dL_law_1939 : decode code 1939 = .ok (.pop, 1) := getB' kL_law_13 93 rfl
theorem dL_law_1940 : decode code 1940 = .ok (.goto 805, 3) := getB' kL_law_13 94 rfl
theorem dL_law_1943 : decode code 1943 = .ok (.aload_n 1, 1) := getB' kL_law_13 95 rfl
theorem dL_law_1944 : decode code 1944 = .ok (.aload_n 0, 1) := getB' kL_law_13 96 rfl
theorem dL_law_1945 : decode code 1945 = .ok (.iload_n 3, 1) := getB' kL_law_13 97 rfl
theorem dL_law_1946 : decode code 1946 = .ok (.iconst 1, 1) := getB' kL_law_13 98 rfl
theorem dL_law_1947 : decode code 1947 = .ok (.iadd, 1) := getB' kL_law_13 99 rfl
