def LL_law_14 : List (Nat × Instr × Nat) := [(1948, .iaload, 1), (1949, .aload_n 0, 1), (1950, .iload_n 3, 1), (1951, .iconst 2, 1), (1952, .iadd, 1), (1953, .iaload, 1), (1954, .aload_n 0, 1), (1955, .iload_n 3, 1), (1956, .iconst 3, 1), (1957, .iadd, 1), (1958, .iaload, 1), (1959, .invokevirtual 185, 3), (1962, .pop, 1), (1963, .aload_n 2, 1), (1964, .aload_n 0, 1), (1965, .iload_n 3, 1), (1966, .iconst 1, 1), (1967, .iadd, 1), (1968, .iaload, 1), (1969, .aload_n 0, 1), (1970, .iload_n 3, 1), (1971, .iconst 2, 1), (1972, .iadd, 1), (1973, .iaload, 1), (1974, .aload_n 0, 1), (1975, .iload_n 3, 1), (1976, .iconst 3, 1), (1977, .iadd, 1), (1978, .iaload, 1), (1979, .invokevirtual 188, 3), (1982, .pop, 1), (1983, .goto 762, 3), (1986, .aload_n 1, 1), (1987, .aload_n 0, 1), (1988, .iload_n 3, 1), (1989, .iconst 1, 1), (1990, .iadd, 1), (1991, .iaload, 1), (1992, .aload_n 0, 1), (1993, .iload_n 3, 1), (1994, .iconst 2, 1), (1995, .iadd, 1), (1996, .iaload, 1), (1997, .aload_n 0, 1), (1998, .iload_n 3, 1), (1999, .iconst 3, 1), (2000, .iadd, 1), (2001, .iaload, 1), (2002, .aload_n 0, 1), (2003, .iload_n 3, 1), (2004, .iconst 4, 1), (2005, .iadd, 1), (2006, .iaload, 1), (2007, .aload_n 0, 1), (2008, .iload_n 3, 1), (2009, .iconst 5, 1), (2010, .iadd, 1), (2011, .iaload, 1), (2012, .invokevirtual 189, 3), (2015, .pop, 1), (2016, .aload_n 2, 1), (2017, .aload_n 0, 1), (2018, .iload_n 3, 1), (2019, .iconst 1, 1), (2020, .iadd, 1), (2021, .iaload, 1), (2022, .aload_n 0, 1), (2023, .iload_n 3, 1), (2024, .iconst 2, 1), (2025, .iadd, 1), (2026, .iaload, 1), (2027, .aload_n 0, 1), (2028, .iload_n 3, 1), (2029, .iconst 3, 1), (2030, .iadd, 1), (2031, .iaload, 1), (2032, .aload_n 0, 1), (2033, .iload_n 3, 1), (2034, .iconst 4, 1), (2035, .iadd, 1), (2036, .iaload, 1), (2037, .aload_n 0, 1), (2038, .iload_n 3, 1), (2039, .iconst 5, 1), (2040, .iadd, 1), (2041, .iaload, 1), (2042, .invokevirtual 192, 3), (2045, .pop, 1), (2046, .goto 699, 3), (2049, .aload_n 1, 1), (2050, .aload_n 0, 1), (2051, .iload_n 3, 1), (2052, .iconst 1, 1), (2053, .iadd, 1), (2054, .iaload, 1), (2055, .aload_n 0, 1), (2056, .iload_n 3, 1), (2057, .iconst 2, 1), (2058, .iadd, 1), (2059, .iaload, 1)]
theorem kL_law_14 : chkB code LL_law_14 = true := by decide +kernel
theorem dL_law_1948 : decode code 1948 = .ok (.iaload, 1) := getB' kL_law_14 0 rfl
theorem dL_law_1949 : decode code 1949 = .ok (.aload_n 0, 1) := getB' kL_law_14 1 rfl
theorem dL_law_1950 : decode code 1950 = .ok (.iload_n 3, 1) := getB' kL_law_14 2 rfl
theorem dL_law_1951 : decode code 1951 = .ok (.iconst 2, 1) := getB' kL_law_14 3 rfl
theorem dL_law_1952 : decode code 1952 = .ok (.iadd, 1) := getB' kL_law_14 4 rfl
theorem dL_law_1953 : decode code 1953 = .ok (.iaload, 1) := getB' kL_law_14 5 rfl
theorem dL_law_1954 : decode code 1954 = .ok (.aload_n 0, 1) := getB' kL_law_14 6 rfl
theorem dL_law_1955 : decode code 1955 = .ok (.iload_n 3, 1) := getB' kL_law_14 7 rfl
theorem dL_law_1956 : decode code 1956 = .ok (.iconst 3, 1) := getB' kL_law_14 8 rfl
theorem dL_law_1957 : decode code 1957 = .ok (.iadd, 1) := getB' kL_law_14 9 rfl
theorem dL_law_1958 : decode code 1958 = .ok (.iaload, 1) := getB' kL_law_14 10 rfl
theorem dL_law_1959 : decode code 1959 = .ok (.invokevirtual 185, 3) := getB' kL_law_14 11 rfl
theorem dL_law_1962 : decode code 1962 = .ok (.pop, 1) := getB' kL_law_14 12 rfl
theorem dL_law_1963 : decode code 1963 = .ok (.aload_n 2, 1) := getB' kL_law_14 13 rfl
theorem dL_law_1964 : decode code 1964 = .ok (.aload_n 0, 1) := getB' kL_law_14 14 rfl
theorem dL_law_1965 : decode code 1965 = .ok (.iload_n 3, 1) := getB' kL_law_14 15 rfl
theorem dL_law_1966 : decode code 1966 = .ok (.iconst 1, 1) := getB' kL_law_14 16 rfl
theorem dL_law_1967 : decode code 1967 = .ok (.iadd, 1) := getB' kL_law_14 17 rfl
theorem dL_law_1968 : decode code 1968 = .ok (.iaload, 1) := getB' kL_law_14 18 rfl
theorem dL_law_1969 : decode code 1969 = .ok (.aload_n 0, 1) := getB' kL_law_14 19 rfl
theorem dL_law_1970 : decode code 1970 = .ok (.iload_n 3, 1) := getB' kL_law_14 20 rfl
theorem dL_law_1971 : decode code 1971 = .ok (.iconst 2, 1) := getB' kL_law_14 21 rfl
theorem dL_law_1972 : decode code 1972 = .ok (.iadd, 1) := getB' kL_law_14 22 rfl
theorem dL_law_1973 : decode code 1973 = .ok (.iaload, 1) := getB' kL_law_14 23 rfl
theorem dL_law_1974 : decode code 1974 = .ok (.aload_n 0, 1) := getB' kL_law_14 24 rfl
theorem dL_law_1975 : decode code 1975 = .ok (.iload_n 3, 1) := getB' kL_law_14 25 rfl
theorem dL_law_1976 : decode code 1976 = .ok (.iconst 3, 1) := getB' kL_law_14 26 rfl
theorem dL_law_1977 : decode code 1977 = .ok (.iadd, 1) := getB' kL_law_14 27 rfl
theorem dL_law_1978 : decode code 1978 = .ok (.iaload, 1) := getB' kL_law_14 28 rfl
theorem dL_law_1979 : decode code 1979 = .ok (.invokevirtual 188, 3) := getB' kL_law_14 29 rfl
theorem dL_law_1982 : decode code 1982 = .ok (.pop, 1) := getB' kL_law_14 30 rfl
theorem dL_law_1983 : decode code 1983 = .ok (.goto 762, 3) := getB' kL_law_14 31 rfl
theorem dL_law_1986 : decode code 1986 = .ok (.aload_n 1, 1) := getB' kL_law_14 32 rfl
theorem dL_law_1987 : decode code 1987 = .ok (.aload_n 0, 1) := getB' kL_law_14 33 rfl
theorem dL_law_1988 : decode code 1988 = .ok (.iload_n 3, 1) := getB' kL_law_14 34 rfl
theorem dL_law_1989 : decode code 1989 = .ok (.iconst 1, 1) := getB' kL_law_14 35 rfl
theorem dL_law_1990 : decode code 1990 = .ok (.iadd, 1) := getB' kL_law_14 36 rfl
theorem dL_law_1991 : decode code 1991 = .ok (.iaload, 1) := getB' kL_law_14 37 rfl
theorem dL_law_1992 : decode code 1992 = .ok (.aload_n 0, 1) := getB' kL_law_14 38 rfl
theorem dL_law_1993 : decode code 1993 = .ok (.iload_n 3, 1) := getB' kL_law_14 39 rfl
theorem dL_law_1994 : decode code 1994 = .ok (.iconst 2, 1) := getB' kL_law_14 40 rfl
theorem dL_law_1995 : decode code 1995 = .ok (.iadd, 1) := getB' kL_law_14 41 rfl
theorem dL_law_1996 : decode code 1996 = .ok (.iaload, 1) := getB' kL_law_14 42 rfl
theorem dL_law_1997 : decode code 1997 = .ok (.aload_n 0, 1) := getB' kL_law_14 43 rfl
theorem dL_law_1998 : decode code 1998 = .ok (.iload_n 3, 1) := getB' kL_law_14 44 rfl
theorem dL_law_1999 : decode code 1999 = .ok (.iconst 3, 1) := getB' kL_law_14 45 rfl
theorem dL_law_2000 : decode code 2000 = .ok (.iadd, 1) := getB' kL_law_14 46 rfl
theorem dL_law_2001 : decode code 2001 = .ok (.iaload, 1) := getB' kL_law_14 47 rfl
theorem dL_law_2002 : decode code 2002 = .ok (.aload_n 0, 1) := getB' kL_law_14 48 rfl
theorem dL_law_2003 : decode code 2003 = .ok (.iload_n 3, 1) := getB' kL_law_14 49 rfl
theorem dL_law_2004 : decode code 2004 = .ok (.iconst 4, 1) := getB' kL_law_14 50 rfl
theorem dL_law_2005 : decode code 2005 = .ok (.iadd, 1) := getB' kL_law_14 51 rfl
theorem dL_law_2006 : decode code 2006 = .ok (.iaload, 1) := getB' kL_law_14 52 rfl
theorem dL_law_2007 : decode code 2007 = .ok (.aload_n 0, 1) := getB' kL_law_14 53 rfl
theorem dL_law_2008 : decode code 2008 = .ok (.iload_n 3, 1) := getB' kL_law_14 54 rfl
theorem dL_law_2009 : decode code 2009 = .ok (.iconst 5, 1) := getB' kL_law_14 55 rfl
theorem dL_law_2010 : decode code 2010 = .ok (.iadd, 1) := getB' kL_law_14 56 rfl
theorem dL_law_2011 : decode code 2011 = .ok (.iaload, 1) := getB' kL_law_14 57 rfl
theorem dL_law_2012 : decode code 2012 = .ok (.invokevirtual 189, 3) := getB' kL_law_14 58 rfl
theorem dL_law_2015 : decode code 2015 = .ok (.pop, 1) := getB' kL_law_14 59 rfl
theorem dL_law_2016 : decode code 2016 = .ok (.aload_n 2, 1) := getB' kL_law_14 60 rfl
theorem dL_law_2017 : decode code 2017 = .ok (.aload_n 0, 1) := getB' kL_law_14 61 rfl
theorem dL_law_2018 : decode code 2018 = .ok (.iload_n 3, 1) := getB' kL_law_14 62 rfl
theorem dL_law_2019 : decode code 2019 = .ok (.iconst 1, 1) := getB' kL_law_14 63 rfl
theorem dL_law_2020 : decode code 2020 = .ok (.iadd, 1) := getB' kL_law_14 64 rfl
theorem dL_law_2021 : decode code 2021 = .ok (.iaload, 1) := getB' kL_law_14 65 rfl
theorem dL_law_2022 : decode code 2022 = .ok (.aload_n 0, 1) := getB' kL_law_14 66 rfl
theorem dL_law_2023 : decode code 2023 = .ok (.iload_n 3, 1) := getB' kL_law_14 67 rfl
theorem dL_law_2024 : decode code 2024 = .ok (.iconst 2, 1) := getB' kL_law_14 68 rfl
theorem dL_law_2025 : decode code 2025 = .ok (.iadd, 1) := getB' kL_law_14 69 rfl
theorem dL_law_2026 : decode code 2026 = .ok (.iaload, 1) := getB' kL_law_14 70 rfl
theorem dL_law_2027 : decode code 2027 = .ok (.aload_n 0, 1) := getB' kL_law_14 71 rfl
theorem dL_law_2028 : decode code 2028 = .ok (.iload_n 3, 1) := getB' kL_law_14 72 rfl
theorem dL_law_2029 : decode code 2029 = .ok (.iconst 3, 1) := getB' kL_law_14 73 rfl
theorem dL_law_2030 : decode code 2030 = .ok (.iadd, 1) := getB' kL_law_14 74 rfl
theorem dL_law_2031 : decode code 2031 = .ok (.iaload, 1) := getB' kL_law_14 75 rfl
theorem dL_law_2032 : decode code 2032 = .ok (.aload_n 0, 1) := getB' kL_law_14 76 rfl
theorem dL_law_2033 : decode code 2033 = .ok (.iload_n 3, 1) := getB' kL_law_14 77 rfl
theorem dL_law_2034 : decode code 2034 = .ok (.iconst 4, 1) := getB' kL_law_14 78 rfl
theorem dL_law_2035 : decode code 2035 = .ok (.iadd, 1) := getB' kL_law_14 79 rfl
theorem dL_law_2036 : decode code 2036 = .ok (.iaload, 1) := getB' kL_law_14 80 rfl
theorem dL_law_2037 : decode code 2037 = .ok (.aload_n 0, 1) := getB' kL_law_14 81 rfl
theorem dL_law_2038 : decode code 2038 = .ok (.iload_n 3, 1) := getB' kL_law_14 82 rfl
theorem dL_law_2039 : decode code 2039 = .ok (.iconst 5, 1) := getB' kL_law_14 83 rfl
theorem dL_law_2040 : decode code 2040 = .ok (.iadd, 1) := getB' kL_law_14 84 rfl
theorem dL_law_2041 : decode code 2041 = .ok (.iaload, 1) := getB' kL_law_14 85 rfl
theorem dL_law_2042 : decode code 2042 = .ok (.invokevirtual 192, 3) := getB' kL_law_14 86 rfl
theorem dL_law_2045 : decode code 2045 = .ok (.pop, 1) := getB' kL_law_14 87 rfl
theorem dL_law_2046 : decode code 2046 = .ok (.goto 699, 3) := getB' kL_law_14 88 rfl
theorem dL_law_2049 : decode code 2049 = .ok (.aload_n 1, 1) := getB' kL_law_14 89 rfl
theorem dL_law_2050 : decode code 2050 = .ok (.aload_n 0, 1) := getB' kL_law_14 90 rfl
theorem dL_law_2051 : decode code 2051 = .ok (.iload_n 3, 1) := getB' kL_law_14 91 rfl
theorem dL_law_2052 : decode code 2052 = .ok (.iconst 1, 1) := getB' kL_law_14 92 rfl
theorem dL_law_2053 : decode code 2053 = .ok (.iadd, 1) := getB' kL_law_14 93 rfl
theorem dL_law_2054 : decode code 2054 = .ok (.iaload, 1) := getB' kL_law_14 94 rfl
theorem dL_law_2055 : decode code 2055 = .ok (.aload_n 0, 1) := getB' kL_law_14 95 rfl
theorem dL_law_2056 : decode code 2056 = .ok (.iload_n 3, 1) := getB' kL_law_14 96 rfl
theorem dL_law_2057 : decode code 2057 = .ok (.iconst 2, 1) := getB' kL_law_14 97 rfl
theorem dL_law_2058 : decode code 2058 = .ok (.iadd, 1) := getB' kL_law_14 98 rfl
theorem dL_law_2059 : decode code 2059 = .ok (.iaload, 1) := getB' kL_law_14 99 rfl
