def LL_law_5 : List (Nat × Instr × Nat) := [(864, .aload_n 0, 1), (865, .iload_n 3, 1), (866, .iconst 1, 1), (867, .iadd, 1), (868, .iaload, 1), (869, .aload_n 0, 1), (870, .iload_n 3, 1), (871, .iconst 2, 1), (872, .iadd, 1), (873, .iaload, 1), (874, .aload_n 0, 1), (875, .iload_n 3, 1), (876, .iconst 3, 1), (877, .iadd, 1), (878, .iaload, 1), (879, .aload_n 0, 1), (880, .iload_n 3, 1), (881, .iconst 4, 1), (882, .iadd, 1), (883, .iaload, 1), (884, .invokevirtual 73, 3), (887, .pop, 1), (888, .aload_n 2, 1), (889, .aload_n 0, 1), (890, .iload_n 3, 1), (891, .iconst 1, 1), (892, .iadd, 1), (893, .iaload, 1), (894, .aload_n 0, 1), (895, .iload_n 3, 1), (896, .iconst 2, 1), (897, .iadd, 1), (898, .iaload, 1), (899, .aload_n 0, 1), (900, .iload_n 3, 1), (901, .iconst 3, 1), (902, .iadd, 1), (903, .iaload, 1), (904, .aload_n 0, 1), (905, .iload_n 3, 1), (906, .iconst 4, 1), (907, .iadd, 1), (908, .iaload, 1), (909, .invokevirtual 76, 3), (912, .pop, 1), (913, .goto 1832, 3), (916, .aload_n 1, 1), (917, .aload_n 0, 1), (918, .iload_n 3, 1), (919, .iconst 1, 1), (920, .iadd, 1), (921, .iaload, 1), (922, .aload_n 0, 1), (923, .iload_n 3, 1), (924, .iconst 2, 1), (925, .iadd, 1), (926, .iaload, 1), (927, .aload_n 0, 1), (928, .iload_n 3, 1), (929, .iconst 3, 1), (930, .iadd, 1), (931, .iaload, 1), (932, .invokevirtual 77, 3), (935, .pop, 1), (936, .aload_n 2, 1), (937, .aload_n 0, 1), (938, .iload_n 3, 1), (939, .iconst 1, 1), (940, .iadd, 1), (941, .iaload, 1), (942, .aload_n 0, 1), (943, .iload_n 3, 1), (944, .iconst 2, 1), (945, .iadd, 1), (946, .iaload, 1), (947, .aload_n 0, 1), (948, .iload_n 3, 1), (949, .iconst 3, 1), (950, .iadd, 1), (951, .iaload, 1), (952, .invokevirtual 80, 3), (955, .pop, 1), (956, .goto 1789, 3), (959, .aload_n 1, 1), (960, .aload_n 0, 1), (961, .iload_n 3, 1), (962, .iconst 1, 1), (963, .iadd, 1), (964, .iaload, 1), (965, .aload_n 0, 1), (966, .iload_n 3, 1), (967, .iconst 2, 1), (968, .iadd, 1), (969, .iaload, 1), (970, .aload_n 0, 1), (971, .iload_n 3, 1), (972, .iconst 3, 1), (973, .iadd, 1), (974, .iaload, 1), (975, .invokevirtual 81, 3)]
theorem kL_law_5 : chkB code LL_law_5 = true := by decide +kernel
theorem dL_law_864 : decode code 864 = .ok (.aload_n 0, 1) := getB' kL_law_5 0 rfl
theorem dL_law_865 : decode code 865 = .ok (.iload_n 3, 1) := getB' kL_law_5 1 rfl
theorem dL_law_866 : decode code 866 = .ok (.iconst 1, 1) := getB' kL_law_5 2 rfl
theorem dL_law_867 : decode code 867 = .ok (.iadd, 1) := getB' kL_law_5 3 rfl
theorem dL_law_868 : decode code 868 = .ok (.iaload, 1) := getB' kL_law_5 4 rfl
theorem dL_law_869 : decode code 869 = .ok (.aload_n 0, 1) := getB' kL_law_5 5 rfl
theorem dL_law_870 : decode code 870 = .ok (.iload_n 3, 1) := getB' kL_law_5 6 rfl
theorem dL_law_871 : decode code 871 = .ok (.iconst 2, 1) := getB' kL_law_5 7 rfl
theorem dL_law_872 : decode code 872 = .ok (.iadd, 1) := getB' kL_law_5 8 rfl
theorem dL_law_873 : decode code 873 = .ok (.iaload, 1) := getB' kL_law_5 9 rfl
theorem dL_law_874 : decode code 874 = .ok (.aload_n 0, 1) := getB' kL_law_5 10 rfl
theorem dL_law_875 : decode code 875 = .ok (.iload_n 3, 1) := getB' kL_law_5 11 rfl
theorem dL_law_876 : decode code 876 = .ok (.iconst 3, 1) := getB' kL_law_5 12 rfl
theorem dL_law_877 : decode code 877 = .ok (.iadd, 1) := getB' kL_law_5 13 rfl
theorem dL_law_878 : decode code 878 = .ok (.iaload, 1) := getB' kL_law_5 14 rfl
theorem dL_law_879 : decode code 879 = .ok (.aload_n 0, 1) := getB' kL_law_5 15 rfl
theorem dL_law_880 : decode code 880 = .ok (.iload_n 3, 1) := getB' kL_law_5 16 rfl
theorem dL_law_881 : decode code 881 = .ok (.iconst 4, 1) := getB' kL_law_5 17 rfl
theorem dL_law_882 : decode code 882 = .ok (.iadd, 1) := getB' kL_law_5 18 rfl
theorem dL_law_883 : decode code 883 = .ok (.iaload, 1) := getB' kL_law_5 19 rfl
theorem dL_law_884 : decode code 884 = .ok (.invokevirtual 73, 3) := getB' kL_law_5 20 rfl
theorem dL_law_887 : decode code 887 = .ok (.pop, 1) := getB' kL_law_5 21 rfl
theorem dL_law_888 : decode code 888 = .ok (.aload_n 2, 1) := getB' kL_law_5 22 rfl
theorem dL_law_889 : decode code 889 = .ok (.aload_n 0, 1) := getB' kL_law_5 23 rfl
theorem dL_law_890 : decode code 890 = .ok (.iload_n 3, 1) := getB' kL_law_5 24 rfl
theorem dL_law_891 : decode code 891 = .ok (.iconst 1, 1) := getB' kL_law_5 25 rfl
theorem dL_law_892 : decode code 892 = .ok (.iadd, 1) := getB' kL_law_5 26 rfl
theorem dL_law_893 : decode code 893 = .ok (.iaload, 1) := getB' kL_law_5 27 rfl
theorem dL_law_894 : decode code 894 = .ok (.aload_n 0, 1) := getB' kL_law_5 28 rfl
theorem dL_law_895 : decode code 895 = .ok (.iload_n 3, 1) := getB' kL_law_5 29 rfl
theorem dL_law_896 : decode code 896 = .ok (.iconst 2, 1) := getB' kL_law_5 30 rfl
theorem dL_law_897 : decode code 897 = .ok (.iadd, 1) := getB' kL_law_5 31 rfl
theorem dL_law_898 : decode code 898 = .ok (.iaload, 1) := getB' kL_law_5 32 rfl
theorem dL_law_899 : decode code 899 = .ok (.aload_n 0, 1) := getB' kL_law_5 33 rfl
theorem dL_law_900 : decode code 900 = .ok (.iload_n 3, 1) := getB' kL_law_5 34 rfl
theorem dL_law_901 : decode code 901 = .ok (.iconst 3, 1) := getB' kL_law_5 35 rfl
theorem dL_law_902 : decode code 902 = .ok (.iadd, 1) := getB' kL_law_5 36 rfl
theorem dL_law_903 : decode code 903 = .ok (.iaload, 1) := getB' kL_law_5 37 rfl
theorem dL_law_904 : decode code 904 = .ok (.aload_n 0, 1) := getB' kL_law_5 38 rfl
theorem dL_law_905 : decode code 905 = .ok (.iload_n 3, 1) := getB' kL_law_5 39 rfl
theorem dL_law_906 : decode code 906 = .ok (.iconst 4, 1) := getB' kL_law_5 40 rfl
theorem dL_law_907 : decode code 907 = .ok (.iadd, 1) := getB' kL_law_5 41 rfl
theorem dL_law_908 : decode code 908 = .ok (.iaload, 1) := getB' kL_law_5 42 rfl
theorem dL_law_909 : decode code 909 = .ok (.invokevirtual 76, 3) := getB' kL_law_5 43 rfl
theorem dL_law_912 : decode code 912 = .ok (.pop, 1) := getB' kL_law_5 44 rfl
theorem dL_law_913 : decode code 913 = .ok (.goto 1832, 3) := getB' kL_law_5 45 rfl
theorem dL_law_916 : decode code 916 = .ok (.aload_n 1, 1) := getB' kL_law_5 46 rfl
theorem dL_law_917 : decode code 917 = .ok (.aload_n 0, 1) := getB' kL_law_5 47 rfl
theorem dL_law_918 : decode code 918 = .ok (.iload_n 3, 1) := getB' kL_law_5 48 rfl
theorem dL_law_919 : decode code 919 = .ok (.iconst 1, 1) := getB' kL_law_5 49 rfl
theorem dL_law_920 : decode code 920 = .ok (.iadd, 1) := getB' kL_law_5 50 rfl
theorem dL_law_921 : decode code 921 = .ok (.iaload, 1) := getB' kL_law_5 51 rfl
theorem dL_law_922 : decode code 922 = .ok (.aload_n 0, 1) := getB' kL_law_5 52 rfl
theorem dL_law_923 : decode code 923 = .ok (.iload_n 3, 1) := getB' kL_law_5 53 rfl
theorem dL_law_924 : decode code 924 = .ok (.iconst 2, 1) := getB' kL_law_5 54 rfl
theorem dL_law_925 : decode code 925 = .ok (.iadd, 1) := getB' kL_law_5 55 rfl
theorem dL_law_926 : decode code 926 = .ok (.iaload, 1) := getB' kL_law_5 56 rfl
theorem dL_law_927 : decode code 927 = .ok (.aload_n 0, 1) := getB' kL_law_5 57 rfl
theorem dL_law_928 : decode code 928 = .ok (.iload_n 3, 1) := getB' kL_law_5 58 rfl
theorem dL_law_929 : decode code 929 = .ok (.iconst 3, 1) := getB' kL_law_5 59 rfl
theorem dL_law_930 : decode code 930 = .ok (.iadd, 1) := getB' kL_law_5 60 rfl
theorem dL_law_931 : decode code 931 = .ok (.iaload, 1) := getB' kL_law_5 61 rfl
theorem dL_law_932 : decode code 932 = .ok (.invokevirtual 77, 3) := getB' kL_law_5 62 rfl
theorem dL_law_935 : decode code 935 = .ok (.pop, 1) := getB' kL_law_5 63 rfl
theorem dL_law_936 : decode code 936 = .ok (.aload_n 2, 1) := getB' kL_law_5 64 rfl
theorem dL_law_937 : decode code 937 = .ok (.aload_n 0, 1) := getB' kL_law_5 65 rfl
theorem dL_law_938 : decode code 938 = .ok (.iload_n 3, 1) := getB' kL_law_5 66 rfl
theorem dL_law_939 : decode code 939 = .ok (.iconst 1, 1) := getB' kL_law_5 67 rfl
theorem dL_law_940 : decode code 940 = .ok (.iadd, 1) := getB' kL_law_5 68 rfl
theorem dL_law_941 : decode code 941 = .ok (.iaload, 1) := getB' kL_law_5 69 rfl
theorem dL_law_942 : decode code 942 = .ok (.aload_n 0, 1) := getB' kL_law_5 70 rfl
theorem dL_law_943 : decode code 943 = .ok (.iload_n 3, 1) := getB' kL_law_5 71 rfl
theorem dL_law_944 : decode code 944 = .ok (.iconst 2, 1) := getB' kL_law_5 72 rfl
theorem dL_law_945 : decode code 945 = .ok (.iadd, 1) := getB' kL_law_5 73 rfl
theorem dL_law_946 : decode code 946 = .ok (.iaload, 1) := getB' kL_law_5 74 rfl
theorem dL_law_947 : decode code 947 = .ok (.aload_n 0, 1) := getB' kL_law_5 75 rfl
theorem dL_law_948 : decode code 948 = .ok (.iload_n 3, 1) := getB' kL_law_5 76 rfl
theorem dL_law_949 : decode code 949 = .ok (.iconst 3, 1) := getB' kL_law_5 77 rfl
theorem dL_law_950 : decode code 950 = .ok (.iadd, 1) := getB' kL_law_5 78 rfl
theorem dL_law_951 : decode code 951 = .ok (.iaload, 1) := getB' kL_law_5 79 rfl
theorem dL_law_952 : decode code 952 = .ok (.invokevirtual 80, 3) := getB' kL_law_5 80 rfl
theorem dL_law_955 : decode code 955 = .ok (.pop, 1) := getB' kL_law_5 81 rfl
theorem dL_law_956 : decode code 956 = .ok (.goto 1789, 3) := getB' kL_law_5 82 rfl
theorem dL_law_959 : decode code 959 = .ok (.aload_n 1, 1) := getB' kL_law_5 83 rfl
theorem dL_law_960 : decode code 960 = .ok (.aload_n 0, 1) := getB' kL_law_5 84 rfl
theorem dL_law_961 : decode code 961 = .ok (.iload_n 3, 1) := getB' kL_law_5 85 rfl
theorem dL_law_962 : decode code 962 = .ok (.iconst 1, 1) := getB' kL_law_5 86 rfl
theorem dL_law_963 : decode code 963 = .ok (.iadd, 1) := getB' kL_law_5 87 rfl
theorem dL_law_964 : decode code 964 = .ok (.iaload, 1) := getB' kL_law_5 88 rfl
theorem dL_law_965 : decode code 965 = .ok (.aload_n 0, 1) := getB' kL_law_5 89 rfl
theorem dL_law_966 : decode code 966 = .ok (.iload_n 3, 1) := getB' kL_law_5 90 rfl
theorem dL_law_967 : decode code 967 = .ok (.iconst 2, 1) := getB' kL_law_5 91 rfl
theorem dL_law_968 : decode code 968 = .ok (.iadd, 1) := getB' kL_law_5 92 rfl
theorem dL_law_969 : decode code 969 = .ok (.iaload, 1) := getB' kL_law_5 93 rfl
theorem dL_law_970 : decode code 970 = .ok (.aload_n 0, 1) := getB' kL_law_5 94 rfl
theorem dL_law_971 : decode code 971 = .ok (.iload_n 3, 1) := getB' kL_law_5 95 rfl
theorem dL_law_972 : decode code 972 = .ok (.iconst 3, 1) := getB' kL_law_5 96 rfl
theorem dL_law_973 : decode code 973 = .ok (.iadd, 1) := getB' kL_law_5 97 rfl
theorem dL_law_974 : decode code 974 = .ok (.iaload, 1) := getB' kL_law_5 98 rfl
theorem dL_law_975 : decode code 975 = .ok (.invokevirtual 81, 3) := getB' kL_law_5 99 rfl
