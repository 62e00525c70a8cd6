theorem dX0_columnOf_0 : decode cX0_columnOf 0 = .ok (.aload_n 0, 1) := by decide +kernel
theorem dX0_columnOf_1 : decode cX0_columnOf 1 = .ok (.getfield 21, 3) := by decide +kernel
theorem dX0_columnOf_4 : decode cX0_columnOf 4 = .ok (.ifCond .le 12, 3) := by decide +kernel
theorem dX0_columnOf_7 : decode cX0_columnOf 7 = .ok (.iload_n 1, 1) := by decide +kernel
theorem dX0_columnOf_8 : decode cX0_columnOf 8 = .ok (.aload_n 0, 1) := by decide +kernel
theorem dX0_columnOf_9 : decode cX0_columnOf 9 = .ok (.getfield 21, 3) := by decide +kernel
theorem dX0_columnOf_12 : decode cX0_columnOf 12 = .ok (.irem, 1) := by decide +kernel
theorem dX0_columnOf_13 : decode cX0_columnOf 13 = .ok (.goto 4, 3) := by decide +kernel
theorem dX0_columnOf_17 : decode cX0_columnOf 17 = .ok (.ireturn, 1) := by decide +kernel
theorem dX0_init_0 : decode cX0_init 0 = .ok (.aload_n 0, 1) := by decide +kernel
theorem dX0_init_1 : decode cX0_init 1 = .ok (.invokespecial 3, 3) := by decide +kernel
theorem dX0_init_4 : decode cX0_init 4 = .ok (.aload_n 0, 1) := by decide +kernel
theorem dX0_init_5 : decode cX0_init 5 = .ok (.iconst 0, 1) := by decide +kernel
theorem dX0_init_6 : decode cX0_init 6 = .ok (.putfield 9, 3) := by decide +kernel
theorem dX0_init_9 : decode cX0_init 9 = .ok (.aload_n 0, 1) := by decide +kernel
theorem dX0_init_10 : decode cX0_init 10 = .ok (.bipush 120, 2) := by decide +kernel
theorem dX0_init_12 : decode cX0_init 12 = .ok (.putfield 15, 3) := by decide +kernel
theorem dX0_init_15 : decode cX0_init 15 = .ok (.aload_n 0, 1) := by decide +kernel
theorem dX0_init_16 : decode cX0_init 16 = .ok (.sipush 239, 3) := by decide +kernel
theorem dX0_init_19 : decode cX0_init 19 = .ok (.putfield 18, 3) := by decide +kernel
theorem dX0_init_22 : decode cX0_init 22 = .ok (.aload_n 0, 1) := by decide +kernel
theorem dX0_init_23 : decode cX0_init 23 = .ok (.bipush 8, 2) := by decide +kernel
theorem dX0_init_25 : decode cX0_init 25 = .ok (.putfield 21, 3) := by decide +kernel
theorem dX0_init_28 : decode cX0_init 28 = .ok (.aload_n 0, 1) := by decide +kernel
theorem dX0_init_29 : decode cX0_init 29 = .ok (.bipush 8, 2) := by decide +kernel
theorem dX0_init_31 : decode cX0_init 31 = .ok (.putfield 24, 3) := by decide +kernel
theorem dX0_init_34 : decode cX0_init 34 = .ok (.aload_n 0, 1) := by decide +kernel
theorem dX0_init_35 : decode cX0_init 35 = .ok (.sipush 144, 3) := by decide +kernel
theorem dX0_init_38 : decode cX0_init 38 = .ok (.newarray .int, 2) := by decide +kernel
theorem dX0_init_40 : decode cX0_init 40 = .ok (.putfield 27, 3) := by decide +kernel
theorem dX0_init_43 : decode cX0_init 43 = .ok (.aload_n 0, 1) := by decide +kernel
theorem dX0_init_44 : decode cX0_init 44 = .ok (.sipush 144, 3) := by decide +kernel
theorem dX0_init_47 : decode cX0_init 47 = .ok (.newarray .int, 2) := by decide +kernel
theorem dX0_init_49 : decode cX0_init 49 = .ok (.putfield 31, 3) := by decide +kernel
theorem dX0_init_52 : decode cX0_init 52 = .ok (.aload_n 0, 1) := by decide +kernel
theorem dX0_init_53 : decode cX0_init 53 = .ok (.sipush 144, 3) := by decide +kernel
theorem dX0_init_56 : decode cX0_init 56 = .ok (.newarray .int, 2) := by decide +kernel
theorem dX0_init_58 : decode cX0_init 58 = .ok (.putfield 34, 3) := by decide +kernel
theorem dX0_init_61 : decode cX0_init 61 = .ok (.aload_n 0, 1) := by decide +kernel
theorem dX0_init_62 : decode cX0_init 62 = .ok (.sipush 144, 3) := by decide +kernel
theorem dX0_init_65 : decode cX0_init 65 = .ok (.newarray .int, 2) := by decide +kernel
theorem dX0_init_67 : decode cX0_init 67 = .ok (.putfield 37, 3) := by decide +kernel
theorem dX0_init_70 : decode cX0_init 70 = .ok (.aload_n 0, 1) := by decide +kernel
theorem dX0_init_71 : decode cX0_init 71 = .ok (.bipush 48, 2) := by decide +kernel
theorem dX0_init_73 : decode cX0_init 73 = .ok (.newarray .int, 2) := by decide +kernel
theorem dX0_init_75 : decode cX0_init 75 = .ok (.putfield 40, 3) := by decide +kernel
theorem dX0_init_78 : decode cX0_init 78 = .ok (.aload_n 0, 1) := by decide +kernel
theorem dX0_init_79 : decode cX0_init 79 = .ok (.iconst 4, 1) := by decide +kernel
theorem dX0_init_80 : decode cX0_init 80 = .ok (.newarray .int, 2) := by decide +kernel
theorem dX0_init_82 : decode cX0_init 82 = .ok (.putfield 43, 3) := by decide +kernel
theorem dX0_init_85 : decode cX0_init 85 = .ok (.aload_n 0, 1) := by decide +kernel
theorem dX0_init_86 : decode cX0_init 86 = .ok (.sipush 144, 3) := by decide +kernel
theorem dX0_init_89 : decode cX0_init 89 = .ok (.newarray .int, 2) := by decide +kernel
theorem dX0_init_91 : decode cX0_init 91 = .ok (.putfield 46, 3) := by decide +kernel
theorem dX0_init_94 : decode cX0_init 94 = .ok (.aload_n 0, 1) := by decide +kernel
theorem dX0_init_95 : decode cX0_init 95 = .ok (.sipush 144, 3) := by decide +kernel
theorem dX0_init_98 : decode cX0_init 98 = .ok (.newarray .int, 2) := by decide +kernel
theorem dX0_init_100 : decode cX0_init 100 = .ok (.putfield 49, 3) := by decide +kernel
theorem dX0_init_103 : decode cX0_init 103 = .ok (.aload_n 0, 1) := by decide +kernel
theorem dX0_init_104 : decode cX0_init 104 = .ok (.getfield 43, 3) := by decide +kernel
theorem dX0_init_107 : decode cX0_init 107 = .ok (.bipush 10, 2) := by decide +kernel
theorem dX0_init_109 : decode cX0_init 109 = .ok (.invokestatic 52, 3) := by decide +kernel
theorem dX0_init_112 : decode cX0_init 112 = .ok (.aload_n 0, 1) := by decide +kernel
theorem dX0_init_113 : decode cX0_init 113 = .ok (.getfield 34, 3) := by decide +kernel
theorem dX0_init_116 : decode cX0_init 116 = .ok (.iconst (-1), 1) := by decide +kernel
theorem dX0_init_117 : decode cX0_init 117 = .ok (.invokestatic 52, 3) := by decide +kernel
theorem dX0_init_120 : decode cX0_init 120 = .ok (.return_, 1) := by decide +kernel
theorem dX0_isCell_0 : decode cX0_isCell 0 = .ok (.iload_n 1, 1) := by decide +kernel
theorem dX0_isCell_1 : decode cX0_isCell 1 = .ok (.ifCond .lt 20, 3) := by decide +kernel
theorem dX0_isCell_4 : decode cX0_isCell 4 = .ok (.iload_n 1, 1) := by decide +kernel
theorem dX0_isCell_5 : decode cX0_isCell 5 = .ok (.aload_n 0, 1) := by decide +kernel
theorem dX0_isCell_6 : decode cX0_isCell 6 = .ok (.getfield 21, 3) := by decide +kernel
theorem dX0_isCell_9 : decode cX0_isCell 9 = .ok (.aload_n 0, 1) := by decide +kernel
theorem dX0_isCell_10 : decode cX0_isCell 10 = .ok (.getfield 24, 3) := by decide +kernel
theorem dX0_isCell_13 : decode cX0_isCell 13 = .ok (.imul, 1) := by decide +kernel
theorem dX0_isCell_14 : decode cX0_isCell 14 = .ok (.if_icmp .ge 7, 3) := by decide +kernel
theorem dX0_isCell_17 : decode cX0_isCell 17 = .ok (.iconst 1, 1) := by decide +kernel
theorem dX0_isCell_18 : decode cX0_isCell 18 = .ok (.goto 4, 3) := by decide +kernel
theorem dX0_isCell_21 : decode cX0_isCell 21 = .ok (.iconst 0, 1) := by decide +kernel
theorem dX0_isCell_22 : decode cX0_isCell 22 = .ok (.ireturn, 1) := by decide +kernel
theorem dX0_isRectangle_0 : decode cX0_isRectangle 0 = .ok (.aload_n 0, 1) := by decide +kernel
theorem dX0_isRectangle_1 : decode cX0_isRectangle 1 = .ok (.iload_n 1, 1) := by decide +kernel
theorem dX0_isRectangle_2 : decode cX0_isRectangle 2 = .ok (.invokevirtual 62, 3) := by decide +kernel
theorem dX0_isRectangle_5 : decode cX0_isRectangle 5 = .ok (.ifCond .eq 41, 3) := by decide +kernel
theorem dX0_isRectangle_8 : decode cX0_isRectangle 8 = .ok (.aload_n 0, 1) := by decide +kernel
theorem dX0_isRectangle_9 : decode cX0_isRectangle 9 = .ok (.iload_n 2, 1) := by decide +kernel
theorem dX0_isRectangle_10 : decode cX0_isRectangle 10 = .ok (.invokevirtual 62, 3) := by decide +kernel
theorem dX0_isRectangle_13 : decode cX0_isRectangle 13 = .ok (.ifCond .eq 33, 3) := by decide +kernel
theorem dX0_isRectangle_16 : decode cX0_isRectangle 16 = .ok (.aload_n 0, 1) := by decide +kernel
theorem dX0_isRectangle_17 : decode cX0_isRectangle 17 = .ok (.iload_n 1, 1) := by decide +kernel
theorem dX0_isRectangle_18 : decode cX0_isRectangle 18 = .ok (.invokevirtual 66, 3) := by decide +kernel
theorem dX0_isRectangle_21 : decode cX0_isRectangle 21 = .ok (.aload_n 0, 1) := by decide +kernel
theorem dX0_isRectangle_22 : decode cX0_isRectangle 22 = .ok (.iload_n 2, 1) := by decide +kernel
theorem dX0_isRectangle_23 : decode cX0_isRectangle 23 = .ok (.invokevirtual 66, 3) := by decide +kernel
theorem dX0_isRectangle_26 : decode cX0_isRectangle 26 = .ok (.if_icmp .gt 20, 3) := by decide +kernel
theorem dX0_isRectangle_29 : decode cX0_isRectangle 29 = .ok (.aload_n 0, 1) := by decide +kernel
theorem dX0_isRectangle_30 : decode cX0_isRectangle 30 = .ok (.iload_n 1, 1) := by decide +kernel
theorem dX0_isRectangle_31 : decode cX0_isRectangle 31 = .ok (.invokevirtual 75, 3) := by decide +kernel
theorem dX0_isRectangle_34 : decode cX0_isRectangle 34 = .ok (.aload_n 0, 1) := by decide +kernel
theorem dX0_isRectangle_35 : decode cX0_isRectangle 35 = .ok (.iload_n 2, 1) := by decide +kernel
theorem dX0_isRectangle_36 : decode cX0_isRectangle 36 = .ok (.invokevirtual 75, 3) := by decide +kernel
theorem dX0_isRectangle_39 : decode cX0_isRectangle 39 = .ok (.if_icmp .gt 7, 3) := by decide +kernel
theorem dX0_isRectangle_42 : decode cX0_isRectangle 42 = .ok (.iconst 1, 1) := by decide +kernel
theorem dX0_isRectangle_43 : decode cX0_isRectangle 43 = .ok (.goto 4, 3) := by decide +kernel
theorem dX0_isRectangle_46 : decode cX0_isRectangle 46 = .ok (.iconst 0, 1) := by decide +kernel
theorem dX0_isRectangle_47 : decode cX0_isRectangle 47 = .ok (.ireturn, 1) := by decide +kernel
theorem dX0_lay_0 : decode cX0_lay 0 = .ok (.aload_n 0, 1) := by decide +kernel
theorem dX0_lay_1 : decode cX0_lay 1 = .ok (.iload_n 1, 1) := by decide +kernel
theorem dX0_lay_2 : decode cX0_lay 2 = .ok (.putfield 21, 3) := by decide +kernel
theorem dX0_lay_5 : decode cX0_lay 5 = .ok (.aload_n 0, 1) := by decide +kernel
theorem dX0_lay_6 : decode cX0_lay 6 = .ok (.iload_n 2, 1) := by decide +kernel
theorem dX0_lay_7 : decode cX0_lay 7 = .ok (.putfield 24, 3) := by decide +kernel
theorem dX0_lay_10 : decode cX0_lay 10 = .ok (.aload_n 0, 1) := by decide +kernel
theorem dX0_lay_11 : decode cX0_lay 11 = .ok (.getfield 27, 3) := by decide +kernel
theorem dX0_lay_14 : decode cX0_lay 14 = .ok (.iconst 0, 1) := by decide +kernel
theorem dX0_lay_15 : decode cX0_lay 15 = .ok (.invokestatic 52, 3) := by decide +kernel
theorem dX0_lay_18 : decode cX0_lay 18 = .ok (.aload_n 0, 1) := by decide +kernel
theorem dX0_lay_19 : decode cX0_lay 19 = .ok (.getfield 31, 3) := by decide +kernel
theorem dX0_lay_22 : decode cX0_lay 22 = .ok (.iconst 0, 1) := by decide +kernel
theorem dX0_lay_23 : decode cX0_lay 23 = .ok (.invokestatic 52, 3) := by decide +kernel
theorem dX0_lay_26 : decode cX0_lay 26 = .ok (.aload_n 0, 1) := by decide +kernel
theorem dX0_lay_27 : decode cX0_lay 27 = .ok (.getfield 34, 3) := by decide +kernel
theorem dX0_lay_30 : decode cX0_lay 30 = .ok (.iconst (-1), 1) := by decide +kernel
theorem dX0_lay_31 : decode cX0_lay 31 = .ok (.invokestatic 52, 3) := by decide +kernel
theorem dX0_lay_34 : decode cX0_lay 34 = .ok (.aload_n 0, 1) := by decide +kernel
theorem dX0_lay_35 : decode cX0_lay 35 = .ok (.getfield 37, 3) := by decide +kernel
theorem dX0_lay_38 : decode cX0_lay 38 = .ok (.iconst 0, 1) := by decide +kernel
theorem dX0_lay_39 : decode cX0_lay 39 = .ok (.invokestatic 52, 3) := by decide +kernel
theorem dX0_lay_42 : decode cX0_lay 42 = .ok (.return_, 1) := by decide +kernel
theorem dX0_rowOf_0 : decode cX0_rowOf 0 = .ok (.aload_n 0, 1) := by decide +kernel
theorem dX0_rowOf_1 : decode cX0_rowOf 1 = .ok (.getfield 21, 3) := by decide +kernel
theorem dX0_rowOf_4 : decode cX0_rowOf 4 = .ok (.ifCond .le 12, 3) := by decide +kernel
theorem dX0_rowOf_7 : decode cX0_rowOf 7 = .ok (.iload_n 1, 1) := by decide +kernel
theorem dX0_rowOf_8 : decode cX0_rowOf 8 = .ok (.aload_n 0, 1) := by decide +kernel
theorem dX0_rowOf_9 : decode cX0_rowOf 9 = .ok (.getfield 21, 3) := by decide +kernel
theorem dX0_rowOf_12 : decode cX0_rowOf 12 = .ok (.idiv, 1) := by decide +kernel
theorem dX0_rowOf_13 : decode cX0_rowOf 13 = .ok (.goto 4, 3) := by decide +kernel
theorem dX0_rowOf_17 : decode cX0_rowOf 17 = .ok (.ireturn, 1) := by decide +kernel
theorem dX11_about_0 : decode cX11_about 0 = .ok (.aload_n 0, 1) := by decide +kernel
theorem dX11_about_1 : decode cX11_about 1 = .ok (.iload_n 1, 1) := by decide +kernel
theorem dX11_about_2 : decode cX11_about 2 = .ok (.invokevirtual 309, 3) := by decide +kernel
theorem dX11_about_5 : decode cX11_about 5 = .ok (.astore_n 3, 1) := by decide +kernel
theorem dX11_about_6 : decode cX11_about 6 = .ok (.aload_n 3, 1) := by decide +kernel
theorem dX11_about_7 : decode cX11_about 7 = .ok (.ifnonnull 5, 3) := by decide +kernel
theorem dX11_about_10 : decode cX11_about 10 = .ok (.iconst (-1), 1) := by decide +kernel
theorem dX11_about_11 : decode cX11_about 11 = .ok (.ireturn, 1) := by decide +kernel
theorem dX11_admitParties_0 : decode cX11_admitParties 0 = .ok (.iconst 0, 1) := by decide +kernel
theorem dX11_admitParties_1 : decode cX11_admitParties 1 = .ok (.istore_n 1, 1) := by decide +kernel
theorem dX11_admitParties_2 : decode cX11_admitParties 2 = .ok (.iload_n 1, 1) := by decide +kernel
theorem dX11_admitParties_3 : decode cX11_admitParties 3 = .ok (.aload_n 0, 1) := by decide +kernel
theorem dX11_admitParties_4 : decode cX11_admitParties 4 = .ok (.getfield 36, 3) := by decide +kernel
theorem dX11_admitParties_7 : decode cX11_admitParties 7 = .ok (.if_icmp .ge 82, 3) := by decide +kernel
theorem dX11_admitParties_89 : decode cX11_admitParties 89 = .ok (.return_, 1) := by decide +kernel
theorem dX11_anyPlace_0 : decode cX11_anyPlace 0 = .ok (.iload_n 1, 1) := by decide +kernel
theorem dX11_anyPlace_1 : decode cX11_anyPlace 1 = .ok (.ifCond .lt 29, 3) := by decide +kernel
theorem dX11_anyPlace_4 : decode cX11_anyPlace 4 = .ok (.iload_n 1, 1) := by decide +kernel
theorem dX11_anyPlace_5 : decode cX11_anyPlace 5 = .ok (.aload_n 0, 1) := by decide +kernel
theorem dX11_anyPlace_6 : decode cX11_anyPlace 6 = .ok (.getfield 46, 3) := by decide +kernel
theorem dX11_anyPlace_9 : decode cX11_anyPlace 9 = .ok (.if_icmp .ge 21, 3) := by decide +kernel
theorem dX11_anyPlace_30 : decode cX11_anyPlace 30 = .ok (.aconst_null, 1) := by decide +kernel
theorem dX11_anyPlace_31 : decode cX11_anyPlace 31 = .ok (.areturn, 1) := by decide +kernel
theorem dX11_areDays_0 : decode cX11_areDays 0 = .ok (.iload_n 0, 1) := by decide +kernel
theorem dX11_areDays_1 : decode cX11_areDays 1 = .ok (.ifCond .lt 19, 3) := by decide +kernel
theorem dX11_areDays_4 : decode cX11_areDays 4 = .ok (.iload_n 0, 1) := by decide +kernel
theorem dX11_areDays_5 : decode cX11_areDays 5 = .ok (.iload_n 1, 1) := by decide +kernel
theorem dX11_areDays_6 : decode cX11_areDays 6 = .ok (.if_icmp .gt 14, 3) := by decide +kernel
theorem dX11_areDays_9 : decode cX11_areDays 9 = .ok (.iload_n 1, 1) := by decide +kernel
theorem dX11_areDays_10 : decode cX11_areDays 10 = .ok (.sipush 3600, 3) := by decide +kernel
theorem dX11_areDays_13 : decode cX11_areDays 13 = .ok (.if_icmp .ge 7, 3) := by decide +kernel
theorem dX11_areDays_16 : decode cX11_areDays 16 = .ok (.iconst 1, 1) := by decide +kernel
theorem dX11_areDays_17 : decode cX11_areDays 17 = .ok (.goto 4, 3) := by decide +kernel
theorem dX11_areDays_20 : decode cX11_areDays 20 = .ok (.iconst 0, 1) := by decide +kernel
theorem dX11_areDays_21 : decode cX11_areDays 21 = .ok (.ireturn, 1) := by decide +kernel
theorem dX11_areYearDays_0 : decode cX11_areYearDays 0 = .ok (.iload_n 0, 1) := by decide +kernel
theorem dX11_areYearDays_1 : decode cX11_areYearDays 1 = .ok (.ifCond .lt 19, 3) := by decide +kernel
theorem dX11_areYearDays_4 : decode cX11_areYearDays 4 = .ok (.iload_n 0, 1) := by decide +kernel
theorem dX11_areYearDays_5 : decode cX11_areYearDays 5 = .ok (.iload_n 1, 1) := by decide +kernel
theorem dX11_areYearDays_6 : decode cX11_areYearDays 6 = .ok (.if_icmp .gt 14, 3) := by decide +kernel
theorem dX11_areYearDays_9 : decode cX11_areYearDays 9 = .ok (.iload_n 1, 1) := by decide +kernel
theorem dX11_areYearDays_10 : decode cX11_areYearDays 10 = .ok (.sipush 360, 3) := by decide +kernel
theorem dX11_areYearDays_13 : decode cX11_areYearDays 13 = .ok (.if_icmp .ge 7, 3) := by decide +kernel
theorem dX11_areYearDays_16 : decode cX11_areYearDays 16 = .ok (.iconst 1, 1) := by decide +kernel
theorem dX11_areYearDays_17 : decode cX11_areYearDays 17 = .ok (.goto 4, 3) := by decide +kernel
theorem dX11_areYearDays_20 : decode cX11_areYearDays 20 = .ok (.iconst 0, 1) := by decide +kernel
theorem dX11_areYearDays_21 : decode cX11_areYearDays 21 = .ok (.ireturn, 1) := by decide +kernel
theorem dX11_asks_0 : decode cX11_asks 0 = .ok (.aload_n 0, 1) := by decide +kernel
theorem dX11_asks_1 : decode cX11_asks 1 = .ok (.iload_n 1, 1) := by decide +kernel
theorem dX11_asks_2 : decode cX11_asks 2 = .ok (.invokevirtual 151, 3) := by decide +kernel
theorem dX11_asks_5 : decode cX11_asks 5 = .ok (.astore 4, 2) := by decide +kernel
theorem dX11_asks_7 : decode cX11_asks 7 = .ok (.aload 4, 2) := by decide +kernel
theorem dX11_asks_9 : decode cX11_asks 9 = .ok (.ifnull 35, 3) := by decide +kernel
theorem dX11_asks_44 : decode cX11_asks 44 = .ok (.iconst 0, 1) := by decide +kernel
theorem dX11_asks_45 : decode cX11_asks 45 = .ok (.ireturn, 1) := by decide +kernel
theorem dX11_at_0 : decode cX11_at 0 = .ok (.aload_n 0, 1) := by decide +kernel
theorem dX11_at_1 : decode cX11_at 1 = .ok (.iload_n 1, 1) := by decide +kernel
theorem dX11_at_2 : decode cX11_at 2 = .ok (.invokevirtual 403, 3) := by decide +kernel
theorem dX11_at_5 : decode cX11_at 5 = .ok (.astore_n 3, 1) := by decide +kernel
theorem dX11_at_6 : decode cX11_at 6 = .ok (.aload_n 3, 1) := by decide +kernel
theorem dX11_at_7 : decode cX11_at 7 = .ok (.ifnonnull 5, 3) := by decide +kernel
theorem dX11_at_10 : decode cX11_at 10 = .ok (.iconst (-1), 1) := by decide +kernel
theorem dX11_at_11 : decode cX11_at 11 = .ok (.ireturn, 1) := by decide +kernel
theorem dX11_best_0 : decode cX11_best 0 = .ok (.aload_n 0, 1) := by decide +kernel
theorem dX11_best_1 : decode cX11_best 1 = .ok (.aload_n 0, 1) := by decide +kernel
theorem dX11_best_2 : decode cX11_best 2 = .ok (.getfield 12, 3) := by decide +kernel
theorem dX11_best_5 : decode cX11_best 5 = .ok (.getfield 145, 3) := by decide +kernel
theorem dX11_best_8 : decode cX11_best 8 = .ok (.invokevirtual 369, 3) := by decide +kernel
theorem dX11_best_11 : decode cX11_best 11 = .ok (.istore_n 1, 1) := by decide +kernel
theorem dX11_best_12 : decode cX11_best 12 = .ok (.iconst 0, 1) := by decide +kernel
theorem dX11_best_13 : decode cX11_best 13 = .ok (.istore_n 2, 1) := by decide +kernel
theorem dX11_best_14 : decode cX11_best 14 = .ok (.iconst 0, 1) := by decide +kernel
theorem dX11_best_15 : decode cX11_best 15 = .ok (.istore_n 3, 1) := by decide +kernel
theorem dX11_best_16 : decode cX11_best 16 = .ok (.iconst 1, 1) := by decide +kernel
theorem dX11_best_17 : decode cX11_best 17 = .ok (.istore 4, 2) := by decide +kernel
theorem dX11_best_19 : decode cX11_best 19 = .ok (.iload 4, 2) := by decide +kernel
theorem dX11_best_21 : decode cX11_best 21 = .ok (.iconst 1, 1) := by decide +kernel
theorem dX11_best_22 : decode cX11_best 22 = .ok (.aload_n 0, 1) := by decide +kernel
theorem dX11_best_23 : decode cX11_best 23 = .ok (.getfield 88, 3) := by decide +kernel
theorem dX11_best_26 : decode cX11_best 26 = .ok (.getfield 199, 3) := by decide +kernel
theorem dX11_best_29 : decode cX11_best 29 = .ok (.ishl, 1) := by decide +kernel
theorem dX11_best_30 : decode cX11_best 30 = .ok (.if_icmp .ge 70, 3) := by decide +kernel
theorem dX11_best_100 : decode cX11_best 100 = .ok (.iload_n 2, 1) := by decide +kernel
theorem dX11_best_101 : decode cX11_best 101 = .ok (.ireturn, 1) := by decide +kernel
theorem dX11_between_0 : decode cX11_between 0 = .ok (.iload_n 0, 1) := by decide +kernel
theorem dX11_between_1 : decode cX11_between 1 = .ok (.iload_n 1, 1) := by decide +kernel
theorem dX11_between_2 : decode cX11_between 2 = .ok (.if_icmp .lt 12, 3) := by decide +kernel
theorem dX11_between_5 : decode cX11_between 5 = .ok (.iload_n 0, 1) := by decide +kernel
theorem dX11_between_6 : decode cX11_between 6 = .ok (.iload_n 2, 1) := by decide +kernel
theorem dX11_between_7 : decode cX11_between 7 = .ok (.if_icmp .gt 7, 3) := by decide +kernel
theorem dX11_between_10 : decode cX11_between 10 = .ok (.iconst 1, 1) := by decide +kernel
theorem dX11_between_11 : decode cX11_between 11 = .ok (.goto 4, 3) := by decide +kernel
theorem dX11_between_14 : decode cX11_between 14 = .ok (.iconst 0, 1) := by decide +kernel
theorem dX11_between_15 : decode cX11_between 15 = .ok (.ireturn, 1) := by decide +kernel
theorem dX11_birds_0 : decode cX11_birds 0 = .ok (.aload_n 0, 1) := by decide +kernel
theorem dX11_birds_1 : decode cX11_birds 1 = .ok (.iload_n 1, 1) := by decide +kernel
theorem dX11_birds_2 : decode cX11_birds 2 = .ok (.iconst 5, 1) := by decide +kernel
theorem dX11_birds_3 : decode cX11_birds 3 = .ok (.invokevirtual 169, 3) := by decide +kernel
theorem dX11_birds_6 : decode cX11_birds 6 = .ok (.astore 4, 2) := by decide +kernel
theorem dX11_birds_8 : decode cX11_birds 8 = .ok (.aload 4, 2) := by decide +kernel
theorem dX11_birds_10 : decode cX11_birds 10 = .ok (.ifnull 20, 3) := by decide +kernel
theorem dX11_birds_30 : decode cX11_birds 30 = .ok (.iconst 0, 1) := by decide +kernel
theorem dX11_birds_31 : decode cX11_birds 31 = .ok (.ireturn, 1) := by decide +kernel
theorem dX11_blockers_0 : decode cX11_blockers 0 = .ok (.iconst 0, 1) := by decide +kernel
theorem dX11_blockers_1 : decode cX11_blockers 1 = .ok (.istore_n 2, 1) := by decide +kernel
theorem dX11_blockers_2 : decode cX11_blockers 2 = .ok (.iconst 0, 1) := by decide +kernel
theorem dX11_blockers_3 : decode cX11_blockers 3 = .ok (.istore_n 3, 1) := by decide +kernel
theorem dX11_blockers_4 : decode cX11_blockers 4 = .ok (.iload_n 3, 1) := by decide +kernel
theorem dX11_blockers_5 : decode cX11_blockers 5 = .ok (.aload_n 0, 1) := by decide +kernel
theorem dX11_blockers_6 : decode cX11_blockers 6 = .ok (.getfield 36, 3) := by decide +kernel
theorem dX11_blockers_9 : decode cX11_blockers 9 = .ok (.if_icmp .ge 36, 3) := by decide +kernel
theorem dX11_blockers_45 : decode cX11_blockers 45 = .ok (.iload_n 2, 1) := by decide +kernel
theorem dX11_blockers_46 : decode cX11_blockers 46 = .ok (.ireturn, 1) := by decide +kernel
theorem dX11_blocks_0 : decode cX11_blocks 0 = .ok (.iload_n 1, 1) := by decide +kernel
theorem dX11_blocks_1 : decode cX11_blocks 1 = .ok (.iconst 0, 1) := by decide +kernel
theorem dX11_blocks_2 : decode cX11_blocks 2 = .ok (.iconst 1, 1) := by decide +kernel
theorem dX11_blocks_3 : decode cX11_blocks 3 = .ok (.aload_n 0, 1) := by decide +kernel
theorem dX11_blocks_4 : decode cX11_blocks 4 = .ok (.getfield 88, 3) := by decide +kernel
theorem dX11_blocks_7 : decode cX11_blocks 7 = .ok (.getfield 199, 3) := by decide +kernel
theorem dX11_blocks_10 : decode cX11_blocks 10 = .ok (.ishl, 1) := by decide +kernel
theorem dX11_blocks_11 : decode cX11_blocks 11 = .ok (.iconst 1, 1) := by decide +kernel
theorem dX11_blocks_12 : decode cX11_blocks 12 = .ok (.isub, 1) := by decide +kernel
theorem dX11_blocks_13 : decode cX11_blocks 13 = .ok (.invokestatic 112, 3) := by decide +kernel
theorem dX11_blocks_16 : decode cX11_blocks 16 = .ok (.ifCond .eq 11, 3) := by decide +kernel
theorem dX11_blocks_19 : decode cX11_blocks 19 = .ok (.aload_n 0, 1) := by decide +kernel
theorem dX11_blocks_20 : decode cX11_blocks 20 = .ok (.iload_n 1, 1) := by decide +kernel
theorem dX11_blocks_21 : decode cX11_blocks 21 = .ok (.invokevirtual 581, 3) := by decide +kernel
theorem dX11_blocks_24 : decode cX11_blocks 24 = .ok (.goto 4, 3) := by decide +kernel
theorem dX11_blocks_27 : decode cX11_blocks 27 = .ok (.iconst (-1), 1) := by decide +kernel
theorem dX11_blocks_28 : decode cX11_blocks 28 = .ok (.ireturn, 1) := by decide +kernel
theorem dX11_caught_0 : decode cX11_caught 0 = .ok (.aload_n 0, 1) := by decide +kernel
theorem dX11_caught_1 : decode cX11_caught 1 = .ok (.iload_n 1, 1) := by decide +kernel
theorem dX11_caught_2 : decode cX11_caught 2 = .ok (.invokevirtual 403, 3) := by decide +kernel
theorem dX11_caught_5 : decode cX11_caught 5 = .ok (.ifnull 31, 3) := by decide +kernel
theorem dX11_caught_36 : decode cX11_caught 36 = .ok (.iconst (-1), 1) := by decide +kernel
theorem dX11_caught_37 : decode cX11_caught 37 = .ok (.ireturn, 1) := by decide +kernel
theorem dX11_cell_0 : decode cX11_cell 0 = .ok (.iload 4, 2) := by decide +kernel
theorem dX11_cell_2 : decode cX11_cell 2 = .ok (.iconst (-1), 1) := by decide +kernel
theorem dX11_cell_3 : decode cX11_cell 3 = .ok (.if_icmp .ne 12, 3) := by decide +kernel
theorem dX11_cell_6 : decode cX11_cell 6 = .ok (.iload 5, 2) := by decide +kernel
theorem dX11_cell_8 : decode cX11_cell 8 = .ok (.ifCond .ne 7, 3) := by decide +kernel
theorem dX11_cell_11 : decode cX11_cell 11 = .ok (.iconst 1, 1) := by decide +kernel
theorem dX11_cell_12 : decode cX11_cell 12 = .ok (.goto 4, 3) := by decide +kernel
theorem dX11_cell_15 : decode cX11_cell 15 = .ok (.iconst 0, 1) := by decide +kernel
theorem dX11_cell_16 : decode cX11_cell 16 = .ok (.istore 6, 2) := by decide +kernel
theorem dX11_cell_18 : decode cX11_cell 18 = .ok (.iload 4, 2) := by decide +kernel
theorem dX11_cell_20 : decode cX11_cell 20 = .ok (.iconst 0, 1) := by decide +kernel
theorem dX11_cell_21 : decode cX11_cell 21 = .ok (.bipush 7, 2) := by decide +kernel
theorem dX11_cell_23 : decode cX11_cell 23 = .ok (.invokestatic 112, 3) := by decide +kernel
theorem dX11_cell_26 : decode cX11_cell 26 = .ok (.ifCond .eq 20, 3) := by decide +kernel
theorem dX11_cell_29 : decode cX11_cell 29 = .ok (.iload 5, 2) := by decide +kernel
theorem dX11_cell_31 : decode cX11_cell 31 = .ok (.bipush 10, 2) := by decide +kernel
theorem dX11_cell_33 : decode cX11_cell 33 = .ok (.sipush 3600, 3) := by decide +kernel
theorem dX11_cell_36 : decode cX11_cell 36 = .ok (.invokestatic 112, 3) := by decide +kernel
theorem dX11_cell_39 : decode cX11_cell 39 = .ok (.ifCond .eq 7, 3) := by decide +kernel
theorem dX11_cell_42 : decode cX11_cell 42 = .ok (.iconst 1, 1) := by decide +kernel
theorem dX11_cell_43 : decode cX11_cell 43 = .ok (.goto 4, 3) := by decide +kernel
theorem dX11_cell_46 : decode cX11_cell 46 = .ok (.iconst 0, 1) := by decide +kernel
theorem dX11_cell_47 : decode cX11_cell 47 = .ok (.istore 7, 2) := by decide +kernel
theorem dX11_cell_49 : decode cX11_cell 49 = .ok (.aload_n 0, 1) := by decide +kernel
theorem dX11_cell_50 : decode cX11_cell 50 = .ok (.getfield 12, 3) := by decide +kernel
theorem dX11_cell_53 : decode cX11_cell 53 = .ok (.iload_n 1, 1) := by decide +kernel
theorem dX11_cell_54 : decode cX11_cell 54 = .ok (.invokevirtual 119, 3) := by decide +kernel
theorem dX11_cell_57 : decode cX11_cell 57 = .ok (.ifCond .eq 32, 3) := by decide +kernel
theorem dX11_cell_60 : decode cX11_cell 60 = .ok (.iload_n 2, 1) := by decide +kernel
theorem dX11_cell_61 : decode cX11_cell 61 = .ok (.iconst 0, 1) := by decide +kernel
theorem dX11_cell_62 : decode cX11_cell 62 = .ok (.bipush 40, 2) := by decide +kernel
theorem dX11_cell_64 : decode cX11_cell 64 = .ok (.invokestatic 112, 3) := by decide +kernel
theorem dX11_cell_67 : decode cX11_cell 67 = .ok (.ifCond .eq 22, 3) := by decide +kernel
theorem dX11_cell_70 : decode cX11_cell 70 = .ok (.iload_n 3, 1) := by decide +kernel
theorem dX11_cell_71 : decode cX11_cell 71 = .ok (.iconst 0, 1) := by decide +kernel
theorem dX11_cell_72 : decode cX11_cell 72 = .ok (.iconst 3, 1) := by decide +kernel
theorem dX11_cell_73 : decode cX11_cell 73 = .ok (.invokestatic 112, 3) := by decide +kernel
theorem dX11_cell_76 : decode cX11_cell 76 = .ok (.ifCond .eq 13, 3) := by decide +kernel
theorem dX11_cell_79 : decode cX11_cell 79 = .ok (.iload 6, 2) := by decide +kernel
theorem dX11_cell_81 : decode cX11_cell 81 = .ok (.ifCond .ne 10, 3) := by decide +kernel
theorem dX11_cell_84 : decode cX11_cell 84 = .ok (.iload 7, 2) := by decide +kernel
theorem dX11_cell_86 : decode cX11_cell 86 = .ok (.ifCond .ne 5, 3) := by decide +kernel
theorem dX11_cell_89 : decode cX11_cell 89 = .ok (.iconst 0, 1) := by decide +kernel
theorem dX11_cell_90 : decode cX11_cell 90 = .ok (.ireturn, 1) := by decide +kernel
theorem dX11_cell_91 : decode cX11_cell 91 = .ok (.aload_n 0, 1) := by decide +kernel
theorem dX11_cell_92 : decode cX11_cell 92 = .ok (.getfield 12, 3) := by decide +kernel
theorem dX11_cell_95 : decode cX11_cell 95 = .ok (.getfield 123, 3) := by decide +kernel
theorem dX11_cell_98 : decode cX11_cell 98 = .ok (.iload_n 1, 1) := by decide +kernel
theorem dX11_cell_99 : decode cX11_cell 99 = .ok (.iload_n 2, 1) := by decide +kernel
theorem dX11_cell_100 : decode cX11_cell 100 = .ok (.invokestatic 108, 3) := by decide +kernel
theorem dX11_cell_103 : decode cX11_cell 103 = .ok (.aload_n 0, 1) := by decide +kernel
theorem dX11_cell_104 : decode cX11_cell 104 = .ok (.getfield 12, 3) := by decide +kernel
theorem dX11_cell_107 : decode cX11_cell 107 = .ok (.getfield 126, 3) := by decide +kernel
theorem dX11_cell_110 : decode cX11_cell 110 = .ok (.iload_n 1, 1) := by decide +kernel
theorem dX11_cell_111 : decode cX11_cell 111 = .ok (.iload_n 3, 1) := by decide +kernel
theorem dX11_cell_112 : decode cX11_cell 112 = .ok (.invokestatic 108, 3) := by decide +kernel
theorem dX11_cell_115 : decode cX11_cell 115 = .ok (.aload_n 0, 1) := by decide +kernel
theorem dX11_cell_116 : decode cX11_cell 116 = .ok (.getfield 12, 3) := by decide +kernel
theorem dX11_cell_119 : decode cX11_cell 119 = .ok (.getfield 129, 3) := by decide +kernel
theorem dX11_cell_122 : decode cX11_cell 122 = .ok (.iload_n 1, 1) := by decide +kernel
theorem dX11_cell_123 : decode cX11_cell 123 = .ok (.iload 4, 2) := by decide +kernel
theorem dX11_cell_125 : decode cX11_cell 125 = .ok (.invokestatic 108, 3) := by decide +kernel
theorem dX11_cell_128 : decode cX11_cell 128 = .ok (.aload_n 0, 1) := by decide +kernel
theorem dX11_cell_129 : decode cX11_cell 129 = .ok (.getfield 12, 3) := by decide +kernel
theorem dX11_cell_132 : decode cX11_cell 132 = .ok (.getfield 132, 3) := by decide +kernel
theorem dX11_cell_135 : decode cX11_cell 135 = .ok (.iload_n 1, 1) := by decide +kernel
theorem dX11_cell_136 : decode cX11_cell 136 = .ok (.iload 5, 2) := by decide +kernel
theorem dX11_cell_138 : decode cX11_cell 138 = .ok (.invokestatic 108, 3) := by decide +kernel
theorem dX11_cell_141 : decode cX11_cell 141 = .ok (.iconst 1, 1) := by decide +kernel
theorem dX11_cell_142 : decode cX11_cell 142 = .ok (.ireturn, 1) := by decide +kernel
theorem dX11_check_0 : decode cX11_check 0 = .ok (.iload_n 1, 1) := by decide +kernel
theorem dX11_check_1 : decode cX11_check 1 = .ok (.ifCond .lt 17, 3) := by decide +kernel
theorem dX11_check_4 : decode cX11_check 4 = .ok (.iload_n 1, 1) := by decide +kernel
theorem dX11_check_5 : decode cX11_check 5 = .ok (.aload_n 0, 1) := by decide +kernel
theorem dX11_check_6 : decode cX11_check 6 = .ok (.getfield 91, 3) := by decide +kernel
theorem dX11_check_9 : decode cX11_check 9 = .ok (.getfield 199, 3) := by decide +kernel
theorem dX11_check_12 : decode cX11_check 12 = .ok (.bipush 8, 2) := by decide +kernel
theorem dX11_check_14 : decode cX11_check 14 = .ok (.idiv, 1) := by decide +kernel
theorem dX11_check_15 : decode cX11_check 15 = .ok (.if_icmp .le 6, 3) := by decide +kernel
theorem dX11_check_18 : decode cX11_check 18 = .ok (.bipush (-2), 2) := by decide +kernel
theorem dX11_check_20 : decode cX11_check 20 = .ok (.ireturn, 1) := by decide +kernel
theorem dX11_check_21 : decode cX11_check 21 = .ok (.aload_n 0, 1) := by decide +kernel
theorem dX11_check_22 : decode cX11_check 22 = .ok (.iconst 2, 1) := by decide +kernel
theorem dX11_check_23 : decode cX11_check 23 = .ok (.iload_n 1, 1) := by decide +kernel
theorem dX11_check_24 : decode cX11_check 24 = .ok (.imul, 1) := by decide +kernel
theorem dX11_check_25 : decode cX11_check 25 = .ok (.invokevirtual 627, 3) := by decide +kernel
theorem dX11_check_28 : decode cX11_check 28 = .ok (.istore_n 2, 1) := by decide +kernel
theorem dX11_check_29 : decode cX11_check 29 = .ok (.aload_n 0, 1) := by decide +kernel
theorem dX11_check_30 : decode cX11_check 30 = .ok (.getfield 91, 3) := by decide +kernel
theorem dX11_check_33 : decode cX11_check 33 = .ok (.iconst 0, 1) := by decide +kernel
theorem dX11_check_34 : decode cX11_check 34 = .ok (.putfield 199, 3) := by decide +kernel
theorem dX11_check_37 : decode cX11_check 37 = .ok (.iload_n 2, 1) := by decide +kernel
theorem dX11_check_38 : decode cX11_check 38 = .ok (.ireturn, 1) := by decide +kernel
theorem dX11_claim_0 : decode cX11_claim 0 = .ok (.aload_n 0, 1) := by decide +kernel
theorem dX11_claim_1 : decode cX11_claim 1 = .ok (.iload_n 1, 1) := by decide +kernel
theorem dX11_claim_2 : decode cX11_claim 2 = .ok (.invokevirtual 151, 3) := by decide +kernel
theorem dX11_claim_5 : decode cX11_claim 5 = .ok (.astore 5, 2) := by decide +kernel
theorem dX11_claim_7 : decode cX11_claim 7 = .ok (.aload 5, 2) := by decide +kernel
theorem dX11_claim_9 : decode cX11_claim 9 = .ok (.ifnull 37, 3) := by decide +kernel
theorem dX11_claim_46 : decode cX11_claim 46 = .ok (.iconst (-1), 1) := by decide +kernel
theorem dX11_claim_47 : decode cX11_claim 47 = .ok (.ireturn, 1) := by decide +kernel
theorem dX11_count_0 : decode cX11_count 0 = .ok (.iload_n 1, 1) := by decide +kernel
theorem dX11_count_1 : decode cX11_count 1 = .ok (.tableswitch 210 0 16 #[83, 91, 99, 107, 112, 117, 125, 136, 141, 146, 151, 159, 167, 175, 183, 194, 202], 83) := by decide +kernel
theorem dX11_count_84 : decode cX11_count 84 = .ok (.aload_n 0, 1) := by decide +kernel
theorem dX11_count_85 : decode cX11_count 85 = .ok (.getfield 12, 3) := by decide +kernel
theorem dX11_count_88 : decode cX11_count 88 = .ok (.getfield 145, 3) := by decide +kernel
theorem dX11_count_91 : decode cX11_count 91 = .ok (.ireturn, 1) := by decide +kernel
theorem dX11_count_92 : decode cX11_count 92 = .ok (.aload_n 0, 1) := by decide +kernel
theorem dX11_count_93 : decode cX11_count 93 = .ok (.getfield 12, 3) := by decide +kernel
theorem dX11_count_96 : decode cX11_count 96 = .ok (.getfield 639, 3) := by decide +kernel
theorem dX11_count_99 : decode cX11_count 99 = .ok (.ireturn, 1) := by decide +kernel
theorem dX11_count_100 : decode cX11_count 100 = .ok (.aload_n 0, 1) := by decide +kernel
theorem dX11_count_101 : decode cX11_count 101 = .ok (.getfield 12, 3) := by decide +kernel
theorem dX11_count_104 : decode cX11_count 104 = .ok (.getfield 642, 3) := by decide +kernel
theorem dX11_count_107 : decode cX11_count 107 = .ok (.ireturn, 1) := by decide +kernel
theorem dX11_count_108 : decode cX11_count 108 = .ok (.aload_n 0, 1) := by decide +kernel
theorem dX11_count_109 : decode cX11_count 109 = .ok (.getfield 36, 3) := by decide +kernel
theorem dX11_count_112 : decode cX11_count 112 = .ok (.ireturn, 1) := by decide +kernel
theorem dX11_count_113 : decode cX11_count 113 = .ok (.aload_n 0, 1) := by decide +kernel
theorem dX11_count_114 : decode cX11_count 114 = .ok (.getfield 46, 3) := by decide +kernel
theorem dX11_count_117 : decode cX11_count 117 = .ok (.ireturn, 1) := by decide +kernel
theorem dX11_count_118 : decode cX11_count 118 = .ok (.aload_n 0, 1) := by decide +kernel
theorem dX11_count_119 : decode cX11_count 119 = .ok (.getfield 19, 3) := by decide +kernel
theorem dX11_count_122 : decode cX11_count 122 = .ok (.getfield 216, 3) := by decide +kernel
theorem dX11_count_125 : decode cX11_count 125 = .ok (.ireturn, 1) := by decide +kernel
theorem dX11_count_126 : decode cX11_count 126 = .ok (.aload_n 0, 1) := by decide +kernel
theorem dX11_count_127 : decode cX11_count 127 = .ok (.getfield 19, 3) := by decide +kernel
theorem dX11_count_130 : decode cX11_count 130 = .ok (.getfield 262, 3) := by decide +kernel
theorem dX11_count_133 : decode cX11_count 133 = .ok (.getfield 199, 3) := by decide +kernel
theorem dX11_count_136 : decode cX11_count 136 = .ok (.ireturn, 1) := by decide +kernel
theorem dX11_count_137 : decode cX11_count 137 = .ok (.aload_n 0, 1) := by decide +kernel
theorem dX11_count_138 : decode cX11_count 138 = .ok (.getfield 55, 3) := by decide +kernel
theorem dX11_count_141 : decode cX11_count 141 = .ok (.ireturn, 1) := by decide +kernel
theorem dX11_count_142 : decode cX11_count 142 = .ok (.aload_n 0, 1) := by decide +kernel
theorem dX11_count_143 : decode cX11_count 143 = .ok (.getfield 64, 3) := by decide +kernel
theorem dX11_count_146 : decode cX11_count 146 = .ok (.ireturn, 1) := by decide +kernel
theorem dX11_count_147 : decode cX11_count 147 = .ok (.aload_n 0, 1) := by decide +kernel
theorem dX11_count_148 : decode cX11_count 148 = .ok (.invokevirtual 644, 3) := by decide +kernel
theorem dX11_count_151 : decode cX11_count 151 = .ok (.ireturn, 1) := by decide +kernel
theorem dX11_count_152 : decode cX11_count 152 = .ok (.aload_n 0, 1) := by decide +kernel
theorem dX11_count_153 : decode cX11_count 153 = .ok (.getfield 76, 3) := by decide +kernel
theorem dX11_count_156 : decode cX11_count 156 = .ok (.getfield 199, 3) := by decide +kernel
theorem dX11_count_159 : decode cX11_count 159 = .ok (.ireturn, 1) := by decide +kernel
theorem dX11_count_160 : decode cX11_count 160 = .ok (.aload_n 0, 1) := by decide +kernel
theorem dX11_count_161 : decode cX11_count 161 = .ok (.getfield 79, 3) := by decide +kernel
theorem dX11_count_164 : decode cX11_count 164 = .ok (.getfield 199, 3) := by decide +kernel
theorem dX11_count_167 : decode cX11_count 167 = .ok (.ireturn, 1) := by decide +kernel
theorem dX11_count_168 : decode cX11_count 168 = .ok (.aload_n 0, 1) := by decide +kernel
theorem dX11_count_169 : decode cX11_count 169 = .ok (.getfield 82, 3) := by decide +kernel
theorem dX11_count_172 : decode cX11_count 172 = .ok (.getfield 199, 3) := by decide +kernel
theorem dX11_count_175 : decode cX11_count 175 = .ok (.ireturn, 1) := by decide +kernel
theorem dX11_count_176 : decode cX11_count 176 = .ok (.aload_n 0, 1) := by decide +kernel
theorem dX11_count_177 : decode cX11_count 177 = .ok (.getfield 88, 3) := by decide +kernel
theorem dX11_count_180 : decode cX11_count 180 = .ok (.getfield 199, 3) := by decide +kernel
theorem dX11_count_183 : decode cX11_count 183 = .ok (.ireturn, 1) := by decide +kernel
theorem dX11_count_184 : decode cX11_count 184 = .ok (.aload_n 0, 1) := by decide +kernel
theorem dX11_count_185 : decode cX11_count 185 = .ok (.getfield 26, 3) := by decide +kernel
theorem dX11_count_188 : decode cX11_count 188 = .ok (.getfield 593, 3) := by decide +kernel
theorem dX11_count_191 : decode cX11_count 191 = .ok (.getfield 199, 3) := by decide +kernel
theorem dX11_count_194 : decode cX11_count 194 = .ok (.ireturn, 1) := by decide +kernel
theorem dX11_count_195 : decode cX11_count 195 = .ok (.aload_n 0, 1) := by decide +kernel
theorem dX11_count_196 : decode cX11_count 196 = .ok (.getfield 85, 3) := by decide +kernel
theorem dX11_count_199 : decode cX11_count 199 = .ok (.getfield 199, 3) := by decide +kernel
theorem dX11_count_202 : decode cX11_count 202 = .ok (.ireturn, 1) := by decide +kernel
theorem dX11_count_203 : decode cX11_count 203 = .ok (.aload_n 0, 1) := by decide +kernel
theorem dX11_count_204 : decode cX11_count 204 = .ok (.getfield 91, 3) := by decide +kernel
theorem dX11_count_207 : decode cX11_count 207 = .ok (.getfield 199, 3) := by decide +kernel
theorem dX11_count_210 : decode cX11_count 210 = .ok (.ireturn, 1) := by decide +kernel
theorem dX11_count_211 : decode cX11_count 211 = .ok (.aload_n 0, 1) := by decide +kernel
theorem dX11_count_212 : decode cX11_count 212 = .ok (.iload_n 1, 1) := by decide +kernel
theorem dX11_count_213 : decode cX11_count 213 = .ok (.invokevirtual 647, 3) := by decide +kernel
theorem dX11_count_216 : decode cX11_count 216 = .ok (.ireturn, 1) := by decide +kernel
theorem dX11_counts_0 : decode cX11_counts 0 = .ok (.aload_n 0, 1) := by decide +kernel
theorem dX11_counts_1 : decode cX11_counts 1 = .ok (.iload_n 2, 1) := by decide +kernel
theorem dX11_counts_2 : decode cX11_counts 2 = .ok (.invokevirtual 151, 3) := by decide +kernel
theorem dX11_counts_5 : decode cX11_counts 5 = .ok (.astore 4, 2) := by decide +kernel
theorem dX11_counts_7 : decode cX11_counts 7 = .ok (.aload 4, 2) := by decide +kernel
theorem dX11_counts_9 : decode cX11_counts 9 = .ok (.ifnull 21, 3) := by decide +kernel
theorem dX11_counts_30 : decode cX11_counts 30 = .ok (.iconst (-1), 1) := by decide +kernel
theorem dX11_counts_31 : decode cX11_counts 31 = .ok (.ireturn, 1) := by decide +kernel
theorem dX11_cover_0 : decode cX11_cover 0 = .ok (.iload_n 1, 1) := by decide +kernel
theorem dX11_cover_1 : decode cX11_cover 1 = .ok (.invokestatic 394, 3) := by decide +kernel
theorem dX11_cover_4 : decode cX11_cover 4 = .ok (.ifCond .eq 23, 3) := by decide +kernel
theorem dX11_cover_7 : decode cX11_cover 7 = .ok (.iload_n 2, 1) := by decide +kernel
theorem dX11_cover_8 : decode cX11_cover 8 = .ok (.iconst 0, 1) := by decide +kernel
theorem dX11_cover_9 : decode cX11_cover 9 = .ok (.bipush 11, 2) := by decide +kernel
theorem dX11_cover_11 : decode cX11_cover 11 = .ok (.invokestatic 112, 3) := by decide +kernel
theorem dX11_cover_14 : decode cX11_cover 14 = .ok (.ifCond .eq 13, 3) := by decide +kernel
theorem dX11_cover_17 : decode cX11_cover 17 = .ok (.iload_n 3, 1) := by decide +kernel
theorem dX11_cover_18 : decode cX11_cover 18 = .ok (.iconst 0, 1) := by decide +kernel
theorem dX11_cover_19 : decode cX11_cover 19 = .ok (.bipush 100, 2) := by decide +kernel
theorem dX11_cover_21 : decode cX11_cover 21 = .ok (.invokestatic 112, 3) := by decide +kernel
theorem dX11_cover_24 : decode cX11_cover 24 = .ok (.ifCond .ne 5, 3) := by decide +kernel
theorem dX11_cover_27 : decode cX11_cover 27 = .ok (.iconst 0, 1) := by decide +kernel
theorem dX11_cover_28 : decode cX11_cover 28 = .ok (.ireturn, 1) := by decide +kernel
theorem dX11_cover_29 : decode cX11_cover 29 = .ok (.aload_n 0, 1) := by decide +kernel
theorem dX11_cover_30 : decode cX11_cover 30 = .ok (.getfield 12, 3) := by decide +kernel
theorem dX11_cover_33 : decode cX11_cover 33 = .ok (.getfield 397, 3) := by decide +kernel
theorem dX11_cover_36 : decode cX11_cover 36 = .ok (.iload_n 1, 1) := by decide +kernel
theorem dX11_cover_37 : decode cX11_cover 37 = .ok (.bipush 12, 2) := by decide +kernel
theorem dX11_cover_39 : decode cX11_cover 39 = .ok (.imul, 1) := by decide +kernel
theorem dX11_cover_40 : decode cX11_cover 40 = .ok (.iload_n 2, 1) := by decide +kernel
theorem dX11_cover_41 : decode cX11_cover 41 = .ok (.iadd, 1) := by decide +kernel
theorem dX11_cover_42 : decode cX11_cover 42 = .ok (.iload_n 3, 1) := by decide +kernel
theorem dX11_cover_43 : decode cX11_cover 43 = .ok (.invokestatic 108, 3) := by decide +kernel
theorem dX11_cover_46 : decode cX11_cover 46 = .ok (.iconst 1, 1) := by decide +kernel
theorem dX11_cover_47 : decode cX11_cover 47 = .ok (.ireturn, 1) := by decide +kernel
theorem dX11_dark_0 : decode cX11_dark 0 = .ok (.iload_n 1, 1) := by decide +kernel
theorem dX11_dark_1 : decode cX11_dark 1 = .ok (.iload_n 2, 1) := by decide +kernel
theorem dX11_dark_2 : decode cX11_dark 2 = .ok (.invokestatic 135, 3) := by decide +kernel
theorem dX11_dark_5 : decode cX11_dark 5 = .ok (.ifCond .ne 5, 3) := by decide +kernel
theorem dX11_dark_8 : decode cX11_dark 8 = .ok (.iconst 0, 1) := by decide +kernel
theorem dX11_dark_9 : decode cX11_dark 9 = .ok (.ireturn, 1) := by decide +kernel
theorem dX11_dark_10 : decode cX11_dark 10 = .ok (.aload_n 0, 1) := by decide +kernel
theorem dX11_dark_11 : decode cX11_dark 11 = .ok (.getfield 12, 3) := by decide +kernel
theorem dX11_dark_14 : decode cX11_dark 14 = .ok (.iload_n 1, 1) := by decide +kernel
theorem dX11_dark_15 : decode cX11_dark 15 = .ok (.putfield 139, 3) := by decide +kernel
theorem dX11_dark_18 : decode cX11_dark 18 = .ok (.aload_n 0, 1) := by decide +kernel
theorem dX11_dark_19 : decode cX11_dark 19 = .ok (.getfield 12, 3) := by decide +kernel
theorem dX11_dark_22 : decode cX11_dark 22 = .ok (.iload_n 2, 1) := by decide +kernel
theorem dX11_dark_23 : decode cX11_dark 23 = .ok (.putfield 142, 3) := by decide +kernel
theorem dX11_dark_26 : decode cX11_dark 26 = .ok (.iconst 1, 1) := by decide +kernel
theorem dX11_dark_27 : decode cX11_dark 27 = .ok (.ireturn, 1) := by decide +kernel
theorem dX11_day_0 : decode cX11_day 0 = .ok (.aload_n 0, 1) := by decide +kernel
theorem dX11_day_1 : decode cX11_day 1 = .ok (.getfield 12, 3) := by decide +kernel
theorem dX11_day_4 : decode cX11_day 4 = .ok (.getfield 145, 3) := by decide +kernel
theorem dX11_day_7 : decode cX11_day 7 = .ok (.sipush 3599, 3) := by decide +kernel
theorem dX11_day_10 : decode cX11_day 10 = .ok (.if_icmp .lt 5, 3) := by decide +kernel
theorem dX11_day_15 : decode cX11_day 15 = .ok (.aload_n 0, 1) := by decide +kernel
theorem dX11_day_16 : decode cX11_day 16 = .ok (.getfield 12, 3) := by decide +kernel
theorem dX11_day_19 : decode cX11_day 19 = .ok (.dup, 1) := by decide +kernel
theorem dX11_day_20 : decode cX11_day 20 = .ok (.getfield 145, 3) := by decide +kernel
theorem dX11_day_23 : decode cX11_day 23 = .ok (.iconst 1, 1) := by decide +kernel
theorem dX11_day_24 : decode cX11_day 24 = .ok (.iadd, 1) := by decide +kernel
theorem dX11_day_25 : decode cX11_day 25 = .ok (.putfield 145, 3) := by decide +kernel
theorem dX11_day_28 : decode cX11_day 28 = .ok (.aload_n 0, 1) := by decide +kernel
theorem dX11_day_29 : decode cX11_day 29 = .ok (.getfield 26, 3) := by decide +kernel
theorem dX11_day_32 : decode cX11_day 32 = .ok (.invokevirtual 435, 3) := by decide +kernel
theorem dX11_day_35 : decode cX11_day 35 = .ok (.iconst 0, 1) := by decide +kernel
theorem dX11_day_36 : decode cX11_day 36 = .ok (.istore_n 1, 1) := by decide +kernel
theorem dX11_day_37 : decode cX11_day 37 = .ok (.iload_n 1, 1) := by decide +kernel
theorem dX11_day_38 : decode cX11_day 38 = .ok (.aload_n 0, 1) := by decide +kernel
theorem dX11_day_39 : decode cX11_day 39 = .ok (.getfield 55, 3) := by decide +kernel
theorem dX11_day_42 : decode cX11_day 42 = .ok (.if_icmp .ge 14, 3) := by decide +kernel
theorem dX11_day_56 : decode cX11_day 56 = .ok (.aload_n 0, 1) := by decide +kernel
theorem dX11_day_57 : decode cX11_day 57 = .ok (.invokevirtual 439, 3) := by decide +kernel
theorem dX11_day_60 : decode cX11_day 60 = .ok (.iconst 0, 1) := by decide +kernel
theorem dX11_day_61 : decode cX11_day 61 = .ok (.istore_n 1, 1) := by decide +kernel
theorem dX11_day_62 : decode cX11_day 62 = .ok (.iload_n 1, 1) := by decide +kernel
theorem dX11_day_63 : decode cX11_day 63 = .ok (.aload_n 0, 1) := by decide +kernel
theorem dX11_day_64 : decode cX11_day 64 = .ok (.getfield 46, 3) := by decide +kernel
theorem dX11_day_67 : decode cX11_day 67 = .ok (.if_icmp .ge 14, 3) := by decide +kernel
theorem dX11_day_81 : decode cX11_day 81 = .ok (.iconst 0, 1) := by decide +kernel
theorem dX11_day_82 : decode cX11_day 82 = .ok (.istore_n 1, 1) := by decide +kernel
theorem dX11_day_83 : decode cX11_day 83 = .ok (.iload_n 1, 1) := by decide +kernel
theorem dX11_day_84 : decode cX11_day 84 = .ok (.aload_n 0, 1) := by decide +kernel
theorem dX11_day_85 : decode cX11_day 85 = .ok (.getfield 64, 3) := by decide +kernel
theorem dX11_day_88 : decode cX11_day 88 = .ok (.if_icmp .ge 18, 3) := by decide +kernel
theorem dX11_day_106 : decode cX11_day 106 = .ok (.iconst 0, 1) := by decide +kernel
theorem dX11_day_107 : decode cX11_day 107 = .ok (.istore_n 1, 1) := by decide +kernel
theorem dX11_day_108 : decode cX11_day 108 = .ok (.iload_n 1, 1) := by decide +kernel
theorem dX11_day_109 : decode cX11_day 109 = .ok (.aload_n 0, 1) := by decide +kernel
theorem dX11_day_110 : decode cX11_day 110 = .ok (.getfield 72, 3) := by decide +kernel
theorem dX11_day_113 : decode cX11_day 113 = .ok (.getfield 199, 3) := by decide +kernel
theorem dX11_day_116 : decode cX11_day 116 = .ok (.if_icmp .ge 14, 3) := by decide +kernel
theorem dX11_day_130 : decode cX11_day 130 = .ok (.aload_n 0, 1) := by decide +kernel
theorem dX11_day_131 : decode cX11_day 131 = .ok (.getfield 12, 3) := by decide +kernel
theorem dX11_day_134 : decode cX11_day 134 = .ok (.getfield 145, 3) := by decide +kernel
theorem dX11_day_137 : decode cX11_day 137 = .ok (.ireturn, 1) := by decide +kernel
theorem dX11_decides_0 : decode cX11_decides 0 = .ok (.aload_n 0, 1) := by decide +kernel
theorem dX11_decides_1 : decode cX11_decides 1 = .ok (.iload_n 1, 1) := by decide +kernel
theorem dX11_decides_2 : decode cX11_decides 2 = .ok (.invokevirtual 151, 3) := by decide +kernel
theorem dX11_decides_5 : decode cX11_decides 5 = .ok (.astore_n 3, 1) := by decide +kernel
theorem dX11_decides_6 : decode cX11_decides 6 = .ok (.aload_n 3, 1) := by decide +kernel
theorem dX11_decides_7 : decode cX11_decides 7 = .ok (.ifnull 10, 3) := by decide +kernel
theorem dX11_decides_17 : decode cX11_decides 17 = .ok (.iconst (-1), 1) := by decide +kernel
theorem dX11_decides_18 : decode cX11_decides 18 = .ok (.ireturn, 1) := by decide +kernel
theorem dX11_decidesFrom_0 : decode cX11_decidesFrom 0 = .ok (.iload_n 1, 1) := by decide +kernel
theorem dX11_decidesFrom_1 : decode cX11_decidesFrom 1 = .ok (.bipush 20, 2) := by decide +kernel
theorem dX11_decidesFrom_3 : decode cX11_decidesFrom 3 = .ok (.bipush 28, 2) := by decide +kernel
theorem dX11_decidesFrom_5 : decode cX11_decidesFrom 5 = .ok (.invokestatic 112, 3) := by decide +kernel
theorem dX11_decidesFrom_8 : decode cX11_decidesFrom 8 = .ok (.ifCond .eq 14, 3) := by decide +kernel
theorem dX11_decidesFrom_11 : decode cX11_decidesFrom 11 = .ok (.aload_n 0, 1) := by decide +kernel
theorem dX11_decidesFrom_12 : decode cX11_decidesFrom 12 = .ok (.iload_n 1, 1) := by decide +kernel
theorem dX11_decidesFrom_13 : decode cX11_decidesFrom 13 = .ok (.bipush 20, 2) := by decide +kernel
theorem dX11_decidesFrom_15 : decode cX11_decidesFrom 15 = .ok (.isub, 1) := by decide +kernel
theorem dX11_decidesFrom_16 : decode cX11_decidesFrom 16 = .ok (.invokevirtual 151, 3) := by decide +kernel
theorem dX11_decidesFrom_19 : decode cX11_decidesFrom 19 = .ok (.goto 4, 3) := by decide +kernel
theorem dX11_decidesFrom_22 : decode cX11_decidesFrom 22 = .ok (.aconst_null, 1) := by decide +kernel
theorem dX11_decidesFrom_23 : decode cX11_decidesFrom 23 = .ok (.astore_n 2, 1) := by decide +kernel
theorem dX11_decidesFrom_24 : decode cX11_decidesFrom 24 = .ok (.aload_n 2, 1) := by decide +kernel
theorem dX11_decidesFrom_25 : decode cX11_decidesFrom 25 = .ok (.ifnonnull 7, 3) := by decide +kernel
theorem dX11_decidesFrom_28 : decode cX11_decidesFrom 28 = .ok (.iconst (-1), 1) := by decide +kernel
theorem dX11_decidesFrom_29 : decode cX11_decidesFrom 29 = .ok (.goto 7, 3) := by decide +kernel
theorem dX11_decidesFrom_36 : decode cX11_decidesFrom 36 = .ok (.ireturn, 1) := by decide +kernel
theorem dX11_decidingOn_0 : decode cX11_decidingOn 0 = .ok (.iconst 0, 1) := by decide +kernel
theorem dX11_decidingOn_1 : decode cX11_decidingOn 1 = .ok (.istore_n 2, 1) := by decide +kernel
theorem dX11_decidingOn_2 : decode cX11_decidingOn 2 = .ok (.iconst 0, 1) := by decide +kernel
theorem dX11_decidingOn_3 : decode cX11_decidingOn 3 = .ok (.istore_n 3, 1) := by decide +kernel
theorem dX11_decidingOn_4 : decode cX11_decidingOn 4 = .ok (.iload_n 3, 1) := by decide +kernel
theorem dX11_decidingOn_5 : decode cX11_decidingOn 5 = .ok (.aload_n 0, 1) := by decide +kernel
theorem dX11_decidingOn_6 : decode cX11_decidingOn 6 = .ok (.getfield 36, 3) := by decide +kernel
theorem dX11_decidingOn_9 : decode cX11_decidingOn 9 = .ok (.if_icmp .ge 36, 3) := by decide +kernel
theorem dX11_decidingOn_45 : decode cX11_decidingOn 45 = .ok (.iload_n 2, 1) := by decide +kernel
theorem dX11_decidingOn_46 : decode cX11_decidingOn 46 = .ok (.ireturn, 1) := by decide +kernel
theorem dX11_declare_0 : decode cX11_declare 0 = .ok (.aload_n 0, 1) := by decide +kernel
theorem dX11_declare_1 : decode cX11_declare 1 = .ok (.iload_n 1, 1) := by decide +kernel
theorem dX11_declare_2 : decode cX11_declare 2 = .ok (.iconst 1, 1) := by decide +kernel
theorem dX11_declare_3 : decode cX11_declare 3 = .ok (.invokevirtual 169, 3) := by decide +kernel
theorem dX11_declare_6 : decode cX11_declare 6 = .ok (.astore 4, 2) := by decide +kernel
theorem dX11_declare_8 : decode cX11_declare 8 = .ok (.aload 4, 2) := by decide +kernel
theorem dX11_declare_10 : decode cX11_declare 10 = .ok (.ifnull 25, 3) := by decide +kernel
theorem dX11_declare_35 : decode cX11_declare 35 = .ok (.iconst 0, 1) := by decide +kernel
theorem dX11_declare_36 : decode cX11_declare 36 = .ok (.ireturn, 1) := by decide +kernel
theorem dX11_doubt_0 : decode cX11_doubt 0 = .ok (.iload_n 1, 1) := by decide +kernel
theorem dX11_doubt_1 : decode cX11_doubt 1 = .ok (.iconst 0, 1) := by decide +kernel
theorem dX11_doubt_2 : decode cX11_doubt 2 = .ok (.iconst 1, 1) := by decide +kernel
theorem dX11_doubt_3 : decode cX11_doubt 3 = .ok (.invokestatic 112, 3) := by decide +kernel
theorem dX11_doubt_6 : decode cX11_doubt 6 = .ok (.ifCond .ne 5, 3) := by decide +kernel
theorem dX11_doubt_9 : decode cX11_doubt 9 = .ok (.iconst (-1), 1) := by decide +kernel
theorem dX11_doubt_10 : decode cX11_doubt 10 = .ok (.ireturn, 1) := by decide +kernel
theorem dX11_doubt_11 : decode cX11_doubt 11 = .ok (.iconst 0, 1) := by decide +kernel
theorem dX11_doubt_12 : decode cX11_doubt 12 = .ok (.istore_n 2, 1) := by decide +kernel
theorem dX11_doubt_13 : decode cX11_doubt 13 = .ok (.iload_n 2, 1) := by decide +kernel
theorem dX11_doubt_14 : decode cX11_doubt 14 = .ok (.aload_n 0, 1) := by decide +kernel
theorem dX11_doubt_15 : decode cX11_doubt 15 = .ok (.getfield 82, 3) := by decide +kernel
theorem dX11_doubt_18 : decode cX11_doubt 18 = .ok (.getfield 199, 3) := by decide +kernel
theorem dX11_doubt_21 : decode cX11_doubt 21 = .ok (.if_icmp .ge 49, 3) := by decide +kernel
theorem dX11_doubt_70 : decode cX11_doubt 70 = .ok (.iconst (-1), 1) := by decide +kernel
theorem dX11_doubt_71 : decode cX11_doubt 71 = .ok (.ireturn, 1) := by decide +kernel
theorem dX11_drill_0 : decode cX11_drill 0 = .ok (.aload_n 0, 1) := by decide +kernel
theorem dX11_drill_1 : decode cX11_drill 1 = .ok (.iload_n 1, 1) := by decide +kernel
theorem dX11_drill_2 : decode cX11_drill 2 = .ok (.iconst 4, 1) := by decide +kernel
theorem dX11_drill_3 : decode cX11_drill 3 = .ok (.invokevirtual 169, 3) := by decide +kernel
theorem dX11_drill_6 : decode cX11_drill 6 = .ok (.astore_n 3, 1) := by decide +kernel
theorem dX11_drill_7 : decode cX11_drill 7 = .ok (.aload_n 0, 1) := by decide +kernel
theorem dX11_drill_8 : decode cX11_drill 8 = .ok (.iload_n 2, 1) := by decide +kernel
theorem dX11_drill_9 : decode cX11_drill 9 = .ok (.invokevirtual 309, 3) := by decide +kernel
theorem dX11_drill_12 : decode cX11_drill 12 = .ok (.astore 4, 2) := by decide +kernel
theorem dX11_drill_14 : decode cX11_drill 14 = .ok (.aload_n 3, 1) := by decide +kernel
theorem dX11_drill_15 : decode cX11_drill 15 = .ok (.ifnull 29, 3) := by decide +kernel
theorem dX11_drill_44 : decode cX11_drill 44 = .ok (.iconst (-1), 1) := by decide +kernel
theorem dX11_drill_45 : decode cX11_drill 45 = .ok (.ireturn, 1) := by decide +kernel
theorem dX11_feed_0 : decode cX11_feed 0 = .ok (.aload_n 0, 1) := by decide +kernel
theorem dX11_feed_1 : decode cX11_feed 1 = .ok (.getfield 91, 3) := by decide +kernel
theorem dX11_feed_4 : decode cX11_feed 4 = .ok (.getfield 199, 3) := by decide +kernel
theorem dX11_feed_7 : decode cX11_feed 7 = .ok (.bipush 20, 2) := by decide +kernel
theorem dX11_feed_9 : decode cX11_feed 9 = .ok (.iadd, 1) := by decide +kernel
theorem dX11_feed_10 : decode cX11_feed 10 = .ok (.sipush 400, 3) := by decide +kernel
theorem dX11_feed_13 : decode cX11_feed 13 = .ok (.if_icmp .le 5, 3) := by decide +kernel
theorem dX11_feed_18 : decode cX11_feed 18 = .ok (.aload_n 0, 1) := by decide +kernel
theorem dX11_feed_19 : decode cX11_feed 19 = .ok (.iload_n 1, 1) := by decide +kernel
theorem dX11_feed_20 : decode cX11_feed 20 = .ok (.invokevirtual 202, 3) := by decide +kernel
theorem dX11_feed_23 : decode cX11_feed 23 = .ok (.aload_n 0, 1) := by decide +kernel
theorem dX11_feed_24 : decode cX11_feed 24 = .ok (.iload_n 2, 1) := by decide +kernel
theorem dX11_feed_25 : decode cX11_feed 25 = .ok (.invokevirtual 202, 3) := by decide +kernel
theorem dX11_feed_28 : decode cX11_feed 28 = .ok (.aload_n 0, 1) := by decide +kernel
theorem dX11_feed_29 : decode cX11_feed 29 = .ok (.iload_n 3, 1) := by decide +kernel
theorem dX11_feed_30 : decode cX11_feed 30 = .ok (.invokevirtual 202, 3) := by decide +kernel
theorem dX11_feed_33 : decode cX11_feed 33 = .ok (.aload_n 0, 1) := by decide +kernel
theorem dX11_feed_34 : decode cX11_feed 34 = .ok (.iload 4, 2) := by decide +kernel
theorem dX11_feed_36 : decode cX11_feed 36 = .ok (.invokevirtual 202, 3) := by decide +kernel
theorem dX11_feed_39 : decode cX11_feed 39 = .ok (.aload_n 0, 1) := by decide +kernel
theorem dX11_feed_40 : decode cX11_feed 40 = .ok (.iload 5, 2) := by decide +kernel
theorem dX11_feed_42 : decode cX11_feed 42 = .ok (.invokevirtual 202, 3) := by decide +kernel
theorem dX11_feed_45 : decode cX11_feed 45 = .ok (.aload_n 0, 1) := by decide +kernel
theorem dX11_feed_46 : decode cX11_feed 46 = .ok (.getfield 91, 3) := by decide +kernel
theorem dX11_feed_49 : decode cX11_feed 49 = .ok (.getfield 199, 3) := by decide +kernel
theorem dX11_feed_52 : decode cX11_feed 52 = .ok (.ireturn, 1) := by decide +kernel
theorem dX11_feedNumber_0 : decode cX11_feedNumber 0 = .ok (.bipush 24, 2) := by decide +kernel
theorem dX11_feedNumber_2 : decode cX11_feedNumber 2 = .ok (.istore_n 2, 1) := by decide +kernel
theorem dX11_feedNumber_3 : decode cX11_feedNumber 3 = .ok (.iload_n 2, 1) := by decide +kernel
theorem dX11_feedNumber_4 : decode cX11_feedNumber 4 = .ok (.ifCond .lt 28, 3) := by decide +kernel
theorem dX11_feedNumber_7 : decode cX11_feedNumber 7 = .ok (.aload_n 0, 1) := by decide +kernel
theorem dX11_feedNumber_8 : decode cX11_feedNumber 8 = .ok (.getfield 91, 3) := by decide +kernel
theorem dX11_feedNumber_11 : decode cX11_feedNumber 11 = .ok (.iload_n 1, 1) := by decide +kernel
theorem dX11_feedNumber_12 : decode cX11_feedNumber 12 = .ok (.iload_n 2, 1) := by decide +kernel
theorem dX11_feedNumber_13 : decode cX11_feedNumber 13 = .ok (.ishr, 1) := by decide +kernel
theorem dX11_feedNumber_14 : decode cX11_feedNumber 14 = .ok (.sipush 255, 3) := by decide +kernel
theorem dX11_feedNumber_17 : decode cX11_feedNumber 17 = .ok (.iand, 1) := by decide +kernel
theorem dX11_feedNumber_18 : decode cX11_feedNumber 18 = .ok (.iconst 0, 1) := by decide +kernel
theorem dX11_feedNumber_19 : decode cX11_feedNumber 19 = .ok (.iconst 0, 1) := by decide +kernel
theorem dX11_feedNumber_20 : decode cX11_feedNumber 20 = .ok (.iconst 0, 1) := by decide +kernel
theorem dX11_feedNumber_21 : decode cX11_feedNumber 21 = .ok (.iconst 0, 1) := by decide +kernel
theorem dX11_feedNumber_22 : decode cX11_feedNumber 22 = .ok (.invokevirtual 205, 3) := by decide +kernel
theorem dX11_feedNumber_25 : decode cX11_feedNumber 25 = .ok (.pop, 1) := by decide +kernel
theorem dX11_feedNumber_26 : decode cX11_feedNumber 26 = .ok (.iinc 2 (-8), 3) := by decide +kernel
theorem dX11_feedNumber_29 : decode cX11_feedNumber 29 = .ok (.goto (-26), 3) := by decide +kernel
theorem dX11_feedNumber_32 : decode cX11_feedNumber 32 = .ok (.return_, 1) := by decide +kernel
theorem dX11_field_0 : decode cX11_field 0 = .ok (.aload_n 0, 1) := by decide +kernel
theorem dX11_field_1 : decode cX11_field 1 = .ok (.iload_n 1, 1) := by decide +kernel
theorem dX11_field_2 : decode cX11_field 2 = .ok (.invokevirtual 195, 3) := by decide +kernel
theorem dX11_field_5 : decode cX11_field 5 = .ok (.astore_n 3, 1) := by decide +kernel
theorem dX11_field_6 : decode cX11_field 6 = .ok (.aload_n 3, 1) := by decide +kernel
theorem dX11_field_7 : decode cX11_field 7 = .ok (.ifnull 14, 3) := by decide +kernel
theorem dX11_field_21 : decode cX11_field 21 = .ok (.iconst (-1), 1) := by decide +kernel
theorem dX11_field_22 : decode cX11_field 22 = .ok (.ireturn, 1) := by decide +kernel
theorem dX11_firstWrong_0 : decode cX11_firstWrong 0 = .ok (.iconst 0, 1) := by decide +kernel
theorem dX11_firstWrong_1 : decode cX11_firstWrong 1 = .ok (.istore_n 2, 1) := by decide +kernel
theorem dX11_firstWrong_2 : decode cX11_firstWrong 2 = .ok (.iconst 0, 1) := by decide +kernel
theorem dX11_firstWrong_3 : decode cX11_firstWrong 3 = .ok (.istore_n 3, 1) := by decide +kernel
theorem dX11_firstWrong_4 : decode cX11_firstWrong 4 = .ok (.iload_n 3, 1) := by decide +kernel
theorem dX11_firstWrong_5 : decode cX11_firstWrong 5 = .ok (.aload_n 0, 1) := by decide +kernel
theorem dX11_firstWrong_6 : decode cX11_firstWrong 6 = .ok (.getfield 46, 3) := by decide +kernel
theorem dX11_firstWrong_9 : decode cX11_firstWrong 9 = .ok (.if_icmp .ge 68, 3) := by decide +kernel
theorem dX11_firstWrong_77 : decode cX11_firstWrong 77 = .ok (.iload_n 2, 1) := by decide +kernel
theorem dX11_firstWrong_78 : decode cX11_firstWrong 78 = .ok (.iload_n 1, 1) := by decide +kernel
theorem dX11_firstWrong_79 : decode cX11_firstWrong 79 = .ok (.if_icmp .ge 7, 3) := by decide +kernel
theorem dX11_firstWrong_82 : decode cX11_firstWrong 82 = .ok (.iload_n 2, 1) := by decide +kernel
theorem dX11_firstWrong_83 : decode cX11_firstWrong 83 = .ok (.goto 4, 3) := by decide +kernel
theorem dX11_firstWrong_86 : decode cX11_firstWrong 86 = .ok (.iconst (-1), 1) := by decide +kernel
theorem dX11_firstWrong_87 : decode cX11_firstWrong 87 = .ok (.ireturn, 1) := by decide +kernel
theorem dX11_hide_0 : decode cX11_hide 0 = .ok (.aload_n 0, 1) := by decide +kernel
theorem dX11_hide_1 : decode cX11_hide 1 = .ok (.iload_n 1, 1) := by decide +kernel
theorem dX11_hide_2 : decode cX11_hide 2 = .ok (.invokevirtual 195, 3) := by decide +kernel
theorem dX11_hide_5 : decode cX11_hide 5 = .ok (.astore_n 3, 1) := by decide +kernel
theorem dX11_hide_6 : decode cX11_hide 6 = .ok (.aload_n 3, 1) := by decide +kernel
theorem dX11_hide_7 : decode cX11_hide 7 = .ok (.ifnull 20, 3) := by decide +kernel
theorem dX11_hide_27 : decode cX11_hide 27 = .ok (.iconst 0, 1) := by decide +kernel
theorem dX11_hide_28 : decode cX11_hide 28 = .ok (.ireturn, 1) := by decide +kernel
theorem dX11_ice_0 : decode cX11_ice 0 = .ok (.iload_n 1, 1) := by decide +kernel
theorem dX11_ice_1 : decode cX11_ice 1 = .ok (.iconst 4, 1) := by decide +kernel
theorem dX11_ice_2 : decode cX11_ice 2 = .ok (.bipush 12, 2) := by decide +kernel
theorem dX11_ice_4 : decode cX11_ice 4 = .ok (.invokestatic 112, 3) := by decide +kernel
theorem dX11_ice_7 : decode cX11_ice 7 = .ok (.ifCond .eq 27, 3) := by decide +kernel
theorem dX11_ice_10 : decode cX11_ice 10 = .ok (.iload_n 2, 1) := by decide +kernel
theorem dX11_ice_11 : decode cX11_ice 11 = .ok (.iconst 4, 1) := by decide +kernel
theorem dX11_ice_12 : decode cX11_ice 12 = .ok (.bipush 12, 2) := by decide +kernel
theorem dX11_ice_14 : decode cX11_ice 14 = .ok (.invokestatic 112, 3) := by decide +kernel
theorem dX11_ice_17 : decode cX11_ice 17 = .ok (.ifCond .eq 17, 3) := by decide +kernel
theorem dX11_ice_20 : decode cX11_ice 20 = .ok (.aload_n 0, 1) := by decide +kernel
theorem dX11_ice_21 : decode cX11_ice 21 = .ok (.getfield 46, 3) := by decide +kernel
theorem dX11_ice_24 : decode cX11_ice 24 = .ok (.ifCond .gt 10, 3) := by decide +kernel
theorem dX11_ice_27 : decode cX11_ice 27 = .ok (.aload_n 0, 1) := by decide +kernel
theorem dX11_ice_28 : decode cX11_ice 28 = .ok (.getfield 55, 3) := by decide +kernel
theorem dX11_ice_31 : decode cX11_ice 31 = .ok (.ifCond .le 5, 3) := by decide +kernel
theorem dX11_ice_34 : decode cX11_ice 34 = .ok (.iconst 0, 1) := by decide +kernel
theorem dX11_ice_35 : decode cX11_ice 35 = .ok (.ireturn, 1) := by decide +kernel
theorem dX11_ice_36 : decode cX11_ice 36 = .ok (.aload_n 0, 1) := by decide +kernel
theorem dX11_ice_37 : decode cX11_ice 37 = .ok (.getfield 12, 3) := by decide +kernel
theorem dX11_ice_40 : decode cX11_ice 40 = .ok (.iload_n 1, 1) := by decide +kernel
theorem dX11_ice_41 : decode cX11_ice 41 = .ok (.iload_n 2, 1) := by decide +kernel
theorem dX11_ice_42 : decode cX11_ice 42 = .ok (.invokevirtual 116, 3) := by decide +kernel
theorem dX11_ice_45 : decode cX11_ice 45 = .ok (.iconst 1, 1) := by decide +kernel
theorem dX11_ice_46 : decode cX11_ice 46 = .ok (.ireturn, 1) := by decide +kernel
theorem dX11_init_0 : decode cX11_init 0 = .ok (.aload_n 0, 1) := by decide +kernel
theorem dX11_init_1 : decode cX11_init 1 = .ok (.invokespecial 3, 3) := by decide +kernel
theorem dX11_init_4 : decode cX11_init 4 = .ok (.aload_n 0, 1) := by decide +kernel
theorem dX11_init_5 : decode cX11_init 5 = .ok (.new 9, 3) := by decide +kernel
theorem dX11_init_8 : decode cX11_init 8 = .ok (.dup, 1) := by decide +kernel
theorem dX11_init_9 : decode cX11_init 9 = .ok (.invokespecial 11, 3) := by decide +kernel
theorem dX11_init_12 : decode cX11_init 12 = .ok (.putfield 12, 3) := by decide +kernel
theorem dX11_init_15 : decode cX11_init 15 = .ok (.aload_n 0, 1) := by decide +kernel
theorem dX11_init_16 : decode cX11_init 16 = .ok (.new 16, 3) := by decide +kernel
theorem dX11_init_19 : decode cX11_init 19 = .ok (.dup, 1) := by decide +kernel
theorem dX11_init_20 : decode cX11_init 20 = .ok (.invokespecial 18, 3) := by decide +kernel
theorem dX11_init_23 : decode cX11_init 23 = .ok (.putfield 19, 3) := by decide +kernel
theorem dX11_init_26 : decode cX11_init 26 = .ok (.aload_n 0, 1) := by decide +kernel
theorem dX11_init_27 : decode cX11_init 27 = .ok (.new 23, 3) := by decide +kernel
theorem dX11_init_30 : decode cX11_init 30 = .ok (.dup, 1) := by decide +kernel
theorem dX11_init_31 : decode cX11_init 31 = .ok (.invokespecial 25, 3) := by decide +kernel
theorem dX11_init_34 : decode cX11_init 34 = .ok (.putfield 26, 3) := by decide +kernel
theorem dX11_init_37 : decode cX11_init 37 = .ok (.aload_n 0, 1) := by decide +kernel
theorem dX11_init_38 : decode cX11_init 38 = .ok (.bipush 9, 2) := by decide +kernel
theorem dX11_init_40 : decode cX11_init 40 = .ok (.anewarray 30, 3) := by decide +kernel
theorem dX11_init_43 : decode cX11_init 43 = .ok (.putfield 32, 3) := by decide +kernel
theorem dX11_init_46 : decode cX11_init 46 = .ok (.aload_n 0, 1) := by decide +kernel
theorem dX11_init_47 : decode cX11_init 47 = .ok (.iconst 0, 1) := by decide +kernel
theorem dX11_init_48 : decode cX11_init 48 = .ok (.putfield 36, 3) := by decide +kernel
theorem dX11_init_51 : decode cX11_init 51 = .ok (.aload_n 0, 1) := by decide +kernel
theorem dX11_init_52 : decode cX11_init 52 = .ok (.bipush 60, 2) := by decide +kernel
theorem dX11_init_54 : decode cX11_init 54 = .ok (.anewarray 40, 3) := by decide +kernel
theorem dX11_init_57 : decode cX11_init 57 = .ok (.putfield 42, 3) := by decide +kernel
theorem dX11_init_60 : decode cX11_init 60 = .ok (.aload_n 0, 1) := by decide +kernel
theorem dX11_init_61 : decode cX11_init 61 = .ok (.iconst 0, 1) := by decide +kernel
theorem dX11_init_62 : decode cX11_init 62 = .ok (.putfield 46, 3) := by decide +kernel
theorem dX11_init_65 : decode cX11_init 65 = .ok (.aload_n 0, 1) := by decide +kernel
theorem dX11_init_66 : decode cX11_init 66 = .ok (.bipush 100, 2) := by decide +kernel
theorem dX11_init_68 : decode cX11_init 68 = .ok (.anewarray 49, 3) := by decide +kernel
theorem dX11_init_71 : decode cX11_init 71 = .ok (.putfield 51, 3) := by decide +kernel
theorem dX11_init_74 : decode cX11_init 74 = .ok (.aload_n 0, 1) := by decide +kernel
theorem dX11_init_75 : decode cX11_init 75 = .ok (.iconst 0, 1) := by decide +kernel
theorem dX11_init_76 : decode cX11_init 76 = .ok (.putfield 55, 3) := by decide +kernel
theorem dX11_init_79 : decode cX11_init 79 = .ok (.aload_n 0, 1) := by decide +kernel
theorem dX11_init_80 : decode cX11_init 80 = .ok (.bipush 10, 2) := by decide +kernel
theorem dX11_init_82 : decode cX11_init 82 = .ok (.anewarray 58, 3) := by decide +kernel
theorem dX11_init_85 : decode cX11_init 85 = .ok (.putfield 60, 3) := by decide +kernel
theorem dX11_init_88 : decode cX11_init 88 = .ok (.aload_n 0, 1) := by decide +kernel
theorem dX11_init_89 : decode cX11_init 89 = .ok (.iconst 0, 1) := by decide +kernel
theorem dX11_init_90 : decode cX11_init 90 = .ok (.putfield 64, 3) := by decide +kernel
theorem dX11_init_93 : decode cX11_init 93 = .ok (.aload_n 0, 1) := by decide +kernel
theorem dX11_init_94 : decode cX11_init 94 = .ok (.new 67, 3) := by decide +kernel
theorem dX11_init_97 : decode cX11_init 97 = .ok (.dup, 1) := by decide +kernel
theorem dX11_init_98 : decode cX11_init 98 = .ok (.iconst 5, 1) := by decide +kernel
theorem dX11_init_99 : decode cX11_init 99 = .ok (.bipush 40, 2) := by decide +kernel
theorem dX11_init_101 : decode cX11_init 101 = .ok (.invokespecial 69, 3) := by decide +kernel
theorem dX11_init_104 : decode cX11_init 104 = .ok (.putfield 72, 3) := by decide +kernel
theorem dX11_init_107 : decode cX11_init 107 = .ok (.aload_n 0, 1) := by decide +kernel
theorem dX11_init_108 : decode cX11_init 108 = .ok (.new 67, 3) := by decide +kernel
theorem dX11_init_111 : decode cX11_init 111 = .ok (.dup, 1) := by decide +kernel
theorem dX11_init_112 : decode cX11_init 112 = .ok (.iconst 5, 1) := by decide +kernel
theorem dX11_init_113 : decode cX11_init 113 = .ok (.bipush 60, 2) := by decide +kernel
theorem dX11_init_115 : decode cX11_init 115 = .ok (.invokespecial 69, 3) := by decide +kernel
theorem dX11_init_118 : decode cX11_init 118 = .ok (.putfield 76, 3) := by decide +kernel
theorem dX11_init_121 : decode cX11_init 121 = .ok (.aload_n 0, 1) := by decide +kernel
theorem dX11_init_122 : decode cX11_init 122 = .ok (.new 67, 3) := by decide +kernel
theorem dX11_init_125 : decode cX11_init 125 = .ok (.dup, 1) := by decide +kernel
theorem dX11_init_126 : decode cX11_init 126 = .ok (.iconst 3, 1) := by decide +kernel
theorem dX11_init_127 : decode cX11_init 127 = .ok (.bipush 10, 2) := by decide +kernel
theorem dX11_init_129 : decode cX11_init 129 = .ok (.invokespecial 69, 3) := by decide +kernel
theorem dX11_init_132 : decode cX11_init 132 = .ok (.putfield 79, 3) := by decide +kernel
theorem dX11_init_135 : decode cX11_init 135 = .ok (.aload_n 0, 1) := by decide +kernel
theorem dX11_init_136 : decode cX11_init 136 = .ok (.new 67, 3) := by decide +kernel
theorem dX11_init_139 : decode cX11_init 139 = .ok (.dup, 1) := by decide +kernel
theorem dX11_init_140 : decode cX11_init 140 = .ok (.iconst 5, 1) := by decide +kernel
theorem dX11_init_141 : decode cX11_init 141 = .ok (.sipush 200, 3) := by decide +kernel
theorem dX11_init_144 : decode cX11_init 144 = .ok (.invokespecial 69, 3) := by decide +kernel
theorem dX11_init_147 : decode cX11_init 147 = .ok (.putfield 82, 3) := by decide +kernel
theorem dX11_init_150 : decode cX11_init 150 = .ok (.aload_n 0, 1) := by decide +kernel
theorem dX11_init_151 : decode cX11_init 151 = .ok (.new 67, 3) := by decide +kernel
theorem dX11_init_154 : decode cX11_init 154 = .ok (.dup, 1) := by decide +kernel
theorem dX11_init_155 : decode cX11_init 155 = .ok (.iconst 5, 1) := by decide +kernel
theorem dX11_init_156 : decode cX11_init 156 = .ok (.sipush 200, 3) := by decide +kernel
theorem dX11_init_159 : decode cX11_init 159 = .ok (.invokespecial 69, 3) := by decide +kernel
theorem dX11_init_162 : decode cX11_init 162 = .ok (.putfield 85, 3) := by decide +kernel
theorem dX11_init_165 : decode cX11_init 165 = .ok (.aload_n 0, 1) := by decide +kernel
theorem dX11_init_166 : decode cX11_init 166 = .ok (.new 67, 3) := by decide +kernel
theorem dX11_init_169 : decode cX11_init 169 = .ok (.dup, 1) := by decide +kernel
theorem dX11_init_170 : decode cX11_init 170 = .ok (.iconst 1, 1) := by decide +kernel
theorem dX11_init_171 : decode cX11_init 171 = .ok (.bipush 7, 2) := by decide +kernel
theorem dX11_init_173 : decode cX11_init 173 = .ok (.invokespecial 69, 3) := by decide +kernel
theorem dX11_init_176 : decode cX11_init 176 = .ok (.putfield 88, 3) := by decide +kernel
theorem dX11_init_179 : decode cX11_init 179 = .ok (.aload_n 0, 1) := by decide +kernel
theorem dX11_init_180 : decode cX11_init 180 = .ok (.new 67, 3) := by decide +kernel
theorem dX11_init_183 : decode cX11_init 183 = .ok (.dup, 1) := by decide +kernel
theorem dX11_init_184 : decode cX11_init 184 = .ok (.iconst 1, 1) := by decide +kernel
theorem dX11_init_185 : decode cX11_init 185 = .ok (.sipush 400, 3) := by decide +kernel
theorem dX11_init_188 : decode cX11_init 188 = .ok (.invokespecial 69, 3) := by decide +kernel
theorem dX11_init_191 : decode cX11_init 191 = .ok (.putfield 91, 3) := by decide +kernel
theorem dX11_init_194 : decode cX11_init 194 = .ok (.aload_n 0, 1) := by decide +kernel
theorem dX11_init_195 : decode cX11_init 195 = .ok (.bipush 11, 2) := by decide +kernel
theorem dX11_init_197 : decode cX11_init 197 = .ok (.newarray .int, 2) := by decide +kernel
theorem dX11_init_199 : decode cX11_init 199 = .ok (.putfield 94, 3) := by decide +kernel
theorem dX11_init_202 : decode cX11_init 202 = .ok (.aload_n 0, 1) := by decide +kernel
theorem dX11_init_203 : decode cX11_init 203 = .ok (.bipush 8, 2) := by decide +kernel
theorem dX11_init_205 : decode cX11_init 205 = .ok (.newarray .long, 2) := by decide +kernel
theorem dX11_init_207 : decode cX11_init 207 = .ok (.putfield 98, 3) := by decide +kernel
theorem dX11_init_210 : decode cX11_init 210 = .ok (.aload_n 0, 1) := by decide +kernel
theorem dX11_init_211 : decode cX11_init 211 = .ok (.getfield 94, 3) := by decide +kernel
theorem dX11_init_214 : decode cX11_init 214 = .ok (.bipush 50, 2) := by decide +kernel
theorem dX11_init_216 : decode cX11_init 216 = .ok (.invokestatic 102, 3) := by decide +kernel
theorem dX11_init_219 : decode cX11_init 219 = .ok (.aload_n 0, 1) := by decide +kernel
theorem dX11_init_220 : decode cX11_init 220 = .ok (.getfield 94, 3) := by decide +kernel
theorem dX11_init_223 : decode cX11_init 223 = .ok (.bipush 10, 2) := by decide +kernel
theorem dX11_init_225 : decode cX11_init 225 = .ok (.bipush 100, 2) := by decide +kernel
theorem dX11_init_227 : decode cX11_init 227 = .ok (.invokestatic 108, 3) := by decide +kernel
theorem dX11_init_230 : decode cX11_init 230 = .ok (.return_, 1) := by decide +kernel
theorem dX11_isDay_0 : decode cX11_isDay 0 = .ok (.iload_n 0, 1) := by decide +kernel
theorem dX11_isDay_1 : decode cX11_isDay 1 = .ok (.iconst 0, 1) := by decide +kernel
theorem dX11_isDay_2 : decode cX11_isDay 2 = .ok (.sipush 3599, 3) := by decide +kernel
theorem dX11_isDay_5 : decode cX11_isDay 5 = .ok (.invokestatic 112, 3) := by decide +kernel
theorem dX11_isDay_8 : decode cX11_isDay 8 = .ok (.ireturn, 1) := by decide +kernel
theorem dX11_isSea_0 : decode cX11_isSea 0 = .ok (.iload_n 0, 1) := by decide +kernel
theorem dX11_isSea_1 : decode cX11_isSea 1 = .ok (.iconst 0, 1) := by decide +kernel
theorem dX11_isSea_2 : decode cX11_isSea 2 = .ok (.iconst 3, 1) := by decide +kernel
theorem dX11_isSea_3 : decode cX11_isSea 3 = .ok (.invokestatic 112, 3) := by decide +kernel
theorem dX11_isSea_6 : decode cX11_isSea 6 = .ok (.ireturn, 1) := by decide +kernel
theorem dX11_isYear_0 : decode cX11_isYear 0 = .ok (.iload_n 0, 1) := by decide +kernel
theorem dX11_isYear_1 : decode cX11_isYear 1 = .ok (.iconst 0, 1) := by decide +kernel
theorem dX11_isYear_2 : decode cX11_isYear 2 = .ok (.bipush 9, 2) := by decide +kernel
theorem dX11_isYear_4 : decode cX11_isYear 4 = .ok (.invokestatic 112, 3) := by decide +kernel
theorem dX11_isYear_7 : decode cX11_isYear 7 = .ok (.ireturn, 1) := by decide +kernel
theorem dX11_known_0 : decode cX11_known 0 = .ok (.aload_n 0, 1) := by decide +kernel
theorem dX11_known_1 : decode cX11_known 1 = .ok (.iload_n 1, 1) := by decide +kernel
theorem dX11_known_2 : decode cX11_known 2 = .ok (.iconst 1, 1) := by decide +kernel
theorem dX11_known_3 : decode cX11_known 3 = .ok (.invokevirtual 169, 3) := by decide +kernel
theorem dX11_known_6 : decode cX11_known 6 = .ok (.ifnull 17, 3) := by decide +kernel
theorem dX11_known_23 : decode cX11_known 23 = .ok (.ldc_w 626, 3) := by decide +kernel
theorem dX11_known_26 : decode cX11_known 26 = .ok (.ireturn, 1) := by decide +kernel
theorem dX11_look_0 : decode cX11_look 0 = .ok (.aload_n 0, 1) := by decide +kernel
theorem dX11_look_1 : decode cX11_look 1 = .ok (.iload_n 1, 1) := by decide +kernel
theorem dX11_look_2 : decode cX11_look 2 = .ok (.invokevirtual 384, 3) := by decide +kernel
theorem dX11_look_5 : decode cX11_look 5 = .ok (.astore_n 3, 1) := by decide +kernel
theorem dX11_look_6 : decode cX11_look 6 = .ok (.aload_n 3, 1) := by decide +kernel
theorem dX11_look_7 : decode cX11_look 7 = .ok (.ifnonnull 5, 3) := by decide +kernel
theorem dX11_look_10 : decode cX11_look 10 = .ok (.iconst (-1), 1) := by decide +kernel
theorem dX11_look_11 : decode cX11_look 11 = .ok (.ireturn, 1) := by decide +kernel
theorem dX11_loss_0 : decode cX11_loss 0 = .ok (.aload_n 0, 1) := by decide +kernel
theorem dX11_loss_1 : decode cX11_loss 1 = .ok (.iload_n 1, 1) := by decide +kernel
theorem dX11_loss_2 : decode cX11_loss 2 = .ok (.iconst 5, 1) := by decide +kernel
theorem dX11_loss_3 : decode cX11_loss 3 = .ok (.invokevirtual 169, 3) := by decide +kernel
theorem dX11_loss_6 : decode cX11_loss 6 = .ok (.astore 6, 2) := by decide +kernel
theorem dX11_loss_8 : decode cX11_loss 8 = .ok (.aload 6, 2) := by decide +kernel
theorem dX11_loss_10 : decode cX11_loss 10 = .ok (.ifnull 43, 3) := by decide +kernel
theorem dX11_loss_53 : decode cX11_loss 53 = .ok (.ldc_w 434, 3) := by decide +kernel
theorem dX11_loss_56 : decode cX11_loss 56 = .ok (.ireturn, 1) := by decide +kernel
theorem dX11_may_0 : decode cX11_may 0 = .ok (.aload_n 0, 1) := by decide +kernel
theorem dX11_may_1 : decode cX11_may 1 = .ok (.iload_n 1, 1) := by decide +kernel
theorem dX11_may_2 : decode cX11_may 2 = .ok (.invokevirtual 309, 3) := by decide +kernel
theorem dX11_may_5 : decode cX11_may 5 = .ok (.astore 4, 2) := by decide +kernel
theorem dX11_may_7 : decode cX11_may 7 = .ok (.aload 4, 2) := by decide +kernel
theorem dX11_may_9 : decode cX11_may 9 = .ok (.ifnull 10, 3) := by decide +kernel
theorem dX11_may_19 : decode cX11_may 19 = .ok (.iconst (-1), 1) := by decide +kernel
theorem dX11_may_20 : decode cX11_may 20 = .ok (.ireturn, 1) := by decide +kernel
theorem dX11_noise_0 : decode cX11_noise 0 = .ok (.aload_n 0, 1) := by decide +kernel
theorem dX11_noise_1 : decode cX11_noise 1 = .ok (.iload_n 1, 1) := by decide +kernel
theorem dX11_noise_2 : decode cX11_noise 2 = .ok (.iconst 5, 1) := by decide +kernel
theorem dX11_noise_3 : decode cX11_noise 3 = .ok (.invokevirtual 169, 3) := by decide +kernel
theorem dX11_noise_6 : decode cX11_noise 6 = .ok (.astore_n 3, 1) := by decide +kernel
theorem dX11_noise_7 : decode cX11_noise 7 = .ok (.aload_n 3, 1) := by decide +kernel
theorem dX11_noise_8 : decode cX11_noise 8 = .ok (.ifnull 10, 3) := by decide +kernel
theorem dX11_noise_18 : decode cX11_noise 18 = .ok (.iconst (-1), 1) := by decide +kernel
theorem dX11_noise_19 : decode cX11_noise 19 = .ok (.goto 11, 3) := by decide +kernel
theorem dX11_noise_30 : decode cX11_noise 30 = .ok (.ireturn, 1) := by decide +kernel
theorem dX11_number_0 : decode cX11_number 0 = .ok (.aload_n 0, 1) := by decide +kernel
theorem dX11_number_1 : decode cX11_number 1 = .ok (.iload_n 2, 1) := by decide +kernel
theorem dX11_number_2 : decode cX11_number 2 = .ok (.invokevirtual 151, 3) := by decide +kernel
theorem dX11_number_5 : decode cX11_number 5 = .ok (.astore 4, 2) := by decide +kernel
theorem dX11_number_7 : decode cX11_number 7 = .ok (.iload_n 1, 1) := by decide +kernel
theorem dX11_number_8 : decode cX11_number 8 = .ok (.bipush 10, 2) := by decide +kernel
theorem dX11_number_10 : decode cX11_number 10 = .ok (.bipush 25, 2) := by decide +kernel
theorem dX11_number_12 : decode cX11_number 12 = .ok (.invokestatic 112, 3) := by decide +kernel
theorem dX11_number_15 : decode cX11_number 15 = .ok (.istore 5, 2) := by decide +kernel
theorem dX11_number_17 : decode cX11_number 17 = .ok (.aload 4, 2) := by decide +kernel
theorem dX11_number_19 : decode cX11_number 19 = .ok (.ifnull 24, 3) := by decide +kernel
theorem dX11_number_43 : decode cX11_number 43 = .ok (.iconst (-1), 1) := by decide +kernel
