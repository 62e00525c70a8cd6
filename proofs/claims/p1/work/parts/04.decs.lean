theorem dX11_number_44 : decode cX11_number 44 = .ok (.ireturn, 1) := by decide +kernel
theorem dX11_open_0 : decode cX11_open 0 = .ok (.iload_n 1, 1) := by decide +kernel
theorem dX11_open_1 : decode cX11_open 1 = .ok (.iconst 0, 1) := by decide +kernel
theorem dX11_open_2 : decode cX11_open 2 = .ok (.iconst 2, 1) := by decide +kernel
theorem dX11_open_3 : decode cX11_open 3 = .ok (.invokestatic 112, 3) := by decide +kernel
theorem dX11_open_6 : decode cX11_open 6 = .ok (.ifCond .eq 26, 3) := by decide +kernel
theorem dX11_open_9 : decode cX11_open 9 = .ok (.aload_n 0, 1) := by decide +kernel
theorem dX11_open_10 : decode cX11_open 10 = .ok (.getfield 26, 3) := by decide +kernel
theorem dX11_open_13 : decode cX11_open 13 = .ok (.getfield 593, 3) := by decide +kernel
theorem dX11_open_16 : decode cX11_open 16 = .ok (.iload_n 2, 1) := by decide +kernel
theorem dX11_open_17 : decode cX11_open 17 = .ok (.invokevirtual 431, 3) := by decide +kernel
theorem dX11_open_20 : decode cX11_open 20 = .ok (.ifCond .eq 12, 3) := by decide +kernel
theorem dX11_open_32 : decode cX11_open 32 = .ok (.iconst 0, 1) := by decide +kernel
theorem dX11_open_33 : decode cX11_open 33 = .ok (.ireturn, 1) := by decide +kernel
theorem dX11_over_0 : decode cX11_over 0 = .ok (.iconst (-1), 1) := by decide +kernel
theorem dX11_over_1 : decode cX11_over 1 = .ok (.istore_n 1, 1) := by decide +kernel
theorem dX11_over_2 : decode cX11_over 2 = .ok (.iconst 0, 1) := by decide +kernel
theorem dX11_over_3 : decode cX11_over 3 = .ok (.istore_n 2, 1) := by decide +kernel
theorem dX11_over_4 : decode cX11_over 4 = .ok (.iload_n 2, 1) := by decide +kernel
theorem dX11_over_5 : decode cX11_over 5 = .ok (.aload_n 0, 1) := by decide +kernel
theorem dX11_over_6 : decode cX11_over 6 = .ok (.getfield 82, 3) := by decide +kernel
theorem dX11_over_9 : decode cX11_over 9 = .ok (.getfield 199, 3) := by decide +kernel
theorem dX11_over_12 : decode cX11_over 12 = .ok (.if_icmp .ge 55, 3) := by decide +kernel
theorem dX11_over_67 : decode cX11_over 67 = .ok (.iload_n 1, 1) := by decide +kernel
theorem dX11_over_68 : decode cX11_over 68 = .ok (.ireturn, 1) := by decide +kernel
theorem dX11_party_0 : decode cX11_party 0 = .ok (.aload_n 0, 1) := by decide +kernel
theorem dX11_party_1 : decode cX11_party 1 = .ok (.getfield 36, 3) := by decide +kernel
theorem dX11_party_4 : decode cX11_party 4 = .ok (.aload_n 0, 1) := by decide +kernel
theorem dX11_party_5 : decode cX11_party 5 = .ok (.getfield 32, 3) := by decide +kernel
theorem dX11_party_8 : decode cX11_party 8 = .ok (.arraylength, 1) := by decide +kernel
theorem dX11_party_9 : decode cX11_party 9 = .ok (.if_icmp .lt 5, 3) := by decide +kernel
theorem dX11_party_14 : decode cX11_party 14 = .ok (.aload_n 0, 1) := by decide +kernel
theorem dX11_party_15 : decode cX11_party 15 = .ok (.getfield 32, 3) := by decide +kernel
theorem dX11_party_18 : decode cX11_party 18 = .ok (.aload_n 0, 1) := by decide +kernel
theorem dX11_party_19 : decode cX11_party 19 = .ok (.getfield 36, 3) := by decide +kernel
theorem dX11_party_22 : decode cX11_party 22 = .ok (.new 30, 3) := by decide +kernel
theorem dX11_party_25 : decode cX11_party 25 = .ok (.dup, 1) := by decide +kernel
theorem dX11_party_26 : decode cX11_party 26 = .ok (.iload_n 1, 1) := by decide +kernel
theorem dX11_party_27 : decode cX11_party 27 = .ok (.ifCond .eq 13, 3) := by decide +kernel
theorem dX11_party_30 : decode cX11_party 30 = .ok (.aload_n 0, 1) := by decide +kernel
theorem dX11_party_31 : decode cX11_party 31 = .ok (.getfield 12, 3) := by decide +kernel
theorem dX11_party_34 : decode cX11_party 34 = .ok (.getfield 145, 3) := by decide +kernel
theorem dX11_party_37 : decode cX11_party 37 = .ok (.goto 4, 3) := by decide +kernel
theorem dX11_party_40 : decode cX11_party 40 = .ok (.iconst (-1), 1) := by decide +kernel
theorem dX11_party_41 : decode cX11_party 41 = .ok (.invokespecial 148, 3) := by decide +kernel
theorem dX11_party_44 : decode cX11_party 44 = .ok (.aastore, 1) := by decide +kernel
theorem dX11_party_45 : decode cX11_party 45 = .ok (.aload_n 0, 1) := by decide +kernel
theorem dX11_party_46 : decode cX11_party 46 = .ok (.dup, 1) := by decide +kernel
theorem dX11_party_47 : decode cX11_party 47 = .ok (.getfield 36, 3) := by decide +kernel
theorem dX11_party_50 : decode cX11_party 50 = .ok (.dup_x1, 1) := by decide +kernel
theorem dX11_party_51 : decode cX11_party 51 = .ok (.iconst 1, 1) := by decide +kernel
theorem dX11_party_52 : decode cX11_party 52 = .ok (.iadd, 1) := by decide +kernel
theorem dX11_party_53 : decode cX11_party 53 = .ok (.putfield 36, 3) := by decide +kernel
theorem dX11_party_56 : decode cX11_party 56 = .ok (.ireturn, 1) := by decide +kernel
theorem dX11_partyOf_0 : decode cX11_partyOf 0 = .ok (.iload_n 1, 1) := by decide +kernel
theorem dX11_partyOf_1 : decode cX11_partyOf 1 = .ok (.ifCond .lt 29, 3) := by decide +kernel
theorem dX11_partyOf_4 : decode cX11_partyOf 4 = .ok (.iload_n 1, 1) := by decide +kernel
theorem dX11_partyOf_5 : decode cX11_partyOf 5 = .ok (.aload_n 0, 1) := by decide +kernel
theorem dX11_partyOf_6 : decode cX11_partyOf 6 = .ok (.getfield 36, 3) := by decide +kernel
theorem dX11_partyOf_9 : decode cX11_partyOf 9 = .ok (.if_icmp .ge 21, 3) := by decide +kernel
theorem dX11_partyOf_30 : decode cX11_partyOf 30 = .ok (.aconst_null, 1) := by decide +kernel
theorem dX11_partyOf_31 : decode cX11_partyOf 31 = .ok (.areturn, 1) := by decide +kernel
theorem dX11_people_0 : decode cX11_people 0 = .ok (.aload_n 0, 1) := by decide +kernel
theorem dX11_people_1 : decode cX11_people 1 = .ok (.iload_n 1, 1) := by decide +kernel
theorem dX11_people_2 : decode cX11_people 2 = .ok (.invokevirtual 195, 3) := by decide +kernel
theorem dX11_people_5 : decode cX11_people 5 = .ok (.astore_n 3, 1) := by decide +kernel
theorem dX11_people_6 : decode cX11_people 6 = .ok (.aload_n 3, 1) := by decide +kernel
theorem dX11_people_7 : decode cX11_people 7 = .ok (.ifnull 32, 3) := by decide +kernel
theorem dX11_people_39 : decode cX11_people 39 = .ok (.iconst 0, 1) := by decide +kernel
theorem dX11_people_40 : decode cX11_people 40 = .ok (.ireturn, 1) := by decide +kernel
theorem dX11_placeOf_0 : decode cX11_placeOf 0 = .ok (.aload_n 0, 1) := by decide +kernel
theorem dX11_placeOf_1 : decode cX11_placeOf 1 = .ok (.iload_n 1, 1) := by decide +kernel
theorem dX11_placeOf_2 : decode cX11_placeOf 2 = .ok (.invokevirtual 384, 3) := by decide +kernel
theorem dX11_placeOf_5 : decode cX11_placeOf 5 = .ok (.astore_n 3, 1) := by decide +kernel
theorem dX11_placeOf_6 : decode cX11_placeOf 6 = .ok (.aload_n 3, 1) := by decide +kernel
theorem dX11_placeOf_7 : decode cX11_placeOf 7 = .ok (.ifnull 15, 3) := by decide +kernel
theorem dX11_placeOf_22 : decode cX11_placeOf 22 = .ok (.aconst_null, 1) := by decide +kernel
theorem dX11_placeOf_23 : decode cX11_placeOf 23 = .ok (.areturn, 1) := by decide +kernel
theorem dX11_plan_0 : decode cX11_plan 0 = .ok (.aload_n 0, 1) := by decide +kernel
theorem dX11_plan_1 : decode cX11_plan 1 = .ok (.iload_n 1, 1) := by decide +kernel
theorem dX11_plan_2 : decode cX11_plan 2 = .ok (.invokevirtual 403, 3) := by decide +kernel
theorem dX11_plan_5 : decode cX11_plan 5 = .ok (.astore 4, 2) := by decide +kernel
theorem dX11_plan_7 : decode cX11_plan 7 = .ok (.aload 4, 2) := by decide +kernel
theorem dX11_plan_9 : decode cX11_plan 9 = .ok (.ifnull 21, 3) := by decide +kernel
theorem dX11_plan_30 : decode cX11_plan 30 = .ok (.iconst (-1), 1) := by decide +kernel
theorem dX11_plan_31 : decode cX11_plan 31 = .ok (.ireturn, 1) := by decide +kernel
theorem dX11_planned_0 : decode cX11_planned 0 = .ok (.aload_n 0, 1) := by decide +kernel
theorem dX11_planned_1 : decode cX11_planned 1 = .ok (.iload_n 1, 1) := by decide +kernel
theorem dX11_planned_2 : decode cX11_planned 2 = .ok (.iload_n 2, 1) := by decide +kernel
theorem dX11_planned_3 : decode cX11_planned 3 = .ok (.iload_n 3, 1) := by decide +kernel
theorem dX11_planned_4 : decode cX11_planned 4 = .ok (.invokevirtual 617, 3) := by decide +kernel
theorem dX11_planned_7 : decode cX11_planned 7 = .ok (.iconst (-1), 1) := by decide +kernel
theorem dX11_planned_8 : decode cX11_planned 8 = .ok (.if_icmp .eq 18, 3) := by decide +kernel
theorem dX11_planned_26 : decode cX11_planned 26 = .ok (.iconst (-1), 1) := by decide +kernel
theorem dX11_planned_27 : decode cX11_planned 27 = .ok (.ireturn, 1) := by decide +kernel
theorem dX11_reading_0 : decode cX11_reading 0 = .ok (.aload_n 0, 1) := by decide +kernel
theorem dX11_reading_1 : decode cX11_reading 1 = .ok (.getfield 19, 3) := by decide +kernel
theorem dX11_reading_4 : decode cX11_reading 4 = .ok (.iload_n 2, 1) := by decide +kernel
theorem dX11_reading_5 : decode cX11_reading 5 = .ok (.invokevirtual 246, 3) := by decide +kernel
theorem dX11_reading_8 : decode cX11_reading 8 = .ok (.astore 5, 2) := by decide +kernel
theorem dX11_reading_10 : decode cX11_reading 10 = .ok (.aload_n 0, 1) := by decide +kernel
theorem dX11_reading_11 : decode cX11_reading 11 = .ok (.iload_n 1, 1) := by decide +kernel
theorem dX11_reading_12 : decode cX11_reading 12 = .ok (.invokevirtual 151, 3) := by decide +kernel
theorem dX11_reading_15 : decode cX11_reading 15 = .ok (.ifnull 17, 3) := by decide +kernel
theorem dX11_reading_32 : decode cX11_reading 32 = .ok (.iconst (-1), 1) := by decide +kernel
theorem dX11_reading_33 : decode cX11_reading 33 = .ok (.ireturn, 1) := by decide +kernel
theorem dX11_report_0 : decode cX11_report 0 = .ok (.aload_n 0, 1) := by decide +kernel
theorem dX11_report_1 : decode cX11_report 1 = .ok (.iload_n 1, 1) := by decide +kernel
theorem dX11_report_2 : decode cX11_report 2 = .ok (.iconst 1, 1) := by decide +kernel
theorem dX11_report_3 : decode cX11_report 3 = .ok (.invokevirtual 169, 3) := by decide +kernel
theorem dX11_report_6 : decode cX11_report 6 = .ok (.ifnull 18, 3) := by decide +kernel
theorem dX11_report_24 : decode cX11_report 24 = .ok (.iconst 0, 1) := by decide +kernel
theorem dX11_report_25 : decode cX11_report 25 = .ok (.ireturn, 1) := by decide +kernel
theorem dX11_reserve_0 : decode cX11_reserve 0 = .ok (.aload_n 0, 1) := by decide +kernel
theorem dX11_reserve_1 : decode cX11_reserve 1 = .ok (.getfield 12, 3) := by decide +kernel
theorem dX11_reserve_4 : decode cX11_reserve 4 = .ok (.iload_n 1, 1) := by decide +kernel
theorem dX11_reserve_5 : decode cX11_reserve 5 = .ok (.iload_n 2, 1) := by decide +kernel
theorem dX11_reserve_6 : decode cX11_reserve 6 = .ok (.invokevirtual 155, 3) := by decide +kernel
theorem dX11_reserve_9 : decode cX11_reserve 9 = .ok (.ifCond .eq 13, 3) := by decide +kernel
theorem dX11_reserve_12 : decode cX11_reserve 12 = .ok (.iload_n 3, 1) := by decide +kernel
theorem dX11_reserve_13 : decode cX11_reserve 13 = .ok (.iconst 1, 1) := by decide +kernel
theorem dX11_reserve_14 : decode cX11_reserve 14 = .ok (.bipush 9, 2) := by decide +kernel
theorem dX11_reserve_16 : decode cX11_reserve 16 = .ok (.invokestatic 112, 3) := by decide +kernel
theorem dX11_reserve_19 : decode cX11_reserve 19 = .ok (.ifCond .ne 5, 3) := by decide +kernel
theorem dX11_reserve_22 : decode cX11_reserve 22 = .ok (.iconst (-1), 1) := by decide +kernel
theorem dX11_reserve_23 : decode cX11_reserve 23 = .ok (.ireturn, 1) := by decide +kernel
theorem dX11_reserve_24 : decode cX11_reserve 24 = .ok (.aload_n 0, 1) := by decide +kernel
theorem dX11_reserve_25 : decode cX11_reserve 25 = .ok (.new 40, 3) := by decide +kernel
theorem dX11_reserve_28 : decode cX11_reserve 28 = .ok (.dup, 1) := by decide +kernel
theorem dX11_reserve_29 : decode cX11_reserve 29 = .ok (.iconst 3, 1) := by decide +kernel
theorem dX11_reserve_30 : decode cX11_reserve 30 = .ok (.iconst (-1), 1) := by decide +kernel
theorem dX11_reserve_31 : decode cX11_reserve 31 = .ok (.iload_n 1, 1) := by decide +kernel
theorem dX11_reserve_32 : decode cX11_reserve 32 = .ok (.iload_n 2, 1) := by decide +kernel
theorem dX11_reserve_33 : decode cX11_reserve 33 = .ok (.iload_n 3, 1) := by decide +kernel
theorem dX11_reserve_34 : decode cX11_reserve 34 = .ok (.invokespecial 162, 3) := by decide +kernel
theorem dX11_reserve_37 : decode cX11_reserve 37 = .ok (.invokevirtual 165, 3) := by decide +kernel
theorem dX11_reserve_40 : decode cX11_reserve 40 = .ok (.ireturn, 1) := by decide +kernel
theorem dX11_say_0 : decode cX11_say 0 = .ok (.aload_n 0, 1) := by decide +kernel
theorem dX11_say_1 : decode cX11_say 1 = .ok (.iload_n 2, 1) := by decide +kernel
theorem dX11_say_2 : decode cX11_say 2 = .ok (.invokevirtual 309, 3) := by decide +kernel
theorem dX11_say_5 : decode cX11_say 5 = .ok (.astore 4, 2) := by decide +kernel
theorem dX11_say_7 : decode cX11_say 7 = .ok (.aload_n 0, 1) := by decide +kernel
theorem dX11_say_8 : decode cX11_say 8 = .ok (.iload_n 1, 1) := by decide +kernel
theorem dX11_say_9 : decode cX11_say 9 = .ok (.invokevirtual 151, 3) := by decide +kernel
theorem dX11_say_12 : decode cX11_say 12 = .ok (.ifnull 8, 3) := by decide +kernel
theorem dX11_say_20 : decode cX11_say 20 = .ok (.iconst 0, 1) := by decide +kernel
theorem dX11_say_21 : decode cX11_say 21 = .ok (.ireturn, 1) := by decide +kernel
theorem dX11_sea_0 : decode cX11_sea 0 = .ok (.iload_n 1, 1) := by decide +kernel
theorem dX11_sea_1 : decode cX11_sea 1 = .ok (.invokestatic 394, 3) := by decide +kernel
theorem dX11_sea_4 : decode cX11_sea 4 = .ok (.ifCond .eq 13, 3) := by decide +kernel
theorem dX11_sea_7 : decode cX11_sea 7 = .ok (.iload_n 2, 1) := by decide +kernel
theorem dX11_sea_8 : decode cX11_sea 8 = .ok (.iconst 1, 1) := by decide +kernel
theorem dX11_sea_9 : decode cX11_sea 9 = .ok (.bipush 90, 2) := by decide +kernel
theorem dX11_sea_11 : decode cX11_sea 11 = .ok (.invokestatic 112, 3) := by decide +kernel
theorem dX11_sea_14 : decode cX11_sea 14 = .ok (.ifCond .ne 5, 3) := by decide +kernel
theorem dX11_sea_17 : decode cX11_sea 17 = .ok (.iconst 0, 1) := by decide +kernel
theorem dX11_sea_18 : decode cX11_sea 18 = .ok (.ireturn, 1) := by decide +kernel
theorem dX11_sea_19 : decode cX11_sea 19 = .ok (.aload_n 0, 1) := by decide +kernel
theorem dX11_sea_20 : decode cX11_sea 20 = .ok (.getfield 12, 3) := by decide +kernel
theorem dX11_sea_23 : decode cX11_sea 23 = .ok (.getfield 400, 3) := by decide +kernel
theorem dX11_sea_26 : decode cX11_sea 26 = .ok (.iload_n 1, 1) := by decide +kernel
theorem dX11_sea_27 : decode cX11_sea 27 = .ok (.iload_n 2, 1) := by decide +kernel
theorem dX11_sea_28 : decode cX11_sea 28 = .ok (.invokestatic 108, 3) := by decide +kernel
theorem dX11_sea_31 : decode cX11_sea 31 = .ok (.iconst 1, 1) := by decide +kernel
theorem dX11_sea_32 : decode cX11_sea 32 = .ok (.ireturn, 1) := by decide +kernel
theorem dX11_seen_0 : decode cX11_seen 0 = .ok (.aload_n 0, 1) := by decide +kernel
theorem dX11_seen_1 : decode cX11_seen 1 = .ok (.getfield 76, 3) := by decide +kernel
theorem dX11_seen_4 : decode cX11_seen 4 = .ok (.iload_n 1, 1) := by decide +kernel
theorem dX11_seen_5 : decode cX11_seen 5 = .ok (.invokevirtual 431, 3) := by decide +kernel
theorem dX11_seen_8 : decode cX11_seen 8 = .ok (.ifCond .eq 12, 3) := by decide +kernel
theorem dX11_seen_20 : decode cX11_seen 20 = .ok (.ldc_w 434, 3) := by decide +kernel
theorem dX11_seen_23 : decode cX11_seen 23 = .ok (.ireturn, 1) := by decide +kernel
theorem dX11_settle_0 : decode cX11_settle 0 = .ok (.aload_n 0, 1) := by decide +kernel
theorem dX11_settle_1 : decode cX11_settle 1 = .ok (.getfield 46, 3) := by decide +kernel
theorem dX11_settle_4 : decode cX11_settle 4 = .ok (.aload_n 0, 1) := by decide +kernel
theorem dX11_settle_5 : decode cX11_settle 5 = .ok (.getfield 42, 3) := by decide +kernel
theorem dX11_settle_8 : decode cX11_settle 8 = .ok (.arraylength, 1) := by decide +kernel
theorem dX11_settle_9 : decode cX11_settle 9 = .ok (.if_icmp .lt 5, 3) := by decide +kernel
theorem dX11_settle_14 : decode cX11_settle 14 = .ok (.aload_n 0, 1) := by decide +kernel
theorem dX11_settle_15 : decode cX11_settle 15 = .ok (.getfield 42, 3) := by decide +kernel
theorem dX11_settle_18 : decode cX11_settle 18 = .ok (.aload_n 0, 1) := by decide +kernel
theorem dX11_settle_19 : decode cX11_settle 19 = .ok (.getfield 46, 3) := by decide +kernel
theorem dX11_settle_22 : decode cX11_settle 22 = .ok (.aload_n 1, 1) := by decide +kernel
theorem dX11_settle_23 : decode cX11_settle 23 = .ok (.aastore, 1) := by decide +kernel
theorem dX11_settle_24 : decode cX11_settle 24 = .ok (.aload_n 0, 1) := by decide +kernel
theorem dX11_settle_25 : decode cX11_settle 25 = .ok (.dup, 1) := by decide +kernel
theorem dX11_settle_26 : decode cX11_settle 26 = .ok (.getfield 46, 3) := by decide +kernel
theorem dX11_settle_29 : decode cX11_settle 29 = .ok (.dup_x1, 1) := by decide +kernel
theorem dX11_settle_30 : decode cX11_settle 30 = .ok (.iconst 1, 1) := by decide +kernel
theorem dX11_settle_31 : decode cX11_settle 31 = .ok (.iadd, 1) := by decide +kernel
theorem dX11_settle_32 : decode cX11_settle 32 = .ok (.putfield 46, 3) := by decide +kernel
theorem dX11_settle_35 : decode cX11_settle 35 = .ok (.ireturn, 1) := by decide +kernel
theorem dX11_ship_0 : decode cX11_ship 0 = .ok (.aload_n 0, 1) := by decide +kernel
theorem dX11_ship_1 : decode cX11_ship 1 = .ok (.iload_n 1, 1) := by decide +kernel
theorem dX11_ship_2 : decode cX11_ship 2 = .ok (.invokevirtual 151, 3) := by decide +kernel
theorem dX11_ship_5 : decode cX11_ship 5 = .ok (.ifnull 24, 3) := by decide +kernel
theorem dX11_ship_29 : decode cX11_ship 29 = .ok (.iconst (-1), 1) := by decide +kernel
theorem dX11_ship_30 : decode cX11_ship 30 = .ok (.ireturn, 1) := by decide +kernel
theorem dX11_shipOf_0 : decode cX11_shipOf 0 = .ok (.iload_n 1, 1) := by decide +kernel
theorem dX11_shipOf_1 : decode cX11_shipOf 1 = .ok (.ifCond .lt 29, 3) := by decide +kernel
theorem dX11_shipOf_4 : decode cX11_shipOf 4 = .ok (.iload_n 1, 1) := by decide +kernel
theorem dX11_shipOf_5 : decode cX11_shipOf 5 = .ok (.aload_n 0, 1) := by decide +kernel
theorem dX11_shipOf_6 : decode cX11_shipOf 6 = .ok (.getfield 64, 3) := by decide +kernel
theorem dX11_shipOf_9 : decode cX11_shipOf 9 = .ok (.if_icmp .ge 21, 3) := by decide +kernel
theorem dX11_shipOf_30 : decode cX11_shipOf 30 = .ok (.aconst_null, 1) := by decide +kernel
theorem dX11_shipOf_31 : decode cX11_shipOf 31 = .ok (.areturn, 1) := by decide +kernel
theorem dX11_site_0 : decode cX11_site 0 = .ok (.aload_n 0, 1) := by decide +kernel
theorem dX11_site_1 : decode cX11_site 1 = .ok (.getfield 12, 3) := by decide +kernel
theorem dX11_site_4 : decode cX11_site 4 = .ok (.iload_n 1, 1) := by decide +kernel
theorem dX11_site_5 : decode cX11_site 5 = .ok (.invokevirtual 119, 3) := by decide +kernel
theorem dX11_site_8 : decode cX11_site 8 = .ok (.ifCond .ne 5, 3) := by decide +kernel
theorem dX11_site_11 : decode cX11_site 11 = .ok (.iconst (-1), 1) := by decide +kernel
theorem dX11_site_12 : decode cX11_site 12 = .ok (.ireturn, 1) := by decide +kernel
theorem dX11_site_13 : decode cX11_site 13 = .ok (.aload_n 0, 1) := by decide +kernel
theorem dX11_site_14 : decode cX11_site 14 = .ok (.new 40, 3) := by decide +kernel
theorem dX11_site_17 : decode cX11_site 17 = .ok (.dup, 1) := by decide +kernel
theorem dX11_site_18 : decode cX11_site 18 = .ok (.iload_n 2, 1) := by decide +kernel
theorem dX11_site_19 : decode cX11_site 19 = .ok (.ifCond .eq 7, 3) := by decide +kernel
theorem dX11_site_22 : decode cX11_site 22 = .ok (.iconst 5, 1) := by decide +kernel
theorem dX11_site_23 : decode cX11_site 23 = .ok (.goto 4, 3) := by decide +kernel
theorem dX11_site_26 : decode cX11_site 26 = .ok (.iconst 4, 1) := by decide +kernel
theorem dX11_site_27 : decode cX11_site 27 = .ok (.iconst (-1), 1) := by decide +kernel
theorem dX11_site_28 : decode cX11_site 28 = .ok (.iload_n 1, 1) := by decide +kernel
theorem dX11_site_29 : decode cX11_site 29 = .ok (.iconst (-1), 1) := by decide +kernel
theorem dX11_site_30 : decode cX11_site 30 = .ok (.iconst (-1), 1) := by decide +kernel
theorem dX11_site_31 : decode cX11_site 31 = .ok (.invokespecial 162, 3) := by decide +kernel
theorem dX11_site_34 : decode cX11_site 34 = .ok (.invokevirtual 165, 3) := by decide +kernel
theorem dX11_site_37 : decode cX11_site 37 = .ok (.ireturn, 1) := by decide +kernel
theorem dX11_sledge_0 : decode cX11_sledge 0 = .ok (.aload_n 0, 1) := by decide +kernel
theorem dX11_sledge_1 : decode cX11_sledge 1 = .ok (.iload_n 1, 1) := by decide +kernel
theorem dX11_sledge_2 : decode cX11_sledge 2 = .ok (.invokevirtual 195, 3) := by decide +kernel
theorem dX11_sledge_5 : decode cX11_sledge 5 = .ok (.astore 4, 2) := by decide +kernel
theorem dX11_sledge_7 : decode cX11_sledge 7 = .ok (.aload_n 0, 1) := by decide +kernel
theorem dX11_sledge_8 : decode cX11_sledge 8 = .ok (.iload_n 2, 1) := by decide +kernel
theorem dX11_sledge_9 : decode cX11_sledge 9 = .ok (.invokevirtual 195, 3) := by decide +kernel
theorem dX11_sledge_12 : decode cX11_sledge 12 = .ok (.astore 5, 2) := by decide +kernel
theorem dX11_sledge_14 : decode cX11_sledge 14 = .ok (.aload 4, 2) := by decide +kernel
theorem dX11_sledge_16 : decode cX11_sledge 16 = .ok (.ifnull 26, 3) := by decide +kernel
theorem dX11_sledge_42 : decode cX11_sledge 42 = .ok (.iconst (-1), 1) := by decide +kernel
theorem dX11_sledge_43 : decode cX11_sledge 43 = .ok (.ireturn, 1) := by decide +kernel
theorem dX11_sledgesOnWay_0 : decode cX11_sledgesOnWay 0 = .ok (.iconst 0, 1) := by decide +kernel
theorem dX11_sledgesOnWay_1 : decode cX11_sledgesOnWay 1 = .ok (.istore_n 1, 1) := by decide +kernel
theorem dX11_sledgesOnWay_2 : decode cX11_sledgesOnWay 2 = .ok (.iconst 0, 1) := by decide +kernel
theorem dX11_sledgesOnWay_3 : decode cX11_sledgesOnWay 3 = .ok (.istore_n 2, 1) := by decide +kernel
theorem dX11_sledgesOnWay_4 : decode cX11_sledgesOnWay 4 = .ok (.iload_n 2, 1) := by decide +kernel
theorem dX11_sledgesOnWay_5 : decode cX11_sledgesOnWay 5 = .ok (.aload_n 0, 1) := by decide +kernel
theorem dX11_sledgesOnWay_6 : decode cX11_sledgesOnWay 6 = .ok (.getfield 72, 3) := by decide +kernel
theorem dX11_sledgesOnWay_9 : decode cX11_sledgesOnWay 9 = .ok (.getfield 199, 3) := by decide +kernel
theorem dX11_sledgesOnWay_12 : decode cX11_sledgesOnWay 12 = .ok (.if_icmp .ge 21, 3) := by decide +kernel
theorem dX11_sledgesOnWay_33 : decode cX11_sledgesOnWay 33 = .ok (.iload_n 1, 1) := by decide +kernel
theorem dX11_sledgesOnWay_34 : decode cX11_sledgesOnWay 34 = .ok (.ireturn, 1) := by decide +kernel
theorem dX11_sound_0 : decode cX11_sound 0 = .ok (.aload_n 0, 1) := by decide +kernel
theorem dX11_sound_1 : decode cX11_sound 1 = .ok (.iload_n 1, 1) := by decide +kernel
theorem dX11_sound_2 : decode cX11_sound 2 = .ok (.iconst 4, 1) := by decide +kernel
theorem dX11_sound_3 : decode cX11_sound 3 = .ok (.invokevirtual 169, 3) := by decide +kernel
theorem dX11_sound_6 : decode cX11_sound 6 = .ok (.astore 4, 2) := by decide +kernel
theorem dX11_sound_8 : decode cX11_sound 8 = .ok (.aload 4, 2) := by decide +kernel
theorem dX11_sound_10 : decode cX11_sound 10 = .ok (.ifnull 25, 3) := by decide +kernel
theorem dX11_sound_35 : decode cX11_sound 35 = .ok (.iconst 0, 1) := by decide +kernel
theorem dX11_sound_36 : decode cX11_sound 36 = .ok (.ireturn, 1) := by decide +kernel
theorem dX11_speed_0 : decode cX11_speed 0 = .ok (.iload_n 1, 1) := by decide +kernel
theorem dX11_speed_1 : decode cX11_speed 1 = .ok (.iconst (-1), 1) := by decide +kernel
theorem dX11_speed_2 : decode cX11_speed 2 = .ok (.if_icmp .ne 26, 3) := by decide +kernel
theorem dX11_speed_5 : decode cX11_speed 5 = .ok (.iload_n 2, 1) := by decide +kernel
theorem dX11_speed_6 : decode cX11_speed 6 = .ok (.iconst 0, 1) := by decide +kernel
theorem dX11_speed_7 : decode cX11_speed 7 = .ok (.sipush 1000, 3) := by decide +kernel
theorem dX11_speed_10 : decode cX11_speed 10 = .ok (.invokestatic 112, 3) := by decide +kernel
theorem dX11_speed_13 : decode cX11_speed 13 = .ok (.ifCond .eq 15, 3) := by decide +kernel
theorem dX11_speed_16 : decode cX11_speed 16 = .ok (.aload_n 0, 1) := by decide +kernel
theorem dX11_speed_17 : decode cX11_speed 17 = .ok (.getfield 94, 3) := by decide +kernel
theorem dX11_speed_20 : decode cX11_speed 20 = .ok (.bipush 10, 2) := by decide +kernel
theorem dX11_speed_22 : decode cX11_speed 22 = .ok (.iload_n 2, 1) := by decide +kernel
theorem dX11_speed_23 : decode cX11_speed 23 = .ok (.invokestatic 108, 3) := by decide +kernel
theorem dX11_speed_26 : decode cX11_speed 26 = .ok (.iconst 1, 1) := by decide +kernel
theorem dX11_speed_27 : decode cX11_speed 27 = .ok (.ireturn, 1) := by decide +kernel
theorem dX11_speed_28 : decode cX11_speed 28 = .ok (.iload_n 1, 1) := by decide +kernel
theorem dX11_speed_29 : decode cX11_speed 29 = .ok (.iconst 0, 1) := by decide +kernel
theorem dX11_speed_30 : decode cX11_speed 30 = .ok (.bipush 9, 2) := by decide +kernel
theorem dX11_speed_32 : decode cX11_speed 32 = .ok (.invokestatic 112, 3) := by decide +kernel
theorem dX11_speed_35 : decode cX11_speed 35 = .ok (.ifCond .eq 25, 3) := by decide +kernel
theorem dX11_speed_38 : decode cX11_speed 38 = .ok (.iload_n 2, 1) := by decide +kernel
theorem dX11_speed_39 : decode cX11_speed 39 = .ok (.iconst 1, 1) := by decide +kernel
theorem dX11_speed_40 : decode cX11_speed 40 = .ok (.sipush 200, 3) := by decide +kernel
theorem dX11_speed_43 : decode cX11_speed 43 = .ok (.invokestatic 112, 3) := by decide +kernel
theorem dX11_speed_46 : decode cX11_speed 46 = .ok (.ifCond .eq 14, 3) := by decide +kernel
theorem dX11_speed_49 : decode cX11_speed 49 = .ok (.aload_n 0, 1) := by decide +kernel
theorem dX11_speed_50 : decode cX11_speed 50 = .ok (.getfield 94, 3) := by decide +kernel
theorem dX11_speed_53 : decode cX11_speed 53 = .ok (.iload_n 1, 1) := by decide +kernel
theorem dX11_speed_54 : decode cX11_speed 54 = .ok (.iload_n 2, 1) := by decide +kernel
theorem dX11_speed_55 : decode cX11_speed 55 = .ok (.invokestatic 108, 3) := by decide +kernel
theorem dX11_speed_58 : decode cX11_speed 58 = .ok (.iconst 1, 1) := by decide +kernel
theorem dX11_speed_59 : decode cX11_speed 59 = .ok (.ireturn, 1) := by decide +kernel
theorem dX11_speed_60 : decode cX11_speed 60 = .ok (.iconst 0, 1) := by decide +kernel
theorem dX11_speed_61 : decode cX11_speed 61 = .ok (.ireturn, 1) := by decide +kernel
theorem dX11_standingStation_0 : decode cX11_standingStation 0 = .ok (.aload_n 0, 1) := by decide +kernel
theorem dX11_standingStation_1 : decode cX11_standingStation 1 = .ok (.iload_n 1, 1) := by decide +kernel
theorem dX11_standingStation_2 : decode cX11_standingStation 2 = .ok (.iconst 1, 1) := by decide +kernel
theorem dX11_standingStation_3 : decode cX11_standingStation 3 = .ok (.invokevirtual 169, 3) := by decide +kernel
theorem dX11_standingStation_6 : decode cX11_standingStation 6 = .ok (.astore_n 2, 1) := by decide +kernel
theorem dX11_standingStation_7 : decode cX11_standingStation 7 = .ok (.aload_n 2, 1) := by decide +kernel
theorem dX11_standingStation_8 : decode cX11_standingStation 8 = .ok (.ifnull 14, 3) := by decide +kernel
theorem dX11_standingStation_22 : decode cX11_standingStation 22 = .ok (.aconst_null, 1) := by decide +kernel
theorem dX11_standingStation_23 : decode cX11_standingStation 23 = .ok (.areturn, 1) := by decide +kernel
theorem dX11_station_0 : decode cX11_station 0 = .ok (.aload_n 0, 1) := by decide +kernel
theorem dX11_station_1 : decode cX11_station 1 = .ok (.iload_n 1, 1) := by decide +kernel
theorem dX11_station_2 : decode cX11_station 2 = .ok (.invokevirtual 151, 3) := by decide +kernel
theorem dX11_station_5 : decode cX11_station 5 = .ok (.ifnull 36, 3) := by decide +kernel
theorem dX11_station_41 : decode cX11_station 41 = .ok (.iconst (-1), 1) := by decide +kernel
theorem dX11_station_42 : decode cX11_station 42 = .ok (.ireturn, 1) := by decide +kernel
theorem dX11_stop_0 : decode cX11_stop 0 = .ok (.aload_n 0, 1) := by decide +kernel
theorem dX11_stop_1 : decode cX11_stop 1 = .ok (.iload_n 1, 1) := by decide +kernel
theorem dX11_stop_2 : decode cX11_stop 2 = .ok (.invokevirtual 195, 3) := by decide +kernel
theorem dX11_stop_5 : decode cX11_stop 5 = .ok (.ifnull 25, 3) := by decide +kernel
theorem dX11_stop_30 : decode cX11_stop 30 = .ok (.iconst (-1), 1) := by decide +kernel
theorem dX11_stop_31 : decode cX11_stop 31 = .ok (.ireturn, 1) := by decide +kernel
theorem dX11_study_0 : decode cX11_study 0 = .ok (.aload_n 0, 1) := by decide +kernel
theorem dX11_study_1 : decode cX11_study 1 = .ok (.iload_n 1, 1) := by decide +kernel
theorem dX11_study_2 : decode cX11_study 2 = .ok (.invokevirtual 309, 3) := by decide +kernel
theorem dX11_study_5 : decode cX11_study 5 = .ok (.astore_n 3, 1) := by decide +kernel
theorem dX11_study_6 : decode cX11_study 6 = .ok (.aload_n 3, 1) := by decide +kernel
theorem dX11_study_7 : decode cX11_study 7 = .ok (.ifnull 22, 3) := by decide +kernel
theorem dX11_study_29 : decode cX11_study 29 = .ok (.iconst 0, 1) := by decide +kernel
theorem dX11_study_30 : decode cX11_study 30 = .ok (.ireturn, 1) := by decide +kernel
theorem dX11_sum_0 : decode cX11_sum 0 = .ok (.iload_n 1, 1) := by decide +kernel
theorem dX11_sum_1 : decode cX11_sum 1 = .ok (.ifCond .lt 19, 3) := by decide +kernel
theorem dX11_sum_4 : decode cX11_sum 4 = .ok (.iload_n 1, 1) := by decide +kernel
theorem dX11_sum_5 : decode cX11_sum 5 = .ok (.aload_n 0, 1) := by decide +kernel
theorem dX11_sum_6 : decode cX11_sum 6 = .ok (.getfield 98, 3) := by decide +kernel
theorem dX11_sum_9 : decode cX11_sum 9 = .ok (.arraylength, 1) := by decide +kernel
theorem dX11_sum_10 : decode cX11_sum 10 = .ok (.if_icmp .ge 10, 3) := by decide +kernel
theorem dX11_sum_13 : decode cX11_sum 13 = .ok (.aload_n 0, 1) := by decide +kernel
theorem dX11_sum_14 : decode cX11_sum 14 = .ok (.getfield 98, 3) := by decide +kernel
theorem dX11_sum_17 : decode cX11_sum 17 = .ok (.iload_n 1, 1) := by decide +kernel
theorem dX11_sum_18 : decode cX11_sum 18 = .ok (.laload, 1) := by decide +kernel
theorem dX11_sum_19 : decode cX11_sum 19 = .ok (.lreturn, 1) := by decide +kernel
theorem dX11_sum_20 : decode cX11_sum 20 = .ok (.iload_n 1, 1) := by decide +kernel
theorem dX11_sum_21 : decode cX11_sum 21 = .ok (.bipush 10, 2) := by decide +kernel
theorem dX11_sum_23 : decode cX11_sum 23 = .ok (.bipush 18, 2) := by decide +kernel
theorem dX11_sum_25 : decode cX11_sum 25 = .ok (.invokestatic 112, 3) := by decide +kernel
theorem dX11_sum_28 : decode cX11_sum 28 = .ok (.ifCond .eq 28, 3) := by decide +kernel
theorem dX11_sum_31 : decode cX11_sum 31 = .ok (.aload_n 0, 1) := by decide +kernel
theorem dX11_sum_32 : decode cX11_sum 32 = .ok (.iload_n 1, 1) := by decide +kernel
theorem dX11_sum_33 : decode cX11_sum 33 = .ok (.bipush 10, 2) := by decide +kernel
theorem dX11_sum_35 : decode cX11_sum 35 = .ok (.isub, 1) := by decide +kernel
theorem dX11_sum_36 : decode cX11_sum 36 = .ok (.invokevirtual 151, 3) := by decide +kernel
theorem dX11_sum_39 : decode cX11_sum 39 = .ok (.astore_n 2, 1) := by decide +kernel
theorem dX11_sum_40 : decode cX11_sum 40 = .ok (.aload_n 2, 1) := by decide +kernel
theorem dX11_sum_41 : decode cX11_sum 41 = .ok (.ifnonnull 9, 3) := by decide +kernel
theorem dX11_sum_44 : decode cX11_sum 44 = .ok (.ldc2_w 637, 3) := by decide +kernel
theorem dX11_sum_47 : decode cX11_sum 47 = .ok (.goto 8, 3) := by decide +kernel
theorem dX11_sum_55 : decode cX11_sum 55 = .ok (.lreturn, 1) := by decide +kernel
theorem dX11_sum_56 : decode cX11_sum 56 = .ok (.iload_n 1, 1) := by decide +kernel
theorem dX11_sum_57 : decode cX11_sum 57 = .ok (.bipush 20, 2) := by decide +kernel
theorem dX11_sum_59 : decode cX11_sum 59 = .ok (.if_icmp .lt 33, 3) := by decide +kernel
theorem dX11_sum_62 : decode cX11_sum 62 = .ok (.aload_n 0, 1) := by decide +kernel
theorem dX11_sum_63 : decode cX11_sum 63 = .ok (.getfield 79, 3) := by decide +kernel
theorem dX11_sum_66 : decode cX11_sum 66 = .ok (.iload_n 1, 1) := by decide +kernel
theorem dX11_sum_67 : decode cX11_sum 67 = .ok (.bipush 20, 2) := by decide +kernel
theorem dX11_sum_69 : decode cX11_sum 69 = .ok (.isub, 1) := by decide +kernel
theorem dX11_sum_70 : decode cX11_sum 70 = .ok (.invokevirtual 431, 3) := by decide +kernel
theorem dX11_sum_73 : decode cX11_sum 73 = .ok (.ifCond .eq 19, 3) := by decide +kernel
theorem dX11_sum_92 : decode cX11_sum 92 = .ok (.ldc2_w 637, 3) := by decide +kernel
theorem dX11_sum_95 : decode cX11_sum 95 = .ok (.lreturn, 1) := by decide +kernel
theorem dX11_sure_0 : decode cX11_sure 0 = .ok (.aload_n 0, 1) := by decide +kernel
theorem dX11_sure_1 : decode cX11_sure 1 = .ok (.iload_n 1, 1) := by decide +kernel
theorem dX11_sure_2 : decode cX11_sure 2 = .ok (.iconst 4, 1) := by decide +kernel
theorem dX11_sure_3 : decode cX11_sure 3 = .ok (.invokevirtual 169, 3) := by decide +kernel
theorem dX11_sure_6 : decode cX11_sure 6 = .ok (.astore_n 2, 1) := by decide +kernel
theorem dX11_sure_7 : decode cX11_sure 7 = .ok (.aload_n 2, 1) := by decide +kernel
theorem dX11_sure_8 : decode cX11_sure 8 = .ok (.ifnonnull 7, 3) := by decide +kernel
theorem dX11_sure_11 : decode cX11_sure 11 = .ok (.iconst (-1), 1) := by decide +kernel
theorem dX11_sure_12 : decode cX11_sure 12 = .ok (.goto 7, 3) := by decide +kernel
theorem dX11_sure_19 : decode cX11_sure 19 = .ok (.ireturn, 1) := by decide +kernel
theorem dX11_tell_0 : decode cX11_tell 0 = .ok (.aload_n 0, 1) := by decide +kernel
theorem dX11_tell_1 : decode cX11_tell 1 = .ok (.iload_n 1, 1) := by decide +kernel
theorem dX11_tell_2 : decode cX11_tell 2 = .ok (.invokevirtual 309, 3) := by decide +kernel
theorem dX11_tell_5 : decode cX11_tell 5 = .ok (.astore_n 3, 1) := by decide +kernel
theorem dX11_tell_6 : decode cX11_tell 6 = .ok (.aload_n 3, 1) := by decide +kernel
theorem dX11_tell_7 : decode cX11_tell 7 = .ok (.ifnonnull 5, 3) := by decide +kernel
theorem dX11_tell_10 : decode cX11_tell 10 = .ok (.iconst 0, 1) := by decide +kernel
theorem dX11_tell_11 : decode cX11_tell 11 = .ok (.ireturn, 1) := by decide +kernel
theorem dX11_text_0 : decode cX11_text 0 = .ok (.iload_n 1, 1) := by decide +kernel
theorem dX11_text_1 : decode cX11_text 1 = .ok (.iload_n 2, 1) := by decide +kernel
theorem dX11_text_2 : decode cX11_text 2 = .ok (.invokestatic 213, 3) := by decide +kernel
theorem dX11_text_5 : decode cX11_text 5 = .ok (.ifCond .eq 37, 3) := by decide +kernel
theorem dX11_text_8 : decode cX11_text 8 = .ok (.iload_n 3, 1) := by decide +kernel
theorem dX11_text_9 : decode cX11_text 9 = .ok (.iconst 1, 1) := by decide +kernel
theorem dX11_text_10 : decode cX11_text 10 = .ok (.sipush 200, 3) := by decide +kernel
theorem dX11_text_13 : decode cX11_text 13 = .ok (.invokestatic 112, 3) := by decide +kernel
theorem dX11_text_16 : decode cX11_text 16 = .ok (.ifCond .eq 26, 3) := by decide +kernel
theorem dX11_text_19 : decode cX11_text 19 = .ok (.aload_n 0, 1) := by decide +kernel
theorem dX11_text_20 : decode cX11_text 20 = .ok (.getfield 19, 3) := by decide +kernel
theorem dX11_text_23 : decode cX11_text 23 = .ok (.getfield 216, 3) := by decide +kernel
theorem dX11_text_26 : decode cX11_text 26 = .ok (.bipush 20, 2) := by decide +kernel
theorem dX11_text_28 : decode cX11_text 28 = .ok (.if_icmp .ge 14, 3) := by decide +kernel
theorem dX11_text_31 : decode cX11_text 31 = .ok (.iload_n 3, 1) := by decide +kernel
theorem dX11_text_32 : decode cX11_text 32 = .ok (.aload_n 0, 1) := by decide +kernel
theorem dX11_text_33 : decode cX11_text 33 = .ok (.getfield 91, 3) := by decide +kernel
theorem dX11_text_36 : decode cX11_text 36 = .ok (.getfield 199, 3) := by decide +kernel
theorem dX11_text_39 : decode cX11_text 39 = .ok (.if_icmp .le 5, 3) := by decide +kernel
theorem dX11_text_42 : decode cX11_text 42 = .ok (.iconst (-1), 1) := by decide +kernel
theorem dX11_text_43 : decode cX11_text 43 = .ok (.ireturn, 1) := by decide +kernel
theorem dX11_title_0 : decode cX11_title 0 = .ok (.aload_n 0, 1) := by decide +kernel
theorem dX11_title_1 : decode cX11_title 1 = .ok (.iload_n 1, 1) := by decide +kernel
theorem dX11_title_2 : decode cX11_title 2 = .ok (.iconst 0, 1) := by decide +kernel
theorem dX11_title_3 : decode cX11_title 3 = .ok (.invokevirtual 169, 3) := by decide +kernel
theorem dX11_title_6 : decode cX11_title 6 = .ok (.astore_n 3, 1) := by decide +kernel
theorem dX11_title_7 : decode cX11_title 7 = .ok (.aload_n 3, 1) := by decide +kernel
theorem dX11_title_8 : decode cX11_title 8 = .ok (.ifnull 14, 3) := by decide +kernel
theorem dX11_title_22 : decode cX11_title 22 = .ok (.iconst 0, 1) := by decide +kernel
theorem dX11_title_23 : decode cX11_title 23 = .ok (.ireturn, 1) := by decide +kernel
theorem dX11_visit_0 : decode cX11_visit 0 = .ok (.aload_n 0, 1) := by decide +kernel
theorem dX11_visit_1 : decode cX11_visit 1 = .ok (.iload_n 1, 1) := by decide +kernel
theorem dX11_visit_2 : decode cX11_visit 2 = .ok (.invokevirtual 151, 3) := by decide +kernel
theorem dX11_visit_5 : decode cX11_visit 5 = .ok (.astore_n 3, 1) := by decide +kernel
theorem dX11_visit_6 : decode cX11_visit 6 = .ok (.aload_n 0, 1) := by decide +kernel
theorem dX11_visit_7 : decode cX11_visit 7 = .ok (.iload_n 2, 1) := by decide +kernel
theorem dX11_visit_8 : decode cX11_visit 8 = .ok (.invokevirtual 195, 3) := by decide +kernel
theorem dX11_visit_11 : decode cX11_visit 11 = .ok (.astore 4, 2) := by decide +kernel
theorem dX11_visit_13 : decode cX11_visit 13 = .ok (.aload_n 3, 1) := by decide +kernel
theorem dX11_visit_14 : decode cX11_visit 14 = .ok (.ifnull 31, 3) := by decide +kernel
theorem dX11_visit_45 : decode cX11_visit 45 = .ok (.iconst (-1), 1) := by decide +kernel
theorem dX11_visit_46 : decode cX11_visit 46 = .ok (.ireturn, 1) := by decide +kernel
theorem dX11_voyage_0 : decode cX11_voyage 0 = .ok (.aload_n 0, 1) := by decide +kernel
theorem dX11_voyage_1 : decode cX11_voyage 1 = .ok (.iload_n 1, 1) := by decide +kernel
theorem dX11_voyage_2 : decode cX11_voyage 2 = .ok (.invokevirtual 403, 3) := by decide +kernel
theorem dX11_voyage_5 : decode cX11_voyage 5 = .ok (.astore 5, 2) := by decide +kernel
theorem dX11_voyage_7 : decode cX11_voyage 7 = .ok (.aload_n 0, 1) := by decide +kernel
theorem dX11_voyage_8 : decode cX11_voyage 8 = .ok (.iload_n 3, 1) := by decide +kernel
theorem dX11_voyage_9 : decode cX11_voyage 9 = .ok (.invokevirtual 195, 3) := by decide +kernel
theorem dX11_voyage_12 : decode cX11_voyage 12 = .ok (.astore 6, 2) := by decide +kernel
theorem dX11_voyage_14 : decode cX11_voyage 14 = .ok (.aload 5, 2) := by decide +kernel
theorem dX11_voyage_16 : decode cX11_voyage 16 = .ok (.ifnull 29, 3) := by decide +kernel
theorem dX11_voyage_45 : decode cX11_voyage 45 = .ok (.iconst 0, 1) := by decide +kernel
theorem dX11_voyage_46 : decode cX11_voyage 46 = .ok (.ireturn, 1) := by decide +kernel
theorem dX11_whose_0 : decode cX11_whose 0 = .ok (.aload_n 0, 1) := by decide +kernel
theorem dX11_whose_1 : decode cX11_whose 1 = .ok (.iload_n 1, 1) := by decide +kernel
theorem dX11_whose_2 : decode cX11_whose 2 = .ok (.invokevirtual 151, 3) := by decide +kernel
theorem dX11_whose_5 : decode cX11_whose 5 = .ok (.astore_n 3, 1) := by decide +kernel
theorem dX11_whose_6 : decode cX11_whose 6 = .ok (.aload_n 3, 1) := by decide +kernel
theorem dX11_whose_7 : decode cX11_whose 7 = .ok (.ifnull 14, 3) := by decide +kernel
theorem dX11_whose_21 : decode cX11_whose 21 = .ok (.iconst (-1), 1) := by decide +kernel
theorem dX11_whose_22 : decode cX11_whose 22 = .ok (.ireturn, 1) := by decide +kernel
theorem dX11_why_0 : decode cX11_why 0 = .ok (.aload_n 0, 1) := by decide +kernel
theorem dX11_why_1 : decode cX11_why 1 = .ok (.iload_n 1, 1) := by decide +kernel
theorem dX11_why_2 : decode cX11_why 2 = .ok (.invokevirtual 309, 3) := by decide +kernel
theorem dX11_why_5 : decode cX11_why 5 = .ok (.astore 5, 2) := by decide +kernel
theorem dX11_why_7 : decode cX11_why 7 = .ok (.aload 5, 2) := by decide +kernel
theorem dX11_why_9 : decode cX11_why 9 = .ok (.ifnull 20, 3) := by decide +kernel
theorem dX11_why_29 : decode cX11_why 29 = .ok (.iconst (-1), 1) := by decide +kernel
theorem dX11_why_30 : decode cX11_why 30 = .ok (.ireturn, 1) := by decide +kernel
theorem dX11_word_0 : decode cX11_word 0 = .ok (.iload_n 1, 1) := by decide +kernel
theorem dX11_word_1 : decode cX11_word 1 = .ok (.iconst 0, 1) := by decide +kernel
theorem dX11_word_2 : decode cX11_word 2 = .ok (.sipush 1000, 3) := by decide +kernel
theorem dX11_word_5 : decode cX11_word 5 = .ok (.invokestatic 112, 3) := by decide +kernel
theorem dX11_word_8 : decode cX11_word 8 = .ok (.ifCond .eq 18, 3) := by decide +kernel
theorem dX11_word_11 : decode cX11_word 11 = .ok (.aload_n 0, 1) := by decide +kernel
theorem dX11_word_12 : decode cX11_word 12 = .ok (.getfield 88, 3) := by decide +kernel
theorem dX11_word_15 : decode cX11_word 15 = .ok (.iload_n 1, 1) := by decide +kernel
theorem dX11_word_16 : decode cX11_word 16 = .ok (.iconst 0, 1) := by decide +kernel
theorem dX11_word_17 : decode cX11_word 17 = .ok (.iconst 0, 1) := by decide +kernel
theorem dX11_word_18 : decode cX11_word 18 = .ok (.iconst 0, 1) := by decide +kernel
theorem dX11_word_19 : decode cX11_word 19 = .ok (.iconst 0, 1) := by decide +kernel
theorem dX11_word_20 : decode cX11_word 20 = .ok (.invokevirtual 205, 3) := by decide +kernel
theorem dX11_word_23 : decode cX11_word 23 = .ok (.goto 4, 3) := by decide +kernel
theorem dX11_word_26 : decode cX11_word 26 = .ok (.iconst (-1), 1) := by decide +kernel
theorem dX11_word_27 : decode cX11_word 27 = .ok (.ireturn, 1) := by decide +kernel
theorem dX11_work_0 : decode cX11_work 0 = .ok (.iload_n 1, 1) := by decide +kernel
theorem dX11_work_1 : decode cX11_work 1 = .ok (.iconst 0, 1) := by decide +kernel
theorem dX11_work_2 : decode cX11_work 2 = .ok (.bipush 9, 2) := by decide +kernel
theorem dX11_work_4 : decode cX11_work 4 = .ok (.invokestatic 112, 3) := by decide +kernel
theorem dX11_work_7 : decode cX11_work 7 = .ok (.ifCond .eq 34, 3) := by decide +kernel
theorem dX11_work_10 : decode cX11_work 10 = .ok (.aload_n 0, 1) := by decide +kernel
theorem dX11_work_11 : decode cX11_work 11 = .ok (.iload_n 2, 1) := by decide +kernel
theorem dX11_work_12 : decode cX11_work 12 = .ok (.invokevirtual 151, 3) := by decide +kernel
theorem dX11_work_15 : decode cX11_work 15 = .ok (.ifnull 26, 3) := by decide +kernel
theorem dX11_work_41 : decode cX11_work 41 = .ok (.iconst (-1), 1) := by decide +kernel
theorem dX11_work_42 : decode cX11_work 42 = .ok (.ireturn, 1) := by decide +kernel
theorem dX11_workOf_0 : decode cX11_workOf 0 = .ok (.iload_n 1, 1) := by decide +kernel
theorem dX11_workOf_1 : decode cX11_workOf 1 = .ok (.ifCond .lt 29, 3) := by decide +kernel
theorem dX11_workOf_4 : decode cX11_workOf 4 = .ok (.iload_n 1, 1) := by decide +kernel
theorem dX11_workOf_5 : decode cX11_workOf 5 = .ok (.aload_n 0, 1) := by decide +kernel
theorem dX11_workOf_6 : decode cX11_workOf 6 = .ok (.getfield 55, 3) := by decide +kernel
theorem dX11_workOf_9 : decode cX11_workOf 9 = .ok (.if_icmp .ge 21, 3) := by decide +kernel
theorem dX11_workOf_30 : decode cX11_workOf 30 = .ok (.aconst_null, 1) := by decide +kernel
theorem dX11_workOf_31 : decode cX11_workOf 31 = .ok (.areturn, 1) := by decide +kernel
theorem dX11_yes_0 : decode cX11_yes 0 = .ok (.aload_n 0, 1) := by decide +kernel
theorem dX11_yes_1 : decode cX11_yes 1 = .ok (.iload_n 1, 1) := by decide +kernel
theorem dX11_yes_2 : decode cX11_yes 2 = .ok (.invokevirtual 151, 3) := by decide +kernel
theorem dX11_yes_5 : decode cX11_yes 5 = .ok (.astore_n 3, 1) := by decide +kernel
theorem dX11_yes_6 : decode cX11_yes 6 = .ok (.aload_n 3, 1) := by decide +kernel
theorem dX11_yes_7 : decode cX11_yes 7 = .ok (.ifnull 30, 3) := by decide +kernel
theorem dX11_yes_37 : decode cX11_yes 37 = .ok (.iconst 0, 1) := by decide +kernel
theorem dX11_yes_38 : decode cX11_yes 38 = .ok (.ireturn, 1) := by decide +kernel
theorem dX12_about_0 : decode cX12_about 0 = .ok (.aload_n 0, 1) := by decide +kernel
theorem dX12_about_1 : decode cX12_about 1 = .ok (.iload_n 1, 1) := by decide +kernel
theorem dX12_about_2 : decode cX12_about 2 = .ok (.invokevirtual 566, 3) := by decide +kernel
theorem dX12_about_5 : decode cX12_about 5 = .ok (.ifCond .ne 5, 3) := by decide +kernel
theorem dX12_about_8 : decode cX12_about 8 = .ok (.iconst (-1), 1) := by decide +kernel
theorem dX12_about_9 : decode cX12_about 9 = .ok (.ireturn, 1) := by decide +kernel
theorem dX12_asks_0 : decode cX12_asks 0 = .ok (.aload_n 0, 1) := by decide +kernel
theorem dX12_asks_1 : decode cX12_asks 1 = .ok (.iload_n 1, 1) := by decide +kernel
theorem dX12_asks_2 : decode cX12_asks 2 = .ok (.invokevirtual 406, 3) := by decide +kernel
theorem dX12_asks_5 : decode cX12_asks 5 = .ok (.ifCond .eq 29, 3) := by decide +kernel
theorem dX12_asks_34 : decode cX12_asks 34 = .ok (.iconst 0, 1) := by decide +kernel
theorem dX12_asks_35 : decode cX12_asks 35 = .ok (.ireturn, 1) := by decide +kernel
theorem dX12_at_0 : decode cX12_at 0 = .ok (.aload_n 0, 1) := by decide +kernel
theorem dX12_at_1 : decode cX12_at 1 = .ok (.iload_n 1, 1) := by decide +kernel
theorem dX12_at_2 : decode cX12_at 2 = .ok (.invokevirtual 618, 3) := by decide +kernel
theorem dX12_at_5 : decode cX12_at 5 = .ok (.ifCond .ne 5, 3) := by decide +kernel
theorem dX12_at_8 : decode cX12_at 8 = .ok (.iconst (-1), 1) := by decide +kernel
theorem dX12_at_9 : decode cX12_at 9 = .ok (.ireturn, 1) := by decide +kernel
theorem dX12_begins_0 : decode cX12_begins 0 = .ok (.aload_n 0, 1) := by decide +kernel
theorem dX12_begins_1 : decode cX12_begins 1 = .ok (.iload_n 1, 1) := by decide +kernel
theorem dX12_begins_2 : decode cX12_begins 2 = .ok (.putfield 365, 3) := by decide +kernel
theorem dX12_begins_5 : decode cX12_begins 5 = .ok (.aload_n 0, 1) := by decide +kernel
theorem dX12_begins_6 : decode cX12_begins 6 = .ok (.iload_n 2, 1) := by decide +kernel
theorem dX12_begins_7 : decode cX12_begins 7 = .ok (.putfield 368, 3) := by decide +kernel
theorem dX12_begins_10 : decode cX12_begins 10 = .ok (.iconst 0, 1) := by decide +kernel
theorem dX12_begins_11 : decode cX12_begins 11 = .ok (.istore_n 3, 1) := by decide +kernel
theorem dX12_begins_12 : decode cX12_begins 12 = .ok (.iload_n 3, 1) := by decide +kernel
theorem dX12_begins_13 : decode cX12_begins 13 = .ok (.sipush 144, 3) := by decide +kernel
theorem dX12_begins_16 : decode cX12_begins 16 = .ok (.if_icmp .ge 37, 3) := by decide +kernel
theorem dX12_begins_19 : decode cX12_begins 19 = .ok (.aload_n 0, 1) := by decide +kernel
theorem dX12_begins_20 : decode cX12_begins 20 = .ok (.getfield 16, 3) := by decide +kernel
theorem dX12_begins_23 : decode cX12_begins 23 = .ok (.iload_n 3, 1) := by decide +kernel
theorem dX12_begins_24 : decode cX12_begins 24 = .ok (.iconst 0, 1) := by decide +kernel
theorem dX12_begins_25 : decode cX12_begins 25 = .ok (.iastore, 1) := by decide +kernel
theorem dX12_begins_26 : decode cX12_begins 26 = .ok (.aload_n 0, 1) := by decide +kernel
theorem dX12_begins_27 : decode cX12_begins 27 = .ok (.getfield 20, 3) := by decide +kernel
theorem dX12_begins_30 : decode cX12_begins 30 = .ok (.iload_n 3, 1) := by decide +kernel
theorem dX12_begins_31 : decode cX12_begins 31 = .ok (.iconst 0, 1) := by decide +kernel
theorem dX12_begins_32 : decode cX12_begins 32 = .ok (.iastore, 1) := by decide +kernel
theorem dX12_begins_33 : decode cX12_begins 33 = .ok (.aload_n 0, 1) := by decide +kernel
theorem dX12_begins_34 : decode cX12_begins 34 = .ok (.getfield 23, 3) := by decide +kernel
theorem dX12_begins_37 : decode cX12_begins 37 = .ok (.iload_n 3, 1) := by decide +kernel
theorem dX12_begins_38 : decode cX12_begins 38 = .ok (.iconst (-1), 1) := by decide +kernel
theorem dX12_begins_39 : decode cX12_begins 39 = .ok (.iastore, 1) := by decide +kernel
theorem dX12_begins_40 : decode cX12_begins 40 = .ok (.aload_n 0, 1) := by decide +kernel
theorem dX12_begins_41 : decode cX12_begins 41 = .ok (.getfield 26, 3) := by decide +kernel
theorem dX12_begins_44 : decode cX12_begins 44 = .ok (.iload_n 3, 1) := by decide +kernel
theorem dX12_begins_45 : decode cX12_begins 45 = .ok (.iconst 0, 1) := by decide +kernel
theorem dX12_begins_46 : decode cX12_begins 46 = .ok (.iastore, 1) := by decide +kernel
theorem dX12_begins_47 : decode cX12_begins 47 = .ok (.iinc 3 1, 3) := by decide +kernel
theorem dX12_begins_50 : decode cX12_begins 50 = .ok (.goto (-38), 3) := by decide +kernel
theorem dX12_begins_53 : decode cX12_begins 53 = .ok (.return_, 1) := by decide +kernel
theorem dX12_best_0 : decode cX12_best 0 = .ok (.iconst 0, 1) := by decide +kernel
theorem dX12_best_1 : decode cX12_best 1 = .ok (.istore_n 1, 1) := by decide +kernel
theorem dX12_best_2 : decode cX12_best 2 = .ok (.iconst 0, 1) := by decide +kernel
theorem dX12_best_3 : decode cX12_best 3 = .ok (.istore_n 2, 1) := by decide +kernel
theorem dX12_best_4 : decode cX12_best 4 = .ok (.iload_n 2, 1) := by decide +kernel
theorem dX12_best_5 : decode cX12_best 5 = .ok (.aload_n 0, 1) := by decide +kernel
theorem dX12_best_6 : decode cX12_best 6 = .ok (.getfield 393, 3) := by decide +kernel
theorem dX12_best_9 : decode cX12_best 9 = .ok (.if_icmp .ge 31, 3) := by decide +kernel
theorem dX12_best_40 : decode cX12_best 40 = .ok (.iconst 0, 1) := by decide +kernel
theorem dX12_best_41 : decode cX12_best 41 = .ok (.istore_n 2, 1) := by decide +kernel
theorem dX12_best_42 : decode cX12_best 42 = .ok (.iconst 1, 1) := by decide +kernel
theorem dX12_best_43 : decode cX12_best 43 = .ok (.istore_n 3, 1) := by decide +kernel
theorem dX12_best_44 : decode cX12_best 44 = .ok (.iload_n 3, 1) := by decide +kernel
theorem dX12_best_45 : decode cX12_best 45 = .ok (.iconst 1, 1) := by decide +kernel
theorem dX12_best_46 : decode cX12_best 46 = .ok (.aload_n 0, 1) := by decide +kernel
theorem dX12_best_47 : decode cX12_best 47 = .ok (.getfield 718, 3) := by decide +kernel
theorem dX12_best_50 : decode cX12_best 50 = .ok (.ishl, 1) := by decide +kernel
theorem dX12_best_51 : decode cX12_best 51 = .ok (.if_icmp .ge 58, 3) := by decide +kernel
theorem dX12_best_109 : decode cX12_best 109 = .ok (.iload_n 2, 1) := by decide +kernel
theorem dX12_best_110 : decode cX12_best 110 = .ok (.ireturn, 1) := by decide +kernel
theorem dX12_birds_0 : decode cX12_birds 0 = .ok (.aload_n 0, 1) := by decide +kernel
theorem dX12_birds_1 : decode cX12_birds 1 = .ok (.iload_n 1, 1) := by decide +kernel
theorem dX12_birds_2 : decode cX12_birds 2 = .ok (.iconst 5, 1) := by decide +kernel
theorem dX12_birds_3 : decode cX12_birds 3 = .ok (.invokevirtual 399, 3) := by decide +kernel
theorem dX12_birds_6 : decode cX12_birds 6 = .ok (.ifCond .eq 24, 3) := by decide +kernel
theorem dX12_birds_30 : decode cX12_birds 30 = .ok (.iconst 0, 1) := by decide +kernel
theorem dX12_birds_31 : decode cX12_birds 31 = .ok (.ireturn, 1) := by decide +kernel
theorem dX12_blocks_0 : decode cX12_blocks 0 = .ok (.iload_n 1, 1) := by decide +kernel
theorem dX12_blocks_1 : decode cX12_blocks 1 = .ok (.iconst 0, 1) := by decide +kernel
theorem dX12_blocks_2 : decode cX12_blocks 2 = .ok (.iconst 1, 1) := by decide +kernel
theorem dX12_blocks_3 : decode cX12_blocks 3 = .ok (.aload_n 0, 1) := by decide +kernel
theorem dX12_blocks_4 : decode cX12_blocks 4 = .ok (.getfield 718, 3) := by decide +kernel
theorem dX12_blocks_7 : decode cX12_blocks 7 = .ok (.ishl, 1) := by decide +kernel
theorem dX12_blocks_8 : decode cX12_blocks 8 = .ok (.iconst 1, 1) := by decide +kernel
theorem dX12_blocks_9 : decode cX12_blocks 9 = .ok (.isub, 1) := by decide +kernel
theorem dX12_blocks_10 : decode cX12_blocks 10 = .ok (.invokestatic 371, 3) := by decide +kernel
theorem dX12_blocks_13 : decode cX12_blocks 13 = .ok (.ifCond .ne 5, 3) := by decide +kernel
theorem dX12_blocks_16 : decode cX12_blocks 16 = .ok (.iconst (-1), 1) := by decide +kernel
theorem dX12_blocks_17 : decode cX12_blocks 17 = .ok (.ireturn, 1) := by decide +kernel
theorem dX12_blocks_18 : decode cX12_blocks 18 = .ok (.iconst 0, 1) := by decide +kernel
theorem dX12_blocks_19 : decode cX12_blocks 19 = .ok (.istore_n 2, 1) := by decide +kernel
theorem dX12_blocks_20 : decode cX12_blocks 20 = .ok (.iconst 0, 1) := by decide +kernel
theorem dX12_blocks_21 : decode cX12_blocks 21 = .ok (.istore_n 3, 1) := by decide +kernel
theorem dX12_blocks_22 : decode cX12_blocks 22 = .ok (.iload_n 3, 1) := by decide +kernel
theorem dX12_blocks_23 : decode cX12_blocks 23 = .ok (.aload_n 0, 1) := by decide +kernel
theorem dX12_blocks_24 : decode cX12_blocks 24 = .ok (.getfield 393, 3) := by decide +kernel
theorem dX12_blocks_27 : decode cX12_blocks 27 = .ok (.if_icmp .ge 28, 3) := by decide +kernel
theorem dX12_blocks_55 : decode cX12_blocks 55 = .ok (.iload_n 2, 1) := by decide +kernel
theorem dX12_blocks_56 : decode cX12_blocks 56 = .ok (.ireturn, 1) := by decide +kernel
theorem dX12_caught_0 : decode cX12_caught 0 = .ok (.aload_n 0, 1) := by decide +kernel
theorem dX12_caught_1 : decode cX12_caught 1 = .ok (.iload_n 1, 1) := by decide +kernel
theorem dX12_caught_2 : decode cX12_caught 2 = .ok (.invokevirtual 618, 3) := by decide +kernel
theorem dX12_caught_5 : decode cX12_caught 5 = .ok (.ifCond .eq 54, 3) := by decide +kernel
theorem dX12_caught_59 : decode cX12_caught 59 = .ok (.iconst (-1), 1) := by decide +kernel
theorem dX12_caught_60 : decode cX12_caught 60 = .ok (.ireturn, 1) := by decide +kernel
theorem dX12_cell_0 : decode cX12_cell 0 = .ok (.aload_n 0, 1) := by decide +kernel
theorem dX12_cell_1 : decode cX12_cell 1 = .ok (.iload_n 1, 1) := by decide +kernel
theorem dX12_cell_2 : decode cX12_cell 2 = .ok (.invokevirtual 381, 3) := by decide +kernel
theorem dX12_cell_5 : decode cX12_cell 5 = .ok (.ifCond .eq 33, 3) := by decide +kernel
theorem dX12_cell_8 : decode cX12_cell 8 = .ok (.iload_n 2, 1) := by decide +kernel
theorem dX12_cell_9 : decode cX12_cell 9 = .ok (.iconst 0, 1) := by decide +kernel
theorem dX12_cell_10 : decode cX12_cell 10 = .ok (.bipush 40, 2) := by decide +kernel
theorem dX12_cell_12 : decode cX12_cell 12 = .ok (.invokestatic 371, 3) := by decide +kernel
theorem dX12_cell_15 : decode cX12_cell 15 = .ok (.ifCond .eq 23, 3) := by decide +kernel
theorem dX12_cell_18 : decode cX12_cell 18 = .ok (.iload_n 3, 1) := by decide +kernel
theorem dX12_cell_19 : decode cX12_cell 19 = .ok (.iconst 0, 1) := by decide +kernel
theorem dX12_cell_20 : decode cX12_cell 20 = .ok (.iconst 3, 1) := by decide +kernel
theorem dX12_cell_21 : decode cX12_cell 21 = .ok (.invokestatic 371, 3) := by decide +kernel
theorem dX12_cell_24 : decode cX12_cell 24 = .ok (.ifCond .eq 14, 3) := by decide +kernel
theorem dX12_cell_27 : decode cX12_cell 27 = .ok (.iload 4, 2) := by decide +kernel
theorem dX12_cell_29 : decode cX12_cell 29 = .ok (.iconst (-1), 1) := by decide +kernel
theorem dX12_cell_30 : decode cX12_cell 30 = .ok (.bipush 7, 2) := by decide +kernel
theorem dX12_cell_32 : decode cX12_cell 32 = .ok (.invokestatic 371, 3) := by decide +kernel
theorem dX12_cell_35 : decode cX12_cell 35 = .ok (.ifCond .ne 5, 3) := by decide +kernel
theorem dX12_cell_38 : decode cX12_cell 38 = .ok (.iconst 0, 1) := by decide +kernel
theorem dX12_cell_39 : decode cX12_cell 39 = .ok (.ireturn, 1) := by decide +kernel
theorem dX12_cell_40 : decode cX12_cell 40 = .ok (.iload 4, 2) := by decide +kernel
theorem dX12_cell_42 : decode cX12_cell 42 = .ok (.iconst (-1), 1) := by decide +kernel
theorem dX12_cell_43 : decode cX12_cell 43 = .ok (.if_icmp .ne 11, 3) := by decide +kernel
theorem dX12_cell_46 : decode cX12_cell 46 = .ok (.iload 5, 2) := by decide +kernel
theorem dX12_cell_48 : decode cX12_cell 48 = .ok (.ifCond .eq 21, 3) := by decide +kernel
theorem dX12_cell_51 : decode cX12_cell 51 = .ok (.goto 16, 3) := by decide +kernel
theorem dX12_cell_54 : decode cX12_cell 54 = .ok (.iload 5, 2) := by decide +kernel
theorem dX12_cell_56 : decode cX12_cell 56 = .ok (.bipush 10, 2) := by decide +kernel
theorem dX12_cell_58 : decode cX12_cell 58 = .ok (.sipush 3600, 3) := by decide +kernel
theorem dX12_cell_61 : decode cX12_cell 61 = .ok (.invokestatic 371, 3) := by decide +kernel
theorem dX12_cell_64 : decode cX12_cell 64 = .ok (.ifCond .ne 5, 3) := by decide +kernel
theorem dX12_cell_67 : decode cX12_cell 67 = .ok (.iconst 0, 1) := by decide +kernel
theorem dX12_cell_68 : decode cX12_cell 68 = .ok (.ireturn, 1) := by decide +kernel
theorem dX12_cell_69 : decode cX12_cell 69 = .ok (.aload_n 0, 1) := by decide +kernel
theorem dX12_cell_70 : decode cX12_cell 70 = .ok (.getfield 16, 3) := by decide +kernel
theorem dX12_cell_73 : decode cX12_cell 73 = .ok (.iload_n 1, 1) := by decide +kernel
theorem dX12_cell_74 : decode cX12_cell 74 = .ok (.iload_n 2, 1) := by decide +kernel
theorem dX12_cell_75 : decode cX12_cell 75 = .ok (.iastore, 1) := by decide +kernel
theorem dX12_cell_76 : decode cX12_cell 76 = .ok (.aload_n 0, 1) := by decide +kernel
theorem dX12_cell_77 : decode cX12_cell 77 = .ok (.getfield 20, 3) := by decide +kernel
theorem dX12_cell_80 : decode cX12_cell 80 = .ok (.iload_n 1, 1) := by decide +kernel
theorem dX12_cell_81 : decode cX12_cell 81 = .ok (.iload_n 3, 1) := by decide +kernel
theorem dX12_cell_82 : decode cX12_cell 82 = .ok (.iastore, 1) := by decide +kernel
theorem dX12_cell_83 : decode cX12_cell 83 = .ok (.aload_n 0, 1) := by decide +kernel
theorem dX12_cell_84 : decode cX12_cell 84 = .ok (.getfield 23, 3) := by decide +kernel
theorem dX12_cell_87 : decode cX12_cell 87 = .ok (.iload_n 1, 1) := by decide +kernel
theorem dX12_cell_88 : decode cX12_cell 88 = .ok (.iload 4, 2) := by decide +kernel
theorem dX12_cell_90 : decode cX12_cell 90 = .ok (.iastore, 1) := by decide +kernel
theorem dX12_cell_91 : decode cX12_cell 91 = .ok (.aload_n 0, 1) := by decide +kernel
theorem dX12_cell_92 : decode cX12_cell 92 = .ok (.getfield 26, 3) := by decide +kernel
theorem dX12_cell_95 : decode cX12_cell 95 = .ok (.iload_n 1, 1) := by decide +kernel
theorem dX12_cell_96 : decode cX12_cell 96 = .ok (.iload 5, 2) := by decide +kernel
theorem dX12_cell_98 : decode cX12_cell 98 = .ok (.iastore, 1) := by decide +kernel
theorem dX12_cell_99 : decode cX12_cell 99 = .ok (.iconst 1, 1) := by decide +kernel
theorem dX12_cell_100 : decode cX12_cell 100 = .ok (.ireturn, 1) := by decide +kernel
theorem dX12_check_0 : decode cX12_check 0 = .ok (.iload_n 1, 1) := by decide +kernel
theorem dX12_check_1 : decode cX12_check 1 = .ok (.ifCond .lt 14, 3) := by decide +kernel
theorem dX12_check_4 : decode cX12_check 4 = .ok (.iload_n 1, 1) := by decide +kernel
theorem dX12_check_5 : decode cX12_check 5 = .ok (.aload_n 0, 1) := by decide +kernel
theorem dX12_check_6 : decode cX12_check 6 = .ok (.getfield 436, 3) := by decide +kernel
theorem dX12_check_9 : decode cX12_check 9 = .ok (.bipush 8, 2) := by decide +kernel
theorem dX12_check_11 : decode cX12_check 11 = .ok (.idiv, 1) := by decide +kernel
theorem dX12_check_12 : decode cX12_check 12 = .ok (.if_icmp .le 6, 3) := by decide +kernel
theorem dX12_check_15 : decode cX12_check 15 = .ok (.bipush (-2), 2) := by decide +kernel
theorem dX12_check_17 : decode cX12_check 17 = .ok (.ireturn, 1) := by decide +kernel
theorem dX12_check_18 : decode cX12_check 18 = .ok (.aload_n 0, 1) := by decide +kernel
theorem dX12_check_19 : decode cX12_check 19 = .ok (.iconst 0, 1) := by decide +kernel
theorem dX12_check_20 : decode cX12_check 20 = .ok (.putfield 436, 3) := by decide +kernel
theorem dX12_check_23 : decode cX12_check 23 = .ok (.iconst 0, 1) := by decide +kernel
theorem dX12_check_24 : decode cX12_check 24 = .ok (.istore_n 2, 1) := by decide +kernel
theorem dX12_check_25 : decode cX12_check 25 = .ok (.iconst 0, 1) := by decide +kernel
theorem dX12_check_26 : decode cX12_check 26 = .ok (.istore_n 3, 1) := by decide +kernel
theorem dX12_check_27 : decode cX12_check 27 = .ok (.iload_n 3, 1) := by decide +kernel
theorem dX12_check_28 : decode cX12_check 28 = .ok (.aload_n 0, 1) := by decide +kernel
theorem dX12_check_29 : decode cX12_check 29 = .ok (.getfield 375, 3) := by decide +kernel
theorem dX12_check_32 : decode cX12_check 32 = .ok (.if_icmp .ge 69, 3) := by decide +kernel
theorem dX12_check_101 : decode cX12_check 101 = .ok (.iload_n 2, 1) := by decide +kernel
theorem dX12_check_102 : decode cX12_check 102 = .ok (.iconst 2, 1) := by decide +kernel
theorem dX12_check_103 : decode cX12_check 103 = .ok (.iload_n 1, 1) := by decide +kernel
theorem dX12_check_104 : decode cX12_check 104 = .ok (.imul, 1) := by decide +kernel
theorem dX12_check_105 : decode cX12_check 105 = .ok (.if_icmp .ge 7, 3) := by decide +kernel
theorem dX12_check_112 : decode cX12_check 112 = .ok (.iconst (-1), 1) := by decide +kernel
theorem dX12_check_113 : decode cX12_check 113 = .ok (.ireturn, 1) := by decide +kernel
theorem dX12_claim_0 : decode cX12_claim 0 = .ok (.aload_n 0, 1) := by decide +kernel
theorem dX12_claim_1 : decode cX12_claim 1 = .ok (.iload_n 1, 1) := by decide +kernel
theorem dX12_claim_2 : decode cX12_claim 2 = .ok (.invokevirtual 406, 3) := by decide +kernel
theorem dX12_claim_5 : decode cX12_claim 5 = .ok (.ifCond .eq 45, 3) := by decide +kernel
theorem dX12_claim_50 : decode cX12_claim 50 = .ok (.iconst (-1), 1) := by decide +kernel
theorem dX12_claim_51 : decode cX12_claim 51 = .ok (.ireturn, 1) := by decide +kernel
theorem dX12_count_0 : decode cX12_count 0 = .ok (.iconst 0, 1) := by decide +kernel
theorem dX12_count_1 : decode cX12_count 1 = .ok (.istore_n 2, 1) := by decide +kernel
theorem dX12_count_2 : decode cX12_count 2 = .ok (.iload_n 1, 1) := by decide +kernel
theorem dX12_count_3 : decode cX12_count 3 = .ok (.tableswitch 196 0 16 #[81, 86, 91, 96, 101, 106, 111, 116, 121, 126, 161, 166, 171, 176, 181, 186, 191], 81) := by decide +kernel
theorem dX12_count_84 : decode cX12_count 84 = .ok (.aload_n 0, 1) := by decide +kernel
theorem dX12_count_85 : decode cX12_count 85 = .ok (.getfield 396, 3) := by decide +kernel
theorem dX12_count_88 : decode cX12_count 88 = .ok (.ireturn, 1) := by decide +kernel
theorem dX12_count_89 : decode cX12_count 89 = .ok (.aload_n 0, 1) := by decide +kernel
theorem dX12_count_90 : decode cX12_count 90 = .ok (.getfield 365, 3) := by decide +kernel
theorem dX12_count_93 : decode cX12_count 93 = .ok (.ireturn, 1) := by decide +kernel
theorem dX12_count_94 : decode cX12_count 94 = .ok (.aload_n 0, 1) := by decide +kernel
theorem dX12_count_95 : decode cX12_count 95 = .ok (.getfield 368, 3) := by decide +kernel
theorem dX12_count_98 : decode cX12_count 98 = .ok (.ireturn, 1) := by decide +kernel
theorem dX12_count_99 : decode cX12_count 99 = .ok (.aload_n 0, 1) := by decide +kernel
theorem dX12_count_100 : decode cX12_count 100 = .ok (.getfield 393, 3) := by decide +kernel
theorem dX12_count_103 : decode cX12_count 103 = .ok (.ireturn, 1) := by decide +kernel
theorem dX12_count_104 : decode cX12_count 104 = .ok (.aload_n 0, 1) := by decide +kernel
theorem dX12_count_105 : decode cX12_count 105 = .ok (.getfield 375, 3) := by decide +kernel
theorem dX12_count_108 : decode cX12_count 108 = .ok (.ireturn, 1) := by decide +kernel
theorem dX12_count_109 : decode cX12_count 109 = .ok (.aload_n 0, 1) := by decide +kernel
theorem dX12_count_110 : decode cX12_count 110 = .ok (.getfield 535, 3) := by decide +kernel
theorem dX12_count_113 : decode cX12_count 113 = .ok (.ireturn, 1) := by decide +kernel
theorem dX12_count_114 : decode cX12_count 114 = .ok (.aload_n 0, 1) := by decide +kernel
theorem dX12_count_115 : decode cX12_count 115 = .ok (.getfield 547, 3) := by decide +kernel
theorem dX12_count_118 : decode cX12_count 118 = .ok (.ireturn, 1) := by decide +kernel
theorem dX12_count_119 : decode cX12_count 119 = .ok (.aload_n 0, 1) := by decide +kernel
theorem dX12_count_120 : decode cX12_count 120 = .ok (.getfield 378, 3) := by decide +kernel
theorem dX12_count_123 : decode cX12_count 123 = .ok (.ireturn, 1) := by decide +kernel
theorem dX12_count_124 : decode cX12_count 124 = .ok (.aload_n 0, 1) := by decide +kernel
theorem dX12_count_125 : decode cX12_count 125 = .ok (.getfield 612, 3) := by decide +kernel
theorem dX12_count_128 : decode cX12_count 128 = .ok (.ireturn, 1) := by decide +kernel
theorem dX12_count_129 : decode cX12_count 129 = .ok (.iconst 0, 1) := by decide +kernel
theorem dX12_count_130 : decode cX12_count 130 = .ok (.istore_n 3, 1) := by decide +kernel
theorem dX12_count_131 : decode cX12_count 131 = .ok (.iload_n 3, 1) := by decide +kernel
theorem dX12_count_132 : decode cX12_count 132 = .ok (.aload_n 0, 1) := by decide +kernel
theorem dX12_count_133 : decode cX12_count 133 = .ok (.getfield 648, 3) := by decide +kernel
theorem dX12_count_136 : decode cX12_count 136 = .ok (.if_icmp .ge 26, 3) := by decide +kernel
theorem dX12_count_162 : decode cX12_count 162 = .ok (.iload_n 2, 1) := by decide +kernel
theorem dX12_count_163 : decode cX12_count 163 = .ok (.ireturn, 1) := by decide +kernel
theorem dX12_count_164 : decode cX12_count 164 = .ok (.aload_n 0, 1) := by decide +kernel
theorem dX12_count_165 : decode cX12_count 165 = .ok (.getfield 660, 3) := by decide +kernel
theorem dX12_count_168 : decode cX12_count 168 = .ok (.ireturn, 1) := by decide +kernel
theorem dX12_count_169 : decode cX12_count 169 = .ok (.aload_n 0, 1) := by decide +kernel
theorem dX12_count_170 : decode cX12_count 170 = .ok (.getfield 667, 3) := by decide +kernel
theorem dX12_count_173 : decode cX12_count 173 = .ok (.ireturn, 1) := by decide +kernel
theorem dX12_count_174 : decode cX12_count 174 = .ok (.aload_n 0, 1) := by decide +kernel
theorem dX12_count_175 : decode cX12_count 175 = .ok (.getfield 709, 3) := by decide +kernel
theorem dX12_count_178 : decode cX12_count 178 = .ok (.ireturn, 1) := by decide +kernel
theorem dX12_count_179 : decode cX12_count 179 = .ok (.aload_n 0, 1) := by decide +kernel
theorem dX12_count_180 : decode cX12_count 180 = .ok (.getfield 718, 3) := by decide +kernel
theorem dX12_count_183 : decode cX12_count 183 = .ok (.ireturn, 1) := by decide +kernel
theorem dX12_count_184 : decode cX12_count 184 = .ok (.aload_n 0, 1) := by decide +kernel
theorem dX12_count_185 : decode cX12_count 185 = .ok (.getfield 736, 3) := by decide +kernel
theorem dX12_count_188 : decode cX12_count 188 = .ok (.ireturn, 1) := by decide +kernel
theorem dX12_count_189 : decode cX12_count 189 = .ok (.aload_n 0, 1) := by decide +kernel
theorem dX12_count_190 : decode cX12_count 190 = .ok (.getfield 761, 3) := by decide +kernel
theorem dX12_count_193 : decode cX12_count 193 = .ok (.ireturn, 1) := by decide +kernel
theorem dX12_count_194 : decode cX12_count 194 = .ok (.aload_n 0, 1) := by decide +kernel
theorem dX12_count_195 : decode cX12_count 195 = .ok (.getfield 436, 3) := by decide +kernel
theorem dX12_count_198 : decode cX12_count 198 = .ok (.ireturn, 1) := by decide +kernel
theorem dX12_count_199 : decode cX12_count 199 = .ok (.iload_n 1, 1) := by decide +kernel
theorem dX12_count_200 : decode cX12_count 200 = .ok (.bipush 20, 2) := by decide +kernel
theorem dX12_count_202 : decode cX12_count 202 = .ok (.bipush 19, 2) := by decide +kernel
theorem dX12_count_204 : decode cX12_count 204 = .ok (.aload_n 0, 1) := by decide +kernel
theorem dX12_count_205 : decode cX12_count 205 = .ok (.getfield 393, 3) := by decide +kernel
theorem dX12_count_208 : decode cX12_count 208 = .ok (.iadd, 1) := by decide +kernel
theorem dX12_count_209 : decode cX12_count 209 = .ok (.invokestatic 371, 3) := by decide +kernel
theorem dX12_count_212 : decode cX12_count 212 = .ok (.ifCond .eq 15, 3) := by decide +kernel
theorem dX12_count_227 : decode cX12_count 227 = .ok (.iconst (-1), 1) := by decide +kernel
theorem dX12_count_228 : decode cX12_count 228 = .ok (.ireturn, 1) := by decide +kernel
theorem dX12_counts_0 : decode cX12_counts 0 = .ok (.aload_n 0, 1) := by decide +kernel
theorem dX12_counts_1 : decode cX12_counts 1 = .ok (.iload_n 1, 1) := by decide +kernel
theorem dX12_counts_2 : decode cX12_counts 2 = .ok (.invokevirtual 541, 3) := by decide +kernel
theorem dX12_counts_5 : decode cX12_counts 5 = .ok (.ifCond .eq 18, 3) := by decide +kernel
theorem dX12_counts_23 : decode cX12_counts 23 = .ok (.iconst (-1), 1) := by decide +kernel
theorem dX12_counts_24 : decode cX12_counts 24 = .ok (.ireturn, 1) := by decide +kernel
theorem dX12_cover_0 : decode cX12_cover 0 = .ok (.iload_n 1, 1) := by decide +kernel
theorem dX12_cover_1 : decode cX12_cover 1 = .ok (.invokestatic 615, 3) := by decide +kernel
theorem dX12_cover_4 : decode cX12_cover 4 = .ok (.ifCond .eq 23, 3) := by decide +kernel
theorem dX12_cover_7 : decode cX12_cover 7 = .ok (.iload_n 2, 1) := by decide +kernel
theorem dX12_cover_8 : decode cX12_cover 8 = .ok (.iconst 0, 1) := by decide +kernel
theorem dX12_cover_9 : decode cX12_cover 9 = .ok (.bipush 11, 2) := by decide +kernel
theorem dX12_cover_11 : decode cX12_cover 11 = .ok (.invokestatic 371, 3) := by decide +kernel
theorem dX12_cover_14 : decode cX12_cover 14 = .ok (.ifCond .eq 13, 3) := by decide +kernel
theorem dX12_cover_17 : decode cX12_cover 17 = .ok (.iload_n 3, 1) := by decide +kernel
theorem dX12_cover_18 : decode cX12_cover 18 = .ok (.iconst 0, 1) := by decide +kernel
theorem dX12_cover_19 : decode cX12_cover 19 = .ok (.bipush 100, 2) := by decide +kernel
theorem dX12_cover_21 : decode cX12_cover 21 = .ok (.invokestatic 371, 3) := by decide +kernel
theorem dX12_cover_24 : decode cX12_cover 24 = .ok (.ifCond .ne 5, 3) := by decide +kernel
theorem dX12_cover_27 : decode cX12_cover 27 = .ok (.iconst 0, 1) := by decide +kernel
theorem dX12_cover_28 : decode cX12_cover 28 = .ok (.ireturn, 1) := by decide +kernel
theorem dX12_cover_29 : decode cX12_cover 29 = .ok (.aload_n 0, 1) := by decide +kernel
theorem dX12_cover_30 : decode cX12_cover 30 = .ok (.getfield 241, 3) := by decide +kernel
theorem dX12_cover_33 : decode cX12_cover 33 = .ok (.bipush 12, 2) := by decide +kernel
theorem dX12_cover_35 : decode cX12_cover 35 = .ok (.iload_n 1, 1) := by decide +kernel
theorem dX12_cover_36 : decode cX12_cover 36 = .ok (.imul, 1) := by decide +kernel
theorem dX12_cover_37 : decode cX12_cover 37 = .ok (.iload_n 2, 1) := by decide +kernel
theorem dX12_cover_38 : decode cX12_cover 38 = .ok (.iadd, 1) := by decide +kernel
theorem dX12_cover_39 : decode cX12_cover 39 = .ok (.iload_n 3, 1) := by decide +kernel
theorem dX12_cover_40 : decode cX12_cover 40 = .ok (.iastore, 1) := by decide +kernel
theorem dX12_cover_41 : decode cX12_cover 41 = .ok (.iconst 1, 1) := by decide +kernel
theorem dX12_cover_42 : decode cX12_cover 42 = .ok (.ireturn, 1) := by decide +kernel
theorem dX12_dark_0 : decode cX12_dark 0 = .ok (.iload_n 1, 1) := by decide +kernel
theorem dX12_dark_1 : decode cX12_dark 1 = .ok (.iconst 0, 1) := by decide +kernel
theorem dX12_dark_2 : decode cX12_dark 2 = .ok (.sipush 359, 3) := by decide +kernel
theorem dX12_dark_5 : decode cX12_dark 5 = .ok (.invokestatic 371, 3) := by decide +kernel
theorem dX12_dark_8 : decode cX12_dark 8 = .ok (.ifCond .eq 14, 3) := by decide +kernel
theorem dX12_dark_11 : decode cX12_dark 11 = .ok (.iload_n 2, 1) := by decide +kernel
theorem dX12_dark_12 : decode cX12_dark 12 = .ok (.iload_n 1, 1) := by decide +kernel
theorem dX12_dark_13 : decode cX12_dark 13 = .ok (.sipush 359, 3) := by decide +kernel
theorem dX12_dark_16 : decode cX12_dark 16 = .ok (.invokestatic 371, 3) := by decide +kernel
theorem dX12_dark_19 : decode cX12_dark 19 = .ok (.ifCond .ne 5, 3) := by decide +kernel
theorem dX12_dark_22 : decode cX12_dark 22 = .ok (.iconst 0, 1) := by decide +kernel
theorem dX12_dark_23 : decode cX12_dark 23 = .ok (.ireturn, 1) := by decide +kernel
theorem dX12_dark_24 : decode cX12_dark 24 = .ok (.aload_n 0, 1) := by decide +kernel
theorem dX12_dark_25 : decode cX12_dark 25 = .ok (.iload_n 1, 1) := by decide +kernel
theorem dX12_dark_26 : decode cX12_dark 26 = .ok (.putfield 7, 3) := by decide +kernel
theorem dX12_dark_29 : decode cX12_dark 29 = .ok (.aload_n 0, 1) := by decide +kernel
theorem dX12_dark_30 : decode cX12_dark 30 = .ok (.iload_n 2, 1) := by decide +kernel
theorem dX12_dark_31 : decode cX12_dark 31 = .ok (.putfield 13, 3) := by decide +kernel
theorem dX12_dark_34 : decode cX12_dark 34 = .ok (.iconst 1, 1) := by decide +kernel
theorem dX12_dark_35 : decode cX12_dark 35 = .ok (.ireturn, 1) := by decide +kernel
theorem dX12_day_0 : decode cX12_day 0 = .ok (.aload_n 0, 1) := by decide +kernel
theorem dX12_day_1 : decode cX12_day 1 = .ok (.getfield 396, 3) := by decide +kernel
theorem dX12_day_4 : decode cX12_day 4 = .ok (.sipush 3599, 3) := by decide +kernel
theorem dX12_day_7 : decode cX12_day 7 = .ok (.if_icmp .ne 5, 3) := by decide +kernel
theorem dX12_day_12 : decode cX12_day 12 = .ok (.aload_n 0, 1) := by decide +kernel
theorem dX12_day_13 : decode cX12_day 13 = .ok (.aload_n 0, 1) := by decide +kernel
theorem dX12_day_14 : decode cX12_day 14 = .ok (.getfield 396, 3) := by decide +kernel
theorem dX12_day_17 : decode cX12_day 17 = .ok (.iconst 1, 1) := by decide +kernel
theorem dX12_day_18 : decode cX12_day 18 = .ok (.iadd, 1) := by decide +kernel
theorem dX12_day_19 : decode cX12_day 19 = .ok (.putfield 396, 3) := by decide +kernel
theorem dX12_day_22 : decode cX12_day 22 = .ok (.aload_n 0, 1) := by decide +kernel
theorem dX12_day_23 : decode cX12_day 23 = .ok (.invokevirtual 688, 3) := by decide +kernel
theorem dX12_day_26 : decode cX12_day 26 = .ok (.iconst 0, 1) := by decide +kernel
theorem dX12_day_27 : decode cX12_day 27 = .ok (.istore_n 1, 1) := by decide +kernel
theorem dX12_day_28 : decode cX12_day 28 = .ok (.iload_n 1, 1) := by decide +kernel
theorem dX12_day_29 : decode cX12_day 29 = .ok (.aload_n 0, 1) := by decide +kernel
theorem dX12_day_30 : decode cX12_day 30 = .ok (.getfield 375, 3) := by decide +kernel
theorem dX12_day_33 : decode cX12_day 33 = .ok (.if_icmp .ge 30, 3) := by decide +kernel
theorem dX12_day_63 : decode cX12_day 63 = .ok (.iconst 0, 1) := by decide +kernel
theorem dX12_day_64 : decode cX12_day 64 = .ok (.istore_n 1, 1) := by decide +kernel
theorem dX12_day_65 : decode cX12_day 65 = .ok (.iload_n 1, 1) := by decide +kernel
theorem dX12_day_66 : decode cX12_day 66 = .ok (.aload_n 0, 1) := by decide +kernel
theorem dX12_day_67 : decode cX12_day 67 = .ok (.getfield 612, 3) := by decide +kernel
theorem dX12_day_70 : decode cX12_day 70 = .ok (.if_icmp .ge 14, 3) := by decide +kernel
theorem dX12_day_84 : decode cX12_day 84 = .ok (.iconst 0, 1) := by decide +kernel
theorem dX12_day_85 : decode cX12_day 85 = .ok (.istore_n 1, 1) := by decide +kernel
theorem dX12_day_86 : decode cX12_day 86 = .ok (.iload_n 1, 1) := by decide +kernel
theorem dX12_day_87 : decode cX12_day 87 = .ok (.aload_n 0, 1) := by decide +kernel
theorem dX12_day_88 : decode cX12_day 88 = .ok (.getfield 648, 3) := by decide +kernel
theorem dX12_day_91 : decode cX12_day 91 = .ok (.if_icmp .ge 14, 3) := by decide +kernel
theorem dX12_day_105 : decode cX12_day 105 = .ok (.aload_n 0, 1) := by decide +kernel
theorem dX12_day_106 : decode cX12_day 106 = .ok (.getfield 396, 3) := by decide +kernel
theorem dX12_day_109 : decode cX12_day 109 = .ok (.ireturn, 1) := by decide +kernel
theorem dX12_decides_0 : decode cX12_decides 0 = .ok (.aload_n 0, 1) := by decide +kernel
theorem dX12_decides_1 : decode cX12_decides 1 = .ok (.iload_n 1, 1) := by decide +kernel
theorem dX12_decides_2 : decode cX12_decides 2 = .ok (.invokevirtual 406, 3) := by decide +kernel
theorem dX12_decides_5 : decode cX12_decides 5 = .ok (.ifCond .eq 10, 3) := by decide +kernel
theorem dX12_decides_15 : decode cX12_decides 15 = .ok (.iconst (-1), 1) := by decide +kernel
theorem dX12_decides_16 : decode cX12_decides 16 = .ok (.ireturn, 1) := by decide +kernel
theorem dX12_declare_0 : decode cX12_declare 0 = .ok (.aload_n 0, 1) := by decide +kernel
theorem dX12_declare_1 : decode cX12_declare 1 = .ok (.iload_n 1, 1) := by decide +kernel
theorem dX12_declare_2 : decode cX12_declare 2 = .ok (.invokevirtual 403, 3) := by decide +kernel
theorem dX12_declare_5 : decode cX12_declare 5 = .ok (.ifCond .eq 25, 3) := by decide +kernel
theorem dX12_declare_30 : decode cX12_declare 30 = .ok (.iconst 0, 1) := by decide +kernel
theorem dX12_declare_31 : decode cX12_declare 31 = .ok (.ireturn, 1) := by decide +kernel
theorem dX12_doubt_0 : decode cX12_doubt 0 = .ok (.iload_n 1, 1) := by decide +kernel
theorem dX12_doubt_1 : decode cX12_doubt 1 = .ok (.iconst 0, 1) := by decide +kernel
theorem dX12_doubt_2 : decode cX12_doubt 2 = .ok (.iconst 1, 1) := by decide +kernel
theorem dX12_doubt_3 : decode cX12_doubt 3 = .ok (.invokestatic 371, 3) := by decide +kernel
theorem dX12_doubt_6 : decode cX12_doubt 6 = .ok (.ifCond .ne 5, 3) := by decide +kernel
theorem dX12_doubt_9 : decode cX12_doubt 9 = .ok (.iconst (-1), 1) := by decide +kernel
theorem dX12_doubt_10 : decode cX12_doubt 10 = .ok (.ireturn, 1) := by decide +kernel
theorem dX12_doubt_11 : decode cX12_doubt 11 = .ok (.iconst 0, 1) := by decide +kernel
theorem dX12_doubt_12 : decode cX12_doubt 12 = .ok (.istore_n 2, 1) := by decide +kernel
theorem dX12_doubt_13 : decode cX12_doubt 13 = .ok (.iload_n 2, 1) := by decide +kernel
theorem dX12_doubt_14 : decode cX12_doubt 14 = .ok (.aload_n 0, 1) := by decide +kernel
theorem dX12_doubt_15 : decode cX12_doubt 15 = .ok (.getfield 709, 3) := by decide +kernel
theorem dX12_doubt_18 : decode cX12_doubt 18 = .ok (.if_icmp .ge 46, 3) := by decide +kernel
theorem dX12_doubt_64 : decode cX12_doubt 64 = .ok (.iconst (-1), 1) := by decide +kernel
theorem dX12_doubt_65 : decode cX12_doubt 65 = .ok (.ireturn, 1) := by decide +kernel
theorem dX12_drill_0 : decode cX12_drill 0 = .ok (.aload_n 0, 1) := by decide +kernel
theorem dX12_drill_1 : decode cX12_drill 1 = .ok (.iload_n 1, 1) := by decide +kernel
theorem dX12_drill_2 : decode cX12_drill 2 = .ok (.iconst 4, 1) := by decide +kernel
theorem dX12_drill_3 : decode cX12_drill 3 = .ok (.invokevirtual 399, 3) := by decide +kernel
theorem dX12_drill_6 : decode cX12_drill 6 = .ok (.ifCond .eq 45, 3) := by decide +kernel
theorem dX12_drill_51 : decode cX12_drill 51 = .ok (.iconst (-1), 1) := by decide +kernel
theorem dX12_drill_52 : decode cX12_drill 52 = .ok (.ireturn, 1) := by decide +kernel
theorem dX12_feed_0 : decode cX12_feed 0 = .ok (.aload_n 0, 1) := by decide +kernel
theorem dX12_feed_1 : decode cX12_feed 1 = .ok (.getfield 436, 3) := by decide +kernel
theorem dX12_feed_4 : decode cX12_feed 4 = .ok (.bipush 20, 2) := by decide +kernel
theorem dX12_feed_6 : decode cX12_feed 6 = .ok (.iadd, 1) := by decide +kernel
theorem dX12_feed_7 : decode cX12_feed 7 = .ok (.sipush 400, 3) := by decide +kernel
theorem dX12_feed_10 : decode cX12_feed 10 = .ok (.if_icmp .le 5, 3) := by decide +kernel
theorem dX12_feed_15 : decode cX12_feed 15 = .ok (.aload_n 0, 1) := by decide +kernel
theorem dX12_feed_16 : decode cX12_feed 16 = .ok (.iload_n 1, 1) := by decide +kernel
theorem dX12_feed_17 : decode cX12_feed 17 = .ok (.invokevirtual 439, 3) := by decide +kernel
theorem dX12_feed_20 : decode cX12_feed 20 = .ok (.aload_n 0, 1) := by decide +kernel
theorem dX12_feed_21 : decode cX12_feed 21 = .ok (.iload_n 2, 1) := by decide +kernel
theorem dX12_feed_22 : decode cX12_feed 22 = .ok (.invokevirtual 439, 3) := by decide +kernel
theorem dX12_feed_25 : decode cX12_feed 25 = .ok (.aload_n 0, 1) := by decide +kernel
theorem dX12_feed_26 : decode cX12_feed 26 = .ok (.iload_n 3, 1) := by decide +kernel
theorem dX12_feed_27 : decode cX12_feed 27 = .ok (.invokevirtual 439, 3) := by decide +kernel
theorem dX12_feed_30 : decode cX12_feed 30 = .ok (.aload_n 0, 1) := by decide +kernel
theorem dX12_feed_31 : decode cX12_feed 31 = .ok (.iload 4, 2) := by decide +kernel
theorem dX12_feed_33 : decode cX12_feed 33 = .ok (.invokevirtual 439, 3) := by decide +kernel
theorem dX12_feed_36 : decode cX12_feed 36 = .ok (.aload_n 0, 1) := by decide +kernel
theorem dX12_feed_37 : decode cX12_feed 37 = .ok (.iload 5, 2) := by decide +kernel
