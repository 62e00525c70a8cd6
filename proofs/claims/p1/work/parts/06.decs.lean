theorem dX12_sea_25 : decode cX12_sea 25 = .ok (.iastore, 1) := by decide +kernel
theorem dX12_sea_26 : decode cX12_sea 26 = .ok (.iconst 1, 1) := by decide +kernel
theorem dX12_sea_27 : decode cX12_sea 27 = .ok (.ireturn, 1) := by decide +kernel
theorem dX12_seen_0 : decode cX12_seen 0 = .ok (.iload_n 1, 1) := by decide +kernel
theorem dX12_seen_1 : decode cX12_seen 1 = .ok (.ifCond .lt 11, 3) := by decide +kernel
theorem dX12_seen_4 : decode cX12_seen 4 = .ok (.iload_n 1, 1) := by decide +kernel
theorem dX12_seen_5 : decode cX12_seen 5 = .ok (.aload_n 0, 1) := by decide +kernel
theorem dX12_seen_6 : decode cX12_seen 6 = .ok (.getfield 660, 3) := by decide +kernel
theorem dX12_seen_9 : decode cX12_seen 9 = .ok (.if_icmp .lt 7, 3) := by decide +kernel
theorem dX12_seen_12 : decode cX12_seen 12 = .ok (.ldc_w 663, 3) := by decide +kernel
theorem dX12_seen_15 : decode cX12_seen 15 = .ok (.ireturn, 1) := by decide +kernel
theorem dX12_ship_0 : decode cX12_ship 0 = .ok (.aload_n 0, 1) := by decide +kernel
theorem dX12_ship_1 : decode cX12_ship 1 = .ok (.iload_n 1, 1) := by decide +kernel
theorem dX12_ship_2 : decode cX12_ship 2 = .ok (.invokevirtual 406, 3) := by decide +kernel
theorem dX12_ship_5 : decode cX12_ship 5 = .ok (.ifCond .eq 33, 3) := by decide +kernel
theorem dX12_ship_38 : decode cX12_ship 38 = .ok (.iconst (-1), 1) := by decide +kernel
theorem dX12_ship_39 : decode cX12_ship 39 = .ok (.ireturn, 1) := by decide +kernel
theorem dX12_site_0 : decode cX12_site 0 = .ok (.aload_n 0, 1) := by decide +kernel
theorem dX12_site_1 : decode cX12_site 1 = .ok (.iload_n 1, 1) := by decide +kernel
theorem dX12_site_2 : decode cX12_site 2 = .ok (.invokevirtual 381, 3) := by decide +kernel
theorem dX12_site_5 : decode cX12_site 5 = .ok (.ifCond .eq 12, 3) := by decide +kernel
theorem dX12_site_8 : decode cX12_site 8 = .ok (.aload_n 0, 1) := by decide +kernel
theorem dX12_site_9 : decode cX12_site 9 = .ok (.getfield 375, 3) := by decide +kernel
theorem dX12_site_12 : decode cX12_site 12 = .ok (.bipush 60, 2) := by decide +kernel
theorem dX12_site_14 : decode cX12_site 14 = .ok (.if_icmp .ne 5, 3) := by decide +kernel
theorem dX12_site_17 : decode cX12_site 17 = .ok (.iconst (-1), 1) := by decide +kernel
theorem dX12_site_18 : decode cX12_site 18 = .ok (.ireturn, 1) := by decide +kernel
theorem dX12_site_19 : decode cX12_site 19 = .ok (.aload_n 0, 1) := by decide +kernel
theorem dX12_site_20 : decode cX12_site 20 = .ok (.iload_n 2, 1) := by decide +kernel
theorem dX12_site_21 : decode cX12_site 21 = .ok (.ifCond .eq 7, 3) := by decide +kernel
theorem dX12_site_24 : decode cX12_site 24 = .ok (.iconst 5, 1) := by decide +kernel
theorem dX12_site_25 : decode cX12_site 25 = .ok (.goto 4, 3) := by decide +kernel
theorem dX12_site_28 : decode cX12_site 28 = .ok (.iconst 4, 1) := by decide +kernel
theorem dX12_site_29 : decode cX12_site 29 = .ok (.iconst (-1), 1) := by decide +kernel
theorem dX12_site_30 : decode cX12_site 30 = .ok (.iload_n 1, 1) := by decide +kernel
theorem dX12_site_31 : decode cX12_site 31 = .ok (.iconst (-1), 1) := by decide +kernel
theorem dX12_site_32 : decode cX12_site 32 = .ok (.iconst 0, 1) := by decide +kernel
theorem dX12_site_33 : decode cX12_site 33 = .ok (.invokevirtual 421, 3) := by decide +kernel
theorem dX12_site_36 : decode cX12_site 36 = .ok (.ireturn, 1) := by decide +kernel
theorem dX12_sledge_0 : decode cX12_sledge 0 = .ok (.aload_n 0, 1) := by decide +kernel
theorem dX12_sledge_1 : decode cX12_sledge 1 = .ok (.iload_n 1, 1) := by decide +kernel
theorem dX12_sledge_2 : decode cX12_sledge 2 = .ok (.invokevirtual 433, 3) := by decide +kernel
theorem dX12_sledge_5 : decode cX12_sledge 5 = .ok (.ifCond .eq 61, 3) := by decide +kernel
theorem dX12_sledge_66 : decode cX12_sledge 66 = .ok (.iconst (-1), 1) := by decide +kernel
theorem dX12_sledge_67 : decode cX12_sledge 67 = .ok (.ireturn, 1) := by decide +kernel
theorem dX12_sound_0 : decode cX12_sound 0 = .ok (.aload_n 0, 1) := by decide +kernel
theorem dX12_sound_1 : decode cX12_sound 1 = .ok (.iload_n 1, 1) := by decide +kernel
theorem dX12_sound_2 : decode cX12_sound 2 = .ok (.iconst 4, 1) := by decide +kernel
theorem dX12_sound_3 : decode cX12_sound 3 = .ok (.invokevirtual 399, 3) := by decide +kernel
theorem dX12_sound_6 : decode cX12_sound 6 = .ok (.ifCond .eq 36, 3) := by decide +kernel
theorem dX12_sound_42 : decode cX12_sound 42 = .ok (.iconst 0, 1) := by decide +kernel
theorem dX12_sound_43 : decode cX12_sound 43 = .ok (.ireturn, 1) := by decide +kernel
theorem dX12_speed_0 : decode cX12_speed 0 = .ok (.iload_n 1, 1) := by decide +kernel
theorem dX12_speed_1 : decode cX12_speed 1 = .ok (.iconst (-1), 1) := by decide +kernel
theorem dX12_speed_2 : decode cX12_speed 2 = .ok (.if_icmp .ne 21, 3) := by decide +kernel
theorem dX12_speed_5 : decode cX12_speed 5 = .ok (.iload_n 2, 1) := by decide +kernel
theorem dX12_speed_6 : decode cX12_speed 6 = .ok (.iconst 0, 1) := by decide +kernel
theorem dX12_speed_7 : decode cX12_speed 7 = .ok (.sipush 1000, 3) := by decide +kernel
theorem dX12_speed_10 : decode cX12_speed 10 = .ok (.invokestatic 371, 3) := by decide +kernel
theorem dX12_speed_13 : decode cX12_speed 13 = .ok (.ifCond .eq 10, 3) := by decide +kernel
theorem dX12_speed_16 : decode cX12_speed 16 = .ok (.aload_n 0, 1) := by decide +kernel
theorem dX12_speed_17 : decode cX12_speed 17 = .ok (.iload_n 2, 1) := by decide +kernel
theorem dX12_speed_18 : decode cX12_speed 18 = .ok (.putfield 280, 3) := by decide +kernel
theorem dX12_speed_21 : decode cX12_speed 21 = .ok (.iconst 1, 1) := by decide +kernel
theorem dX12_speed_22 : decode cX12_speed 22 = .ok (.ireturn, 1) := by decide +kernel
theorem dX12_speed_23 : decode cX12_speed 23 = .ok (.iload_n 1, 1) := by decide +kernel
theorem dX12_speed_24 : decode cX12_speed 24 = .ok (.iconst 0, 1) := by decide +kernel
theorem dX12_speed_25 : decode cX12_speed 25 = .ok (.bipush 9, 2) := by decide +kernel
theorem dX12_speed_27 : decode cX12_speed 27 = .ok (.invokestatic 371, 3) := by decide +kernel
theorem dX12_speed_30 : decode cX12_speed 30 = .ok (.ifCond .eq 14, 3) := by decide +kernel
theorem dX12_speed_33 : decode cX12_speed 33 = .ok (.iload_n 2, 1) := by decide +kernel
theorem dX12_speed_34 : decode cX12_speed 34 = .ok (.iconst 1, 1) := by decide +kernel
theorem dX12_speed_35 : decode cX12_speed 35 = .ok (.sipush 200, 3) := by decide +kernel
theorem dX12_speed_38 : decode cX12_speed 38 = .ok (.invokestatic 371, 3) := by decide +kernel
theorem dX12_speed_41 : decode cX12_speed 41 = .ok (.ifCond .ne 5, 3) := by decide +kernel
theorem dX12_speed_44 : decode cX12_speed 44 = .ok (.iconst 0, 1) := by decide +kernel
theorem dX12_speed_45 : decode cX12_speed 45 = .ok (.ireturn, 1) := by decide +kernel
theorem dX12_speed_46 : decode cX12_speed 46 = .ok (.aload_n 0, 1) := by decide +kernel
theorem dX12_speed_47 : decode cX12_speed 47 = .ok (.getfield 301, 3) := by decide +kernel
theorem dX12_speed_50 : decode cX12_speed 50 = .ok (.iload_n 1, 1) := by decide +kernel
theorem dX12_speed_51 : decode cX12_speed 51 = .ok (.iload_n 2, 1) := by decide +kernel
theorem dX12_speed_52 : decode cX12_speed 52 = .ok (.iastore, 1) := by decide +kernel
theorem dX12_speed_53 : decode cX12_speed 53 = .ok (.iconst 1, 1) := by decide +kernel
theorem dX12_speed_54 : decode cX12_speed 54 = .ok (.ireturn, 1) := by decide +kernel
theorem dX12_stands_0 : decode cX12_stands 0 = .ok (.aload_n 0, 1) := by decide +kernel
theorem dX12_stands_1 : decode cX12_stands 1 = .ok (.iload_n 1, 1) := by decide +kernel
theorem dX12_stands_2 : decode cX12_stands 2 = .ok (.invokevirtual 403, 3) := by decide +kernel
theorem dX12_stands_5 : decode cX12_stands 5 = .ok (.ifCond .eq 16, 3) := by decide +kernel
theorem dX12_stands_21 : decode cX12_stands 21 = .ok (.iconst 0, 1) := by decide +kernel
theorem dX12_stands_22 : decode cX12_stands 22 = .ok (.ireturn, 1) := by decide +kernel
theorem dX12_station_0 : decode cX12_station 0 = .ok (.aload_n 0, 1) := by decide +kernel
theorem dX12_station_1 : decode cX12_station 1 = .ok (.iload_n 1, 1) := by decide +kernel
theorem dX12_station_2 : decode cX12_station 2 = .ok (.invokevirtual 406, 3) := by decide +kernel
theorem dX12_station_5 : decode cX12_station 5 = .ok (.ifCond .eq 51, 3) := by decide +kernel
theorem dX12_station_56 : decode cX12_station 56 = .ok (.iconst (-1), 1) := by decide +kernel
theorem dX12_station_57 : decode cX12_station 57 = .ok (.ireturn, 1) := by decide +kernel
theorem dX12_stop_0 : decode cX12_stop 0 = .ok (.aload_n 0, 1) := by decide +kernel
theorem dX12_stop_1 : decode cX12_stop 1 = .ok (.iload_n 1, 1) := by decide +kernel
theorem dX12_stop_2 : decode cX12_stop 2 = .ok (.invokevirtual 433, 3) := by decide +kernel
theorem dX12_stop_5 : decode cX12_stop 5 = .ok (.ifCond .eq 23, 3) := by decide +kernel
theorem dX12_stop_28 : decode cX12_stop 28 = .ok (.iconst (-1), 1) := by decide +kernel
theorem dX12_stop_29 : decode cX12_stop 29 = .ok (.ireturn, 1) := by decide +kernel
theorem dX12_study_0 : decode cX12_study 0 = .ok (.aload_n 0, 1) := by decide +kernel
theorem dX12_study_1 : decode cX12_study 1 = .ok (.iload_n 1, 1) := by decide +kernel
theorem dX12_study_2 : decode cX12_study 2 = .ok (.invokevirtual 566, 3) := by decide +kernel
theorem dX12_study_5 : decode cX12_study 5 = .ok (.ifCond .eq 24, 3) := by decide +kernel
theorem dX12_study_29 : decode cX12_study 29 = .ok (.iconst 0, 1) := by decide +kernel
theorem dX12_study_30 : decode cX12_study 30 = .ok (.ireturn, 1) := by decide +kernel
theorem dX12_sum_0 : decode cX12_sum 0 = .ok (.iload_n 1, 1) := by decide +kernel
theorem dX12_sum_1 : decode cX12_sum 1 = .ok (.tableswitch 87 0 7 #[47, 52, 57, 62, 67, 72, 77, 82], 47) := by decide +kernel
theorem dX12_sum_48 : decode cX12_sum 48 = .ok (.aload_n 0, 1) := by decide +kernel
theorem dX12_sum_49 : decode cX12_sum 49 = .ok (.getfield 429, 3) := by decide +kernel
theorem dX12_sum_52 : decode cX12_sum 52 = .ok (.lreturn, 1) := by decide +kernel
theorem dX12_sum_53 : decode cX12_sum 53 = .ok (.aload_n 0, 1) := by decide +kernel
theorem dX12_sum_54 : decode cX12_sum 54 = .ok (.getfield 654, 3) := by decide +kernel
theorem dX12_sum_57 : decode cX12_sum 57 = .ok (.lreturn, 1) := by decide +kernel
theorem dX12_sum_58 : decode cX12_sum 58 = .ok (.aload_n 0, 1) := by decide +kernel
theorem dX12_sum_59 : decode cX12_sum 59 = .ok (.getfield 657, 3) := by decide +kernel
theorem dX12_sum_62 : decode cX12_sum 62 = .ok (.lreturn, 1) := by decide +kernel
theorem dX12_sum_63 : decode cX12_sum 63 = .ok (.aload_n 0, 1) := by decide +kernel
theorem dX12_sum_64 : decode cX12_sum 64 = .ok (.getfield 632, 3) := by decide +kernel
theorem dX12_sum_67 : decode cX12_sum 67 = .ok (.lreturn, 1) := by decide +kernel
theorem dX12_sum_68 : decode cX12_sum 68 = .ok (.aload_n 0, 1) := by decide +kernel
theorem dX12_sum_69 : decode cX12_sum 69 = .ok (.getfield 679, 3) := by decide +kernel
theorem dX12_sum_72 : decode cX12_sum 72 = .ok (.lreturn, 1) := by decide +kernel
theorem dX12_sum_73 : decode cX12_sum 73 = .ok (.aload_n 0, 1) := by decide +kernel
theorem dX12_sum_74 : decode cX12_sum 74 = .ok (.getfield 682, 3) := by decide +kernel
theorem dX12_sum_77 : decode cX12_sum 77 = .ok (.lreturn, 1) := by decide +kernel
theorem dX12_sum_78 : decode cX12_sum 78 = .ok (.aload_n 0, 1) := by decide +kernel
theorem dX12_sum_79 : decode cX12_sum 79 = .ok (.getfield 635, 3) := by decide +kernel
theorem dX12_sum_82 : decode cX12_sum 82 = .ok (.lreturn, 1) := by decide +kernel
theorem dX12_sum_83 : decode cX12_sum 83 = .ok (.aload_n 0, 1) := by decide +kernel
theorem dX12_sum_84 : decode cX12_sum 84 = .ok (.getfield 673, 3) := by decide +kernel
theorem dX12_sum_87 : decode cX12_sum 87 = .ok (.lreturn, 1) := by decide +kernel
theorem dX12_sum_88 : decode cX12_sum 88 = .ok (.iload_n 1, 1) := by decide +kernel
theorem dX12_sum_89 : decode cX12_sum 89 = .ok (.bipush 10, 2) := by decide +kernel
theorem dX12_sum_91 : decode cX12_sum 91 = .ok (.bipush 9, 2) := by decide +kernel
theorem dX12_sum_93 : decode cX12_sum 93 = .ok (.aload_n 0, 1) := by decide +kernel
theorem dX12_sum_94 : decode cX12_sum 94 = .ok (.getfield 393, 3) := by decide +kernel
theorem dX12_sum_97 : decode cX12_sum 97 = .ok (.iadd, 1) := by decide +kernel
theorem dX12_sum_98 : decode cX12_sum 98 = .ok (.invokestatic 371, 3) := by decide +kernel
theorem dX12_sum_101 : decode cX12_sum 101 = .ok (.ifCond .eq 14, 3) := by decide +kernel
theorem dX12_sum_115 : decode cX12_sum 115 = .ok (.iload_n 1, 1) := by decide +kernel
theorem dX12_sum_116 : decode cX12_sum 116 = .ok (.bipush 20, 2) := by decide +kernel
theorem dX12_sum_118 : decode cX12_sum 118 = .ok (.bipush 19, 2) := by decide +kernel
theorem dX12_sum_120 : decode cX12_sum 120 = .ok (.aload_n 0, 1) := by decide +kernel
theorem dX12_sum_121 : decode cX12_sum 121 = .ok (.getfield 667, 3) := by decide +kernel
theorem dX12_sum_124 : decode cX12_sum 124 = .ok (.iadd, 1) := by decide +kernel
theorem dX12_sum_125 : decode cX12_sum 125 = .ok (.invokestatic 371, 3) := by decide +kernel
theorem dX12_sum_128 : decode cX12_sum 128 = .ok (.ifCond .eq 16, 3) := by decide +kernel
theorem dX12_sum_144 : decode cX12_sum 144 = .ok (.ldc2_w 771, 3) := by decide +kernel
theorem dX12_sum_147 : decode cX12_sum 147 = .ok (.lreturn, 1) := by decide +kernel
theorem dX12_sure_0 : decode cX12_sure 0 = .ok (.aload_n 0, 1) := by decide +kernel
theorem dX12_sure_1 : decode cX12_sure 1 = .ok (.iload_n 1, 1) := by decide +kernel
theorem dX12_sure_2 : decode cX12_sure 2 = .ok (.iconst 4, 1) := by decide +kernel
theorem dX12_sure_3 : decode cX12_sure 3 = .ok (.invokevirtual 399, 3) := by decide +kernel
theorem dX12_sure_6 : decode cX12_sure 6 = .ok (.ifCond .eq 11, 3) := by decide +kernel
theorem dX12_sure_17 : decode cX12_sure 17 = .ok (.iconst (-1), 1) := by decide +kernel
theorem dX12_sure_18 : decode cX12_sure 18 = .ok (.ireturn, 1) := by decide +kernel
theorem dX12_tell_0 : decode cX12_tell 0 = .ok (.aload_n 0, 1) := by decide +kernel
theorem dX12_tell_1 : decode cX12_tell 1 = .ok (.iload_n 1, 1) := by decide +kernel
theorem dX12_tell_2 : decode cX12_tell 2 = .ok (.invokevirtual 566, 3) := by decide +kernel
theorem dX12_tell_5 : decode cX12_tell 5 = .ok (.ifCond .eq 35, 3) := by decide +kernel
theorem dX12_tell_40 : decode cX12_tell 40 = .ok (.iconst 0, 1) := by decide +kernel
theorem dX12_tell_41 : decode cX12_tell 41 = .ok (.ireturn, 1) := by decide +kernel
theorem dX12_text_0 : decode cX12_text 0 = .ok (.iload_n 1, 1) := by decide +kernel
theorem dX12_text_1 : decode cX12_text 1 = .ok (.invokestatic 409, 3) := by decide +kernel
theorem dX12_text_4 : decode cX12_text 4 = .ok (.ifCond .eq 42, 3) := by decide +kernel
theorem dX12_text_7 : decode cX12_text 7 = .ok (.iload_n 2, 1) := by decide +kernel
theorem dX12_text_8 : decode cX12_text 8 = .ok (.iload_n 1, 1) := by decide +kernel
theorem dX12_text_9 : decode cX12_text 9 = .ok (.sipush 3599, 3) := by decide +kernel
theorem dX12_text_12 : decode cX12_text 12 = .ok (.invokestatic 371, 3) := by decide +kernel
theorem dX12_text_15 : decode cX12_text 15 = .ok (.ifCond .eq 31, 3) := by decide +kernel
theorem dX12_text_18 : decode cX12_text 18 = .ok (.iload_n 3, 1) := by decide +kernel
theorem dX12_text_19 : decode cX12_text 19 = .ok (.iconst 1, 1) := by decide +kernel
theorem dX12_text_20 : decode cX12_text 20 = .ok (.sipush 200, 3) := by decide +kernel
theorem dX12_text_23 : decode cX12_text 23 = .ok (.invokestatic 371, 3) := by decide +kernel
theorem dX12_text_26 : decode cX12_text 26 = .ok (.ifCond .eq 20, 3) := by decide +kernel
theorem dX12_text_29 : decode cX12_text 29 = .ok (.iload_n 3, 1) := by decide +kernel
theorem dX12_text_30 : decode cX12_text 30 = .ok (.aload_n 0, 1) := by decide +kernel
theorem dX12_text_31 : decode cX12_text 31 = .ok (.getfield 436, 3) := by decide +kernel
theorem dX12_text_34 : decode cX12_text 34 = .ok (.if_icmp .gt 12, 3) := by decide +kernel
theorem dX12_text_46 : decode cX12_text 46 = .ok (.iconst (-1), 1) := by decide +kernel
theorem dX12_text_47 : decode cX12_text 47 = .ok (.ireturn, 1) := by decide +kernel
theorem dX12_title_0 : decode cX12_title 0 = .ok (.aload_n 0, 1) := by decide +kernel
theorem dX12_title_1 : decode cX12_title 1 = .ok (.iload_n 1, 1) := by decide +kernel
theorem dX12_title_2 : decode cX12_title 2 = .ok (.iconst 0, 1) := by decide +kernel
theorem dX12_title_3 : decode cX12_title 3 = .ok (.invokevirtual 399, 3) := by decide +kernel
theorem dX12_title_6 : decode cX12_title 6 = .ok (.ifCond .eq 41, 3) := by decide +kernel
theorem dX12_title_47 : decode cX12_title 47 = .ok (.iconst 0, 1) := by decide +kernel
theorem dX12_title_48 : decode cX12_title 48 = .ok (.ireturn, 1) := by decide +kernel
theorem dX12_types_0 : decode cX12_types 0 = .ok (.iconst 3, 1) := by decide +kernel
theorem dX12_types_1 : decode cX12_types 1 = .ok (.istore_n 2, 1) := by decide +kernel
theorem dX12_types_2 : decode cX12_types 2 = .ok (.iload_n 2, 1) := by decide +kernel
theorem dX12_types_3 : decode cX12_types 3 = .ok (.ifCond .lt 35, 3) := by decide +kernel
theorem dX12_types_6 : decode cX12_types 6 = .ok (.aload_n 0, 1) := by decide +kernel
theorem dX12_types_7 : decode cX12_types 7 = .ok (.getfield 84, 3) := by decide +kernel
theorem dX12_types_10 : decode cX12_types 10 = .ok (.aload_n 0, 1) := by decide +kernel
theorem dX12_types_11 : decode cX12_types 11 = .ok (.getfield 436, 3) := by decide +kernel
theorem dX12_types_14 : decode cX12_types 14 = .ok (.iload_n 1, 1) := by decide +kernel
theorem dX12_types_15 : decode cX12_types 15 = .ok (.bipush 8, 2) := by decide +kernel
theorem dX12_types_17 : decode cX12_types 17 = .ok (.iload_n 2, 1) := by decide +kernel
theorem dX12_types_18 : decode cX12_types 18 = .ok (.imul, 1) := by decide +kernel
theorem dX12_types_19 : decode cX12_types 19 = .ok (.ishr, 1) := by decide +kernel
theorem dX12_types_20 : decode cX12_types 20 = .ok (.i2b, 1) := by decide +kernel
theorem dX12_types_21 : decode cX12_types 21 = .ok (.bastore, 1) := by decide +kernel
theorem dX12_types_22 : decode cX12_types 22 = .ok (.aload_n 0, 1) := by decide +kernel
theorem dX12_types_23 : decode cX12_types 23 = .ok (.aload_n 0, 1) := by decide +kernel
theorem dX12_types_24 : decode cX12_types 24 = .ok (.getfield 436, 3) := by decide +kernel
theorem dX12_types_27 : decode cX12_types 27 = .ok (.iconst 1, 1) := by decide +kernel
theorem dX12_types_28 : decode cX12_types 28 = .ok (.iadd, 1) := by decide +kernel
theorem dX12_types_29 : decode cX12_types 29 = .ok (.putfield 436, 3) := by decide +kernel
theorem dX12_types_32 : decode cX12_types 32 = .ok (.iinc 2 (-1), 3) := by decide +kernel
theorem dX12_types_35 : decode cX12_types 35 = .ok (.goto (-33), 3) := by decide +kernel
theorem dX12_types_38 : decode cX12_types 38 = .ok (.return_, 1) := by decide +kernel
theorem dX12_visit_0 : decode cX12_visit 0 = .ok (.aload_n 0, 1) := by decide +kernel
theorem dX12_visit_1 : decode cX12_visit 1 = .ok (.iload_n 1, 1) := by decide +kernel
theorem dX12_visit_2 : decode cX12_visit 2 = .ok (.invokevirtual 406, 3) := by decide +kernel
theorem dX12_visit_5 : decode cX12_visit 5 = .ok (.ifCond .eq 42, 3) := by decide +kernel
theorem dX12_visit_47 : decode cX12_visit 47 = .ok (.iconst (-1), 1) := by decide +kernel
theorem dX12_visit_48 : decode cX12_visit 48 = .ok (.ireturn, 1) := by decide +kernel
theorem dX12_voyage_0 : decode cX12_voyage 0 = .ok (.aload_n 0, 1) := by decide +kernel
theorem dX12_voyage_1 : decode cX12_voyage 1 = .ok (.iload_n 1, 1) := by decide +kernel
theorem dX12_voyage_2 : decode cX12_voyage 2 = .ok (.invokevirtual 618, 3) := by decide +kernel
theorem dX12_voyage_5 : decode cX12_voyage 5 = .ok (.ifCond .eq 55, 3) := by decide +kernel
theorem dX12_voyage_60 : decode cX12_voyage 60 = .ok (.iconst 0, 1) := by decide +kernel
theorem dX12_voyage_61 : decode cX12_voyage 61 = .ok (.ireturn, 1) := by decide +kernel
theorem dX12_whose_0 : decode cX12_whose 0 = .ok (.aload_n 0, 1) := by decide +kernel
theorem dX12_whose_1 : decode cX12_whose 1 = .ok (.iload_n 1, 1) := by decide +kernel
theorem dX12_whose_2 : decode cX12_whose 2 = .ok (.invokevirtual 406, 3) := by decide +kernel
theorem dX12_whose_5 : decode cX12_whose 5 = .ok (.ifCond .eq 11, 3) := by decide +kernel
theorem dX12_whose_16 : decode cX12_whose 16 = .ok (.iconst (-1), 1) := by decide +kernel
theorem dX12_whose_17 : decode cX12_whose 17 = .ok (.ireturn, 1) := by decide +kernel
theorem dX12_why_0 : decode cX12_why 0 = .ok (.aload_n 0, 1) := by decide +kernel
theorem dX12_why_1 : decode cX12_why 1 = .ok (.iload_n 1, 1) := by decide +kernel
theorem dX12_why_2 : decode cX12_why 2 = .ok (.invokevirtual 566, 3) := by decide +kernel
theorem dX12_why_5 : decode cX12_why 5 = .ok (.ifCond .eq 30, 3) := by decide +kernel
theorem dX12_why_35 : decode cX12_why 35 = .ok (.iconst (-1), 1) := by decide +kernel
theorem dX12_why_36 : decode cX12_why 36 = .ok (.ireturn, 1) := by decide +kernel
theorem dX12_word_0 : decode cX12_word 0 = .ok (.iload_n 1, 1) := by decide +kernel
theorem dX12_word_1 : decode cX12_word 1 = .ok (.iconst 0, 1) := by decide +kernel
theorem dX12_word_2 : decode cX12_word 2 = .ok (.sipush 1000, 3) := by decide +kernel
theorem dX12_word_5 : decode cX12_word 5 = .ok (.invokestatic 371, 3) := by decide +kernel
theorem dX12_word_8 : decode cX12_word 8 = .ok (.ifCond .eq 12, 3) := by decide +kernel
theorem dX12_word_11 : decode cX12_word 11 = .ok (.aload_n 0, 1) := by decide +kernel
theorem dX12_word_12 : decode cX12_word 12 = .ok (.getfield 718, 3) := by decide +kernel
theorem dX12_word_15 : decode cX12_word 15 = .ok (.bipush 7, 2) := by decide +kernel
theorem dX12_word_17 : decode cX12_word 17 = .ok (.if_icmp .ne 5, 3) := by decide +kernel
theorem dX12_word_20 : decode cX12_word 20 = .ok (.iconst (-1), 1) := by decide +kernel
theorem dX12_word_21 : decode cX12_word 21 = .ok (.ireturn, 1) := by decide +kernel
theorem dX12_word_22 : decode cX12_word 22 = .ok (.aload_n 0, 1) := by decide +kernel
theorem dX12_word_23 : decode cX12_word 23 = .ok (.getfield 319, 3) := by decide +kernel
theorem dX12_word_26 : decode cX12_word 26 = .ok (.aload_n 0, 1) := by decide +kernel
theorem dX12_word_27 : decode cX12_word 27 = .ok (.getfield 718, 3) := by decide +kernel
theorem dX12_word_30 : decode cX12_word 30 = .ok (.iload_n 1, 1) := by decide +kernel
theorem dX12_word_31 : decode cX12_word 31 = .ok (.iastore, 1) := by decide +kernel
theorem dX12_word_32 : decode cX12_word 32 = .ok (.aload_n 0, 1) := by decide +kernel
theorem dX12_word_33 : decode cX12_word 33 = .ok (.aload_n 0, 1) := by decide +kernel
theorem dX12_word_34 : decode cX12_word 34 = .ok (.getfield 718, 3) := by decide +kernel
theorem dX12_word_37 : decode cX12_word 37 = .ok (.iconst 1, 1) := by decide +kernel
theorem dX12_word_38 : decode cX12_word 38 = .ok (.iadd, 1) := by decide +kernel
theorem dX12_word_39 : decode cX12_word 39 = .ok (.putfield 718, 3) := by decide +kernel
theorem dX12_word_42 : decode cX12_word 42 = .ok (.aload_n 0, 1) := by decide +kernel
theorem dX12_word_43 : decode cX12_word 43 = .ok (.getfield 718, 3) := by decide +kernel
theorem dX12_word_46 : decode cX12_word 46 = .ok (.iconst 1, 1) := by decide +kernel
theorem dX12_word_47 : decode cX12_word 47 = .ok (.isub, 1) := by decide +kernel
theorem dX12_word_48 : decode cX12_word 48 = .ok (.ireturn, 1) := by decide +kernel
theorem dX12_work_0 : decode cX12_work 0 = .ok (.iload_n 1, 1) := by decide +kernel
theorem dX12_work_1 : decode cX12_work 1 = .ok (.iconst 0, 1) := by decide +kernel
theorem dX12_work_2 : decode cX12_work 2 = .ok (.bipush 9, 2) := by decide +kernel
theorem dX12_work_4 : decode cX12_work 4 = .ok (.invokestatic 371, 3) := by decide +kernel
theorem dX12_work_7 : decode cX12_work 7 = .ok (.ifCond .eq 79, 3) := by decide +kernel
theorem dX12_work_10 : decode cX12_work 10 = .ok (.aload_n 0, 1) := by decide +kernel
theorem dX12_work_11 : decode cX12_work 11 = .ok (.iload_n 2, 1) := by decide +kernel
theorem dX12_work_12 : decode cX12_work 12 = .ok (.invokevirtual 406, 3) := by decide +kernel
theorem dX12_work_15 : decode cX12_work 15 = .ok (.ifCond .eq 71, 3) := by decide +kernel
theorem dX12_work_86 : decode cX12_work 86 = .ok (.iconst (-1), 1) := by decide +kernel
theorem dX12_work_87 : decode cX12_work 87 = .ok (.ireturn, 1) := by decide +kernel
theorem dX12_worksGo_0 : decode cX12_worksGo 0 = .ok (.iconst 0, 1) := by decide +kernel
theorem dX12_worksGo_1 : decode cX12_worksGo 1 = .ok (.istore_n 1, 1) := by decide +kernel
theorem dX12_worksGo_2 : decode cX12_worksGo 2 = .ok (.iload_n 1, 1) := by decide +kernel
theorem dX12_worksGo_3 : decode cX12_worksGo 3 = .ok (.aload_n 0, 1) := by decide +kernel
theorem dX12_worksGo_4 : decode cX12_worksGo 4 = .ok (.getfield 378, 3) := by decide +kernel
theorem dX12_worksGo_7 : decode cX12_worksGo 7 = .ok (.if_icmp .ge 151, 3) := by decide +kernel
theorem dX12_worksGo_158 : decode cX12_worksGo 158 = .ok (.iconst 0, 1) := by decide +kernel
theorem dX12_worksGo_159 : decode cX12_worksGo 159 = .ok (.istore_n 1, 1) := by decide +kernel
theorem dX12_worksGo_160 : decode cX12_worksGo 160 = .ok (.iload_n 1, 1) := by decide +kernel
theorem dX12_worksGo_161 : decode cX12_worksGo 161 = .ok (.aload_n 0, 1) := by decide +kernel
theorem dX12_worksGo_162 : decode cX12_worksGo 162 = .ok (.getfield 393, 3) := by decide +kernel
theorem dX12_worksGo_165 : decode cX12_worksGo 165 = .ok (.if_icmp .ge 60, 3) := by decide +kernel
theorem dX12_worksGo_225 : decode cX12_worksGo 225 = .ok (.return_, 1) := by decide +kernel
theorem dX12_worthOf_0 : decode cX12_worthOf 0 = .ok (.iconst 0, 1) := by decide +kernel
theorem dX12_worthOf_1 : decode cX12_worthOf 1 = .ok (.istore_n 2, 1) := by decide +kernel
theorem dX12_worthOf_2 : decode cX12_worthOf 2 = .ok (.iconst 0, 1) := by decide +kernel
theorem dX12_worthOf_3 : decode cX12_worthOf 3 = .ok (.istore_n 3, 1) := by decide +kernel
theorem dX12_worthOf_4 : decode cX12_worthOf 4 = .ok (.iload_n 3, 1) := by decide +kernel
theorem dX12_worthOf_5 : decode cX12_worthOf 5 = .ok (.aload_n 0, 1) := by decide +kernel
theorem dX12_worthOf_6 : decode cX12_worthOf 6 = .ok (.getfield 718, 3) := by decide +kernel
theorem dX12_worthOf_9 : decode cX12_worthOf 9 = .ok (.if_icmp .ge 31, 3) := by decide +kernel
theorem dX12_worthOf_40 : decode cX12_worthOf 40 = .ok (.iload_n 2, 1) := by decide +kernel
theorem dX12_worthOf_41 : decode cX12_worthOf 41 = .ok (.ireturn, 1) := by decide +kernel
theorem dX12_yes_0 : decode cX12_yes 0 = .ok (.aload_n 0, 1) := by decide +kernel
theorem dX12_yes_1 : decode cX12_yes 1 = .ok (.iload_n 1, 1) := by decide +kernel
theorem dX12_yes_2 : decode cX12_yes 2 = .ok (.invokevirtual 406, 3) := by decide +kernel
theorem dX12_yes_5 : decode cX12_yes 5 = .ok (.ifCond .eq 30, 3) := by decide +kernel
theorem dX12_yes_35 : decode cX12_yes 35 = .ok (.iconst 0, 1) := by decide +kernel
theorem dX12_yes_36 : decode cX12_yes 36 = .ok (.ireturn, 1) := by decide +kernel
theorem dX1_init_0 : decode cX1_init 0 = .ok (.aload_n 0, 1) := by decide +kernel
theorem dX1_init_1 : decode cX1_init 1 = .ok (.invokespecial 3, 3) := by decide +kernel
theorem dX1_init_4 : decode cX1_init 4 = .ok (.aload_n 0, 1) := by decide +kernel
theorem dX1_init_5 : decode cX1_init 5 = .ok (.bipush 20, 2) := by decide +kernel
theorem dX1_init_7 : decode cX1_init 7 = .ok (.anewarray 9, 3) := by decide +kernel
theorem dX1_init_10 : decode cX1_init 10 = .ok (.putfield 11, 3) := by decide +kernel
theorem dX1_init_13 : decode cX1_init 13 = .ok (.aload_n 0, 1) := by decide +kernel
theorem dX1_init_14 : decode cX1_init 14 = .ok (.iconst 0, 1) := by decide +kernel
theorem dX1_init_15 : decode cX1_init 15 = .ok (.putfield 17, 3) := by decide +kernel
theorem dX1_init_18 : decode cX1_init 18 = .ok (.aload_n 0, 1) := by decide +kernel
theorem dX1_init_19 : decode cX1_init 19 = .ok (.new 21, 3) := by decide +kernel
theorem dX1_init_22 : decode cX1_init 22 = .ok (.dup, 1) := by decide +kernel
theorem dX1_init_23 : decode cX1_init 23 = .ok (.iconst 3, 1) := by decide +kernel
theorem dX1_init_24 : decode cX1_init 24 = .ok (.bipush 20, 2) := by decide +kernel
theorem dX1_init_26 : decode cX1_init 26 = .ok (.invokespecial 23, 3) := by decide +kernel
theorem dX1_init_29 : decode cX1_init 29 = .ok (.putfield 26, 3) := by decide +kernel
theorem dX1_init_32 : decode cX1_init 32 = .ok (.aload_n 0, 1) := by decide +kernel
theorem dX1_init_33 : decode cX1_init 33 = .ok (.bipush 20, 2) := by decide +kernel
theorem dX1_init_35 : decode cX1_init 35 = .ok (.anewarray 9, 3) := by decide +kernel
theorem dX1_init_38 : decode cX1_init 38 = .ok (.putfield 30, 3) := by decide +kernel
theorem dX1_init_41 : decode cX1_init 41 = .ok (.aload_n 0, 1) := by decide +kernel
theorem dX1_init_42 : decode cX1_init 42 = .ok (.bipush 20, 2) := by decide +kernel
theorem dX1_init_44 : decode cX1_init 44 = .ok (.newarray .int, 2) := by decide +kernel
theorem dX1_init_46 : decode cX1_init 46 = .ok (.putfield 33, 3) := by decide +kernel
theorem dX1_init_49 : decode cX1_init 49 = .ok (.aload_n 0, 1) := by decide +kernel
theorem dX1_init_50 : decode cX1_init 50 = .ok (.bipush 20, 2) := by decide +kernel
theorem dX1_init_52 : decode cX1_init 52 = .ok (.newarray .int, 2) := by decide +kernel
theorem dX1_init_54 : decode cX1_init 54 = .ok (.putfield 37, 3) := by decide +kernel
theorem dX1_init_57 : decode cX1_init 57 = .ok (.aload_n 0, 1) := by decide +kernel
theorem dX1_init_58 : decode cX1_init 58 = .ok (.iconst (-1), 1) := by decide +kernel
theorem dX1_init_59 : decode cX1_init 59 = .ok (.putfield 40, 3) := by decide +kernel
theorem dX1_init_62 : decode cX1_init 62 = .ok (.aload_n 0, 1) := by decide +kernel
theorem dX1_init_63 : decode cX1_init 63 = .ok (.iconst (-1), 1) := by decide +kernel
theorem dX1_init_64 : decode cX1_init 64 = .ok (.putfield 43, 3) := by decide +kernel
theorem dX1_init_67 : decode cX1_init 67 = .ok (.aload_n 0, 1) := by decide +kernel
theorem dX1_init_68 : decode cX1_init 68 = .ok (.bipush 14, 2) := by decide +kernel
theorem dX1_init_70 : decode cX1_init 70 = .ok (.newarray .int, 2) := by decide +kernel
theorem dX1_init_72 : decode cX1_init 72 = .ok (.putfield 46, 3) := by decide +kernel
theorem dX1_init_75 : decode cX1_init 75 = .ok (.aload_n 0, 1) := by decide +kernel
theorem dX1_init_76 : decode cX1_init 76 = .ok (.bipush 32, 2) := by decide +kernel
theorem dX1_init_78 : decode cX1_init 78 = .ok (.newarray .int, 2) := by decide +kernel
theorem dX1_init_80 : decode cX1_init 80 = .ok (.putfield 49, 3) := by decide +kernel
theorem dX1_init_83 : decode cX1_init 83 = .ok (.aload_n 0, 1) := by decide +kernel
theorem dX1_init_84 : decode cX1_init 84 = .ok (.iconst 0, 1) := by decide +kernel
theorem dX1_init_85 : decode cX1_init 85 = .ok (.putfield 52, 3) := by decide +kernel
theorem dX1_init_88 : decode cX1_init 88 = .ok (.aload_n 0, 1) := by decide +kernel
theorem dX1_init_89 : decode cX1_init 89 = .ok (.iconst (-1), 1) := by decide +kernel
theorem dX1_init_90 : decode cX1_init 90 = .ok (.putfield 55, 3) := by decide +kernel
theorem dX1_init_93 : decode cX1_init 93 = .ok (.aload_n 0, 1) := by decide +kernel
theorem dX1_init_94 : decode cX1_init 94 = .ok (.iconst (-1), 1) := by decide +kernel
theorem dX1_init_95 : decode cX1_init 95 = .ok (.putfield 58, 3) := by decide +kernel
theorem dX1_init_98 : decode cX1_init 98 = .ok (.return_, 1) := by decide +kernel
theorem dX1_textOf_0 : decode cX1_textOf 0 = .ok (.iload_n 1, 1) := by decide +kernel
theorem dX1_textOf_1 : decode cX1_textOf 1 = .ok (.ifCond .lt 29, 3) := by decide +kernel
theorem dX1_textOf_4 : decode cX1_textOf 4 = .ok (.iload_n 1, 1) := by decide +kernel
theorem dX1_textOf_5 : decode cX1_textOf 5 = .ok (.aload_n 0, 1) := by decide +kernel
theorem dX1_textOf_6 : decode cX1_textOf 6 = .ok (.getfield 17, 3) := by decide +kernel
theorem dX1_textOf_9 : decode cX1_textOf 9 = .ok (.if_icmp .ge 21, 3) := by decide +kernel
theorem dX1_textOf_30 : decode cX1_textOf 30 = .ok (.aconst_null, 1) := by decide +kernel
theorem dX1_textOf_31 : decode cX1_textOf 31 = .ok (.areturn, 1) := by decide +kernel
theorem dX2_init_0 : decode cX2_init 0 = .ok (.aload_n 0, 1) := by decide +kernel
theorem dX2_init_1 : decode cX2_init 1 = .ok (.invokespecial 3, 3) := by decide +kernel
theorem dX2_init_4 : decode cX2_init 4 = .ok (.aload_n 0, 1) := by decide +kernel
theorem dX2_init_5 : decode cX2_init 5 = .ok (.iconst 0, 1) := by decide +kernel
theorem dX2_init_6 : decode cX2_init 6 = .ok (.putfield 9, 3) := by decide +kernel
theorem dX2_init_9 : decode cX2_init 9 = .ok (.aload_n 0, 1) := by decide +kernel
theorem dX2_init_10 : decode cX2_init 10 = .ok (.iconst 0, 1) := by decide +kernel
theorem dX2_init_11 : decode cX2_init 11 = .ok (.putfield 15, 3) := by decide +kernel
theorem dX2_init_14 : decode cX2_init 14 = .ok (.aload_n 0, 1) := by decide +kernel
theorem dX2_init_15 : decode cX2_init 15 = .ok (.bipush 20, 2) := by decide +kernel
theorem dX2_init_17 : decode cX2_init 17 = .ok (.newarray .int, 2) := by decide +kernel
theorem dX2_init_19 : decode cX2_init 19 = .ok (.putfield 18, 3) := by decide +kernel
theorem dX2_init_22 : decode cX2_init 22 = .ok (.aload_n 0, 1) := by decide +kernel
theorem dX2_init_23 : decode cX2_init 23 = .ok (.bipush 7, 2) := by decide +kernel
theorem dX2_init_25 : decode cX2_init 25 = .ok (.newarray .int, 2) := by decide +kernel
theorem dX2_init_27 : decode cX2_init 27 = .ok (.putfield 22, 3) := by decide +kernel
theorem dX2_init_30 : decode cX2_init 30 = .ok (.aload_n 0, 1) := by decide +kernel
theorem dX2_init_31 : decode cX2_init 31 = .ok (.iload_n 1, 1) := by decide +kernel
theorem dX2_init_32 : decode cX2_init 32 = .ok (.putfield 25, 3) := by decide +kernel
theorem dX2_init_35 : decode cX2_init 35 = .ok (.aload_n 0, 1) := by decide +kernel
theorem dX2_init_36 : decode cX2_init 36 = .ok (.getfield 18, 3) := by decide +kernel
theorem dX2_init_39 : decode cX2_init 39 = .ok (.iconst (-1), 1) := by decide +kernel
theorem dX2_init_40 : decode cX2_init 40 = .ok (.invokestatic 28, 3) := by decide +kernel
theorem dX2_init_43 : decode cX2_init 43 = .ok (.return_, 1) := by decide +kernel
theorem dX3_init_0 : decode cX3_init 0 = .ok (.aload_n 0, 1) := by decide +kernel
theorem dX3_init_1 : decode cX3_init 1 = .ok (.invokespecial 3, 3) := by decide +kernel
theorem dX3_init_4 : decode cX3_init 4 = .ok (.aload_n 0, 1) := by decide +kernel
theorem dX3_init_5 : decode cX3_init 5 = .ok (.iconst 0, 1) := by decide +kernel
theorem dX3_init_6 : decode cX3_init 6 = .ok (.putfield 9, 3) := by decide +kernel
theorem dX3_init_9 : decode cX3_init 9 = .ok (.aload_n 0, 1) := by decide +kernel
theorem dX3_init_10 : decode cX3_init 10 = .ok (.iconst 0, 1) := by decide +kernel
theorem dX3_init_11 : decode cX3_init 11 = .ok (.putfield 15, 3) := by decide +kernel
theorem dX3_init_14 : decode cX3_init 14 = .ok (.aload_n 0, 1) := by decide +kernel
theorem dX3_init_15 : decode cX3_init 15 = .ok (.iconst 0, 1) := by decide +kernel
theorem dX3_init_16 : decode cX3_init 16 = .ok (.putfield 19, 3) := by decide +kernel
theorem dX3_init_19 : decode cX3_init 19 = .ok (.aload_n 0, 1) := by decide +kernel
theorem dX3_init_20 : decode cX3_init 20 = .ok (.iconst 0, 1) := by decide +kernel
theorem dX3_init_21 : decode cX3_init 21 = .ok (.putfield 22, 3) := by decide +kernel
theorem dX3_init_24 : decode cX3_init 24 = .ok (.aload_n 0, 1) := by decide +kernel
theorem dX3_init_25 : decode cX3_init 25 = .ok (.iconst 0, 1) := by decide +kernel
theorem dX3_init_26 : decode cX3_init 26 = .ok (.putfield 25, 3) := by decide +kernel
theorem dX3_init_29 : decode cX3_init 29 = .ok (.aload_n 0, 1) := by decide +kernel
theorem dX3_init_30 : decode cX3_init 30 = .ok (.iconst 0, 1) := by decide +kernel
theorem dX3_init_31 : decode cX3_init 31 = .ok (.putfield 28, 3) := by decide +kernel
theorem dX3_init_34 : decode cX3_init 34 = .ok (.aload_n 0, 1) := by decide +kernel
theorem dX3_init_35 : decode cX3_init 35 = .ok (.iconst 0, 1) := by decide +kernel
theorem dX3_init_36 : decode cX3_init 36 = .ok (.putfield 31, 3) := by decide +kernel
theorem dX3_init_39 : decode cX3_init 39 = .ok (.aload_n 0, 1) := by decide +kernel
theorem dX3_init_40 : decode cX3_init 40 = .ok (.iconst 0, 1) := by decide +kernel
theorem dX3_init_41 : decode cX3_init 41 = .ok (.putfield 34, 3) := by decide +kernel
theorem dX3_init_44 : decode cX3_init 44 = .ok (.aload_n 0, 1) := by decide +kernel
theorem dX3_init_45 : decode cX3_init 45 = .ok (.iload_n 1, 1) := by decide +kernel
theorem dX3_init_46 : decode cX3_init 46 = .ok (.putfield 37, 3) := by decide +kernel
theorem dX3_init_49 : decode cX3_init 49 = .ok (.aload_n 0, 1) := by decide +kernel
theorem dX3_init_50 : decode cX3_init 50 = .ok (.iload_n 2, 1) := by decide +kernel
theorem dX3_init_51 : decode cX3_init 51 = .ok (.putfield 40, 3) := by decide +kernel
theorem dX3_init_54 : decode cX3_init 54 = .ok (.aload_n 0, 1) := by decide +kernel
theorem dX3_init_55 : decode cX3_init 55 = .ok (.iload_n 3, 1) := by decide +kernel
theorem dX3_init_56 : decode cX3_init 56 = .ok (.putfield 43, 3) := by decide +kernel
theorem dX3_init_59 : decode cX3_init 59 = .ok (.aload_n 0, 1) := by decide +kernel
theorem dX3_init_60 : decode cX3_init 60 = .ok (.iload 4, 2) := by decide +kernel
theorem dX3_init_62 : decode cX3_init 62 = .ok (.putfield 46, 3) := by decide +kernel
theorem dX3_init_65 : decode cX3_init 65 = .ok (.aload_n 0, 1) := by decide +kernel
theorem dX3_init_66 : decode cX3_init 66 = .ok (.iload 5, 2) := by decide +kernel
theorem dX3_init_68 : decode cX3_init 68 = .ok (.putfield 49, 3) := by decide +kernel
theorem dX3_init_71 : decode cX3_init 71 = .ok (.aload_n 0, 1) := by decide +kernel
theorem dX3_init_72 : decode cX3_init 72 = .ok (.iload_n 1, 1) := by decide +kernel
theorem dX3_init_73 : decode cX3_init 73 = .ok (.iconst 1, 1) := by decide +kernel
theorem dX3_init_74 : decode cX3_init 74 = .ok (.if_icmp .ne 9, 3) := by decide +kernel
theorem dX3_init_83 : decode cX3_init 83 = .ok (.iload_n 1, 1) := by decide +kernel
theorem dX3_init_84 : decode cX3_init 84 = .ok (.iconst 5, 1) := by decide +kernel
theorem dX3_init_85 : decode cX3_init 85 = .ok (.if_icmp .ne 10, 3) := by decide +kernel
theorem dX3_init_88 : decode cX3_init 88 = .ok (.bipush 10, 2) := by decide +kernel
theorem dX3_init_90 : decode cX3_init 90 = .ok (.newarray .int, 2) := by decide +kernel
theorem dX3_init_92 : decode cX3_init 92 = .ok (.goto 4, 3) := by decide +kernel
theorem dX3_init_95 : decode cX3_init 95 = .ok (.aconst_null, 1) := by decide +kernel
theorem dX3_init_96 : decode cX3_init 96 = .ok (.putfield 52, 3) := by decide +kernel
theorem dX3_init_99 : decode cX3_init 99 = .ok (.aload_n 0, 1) := by decide +kernel
theorem dX3_init_100 : decode cX3_init 100 = .ok (.iload_n 1, 1) := by decide +kernel
theorem dX3_init_101 : decode cX3_init 101 = .ok (.iconst 5, 1) := by decide +kernel
theorem dX3_init_102 : decode cX3_init 102 = .ok (.if_icmp .ne 10, 3) := by decide +kernel
theorem dX3_init_105 : decode cX3_init 105 = .ok (.bipush 10, 2) := by decide +kernel
theorem dX3_init_107 : decode cX3_init 107 = .ok (.newarray .int, 2) := by decide +kernel
theorem dX3_init_109 : decode cX3_init 109 = .ok (.goto 4, 3) := by decide +kernel
theorem dX3_init_112 : decode cX3_init 112 = .ok (.aconst_null, 1) := by decide +kernel
theorem dX3_init_113 : decode cX3_init 113 = .ok (.putfield 56, 3) := by decide +kernel
theorem dX3_init_116 : decode cX3_init 116 = .ok (.aload_n 0, 1) := by decide +kernel
theorem dX3_init_117 : decode cX3_init 117 = .ok (.iload_n 1, 1) := by decide +kernel
theorem dX3_init_118 : decode cX3_init 118 = .ok (.iconst 4, 1) := by decide +kernel
theorem dX3_init_119 : decode cX3_init 119 = .ok (.if_icmp .ne 16, 3) := by decide +kernel
theorem dX3_init_122 : decode cX3_init 122 = .ok (.new 59, 3) := by decide +kernel
theorem dX3_init_125 : decode cX3_init 125 = .ok (.dup, 1) := by decide +kernel
theorem dX3_init_126 : decode cX3_init 126 = .ok (.iconst 2, 1) := by decide +kernel
theorem dX3_init_127 : decode cX3_init 127 = .ok (.bipush 8, 2) := by decide +kernel
theorem dX3_init_129 : decode cX3_init 129 = .ok (.invokespecial 61, 3) := by decide +kernel
theorem dX3_init_132 : decode cX3_init 132 = .ok (.goto 4, 3) := by decide +kernel
theorem dX3_init_135 : decode cX3_init 135 = .ok (.aconst_null, 1) := by decide +kernel
theorem dX3_init_136 : decode cX3_init 136 = .ok (.putfield 64, 3) := by decide +kernel
theorem dX3_init_139 : decode cX3_init 139 = .ok (.iload_n 1, 1) := by decide +kernel
theorem dX3_init_140 : decode cX3_init 140 = .ok (.iconst 5, 1) := by decide +kernel
theorem dX3_init_141 : decode cX3_init 141 = .ok (.if_icmp .ne 11, 3) := by decide +kernel
theorem dX3_init_144 : decode cX3_init 144 = .ok (.aload_n 0, 1) := by decide +kernel
theorem dX3_init_145 : decode cX3_init 145 = .ok (.getfield 52, 3) := by decide +kernel
theorem dX3_init_148 : decode cX3_init 148 = .ok (.iconst (-1), 1) := by decide +kernel
theorem dX3_init_149 : decode cX3_init 149 = .ok (.invokestatic 68, 3) := by decide +kernel
theorem dX3_init_152 : decode cX3_init 152 = .ok (.return_, 1) := by decide +kernel
theorem dX4_fill_0 : decode cX4_fill 0 = .ok (.aload_n 0, 1) := by decide +kernel
theorem dX4_fill_1 : decode cX4_fill 1 = .ok (.ifnonnull 4, 3) := by decide +kernel
theorem dX4_fill_5 : decode cX4_fill 5 = .ok (.iconst 0, 1) := by decide +kernel
theorem dX4_fill_6 : decode cX4_fill 6 = .ok (.istore_n 2, 1) := by decide +kernel
theorem dX4_fill_7 : decode cX4_fill 7 = .ok (.iload_n 2, 1) := by decide +kernel
theorem dX4_fill_8 : decode cX4_fill 8 = .ok (.aload_n 0, 1) := by decide +kernel
theorem dX4_fill_9 : decode cX4_fill 9 = .ok (.arraylength, 1) := by decide +kernel
theorem dX4_fill_10 : decode cX4_fill 10 = .ok (.if_icmp .ge 13, 3) := by decide +kernel
theorem dX4_fill_13 : decode cX4_fill 13 = .ok (.aload_n 0, 1) := by decide +kernel
theorem dX4_fill_14 : decode cX4_fill 14 = .ok (.iload_n 2, 1) := by decide +kernel
theorem dX4_fill_15 : decode cX4_fill 15 = .ok (.iload_n 1, 1) := by decide +kernel
theorem dX4_fill_16 : decode cX4_fill 16 = .ok (.iastore, 1) := by decide +kernel
theorem dX4_fill_17 : decode cX4_fill 17 = .ok (.iinc 2 1, 3) := by decide +kernel
theorem dX4_fill_20 : decode cX4_fill 20 = .ok (.goto (-13), 3) := by decide +kernel
theorem dX4_fill_23 : decode cX4_fill 23 = .ok (.return_, 1) := by decide +kernel
theorem dX4_put_0 : decode cX4_put 0 = .ok (.aload_n 0, 1) := by decide +kernel
theorem dX4_put_1 : decode cX4_put 1 = .ok (.ifnull 17, 3) := by decide +kernel
theorem dX4_put_4 : decode cX4_put 4 = .ok (.iload_n 1, 1) := by decide +kernel
theorem dX4_put_5 : decode cX4_put 5 = .ok (.ifCond .lt 13, 3) := by decide +kernel
theorem dX4_put_8 : decode cX4_put 8 = .ok (.iload_n 1, 1) := by decide +kernel
theorem dX4_put_9 : decode cX4_put 9 = .ok (.aload_n 0, 1) := by decide +kernel
theorem dX4_put_10 : decode cX4_put 10 = .ok (.arraylength, 1) := by decide +kernel
theorem dX4_put_11 : decode cX4_put 11 = .ok (.if_icmp .ge 7, 3) := by decide +kernel
theorem dX4_put_14 : decode cX4_put 14 = .ok (.aload_n 0, 1) := by decide +kernel
theorem dX4_put_15 : decode cX4_put 15 = .ok (.iload_n 1, 1) := by decide +kernel
theorem dX4_put_16 : decode cX4_put 16 = .ok (.iload_n 2, 1) := by decide +kernel
theorem dX4_put_17 : decode cX4_put 17 = .ok (.iastore, 1) := by decide +kernel
theorem dX4_put_18 : decode cX4_put 18 = .ok (.return_, 1) := by decide +kernel
theorem dX6_forget_0 : decode cX6_forget 0 = .ok (.aload_n 0, 1) := by decide +kernel
theorem dX6_forget_1 : decode cX6_forget 1 = .ok (.iconst (-1), 1) := by decide +kernel
theorem dX6_forget_2 : decode cX6_forget 2 = .ok (.putfield 42, 3) := by decide +kernel
theorem dX6_forget_5 : decode cX6_forget 5 = .ok (.return_, 1) := by decide +kernel
theorem dX6_init_0 : decode cX6_init 0 = .ok (.aload_n 0, 1) := by decide +kernel
theorem dX6_init_1 : decode cX6_init 1 = .ok (.invokespecial 3, 3) := by decide +kernel
theorem dX6_init_4 : decode cX6_init 4 = .ok (.aload_n 0, 1) := by decide +kernel
theorem dX6_init_5 : decode cX6_init 5 = .ok (.new 9, 3) := by decide +kernel
theorem dX6_init_8 : decode cX6_init 8 = .ok (.dup, 1) := by decide +kernel
theorem dX6_init_9 : decode cX6_init 9 = .ok (.iconst 2, 1) := by decide +kernel
theorem dX6_init_10 : decode cX6_init 10 = .ok (.bipush 8, 2) := by decide +kernel
theorem dX6_init_12 : decode cX6_init 12 = .ok (.invokespecial 11, 3) := by decide +kernel
theorem dX6_init_15 : decode cX6_init 15 = .ok (.putfield 14, 3) := by decide +kernel
theorem dX6_init_18 : decode cX6_init 18 = .ok (.aload_n 0, 1) := by decide +kernel
theorem dX6_init_19 : decode cX6_init 19 = .ok (.bipush 24, 2) := by decide +kernel
theorem dX6_init_21 : decode cX6_init 21 = .ok (.newarray .int, 2) := by decide +kernel
theorem dX6_init_23 : decode cX6_init 23 = .ok (.putfield 20, 3) := by decide +kernel
theorem dX6_init_26 : decode cX6_init 26 = .ok (.aload_n 0, 1) := by decide +kernel
theorem dX6_init_27 : decode cX6_init 27 = .ok (.bipush 24, 2) := by decide +kernel
theorem dX6_init_29 : decode cX6_init 29 = .ok (.newarray .int, 2) := by decide +kernel
theorem dX6_init_31 : decode cX6_init 31 = .ok (.putfield 24, 3) := by decide +kernel
theorem dX6_init_34 : decode cX6_init 34 = .ok (.aload_n 0, 1) := by decide +kernel
theorem dX6_init_35 : decode cX6_init 35 = .ok (.bipush 64, 2) := by decide +kernel
theorem dX6_init_37 : decode cX6_init 37 = .ok (.newarray .int, 2) := by decide +kernel
theorem dX6_init_39 : decode cX6_init 39 = .ok (.putfield 27, 3) := by decide +kernel
theorem dX6_init_42 : decode cX6_init 42 = .ok (.aload_n 0, 1) := by decide +kernel
theorem dX6_init_43 : decode cX6_init 43 = .ok (.bipush 24, 2) := by decide +kernel
theorem dX6_init_45 : decode cX6_init 45 = .ok (.newarray .int, 2) := by decide +kernel
theorem dX6_init_47 : decode cX6_init 47 = .ok (.putfield 30, 3) := by decide +kernel
theorem dX6_init_50 : decode cX6_init 50 = .ok (.aload_n 0, 1) := by decide +kernel
theorem dX6_init_51 : decode cX6_init 51 = .ok (.bipush 8, 2) := by decide +kernel
theorem dX6_init_53 : decode cX6_init 53 = .ok (.newarray .int, 2) := by decide +kernel
theorem dX6_init_55 : decode cX6_init 55 = .ok (.putfield 33, 3) := by decide +kernel
theorem dX6_init_58 : decode cX6_init 58 = .ok (.aload_n 0, 1) := by decide +kernel
theorem dX6_init_59 : decode cX6_init 59 = .ok (.sipush 2048, 3) := by decide +kernel
theorem dX6_init_62 : decode cX6_init 62 = .ok (.newarray .int, 2) := by decide +kernel
theorem dX6_init_64 : decode cX6_init 64 = .ok (.putfield 36, 3) := by decide +kernel
theorem dX6_init_67 : decode cX6_init 67 = .ok (.aload_n 0, 1) := by decide +kernel
theorem dX6_init_68 : decode cX6_init 68 = .ok (.bipush 8, 2) := by decide +kernel
theorem dX6_init_70 : decode cX6_init 70 = .ok (.newarray .int, 2) := by decide +kernel
theorem dX6_init_72 : decode cX6_init 72 = .ok (.putfield 39, 3) := by decide +kernel
theorem dX6_init_75 : decode cX6_init 75 = .ok (.aload_n 0, 1) := by decide +kernel
theorem dX6_init_76 : decode cX6_init 76 = .ok (.iconst (-1), 1) := by decide +kernel
theorem dX6_init_77 : decode cX6_init 77 = .ok (.putfield 42, 3) := by decide +kernel
theorem dX6_init_80 : decode cX6_init 80 = .ok (.aload_n 0, 1) := by decide +kernel
theorem dX6_init_81 : decode cX6_init 81 = .ok (.iconst (-1), 1) := by decide +kernel
theorem dX6_init_82 : decode cX6_init 82 = .ok (.putfield 46, 3) := by decide +kernel
theorem dX6_init_85 : decode cX6_init 85 = .ok (.aload_n 0, 1) := by decide +kernel
theorem dX6_init_86 : decode cX6_init 86 = .ok (.getfield 24, 3) := by decide +kernel
theorem dX6_init_89 : decode cX6_init 89 = .ok (.sipush 359, 3) := by decide +kernel
theorem dX6_init_92 : decode cX6_init 92 = .ok (.invokestatic 49, 3) := by decide +kernel
theorem dX6_init_95 : decode cX6_init 95 = .ok (.return_, 1) := by decide +kernel
theorem dX8_append_0 : decode cX8_append 0 = .ok (.aload_n 0, 1) := by decide +kernel
theorem dX8_append_1 : decode cX8_append 1 = .ok (.invokevirtual 31, 3) := by decide +kernel
theorem dX8_append_4 : decode cX8_append 4 = .ok (.ifCond .eq 5, 3) := by decide +kernel
theorem dX8_append_9 : decode cX8_append 9 = .ok (.aload_n 0, 1) := by decide +kernel
theorem dX8_append_10 : decode cX8_append 10 = .ok (.getfield 9, 3) := by decide +kernel
theorem dX8_append_13 : decode cX8_append 13 = .ok (.istore 6, 2) := by decide +kernel
theorem dX8_append_15 : decode cX8_append 15 = .ok (.aload_n 0, 1) := by decide +kernel
theorem dX8_append_16 : decode cX8_append 16 = .ok (.dup, 1) := by decide +kernel
theorem dX8_append_17 : decode cX8_append 17 = .ok (.getfield 9, 3) := by decide +kernel
theorem dX8_append_20 : decode cX8_append 20 = .ok (.iconst 1, 1) := by decide +kernel
theorem dX8_append_21 : decode cX8_append 21 = .ok (.iadd, 1) := by decide +kernel
theorem dX8_append_22 : decode cX8_append 22 = .ok (.putfield 9, 3) := by decide +kernel
theorem dX8_append_25 : decode cX8_append 25 = .ok (.aload_n 0, 1) := by decide +kernel
theorem dX8_append_26 : decode cX8_append 26 = .ok (.iload 6, 2) := by decide +kernel
theorem dX8_append_28 : decode cX8_append 28 = .ok (.iconst 0, 1) := by decide +kernel
theorem dX8_append_29 : decode cX8_append 29 = .ok (.iload_n 1, 1) := by decide +kernel
theorem dX8_append_30 : decode cX8_append 30 = .ok (.invokevirtual 35, 3) := by decide +kernel
theorem dX8_append_33 : decode cX8_append 33 = .ok (.aload_n 0, 1) := by decide +kernel
theorem dX8_append_34 : decode cX8_append 34 = .ok (.iload 6, 2) := by decide +kernel
theorem dX8_append_36 : decode cX8_append 36 = .ok (.iconst 1, 1) := by decide +kernel
theorem dX8_append_37 : decode cX8_append 37 = .ok (.iload_n 2, 1) := by decide +kernel
theorem dX8_append_38 : decode cX8_append 38 = .ok (.invokevirtual 35, 3) := by decide +kernel
theorem dX8_append_41 : decode cX8_append 41 = .ok (.aload_n 0, 1) := by decide +kernel
theorem dX8_append_42 : decode cX8_append 42 = .ok (.iload 6, 2) := by decide +kernel
theorem dX8_append_44 : decode cX8_append 44 = .ok (.iconst 2, 1) := by decide +kernel
theorem dX8_append_45 : decode cX8_append 45 = .ok (.iload_n 3, 1) := by decide +kernel
theorem dX8_append_46 : decode cX8_append 46 = .ok (.invokevirtual 35, 3) := by decide +kernel
theorem dX8_append_49 : decode cX8_append 49 = .ok (.aload_n 0, 1) := by decide +kernel
theorem dX8_append_50 : decode cX8_append 50 = .ok (.iload 6, 2) := by decide +kernel
theorem dX8_append_52 : decode cX8_append 52 = .ok (.iconst 3, 1) := by decide +kernel
theorem dX8_append_53 : decode cX8_append 53 = .ok (.iload 4, 2) := by decide +kernel
theorem dX8_append_55 : decode cX8_append 55 = .ok (.invokevirtual 35, 3) := by decide +kernel
theorem dX8_append_58 : decode cX8_append 58 = .ok (.aload_n 0, 1) := by decide +kernel
theorem dX8_append_59 : decode cX8_append 59 = .ok (.iload 6, 2) := by decide +kernel
theorem dX8_append_61 : decode cX8_append 61 = .ok (.iconst 4, 1) := by decide +kernel
theorem dX8_append_62 : decode cX8_append 62 = .ok (.iload 5, 2) := by decide +kernel
theorem dX8_append_64 : decode cX8_append 64 = .ok (.invokevirtual 35, 3) := by decide +kernel
theorem dX8_append_67 : decode cX8_append 67 = .ok (.iload 6, 2) := by decide +kernel
theorem dX8_append_69 : decode cX8_append 69 = .ok (.ireturn, 1) := by decide +kernel
theorem dX8_has_0 : decode cX8_has 0 = .ok (.iload_n 1, 1) := by decide +kernel
theorem dX8_has_1 : decode cX8_has 1 = .ok (.ifCond .lt 15, 3) := by decide +kernel
theorem dX8_has_4 : decode cX8_has 4 = .ok (.iload_n 1, 1) := by decide +kernel
theorem dX8_has_5 : decode cX8_has 5 = .ok (.aload_n 0, 1) := by decide +kernel
theorem dX8_has_6 : decode cX8_has 6 = .ok (.getfield 9, 3) := by decide +kernel
theorem dX8_has_9 : decode cX8_has 9 = .ok (.if_icmp .ge 7, 3) := by decide +kernel
theorem dX8_has_16 : decode cX8_has 16 = .ok (.iconst 0, 1) := by decide +kernel
theorem dX8_has_17 : decode cX8_has 17 = .ok (.ireturn, 1) := by decide +kernel
theorem dX8_init_0 : decode cX8_init 0 = .ok (.aload_n 0, 1) := by decide +kernel
theorem dX8_init_1 : decode cX8_init 1 = .ok (.invokespecial 3, 3) := by decide +kernel
theorem dX8_init_4 : decode cX8_init 4 = .ok (.aload_n 0, 1) := by decide +kernel
theorem dX8_init_5 : decode cX8_init 5 = .ok (.iconst 0, 1) := by decide +kernel
theorem dX8_init_6 : decode cX8_init 6 = .ok (.putfield 9, 3) := by decide +kernel
theorem dX8_init_9 : decode cX8_init 9 = .ok (.aload_n 0, 1) := by decide +kernel
theorem dX8_init_10 : decode cX8_init 10 = .ok (.iload_n 1, 1) := by decide +kernel
theorem dX8_init_11 : decode cX8_init 11 = .ok (.putfield 15, 3) := by decide +kernel
theorem dX8_init_14 : decode cX8_init 14 = .ok (.aload_n 0, 1) := by decide +kernel
theorem dX8_init_15 : decode cX8_init 15 = .ok (.iload_n 2, 1) := by decide +kernel
theorem dX8_init_16 : decode cX8_init 16 = .ok (.putfield 18, 3) := by decide +kernel
theorem dX8_init_19 : decode cX8_init 19 = .ok (.aload_n 0, 1) := by decide +kernel
theorem dX8_init_20 : decode cX8_init 20 = .ok (.iconst 0, 1) := by decide +kernel
theorem dX8_init_21 : decode cX8_init 21 = .ok (.iload_n 1, 1) := by decide +kernel
theorem dX8_init_22 : decode cX8_init 22 = .ok (.iload_n 2, 1) := by decide +kernel
theorem dX8_init_23 : decode cX8_init 23 = .ok (.imul, 1) := by decide +kernel
theorem dX8_init_24 : decode cX8_init 24 = .ok (.invokestatic 21, 3) := by decide +kernel
theorem dX8_init_27 : decode cX8_init 27 = .ok (.newarray .int, 2) := by decide +kernel
theorem dX8_init_29 : decode cX8_init 29 = .ok (.putfield 27, 3) := by decide +kernel
theorem dX8_init_32 : decode cX8_init 32 = .ok (.return_, 1) := by decide +kernel
theorem dX8_isFull_0 : decode cX8_isFull 0 = .ok (.aload_n 0, 1) := by decide +kernel
theorem dX8_isFull_1 : decode cX8_isFull 1 = .ok (.getfield 9, 3) := by decide +kernel
theorem dX8_isFull_4 : decode cX8_isFull 4 = .ok (.aload_n 0, 1) := by decide +kernel
theorem dX8_isFull_5 : decode cX8_isFull 5 = .ok (.getfield 18, 3) := by decide +kernel
theorem dX8_isFull_8 : decode cX8_isFull 8 = .ok (.if_icmp .lt 7, 3) := by decide +kernel
theorem dX8_isFull_11 : decode cX8_isFull 11 = .ok (.iconst 1, 1) := by decide +kernel
theorem dX8_isFull_12 : decode cX8_isFull 12 = .ok (.goto 4, 3) := by decide +kernel
theorem dX8_isFull_15 : decode cX8_isFull 15 = .ok (.iconst 0, 1) := by decide +kernel
theorem dX8_isFull_16 : decode cX8_isFull 16 = .ok (.ireturn, 1) := by decide +kernel
theorem dX8_put_0 : decode cX8_put 0 = .ok (.iload_n 1, 1) := by decide +kernel
theorem dX8_put_1 : decode cX8_put 1 = .ok (.aload_n 0, 1) := by decide +kernel
theorem dX8_put_2 : decode cX8_put 2 = .ok (.getfield 15, 3) := by decide +kernel
theorem dX8_put_5 : decode cX8_put 5 = .ok (.imul, 1) := by decide +kernel
theorem dX8_put_6 : decode cX8_put 6 = .ok (.iload_n 2, 1) := by decide +kernel
theorem dX8_put_7 : decode cX8_put 7 = .ok (.iadd, 1) := by decide +kernel
theorem dX8_put_8 : decode cX8_put 8 = .ok (.istore 4, 2) := by decide +kernel
theorem dX8_put_10 : decode cX8_put 10 = .ok (.iload_n 1, 1) := by decide +kernel
theorem dX8_put_11 : decode cX8_put 11 = .ok (.ifCond .lt 27, 3) := by decide +kernel
theorem dX8_put_14 : decode cX8_put 14 = .ok (.iload_n 1, 1) := by decide +kernel
theorem dX8_put_15 : decode cX8_put 15 = .ok (.aload_n 0, 1) := by decide +kernel
theorem dX8_put_16 : decode cX8_put 16 = .ok (.getfield 9, 3) := by decide +kernel
theorem dX8_put_19 : decode cX8_put 19 = .ok (.if_icmp .ge 19, 3) := by decide +kernel
theorem dX8_put_22 : decode cX8_put 22 = .ok (.iload_n 2, 1) := by decide +kernel
theorem dX8_put_23 : decode cX8_put 23 = .ok (.ifCond .lt 15, 3) := by decide +kernel
theorem dX8_put_26 : decode cX8_put 26 = .ok (.iload_n 2, 1) := by decide +kernel
theorem dX8_put_27 : decode cX8_put 27 = .ok (.aload_n 0, 1) := by decide +kernel
theorem dX8_put_28 : decode cX8_put 28 = .ok (.getfield 15, 3) := by decide +kernel
theorem dX8_put_31 : decode cX8_put 31 = .ok (.if_icmp .ge 7, 3) := by decide +kernel
theorem dX8_put_34 : decode cX8_put 34 = .ok (.iconst 1, 1) := by decide +kernel
theorem dX8_put_35 : decode cX8_put 35 = .ok (.goto 4, 3) := by decide +kernel
theorem dX8_put_38 : decode cX8_put 38 = .ok (.iconst 0, 1) := by decide +kernel
theorem dX8_put_39 : decode cX8_put 39 = .ok (.istore 5, 2) := by decide +kernel
theorem dX8_put_41 : decode cX8_put 41 = .ok (.iload 5, 2) := by decide +kernel
theorem dX8_put_43 : decode cX8_put 43 = .ok (.ifCond .eq 26, 3) := by decide +kernel
theorem dX8_put_46 : decode cX8_put 46 = .ok (.iload 4, 2) := by decide +kernel
theorem dX8_put_48 : decode cX8_put 48 = .ok (.ifCond .lt 21, 3) := by decide +kernel
theorem dX8_put_51 : decode cX8_put 51 = .ok (.iload 4, 2) := by decide +kernel
theorem dX8_put_53 : decode cX8_put 53 = .ok (.aload_n 0, 1) := by decide +kernel
theorem dX8_put_54 : decode cX8_put 54 = .ok (.getfield 27, 3) := by decide +kernel
theorem dX8_put_57 : decode cX8_put 57 = .ok (.arraylength, 1) := by decide +kernel
theorem dX8_put_58 : decode cX8_put 58 = .ok (.if_icmp .ge 11, 3) := by decide +kernel
theorem dX8_put_61 : decode cX8_put 61 = .ok (.aload_n 0, 1) := by decide +kernel
theorem dX8_put_62 : decode cX8_put 62 = .ok (.getfield 27, 3) := by decide +kernel
theorem dX8_put_65 : decode cX8_put 65 = .ok (.iload 4, 2) := by decide +kernel
theorem dX8_put_67 : decode cX8_put 67 = .ok (.iload_n 3, 1) := by decide +kernel
theorem dX8_put_68 : decode cX8_put 68 = .ok (.iastore, 1) := by decide +kernel
theorem dX8_put_69 : decode cX8_put 69 = .ok (.return_, 1) := by decide +kernel
