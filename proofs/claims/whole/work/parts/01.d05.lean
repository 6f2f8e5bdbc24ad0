theorem d_FO_takeNumber_16 : decode prog_4_method_11_code 16 = .ok (.getfield 9, 3) := by decide +kernel
theorem d_FO_takeNumber_19 : decode prog_4_method_11_code 19 = .ok (.iload_n 2, 1) := by decide +kernel
theorem d_FO_takeNumber_20 : decode prog_4_method_11_code 20 = .ok (.caload, 1) := by decide +kernel
theorem d_FO_takeNumber_21 : decode prog_4_method_11_code 21 = .ok (.invokestatic 26, 3) := by decide +kernel
theorem d_FO_takeNumber_24 : decode prog_4_method_11_code 24 = .ok (.ifCond .eq 48, 3) := by decide +kernel
theorem d_FO_takeNumber_27 : decode prog_4_method_11_code 27 = .ok (.iload_n 2, 1) := by decide +kernel
theorem d_FO_takeNumber_28 : decode prog_4_method_11_code 28 = .ok (.aload_n 0, 1) := by decide +kernel
theorem d_FO_takeNumber_29 : decode prog_4_method_11_code 29 = .ok (.getfield 15, 3) := by decide +kernel
theorem d_FO_takeNumber_32 : decode prog_4_method_11_code 32 = .ok (.isub, 1) := by decide +kernel
theorem d_FO_takeNumber_33 : decode prog_4_method_11_code 33 = .ok (.iconst 4, 1) := by decide +kernel
theorem d_FO_takeNumber_34 : decode prog_4_method_11_code 34 = .ok (.if_icmp .ge 15, 3) := by decide +kernel
theorem d_FO_takeNumber_37 : decode prog_4_method_11_code 37 = .ok (.iload_n 2, 1) := by decide +kernel
theorem d_FO_takeNumber_38 : decode prog_4_method_11_code 38 = .ok (.aload_n 0, 1) := by decide +kernel
theorem d_FO_takeNumber_39 : decode prog_4_method_11_code 39 = .ok (.getfield 15, 3) := by decide +kernel
theorem d_FO_takeNumber_42 : decode prog_4_method_11_code 42 = .ok (.if_icmp .le 9, 3) := by decide +kernel
theorem d_FO_takeNumber_45 : decode prog_4_method_11_code 45 = .ok (.iload_n 1, 1) := by decide +kernel
theorem d_FO_takeNumber_46 : decode prog_4_method_11_code 46 = .ok (.ifCond .ne 5, 3) := by decide +kernel
theorem d_FO_takeNumber_49 : decode prog_4_method_11_code 49 = .ok (.iconst (-1), 1) := by decide +kernel
theorem d_FO_takeNumber_50 : decode prog_4_method_11_code 50 = .ok (.ireturn, 1) := by decide +kernel
theorem d_FO_takeNumber_51 : decode prog_4_method_11_code 51 = .ok (.iload_n 1, 1) := by decide +kernel
theorem d_FO_takeNumber_52 : decode prog_4_method_11_code 52 = .ok (.bipush 10, 2) := by decide +kernel
theorem d_FO_takeNumber_54 : decode prog_4_method_11_code 54 = .ok (.imul, 1) := by decide +kernel
theorem d_FO_takeNumber_55 : decode prog_4_method_11_code 55 = .ok (.aload_n 0, 1) := by decide +kernel
theorem d_FO_takeNumber_56 : decode prog_4_method_11_code 56 = .ok (.getfield 9, 3) := by decide +kernel
theorem d_FO_takeNumber_59 : decode prog_4_method_11_code 59 = .ok (.iload_n 2, 1) := by decide +kernel
theorem d_FO_takeNumber_60 : decode prog_4_method_11_code 60 = .ok (.caload, 1) := by decide +kernel
theorem d_FO_takeNumber_61 : decode prog_4_method_11_code 61 = .ok (.bipush 48, 2) := by decide +kernel
theorem d_FO_takeNumber_63 : decode prog_4_method_11_code 63 = .ok (.isub, 1) := by decide +kernel
theorem d_FO_takeNumber_64 : decode prog_4_method_11_code 64 = .ok (.iadd, 1) := by decide +kernel
theorem d_FO_takeNumber_65 : decode prog_4_method_11_code 65 = .ok (.istore_n 1, 1) := by decide +kernel
theorem d_FO_takeNumber_66 : decode prog_4_method_11_code 66 = .ok (.iinc 2 1, 3) := by decide +kernel
theorem d_FO_takeNumber_69 : decode prog_4_method_11_code 69 = .ok (.goto (-62), 3) := by decide +kernel
theorem d_FO_takeNumber_72 : decode prog_4_method_11_code 72 = .ok (.iload_n 2, 1) := by decide +kernel
theorem d_FO_takeNumber_73 : decode prog_4_method_11_code 73 = .ok (.aload_n 0, 1) := by decide +kernel
theorem d_FO_takeNumber_74 : decode prog_4_method_11_code 74 = .ok (.getfield 15, 3) := by decide +kernel
theorem d_FO_takeNumber_77 : decode prog_4_method_11_code 77 = .ok (.if_icmp .ne 5, 3) := by decide +kernel
theorem d_FO_takeNumber_80 : decode prog_4_method_11_code 80 = .ok (.iconst (-1), 1) := by decide +kernel
theorem d_FO_takeNumber_81 : decode prog_4_method_11_code 81 = .ok (.ireturn, 1) := by decide +kernel
theorem d_FO_takeNumber_82 : decode prog_4_method_11_code 82 = .ok (.aload_n 0, 1) := by decide +kernel
theorem d_FO_takeNumber_83 : decode prog_4_method_11_code 83 = .ok (.iload_n 2, 1) := by decide +kernel
theorem d_FO_takeNumber_84 : decode prog_4_method_11_code 84 = .ok (.putfield 15, 3) := by decide +kernel
theorem d_FO_takeNumber_87 : decode prog_4_method_11_code 87 = .ok (.iload_n 1, 1) := by decide +kernel
theorem d_FO_takeNumber_88 : decode prog_4_method_11_code 88 = .ok (.ireturn, 1) := by decide +kernel
theorem d_FR_init_0 : decode prog_5_method_1_code 0 = .ok (.aload_n 0, 1) := by decide +kernel
theorem d_FR_init_1 : decode prog_5_method_1_code 1 = .ok (.invokespecial 1, 3) := by decide +kernel
theorem d_FR_init_4 : decode prog_5_method_1_code 4 = .ok (.aload_n 0, 1) := by decide +kernel
theorem d_FR_init_5 : decode prog_5_method_1_code 5 = .ok (.new 7, 3) := by decide +kernel
theorem d_FR_init_8 : decode prog_5_method_1_code 8 = .ok (.dup, 1) := by decide +kernel
theorem d_FR_init_9 : decode prog_5_method_1_code 9 = .ok (.aload_n 1, 1) := by decide +kernel
theorem d_FR_init_10 : decode prog_5_method_1_code 10 = .ok (.invokespecial 9, 3) := by decide +kernel
theorem d_FR_init_13 : decode prog_5_method_1_code 13 = .ok (.putfield 12, 3) := by decide +kernel
theorem d_FR_init_16 : decode prog_5_method_1_code 16 = .ok (.aload_n 0, 1) := by decide +kernel
theorem d_FR_init_17 : decode prog_5_method_1_code 17 = .ok (.new 7, 3) := by decide +kernel
theorem d_FR_init_20 : decode prog_5_method_1_code 20 = .ok (.dup, 1) := by decide +kernel
theorem d_FR_init_21 : decode prog_5_method_1_code 21 = .ok (.aload_n 1, 1) := by decide +kernel
theorem d_FR_init_22 : decode prog_5_method_1_code 22 = .ok (.invokespecial 9, 3) := by decide +kernel
theorem d_FR_init_25 : decode prog_5_method_1_code 25 = .ok (.putfield 18, 3) := by decide +kernel
theorem d_FR_init_28 : decode prog_5_method_1_code 28 = .ok (.aload_n 0, 1) := by decide +kernel
theorem d_FR_init_29 : decode prog_5_method_1_code 29 = .ok (.new 7, 3) := by decide +kernel
theorem d_FR_init_32 : decode prog_5_method_1_code 32 = .ok (.dup, 1) := by decide +kernel
theorem d_FR_init_33 : decode prog_5_method_1_code 33 = .ok (.aload_n 1, 1) := by decide +kernel
theorem d_FR_init_34 : decode prog_5_method_1_code 34 = .ok (.invokespecial 9, 3) := by decide +kernel
theorem d_FR_init_37 : decode prog_5_method_1_code 37 = .ok (.putfield 21, 3) := by decide +kernel
theorem d_FR_init_40 : decode prog_5_method_1_code 40 = .ok (.return_, 1) := by decide +kernel
theorem d_HE_init_0 : decode prog_6_method_1_code 0 = .ok (.aload_n 0, 1) := by decide +kernel
theorem d_HE_init_1 : decode prog_6_method_1_code 1 = .ok (.invokespecial 1, 3) := by decide +kernel
theorem d_HE_init_4 : decode prog_6_method_1_code 4 = .ok (.aload_n 0, 1) := by decide +kernel
theorem d_HE_init_5 : decode prog_6_method_1_code 5 = .ok (.new 7, 3) := by decide +kernel
theorem d_HE_init_8 : decode prog_6_method_1_code 8 = .ok (.dup, 1) := by decide +kernel
theorem d_HE_init_9 : decode prog_6_method_1_code 9 = .ok (.aload_n 1, 1) := by decide +kernel
theorem d_HE_init_10 : decode prog_6_method_1_code 10 = .ok (.invokespecial 9, 3) := by decide +kernel
theorem d_HE_init_13 : decode prog_6_method_1_code 13 = .ok (.putfield 12, 3) := by decide +kernel
theorem d_HE_init_16 : decode prog_6_method_1_code 16 = .ok (.aload_n 0, 1) := by decide +kernel
theorem d_HE_init_17 : decode prog_6_method_1_code 17 = .ok (.new 7, 3) := by decide +kernel
theorem d_HE_init_20 : decode prog_6_method_1_code 20 = .ok (.dup, 1) := by decide +kernel
theorem d_HE_init_21 : decode prog_6_method_1_code 21 = .ok (.aload_n 1, 1) := by decide +kernel
theorem d_HE_init_22 : decode prog_6_method_1_code 22 = .ok (.invokespecial 9, 3) := by decide +kernel
theorem d_HE_init_25 : decode prog_6_method_1_code 25 = .ok (.putfield 18, 3) := by decide +kernel
theorem d_HE_init_28 : decode prog_6_method_1_code 28 = .ok (.return_, 1) := by decide +kernel
theorem d_MA_init_0 : decode prog_7_method_1_code 0 = .ok (.aload_n 0, 1) := by decide +kernel
theorem d_MA_init_1 : decode prog_7_method_1_code 1 = .ok (.aload_n 1, 1) := by decide +kernel
theorem d_MA_init_2 : decode prog_7_method_1_code 2 = .ok (.invokespecial 3, 3) := by decide +kernel
theorem d_MA_init_5 : decode prog_7_method_1_code 5 = .ok (.aload_n 0, 1) := by decide +kernel
theorem d_MA_init_6 : decode prog_7_method_1_code 6 = .ok (.new 9, 3) := by decide +kernel
theorem d_MA_init_9 : decode prog_7_method_1_code 9 = .ok (.dup, 1) := by decide +kernel
theorem d_MA_init_10 : decode prog_7_method_1_code 10 = .ok (.aload_n 1, 1) := by decide +kernel
theorem d_MA_init_11 : decode prog_7_method_1_code 11 = .ok (.invokespecial 11, 3) := by decide +kernel
theorem d_MA_init_14 : decode prog_7_method_1_code 14 = .ok (.putfield 12, 3) := by decide +kernel
theorem d_MA_init_17 : decode prog_7_method_1_code 17 = .ok (.aload_n 0, 1) := by decide +kernel
theorem d_MA_init_18 : decode prog_7_method_1_code 18 = .ok (.bipush 8, 2) := by decide +kernel
theorem d_MA_init_20 : decode prog_7_method_1_code 20 = .ok (.anewarray 18, 3) := by decide +kernel
theorem d_MA_init_23 : decode prog_7_method_1_code 23 = .ok (.putfield 20, 3) := by decide +kernel
theorem d_MA_init_26 : decode prog_7_method_1_code 26 = .ok (.iconst 0, 1) := by decide +kernel
theorem d_MA_init_27 : decode prog_7_method_1_code 27 = .ok (.istore_n 2, 1) := by decide +kernel
theorem d_MA_init_28 : decode prog_7_method_1_code 28 = .ok (.iload_n 2, 1) := by decide +kernel
theorem d_MA_init_29 : decode prog_7_method_1_code 29 = .ok (.bipush 8, 2) := by decide +kernel
theorem d_MA_init_31 : decode prog_7_method_1_code 31 = .ok (.if_icmp .ge 23, 3) := by decide +kernel
theorem d_MA_init_34 : decode prog_7_method_1_code 34 = .ok (.aload_n 0, 1) := by decide +kernel
theorem d_MA_init_35 : decode prog_7_method_1_code 35 = .ok (.getfield 20, 3) := by decide +kernel
theorem d_MA_init_38 : decode prog_7_method_1_code 38 = .ok (.iload_n 2, 1) := by decide +kernel
theorem d_MA_init_39 : decode prog_7_method_1_code 39 = .ok (.new 18, 3) := by decide +kernel
theorem d_MA_init_42 : decode prog_7_method_1_code 42 = .ok (.dup, 1) := by decide +kernel
theorem d_MA_init_43 : decode prog_7_method_1_code 43 = .ok (.aload_n 1, 1) := by decide +kernel
theorem d_MA_init_44 : decode prog_7_method_1_code 44 = .ok (.invokespecial 24, 3) := by decide +kernel
theorem d_MA_init_47 : decode prog_7_method_1_code 47 = .ok (.aastore, 1) := by decide +kernel
theorem d_MA_init_48 : decode prog_7_method_1_code 48 = .ok (.iinc 2 1, 3) := by decide +kernel
theorem d_MA_init_51 : decode prog_7_method_1_code 51 = .ok (.goto (-23), 3) := by decide +kernel
theorem d_MA_init_54 : decode prog_7_method_1_code 54 = .ok (.aload_n 0, 1) := by decide +kernel
theorem d_MA_init_55 : decode prog_7_method_1_code 55 = .ok (.bipush 32, 2) := by decide +kernel
theorem d_MA_init_57 : decode prog_7_method_1_code 57 = .ok (.anewarray 25, 3) := by decide +kernel
theorem d_MA_init_60 : decode prog_7_method_1_code 60 = .ok (.putfield 27, 3) := by decide +kernel
theorem d_MA_init_63 : decode prog_7_method_1_code 63 = .ok (.iconst 0, 1) := by decide +kernel
theorem d_MA_init_64 : decode prog_7_method_1_code 64 = .ok (.istore_n 2, 1) := by decide +kernel
theorem d_MA_init_65 : decode prog_7_method_1_code 65 = .ok (.iload_n 2, 1) := by decide +kernel
theorem d_MA_init_66 : decode prog_7_method_1_code 66 = .ok (.bipush 32, 2) := by decide +kernel
theorem d_MA_init_68 : decode prog_7_method_1_code 68 = .ok (.if_icmp .ge 23, 3) := by decide +kernel
theorem d_MA_init_71 : decode prog_7_method_1_code 71 = .ok (.aload_n 0, 1) := by decide +kernel
theorem d_MA_init_72 : decode prog_7_method_1_code 72 = .ok (.getfield 27, 3) := by decide +kernel
theorem d_MA_init_75 : decode prog_7_method_1_code 75 = .ok (.iload_n 2, 1) := by decide +kernel
theorem d_MA_init_76 : decode prog_7_method_1_code 76 = .ok (.new 25, 3) := by decide +kernel
theorem d_MA_init_79 : decode prog_7_method_1_code 79 = .ok (.dup, 1) := by decide +kernel
theorem d_MA_init_80 : decode prog_7_method_1_code 80 = .ok (.aload_n 1, 1) := by decide +kernel
theorem d_MA_init_81 : decode prog_7_method_1_code 81 = .ok (.invokespecial 31, 3) := by decide +kernel
theorem d_MA_init_84 : decode prog_7_method_1_code 84 = .ok (.aastore, 1) := by decide +kernel
theorem d_MA_init_85 : decode prog_7_method_1_code 85 = .ok (.iinc 2 1, 3) := by decide +kernel
theorem d_MA_init_88 : decode prog_7_method_1_code 88 = .ok (.goto (-23), 3) := by decide +kernel
theorem d_MA_init_91 : decode prog_7_method_1_code 91 = .ok (.return_, 1) := by decide +kernel
theorem d_MA_begin_0 : decode prog_7_method_2_code 0 = .ok (.aload_n 1, 1) := by decide +kernel
theorem d_MA_begin_1 : decode prog_7_method_2_code 1 = .ok (.getfield 32, 3) := by decide +kernel
theorem d_MA_begin_4 : decode prog_7_method_2_code 4 = .ok (.iconst 0, 1) := by decide +kernel
theorem d_MA_begin_5 : decode prog_7_method_2_code 5 = .ok (.aload_n 0, 1) := by decide +kernel
theorem d_MA_begin_6 : decode prog_7_method_2_code 6 = .ok (.getfield 38, 3) := by decide +kernel
theorem d_MA_begin_9 : decode prog_7_method_2_code 9 = .ok (.iconst 0, 1) := by decide +kernel
theorem d_MA_begin_10 : decode prog_7_method_2_code 10 = .ok (.aload_n 1, 1) := by decide +kernel
theorem d_MA_begin_11 : decode prog_7_method_2_code 11 = .ok (.getfield 39, 3) := by decide +kernel
theorem d_MA_begin_14 : decode prog_7_method_2_code 14 = .ok (.invokestatic 43, 3) := by decide +kernel
theorem d_MA_begin_17 : decode prog_7_method_2_code 17 = .ok (.aload_n 0, 1) := by decide +kernel
theorem d_MA_begin_18 : decode prog_7_method_2_code 18 = .ok (.iconst 0, 1) := by decide +kernel
theorem d_MA_begin_19 : decode prog_7_method_2_code 19 = .ok (.putfield 49, 3) := by decide +kernel
theorem d_MA_begin_22 : decode prog_7_method_2_code 22 = .ok (.aload_n 0, 1) := by decide +kernel
theorem d_MA_begin_23 : decode prog_7_method_2_code 23 = .ok (.iconst 0, 1) := by decide +kernel
theorem d_MA_begin_24 : decode prog_7_method_2_code 24 = .ok (.putfield 52, 3) := by decide +kernel
theorem d_MA_begin_27 : decode prog_7_method_2_code 27 = .ok (.aload_n 0, 1) := by decide +kernel
theorem d_MA_begin_28 : decode prog_7_method_2_code 28 = .ok (.iconst 0, 1) := by decide +kernel
theorem d_MA_begin_29 : decode prog_7_method_2_code 29 = .ok (.putfield 55, 3) := by decide +kernel
theorem d_MA_begin_32 : decode prog_7_method_2_code 32 = .ok (.aload_n 0, 1) := by decide +kernel
theorem d_MA_begin_33 : decode prog_7_method_2_code 33 = .ok (.iconst (-1), 1) := by decide +kernel
theorem d_MA_begin_34 : decode prog_7_method_2_code 34 = .ok (.putfield 58, 3) := by decide +kernel
theorem d_MA_begin_37 : decode prog_7_method_2_code 37 = .ok (.return_, 1) := by decide +kernel
theorem d_MA_takesLine_0 : decode prog_7_method_3_code 0 = .ok (.aload_n 0, 1) := by decide +kernel
theorem d_MA_takesLine_1 : decode prog_7_method_3_code 1 = .ok (.invokevirtual 61, 3) := by decide +kernel
theorem d_MA_takesLine_4 : decode prog_7_method_3_code 4 = .ok (.ifCond .ne 10, 3) := by decide +kernel
theorem d_MA_takesLine_7 : decode prog_7_method_3_code 7 = .ok (.aload_n 0, 1) := by decide +kernel
theorem d_MA_takesLine_8 : decode prog_7_method_3_code 8 = .ok (.invokevirtual 65, 3) := by decide +kernel
theorem d_MA_takesLine_11 : decode prog_7_method_3_code 11 = .ok (.ifCond .eq 5, 3) := by decide +kernel
theorem d_MA_takesLine_14 : decode prog_7_method_3_code 14 = .ok (.iconst 1, 1) := by decide +kernel
theorem d_MA_takesLine_15 : decode prog_7_method_3_code 15 = .ok (.ireturn, 1) := by decide +kernel
theorem d_MA_takesLine_16 : decode prog_7_method_3_code 16 = .ok (.aload_n 0, 1) := by decide +kernel
theorem d_MA_takesLine_17 : decode prog_7_method_3_code 17 = .ok (.ldc 68, 2) := by decide +kernel
theorem d_MA_takesLine_19 : decode prog_7_method_3_code 19 = .ok (.invokevirtual 70, 3) := by decide +kernel
theorem d_MA_takesLine_22 : decode prog_7_method_3_code 22 = .ok (.ifCond .eq 10, 3) := by decide +kernel
theorem d_MA_takesLine_25 : decode prog_7_method_3_code 25 = .ok (.aload_n 0, 1) := by decide +kernel
theorem d_MA_takesLine_26 : decode prog_7_method_3_code 26 = .ok (.invokevirtual 74, 3) := by decide +kernel
theorem d_MA_takesLine_29 : decode prog_7_method_3_code 29 = .ok (.goto 7, 3) := by decide +kernel
theorem d_MA_takesLine_32 : decode prog_7_method_3_code 32 = .ok (.aload_n 0, 1) := by decide +kernel
theorem d_MA_takesLine_33 : decode prog_7_method_3_code 33 = .ok (.invokevirtual 77, 3) := by decide +kernel
theorem d_MA_takesLine_36 : decode prog_7_method_3_code 36 = .ok (.ireturn, 1) := by decide +kernel
theorem d_MA_takesClassLine_0 : decode prog_7_method_4_code 0 = .ok (.aload_n 0, 1) := by decide +kernel
theorem d_MA_takesClassLine_1 : decode prog_7_method_4_code 1 = .ok (.getfield 49, 3) := by decide +kernel
theorem d_MA_takesClassLine_4 : decode prog_7_method_4_code 4 = .ok (.bipush 8, 2) := by decide +kernel
theorem d_MA_takesClassLine_6 : decode prog_7_method_4_code 6 = .ok (.if_icmp .ne 5, 3) := by decide +kernel
theorem d_MA_takesClassLine_9 : decode prog_7_method_4_code 9 = .ok (.iconst 0, 1) := by decide +kernel
theorem d_MA_takesClassLine_10 : decode prog_7_method_4_code 10 = .ok (.ireturn, 1) := by decide +kernel
theorem d_MA_takesClassLine_11 : decode prog_7_method_4_code 11 = .ok (.aload_n 0, 1) := by decide +kernel
theorem d_MA_takesClassLine_12 : decode prog_7_method_4_code 12 = .ok (.getfield 20, 3) := by decide +kernel
theorem d_MA_takesClassLine_15 : decode prog_7_method_4_code 15 = .ok (.aload_n 0, 1) := by decide +kernel
theorem d_MA_takesClassLine_16 : decode prog_7_method_4_code 16 = .ok (.getfield 49, 3) := by decide +kernel
theorem d_MA_takesClassLine_19 : decode prog_7_method_4_code 19 = .ok (.aaload, 1) := by decide +kernel
theorem d_MA_takesClassLine_20 : decode prog_7_method_4_code 20 = .ok (.astore_n 1, 1) := by decide +kernel
theorem d_MA_takesClassLine_21 : decode prog_7_method_4_code 21 = .ok (.aload_n 0, 1) := by decide +kernel
theorem d_MA_takesClassLine_22 : decode prog_7_method_4_code 22 = .ok (.aload_n 1, 1) := by decide +kernel
theorem d_MA_takesClassLine_23 : decode prog_7_method_4_code 23 = .ok (.getfield 80, 3) := by decide +kernel
theorem d_MA_takesClassLine_26 : decode prog_7_method_4_code 26 = .ok (.bipush 40, 2) := by decide +kernel
theorem d_MA_takesClassLine_28 : decode prog_7_method_4_code 28 = .ok (.bipush 40, 2) := by decide +kernel
theorem d_MA_takesClassLine_30 : decode prog_7_method_4_code 30 = .ok (.invokevirtual 83, 3) := by decide +kernel
theorem d_MA_takesClassLine_33 : decode prog_7_method_4_code 33 = .ok (.ifCond .eq 43, 3) := by decide +kernel
theorem d_MA_takesClassLine_36 : decode prog_7_method_4_code 36 = .ok (.aload_n 0, 1) := by decide +kernel
theorem d_MA_takesClassLine_37 : decode prog_7_method_4_code 37 = .ok (.ldc 87, 2) := by decide +kernel
theorem d_MA_takesClassLine_39 : decode prog_7_method_4_code 39 = .ok (.invokevirtual 70, 3) := by decide +kernel
theorem d_MA_takesClassLine_42 : decode prog_7_method_4_code 42 = .ok (.ifCond .eq 34, 3) := by decide +kernel
theorem d_MA_takesClassLine_45 : decode prog_7_method_4_code 45 = .ok (.aload_n 0, 1) := by decide +kernel
theorem d_MA_takesClassLine_46 : decode prog_7_method_4_code 46 = .ok (.aload_n 1, 1) := by decide +kernel
theorem d_MA_takesClassLine_47 : decode prog_7_method_4_code 47 = .ok (.getfield 89, 3) := by decide +kernel
theorem d_MA_takesClassLine_50 : decode prog_7_method_4_code 50 = .ok (.bipush 40, 2) := by decide +kernel
theorem d_MA_takesClassLine_52 : decode prog_7_method_4_code 52 = .ok (.bipush 40, 2) := by decide +kernel
theorem d_MA_takesClassLine_54 : decode prog_7_method_4_code 54 = .ok (.invokevirtual 83, 3) := by decide +kernel
theorem d_MA_takesClassLine_57 : decode prog_7_method_4_code 57 = .ok (.ifCond .eq 19, 3) := by decide +kernel
theorem d_MA_takesClassLine_60 : decode prog_7_method_4_code 60 = .ok (.aload_n 0, 1) := by decide +kernel
theorem d_MA_takesClassLine_61 : decode prog_7_method_4_code 61 = .ok (.ldc 92, 2) := by decide +kernel
theorem d_MA_takesClassLine_63 : decode prog_7_method_4_code 63 = .ok (.invokevirtual 70, 3) := by decide +kernel
theorem d_MA_takesClassLine_66 : decode prog_7_method_4_code 66 = .ok (.ifCond .eq 10, 3) := by decide +kernel
theorem d_MA_takesClassLine_69 : decode prog_7_method_4_code 69 = .ok (.aload_n 0, 1) := by decide +kernel
theorem d_MA_takesClassLine_70 : decode prog_7_method_4_code 70 = .ok (.invokevirtual 61, 3) := by decide +kernel
theorem d_MA_takesClassLine_73 : decode prog_7_method_4_code 73 = .ok (.ifCond .ne 5, 3) := by decide +kernel
theorem d_MA_takesClassLine_76 : decode prog_7_method_4_code 76 = .ok (.iconst 0, 1) := by decide +kernel
theorem d_MA_takesClassLine_77 : decode prog_7_method_4_code 77 = .ok (.ireturn, 1) := by decide +kernel
theorem d_MA_takesClassLine_78 : decode prog_7_method_4_code 78 = .ok (.aload_n 0, 1) := by decide +kernel
theorem d_MA_takesClassLine_79 : decode prog_7_method_4_code 79 = .ok (.aload_n 1, 1) := by decide +kernel
theorem d_MA_takesClassLine_80 : decode prog_7_method_4_code 80 = .ok (.getfield 80, 3) := by decide +kernel
theorem d_MA_takesClassLine_83 : decode prog_7_method_4_code 83 = .ok (.invokevirtual 94, 3) := by decide +kernel
theorem d_MA_takesClassLine_86 : decode prog_7_method_4_code 86 = .ok (.ifnonnull 14, 3) := by decide +kernel
theorem d_MA_takesClassLine_89 : decode prog_7_method_4_code 89 = .ok (.aload_n 0, 1) := by decide +kernel
theorem d_MA_takesClassLine_90 : decode prog_7_method_4_code 90 = .ok (.aload_n 1, 1) := by decide +kernel
theorem d_MA_takesClassLine_91 : decode prog_7_method_4_code 91 = .ok (.getfield 89, 3) := by decide +kernel
theorem d_MA_takesClassLine_94 : decode prog_7_method_4_code 94 = .ok (.invokevirtual 98, 3) := by decide +kernel
theorem d_MA_takesClassLine_97 : decode prog_7_method_4_code 97 = .ok (.ifnull 5, 3) := by decide +kernel
theorem d_MA_takesClassLine_100 : decode prog_7_method_4_code 100 = .ok (.iconst 0, 1) := by decide +kernel
theorem d_MA_takesClassLine_101 : decode prog_7_method_4_code 101 = .ok (.ireturn, 1) := by decide +kernel
theorem d_MA_takesClassLine_102 : decode prog_7_method_4_code 102 = .ok (.aload_n 1, 1) := by decide +kernel
theorem d_MA_takesClassLine_103 : decode prog_7_method_4_code 103 = .ok (.aload_n 0, 1) := by decide +kernel
theorem d_MA_takesClassLine_104 : decode prog_7_method_4_code 104 = .ok (.getfield 52, 3) := by decide +kernel
theorem d_MA_takesClassLine_107 : decode prog_7_method_4_code 107 = .ok (.putfield 101, 3) := by decide +kernel
theorem d_MA_takesClassLine_110 : decode prog_7_method_4_code 110 = .ok (.aload_n 1, 1) := by decide +kernel
theorem d_MA_takesClassLine_111 : decode prog_7_method_4_code 111 = .ok (.aload_n 0, 1) := by decide +kernel
theorem d_MA_takesClassLine_112 : decode prog_7_method_4_code 112 = .ok (.getfield 52, 3) := by decide +kernel
theorem d_MA_takesClassLine_115 : decode prog_7_method_4_code 115 = .ok (.putfield 104, 3) := by decide +kernel
theorem d_MA_takesClassLine_118 : decode prog_7_method_4_code 118 = .ok (.aload_n 1, 1) := by decide +kernel
theorem d_MA_takesClassLine_119 : decode prog_7_method_4_code 119 = .ok (.iconst 0, 1) := by decide +kernel
theorem d_MA_takesClassLine_120 : decode prog_7_method_4_code 120 = .ok (.putfield 107, 3) := by decide +kernel
theorem d_MA_takesClassLine_123 : decode prog_7_method_4_code 123 = .ok (.aload_n 0, 1) := by decide +kernel
theorem d_MA_takesClassLine_124 : decode prog_7_method_4_code 124 = .ok (.dup, 1) := by decide +kernel
theorem d_MA_takesClassLine_125 : decode prog_7_method_4_code 125 = .ok (.getfield 49, 3) := by decide +kernel
theorem d_MA_takesClassLine_128 : decode prog_7_method_4_code 128 = .ok (.iconst 1, 1) := by decide +kernel
theorem d_MA_takesClassLine_129 : decode prog_7_method_4_code 129 = .ok (.iadd, 1) := by decide +kernel
theorem d_MA_takesClassLine_130 : decode prog_7_method_4_code 130 = .ok (.putfield 49, 3) := by decide +kernel
theorem d_MA_takesClassLine_133 : decode prog_7_method_4_code 133 = .ok (.iconst 1, 1) := by decide +kernel
theorem d_MA_takesClassLine_134 : decode prog_7_method_4_code 134 = .ok (.ireturn, 1) := by decide +kernel
theorem d_MA_takesMethodLine_0 : decode prog_7_method_5_code 0 = .ok (.aload_n 0, 1) := by decide +kernel
theorem d_MA_takesMethodLine_1 : decode prog_7_method_5_code 1 = .ok (.getfield 49, 3) := by decide +kernel
theorem d_MA_takesMethodLine_4 : decode prog_7_method_5_code 4 = .ok (.ifCond .eq 12, 3) := by decide +kernel
theorem d_MA_takesMethodLine_7 : decode prog_7_method_5_code 7 = .ok (.aload_n 0, 1) := by decide +kernel
theorem d_MA_takesMethodLine_8 : decode prog_7_method_5_code 8 = .ok (.getfield 52, 3) := by decide +kernel
theorem d_MA_takesMethodLine_11 : decode prog_7_method_5_code 11 = .ok (.bipush 32, 2) := by decide +kernel
theorem d_MA_takesMethodLine_13 : decode prog_7_method_5_code 13 = .ok (.if_icmp .ne 5, 3) := by decide +kernel
theorem d_MA_takesMethodLine_16 : decode prog_7_method_5_code 16 = .ok (.iconst 0, 1) := by decide +kernel
theorem d_MA_takesMethodLine_17 : decode prog_7_method_5_code 17 = .ok (.ireturn, 1) := by decide +kernel
theorem d_MA_takesMethodLine_18 : decode prog_7_method_5_code 18 = .ok (.aload_n 0, 1) := by decide +kernel
theorem d_MA_takesMethodLine_19 : decode prog_7_method_5_code 19 = .ok (.getfield 27, 3) := by decide +kernel
theorem d_MA_takesMethodLine_22 : decode prog_7_method_5_code 22 = .ok (.aload_n 0, 1) := by decide +kernel
theorem d_MA_takesMethodLine_23 : decode prog_7_method_5_code 23 = .ok (.getfield 52, 3) := by decide +kernel
theorem d_MA_takesMethodLine_26 : decode prog_7_method_5_code 26 = .ok (.aaload, 1) := by decide +kernel
theorem d_MA_takesMethodLine_27 : decode prog_7_method_5_code 27 = .ok (.astore_n 1, 1) := by decide +kernel
theorem d_MA_takesMethodLine_28 : decode prog_7_method_5_code 28 = .ok (.aload_n 1, 1) := by decide +kernel
theorem d_MA_takesMethodLine_29 : decode prog_7_method_5_code 29 = .ok (.aload_n 0, 1) := by decide +kernel
theorem d_MA_takesMethodLine_30 : decode prog_7_method_5_code 30 = .ok (.getfield 49, 3) := by decide +kernel
theorem d_MA_takesMethodLine_33 : decode prog_7_method_5_code 33 = .ok (.iconst 1, 1) := by decide +kernel
theorem d_MA_takesMethodLine_34 : decode prog_7_method_5_code 34 = .ok (.isub, 1) := by decide +kernel
theorem d_MA_takesMethodLine_35 : decode prog_7_method_5_code 35 = .ok (.putfield 108, 3) := by decide +kernel
theorem d_MA_takesMethodLine_38 : decode prog_7_method_5_code 38 = .ok (.aload_n 0, 1) := by decide +kernel
theorem d_MA_takesMethodLine_39 : decode prog_7_method_5_code 39 = .ok (.aload_n 1, 1) := by decide +kernel
theorem d_MA_takesMethodLine_40 : decode prog_7_method_5_code 40 = .ok (.invokevirtual 111, 3) := by decide +kernel
theorem d_MA_takesMethodLine_43 : decode prog_7_method_5_code 43 = .ok (.ifCond .eq 49, 3) := by decide +kernel
theorem d_MA_takesMethodLine_46 : decode prog_7_method_5_code 46 = .ok (.aload_n 0, 1) := by decide +kernel
theorem d_MA_takesMethodLine_47 : decode prog_7_method_5_code 47 = .ok (.aload_n 1, 1) := by decide +kernel
theorem d_MA_takesMethodLine_48 : decode prog_7_method_5_code 48 = .ok (.invokevirtual 115, 3) := by decide +kernel
theorem d_MA_takesMethodLine_51 : decode prog_7_method_5_code 51 = .ok (.ifCond .eq 41, 3) := by decide +kernel
theorem d_MA_takesMethodLine_54 : decode prog_7_method_5_code 54 = .ok (.aload_n 0, 1) := by decide +kernel
theorem d_MA_takesMethodLine_55 : decode prog_7_method_5_code 55 = .ok (.aload_n 1, 1) := by decide +kernel
theorem d_MA_takesMethodLine_56 : decode prog_7_method_5_code 56 = .ok (.invokevirtual 118, 3) := by decide +kernel
theorem d_MA_takesMethodLine_59 : decode prog_7_method_5_code 59 = .ok (.ifCond .eq 33, 3) := by decide +kernel
theorem d_MA_takesMethodLine_62 : decode prog_7_method_5_code 62 = .ok (.aload_n 0, 1) := by decide +kernel
theorem d_MA_takesMethodLine_63 : decode prog_7_method_5_code 63 = .ok (.ldc 87, 2) := by decide +kernel
theorem d_MA_takesMethodLine_65 : decode prog_7_method_5_code 65 = .ok (.invokevirtual 70, 3) := by decide +kernel
theorem d_MA_takesMethodLine_68 : decode prog_7_method_5_code 68 = .ok (.ifCond .eq 24, 3) := by decide +kernel
theorem d_MA_takesMethodLine_71 : decode prog_7_method_5_code 71 = .ok (.aload_n 0, 1) := by decide +kernel
theorem d_MA_takesMethodLine_72 : decode prog_7_method_5_code 72 = .ok (.aload_n 1, 1) := by decide +kernel
theorem d_MA_takesMethodLine_73 : decode prog_7_method_5_code 73 = .ok (.getfield 121, 3) := by decide +kernel
theorem d_MA_takesMethodLine_76 : decode prog_7_method_5_code 76 = .ok (.iconst 1, 1) := by decide +kernel
theorem d_MA_takesMethodLine_77 : decode prog_7_method_5_code 77 = .ok (.bipush 40, 2) := by decide +kernel
theorem d_MA_takesMethodLine_79 : decode prog_7_method_5_code 79 = .ok (.invokevirtual 83, 3) := by decide +kernel
theorem d_MA_takesMethodLine_82 : decode prog_7_method_5_code 82 = .ok (.ifCond .eq 10, 3) := by decide +kernel
theorem d_MA_takesMethodLine_85 : decode prog_7_method_5_code 85 = .ok (.aload_n 0, 1) := by decide +kernel
theorem d_MA_takesMethodLine_86 : decode prog_7_method_5_code 86 = .ok (.invokevirtual 61, 3) := by decide +kernel
theorem d_MA_takesMethodLine_89 : decode prog_7_method_5_code 89 = .ok (.ifCond .ne 5, 3) := by decide +kernel
theorem d_MA_takesMethodLine_92 : decode prog_7_method_5_code 92 = .ok (.iconst 0, 1) := by decide +kernel
theorem d_MA_takesMethodLine_93 : decode prog_7_method_5_code 93 = .ok (.ireturn, 1) := by decide +kernel
theorem d_MA_takesMethodLine_94 : decode prog_7_method_5_code 94 = .ok (.aload_n 0, 1) := by decide +kernel
theorem d_MA_takesMethodLine_95 : decode prog_7_method_5_code 95 = .ok (.aload_n 1, 1) := by decide +kernel
theorem d_MA_takesMethodLine_96 : decode prog_7_method_5_code 96 = .ok (.aload_n 0, 1) := by decide +kernel
theorem d_MA_takesMethodLine_97 : decode prog_7_method_5_code 97 = .ok (.getfield 20, 3) := by decide +kernel
theorem d_MA_takesMethodLine_100 : decode prog_7_method_5_code 100 = .ok (.aload_n 0, 1) := by decide +kernel
theorem d_MA_takesMethodLine_101 : decode prog_7_method_5_code 101 = .ok (.getfield 49, 3) := by decide +kernel
theorem d_MA_takesMethodLine_104 : decode prog_7_method_5_code 104 = .ok (.iconst 1, 1) := by decide +kernel
theorem d_MA_takesMethodLine_105 : decode prog_7_method_5_code 105 = .ok (.isub, 1) := by decide +kernel
theorem d_MA_takesMethodLine_106 : decode prog_7_method_5_code 106 = .ok (.aaload, 1) := by decide +kernel
theorem d_MA_takesMethodLine_107 : decode prog_7_method_5_code 107 = .ok (.invokevirtual 122, 3) := by decide +kernel
theorem d_MA_takesMethodLine_110 : decode prog_7_method_5_code 110 = .ok (.iconst 1, 1) := by decide +kernel
theorem d_MA_takesMethodLine_111 : decode prog_7_method_5_code 111 = .ok (.ireturn, 1) := by decide +kernel
theorem d_MA_takesRange_0 : decode prog_7_method_6_code 0 = .ok (.aload_n 1, 1) := by decide +kernel
theorem d_MA_takesRange_1 : decode prog_7_method_6_code 1 = .ok (.iconst (-1), 1) := by decide +kernel
theorem d_MA_takesRange_2 : decode prog_7_method_6_code 2 = .ok (.putfield 126, 3) := by decide +kernel
theorem d_MA_takesRange_5 : decode prog_7_method_6_code 5 = .ok (.aload_n 1, 1) := by decide +kernel
theorem d_MA_takesRange_6 : decode prog_7_method_6_code 6 = .ok (.iconst (-1), 1) := by decide +kernel
theorem d_MA_takesRange_7 : decode prog_7_method_6_code 7 = .ok (.putfield 129, 3) := by decide +kernel
theorem d_MA_takesRange_10 : decode prog_7_method_6_code 10 = .ok (.aload_n 0, 1) := by decide +kernel
theorem d_MA_takesRange_11 : decode prog_7_method_6_code 11 = .ok (.invokevirtual 132, 3) := by decide +kernel
theorem d_MA_takesRange_14 : decode prog_7_method_6_code 14 = .ok (.ifCond .ne 5, 3) := by decide +kernel
theorem d_MA_takesRange_17 : decode prog_7_method_6_code 17 = .ok (.iconst 1, 1) := by decide +kernel
theorem d_MA_takesRange_18 : decode prog_7_method_6_code 18 = .ok (.ireturn, 1) := by decide +kernel
theorem d_MA_takesRange_19 : decode prog_7_method_6_code 19 = .ok (.aload_n 1, 1) := by decide +kernel
theorem d_MA_takesRange_20 : decode prog_7_method_6_code 20 = .ok (.aload_n 0, 1) := by decide +kernel
theorem d_MA_takesRange_21 : decode prog_7_method_6_code 21 = .ok (.invokevirtual 135, 3) := by decide +kernel
theorem d_MA_takesRange_24 : decode prog_7_method_6_code 24 = .ok (.putfield 126, 3) := by decide +kernel
theorem d_MA_takesRange_27 : decode prog_7_method_6_code 27 = .ok (.aload_n 1, 1) := by decide +kernel
theorem d_MA_takesRange_28 : decode prog_7_method_6_code 28 = .ok (.getfield 126, 3) := by decide +kernel
theorem d_MA_takesRange_31 : decode prog_7_method_6_code 31 = .ok (.iconst (-1), 1) := by decide +kernel
theorem d_MA_takesRange_32 : decode prog_7_method_6_code 32 = .ok (.if_icmp .eq 12, 3) := by decide +kernel
theorem d_MA_takesRange_35 : decode prog_7_method_6_code 35 = .ok (.aload_n 0, 1) := by decide +kernel
theorem d_MA_takesRange_36 : decode prog_7_method_6_code 36 = .ok (.ldc 92, 2) := by decide +kernel
theorem d_MA_takesRange_38 : decode prog_7_method_6_code 38 = .ok (.invokevirtual 70, 3) := by decide +kernel
theorem d_MA_takesRange_41 : decode prog_7_method_6_code 41 = .ok (.ifCond .ne 5, 3) := by decide +kernel
theorem d_MA_takesRange_44 : decode prog_7_method_6_code 44 = .ok (.iconst 0, 1) := by decide +kernel
theorem d_MA_takesRange_45 : decode prog_7_method_6_code 45 = .ok (.ireturn, 1) := by decide +kernel
theorem d_MA_takesRange_46 : decode prog_7_method_6_code 46 = .ok (.aload_n 1, 1) := by decide +kernel
theorem d_MA_takesRange_47 : decode prog_7_method_6_code 47 = .ok (.aload_n 0, 1) := by decide +kernel
theorem d_MA_takesRange_48 : decode prog_7_method_6_code 48 = .ok (.invokevirtual 135, 3) := by decide +kernel
theorem d_MA_takesRange_51 : decode prog_7_method_6_code 51 = .ok (.putfield 129, 3) := by decide +kernel
theorem d_MA_takesRange_54 : decode prog_7_method_6_code 54 = .ok (.aload_n 1, 1) := by decide +kernel
theorem d_MA_takesRange_55 : decode prog_7_method_6_code 55 = .ok (.getfield 129, 3) := by decide +kernel
theorem d_MA_takesRange_58 : decode prog_7_method_6_code 58 = .ok (.iconst (-1), 1) := by decide +kernel
theorem d_MA_takesRange_59 : decode prog_7_method_6_code 59 = .ok (.if_icmp .eq 27, 3) := by decide +kernel
theorem d_MA_takesRange_62 : decode prog_7_method_6_code 62 = .ok (.aload_n 0, 1) := by decide +kernel
theorem d_MA_takesRange_63 : decode prog_7_method_6_code 63 = .ok (.ldc 92, 2) := by decide +kernel
theorem d_MA_takesRange_65 : decode prog_7_method_6_code 65 = .ok (.invokevirtual 70, 3) := by decide +kernel
theorem d_MA_takesRange_68 : decode prog_7_method_6_code 68 = .ok (.ifCond .eq 18, 3) := by decide +kernel
theorem d_MA_takesRange_71 : decode prog_7_method_6_code 71 = .ok (.aload_n 1, 1) := by decide +kernel
theorem d_MA_takesRange_72 : decode prog_7_method_6_code 72 = .ok (.getfield 126, 3) := by decide +kernel
theorem d_MA_takesRange_75 : decode prog_7_method_6_code 75 = .ok (.aload_n 1, 1) := by decide +kernel
theorem d_MA_takesRange_76 : decode prog_7_method_6_code 76 = .ok (.getfield 129, 3) := by decide +kernel
theorem d_MA_takesRange_79 : decode prog_7_method_6_code 79 = .ok (.if_icmp .gt 7, 3) := by decide +kernel
theorem d_MA_takesRange_82 : decode prog_7_method_6_code 82 = .ok (.iconst 1, 1) := by decide +kernel
theorem d_MA_takesRange_83 : decode prog_7_method_6_code 83 = .ok (.goto 4, 3) := by decide +kernel
theorem d_MA_takesRange_86 : decode prog_7_method_6_code 86 = .ok (.iconst 0, 1) := by decide +kernel
theorem d_MA_takesRange_87 : decode prog_7_method_6_code 87 = .ok (.ireturn, 1) := by decide +kernel
theorem d_MA_takesRealCall_0 : decode prog_7_method_7_code 0 = .ok (.aload_n 0, 1) := by decide +kernel
theorem d_MA_takesRealCall_1 : decode prog_7_method_7_code 1 = .ok (.aload_n 0, 1) := by decide +kernel
theorem d_MA_takesRealCall_2 : decode prog_7_method_7_code 2 = .ok (.getfield 12, 3) := by decide +kernel
theorem d_MA_takesRealCall_5 : decode prog_7_method_7_code 5 = .ok (.bipush 40, 2) := by decide +kernel
theorem d_MA_takesRealCall_7 : decode prog_7_method_7_code 7 = .ok (.bipush 40, 2) := by decide +kernel
theorem d_MA_takesRealCall_9 : decode prog_7_method_7_code 9 = .ok (.invokevirtual 83, 3) := by decide +kernel
theorem d_MA_takesRealCall_12 : decode prog_7_method_7_code 12 = .ok (.ifCond .ne 5, 3) := by decide +kernel
theorem d_MA_takesRealCall_15 : decode prog_7_method_7_code 15 = .ok (.iconst 0, 1) := by decide +kernel
theorem d_MA_takesRealCall_16 : decode prog_7_method_7_code 16 = .ok (.ireturn, 1) := by decide +kernel
theorem d_MA_takesRealCall_17 : decode prog_7_method_7_code 17 = .ok (.aload_n 0, 1) := by decide +kernel
theorem d_MA_takesRealCall_18 : decode prog_7_method_7_code 18 = .ok (.getfield 12, 3) := by decide +kernel
theorem d_MA_takesRealCall_21 : decode prog_7_method_7_code 21 = .ok (.invokevirtual 139, 3) := by decide +kernel
theorem d_MA_takesRealCall_24 : decode prog_7_method_7_code 24 = .ok (.istore_n 2, 1) := by decide +kernel
theorem d_MA_takesRealCall_25 : decode prog_7_method_7_code 25 = .ok (.iload_n 2, 1) := by decide +kernel
theorem d_MA_takesRealCall_26 : decode prog_7_method_7_code 26 = .ok (.iconst (-1), 1) := by decide +kernel
theorem d_MA_takesRealCall_27 : decode prog_7_method_7_code 27 = .ok (.if_icmp .ne 55, 3) := by decide +kernel
theorem d_MA_takesRealCall_30 : decode prog_7_method_7_code 30 = .ok (.aload_n 0, 1) := by decide +kernel
theorem d_MA_takesRealCall_31 : decode prog_7_method_7_code 31 = .ok (.getfield 20, 3) := by decide +kernel
theorem d_MA_takesRealCall_34 : decode prog_7_method_7_code 34 = .ok (.aload_n 1, 1) := by decide +kernel
theorem d_MA_takesRealCall_35 : decode prog_7_method_7_code 35 = .ok (.getfield 108, 3) := by decide +kernel
theorem d_MA_takesRealCall_38 : decode prog_7_method_7_code 38 = .ok (.aaload, 1) := by decide +kernel
theorem d_MA_takesRealCall_39 : decode prog_7_method_7_code 39 = .ok (.getfield 80, 3) := by decide +kernel
theorem d_MA_takesRealCall_42 : decode prog_7_method_7_code 42 = .ok (.astore_n 3, 1) := by decide +kernel
theorem d_MA_takesRealCall_43 : decode prog_7_method_7_code 43 = .ok (.aload_n 1, 1) := by decide +kernel
theorem d_MA_takesRealCall_44 : decode prog_7_method_7_code 44 = .ok (.getfield 142, 3) := by decide +kernel
theorem d_MA_takesRealCall_47 : decode prog_7_method_7_code 47 = .ok (.aload_n 3, 1) := by decide +kernel
theorem d_MA_takesRealCall_48 : decode prog_7_method_7_code 48 = .ok (.getfield 145, 3) := by decide +kernel
theorem d_MA_takesRealCall_51 : decode prog_7_method_7_code 51 = .ok (.aload_n 3, 1) := by decide +kernel
theorem d_MA_takesRealCall_52 : decode prog_7_method_7_code 52 = .ok (.getfield 148, 3) := by decide +kernel
theorem d_MA_takesRealCall_55 : decode prog_7_method_7_code 55 = .ok (.invokevirtual 151, 3) := by decide +kernel
theorem d_MA_takesRealCall_58 : decode prog_7_method_7_code 58 = .ok (.aload_n 1, 1) := by decide +kernel
theorem d_MA_takesRealCall_59 : decode prog_7_method_7_code 59 = .ok (.getfield 155, 3) := by decide +kernel
theorem d_MA_takesRealCall_62 : decode prog_7_method_7_code 62 = .ok (.aload_n 0, 1) := by decide +kernel
theorem d_MA_takesRealCall_63 : decode prog_7_method_7_code 63 = .ok (.getfield 12, 3) := by decide +kernel
theorem d_MA_takesRealCall_66 : decode prog_7_method_7_code 66 = .ok (.getfield 145, 3) := by decide +kernel
theorem d_MA_takesRealCall_69 : decode prog_7_method_7_code 69 = .ok (.aload_n 0, 1) := by decide +kernel
theorem d_MA_takesRealCall_70 : decode prog_7_method_7_code 70 = .ok (.getfield 12, 3) := by decide +kernel
theorem d_MA_takesRealCall_73 : decode prog_7_method_7_code 73 = .ok (.getfield 148, 3) := by decide +kernel
theorem d_MA_takesRealCall_76 : decode prog_7_method_7_code 76 = .ok (.invokevirtual 151, 3) := by decide +kernel
theorem d_MA_takesRealCall_79 : decode prog_7_method_7_code 79 = .ok (.goto 35, 3) := by decide +kernel
theorem d_MA_takesRealCall_82 : decode prog_7_method_7_code 82 = .ok (.aload_n 1, 1) := by decide +kernel
theorem d_MA_takesRealCall_83 : decode prog_7_method_7_code 83 = .ok (.getfield 142, 3) := by decide +kernel
theorem d_MA_takesRealCall_86 : decode prog_7_method_7_code 86 = .ok (.aload_n 0, 1) := by decide +kernel
theorem d_MA_takesRealCall_87 : decode prog_7_method_7_code 87 = .ok (.getfield 12, 3) := by decide +kernel
theorem d_MA_takesRealCall_90 : decode prog_7_method_7_code 90 = .ok (.getfield 145, 3) := by decide +kernel
theorem d_MA_takesRealCall_93 : decode prog_7_method_7_code 93 = .ok (.iload_n 2, 1) := by decide +kernel
theorem d_MA_takesRealCall_94 : decode prog_7_method_7_code 94 = .ok (.invokevirtual 151, 3) := by decide +kernel
theorem d_MA_takesRealCall_97 : decode prog_7_method_7_code 97 = .ok (.aload_n 1, 1) := by decide +kernel
theorem d_MA_takesRealCall_98 : decode prog_7_method_7_code 98 = .ok (.getfield 155, 3) := by decide +kernel
theorem d_MA_takesRealCall_101 : decode prog_7_method_7_code 101 = .ok (.iload_n 2, 1) := by decide +kernel
theorem d_MA_takesRealCall_102 : decode prog_7_method_7_code 102 = .ok (.iconst 1, 1) := by decide +kernel
theorem d_MA_takesRealCall_103 : decode prog_7_method_7_code 103 = .ok (.iadd, 1) := by decide +kernel
theorem d_MA_takesRealCall_104 : decode prog_7_method_7_code 104 = .ok (.aload_n 0, 1) := by decide +kernel
theorem d_MA_takesRealCall_105 : decode prog_7_method_7_code 105 = .ok (.getfield 12, 3) := by decide +kernel
theorem d_MA_takesRealCall_108 : decode prog_7_method_7_code 108 = .ok (.getfield 148, 3) := by decide +kernel
theorem d_MA_takesRealCall_111 : decode prog_7_method_7_code 111 = .ok (.invokevirtual 151, 3) := by decide +kernel
theorem d_MA_takesRealCall_114 : decode prog_7_method_7_code 114 = .ok (.iconst 1, 1) := by decide +kernel
theorem d_MA_takesRealCall_115 : decode prog_7_method_7_code 115 = .ok (.ireturn, 1) := by decide +kernel
theorem d_MA_takesRealRange_0 : decode prog_7_method_8_code 0 = .ok (.aload_n 1, 1) := by decide +kernel
theorem d_MA_takesRealRange_1 : decode prog_7_method_8_code 1 = .ok (.aload_n 1, 1) := by decide +kernel
theorem d_MA_takesRealRange_2 : decode prog_7_method_8_code 2 = .ok (.getfield 126, 3) := by decide +kernel
theorem d_MA_takesRealRange_5 : decode prog_7_method_8_code 5 = .ok (.putfield 158, 3) := by decide +kernel
theorem d_MA_takesRealRange_8 : decode prog_7_method_8_code 8 = .ok (.aload_n 1, 1) := by decide +kernel
theorem d_MA_takesRealRange_9 : decode prog_7_method_8_code 9 = .ok (.aload_n 1, 1) := by decide +kernel
theorem d_MA_takesRealRange_10 : decode prog_7_method_8_code 10 = .ok (.getfield 129, 3) := by decide +kernel
theorem d_MA_takesRealRange_13 : decode prog_7_method_8_code 13 = .ok (.putfield 161, 3) := by decide +kernel
theorem d_MA_takesRealRange_16 : decode prog_7_method_8_code 16 = .ok (.aload_n 1, 1) := by decide +kernel
theorem d_MA_takesRealRange_17 : decode prog_7_method_8_code 17 = .ok (.invokevirtual 164, 3) := by decide +kernel
theorem d_MA_takesRealRange_20 : decode prog_7_method_8_code 20 = .ok (.ifCond .eq 12, 3) := by decide +kernel
theorem d_MA_takesRealRange_23 : decode prog_7_method_8_code 23 = .ok (.aload_n 0, 1) := by decide +kernel
theorem d_MA_takesRealRange_24 : decode prog_7_method_8_code 24 = .ok (.ldc 92, 2) := by decide +kernel
theorem d_MA_takesRealRange_26 : decode prog_7_method_8_code 26 = .ok (.invokevirtual 70, 3) := by decide +kernel
theorem d_MA_takesRealRange_29 : decode prog_7_method_8_code 29 = .ok (.ifCond .ne 5, 3) := by decide +kernel
theorem d_MA_takesRealRange_32 : decode prog_7_method_8_code 32 = .ok (.iconst 1, 1) := by decide +kernel
theorem d_MA_takesRealRange_33 : decode prog_7_method_8_code 33 = .ok (.ireturn, 1) := by decide +kernel
theorem d_MA_takesRealRange_34 : decode prog_7_method_8_code 34 = .ok (.aload_n 1, 1) := by decide +kernel
theorem d_MA_takesRealRange_35 : decode prog_7_method_8_code 35 = .ok (.aload_n 0, 1) := by decide +kernel
theorem d_MA_takesRealRange_36 : decode prog_7_method_8_code 36 = .ok (.invokevirtual 135, 3) := by decide +kernel
theorem d_MA_takesRealRange_39 : decode prog_7_method_8_code 39 = .ok (.putfield 158, 3) := by decide +kernel
theorem d_MA_takesRealRange_42 : decode prog_7_method_8_code 42 = .ok (.aload_n 1, 1) := by decide +kernel
theorem d_MA_takesRealRange_43 : decode prog_7_method_8_code 43 = .ok (.aload_n 1, 1) := by decide +kernel
theorem d_MA_takesRealRange_44 : decode prog_7_method_8_code 44 = .ok (.getfield 158, 3) := by decide +kernel
theorem d_MA_takesRealRange_47 : decode prog_7_method_8_code 47 = .ok (.putfield 161, 3) := by decide +kernel
theorem d_MA_takesRealRange_50 : decode prog_7_method_8_code 50 = .ok (.aload_n 1, 1) := by decide +kernel
theorem d_MA_takesRealRange_51 : decode prog_7_method_8_code 51 = .ok (.getfield 158, 3) := by decide +kernel
theorem d_MA_takesRealRange_54 : decode prog_7_method_8_code 54 = .ok (.iconst (-1), 1) := by decide +kernel
theorem d_MA_takesRealRange_55 : decode prog_7_method_8_code 55 = .ok (.if_icmp .ne 5, 3) := by decide +kernel
theorem d_MA_takesRealRange_58 : decode prog_7_method_8_code 58 = .ok (.iconst 0, 1) := by decide +kernel
theorem d_MA_takesRealRange_59 : decode prog_7_method_8_code 59 = .ok (.ireturn, 1) := by decide +kernel
theorem d_MA_takesRealRange_60 : decode prog_7_method_8_code 60 = .ok (.aload_n 0, 1) := by decide +kernel
theorem d_MA_takesRealRange_61 : decode prog_7_method_8_code 61 = .ok (.ldc 92, 2) := by decide +kernel
theorem d_MA_takesRealRange_63 : decode prog_7_method_8_code 63 = .ok (.invokevirtual 70, 3) := by decide +kernel
theorem d_MA_takesRealRange_66 : decode prog_7_method_8_code 66 = .ok (.ifCond .eq 11, 3) := by decide +kernel
theorem d_MA_takesRealRange_69 : decode prog_7_method_8_code 69 = .ok (.aload_n 1, 1) := by decide +kernel
theorem d_MA_takesRealRange_70 : decode prog_7_method_8_code 70 = .ok (.aload_n 0, 1) := by decide +kernel
theorem d_MA_takesRealRange_71 : decode prog_7_method_8_code 71 = .ok (.invokevirtual 135, 3) := by decide +kernel
theorem d_MA_takesRealRange_74 : decode prog_7_method_8_code 74 = .ok (.putfield 161, 3) := by decide +kernel
theorem d_MA_takesRealRange_77 : decode prog_7_method_8_code 77 = .ok (.aload_n 1, 1) := by decide +kernel
theorem d_MA_takesRealRange_78 : decode prog_7_method_8_code 78 = .ok (.getfield 161, 3) := by decide +kernel
theorem d_MA_takesRealRange_81 : decode prog_7_method_8_code 81 = .ok (.iconst (-1), 1) := by decide +kernel
theorem d_MA_takesRealRange_82 : decode prog_7_method_8_code 82 = .ok (.if_icmp .eq 35, 3) := by decide +kernel
theorem d_MA_takesRealRange_85 : decode prog_7_method_8_code 85 = .ok (.aload_n 1, 1) := by decide +kernel
theorem d_MA_takesRealRange_86 : decode prog_7_method_8_code 86 = .ok (.invokevirtual 167, 3) := by decide +kernel
theorem d_MA_takesRealRange_89 : decode prog_7_method_8_code 89 = .ok (.ifCond .ne 24, 3) := by decide +kernel
theorem d_MA_takesRealRange_92 : decode prog_7_method_8_code 92 = .ok (.aload_n 1, 1) := by decide +kernel
theorem d_MA_takesRealRange_93 : decode prog_7_method_8_code 93 = .ok (.getfield 161, 3) := by decide +kernel
theorem d_MA_takesRealRange_96 : decode prog_7_method_8_code 96 = .ok (.aload_n 1, 1) := by decide +kernel
theorem d_MA_takesRealRange_97 : decode prog_7_method_8_code 97 = .ok (.getfield 158, 3) := by decide +kernel
theorem d_MA_takesRealRange_100 : decode prog_7_method_8_code 100 = .ok (.isub, 1) := by decide +kernel
theorem d_MA_takesRealRange_101 : decode prog_7_method_8_code 101 = .ok (.aload_n 1, 1) := by decide +kernel
theorem d_MA_takesRealRange_102 : decode prog_7_method_8_code 102 = .ok (.getfield 129, 3) := by decide +kernel
theorem d_MA_takesRealRange_105 : decode prog_7_method_8_code 105 = .ok (.aload_n 1, 1) := by decide +kernel
theorem d_MA_takesRealRange_106 : decode prog_7_method_8_code 106 = .ok (.getfield 126, 3) := by decide +kernel
theorem d_MA_takesRealRange_109 : decode prog_7_method_8_code 109 = .ok (.isub, 1) := by decide +kernel
theorem d_MA_takesRealRange_110 : decode prog_7_method_8_code 110 = .ok (.if_icmp .ne 7, 3) := by decide +kernel
theorem d_MA_takesRealRange_113 : decode prog_7_method_8_code 113 = .ok (.iconst 1, 1) := by decide +kernel
theorem d_MA_takesRealRange_114 : decode prog_7_method_8_code 114 = .ok (.goto 4, 3) := by decide +kernel
theorem d_MA_takesRealRange_117 : decode prog_7_method_8_code 117 = .ok (.iconst 0, 1) := by decide +kernel
theorem d_MA_takesRealRange_118 : decode prog_7_method_8_code 118 = .ok (.ireturn, 1) := by decide +kernel
theorem d_MA_enterMethodLine_0 : decode prog_7_method_9_code 0 = .ok (.aload_n 1, 1) := by decide +kernel
theorem d_MA_enterMethodLine_1 : decode prog_7_method_9_code 1 = .ok (.iconst 0, 1) := by decide +kernel
theorem d_MA_enterMethodLine_2 : decode prog_7_method_9_code 2 = .ok (.putfield 170, 3) := by decide +kernel
theorem d_MA_enterMethodLine_5 : decode prog_7_method_9_code 5 = .ok (.aload_n 0, 1) := by decide +kernel
theorem d_MA_enterMethodLine_6 : decode prog_7_method_9_code 6 = .ok (.getfield 58, 3) := by decide +kernel
theorem d_MA_enterMethodLine_9 : decode prog_7_method_9_code 9 = .ok (.iconst (-1), 1) := by decide +kernel
theorem d_MA_enterMethodLine_10 : decode prog_7_method_9_code 10 = .ok (.if_icmp .eq 19, 3) := by decide +kernel
theorem d_MA_enterMethodLine_13 : decode prog_7_method_9_code 13 = .ok (.aload_n 1, 1) := by decide +kernel
theorem d_MA_enterMethodLine_14 : decode prog_7_method_9_code 14 = .ok (.aload_n 0, 1) := by decide +kernel
theorem d_MA_enterMethodLine_15 : decode prog_7_method_9_code 15 = .ok (.getfield 27, 3) := by decide +kernel
theorem d_MA_enterMethodLine_18 : decode prog_7_method_9_code 18 = .ok (.aload_n 0, 1) := by decide +kernel
theorem d_MA_enterMethodLine_19 : decode prog_7_method_9_code 19 = .ok (.getfield 58, 3) := by decide +kernel
theorem d_MA_enterMethodLine_22 : decode prog_7_method_9_code 22 = .ok (.aaload, 1) := by decide +kernel
theorem d_MA_enterMethodLine_23 : decode prog_7_method_9_code 23 = .ok (.invokevirtual 173, 3) := by decide +kernel
theorem d_MA_enterMethodLine_26 : decode prog_7_method_9_code 26 = .ok (.ifCond .ne 31, 3) := by decide +kernel
theorem d_MA_enterMethodLine_29 : decode prog_7_method_9_code 29 = .ok (.aload_n 0, 1) := by decide +kernel
theorem d_MA_enterMethodLine_30 : decode prog_7_method_9_code 30 = .ok (.aload_n 0, 1) := by decide +kernel
theorem d_MA_enterMethodLine_31 : decode prog_7_method_9_code 31 = .ok (.getfield 52, 3) := by decide +kernel
theorem d_MA_enterMethodLine_34 : decode prog_7_method_9_code 34 = .ok (.putfield 58, 3) := by decide +kernel
theorem d_MA_enterMethodLine_37 : decode prog_7_method_9_code 37 = .ok (.aload_n 0, 1) := by decide +kernel
theorem d_MA_enterMethodLine_38 : decode prog_7_method_9_code 38 = .ok (.dup, 1) := by decide +kernel
theorem d_MA_enterMethodLine_39 : decode prog_7_method_9_code 39 = .ok (.getfield 55, 3) := by decide +kernel
theorem d_MA_enterMethodLine_42 : decode prog_7_method_9_code 42 = .ok (.iconst 1, 1) := by decide +kernel
theorem d_MA_enterMethodLine_43 : decode prog_7_method_9_code 43 = .ok (.iadd, 1) := by decide +kernel
theorem d_MA_enterMethodLine_44 : decode prog_7_method_9_code 44 = .ok (.putfield 55, 3) := by decide +kernel
theorem d_MA_enterMethodLine_47 : decode prog_7_method_9_code 47 = .ok (.aload_n 2, 1) := by decide +kernel
theorem d_MA_enterMethodLine_48 : decode prog_7_method_9_code 48 = .ok (.dup, 1) := by decide +kernel
theorem d_MA_enterMethodLine_49 : decode prog_7_method_9_code 49 = .ok (.getfield 107, 3) := by decide +kernel
theorem d_MA_enterMethodLine_52 : decode prog_7_method_9_code 52 = .ok (.iconst 1, 1) := by decide +kernel
theorem d_MA_enterMethodLine_53 : decode prog_7_method_9_code 53 = .ok (.iadd, 1) := by decide +kernel
theorem d_MA_enterMethodLine_54 : decode prog_7_method_9_code 54 = .ok (.putfield 107, 3) := by decide +kernel
theorem d_MA_enterMethodLine_57 : decode prog_7_method_9_code 57 = .ok (.aload_n 0, 1) := by decide +kernel
theorem d_MA_enterMethodLine_58 : decode prog_7_method_9_code 58 = .ok (.getfield 27, 3) := by decide +kernel
theorem d_MA_enterMethodLine_61 : decode prog_7_method_9_code 61 = .ok (.aload_n 0, 1) := by decide +kernel
theorem d_MA_enterMethodLine_62 : decode prog_7_method_9_code 62 = .ok (.getfield 58, 3) := by decide +kernel
theorem d_MA_enterMethodLine_65 : decode prog_7_method_9_code 65 = .ok (.aaload, 1) := by decide +kernel
theorem d_MA_enterMethodLine_66 : decode prog_7_method_9_code 66 = .ok (.dup, 1) := by decide +kernel
theorem d_MA_enterMethodLine_67 : decode prog_7_method_9_code 67 = .ok (.getfield 170, 3) := by decide +kernel
theorem d_MA_enterMethodLine_70 : decode prog_7_method_9_code 70 = .ok (.iconst 1, 1) := by decide +kernel
theorem d_MA_enterMethodLine_71 : decode prog_7_method_9_code 71 = .ok (.iadd, 1) := by decide +kernel
theorem d_MA_enterMethodLine_72 : decode prog_7_method_9_code 72 = .ok (.putfield 170, 3) := by decide +kernel
theorem d_MA_enterMethodLine_75 : decode prog_7_method_9_code 75 = .ok (.aload_n 0, 1) := by decide +kernel
theorem d_MA_enterMethodLine_76 : decode prog_7_method_9_code 76 = .ok (.dup, 1) := by decide +kernel
theorem d_MA_enterMethodLine_77 : decode prog_7_method_9_code 77 = .ok (.getfield 52, 3) := by decide +kernel
theorem d_MA_enterMethodLine_80 : decode prog_7_method_9_code 80 = .ok (.iconst 1, 1) := by decide +kernel
theorem d_MA_enterMethodLine_81 : decode prog_7_method_9_code 81 = .ok (.iadd, 1) := by decide +kernel
theorem d_MA_enterMethodLine_82 : decode prog_7_method_9_code 82 = .ok (.putfield 52, 3) := by decide +kernel
theorem d_MA_enterMethodLine_85 : decode prog_7_method_9_code 85 = .ok (.aload_n 2, 1) := by decide +kernel
theorem d_MA_enterMethodLine_86 : decode prog_7_method_9_code 86 = .ok (.aload_n 0, 1) := by decide +kernel
theorem d_MA_enterMethodLine_87 : decode prog_7_method_9_code 87 = .ok (.getfield 52, 3) := by decide +kernel
theorem d_MA_enterMethodLine_90 : decode prog_7_method_9_code 90 = .ok (.putfield 104, 3) := by decide +kernel
theorem d_MA_enterMethodLine_93 : decode prog_7_method_9_code 93 = .ok (.return_, 1) := by decide +kernel
theorem d_MA_lineOfReal_0 : decode prog_7_method_10_code 0 = .ok (.iconst 0, 1) := by decide +kernel
theorem d_MA_lineOfReal_1 : decode prog_7_method_10_code 1 = .ok (.istore_n 2, 1) := by decide +kernel
theorem d_MA_lineOfReal_2 : decode prog_7_method_10_code 2 = .ok (.iload_n 2, 1) := by decide +kernel
theorem d_MA_lineOfReal_3 : decode prog_7_method_10_code 3 = .ok (.aload_n 0, 1) := by decide +kernel
theorem d_MA_lineOfReal_4 : decode prog_7_method_10_code 4 = .ok (.getfield 49, 3) := by decide +kernel
theorem d_MA_lineOfReal_7 : decode prog_7_method_10_code 7 = .ok (.if_icmp .ge 32, 3) := by decide +kernel
theorem d_MA_lineOfReal_10 : decode prog_7_method_10_code 10 = .ok (.aload_n 0, 1) := by decide +kernel
theorem d_MA_lineOfReal_11 : decode prog_7_method_10_code 11 = .ok (.getfield 20, 3) := by decide +kernel
theorem d_MA_lineOfReal_14 : decode prog_7_method_10_code 14 = .ok (.iload_n 2, 1) := by decide +kernel
theorem d_MA_lineOfReal_15 : decode prog_7_method_10_code 15 = .ok (.aaload, 1) := by decide +kernel
theorem d_MA_lineOfReal_16 : decode prog_7_method_10_code 16 = .ok (.getfield 80, 3) := by decide +kernel
theorem d_MA_lineOfReal_19 : decode prog_7_method_10_code 19 = .ok (.aload_n 1, 1) := by decide +kernel
theorem d_MA_lineOfReal_20 : decode prog_7_method_10_code 20 = .ok (.invokevirtual 176, 3) := by decide +kernel
theorem d_MA_lineOfReal_23 : decode prog_7_method_10_code 23 = .ok (.ifCond .eq 10, 3) := by decide +kernel
theorem d_MA_lineOfReal_26 : decode prog_7_method_10_code 26 = .ok (.aload_n 0, 1) := by decide +kernel
theorem d_MA_lineOfReal_27 : decode prog_7_method_10_code 27 = .ok (.getfield 20, 3) := by decide +kernel
theorem d_MA_lineOfReal_30 : decode prog_7_method_10_code 30 = .ok (.iload_n 2, 1) := by decide +kernel
theorem d_MA_lineOfReal_31 : decode prog_7_method_10_code 31 = .ok (.aaload, 1) := by decide +kernel
theorem d_MA_lineOfReal_32 : decode prog_7_method_10_code 32 = .ok (.areturn, 1) := by decide +kernel
theorem d_MA_lineOfReal_33 : decode prog_7_method_10_code 33 = .ok (.iinc 2 1, 3) := by decide +kernel
theorem d_MA_lineOfReal_36 : decode prog_7_method_10_code 36 = .ok (.goto (-34), 3) := by decide +kernel
theorem d_MA_lineOfReal_39 : decode prog_7_method_10_code 39 = .ok (.aconst_null, 1) := by decide +kernel
theorem d_MA_lineOfReal_40 : decode prog_7_method_10_code 40 = .ok (.areturn, 1) := by decide +kernel
theorem d_MA_lineOfShort_0 : decode prog_7_method_11_code 0 = .ok (.iconst 0, 1) := by decide +kernel
theorem d_MA_lineOfShort_1 : decode prog_7_method_11_code 1 = .ok (.istore_n 2, 1) := by decide +kernel
theorem d_MA_lineOfShort_2 : decode prog_7_method_11_code 2 = .ok (.iload_n 2, 1) := by decide +kernel
theorem d_MA_lineOfShort_3 : decode prog_7_method_11_code 3 = .ok (.aload_n 0, 1) := by decide +kernel
theorem d_MA_lineOfShort_4 : decode prog_7_method_11_code 4 = .ok (.getfield 49, 3) := by decide +kernel
theorem d_MA_lineOfShort_7 : decode prog_7_method_11_code 7 = .ok (.if_icmp .ge 32, 3) := by decide +kernel
theorem d_MA_lineOfShort_10 : decode prog_7_method_11_code 10 = .ok (.aload_n 0, 1) := by decide +kernel
theorem d_MA_lineOfShort_11 : decode prog_7_method_11_code 11 = .ok (.getfield 20, 3) := by decide +kernel
theorem d_MA_lineOfShort_14 : decode prog_7_method_11_code 14 = .ok (.iload_n 2, 1) := by decide +kernel
theorem d_MA_lineOfShort_15 : decode prog_7_method_11_code 15 = .ok (.aaload, 1) := by decide +kernel
theorem d_MA_lineOfShort_16 : decode prog_7_method_11_code 16 = .ok (.getfield 89, 3) := by decide +kernel
theorem d_MA_lineOfShort_19 : decode prog_7_method_11_code 19 = .ok (.aload_n 1, 1) := by decide +kernel
theorem d_MA_lineOfShort_20 : decode prog_7_method_11_code 20 = .ok (.invokevirtual 176, 3) := by decide +kernel
theorem d_MA_lineOfShort_23 : decode prog_7_method_11_code 23 = .ok (.ifCond .eq 10, 3) := by decide +kernel
theorem d_MA_lineOfShort_26 : decode prog_7_method_11_code 26 = .ok (.aload_n 0, 1) := by decide +kernel
theorem d_MA_lineOfShort_27 : decode prog_7_method_11_code 27 = .ok (.getfield 20, 3) := by decide +kernel
theorem d_MA_lineOfShort_30 : decode prog_7_method_11_code 30 = .ok (.iload_n 2, 1) := by decide +kernel
theorem d_MA_lineOfShort_31 : decode prog_7_method_11_code 31 = .ok (.aaload, 1) := by decide +kernel
theorem d_MA_lineOfShort_32 : decode prog_7_method_11_code 32 = .ok (.areturn, 1) := by decide +kernel
theorem d_MA_lineOfShort_33 : decode prog_7_method_11_code 33 = .ok (.iinc 2 1, 3) := by decide +kernel
theorem d_MA_lineOfShort_36 : decode prog_7_method_11_code 36 = .ok (.goto (-34), 3) := by decide +kernel
theorem d_MA_lineOfShort_39 : decode prog_7_method_11_code 39 = .ok (.aconst_null, 1) := by decide +kernel
theorem d_MA_lineOfShort_40 : decode prog_7_method_11_code 40 = .ok (.areturn, 1) := by decide +kernel
theorem d_MA_isGroup_0 : decode prog_7_method_12_code 0 = .ok (.aload_n 0, 1) := by decide +kernel
theorem d_MA_isGroup_1 : decode prog_7_method_12_code 1 = .ok (.getfield 27, 3) := by decide +kernel
theorem d_MA_isGroup_4 : decode prog_7_method_12_code 4 = .ok (.iload_n 1, 1) := by decide +kernel
theorem d_MA_isGroup_5 : decode prog_7_method_12_code 5 = .ok (.aaload, 1) := by decide +kernel
theorem d_MA_isGroup_6 : decode prog_7_method_12_code 6 = .ok (.getfield 170, 3) := by decide +kernel
theorem d_MA_isGroup_9 : decode prog_7_method_12_code 9 = .ok (.ifCond .le 23, 3) := by decide +kernel
theorem d_MA_isGroup_12 : decode prog_7_method_12_code 12 = .ok (.aload_n 0, 1) := by decide +kernel
theorem d_MA_isGroup_13 : decode prog_7_method_12_code 13 = .ok (.getfield 27, 3) := by decide +kernel
theorem d_MA_isGroup_16 : decode prog_7_method_12_code 16 = .ok (.iload_n 1, 1) := by decide +kernel
theorem d_MA_isGroup_17 : decode prog_7_method_12_code 17 = .ok (.aaload, 1) := by decide +kernel
theorem d_MA_isGroup_18 : decode prog_7_method_12_code 18 = .ok (.getfield 121, 3) := by decide +kernel
theorem d_MA_isGroup_21 : decode prog_7_method_12_code 21 = .ok (.aload_n 2, 1) := by decide +kernel
theorem d_MA_isGroup_22 : decode prog_7_method_12_code 22 = .ok (.invokevirtual 176, 3) := by decide +kernel
theorem d_MA_isGroup_25 : decode prog_7_method_12_code 25 = .ok (.ifCond .eq 7, 3) := by decide +kernel
theorem d_MA_isGroup_28 : decode prog_7_method_12_code 28 = .ok (.iconst 1, 1) := by decide +kernel
theorem d_MA_isGroup_29 : decode prog_7_method_12_code 29 = .ok (.goto 4, 3) := by decide +kernel
theorem d_MA_isGroup_32 : decode prog_7_method_12_code 32 = .ok (.iconst 0, 1) := by decide +kernel
theorem d_MA_isGroup_33 : decode prog_7_method_12_code 33 = .ok (.ireturn, 1) := by decide +kernel
theorem d_MA_firstGroup_0 : decode prog_7_method_13_code 0 = .ok (.aload_n 1, 1) := by decide +kernel
theorem d_MA_firstGroup_1 : decode prog_7_method_13_code 1 = .ok (.getfield 101, 3) := by decide +kernel
theorem d_MA_firstGroup_4 : decode prog_7_method_13_code 4 = .ok (.istore_n 3, 1) := by decide +kernel
theorem d_MA_firstGroup_5 : decode prog_7_method_13_code 5 = .ok (.iload_n 3, 1) := by decide +kernel
theorem d_MA_firstGroup_6 : decode prog_7_method_13_code 6 = .ok (.aload_n 1, 1) := by decide +kernel
theorem d_MA_firstGroup_7 : decode prog_7_method_13_code 7 = .ok (.getfield 104, 3) := by decide +kernel
theorem d_MA_firstGroup_10 : decode prog_7_method_13_code 10 = .ok (.if_icmp .ge 20, 3) := by decide +kernel
theorem d_MA_firstGroup_13 : decode prog_7_method_13_code 13 = .ok (.aload_n 0, 1) := by decide +kernel
theorem d_MA_firstGroup_14 : decode prog_7_method_13_code 14 = .ok (.iload_n 3, 1) := by decide +kernel
theorem d_MA_firstGroup_15 : decode prog_7_method_13_code 15 = .ok (.aload_n 2, 1) := by decide +kernel
theorem d_MA_firstGroup_16 : decode prog_7_method_13_code 16 = .ok (.invokevirtual 180, 3) := by decide +kernel
theorem d_MA_firstGroup_19 : decode prog_7_method_13_code 19 = .ok (.ifCond .eq 5, 3) := by decide +kernel
theorem d_MA_firstGroup_22 : decode prog_7_method_13_code 22 = .ok (.iload_n 3, 1) := by decide +kernel
theorem d_MA_firstGroup_23 : decode prog_7_method_13_code 23 = .ok (.ireturn, 1) := by decide +kernel
theorem d_MA_firstGroup_24 : decode prog_7_method_13_code 24 = .ok (.iinc 3 1, 3) := by decide +kernel
theorem d_MA_firstGroup_27 : decode prog_7_method_13_code 27 = .ok (.goto (-22), 3) := by decide +kernel
theorem d_MA_firstGroup_30 : decode prog_7_method_13_code 30 = .ok (.iconst (-1), 1) := by decide +kernel
theorem d_MA_firstGroup_31 : decode prog_7_method_13_code 31 = .ok (.ireturn, 1) := by decide +kernel
theorem d_MA_groupAround_0 : decode prog_7_method_14_code 0 = .ok (.aload_n 1, 1) := by decide +kernel
theorem d_MA_groupAround_1 : decode prog_7_method_14_code 1 = .ok (.getfield 101, 3) := by decide +kernel
theorem d_MA_groupAround_4 : decode prog_7_method_14_code 4 = .ok (.istore 4, 2) := by decide +kernel
theorem d_MA_groupAround_6 : decode prog_7_method_14_code 6 = .ok (.iload 4, 2) := by decide +kernel
theorem d_MA_groupAround_8 : decode prog_7_method_14_code 8 = .ok (.aload_n 1, 1) := by decide +kernel
theorem d_MA_groupAround_9 : decode prog_7_method_14_code 9 = .ok (.getfield 104, 3) := by decide +kernel
theorem d_MA_groupAround_12 : decode prog_7_method_14_code 12 = .ok (.if_icmp .ge 57, 3) := by decide +kernel
theorem d_MA_groupAround_15 : decode prog_7_method_14_code 15 = .ok (.aload_n 0, 1) := by decide +kernel
theorem d_MA_groupAround_16 : decode prog_7_method_14_code 16 = .ok (.getfield 27, 3) := by decide +kernel
theorem d_MA_groupAround_19 : decode prog_7_method_14_code 19 = .ok (.iload 4, 2) := by decide +kernel
theorem d_MA_groupAround_21 : decode prog_7_method_14_code 21 = .ok (.aaload, 1) := by decide +kernel
theorem d_MA_groupAround_22 : decode prog_7_method_14_code 22 = .ok (.astore 5, 2) := by decide +kernel
theorem d_MA_groupAround_24 : decode prog_7_method_14_code 24 = .ok (.aload 5, 2) := by decide +kernel
theorem d_MA_groupAround_26 : decode prog_7_method_14_code 26 = .ok (.invokevirtual 164, 3) := by decide +kernel
theorem d_MA_groupAround_29 : decode prog_7_method_14_code 29 = .ok (.ifCond .eq 34, 3) := by decide +kernel
theorem d_MA_groupAround_32 : decode prog_7_method_14_code 32 = .ok (.aload 5, 2) := by decide +kernel
theorem d_MA_groupAround_34 : decode prog_7_method_14_code 34 = .ok (.getfield 126, 3) := by decide +kernel
theorem d_MA_groupAround_37 : decode prog_7_method_14_code 37 = .ok (.iload_n 3, 1) := by decide +kernel
theorem d_MA_groupAround_38 : decode prog_7_method_14_code 38 = .ok (.if_icmp .gt 25, 3) := by decide +kernel
theorem d_MA_groupAround_41 : decode prog_7_method_14_code 41 = .ok (.iload_n 3, 1) := by decide +kernel
theorem d_MA_groupAround_42 : decode prog_7_method_14_code 42 = .ok (.aload 5, 2) := by decide +kernel
theorem d_MA_groupAround_44 : decode prog_7_method_14_code 44 = .ok (.getfield 129, 3) := by decide +kernel
theorem d_MA_groupAround_47 : decode prog_7_method_14_code 47 = .ok (.if_icmp .gt 16, 3) := by decide +kernel
theorem d_MA_groupAround_50 : decode prog_7_method_14_code 50 = .ok (.aload_n 0, 1) := by decide +kernel
theorem d_MA_groupAround_51 : decode prog_7_method_14_code 51 = .ok (.iload 4, 2) := by decide +kernel
theorem d_MA_groupAround_53 : decode prog_7_method_14_code 53 = .ok (.aload_n 2, 1) := by decide +kernel
theorem d_MA_groupAround_54 : decode prog_7_method_14_code 54 = .ok (.invokevirtual 180, 3) := by decide +kernel
theorem d_MA_groupAround_57 : decode prog_7_method_14_code 57 = .ok (.ifCond .eq 6, 3) := by decide +kernel
theorem d_MA_groupAround_60 : decode prog_7_method_14_code 60 = .ok (.iload 4, 2) := by decide +kernel
theorem d_MA_groupAround_62 : decode prog_7_method_14_code 62 = .ok (.ireturn, 1) := by decide +kernel
theorem d_MA_groupAround_63 : decode prog_7_method_14_code 63 = .ok (.iinc 4 1, 3) := by decide +kernel
theorem d_MA_groupAround_66 : decode prog_7_method_14_code 66 = .ok (.goto (-60), 3) := by decide +kernel
theorem d_MA_groupAround_69 : decode prog_7_method_14_code 69 = .ok (.iconst (-1), 1) := by decide +kernel
theorem d_MA_groupAround_70 : decode prog_7_method_14_code 70 = .ok (.ireturn, 1) := by decide +kernel
theorem d_MA_hasUnlikeGroups_0 : decode prog_7_method_15_code 0 = .ok (.aload_n 1, 1) := by decide +kernel
theorem d_MA_hasUnlikeGroups_1 : decode prog_7_method_15_code 1 = .ok (.getfield 101, 3) := by decide +kernel
theorem d_MA_hasUnlikeGroups_4 : decode prog_7_method_15_code 4 = .ok (.istore 4, 2) := by decide +kernel
theorem d_MA_hasUnlikeGroups_6 : decode prog_7_method_15_code 6 = .ok (.iload 4, 2) := by decide +kernel
theorem d_MA_hasUnlikeGroups_8 : decode prog_7_method_15_code 8 = .ok (.aload_n 1, 1) := by decide +kernel
theorem d_MA_hasUnlikeGroups_9 : decode prog_7_method_15_code 9 = .ok (.getfield 104, 3) := by decide +kernel
theorem d_MA_hasUnlikeGroups_12 : decode prog_7_method_15_code 12 = .ok (.if_icmp .ge 41, 3) := by decide +kernel
theorem d_MA_hasUnlikeGroups_15 : decode prog_7_method_15_code 15 = .ok (.aload_n 0, 1) := by decide +kernel
theorem d_MA_hasUnlikeGroups_16 : decode prog_7_method_15_code 16 = .ok (.iload 4, 2) := by decide +kernel
theorem d_MA_hasUnlikeGroups_18 : decode prog_7_method_15_code 18 = .ok (.aload_n 2, 1) := by decide +kernel
theorem d_MA_hasUnlikeGroups_19 : decode prog_7_method_15_code 19 = .ok (.invokevirtual 180, 3) := by decide +kernel
theorem d_MA_hasUnlikeGroups_22 : decode prog_7_method_15_code 22 = .ok (.ifCond .eq 25, 3) := by decide +kernel
theorem d_MA_hasUnlikeGroups_25 : decode prog_7_method_15_code 25 = .ok (.aload_n 0, 1) := by decide +kernel
theorem d_MA_hasUnlikeGroups_26 : decode prog_7_method_15_code 26 = .ok (.iload 4, 2) := by decide +kernel
theorem d_MA_hasUnlikeGroups_28 : decode prog_7_method_15_code 28 = .ok (.invokevirtual 184, 3) := by decide +kernel
theorem d_MA_hasUnlikeGroups_31 : decode prog_7_method_15_code 31 = .ok (.aload_n 3, 1) := by decide +kernel
theorem d_MA_hasUnlikeGroups_32 : decode prog_7_method_15_code 32 = .ok (.getfield 142, 3) := by decide +kernel
theorem d_MA_hasUnlikeGroups_35 : decode prog_7_method_15_code 35 = .ok (.aload_n 3, 1) := by decide +kernel
theorem d_MA_hasUnlikeGroups_36 : decode prog_7_method_15_code 36 = .ok (.getfield 155, 3) := by decide +kernel
theorem d_MA_hasUnlikeGroups_39 : decode prog_7_method_15_code 39 = .ok (.invokevirtual 188, 3) := by decide +kernel
theorem d_MA_hasUnlikeGroups_42 : decode prog_7_method_15_code 42 = .ok (.ifCond .ne 5, 3) := by decide +kernel
theorem d_MA_hasUnlikeGroups_45 : decode prog_7_method_15_code 45 = .ok (.iconst 1, 1) := by decide +kernel
theorem d_MA_hasUnlikeGroups_46 : decode prog_7_method_15_code 46 = .ok (.ireturn, 1) := by decide +kernel
theorem d_MA_hasUnlikeGroups_47 : decode prog_7_method_15_code 47 = .ok (.iinc 4 1, 3) := by decide +kernel
theorem d_MA_hasUnlikeGroups_50 : decode prog_7_method_15_code 50 = .ok (.goto (-44), 3) := by decide +kernel
theorem d_MA_hasUnlikeGroups_53 : decode prog_7_method_15_code 53 = .ok (.iconst 0, 1) := by decide +kernel
theorem d_MA_hasUnlikeGroups_54 : decode prog_7_method_15_code 54 = .ok (.ireturn, 1) := by decide +kernel
theorem d_MA_groupWithoutRange_0 : decode prog_7_method_16_code 0 = .ok (.iconst 0, 1) := by decide +kernel
theorem d_MA_groupWithoutRange_1 : decode prog_7_method_16_code 1 = .ok (.istore_n 3, 1) := by decide +kernel
theorem d_MA_groupWithoutRange_2 : decode prog_7_method_16_code 2 = .ok (.iload_n 3, 1) := by decide +kernel
theorem d_MA_groupWithoutRange_3 : decode prog_7_method_16_code 3 = .ok (.aload_n 0, 1) := by decide +kernel
theorem d_MA_groupWithoutRange_4 : decode prog_7_method_16_code 4 = .ok (.getfield 52, 3) := by decide +kernel
theorem d_MA_groupWithoutRange_7 : decode prog_7_method_16_code 7 = .ok (.if_icmp .ge 37, 3) := by decide +kernel
theorem d_MA_groupWithoutRange_10 : decode prog_7_method_16_code 10 = .ok (.aload_n 0, 1) := by decide +kernel
theorem d_MA_groupWithoutRange_11 : decode prog_7_method_16_code 11 = .ok (.getfield 27, 3) := by decide +kernel
theorem d_MA_groupWithoutRange_14 : decode prog_7_method_16_code 14 = .ok (.iload_n 3, 1) := by decide +kernel
theorem d_MA_groupWithoutRange_15 : decode prog_7_method_16_code 15 = .ok (.aaload, 1) := by decide +kernel
theorem d_MA_groupWithoutRange_16 : decode prog_7_method_16_code 16 = .ok (.invokevirtual 164, 3) := by decide +kernel
theorem d_MA_groupWithoutRange_19 : decode prog_7_method_16_code 19 = .ok (.ifCond .ne 19, 3) := by decide +kernel
theorem d_MA_groupWithoutRange_22 : decode prog_7_method_16_code 22 = .ok (.aload_n 0, 1) := by decide +kernel
theorem d_MA_groupWithoutRange_23 : decode prog_7_method_16_code 23 = .ok (.getfield 27, 3) := by decide +kernel
theorem d_MA_groupWithoutRange_26 : decode prog_7_method_16_code 26 = .ok (.iload_n 3, 1) := by decide +kernel
theorem d_MA_groupWithoutRange_27 : decode prog_7_method_16_code 27 = .ok (.aaload, 1) := by decide +kernel
theorem d_MA_groupWithoutRange_28 : decode prog_7_method_16_code 28 = .ok (.aload_n 1, 1) := by decide +kernel
theorem d_MA_groupWithoutRange_29 : decode prog_7_method_16_code 29 = .ok (.aload_n 2, 1) := by decide +kernel
theorem d_MA_groupWithoutRange_30 : decode prog_7_method_16_code 30 = .ok (.invokevirtual 188, 3) := by decide +kernel
theorem d_MA_groupWithoutRange_33 : decode prog_7_method_16_code 33 = .ok (.ifCond .eq 5, 3) := by decide +kernel
theorem d_MA_groupWithoutRange_36 : decode prog_7_method_16_code 36 = .ok (.iload_n 3, 1) := by decide +kernel
theorem d_MA_groupWithoutRange_37 : decode prog_7_method_16_code 37 = .ok (.ireturn, 1) := by decide +kernel
theorem d_MA_groupWithoutRange_38 : decode prog_7_method_16_code 38 = .ok (.iinc 3 1, 3) := by decide +kernel
theorem d_MA_groupWithoutRange_41 : decode prog_7_method_16_code 41 = .ok (.goto (-39), 3) := by decide +kernel
theorem d_MA_groupWithoutRange_44 : decode prog_7_method_16_code 44 = .ok (.iconst (-1), 1) := by decide +kernel
theorem d_MA_groupWithoutRange_45 : decode prog_7_method_16_code 45 = .ok (.ireturn, 1) := by decide +kernel
theorem d_MA_lastLineOf_0 : decode prog_7_method_17_code 0 = .ok (.aload_n 0, 1) := by decide +kernel
theorem d_MA_lastLineOf_1 : decode prog_7_method_17_code 1 = .ok (.getfield 27, 3) := by decide +kernel
theorem d_MA_lastLineOf_4 : decode prog_7_method_17_code 4 = .ok (.iload_n 1, 1) := by decide +kernel
theorem d_MA_lastLineOf_5 : decode prog_7_method_17_code 5 = .ok (.aload_n 0, 1) := by decide +kernel
theorem d_MA_lastLineOf_6 : decode prog_7_method_17_code 6 = .ok (.getfield 27, 3) := by decide +kernel
theorem d_MA_lastLineOf_9 : decode prog_7_method_17_code 9 = .ok (.iload_n 1, 1) := by decide +kernel
theorem d_MA_lastLineOf_10 : decode prog_7_method_17_code 10 = .ok (.aaload, 1) := by decide +kernel
theorem d_MA_lastLineOf_11 : decode prog_7_method_17_code 11 = .ok (.getfield 170, 3) := by decide +kernel
theorem d_MA_lastLineOf_14 : decode prog_7_method_17_code 14 = .ok (.iadd, 1) := by decide +kernel
theorem d_MA_lastLineOf_15 : decode prog_7_method_17_code 15 = .ok (.iconst 1, 1) := by decide +kernel
theorem d_MA_lastLineOf_16 : decode prog_7_method_17_code 16 = .ok (.isub, 1) := by decide +kernel
theorem d_MA_lastLineOf_17 : decode prog_7_method_17_code 17 = .ok (.aaload, 1) := by decide +kernel
theorem d_MA_lastLineOf_18 : decode prog_7_method_17_code 18 = .ok (.areturn, 1) := by decide +kernel
theorem d_MA_shortClassOf_0 : decode prog_7_method_18_code 0 = .ok (.aload_n 0, 1) := by decide +kernel
theorem d_MA_shortClassOf_1 : decode prog_7_method_18_code 1 = .ok (.getfield 20, 3) := by decide +kernel
theorem d_MA_shortClassOf_4 : decode prog_7_method_18_code 4 = .ok (.aload_n 1, 1) := by decide +kernel
theorem d_MA_shortClassOf_5 : decode prog_7_method_18_code 5 = .ok (.getfield 108, 3) := by decide +kernel
theorem d_MA_shortClassOf_8 : decode prog_7_method_18_code 8 = .ok (.aaload, 1) := by decide +kernel
theorem d_MA_shortClassOf_9 : decode prog_7_method_18_code 9 = .ok (.getfield 89, 3) := by decide +kernel
theorem d_MA_shortClassOf_12 : decode prog_7_method_18_code 12 = .ok (.areturn, 1) := by decide +kernel
theorem d_ML_init_0 : decode prog_8_method_1_code 0 = .ok (.aload_n 0, 1) := by decide +kernel
theorem d_ML_init_1 : decode prog_8_method_1_code 1 = .ok (.invokespecial 3, 3) := by decide +kernel
theorem d_ML_init_4 : decode prog_8_method_1_code 4 = .ok (.aload_n 0, 1) := by decide +kernel
theorem d_ML_init_5 : decode prog_8_method_1_code 5 = .ok (.new 9, 3) := by decide +kernel
theorem d_ML_init_8 : decode prog_8_method_1_code 8 = .ok (.dup, 1) := by decide +kernel
theorem d_ML_init_9 : decode prog_8_method_1_code 9 = .ok (.aload_n 1, 1) := by decide +kernel
theorem d_ML_init_10 : decode prog_8_method_1_code 10 = .ok (.invokespecial 11, 3) := by decide +kernel
theorem d_ML_init_13 : decode prog_8_method_1_code 13 = .ok (.putfield 14, 3) := by decide +kernel
theorem d_ML_init_16 : decode prog_8_method_1_code 16 = .ok (.aload_n 0, 1) := by decide +kernel
theorem d_ML_init_17 : decode prog_8_method_1_code 17 = .ok (.new 9, 3) := by decide +kernel
theorem d_ML_init_20 : decode prog_8_method_1_code 20 = .ok (.dup, 1) := by decide +kernel
theorem d_ML_init_21 : decode prog_8_method_1_code 21 = .ok (.aload_n 1, 1) := by decide +kernel
theorem d_ML_init_22 : decode prog_8_method_1_code 22 = .ok (.invokespecial 11, 3) := by decide +kernel
theorem d_ML_init_25 : decode prog_8_method_1_code 25 = .ok (.putfield 20, 3) := by decide +kernel
theorem d_ML_init_28 : decode prog_8_method_1_code 28 = .ok (.aload_n 0, 1) := by decide +kernel
theorem d_ML_init_29 : decode prog_8_method_1_code 29 = .ok (.new 9, 3) := by decide +kernel
theorem d_ML_init_32 : decode prog_8_method_1_code 32 = .ok (.dup, 1) := by decide +kernel
theorem d_ML_init_33 : decode prog_8_method_1_code 33 = .ok (.aload_n 1, 1) := by decide +kernel
theorem d_ML_init_34 : decode prog_8_method_1_code 34 = .ok (.invokespecial 11, 3) := by decide +kernel
theorem d_ML_init_37 : decode prog_8_method_1_code 37 = .ok (.putfield 23, 3) := by decide +kernel
theorem d_ML_init_40 : decode prog_8_method_1_code 40 = .ok (.return_, 1) := by decide +kernel
theorem d_ML_hasRange_0 : decode prog_8_method_2_code 0 = .ok (.aload_n 0, 1) := by decide +kernel
theorem d_ML_hasRange_1 : decode prog_8_method_2_code 1 = .ok (.getfield 26, 3) := by decide +kernel
theorem d_ML_hasRange_4 : decode prog_8_method_2_code 4 = .ok (.iconst (-1), 1) := by decide +kernel
theorem d_ML_hasRange_5 : decode prog_8_method_2_code 5 = .ok (.if_icmp .eq 7, 3) := by decide +kernel
theorem d_ML_hasRange_8 : decode prog_8_method_2_code 8 = .ok (.iconst 1, 1) := by decide +kernel
theorem d_ML_hasRange_9 : decode prog_8_method_2_code 9 = .ok (.goto 4, 3) := by decide +kernel
theorem d_ML_hasRange_12 : decode prog_8_method_2_code 12 = .ok (.iconst 0, 1) := by decide +kernel
theorem d_ML_hasRange_13 : decode prog_8_method_2_code 13 = .ok (.ireturn, 1) := by decide +kernel
theorem d_ML_hasOneRealLine_0 : decode prog_8_method_3_code 0 = .ok (.aload_n 0, 1) := by decide +kernel
theorem d_ML_hasOneRealLine_1 : decode prog_8_method_3_code 1 = .ok (.getfield 30, 3) := by decide +kernel
theorem d_ML_hasOneRealLine_4 : decode prog_8_method_3_code 4 = .ok (.aload_n 0, 1) := by decide +kernel
theorem d_ML_hasOneRealLine_5 : decode prog_8_method_3_code 5 = .ok (.getfield 33, 3) := by decide +kernel
theorem d_ML_hasOneRealLine_8 : decode prog_8_method_3_code 8 = .ok (.if_icmp .ne 7, 3) := by decide +kernel
theorem d_ML_hasOneRealLine_11 : decode prog_8_method_3_code 11 = .ok (.iconst 1, 1) := by decide +kernel
theorem d_ML_hasOneRealLine_12 : decode prog_8_method_3_code 12 = .ok (.goto 4, 3) := by decide +kernel
theorem d_ML_hasOneRealLine_15 : decode prog_8_method_3_code 15 = .ok (.iconst 0, 1) := by decide +kernel
theorem d_ML_hasOneRealLine_16 : decode prog_8_method_3_code 16 = .ok (.ireturn, 1) := by decide +kernel
theorem d_ML_isRealCall_0 : decode prog_8_method_4_code 0 = .ok (.aload_n 0, 1) := by decide +kernel
theorem d_ML_isRealCall_1 : decode prog_8_method_4_code 1 = .ok (.getfield 14, 3) := by decide +kernel
theorem d_ML_isRealCall_4 : decode prog_8_method_4_code 4 = .ok (.aload_n 1, 1) := by decide +kernel
theorem d_ML_isRealCall_5 : decode prog_8_method_4_code 5 = .ok (.invokevirtual 36, 3) := by decide +kernel
theorem d_ML_isRealCall_8 : decode prog_8_method_4_code 8 = .ok (.ifCond .eq 18, 3) := by decide +kernel
theorem d_ML_isRealCall_11 : decode prog_8_method_4_code 11 = .ok (.aload_n 0, 1) := by decide +kernel
theorem d_ML_isRealCall_12 : decode prog_8_method_4_code 12 = .ok (.getfield 20, 3) := by decide +kernel
theorem d_ML_isRealCall_15 : decode prog_8_method_4_code 15 = .ok (.aload_n 2, 1) := by decide +kernel
theorem d_ML_isRealCall_16 : decode prog_8_method_4_code 16 = .ok (.invokevirtual 36, 3) := by decide +kernel
theorem d_ML_isRealCall_19 : decode prog_8_method_4_code 19 = .ok (.ifCond .eq 7, 3) := by decide +kernel
theorem d_ML_isRealCall_22 : decode prog_8_method_4_code 22 = .ok (.iconst 1, 1) := by decide +kernel
theorem d_ML_isRealCall_23 : decode prog_8_method_4_code 23 = .ok (.goto 4, 3) := by decide +kernel
theorem d_ML_isRealCall_26 : decode prog_8_method_4_code 26 = .ok (.iconst 0, 1) := by decide +kernel
theorem d_ML_isRealCall_27 : decode prog_8_method_4_code 27 = .ok (.ireturn, 1) := by decide +kernel
theorem d_ML_isInGroupOf_0 : decode prog_8_method_5_code 0 = .ok (.aload_n 0, 1) := by decide +kernel
theorem d_ML_isInGroupOf_1 : decode prog_8_method_5_code 1 = .ok (.invokevirtual 40, 3) := by decide +kernel
theorem d_ML_isInGroupOf_4 : decode prog_8_method_5_code 4 = .ok (.ifCond .eq 54, 3) := by decide +kernel
theorem d_ML_isInGroupOf_7 : decode prog_8_method_5_code 7 = .ok (.aload_n 0, 1) := by decide +kernel
theorem d_ML_isInGroupOf_8 : decode prog_8_method_5_code 8 = .ok (.getfield 44, 3) := by decide +kernel
theorem d_ML_isInGroupOf_11 : decode prog_8_method_5_code 11 = .ok (.aload_n 1, 1) := by decide +kernel
theorem d_ML_isInGroupOf_12 : decode prog_8_method_5_code 12 = .ok (.getfield 44, 3) := by decide +kernel
theorem d_ML_isInGroupOf_15 : decode prog_8_method_5_code 15 = .ok (.if_icmp .ne 43, 3) := by decide +kernel
theorem d_ML_isInGroupOf_18 : decode prog_8_method_5_code 18 = .ok (.aload_n 0, 1) := by decide +kernel
theorem d_ML_isInGroupOf_19 : decode prog_8_method_5_code 19 = .ok (.getfield 26, 3) := by decide +kernel
theorem d_ML_isInGroupOf_22 : decode prog_8_method_5_code 22 = .ok (.aload_n 1, 1) := by decide +kernel
theorem d_ML_isInGroupOf_23 : decode prog_8_method_5_code 23 = .ok (.getfield 26, 3) := by decide +kernel
theorem d_ML_isInGroupOf_26 : decode prog_8_method_5_code 26 = .ok (.if_icmp .ne 32, 3) := by decide +kernel
theorem d_ML_isInGroupOf_29 : decode prog_8_method_5_code 29 = .ok (.aload_n 0, 1) := by decide +kernel
theorem d_ML_isInGroupOf_30 : decode prog_8_method_5_code 30 = .ok (.getfield 47, 3) := by decide +kernel
theorem d_ML_isInGroupOf_33 : decode prog_8_method_5_code 33 = .ok (.aload_n 1, 1) := by decide +kernel
theorem d_ML_isInGroupOf_34 : decode prog_8_method_5_code 34 = .ok (.getfield 47, 3) := by decide +kernel
theorem d_ML_isInGroupOf_37 : decode prog_8_method_5_code 37 = .ok (.if_icmp .ne 21, 3) := by decide +kernel
theorem d_ML_isInGroupOf_40 : decode prog_8_method_5_code 40 = .ok (.aload_n 0, 1) := by decide +kernel
theorem d_ML_isInGroupOf_41 : decode prog_8_method_5_code 41 = .ok (.getfield 23, 3) := by decide +kernel
theorem d_ML_isInGroupOf_44 : decode prog_8_method_5_code 44 = .ok (.aload_n 1, 1) := by decide +kernel
theorem d_ML_isInGroupOf_45 : decode prog_8_method_5_code 45 = .ok (.getfield 23, 3) := by decide +kernel
theorem d_ML_isInGroupOf_48 : decode prog_8_method_5_code 48 = .ok (.invokevirtual 36, 3) := by decide +kernel
theorem d_ML_isInGroupOf_51 : decode prog_8_method_5_code 51 = .ok (.ifCond .eq 7, 3) := by decide +kernel
theorem d_ML_isInGroupOf_54 : decode prog_8_method_5_code 54 = .ok (.iconst 1, 1) := by decide +kernel
theorem d_ML_isInGroupOf_55 : decode prog_8_method_5_code 55 = .ok (.goto 4, 3) := by decide +kernel
theorem d_ML_isInGroupOf_58 : decode prog_8_method_5_code 58 = .ok (.iconst 0, 1) := by decide +kernel
theorem d_ML_isInGroupOf_59 : decode prog_8_method_5_code 59 = .ok (.ireturn, 1) := by decide +kernel
theorem d_RW_init_0 : decode prog_9_method_1_code 0 = .ok (.aload_n 0, 1) := by decide +kernel
theorem d_RW_init_1 : decode prog_9_method_1_code 1 = .ok (.invokespecial 3, 3) := by decide +kernel
theorem d_RW_init_4 : decode prog_9_method_1_code 4 = .ok (.aload_n 0, 1) := by decide +kernel
theorem d_RW_init_5 : decode prog_9_method_1_code 5 = .ok (.aload_n 1, 1) := by decide +kernel
theorem d_RW_init_6 : decode prog_9_method_1_code 6 = .ok (.putfield 9, 3) := by decide +kernel
theorem d_RW_init_9 : decode prog_9_method_1_code 9 = .ok (.aload_n 0, 1) := by decide +kernel
theorem d_RW_init_10 : decode prog_9_method_1_code 10 = .ok (.aload_n 2, 1) := by decide +kernel
theorem d_RW_init_11 : decode prog_9_method_1_code 11 = .ok (.putfield 15, 3) := by decide +kernel
theorem d_RW_init_14 : decode prog_9_method_1_code 14 = .ok (.aload_n 0, 1) := by decide +kernel
theorem d_RW_init_15 : decode prog_9_method_1_code 15 = .ok (.aload_n 3, 1) := by decide +kernel
theorem d_RW_init_16 : decode prog_9_method_1_code 16 = .ok (.putfield 19, 3) := by decide +kernel
theorem d_RW_init_19 : decode prog_9_method_1_code 19 = .ok (.return_, 1) := by decide +kernel
theorem d_RW_retraceTrace_0 : decode prog_9_method_2_code 0 = .ok (.iconst 0, 1) := by decide +kernel
theorem d_RW_retraceTrace_1 : decode prog_9_method_2_code 1 = .ok (.istore_n 1, 1) := by decide +kernel
theorem d_RW_retraceTrace_2 : decode prog_9_method_2_code 2 = .ok (.iload_n 1, 1) := by decide +kernel
theorem d_RW_retraceTrace_3 : decode prog_9_method_2_code 3 = .ok (.aload_n 0, 1) := by decide +kernel
theorem d_RW_retraceTrace_4 : decode prog_9_method_2_code 4 = .ok (.getfield 9, 3) := by decide +kernel
theorem d_RW_retraceTrace_7 : decode prog_9_method_2_code 7 = .ok (.getfield 23, 3) := by decide +kernel
theorem d_RW_retraceTrace_10 : decode prog_9_method_2_code 10 = .ok (.if_icmp .ge 91, 3) := by decide +kernel
theorem d_RW_retraceTrace_13 : decode prog_9_method_2_code 13 = .ok (.aload_n 0, 1) := by decide +kernel
theorem d_RW_retraceTrace_14 : decode prog_9_method_2_code 14 = .ok (.getfield 9, 3) := by decide +kernel
theorem d_RW_retraceTrace_17 : decode prog_9_method_2_code 17 = .ok (.getfield 29, 3) := by decide +kernel
theorem d_RW_retraceTrace_20 : decode prog_9_method_2_code 20 = .ok (.iload_n 1, 1) := by decide +kernel
theorem d_RW_retraceTrace_21 : decode prog_9_method_2_code 21 = .ok (.aaload, 1) := by decide +kernel
theorem d_RW_retraceTrace_22 : decode prog_9_method_2_code 22 = .ok (.astore_n 2, 1) := by decide +kernel
theorem d_RW_retraceTrace_23 : decode prog_9_method_2_code 23 = .ok (.aload_n 0, 1) := by decide +kernel
theorem d_RW_retraceTrace_24 : decode prog_9_method_2_code 24 = .ok (.getfield 15, 3) := by decide +kernel
theorem d_RW_retraceTrace_27 : decode prog_9_method_2_code 27 = .ok (.aload_n 2, 1) := by decide +kernel
theorem d_RW_retraceTrace_28 : decode prog_9_method_2_code 28 = .ok (.getfield 33, 3) := by decide +kernel
theorem d_RW_retraceTrace_31 : decode prog_9_method_2_code 31 = .ok (.invokevirtual 39, 3) := by decide +kernel
theorem d_RW_retraceTrace_34 : decode prog_9_method_2_code 34 = .ok (.astore_n 3, 1) := by decide +kernel
theorem d_RW_retraceTrace_35 : decode prog_9_method_2_code 35 = .ok (.aload_n 0, 1) := by decide +kernel
theorem d_RW_retraceTrace_36 : decode prog_9_method_2_code 36 = .ok (.iload_n 1, 1) := by decide +kernel
theorem d_RW_retraceTrace_37 : decode prog_9_method_2_code 37 = .ok (.aload_n 3, 1) := by decide +kernel
theorem d_RW_retraceTrace_38 : decode prog_9_method_2_code 38 = .ok (.ifnonnull 10, 3) := by decide +kernel
theorem d_RW_retraceTrace_41 : decode prog_9_method_2_code 41 = .ok (.aload_n 2, 1) := by decide +kernel
theorem d_RW_retraceTrace_42 : decode prog_9_method_2_code 42 = .ok (.getfield 33, 3) := by decide +kernel
theorem d_RW_retraceTrace_45 : decode prog_9_method_2_code 45 = .ok (.goto 7, 3) := by decide +kernel
theorem d_RW_retraceTrace_48 : decode prog_9_method_2_code 48 = .ok (.aload_n 3, 1) := by decide +kernel
theorem d_RW_retraceTrace_49 : decode prog_9_method_2_code 49 = .ok (.getfield 45, 3) := by decide +kernel
theorem d_RW_retraceTrace_52 : decode prog_9_method_2_code 52 = .ok (.invokevirtual 50, 3) := by decide +kernel
theorem d_RW_retraceTrace_55 : decode prog_9_method_2_code 55 = .ok (.aload_n 2, 1) := by decide +kernel
theorem d_RW_retraceTrace_56 : decode prog_9_method_2_code 56 = .ok (.getfield 54, 3) := by decide +kernel
theorem d_RW_retraceTrace_59 : decode prog_9_method_2_code 59 = .ok (.istore 4, 2) := by decide +kernel
theorem d_RW_retraceTrace_61 : decode prog_9_method_2_code 61 = .ok (.iload 4, 2) := by decide +kernel
theorem d_RW_retraceTrace_63 : decode prog_9_method_2_code 63 = .ok (.aload_n 2, 1) := by decide +kernel
theorem d_RW_retraceTrace_64 : decode prog_9_method_2_code 64 = .ok (.getfield 57, 3) := by decide +kernel
theorem d_RW_retraceTrace_67 : decode prog_9_method_2_code 67 = .ok (.if_icmp .ge 23, 3) := by decide +kernel
theorem d_RW_retraceTrace_70 : decode prog_9_method_2_code 70 = .ok (.aload_n 0, 1) := by decide +kernel
theorem d_RW_retraceTrace_71 : decode prog_9_method_2_code 71 = .ok (.aload_n 0, 1) := by decide +kernel
theorem d_RW_retraceTrace_72 : decode prog_9_method_2_code 72 = .ok (.getfield 9, 3) := by decide +kernel
theorem d_RW_retraceTrace_75 : decode prog_9_method_2_code 75 = .ok (.getfield 60, 3) := by decide +kernel
theorem d_RW_retraceTrace_78 : decode prog_9_method_2_code 78 = .ok (.iload 4, 2) := by decide +kernel
theorem d_RW_retraceTrace_80 : decode prog_9_method_2_code 80 = .ok (.aaload, 1) := by decide +kernel
theorem d_RW_retraceTrace_81 : decode prog_9_method_2_code 81 = .ok (.invokevirtual 64, 3) := by decide +kernel
theorem d_RW_retraceTrace_84 : decode prog_9_method_2_code 84 = .ok (.iinc 4 1, 3) := by decide +kernel
theorem d_RW_retraceTrace_87 : decode prog_9_method_2_code 87 = .ok (.goto (-26), 3) := by decide +kernel
theorem d_RW_retraceTrace_90 : decode prog_9_method_2_code 90 = .ok (.aload_n 0, 1) := by decide +kernel
theorem d_RW_retraceTrace_91 : decode prog_9_method_2_code 91 = .ok (.aload_n 2, 1) := by decide +kernel
theorem d_RW_retraceTrace_92 : decode prog_9_method_2_code 92 = .ok (.invokevirtual 68, 3) := by decide +kernel
theorem d_RW_retraceTrace_95 : decode prog_9_method_2_code 95 = .ok (.iinc 1 1, 3) := by decide +kernel
theorem d_RW_retraceTrace_98 : decode prog_9_method_2_code 98 = .ok (.goto (-96), 3) := by decide +kernel
theorem d_RW_retraceTrace_101 : decode prog_9_method_2_code 101 = .ok (.return_, 1) := by decide +kernel
theorem d_RW_retraceFrame_0 : decode prog_9_method_3_code 0 = .ok (.aload_n 0, 1) := by decide +kernel
theorem d_RW_retraceFrame_1 : decode prog_9_method_3_code 1 = .ok (.getfield 15, 3) := by decide +kernel
theorem d_RW_retraceFrame_4 : decode prog_9_method_3_code 4 = .ok (.aload_n 1, 1) := by decide +kernel
theorem d_RW_retraceFrame_5 : decode prog_9_method_3_code 5 = .ok (.getfield 72, 3) := by decide +kernel
theorem d_RW_retraceFrame_8 : decode prog_9_method_3_code 8 = .ok (.invokevirtual 39, 3) := by decide +kernel
theorem d_RW_retraceFrame_11 : decode prog_9_method_3_code 11 = .ok (.astore_n 2, 1) := by decide +kernel
theorem d_RW_retraceFrame_12 : decode prog_9_method_3_code 12 = .ok (.aload_n 2, 1) := by decide +kernel
theorem d_RW_retraceFrame_13 : decode prog_9_method_3_code 13 = .ok (.ifnonnull 9, 3) := by decide +kernel
theorem d_RW_retraceFrame_16 : decode prog_9_method_3_code 16 = .ok (.aload_n 0, 1) := by decide +kernel
theorem d_RW_retraceFrame_17 : decode prog_9_method_3_code 17 = .ok (.aload_n 1, 1) := by decide +kernel
theorem d_RW_retraceFrame_18 : decode prog_9_method_3_code 18 = .ok (.invokevirtual 77, 3) := by decide +kernel
theorem d_RW_retraceFrame_21 : decode prog_9_method_3_code 21 = .ok (.return_, 1) := by decide +kernel
theorem d_RW_retraceFrame_22 : decode prog_9_method_3_code 22 = .ok (.aload_n 0, 1) := by decide +kernel
theorem d_RW_retraceFrame_23 : decode prog_9_method_3_code 23 = .ok (.getfield 15, 3) := by decide +kernel
theorem d_RW_retraceFrame_26 : decode prog_9_method_3_code 26 = .ok (.aload_n 2, 1) := by decide +kernel
theorem d_RW_retraceFrame_27 : decode prog_9_method_3_code 27 = .ok (.aload_n 1, 1) := by decide +kernel
theorem d_RW_retraceFrame_28 : decode prog_9_method_3_code 28 = .ok (.getfield 80, 3) := by decide +kernel
theorem d_RW_retraceFrame_31 : decode prog_9_method_3_code 31 = .ok (.aload_n 1, 1) := by decide +kernel
theorem d_RW_retraceFrame_32 : decode prog_9_method_3_code 32 = .ok (.getfield 83, 3) := by decide +kernel
theorem d_RW_retraceFrame_35 : decode prog_9_method_3_code 35 = .ok (.invokevirtual 86, 3) := by decide +kernel
theorem d_RW_retraceFrame_38 : decode prog_9_method_3_code 38 = .ok (.istore_n 3, 1) := by decide +kernel
theorem d_RW_retraceFrame_39 : decode prog_9_method_3_code 39 = .ok (.iload_n 3, 1) := by decide +kernel
theorem d_RW_retraceFrame_40 : decode prog_9_method_3_code 40 = .ok (.iconst (-1), 1) := by decide +kernel
theorem d_RW_retraceFrame_41 : decode prog_9_method_3_code 41 = .ok (.if_icmp .eq 13, 3) := by decide +kernel
theorem d_RW_retraceFrame_44 : decode prog_9_method_3_code 44 = .ok (.aload_n 0, 1) := by decide +kernel
theorem d_RW_retraceFrame_45 : decode prog_9_method_3_code 45 = .ok (.iload_n 3, 1) := by decide +kernel
theorem d_RW_retraceFrame_46 : decode prog_9_method_3_code 46 = .ok (.aload_n 1, 1) := by decide +kernel
theorem d_RW_retraceFrame_47 : decode prog_9_method_3_code 47 = .ok (.getfield 83, 3) := by decide +kernel
theorem d_RW_retraceFrame_50 : decode prog_9_method_3_code 50 = .ok (.invokevirtual 90, 3) := by decide +kernel
theorem d_RW_retraceFrame_53 : decode prog_9_method_3_code 53 = .ok (.return_, 1) := by decide +kernel
theorem d_RW_retraceFrame_54 : decode prog_9_method_3_code 54 = .ok (.aload_n 0, 1) := by decide +kernel
theorem d_RW_retraceFrame_55 : decode prog_9_method_3_code 55 = .ok (.getfield 15, 3) := by decide +kernel
theorem d_RW_retraceFrame_58 : decode prog_9_method_3_code 58 = .ok (.aload_n 2, 1) := by decide +kernel
theorem d_RW_retraceFrame_59 : decode prog_9_method_3_code 59 = .ok (.aload_n 1, 1) := by decide +kernel
theorem d_RW_retraceFrame_60 : decode prog_9_method_3_code 60 = .ok (.getfield 80, 3) := by decide +kernel
theorem d_RW_retraceFrame_63 : decode prog_9_method_3_code 63 = .ok (.invokevirtual 94, 3) := by decide +kernel
theorem d_RW_retraceFrame_66 : decode prog_9_method_3_code 66 = .ok (.istore 4, 2) := by decide +kernel
theorem d_RW_retraceFrame_68 : decode prog_9_method_3_code 68 = .ok (.iload 4, 2) := by decide +kernel
theorem d_RW_retraceFrame_70 : decode prog_9_method_3_code 70 = .ok (.iconst (-1), 1) := by decide +kernel
theorem d_RW_retraceFrame_71 : decode prog_9_method_3_code 71 = .ok (.if_icmp .ne 17, 3) := by decide +kernel
theorem d_RW_retraceFrame_74 : decode prog_9_method_3_code 74 = .ok (.aload_n 0, 1) := by decide +kernel
theorem d_RW_retraceFrame_75 : decode prog_9_method_3_code 75 = .ok (.aload_n 2, 1) := by decide +kernel
theorem d_RW_retraceFrame_76 : decode prog_9_method_3_code 76 = .ok (.getfield 45, 3) := by decide +kernel
theorem d_RW_retraceFrame_79 : decode prog_9_method_3_code 79 = .ok (.aload_n 1, 1) := by decide +kernel
theorem d_RW_retraceFrame_80 : decode prog_9_method_3_code 80 = .ok (.getfield 80, 3) := by decide +kernel
theorem d_RW_retraceFrame_83 : decode prog_9_method_3_code 83 = .ok (.aload_n 1, 1) := by decide +kernel
theorem d_RW_retraceFrame_84 : decode prog_9_method_3_code 84 = .ok (.invokevirtual 98, 3) := by decide +kernel
theorem d_RW_retraceFrame_87 : decode prog_9_method_3_code 87 = .ok (.return_, 1) := by decide +kernel
theorem d_RW_retraceFrame_88 : decode prog_9_method_3_code 88 = .ok (.aload_n 0, 1) := by decide +kernel
theorem d_RW_retraceFrame_89 : decode prog_9_method_3_code 89 = .ok (.getfield 15, 3) := by decide +kernel
theorem d_RW_retraceFrame_92 : decode prog_9_method_3_code 92 = .ok (.iload 4, 2) := by decide +kernel
theorem d_RW_retraceFrame_94 : decode prog_9_method_3_code 94 = .ok (.invokevirtual 102, 3) := by decide +kernel
theorem d_RW_retraceFrame_97 : decode prog_9_method_3_code 97 = .ok (.astore 5, 2) := by decide +kernel
