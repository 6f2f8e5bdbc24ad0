theorem d_RD_init_0 : decode prog_1_method_1_code 0 = .ok (.aload_n 0, 1) := by decide +kernel
theorem d_RD_init_1 : decode prog_1_method_1_code 1 = .ok (.invokespecial 3, 3) := by decide +kernel
theorem d_RD_init_4 : decode prog_1_method_1_code 4 = .ok (.aload_n 0, 1) := by decide +kernel
theorem d_RD_init_5 : decode prog_1_method_1_code 5 = .ok (.new 9, 3) := by decide +kernel
theorem d_RD_init_8 : decode prog_1_method_1_code 8 = .ok (.dup, 1) := by decide +kernel
theorem d_RD_init_9 : decode prog_1_method_1_code 9 = .ok (.sipush 600, 3) := by decide +kernel
theorem d_RD_init_12 : decode prog_1_method_1_code 12 = .ok (.invokespecial 11, 3) := by decide +kernel
theorem d_RD_init_15 : decode prog_1_method_1_code 15 = .ok (.putfield 14, 3) := by decide +kernel
theorem d_RD_init_18 : decode prog_1_method_1_code 18 = .ok (.aload_n 0, 1) := by decide +kernel
theorem d_RD_init_19 : decode prog_1_method_1_code 19 = .ok (.new 18, 3) := by decide +kernel
theorem d_RD_init_22 : decode prog_1_method_1_code 22 = .ok (.dup, 1) := by decide +kernel
theorem d_RD_init_23 : decode prog_1_method_1_code 23 = .ok (.aload_n 0, 1) := by decide +kernel
theorem d_RD_init_24 : decode prog_1_method_1_code 24 = .ok (.getfield 14, 3) := by decide +kernel
theorem d_RD_init_27 : decode prog_1_method_1_code 27 = .ok (.getfield 20, 3) := by decide +kernel
theorem d_RD_init_30 : decode prog_1_method_1_code 30 = .ok (.invokespecial 24, 3) := by decide +kernel
theorem d_RD_init_33 : decode prog_1_method_1_code 33 = .ok (.putfield 27, 3) := by decide +kernel
theorem d_RD_init_36 : decode prog_1_method_1_code 36 = .ok (.aload_n 0, 1) := by decide +kernel
theorem d_RD_init_37 : decode prog_1_method_1_code 37 = .ok (.new 31, 3) := by decide +kernel
theorem d_RD_init_40 : decode prog_1_method_1_code 40 = .ok (.dup, 1) := by decide +kernel
theorem d_RD_init_41 : decode prog_1_method_1_code 41 = .ok (.invokespecial 33, 3) := by decide +kernel
theorem d_RD_init_44 : decode prog_1_method_1_code 44 = .ok (.putfield 34, 3) := by decide +kernel
theorem d_RD_init_47 : decode prog_1_method_1_code 47 = .ok (.aload_n 0, 1) := by decide +kernel
theorem d_RD_init_48 : decode prog_1_method_1_code 48 = .ok (.new 38, 3) := by decide +kernel
theorem d_RD_init_51 : decode prog_1_method_1_code 51 = .ok (.dup, 1) := by decide +kernel
theorem d_RD_init_52 : decode prog_1_method_1_code 52 = .ok (.sipush 600, 3) := by decide +kernel
theorem d_RD_init_55 : decode prog_1_method_1_code 55 = .ok (.newarray .char, 2) := by decide +kernel
theorem d_RD_init_57 : decode prog_1_method_1_code 57 = .ok (.invokespecial 40, 3) := by decide +kernel
theorem d_RD_init_60 : decode prog_1_method_1_code 60 = .ok (.putfield 41, 3) := by decide +kernel
theorem d_RD_init_63 : decode prog_1_method_1_code 63 = .ok (.aload_n 0, 1) := by decide +kernel
theorem d_RD_init_64 : decode prog_1_method_1_code 64 = .ok (.new 38, 3) := by decide +kernel
theorem d_RD_init_67 : decode prog_1_method_1_code 67 = .ok (.dup, 1) := by decide +kernel
theorem d_RD_init_68 : decode prog_1_method_1_code 68 = .ok (.sipush 600, 3) := by decide +kernel
theorem d_RD_init_71 : decode prog_1_method_1_code 71 = .ok (.newarray .char, 2) := by decide +kernel
theorem d_RD_init_73 : decode prog_1_method_1_code 73 = .ok (.invokespecial 40, 3) := by decide +kernel
theorem d_RD_init_76 : decode prog_1_method_1_code 76 = .ok (.putfield 45, 3) := by decide +kernel
theorem d_RD_init_79 : decode prog_1_method_1_code 79 = .ok (.aload_n 0, 1) := by decide +kernel
theorem d_RD_init_80 : decode prog_1_method_1_code 80 = .ok (.new 9, 3) := by decide +kernel
theorem d_RD_init_83 : decode prog_1_method_1_code 83 = .ok (.dup, 1) := by decide +kernel
theorem d_RD_init_84 : decode prog_1_method_1_code 84 = .ok (.sipush 1000, 3) := by decide +kernel
theorem d_RD_init_87 : decode prog_1_method_1_code 87 = .ok (.invokespecial 11, 3) := by decide +kernel
theorem d_RD_init_90 : decode prog_1_method_1_code 90 = .ok (.putfield 48, 3) := by decide +kernel
theorem d_RD_init_93 : decode prog_1_method_1_code 93 = .ok (.aload_n 0, 1) := by decide +kernel
theorem d_RD_init_94 : decode prog_1_method_1_code 94 = .ok (.new 9, 3) := by decide +kernel
theorem d_RD_init_97 : decode prog_1_method_1_code 97 = .ok (.dup, 1) := by decide +kernel
theorem d_RD_init_98 : decode prog_1_method_1_code 98 = .ok (.sipush 1000, 3) := by decide +kernel
theorem d_RD_init_101 : decode prog_1_method_1_code 101 = .ok (.invokespecial 11, 3) := by decide +kernel
theorem d_RD_init_104 : decode prog_1_method_1_code 104 = .ok (.putfield 51, 3) := by decide +kernel
theorem d_RD_init_107 : decode prog_1_method_1_code 107 = .ok (.return_, 1) := by decide +kernel
theorem d_RD_put_0 : decode prog_1_method_2_code 0 = .ok (.iload_n 1, 1) := by decide +kernel
theorem d_RD_put_1 : decode prog_1_method_2_code 1 = .ok (.iconst 1, 1) := by decide +kernel
theorem d_RD_put_2 : decode prog_1_method_2_code 2 = .ok (.if_icmp .lt 24, 3) := by decide +kernel
theorem d_RD_put_5 : decode prog_1_method_2_code 5 = .ok (.iload_n 1, 1) := by decide +kernel
theorem d_RD_put_6 : decode prog_1_method_2_code 6 = .ok (.bipush 8, 2) := by decide +kernel
theorem d_RD_put_8 : decode prog_1_method_2_code 8 = .ok (.if_icmp .gt 18, 3) := by decide +kernel
theorem d_RD_put_11 : decode prog_1_method_2_code 11 = .ok (.aload_n 0, 1) := by decide +kernel
theorem d_RD_put_12 : decode prog_1_method_2_code 12 = .ok (.getfield 14, 3) := by decide +kernel
theorem d_RD_put_15 : decode prog_1_method_2_code 15 = .ok (.getfield 54, 3) := by decide +kernel
theorem d_RD_put_18 : decode prog_1_method_2_code 18 = .ok (.iload_n 1, 1) := by decide +kernel
theorem d_RD_put_19 : decode prog_1_method_2_code 19 = .ok (.iadd, 1) := by decide +kernel
theorem d_RD_put_20 : decode prog_1_method_2_code 20 = .ok (.sipush 600, 3) := by decide +kernel
theorem d_RD_put_23 : decode prog_1_method_2_code 23 = .ok (.if_icmp .le 5, 3) := by decide +kernel
theorem d_RD_put_26 : decode prog_1_method_2_code 26 = .ok (.iconst 0, 1) := by decide +kernel
theorem d_RD_put_27 : decode prog_1_method_2_code 27 = .ok (.ireturn, 1) := by decide +kernel
theorem d_RD_put_28 : decode prog_1_method_2_code 28 = .ok (.iload_n 1, 1) := by decide +kernel
theorem d_RD_put_29 : decode prog_1_method_2_code 29 = .ok (.iconst 1, 1) := by decide +kernel
theorem d_RD_put_30 : decode prog_1_method_2_code 30 = .ok (.isub, 1) := by decide +kernel
theorem d_RD_put_31 : decode prog_1_method_2_code 31 = .ok (.istore 4, 2) := by decide +kernel
theorem d_RD_put_33 : decode prog_1_method_2_code 33 = .ok (.iload 4, 2) := by decide +kernel
theorem d_RD_put_35 : decode prog_1_method_2_code 35 = .ok (.ifCond .lt 23, 3) := by decide +kernel
theorem d_RD_put_38 : decode prog_1_method_2_code 38 = .ok (.lload_n 2, 1) := by decide +kernel
theorem d_RD_put_39 : decode prog_1_method_2_code 39 = .ok (.iload 4, 2) := by decide +kernel
theorem d_RD_put_41 : decode prog_1_method_2_code 41 = .ok (.invokestatic 58, 3) := by decide +kernel
theorem d_RD_put_44 : decode prog_1_method_2_code 44 = .ok (.invokestatic 62, 3) := by decide +kernel
theorem d_RD_put_47 : decode prog_1_method_2_code 47 = .ok (.ifCond .ne 5, 3) := by decide +kernel
theorem d_RD_put_50 : decode prog_1_method_2_code 50 = .ok (.iconst 0, 1) := by decide +kernel
theorem d_RD_put_51 : decode prog_1_method_2_code 51 = .ok (.ireturn, 1) := by decide +kernel
theorem d_RD_put_52 : decode prog_1_method_2_code 52 = .ok (.iinc 4 (-1), 3) := by decide +kernel
theorem d_RD_put_55 : decode prog_1_method_2_code 55 = .ok (.goto (-22), 3) := by decide +kernel
theorem d_RD_put_58 : decode prog_1_method_2_code 58 = .ok (.iload_n 1, 1) := by decide +kernel
theorem d_RD_put_59 : decode prog_1_method_2_code 59 = .ok (.iconst 1, 1) := by decide +kernel
theorem d_RD_put_60 : decode prog_1_method_2_code 60 = .ok (.isub, 1) := by decide +kernel
theorem d_RD_put_61 : decode prog_1_method_2_code 61 = .ok (.istore 4, 2) := by decide +kernel
theorem d_RD_put_63 : decode prog_1_method_2_code 63 = .ok (.iload 4, 2) := by decide +kernel
theorem d_RD_put_65 : decode prog_1_method_2_code 65 = .ok (.ifCond .lt 22, 3) := by decide +kernel
theorem d_RD_put_68 : decode prog_1_method_2_code 68 = .ok (.aload_n 0, 1) := by decide +kernel
theorem d_RD_put_69 : decode prog_1_method_2_code 69 = .ok (.getfield 14, 3) := by decide +kernel
theorem d_RD_put_72 : decode prog_1_method_2_code 72 = .ok (.lload_n 2, 1) := by decide +kernel
theorem d_RD_put_73 : decode prog_1_method_2_code 73 = .ok (.iload 4, 2) := by decide +kernel
theorem d_RD_put_75 : decode prog_1_method_2_code 75 = .ok (.invokestatic 58, 3) := by decide +kernel
theorem d_RD_put_78 : decode prog_1_method_2_code 78 = .ok (.invokevirtual 66, 3) := by decide +kernel
theorem d_RD_put_81 : decode prog_1_method_2_code 81 = .ok (.iinc 4 (-1), 3) := by decide +kernel
theorem d_RD_put_84 : decode prog_1_method_2_code 84 = .ok (.goto (-21), 3) := by decide +kernel
theorem d_RD_put_87 : decode prog_1_method_2_code 87 = .ok (.iconst 1, 1) := by decide +kernel
theorem d_RD_put_88 : decode prog_1_method_2_code 88 = .ok (.ireturn, 1) := by decide +kernel
theorem d_RD_scrap_0 : decode prog_1_method_3_code 0 = .ok (.aload_n 0, 1) := by decide +kernel
theorem d_RD_scrap_1 : decode prog_1_method_3_code 1 = .ok (.getfield 14, 3) := by decide +kernel
theorem d_RD_scrap_4 : decode prog_1_method_3_code 4 = .ok (.invokevirtual 70, 3) := by decide +kernel
theorem d_RD_scrap_7 : decode prog_1_method_3_code 7 = .ok (.return_, 1) := by decide +kernel
theorem d_RD_load_0 : decode prog_1_method_4_code 0 = .ok (.aload_n 0, 1) := by decide +kernel
theorem d_RD_load_1 : decode prog_1_method_4_code 1 = .ok (.getfield 14, 3) := by decide +kernel
theorem d_RD_load_4 : decode prog_1_method_4_code 4 = .ok (.getfield 54, 3) := by decide +kernel
theorem d_RD_load_7 : decode prog_1_method_4_code 7 = .ok (.istore_n 1, 1) := by decide +kernel
theorem d_RD_load_8 : decode prog_1_method_4_code 8 = .ok (.aload_n 0, 1) := by decide +kernel
theorem d_RD_load_9 : decode prog_1_method_4_code 9 = .ok (.getfield 45, 3) := by decide +kernel
theorem d_RD_load_12 : decode prog_1_method_4_code 12 = .ok (.aload_n 0, 1) := by decide +kernel
theorem d_RD_load_13 : decode prog_1_method_4_code 13 = .ok (.getfield 14, 3) := by decide +kernel
theorem d_RD_load_16 : decode prog_1_method_4_code 16 = .ok (.invokevirtual 73, 3) := by decide +kernel
theorem d_RD_load_19 : decode prog_1_method_4_code 19 = .ok (.aload_n 0, 1) := by decide +kernel
theorem d_RD_load_20 : decode prog_1_method_4_code 20 = .ok (.getfield 14, 3) := by decide +kernel
theorem d_RD_load_23 : decode prog_1_method_4_code 23 = .ok (.invokevirtual 70, 3) := by decide +kernel
theorem d_RD_load_26 : decode prog_1_method_4_code 26 = .ok (.aload_n 0, 1) := by decide +kernel
theorem d_RD_load_27 : decode prog_1_method_4_code 27 = .ok (.getfield 45, 3) := by decide +kernel
theorem d_RD_load_30 : decode prog_1_method_4_code 30 = .ok (.iload_n 1, 1) := by decide +kernel
theorem d_RD_load_31 : decode prog_1_method_4_code 31 = .ok (.invokevirtual 77, 3) := by decide +kernel
theorem d_RD_load_34 : decode prog_1_method_4_code 34 = .ok (.istore_n 2, 1) := by decide +kernel
theorem d_RD_load_35 : decode prog_1_method_4_code 35 = .ok (.iload_n 2, 1) := by decide +kernel
theorem d_RD_load_36 : decode prog_1_method_4_code 36 = .ok (.iconst (-1), 1) := by decide +kernel
theorem d_RD_load_37 : decode prog_1_method_4_code 37 = .ok (.if_icmp .eq 16, 3) := by decide +kernel
theorem d_RD_load_40 : decode prog_1_method_4_code 40 = .ok (.aload_n 0, 1) := by decide +kernel
theorem d_RD_load_41 : decode prog_1_method_4_code 41 = .ok (.iload_n 2, 1) := by decide +kernel
theorem d_RD_load_42 : decode prog_1_method_4_code 42 = .ok (.putfield 81, 3) := by decide +kernel
theorem d_RD_load_45 : decode prog_1_method_4_code 45 = .ok (.new 84, 3) := by decide +kernel
theorem d_RD_load_48 : decode prog_1_method_4_code 48 = .ok (.dup, 1) := by decide +kernel
theorem d_RD_load_49 : decode prog_1_method_4_code 49 = .ok (.invokespecial 86, 3) := by decide +kernel
theorem d_RD_load_52 : decode prog_1_method_4_code 52 = .ok (.athrow, 1) := by decide +kernel
theorem d_RD_load_53 : decode prog_1_method_4_code 53 = .ok (.aload_n 0, 1) := by decide +kernel
theorem d_RD_load_54 : decode prog_1_method_4_code 54 = .ok (.getfield 41, 3) := by decide +kernel
theorem d_RD_load_57 : decode prog_1_method_4_code 57 = .ok (.astore_n 3, 1) := by decide +kernel
theorem d_RD_load_58 : decode prog_1_method_4_code 58 = .ok (.aload_n 0, 1) := by decide +kernel
theorem d_RD_load_59 : decode prog_1_method_4_code 59 = .ok (.aload_n 0, 1) := by decide +kernel
theorem d_RD_load_60 : decode prog_1_method_4_code 60 = .ok (.getfield 45, 3) := by decide +kernel
theorem d_RD_load_63 : decode prog_1_method_4_code 63 = .ok (.putfield 41, 3) := by decide +kernel
theorem d_RD_load_66 : decode prog_1_method_4_code 66 = .ok (.aload_n 0, 1) := by decide +kernel
theorem d_RD_load_67 : decode prog_1_method_4_code 67 = .ok (.aload_n 3, 1) := by decide +kernel
theorem d_RD_load_68 : decode prog_1_method_4_code 68 = .ok (.putfield 45, 3) := by decide +kernel
theorem d_RD_load_71 : decode prog_1_method_4_code 71 = .ok (.aload_n 0, 1) := by decide +kernel
theorem d_RD_load_72 : decode prog_1_method_4_code 72 = .ok (.iconst 1, 1) := by decide +kernel
theorem d_RD_load_73 : decode prog_1_method_4_code 73 = .ok (.putfield 87, 3) := by decide +kernel
theorem d_RD_load_76 : decode prog_1_method_4_code 76 = .ok (.aload_n 0, 1) := by decide +kernel
theorem d_RD_load_77 : decode prog_1_method_4_code 77 = .ok (.getfield 41, 3) := by decide +kernel
theorem d_RD_load_80 : decode prog_1_method_4_code 80 = .ok (.getfield 91, 3) := by decide +kernel
theorem d_RD_load_83 : decode prog_1_method_4_code 83 = .ok (.ireturn, 1) := by decide +kernel
theorem d_RD_retrace_0 : decode prog_1_method_5_code 0 = .ok (.aload_n 0, 1) := by decide +kernel
theorem d_RD_retrace_1 : decode prog_1_method_5_code 1 = .ok (.invokevirtual 94, 3) := by decide +kernel
theorem d_RD_retrace_4 : decode prog_1_method_5_code 4 = .ok (.aload_n 0, 1) := by decide +kernel
theorem d_RD_retrace_5 : decode prog_1_method_5_code 5 = .ok (.invokevirtual 97, 3) := by decide +kernel
theorem d_RD_retrace_8 : decode prog_1_method_5_code 8 = .ok (.astore_n 1, 1) := by decide +kernel
theorem d_RD_retrace_9 : decode prog_1_method_5_code 9 = .ok (.aload_n 1, 1) := by decide +kernel
theorem d_RD_retrace_10 : decode prog_1_method_5_code 10 = .ok (.invokevirtual 101, 3) := by decide +kernel
theorem d_RD_retrace_13 : decode prog_1_method_5_code 13 = .ok (.aload_n 0, 1) := by decide +kernel
theorem d_RD_retrace_14 : decode prog_1_method_5_code 14 = .ok (.invokevirtual 106, 3) := by decide +kernel
theorem d_RD_retrace_17 : decode prog_1_method_5_code 17 = .ok (.aload_n 0, 1) := by decide +kernel
theorem d_RD_retrace_18 : decode prog_1_method_5_code 18 = .ok (.aload_n 1, 1) := by decide +kernel
theorem d_RD_retrace_19 : decode prog_1_method_5_code 19 = .ok (.invokevirtual 109, 3) := by decide +kernel
theorem d_RD_retrace_22 : decode prog_1_method_5_code 22 = .ok (.aload_n 1, 1) := by decide +kernel
theorem d_RD_retrace_23 : decode prog_1_method_5_code 23 = .ok (.getfield 113, 3) := by decide +kernel
theorem d_RD_retrace_26 : decode prog_1_method_5_code 26 = .ok (.ireturn, 1) := by decide +kernel
theorem d_RD_shorten_0 : decode prog_1_method_6_code 0 = .ok (.aload_n 0, 1) := by decide +kernel
theorem d_RD_shorten_1 : decode prog_1_method_6_code 1 = .ok (.invokevirtual 94, 3) := by decide +kernel
theorem d_RD_shorten_4 : decode prog_1_method_6_code 4 = .ok (.aload_n 0, 1) := by decide +kernel
theorem d_RD_shorten_5 : decode prog_1_method_6_code 5 = .ok (.invokevirtual 97, 3) := by decide +kernel
theorem d_RD_shorten_8 : decode prog_1_method_6_code 8 = .ok (.astore_n 1, 1) := by decide +kernel
theorem d_RD_shorten_9 : decode prog_1_method_6_code 9 = .ok (.aload_n 1, 1) := by decide +kernel
theorem d_RD_shorten_10 : decode prog_1_method_6_code 10 = .ok (.invokevirtual 116, 3) := by decide +kernel
theorem d_RD_shorten_13 : decode prog_1_method_6_code 13 = .ok (.aload_n 0, 1) := by decide +kernel
theorem d_RD_shorten_14 : decode prog_1_method_6_code 14 = .ok (.invokevirtual 106, 3) := by decide +kernel
theorem d_RD_shorten_17 : decode prog_1_method_6_code 17 = .ok (.aload_n 0, 1) := by decide +kernel
theorem d_RD_shorten_18 : decode prog_1_method_6_code 18 = .ok (.invokevirtual 119, 3) := by decide +kernel
theorem d_RD_shorten_21 : decode prog_1_method_6_code 21 = .ok (.aload_n 1, 1) := by decide +kernel
theorem d_RD_shorten_22 : decode prog_1_method_6_code 22 = .ok (.getfield 113, 3) := by decide +kernel
theorem d_RD_shorten_25 : decode prog_1_method_6_code 25 = .ok (.ireturn, 1) := by decide +kernel
theorem d_RD_report_0 : decode prog_1_method_7_code 0 = .ok (.aload_n 0, 1) := by decide +kernel
theorem d_RD_report_1 : decode prog_1_method_7_code 1 = .ok (.invokevirtual 94, 3) := by decide +kernel
theorem d_RD_report_4 : decode prog_1_method_7_code 4 = .ok (.aload_n 0, 1) := by decide +kernel
theorem d_RD_report_5 : decode prog_1_method_7_code 5 = .ok (.invokevirtual 97, 3) := by decide +kernel
theorem d_RD_report_8 : decode prog_1_method_7_code 8 = .ok (.astore_n 1, 1) := by decide +kernel
theorem d_RD_report_9 : decode prog_1_method_7_code 9 = .ok (.aload_n 1, 1) := by decide +kernel
theorem d_RD_report_10 : decode prog_1_method_7_code 10 = .ok (.invokevirtual 101, 3) := by decide +kernel
theorem d_RD_report_13 : decode prog_1_method_7_code 13 = .ok (.aload_n 0, 1) := by decide +kernel
theorem d_RD_report_14 : decode prog_1_method_7_code 14 = .ok (.invokevirtual 106, 3) := by decide +kernel
theorem d_RD_report_17 : decode prog_1_method_7_code 17 = .ok (.aload_n 0, 1) := by decide +kernel
theorem d_RD_report_18 : decode prog_1_method_7_code 18 = .ok (.getfield 51, 3) := by decide +kernel
theorem d_RD_report_21 : decode prog_1_method_7_code 21 = .ok (.invokestatic 122, 3) := by decide +kernel
theorem d_RD_report_24 : decode prog_1_method_7_code 24 = .ok (.lstore_n 2, 1) := by decide +kernel
theorem d_RD_report_25 : decode prog_1_method_7_code 25 = .ok (.aload_n 0, 1) := by decide +kernel
theorem d_RD_report_26 : decode prog_1_method_7_code 26 = .ok (.getfield 34, 3) := by decide +kernel
theorem d_RD_report_29 : decode prog_1_method_7_code 29 = .ok (.lload_n 2, 1) := by decide +kernel
theorem d_RD_report_30 : decode prog_1_method_7_code 30 = .ok (.invokevirtual 126, 3) := by decide +kernel
theorem d_RD_report_33 : decode prog_1_method_7_code 33 = .ok (.istore 4, 2) := by decide +kernel
theorem d_RD_report_35 : decode prog_1_method_7_code 35 = .ok (.iload 4, 2) := by decide +kernel
theorem d_RD_report_37 : decode prog_1_method_7_code 37 = .ok (.bipush 16, 2) := by decide +kernel
theorem d_RD_report_39 : decode prog_1_method_7_code 39 = .ok (.if_icmp .ne 11, 3) := by decide +kernel
theorem d_RD_report_42 : decode prog_1_method_7_code 42 = .ok (.new 130, 3) := by decide +kernel
theorem d_RD_report_45 : decode prog_1_method_7_code 45 = .ok (.dup, 1) := by decide +kernel
theorem d_RD_report_46 : decode prog_1_method_7_code 46 = .ok (.invokespecial 132, 3) := by decide +kernel
theorem d_RD_report_49 : decode prog_1_method_7_code 49 = .ok (.athrow, 1) := by decide +kernel
theorem d_RD_report_50 : decode prog_1_method_7_code 50 = .ok (.aload_n 0, 1) := by decide +kernel
theorem d_RD_report_51 : decode prog_1_method_7_code 51 = .ok (.getfield 34, 3) := by decide +kernel
theorem d_RD_report_54 : decode prog_1_method_7_code 54 = .ok (.iload 4, 2) := by decide +kernel
theorem d_RD_report_56 : decode prog_1_method_7_code 56 = .ok (.lload_n 2, 1) := by decide +kernel
theorem d_RD_report_57 : decode prog_1_method_7_code 57 = .ok (.invokevirtual 133, 3) := by decide +kernel
theorem d_RD_report_60 : decode prog_1_method_7_code 60 = .ok (.aload_n 0, 1) := by decide +kernel
theorem d_RD_report_61 : decode prog_1_method_7_code 61 = .ok (.aload_n 1, 1) := by decide +kernel
theorem d_RD_report_62 : decode prog_1_method_7_code 62 = .ok (.invokevirtual 109, 3) := by decide +kernel
theorem d_RD_report_65 : decode prog_1_method_7_code 65 = .ok (.iload 4, 2) := by decide +kernel
theorem d_RD_report_67 : decode prog_1_method_7_code 67 = .ok (.ireturn, 1) := by decide +kernel
theorem d_RD_wrong_0 : decode prog_1_method_8_code 0 = .ok (.aload_n 0, 1) := by decide +kernel
theorem d_RD_wrong_1 : decode prog_1_method_8_code 1 = .ok (.getfield 81, 3) := by decide +kernel
theorem d_RD_wrong_4 : decode prog_1_method_8_code 4 = .ok (.ireturn, 1) := by decide +kernel
theorem d_RD_length_0 : decode prog_1_method_9_code 0 = .ok (.aload_n 0, 1) := by decide +kernel
theorem d_RD_length_1 : decode prog_1_method_9_code 1 = .ok (.getfield 48, 3) := by decide +kernel
theorem d_RD_length_4 : decode prog_1_method_9_code 4 = .ok (.getfield 54, 3) := by decide +kernel
theorem d_RD_length_7 : decode prog_1_method_9_code 7 = .ok (.ireturn, 1) := by decide +kernel
theorem d_RD_at_0 : decode prog_1_method_10_code 0 = .ok (.iload_n 1, 1) := by decide +kernel
theorem d_RD_at_1 : decode prog_1_method_10_code 1 = .ok (.ifCond .lt 14, 3) := by decide +kernel
theorem d_RD_at_4 : decode prog_1_method_10_code 4 = .ok (.iload_n 1, 1) := by decide +kernel
theorem d_RD_at_5 : decode prog_1_method_10_code 5 = .ok (.aload_n 0, 1) := by decide +kernel
theorem d_RD_at_6 : decode prog_1_method_10_code 6 = .ok (.getfield 48, 3) := by decide +kernel
theorem d_RD_at_9 : decode prog_1_method_10_code 9 = .ok (.getfield 54, 3) := by decide +kernel
theorem d_RD_at_12 : decode prog_1_method_10_code 12 = .ok (.if_icmp .lt 11, 3) := by decide +kernel
theorem d_RD_at_15 : decode prog_1_method_10_code 15 = .ok (.new 137, 3) := by decide +kernel
theorem d_RD_at_18 : decode prog_1_method_10_code 18 = .ok (.dup, 1) := by decide +kernel
theorem d_RD_at_19 : decode prog_1_method_10_code 19 = .ok (.invokespecial 139, 3) := by decide +kernel
theorem d_RD_at_22 : decode prog_1_method_10_code 22 = .ok (.athrow, 1) := by decide +kernel
theorem d_RD_at_23 : decode prog_1_method_10_code 23 = .ok (.aload_n 0, 1) := by decide +kernel
theorem d_RD_at_24 : decode prog_1_method_10_code 24 = .ok (.getfield 48, 3) := by decide +kernel
theorem d_RD_at_27 : decode prog_1_method_10_code 27 = .ok (.getfield 20, 3) := by decide +kernel
theorem d_RD_at_30 : decode prog_1_method_10_code 30 = .ok (.iload_n 1, 1) := by decide +kernel
theorem d_RD_at_31 : decode prog_1_method_10_code 31 = .ok (.caload, 1) := by decide +kernel
theorem d_RD_at_32 : decode prog_1_method_10_code 32 = .ok (.ireturn, 1) := by decide +kernel
theorem d_RD_doubtful_0 : decode prog_1_method_11_code 0 = .ok (.aload_n 0, 1) := by decide +kernel
theorem d_RD_doubtful_1 : decode prog_1_method_11_code 1 = .ok (.getfield 140, 3) := by decide +kernel
theorem d_RD_doubtful_4 : decode prog_1_method_11_code 4 = .ok (.ireturn, 1) := by decide +kernel
theorem d_RD_groups_0 : decode prog_1_method_12_code 0 = .ok (.iload_n 1, 1) := by decide +kernel
theorem d_RD_groups_1 : decode prog_1_method_12_code 1 = .ok (.ifCond .lt 14, 3) := by decide +kernel
theorem d_RD_groups_4 : decode prog_1_method_12_code 4 = .ok (.iload_n 1, 1) := by decide +kernel
theorem d_RD_groups_5 : decode prog_1_method_12_code 5 = .ok (.aload_n 0, 1) := by decide +kernel
theorem d_RD_groups_6 : decode prog_1_method_12_code 6 = .ok (.getfield 41, 3) := by decide +kernel
theorem d_RD_groups_9 : decode prog_1_method_12_code 9 = .ok (.getfield 143, 3) := by decide +kernel
theorem d_RD_groups_12 : decode prog_1_method_12_code 12 = .ok (.if_icmp .lt 11, 3) := by decide +kernel
theorem d_RD_groups_15 : decode prog_1_method_12_code 15 = .ok (.new 146, 3) := by decide +kernel
theorem d_RD_groups_18 : decode prog_1_method_12_code 18 = .ok (.dup, 1) := by decide +kernel
theorem d_RD_groups_19 : decode prog_1_method_12_code 19 = .ok (.invokespecial 148, 3) := by decide +kernel
theorem d_RD_groups_22 : decode prog_1_method_12_code 22 = .ok (.athrow, 1) := by decide +kernel
theorem d_RD_groups_23 : decode prog_1_method_12_code 23 = .ok (.aload_n 0, 1) := by decide +kernel
theorem d_RD_groups_24 : decode prog_1_method_12_code 24 = .ok (.getfield 41, 3) := by decide +kernel
theorem d_RD_groups_27 : decode prog_1_method_12_code 27 = .ok (.getfield 149, 3) := by decide +kernel
theorem d_RD_groups_30 : decode prog_1_method_12_code 30 = .ok (.iload_n 1, 1) := by decide +kernel
theorem d_RD_groups_31 : decode prog_1_method_12_code 31 = .ok (.aaload, 1) := by decide +kernel
theorem d_RD_groups_32 : decode prog_1_method_12_code 32 = .ok (.getfield 153, 3) := by decide +kernel
theorem d_RD_groups_35 : decode prog_1_method_12_code 35 = .ok (.ireturn, 1) := by decide +kernel
theorem d_RD_crashes_0 : decode prog_1_method_13_code 0 = .ok (.aload_n 0, 1) := by decide +kernel
theorem d_RD_crashes_1 : decode prog_1_method_13_code 1 = .ok (.getfield 34, 3) := by decide +kernel
theorem d_RD_crashes_4 : decode prog_1_method_13_code 4 = .ok (.getfield 156, 3) := by decide +kernel
theorem d_RD_crashes_7 : decode prog_1_method_13_code 7 = .ok (.ireturn, 1) := by decide +kernel
theorem d_RD_key_0 : decode prog_1_method_14_code 0 = .ok (.aload_n 0, 1) := by decide +kernel
theorem d_RD_key_1 : decode prog_1_method_14_code 1 = .ok (.iload_n 1, 1) := by decide +kernel
theorem d_RD_key_2 : decode prog_1_method_14_code 2 = .ok (.invokevirtual 157, 3) := by decide +kernel
theorem d_RD_key_5 : decode prog_1_method_14_code 5 = .ok (.aload_n 0, 1) := by decide +kernel
theorem d_RD_key_6 : decode prog_1_method_14_code 6 = .ok (.getfield 34, 3) := by decide +kernel
theorem d_RD_key_9 : decode prog_1_method_14_code 9 = .ok (.getfield 160, 3) := by decide +kernel
theorem d_RD_key_12 : decode prog_1_method_14_code 12 = .ok (.iload_n 1, 1) := by decide +kernel
theorem d_RD_key_13 : decode prog_1_method_14_code 13 = .ok (.laload, 1) := by decide +kernel
theorem d_RD_key_14 : decode prog_1_method_14_code 14 = .ok (.lreturn, 1) := by decide +kernel
theorem d_RD_reports_0 : decode prog_1_method_15_code 0 = .ok (.aload_n 0, 1) := by decide +kernel
theorem d_RD_reports_1 : decode prog_1_method_15_code 1 = .ok (.iload_n 1, 1) := by decide +kernel
theorem d_RD_reports_2 : decode prog_1_method_15_code 2 = .ok (.invokevirtual 157, 3) := by decide +kernel
theorem d_RD_reports_5 : decode prog_1_method_15_code 5 = .ok (.iload_n 2, 1) := by decide +kernel
theorem d_RD_reports_6 : decode prog_1_method_15_code 6 = .ok (.ifCond .lt 8, 3) := by decide +kernel
theorem d_RD_reports_9 : decode prog_1_method_15_code 9 = .ok (.iload_n 2, 1) := by decide +kernel
theorem d_RD_reports_10 : decode prog_1_method_15_code 10 = .ok (.iconst 2, 1) := by decide +kernel
theorem d_RD_reports_11 : decode prog_1_method_15_code 11 = .ok (.if_icmp .le 11, 3) := by decide +kernel
theorem d_RD_reports_14 : decode prog_1_method_15_code 14 = .ok (.new 84, 3) := by decide +kernel
theorem d_RD_reports_17 : decode prog_1_method_15_code 17 = .ok (.dup, 1) := by decide +kernel
theorem d_RD_reports_18 : decode prog_1_method_15_code 18 = .ok (.invokespecial 86, 3) := by decide +kernel
theorem d_RD_reports_21 : decode prog_1_method_15_code 21 = .ok (.athrow, 1) := by decide +kernel
theorem d_RD_reports_22 : decode prog_1_method_15_code 22 = .ok (.iload_n 2, 1) := by decide +kernel
theorem d_RD_reports_23 : decode prog_1_method_15_code 23 = .ok (.ifCond .ne 13, 3) := by decide +kernel
theorem d_RD_reports_26 : decode prog_1_method_15_code 26 = .ok (.aload_n 0, 1) := by decide +kernel
theorem d_RD_reports_27 : decode prog_1_method_15_code 27 = .ok (.getfield 34, 3) := by decide +kernel
theorem d_RD_reports_30 : decode prog_1_method_15_code 30 = .ok (.getfield 164, 3) := by decide +kernel
theorem d_RD_reports_33 : decode prog_1_method_15_code 33 = .ok (.iload_n 1, 1) := by decide +kernel
theorem d_RD_reports_34 : decode prog_1_method_15_code 34 = .ok (.iaload, 1) := by decide +kernel
theorem d_RD_reports_35 : decode prog_1_method_15_code 35 = .ok (.ireturn, 1) := by decide +kernel
theorem d_RD_reports_36 : decode prog_1_method_15_code 36 = .ok (.iload_n 2, 1) := by decide +kernel
theorem d_RD_reports_37 : decode prog_1_method_15_code 37 = .ok (.iconst 1, 1) := by decide +kernel
theorem d_RD_reports_38 : decode prog_1_method_15_code 38 = .ok (.if_icmp .ne 15, 3) := by decide +kernel
theorem d_RD_reports_41 : decode prog_1_method_15_code 41 = .ok (.aload_n 0, 1) := by decide +kernel
theorem d_RD_reports_42 : decode prog_1_method_15_code 42 = .ok (.getfield 34, 3) := by decide +kernel
theorem d_RD_reports_45 : decode prog_1_method_15_code 45 = .ok (.getfield 168, 3) := by decide +kernel
theorem d_RD_reports_48 : decode prog_1_method_15_code 48 = .ok (.iload_n 1, 1) := by decide +kernel
theorem d_RD_reports_49 : decode prog_1_method_15_code 49 = .ok (.iaload, 1) := by decide +kernel
theorem d_RD_reports_50 : decode prog_1_method_15_code 50 = .ok (.goto 12, 3) := by decide +kernel
theorem d_RD_reports_53 : decode prog_1_method_15_code 53 = .ok (.aload_n 0, 1) := by decide +kernel
theorem d_RD_reports_54 : decode prog_1_method_15_code 54 = .ok (.getfield 34, 3) := by decide +kernel
theorem d_RD_reports_57 : decode prog_1_method_15_code 57 = .ok (.getfield 171, 3) := by decide +kernel
theorem d_RD_reports_60 : decode prog_1_method_15_code 60 = .ok (.iload_n 1, 1) := by decide +kernel
theorem d_RD_reports_61 : decode prog_1_method_15_code 61 = .ok (.iaload, 1) := by decide +kernel
theorem d_RD_reports_62 : decode prog_1_method_15_code 62 = .ok (.ireturn, 1) := by decide +kernel
theorem d_RD_refuseUnknownCrash_0 : decode prog_1_method_16_code 0 = .ok (.iload_n 1, 1) := by decide +kernel
theorem d_RD_refuseUnknownCrash_1 : decode prog_1_method_16_code 1 = .ok (.ifCond .lt 14, 3) := by decide +kernel
theorem d_RD_refuseUnknownCrash_4 : decode prog_1_method_16_code 4 = .ok (.iload_n 1, 1) := by decide +kernel
theorem d_RD_refuseUnknownCrash_5 : decode prog_1_method_16_code 5 = .ok (.aload_n 0, 1) := by decide +kernel
theorem d_RD_refuseUnknownCrash_6 : decode prog_1_method_16_code 6 = .ok (.getfield 34, 3) := by decide +kernel
theorem d_RD_refuseUnknownCrash_9 : decode prog_1_method_16_code 9 = .ok (.getfield 156, 3) := by decide +kernel
theorem d_RD_refuseUnknownCrash_12 : decode prog_1_method_16_code 12 = .ok (.if_icmp .lt 11, 3) := by decide +kernel
theorem d_RD_refuseUnknownCrash_15 : decode prog_1_method_16_code 15 = .ok (.new 146, 3) := by decide +kernel
theorem d_RD_refuseUnknownCrash_18 : decode prog_1_method_16_code 18 = .ok (.dup, 1) := by decide +kernel
theorem d_RD_refuseUnknownCrash_19 : decode prog_1_method_16_code 19 = .ok (.invokespecial 148, 3) := by decide +kernel
theorem d_RD_refuseUnknownCrash_22 : decode prog_1_method_16_code 22 = .ok (.athrow, 1) := by decide +kernel
theorem d_RD_refuseUnknownCrash_23 : decode prog_1_method_16_code 23 = .ok (.return_, 1) := by decide +kernel
theorem d_RD_readTrace_0 : decode prog_1_method_17_code 0 = .ok (.aload_n 0, 1) := by decide +kernel
theorem d_RD_readTrace_1 : decode prog_1_method_17_code 1 = .ok (.getfield 27, 3) := by decide +kernel
theorem d_RD_readTrace_4 : decode prog_1_method_17_code 4 = .ok (.invokevirtual 174, 3) := by decide +kernel
theorem d_RD_readTrace_7 : decode prog_1_method_17_code 7 = .ok (.aload_n 0, 1) := by decide +kernel
theorem d_RD_readTrace_8 : decode prog_1_method_17_code 8 = .ok (.getfield 27, 3) := by decide +kernel
theorem d_RD_readTrace_11 : decode prog_1_method_17_code 11 = .ok (.aload_n 0, 1) := by decide +kernel
theorem d_RD_readTrace_12 : decode prog_1_method_17_code 12 = .ok (.getfield 14, 3) := by decide +kernel
theorem d_RD_readTrace_15 : decode prog_1_method_17_code 15 = .ok (.invokevirtual 176, 3) := by decide +kernel
theorem d_RD_readTrace_18 : decode prog_1_method_17_code 18 = .ok (.invokevirtual 180, 3) := by decide +kernel
theorem d_RD_readTrace_21 : decode prog_1_method_17_code 21 = .ok (.istore_n 1, 1) := by decide +kernel
theorem d_RD_readTrace_22 : decode prog_1_method_17_code 22 = .ok (.aload_n 0, 1) := by decide +kernel
theorem d_RD_readTrace_23 : decode prog_1_method_17_code 23 = .ok (.getfield 14, 3) := by decide +kernel
theorem d_RD_readTrace_26 : decode prog_1_method_17_code 26 = .ok (.invokevirtual 70, 3) := by decide +kernel
theorem d_RD_readTrace_29 : decode prog_1_method_17_code 29 = .ok (.iload_n 1, 1) := by decide +kernel
theorem d_RD_readTrace_30 : decode prog_1_method_17_code 30 = .ok (.iconst (-1), 1) := by decide +kernel
theorem d_RD_readTrace_31 : decode prog_1_method_17_code 31 = .ok (.if_icmp .eq 16, 3) := by decide +kernel
theorem d_RD_readTrace_34 : decode prog_1_method_17_code 34 = .ok (.aload_n 0, 1) := by decide +kernel
theorem d_RD_readTrace_35 : decode prog_1_method_17_code 35 = .ok (.iload_n 1, 1) := by decide +kernel
theorem d_RD_readTrace_36 : decode prog_1_method_17_code 36 = .ok (.putfield 81, 3) := by decide +kernel
theorem d_RD_readTrace_39 : decode prog_1_method_17_code 39 = .ok (.new 84, 3) := by decide +kernel
theorem d_RD_readTrace_42 : decode prog_1_method_17_code 42 = .ok (.dup, 1) := by decide +kernel
theorem d_RD_readTrace_43 : decode prog_1_method_17_code 43 = .ok (.invokespecial 86, 3) := by decide +kernel
theorem d_RD_readTrace_46 : decode prog_1_method_17_code 46 = .ok (.athrow, 1) := by decide +kernel
theorem d_RD_readTrace_47 : decode prog_1_method_17_code 47 = .ok (.return_, 1) := by decide +kernel
theorem d_RD_newRewriter_0 : decode prog_1_method_18_code 0 = .ok (.aload_n 0, 1) := by decide +kernel
theorem d_RD_newRewriter_1 : decode prog_1_method_18_code 1 = .ok (.getfield 87, 3) := by decide +kernel
theorem d_RD_newRewriter_4 : decode prog_1_method_18_code 4 = .ok (.ifCond .ne 11, 3) := by decide +kernel
theorem d_RD_newRewriter_7 : decode prog_1_method_18_code 7 = .ok (.new 130, 3) := by decide +kernel
theorem d_RD_newRewriter_10 : decode prog_1_method_18_code 10 = .ok (.dup, 1) := by decide +kernel
theorem d_RD_newRewriter_11 : decode prog_1_method_18_code 11 = .ok (.invokespecial 132, 3) := by decide +kernel
theorem d_RD_newRewriter_14 : decode prog_1_method_18_code 14 = .ok (.athrow, 1) := by decide +kernel
theorem d_RD_newRewriter_15 : decode prog_1_method_18_code 15 = .ok (.aload_n 0, 1) := by decide +kernel
theorem d_RD_newRewriter_16 : decode prog_1_method_18_code 16 = .ok (.getfield 51, 3) := by decide +kernel
theorem d_RD_newRewriter_19 : decode prog_1_method_18_code 19 = .ok (.invokevirtual 70, 3) := by decide +kernel
theorem d_RD_newRewriter_22 : decode prog_1_method_18_code 22 = .ok (.new 102, 3) := by decide +kernel
theorem d_RD_newRewriter_25 : decode prog_1_method_18_code 25 = .ok (.dup, 1) := by decide +kernel
theorem d_RD_newRewriter_26 : decode prog_1_method_18_code 26 = .ok (.aload_n 0, 1) := by decide +kernel
theorem d_RD_newRewriter_27 : decode prog_1_method_18_code 27 = .ok (.getfield 27, 3) := by decide +kernel
theorem d_RD_newRewriter_30 : decode prog_1_method_18_code 30 = .ok (.aload_n 0, 1) := by decide +kernel
theorem d_RD_newRewriter_31 : decode prog_1_method_18_code 31 = .ok (.getfield 41, 3) := by decide +kernel
theorem d_RD_newRewriter_34 : decode prog_1_method_18_code 34 = .ok (.aload_n 0, 1) := by decide +kernel
theorem d_RD_newRewriter_35 : decode prog_1_method_18_code 35 = .ok (.getfield 51, 3) := by decide +kernel
theorem d_RD_newRewriter_38 : decode prog_1_method_18_code 38 = .ok (.invokespecial 181, 3) := by decide +kernel
theorem d_RD_newRewriter_41 : decode prog_1_method_18_code 41 = .ok (.areturn, 1) := by decide +kernel
theorem d_RD_refuseLongPrint_0 : decode prog_1_method_19_code 0 = .ok (.aload_n 0, 1) := by decide +kernel
theorem d_RD_refuseLongPrint_1 : decode prog_1_method_19_code 1 = .ok (.getfield 51, 3) := by decide +kernel
theorem d_RD_refuseLongPrint_4 : decode prog_1_method_19_code 4 = .ok (.getfield 184, 3) := by decide +kernel
theorem d_RD_refuseLongPrint_7 : decode prog_1_method_19_code 7 = .ok (.ifCond .eq 11, 3) := by decide +kernel
theorem d_RD_refuseLongPrint_10 : decode prog_1_method_19_code 10 = .ok (.new 130, 3) := by decide +kernel
theorem d_RD_refuseLongPrint_13 : decode prog_1_method_19_code 13 = .ok (.dup, 1) := by decide +kernel
theorem d_RD_refuseLongPrint_14 : decode prog_1_method_19_code 14 = .ok (.invokespecial 132, 3) := by decide +kernel
theorem d_RD_refuseLongPrint_17 : decode prog_1_method_19_code 17 = .ok (.athrow, 1) := by decide +kernel
theorem d_RD_refuseLongPrint_18 : decode prog_1_method_19_code 18 = .ok (.return_, 1) := by decide +kernel
theorem d_RD_keepRetraced_0 : decode prog_1_method_20_code 0 = .ok (.aload_n 0, 1) := by decide +kernel
theorem d_RD_keepRetraced_1 : decode prog_1_method_20_code 1 = .ok (.aload_n 1, 1) := by decide +kernel
theorem d_RD_keepRetraced_2 : decode prog_1_method_20_code 2 = .ok (.getfield 187, 3) := by decide +kernel
theorem d_RD_keepRetraced_5 : decode prog_1_method_20_code 5 = .ok (.putfield 140, 3) := by decide +kernel
theorem d_RD_keepRetraced_8 : decode prog_1_method_20_code 8 = .ok (.aload_n 0, 1) := by decide +kernel
theorem d_RD_keepRetraced_9 : decode prog_1_method_20_code 9 = .ok (.invokevirtual 119, 3) := by decide +kernel
theorem d_RD_keepRetraced_12 : decode prog_1_method_20_code 12 = .ok (.return_, 1) := by decide +kernel
theorem d_RD_swapPrints_0 : decode prog_1_method_21_code 0 = .ok (.aload_n 0, 1) := by decide +kernel
theorem d_RD_swapPrints_1 : decode prog_1_method_21_code 1 = .ok (.getfield 48, 3) := by decide +kernel
theorem d_RD_swapPrints_4 : decode prog_1_method_21_code 4 = .ok (.astore_n 1, 1) := by decide +kernel
theorem d_RD_swapPrints_5 : decode prog_1_method_21_code 5 = .ok (.aload_n 0, 1) := by decide +kernel
theorem d_RD_swapPrints_6 : decode prog_1_method_21_code 6 = .ok (.aload_n 0, 1) := by decide +kernel
theorem d_RD_swapPrints_7 : decode prog_1_method_21_code 7 = .ok (.getfield 51, 3) := by decide +kernel
theorem d_RD_swapPrints_10 : decode prog_1_method_21_code 10 = .ok (.putfield 48, 3) := by decide +kernel
theorem d_RD_swapPrints_13 : decode prog_1_method_21_code 13 = .ok (.aload_n 0, 1) := by decide +kernel
theorem d_RD_swapPrints_14 : decode prog_1_method_21_code 14 = .ok (.aload_n 1, 1) := by decide +kernel
theorem d_RD_swapPrints_15 : decode prog_1_method_21_code 15 = .ok (.putfield 51, 3) := by decide +kernel
theorem d_RD_swapPrints_18 : decode prog_1_method_21_code 18 = .ok (.return_, 1) := by decide +kernel
theorem d_RD_codeIn_0 : decode prog_1_method_22_code 0 = .ok (.lload_n 0, 1) := by decide +kernel
theorem d_RD_codeIn_1 : decode prog_1_method_22_code 1 = .ok (.bipush 8, 2) := by decide +kernel
theorem d_RD_codeIn_3 : decode prog_1_method_22_code 3 = .ok (.iload_n 2, 1) := by decide +kernel
theorem d_RD_codeIn_4 : decode prog_1_method_22_code 4 = .ok (.imul, 1) := by decide +kernel
theorem d_RD_codeIn_5 : decode prog_1_method_22_code 5 = .ok (.lushr, 1) := by decide +kernel
theorem d_RD_codeIn_6 : decode prog_1_method_22_code 6 = .ok (.ldc2_w 190, 3) := by decide +kernel
theorem d_RD_codeIn_9 : decode prog_1_method_22_code 9 = .ok (.land, 1) := by decide +kernel
theorem d_RD_codeIn_10 : decode prog_1_method_22_code 10 = .ok (.l2i, 1) := by decide +kernel
theorem d_RD_codeIn_11 : decode prog_1_method_22_code 11 = .ok (.i2c, 1) := by decide +kernel
theorem d_RD_codeIn_12 : decode prog_1_method_22_code 12 = .ok (.ireturn, 1) := by decide +kernel
theorem d_RD_isDraftCode_0 : decode prog_1_method_23_code 0 = .ok (.iload_n 0, 1) := by decide +kernel
theorem d_RD_isDraftCode_1 : decode prog_1_method_23_code 1 = .ok (.bipush 10, 2) := by decide +kernel
theorem d_RD_isDraftCode_3 : decode prog_1_method_23_code 3 = .ok (.if_icmp .eq 21, 3) := by decide +kernel
theorem d_RD_isDraftCode_6 : decode prog_1_method_23_code 6 = .ok (.iload_n 0, 1) := by decide +kernel
theorem d_RD_isDraftCode_7 : decode prog_1_method_23_code 7 = .ok (.bipush 9, 2) := by decide +kernel
theorem d_RD_isDraftCode_9 : decode prog_1_method_23_code 9 = .ok (.if_icmp .eq 15, 3) := by decide +kernel
theorem d_RD_isDraftCode_12 : decode prog_1_method_23_code 12 = .ok (.iload_n 0, 1) := by decide +kernel
theorem d_RD_isDraftCode_13 : decode prog_1_method_23_code 13 = .ok (.bipush 32, 2) := by decide +kernel
theorem d_RD_isDraftCode_15 : decode prog_1_method_23_code 15 = .ok (.if_icmp .lt 13, 3) := by decide +kernel
theorem d_RD_isDraftCode_18 : decode prog_1_method_23_code 18 = .ok (.iload_n 0, 1) := by decide +kernel
theorem d_RD_isDraftCode_19 : decode prog_1_method_23_code 19 = .ok (.bipush 126, 2) := by decide +kernel
theorem d_RD_isDraftCode_21 : decode prog_1_method_23_code 21 = .ok (.if_icmp .gt 7, 3) := by decide +kernel
theorem d_RD_isDraftCode_24 : decode prog_1_method_23_code 24 = .ok (.iconst 1, 1) := by decide +kernel
theorem d_RD_isDraftCode_25 : decode prog_1_method_23_code 25 = .ok (.goto 4, 3) := by decide +kernel
theorem d_RD_isDraftCode_28 : decode prog_1_method_23_code 28 = .ok (.iconst 0, 1) := by decide +kernel
theorem d_RD_isDraftCode_29 : decode prog_1_method_23_code 29 = .ok (.ireturn, 1) := by decide +kernel
theorem d_RD_isFigure_0 : decode prog_1_method_24_code 0 = .ok (.iload_n 0, 1) := by decide +kernel
theorem d_RD_isFigure_1 : decode prog_1_method_24_code 1 = .ok (.bipush 48, 2) := by decide +kernel
theorem d_RD_isFigure_3 : decode prog_1_method_24_code 3 = .ok (.if_icmp .lt 13, 3) := by decide +kernel
theorem d_RD_isFigure_6 : decode prog_1_method_24_code 6 = .ok (.iload_n 0, 1) := by decide +kernel
theorem d_RD_isFigure_7 : decode prog_1_method_24_code 7 = .ok (.bipush 57, 2) := by decide +kernel
theorem d_RD_isFigure_9 : decode prog_1_method_24_code 9 = .ok (.if_icmp .gt 7, 3) := by decide +kernel
theorem d_RD_isFigure_12 : decode prog_1_method_24_code 12 = .ok (.iconst 1, 1) := by decide +kernel
theorem d_RD_isFigure_13 : decode prog_1_method_24_code 13 = .ok (.goto 4, 3) := by decide +kernel
theorem d_RD_isFigure_16 : decode prog_1_method_24_code 16 = .ok (.iconst 0, 1) := by decide +kernel
theorem d_RD_isFigure_17 : decode prog_1_method_24_code 17 = .ok (.ireturn, 1) := by decide +kernel
theorem d_RD_isLetter_0 : decode prog_1_method_25_code 0 = .ok (.iload_n 0, 1) := by decide +kernel
theorem d_RD_isLetter_1 : decode prog_1_method_25_code 1 = .ok (.bipush 97, 2) := by decide +kernel
theorem d_RD_isLetter_3 : decode prog_1_method_25_code 3 = .ok (.if_icmp .lt 9, 3) := by decide +kernel
theorem d_RD_isLetter_6 : decode prog_1_method_25_code 6 = .ok (.iload_n 0, 1) := by decide +kernel
theorem d_RD_isLetter_7 : decode prog_1_method_25_code 7 = .ok (.bipush 122, 2) := by decide +kernel
theorem d_RD_isLetter_9 : decode prog_1_method_25_code 9 = .ok (.if_icmp .le 27, 3) := by decide +kernel
theorem d_RD_isLetter_12 : decode prog_1_method_25_code 12 = .ok (.iload_n 0, 1) := by decide +kernel
theorem d_RD_isLetter_13 : decode prog_1_method_25_code 13 = .ok (.bipush 65, 2) := by decide +kernel
theorem d_RD_isLetter_15 : decode prog_1_method_25_code 15 = .ok (.if_icmp .lt 9, 3) := by decide +kernel
theorem d_RD_isLetter_18 : decode prog_1_method_25_code 18 = .ok (.iload_n 0, 1) := by decide +kernel
theorem d_RD_isLetter_19 : decode prog_1_method_25_code 19 = .ok (.bipush 90, 2) := by decide +kernel
theorem d_RD_isLetter_21 : decode prog_1_method_25_code 21 = .ok (.if_icmp .le 15, 3) := by decide +kernel
theorem d_RD_isLetter_24 : decode prog_1_method_25_code 24 = .ok (.iload_n 0, 1) := by decide +kernel
theorem d_RD_isLetter_25 : decode prog_1_method_25_code 25 = .ok (.bipush 95, 2) := by decide +kernel
theorem d_RD_isLetter_27 : decode prog_1_method_25_code 27 = .ok (.if_icmp .eq 9, 3) := by decide +kernel
theorem d_RD_isLetter_30 : decode prog_1_method_25_code 30 = .ok (.iload_n 0, 1) := by decide +kernel
theorem d_RD_isLetter_31 : decode prog_1_method_25_code 31 = .ok (.bipush 36, 2) := by decide +kernel
theorem d_RD_isLetter_33 : decode prog_1_method_25_code 33 = .ok (.if_icmp .ne 7, 3) := by decide +kernel
theorem d_RD_isLetter_36 : decode prog_1_method_25_code 36 = .ok (.iconst 1, 1) := by decide +kernel
theorem d_RD_isLetter_37 : decode prog_1_method_25_code 37 = .ok (.goto 4, 3) := by decide +kernel
theorem d_RD_isLetter_40 : decode prog_1_method_25_code 40 = .ok (.iconst 0, 1) := by decide +kernel
theorem d_RD_isLetter_41 : decode prog_1_method_25_code 41 = .ok (.ireturn, 1) := by decide +kernel
theorem d_MO_init_0 : decode prog_14_method_1_code 0 = .ok (.aload_n 0, 1) := by decide +kernel
theorem d_MO_init_1 : decode prog_14_method_1_code 1 = .ok (.invokespecial 1, 3) := by decide +kernel
theorem d_MO_init_4 : decode prog_14_method_1_code 4 = .ok (.aload_n 0, 1) := by decide +kernel
theorem d_MO_init_5 : decode prog_14_method_1_code 5 = .ok (.sipush 600, 3) := by decide +kernel
theorem d_MO_init_8 : decode prog_14_method_1_code 8 = .ok (.newarray .int, 2) := by decide +kernel
theorem d_MO_init_10 : decode prog_14_method_1_code 10 = .ok (.putfield 7, 3) := by decide +kernel
theorem d_MO_init_13 : decode prog_14_method_1_code 13 = .ok (.aload_n 0, 1) := by decide +kernel
theorem d_MO_init_14 : decode prog_14_method_1_code 14 = .ok (.sipush 1200, 3) := by decide +kernel
theorem d_MO_init_17 : decode prog_14_method_1_code 17 = .ok (.newarray .int, 2) := by decide +kernel
theorem d_MO_init_19 : decode prog_14_method_1_code 19 = .ok (.putfield 13, 3) := by decide +kernel
theorem d_MO_init_22 : decode prog_14_method_1_code 22 = .ok (.aload_n 0, 1) := by decide +kernel
theorem d_MO_init_23 : decode prog_14_method_1_code 23 = .ok (.sipush 600, 3) := by decide +kernel
theorem d_MO_init_26 : decode prog_14_method_1_code 26 = .ok (.newarray .int, 2) := by decide +kernel
theorem d_MO_init_28 : decode prog_14_method_1_code 28 = .ok (.putfield 16, 3) := by decide +kernel
theorem d_MO_init_31 : decode prog_14_method_1_code 31 = .ok (.aload_n 0, 1) := by decide +kernel
theorem d_MO_init_32 : decode prog_14_method_1_code 32 = .ok (.bipush 8, 2) := by decide +kernel
theorem d_MO_init_34 : decode prog_14_method_1_code 34 = .ok (.newarray .int, 2) := by decide +kernel
theorem d_MO_init_36 : decode prog_14_method_1_code 36 = .ok (.putfield 19, 3) := by decide +kernel
theorem d_MO_init_39 : decode prog_14_method_1_code 39 = .ok (.aload_n 0, 1) := by decide +kernel
theorem d_MO_init_40 : decode prog_14_method_1_code 40 = .ok (.bipush 8, 2) := by decide +kernel
theorem d_MO_init_42 : decode prog_14_method_1_code 42 = .ok (.newarray .int, 2) := by decide +kernel
theorem d_MO_init_44 : decode prog_14_method_1_code 44 = .ok (.putfield 22, 3) := by decide +kernel
theorem d_MO_init_47 : decode prog_14_method_1_code 47 = .ok (.aload_n 0, 1) := by decide +kernel
theorem d_MO_init_48 : decode prog_14_method_1_code 48 = .ok (.bipush 8, 2) := by decide +kernel
theorem d_MO_init_50 : decode prog_14_method_1_code 50 = .ok (.newarray .int, 2) := by decide +kernel
theorem d_MO_init_52 : decode prog_14_method_1_code 52 = .ok (.putfield 25, 3) := by decide +kernel
theorem d_MO_init_55 : decode prog_14_method_1_code 55 = .ok (.aload_n 0, 1) := by decide +kernel
theorem d_MO_init_56 : decode prog_14_method_1_code 56 = .ok (.bipush 8, 2) := by decide +kernel
theorem d_MO_init_58 : decode prog_14_method_1_code 58 = .ok (.newarray .int, 2) := by decide +kernel
theorem d_MO_init_60 : decode prog_14_method_1_code 60 = .ok (.putfield 28, 3) := by decide +kernel
theorem d_MO_init_63 : decode prog_14_method_1_code 63 = .ok (.aload_n 0, 1) := by decide +kernel
theorem d_MO_init_64 : decode prog_14_method_1_code 64 = .ok (.bipush 32, 2) := by decide +kernel
theorem d_MO_init_66 : decode prog_14_method_1_code 66 = .ok (.newarray .int, 2) := by decide +kernel
theorem d_MO_init_68 : decode prog_14_method_1_code 68 = .ok (.putfield 31, 3) := by decide +kernel
theorem d_MO_init_71 : decode prog_14_method_1_code 71 = .ok (.aload_n 0, 1) := by decide +kernel
theorem d_MO_init_72 : decode prog_14_method_1_code 72 = .ok (.bipush 32, 2) := by decide +kernel
theorem d_MO_init_74 : decode prog_14_method_1_code 74 = .ok (.newarray .int, 2) := by decide +kernel
theorem d_MO_init_76 : decode prog_14_method_1_code 76 = .ok (.putfield 34, 3) := by decide +kernel
theorem d_MO_init_79 : decode prog_14_method_1_code 79 = .ok (.aload_n 0, 1) := by decide +kernel
theorem d_MO_init_80 : decode prog_14_method_1_code 80 = .ok (.bipush 32, 2) := by decide +kernel
theorem d_MO_init_82 : decode prog_14_method_1_code 82 = .ok (.newarray .int, 2) := by decide +kernel
theorem d_MO_init_84 : decode prog_14_method_1_code 84 = .ok (.putfield 37, 3) := by decide +kernel
theorem d_MO_init_87 : decode prog_14_method_1_code 87 = .ok (.aload_n 0, 1) := by decide +kernel
theorem d_MO_init_88 : decode prog_14_method_1_code 88 = .ok (.bipush 32, 2) := by decide +kernel
theorem d_MO_init_90 : decode prog_14_method_1_code 90 = .ok (.newarray .int, 2) := by decide +kernel
theorem d_MO_init_92 : decode prog_14_method_1_code 92 = .ok (.putfield 40, 3) := by decide +kernel
theorem d_MO_init_95 : decode prog_14_method_1_code 95 = .ok (.aload_n 0, 1) := by decide +kernel
theorem d_MO_init_96 : decode prog_14_method_1_code 96 = .ok (.bipush 32, 2) := by decide +kernel
theorem d_MO_init_98 : decode prog_14_method_1_code 98 = .ok (.newarray .int, 2) := by decide +kernel
theorem d_MO_init_100 : decode prog_14_method_1_code 100 = .ok (.putfield 43, 3) := by decide +kernel
theorem d_MO_init_103 : decode prog_14_method_1_code 103 = .ok (.aload_n 0, 1) := by decide +kernel
theorem d_MO_init_104 : decode prog_14_method_1_code 104 = .ok (.bipush 32, 2) := by decide +kernel
theorem d_MO_init_106 : decode prog_14_method_1_code 106 = .ok (.newarray .int, 2) := by decide +kernel
theorem d_MO_init_108 : decode prog_14_method_1_code 108 = .ok (.putfield 46, 3) := by decide +kernel
theorem d_MO_init_111 : decode prog_14_method_1_code 111 = .ok (.aload_n 0, 1) := by decide +kernel
theorem d_MO_init_112 : decode prog_14_method_1_code 112 = .ok (.bipush 32, 2) := by decide +kernel
theorem d_MO_init_114 : decode prog_14_method_1_code 114 = .ok (.newarray .int, 2) := by decide +kernel
theorem d_MO_init_116 : decode prog_14_method_1_code 116 = .ok (.putfield 49, 3) := by decide +kernel
theorem d_MO_init_119 : decode prog_14_method_1_code 119 = .ok (.aload_n 0, 1) := by decide +kernel
theorem d_MO_init_120 : decode prog_14_method_1_code 120 = .ok (.bipush 32, 2) := by decide +kernel
theorem d_MO_init_122 : decode prog_14_method_1_code 122 = .ok (.newarray .int, 2) := by decide +kernel
theorem d_MO_init_124 : decode prog_14_method_1_code 124 = .ok (.putfield 52, 3) := by decide +kernel
theorem d_MO_init_127 : decode prog_14_method_1_code 127 = .ok (.aload_n 0, 1) := by decide +kernel
theorem d_MO_init_128 : decode prog_14_method_1_code 128 = .ok (.bipush 32, 2) := by decide +kernel
theorem d_MO_init_130 : decode prog_14_method_1_code 130 = .ok (.newarray .int, 2) := by decide +kernel
theorem d_MO_init_132 : decode prog_14_method_1_code 132 = .ok (.putfield 55, 3) := by decide +kernel
theorem d_MO_init_135 : decode prog_14_method_1_code 135 = .ok (.aload_n 0, 1) := by decide +kernel
theorem d_MO_init_136 : decode prog_14_method_1_code 136 = .ok (.bipush 32, 2) := by decide +kernel
theorem d_MO_init_138 : decode prog_14_method_1_code 138 = .ok (.newarray .int, 2) := by decide +kernel
theorem d_MO_init_140 : decode prog_14_method_1_code 140 = .ok (.putfield 58, 3) := by decide +kernel
theorem d_MO_init_143 : decode prog_14_method_1_code 143 = .ok (.aload_n 0, 1) := by decide +kernel
theorem d_MO_init_144 : decode prog_14_method_1_code 144 = .ok (.bipush 32, 2) := by decide +kernel
theorem d_MO_init_146 : decode prog_14_method_1_code 146 = .ok (.newarray .int, 2) := by decide +kernel
theorem d_MO_init_148 : decode prog_14_method_1_code 148 = .ok (.putfield 61, 3) := by decide +kernel
theorem d_MO_init_151 : decode prog_14_method_1_code 151 = .ok (.aload_n 0, 1) := by decide +kernel
theorem d_MO_init_152 : decode prog_14_method_1_code 152 = .ok (.bipush 32, 2) := by decide +kernel
theorem d_MO_init_154 : decode prog_14_method_1_code 154 = .ok (.newarray .int, 2) := by decide +kernel
theorem d_MO_init_156 : decode prog_14_method_1_code 156 = .ok (.putfield 64, 3) := by decide +kernel
theorem d_MO_init_159 : decode prog_14_method_1_code 159 = .ok (.aload_n 0, 1) := by decide +kernel
theorem d_MO_init_160 : decode prog_14_method_1_code 160 = .ok (.bipush 32, 2) := by decide +kernel
theorem d_MO_init_162 : decode prog_14_method_1_code 162 = .ok (.newarray .int, 2) := by decide +kernel
theorem d_MO_init_164 : decode prog_14_method_1_code 164 = .ok (.putfield 67, 3) := by decide +kernel
theorem d_MO_init_167 : decode prog_14_method_1_code 167 = .ok (.aload_n 0, 1) := by decide +kernel
theorem d_MO_init_168 : decode prog_14_method_1_code 168 = .ok (.bipush 32, 2) := by decide +kernel
theorem d_MO_init_170 : decode prog_14_method_1_code 170 = .ok (.newarray .int, 2) := by decide +kernel
theorem d_MO_init_172 : decode prog_14_method_1_code 172 = .ok (.putfield 70, 3) := by decide +kernel
theorem d_MO_init_175 : decode prog_14_method_1_code 175 = .ok (.aload_n 0, 1) := by decide +kernel
theorem d_MO_init_176 : decode prog_14_method_1_code 176 = .ok (.bipush 32, 2) := by decide +kernel
theorem d_MO_init_178 : decode prog_14_method_1_code 178 = .ok (.newarray .int, 2) := by decide +kernel
theorem d_MO_init_180 : decode prog_14_method_1_code 180 = .ok (.putfield 73, 3) := by decide +kernel
theorem d_MO_init_183 : decode prog_14_method_1_code 183 = .ok (.aload_n 0, 1) := by decide +kernel
theorem d_MO_init_184 : decode prog_14_method_1_code 184 = .ok (.bipush 32, 2) := by decide +kernel
theorem d_MO_init_186 : decode prog_14_method_1_code 186 = .ok (.newarray .int, 2) := by decide +kernel
theorem d_MO_init_188 : decode prog_14_method_1_code 188 = .ok (.putfield 76, 3) := by decide +kernel
theorem d_MO_init_191 : decode prog_14_method_1_code 191 = .ok (.aload_n 0, 1) := by decide +kernel
theorem d_MO_init_192 : decode prog_14_method_1_code 192 = .ok (.bipush 32, 2) := by decide +kernel
theorem d_MO_init_194 : decode prog_14_method_1_code 194 = .ok (.newarray .int, 2) := by decide +kernel
theorem d_MO_init_196 : decode prog_14_method_1_code 196 = .ok (.putfield 79, 3) := by decide +kernel
theorem d_MO_init_199 : decode prog_14_method_1_code 199 = .ok (.aload_n 0, 1) := by decide +kernel
theorem d_MO_init_200 : decode prog_14_method_1_code 200 = .ok (.bipush 32, 2) := by decide +kernel
theorem d_MO_init_202 : decode prog_14_method_1_code 202 = .ok (.newarray .int, 2) := by decide +kernel
theorem d_MO_init_204 : decode prog_14_method_1_code 204 = .ok (.putfield 82, 3) := by decide +kernel
theorem d_MO_init_207 : decode prog_14_method_1_code 207 = .ok (.aload_n 0, 1) := by decide +kernel
theorem d_MO_init_208 : decode prog_14_method_1_code 208 = .ok (.bipush 32, 2) := by decide +kernel
theorem d_MO_init_210 : decode prog_14_method_1_code 210 = .ok (.newarray .int, 2) := by decide +kernel
theorem d_MO_init_212 : decode prog_14_method_1_code 212 = .ok (.putfield 85, 3) := by decide +kernel
theorem d_MO_init_215 : decode prog_14_method_1_code 215 = .ok (.aload_n 0, 1) := by decide +kernel
theorem d_MO_init_216 : decode prog_14_method_1_code 216 = .ok (.bipush 32, 2) := by decide +kernel
theorem d_MO_init_218 : decode prog_14_method_1_code 218 = .ok (.newarray .int, 2) := by decide +kernel
theorem d_MO_init_220 : decode prog_14_method_1_code 220 = .ok (.putfield 88, 3) := by decide +kernel
theorem d_MO_init_223 : decode prog_14_method_1_code 223 = .ok (.aload_n 0, 1) := by decide +kernel
theorem d_MO_init_224 : decode prog_14_method_1_code 224 = .ok (.bipush 32, 2) := by decide +kernel
theorem d_MO_init_226 : decode prog_14_method_1_code 226 = .ok (.newarray .int, 2) := by decide +kernel
theorem d_MO_init_228 : decode prog_14_method_1_code 228 = .ok (.putfield 91, 3) := by decide +kernel
theorem d_MO_init_231 : decode prog_14_method_1_code 231 = .ok (.aload_n 0, 1) := by decide +kernel
theorem d_MO_init_232 : decode prog_14_method_1_code 232 = .ok (.sipush 1000, 3) := by decide +kernel
theorem d_MO_init_235 : decode prog_14_method_1_code 235 = .ok (.newarray .int, 2) := by decide +kernel
theorem d_MO_init_237 : decode prog_14_method_1_code 237 = .ok (.putfield 94, 3) := by decide +kernel
theorem d_MO_init_240 : decode prog_14_method_1_code 240 = .ok (.aload_n 0, 1) := by decide +kernel
theorem d_MO_init_241 : decode prog_14_method_1_code 241 = .ok (.sipush 1000, 3) := by decide +kernel
theorem d_MO_init_244 : decode prog_14_method_1_code 244 = .ok (.newarray .int, 2) := by decide +kernel
theorem d_MO_init_246 : decode prog_14_method_1_code 246 = .ok (.putfield 97, 3) := by decide +kernel
theorem d_MO_init_249 : decode prog_14_method_1_code 249 = .ok (.aload_n 0, 1) := by decide +kernel
theorem d_MO_init_250 : decode prog_14_method_1_code 250 = .ok (.bipush 16, 2) := by decide +kernel
theorem d_MO_init_252 : decode prog_14_method_1_code 252 = .ok (.newarray .long, 2) := by decide +kernel
theorem d_MO_init_254 : decode prog_14_method_1_code 254 = .ok (.putfield 100, 3) := by decide +kernel
theorem d_MO_init_257 : decode prog_14_method_1_code 257 = .ok (.aload_n 0, 1) := by decide +kernel
theorem d_MO_init_258 : decode prog_14_method_1_code 258 = .ok (.bipush 16, 2) := by decide +kernel
theorem d_MO_init_260 : decode prog_14_method_1_code 260 = .ok (.newarray .int, 2) := by decide +kernel
theorem d_MO_init_262 : decode prog_14_method_1_code 262 = .ok (.putfield 104, 3) := by decide +kernel
theorem d_MO_init_265 : decode prog_14_method_1_code 265 = .ok (.aload_n 0, 1) := by decide +kernel
theorem d_MO_init_266 : decode prog_14_method_1_code 266 = .ok (.bipush 16, 2) := by decide +kernel
theorem d_MO_init_268 : decode prog_14_method_1_code 268 = .ok (.newarray .int, 2) := by decide +kernel
theorem d_MO_init_270 : decode prog_14_method_1_code 270 = .ok (.putfield 107, 3) := by decide +kernel
theorem d_MO_init_273 : decode prog_14_method_1_code 273 = .ok (.aload_n 0, 1) := by decide +kernel
theorem d_MO_init_274 : decode prog_14_method_1_code 274 = .ok (.bipush 16, 2) := by decide +kernel
theorem d_MO_init_276 : decode prog_14_method_1_code 276 = .ok (.newarray .int, 2) := by decide +kernel
theorem d_MO_init_278 : decode prog_14_method_1_code 278 = .ok (.putfield 110, 3) := by decide +kernel
theorem d_MO_init_281 : decode prog_14_method_1_code 281 = .ok (.return_, 1) := by decide +kernel
theorem d_MO_thrown_0 : decode prog_14_method_2_code 0 = .ok (.aload_n 0, 1) := by decide +kernel
theorem d_MO_thrown_1 : decode prog_14_method_2_code 1 = .ok (.getfield 113, 3) := by decide +kernel
theorem d_MO_thrown_4 : decode prog_14_method_2_code 4 = .ok (.ireturn, 1) := by decide +kernel
theorem d_MO_put_0 : decode prog_14_method_3_code 0 = .ok (.aload_n 0, 1) := by decide +kernel
theorem d_MO_put_1 : decode prog_14_method_3_code 1 = .ok (.iconst 0, 1) := by decide +kernel
theorem d_MO_put_2 : decode prog_14_method_3_code 2 = .ok (.putfield 113, 3) := by decide +kernel
theorem d_MO_put_5 : decode prog_14_method_3_code 5 = .ok (.iload_n 1, 1) := by decide +kernel
theorem d_MO_put_6 : decode prog_14_method_3_code 6 = .ok (.iconst 1, 1) := by decide +kernel
theorem d_MO_put_7 : decode prog_14_method_3_code 7 = .ok (.if_icmp .lt 21, 3) := by decide +kernel
theorem d_MO_put_10 : decode prog_14_method_3_code 10 = .ok (.iload_n 1, 1) := by decide +kernel
theorem d_MO_put_11 : decode prog_14_method_3_code 11 = .ok (.bipush 8, 2) := by decide +kernel
theorem d_MO_put_13 : decode prog_14_method_3_code 13 = .ok (.if_icmp .gt 15, 3) := by decide +kernel
theorem d_MO_put_16 : decode prog_14_method_3_code 16 = .ok (.aload_n 0, 1) := by decide +kernel
theorem d_MO_put_17 : decode prog_14_method_3_code 17 = .ok (.getfield 117, 3) := by decide +kernel
theorem d_MO_put_20 : decode prog_14_method_3_code 20 = .ok (.iload_n 1, 1) := by decide +kernel
theorem d_MO_put_21 : decode prog_14_method_3_code 21 = .ok (.iadd, 1) := by decide +kernel
theorem d_MO_put_22 : decode prog_14_method_3_code 22 = .ok (.sipush 600, 3) := by decide +kernel
theorem d_MO_put_25 : decode prog_14_method_3_code 25 = .ok (.if_icmp .le 5, 3) := by decide +kernel
theorem d_MO_put_28 : decode prog_14_method_3_code 28 = .ok (.iconst 0, 1) := by decide +kernel
theorem d_MO_put_29 : decode prog_14_method_3_code 29 = .ok (.ireturn, 1) := by decide +kernel
theorem d_MO_put_30 : decode prog_14_method_3_code 30 = .ok (.iconst 1, 1) := by decide +kernel
theorem d_MO_put_31 : decode prog_14_method_3_code 31 = .ok (.istore 4, 2) := by decide +kernel
theorem d_MO_put_33 : decode prog_14_method_3_code 33 = .ok (.iconst 0, 1) := by decide +kernel
theorem d_MO_put_34 : decode prog_14_method_3_code 34 = .ok (.istore 5, 2) := by decide +kernel
theorem d_MO_put_36 : decode prog_14_method_3_code 36 = .ok (.iload 5, 2) := by decide +kernel
theorem d_MO_put_38 : decode prog_14_method_3_code 38 = .ok (.iload_n 1, 1) := by decide +kernel
theorem d_MO_put_39 : decode prog_14_method_3_code 39 = .ok (.if_icmp .ge 63, 3) := by decide +kernel
theorem d_MO_put_42 : decode prog_14_method_3_code 42 = .ok (.lload_n 2, 1) := by decide +kernel
theorem d_MO_put_43 : decode prog_14_method_3_code 43 = .ok (.bipush 8, 2) := by decide +kernel
theorem d_MO_put_45 : decode prog_14_method_3_code 45 = .ok (.iload 5, 2) := by decide +kernel
theorem d_MO_put_47 : decode prog_14_method_3_code 47 = .ok (.imul, 1) := by decide +kernel
theorem d_MO_put_48 : decode prog_14_method_3_code 48 = .ok (.lushr, 1) := by decide +kernel
theorem d_MO_put_49 : decode prog_14_method_3_code 49 = .ok (.ldc2_w 120, 3) := by decide +kernel
theorem d_MO_put_52 : decode prog_14_method_3_code 52 = .ok (.land, 1) := by decide +kernel
theorem d_MO_put_53 : decode prog_14_method_3_code 53 = .ok (.l2i, 1) := by decide +kernel
theorem d_MO_put_54 : decode prog_14_method_3_code 54 = .ok (.istore 6, 2) := by decide +kernel
theorem d_MO_put_56 : decode prog_14_method_3_code 56 = .ok (.iload 4, 2) := by decide +kernel
theorem d_MO_put_58 : decode prog_14_method_3_code 58 = .ok (.ifCond .eq 35, 3) := by decide +kernel
theorem d_MO_put_61 : decode prog_14_method_3_code 61 = .ok (.iload 6, 2) := by decide +kernel
theorem d_MO_put_63 : decode prog_14_method_3_code 63 = .ok (.bipush 9, 2) := by decide +kernel
theorem d_MO_put_65 : decode prog_14_method_3_code 65 = .ok (.if_icmp .eq 24, 3) := by decide +kernel
theorem d_MO_put_68 : decode prog_14_method_3_code 68 = .ok (.iload 6, 2) := by decide +kernel
theorem d_MO_put_70 : decode prog_14_method_3_code 70 = .ok (.bipush 10, 2) := by decide +kernel
theorem d_MO_put_72 : decode prog_14_method_3_code 72 = .ok (.if_icmp .eq 17, 3) := by decide +kernel
theorem d_MO_put_75 : decode prog_14_method_3_code 75 = .ok (.iload 6, 2) := by decide +kernel
theorem d_MO_put_77 : decode prog_14_method_3_code 77 = .ok (.bipush 32, 2) := by decide +kernel
theorem d_MO_put_79 : decode prog_14_method_3_code 79 = .ok (.if_icmp .lt 14, 3) := by decide +kernel
theorem d_MO_put_82 : decode prog_14_method_3_code 82 = .ok (.iload 6, 2) := by decide +kernel
theorem d_MO_put_84 : decode prog_14_method_3_code 84 = .ok (.bipush 126, 2) := by decide +kernel
theorem d_MO_put_86 : decode prog_14_method_3_code 86 = .ok (.if_icmp .gt 7, 3) := by decide +kernel
theorem d_MO_put_89 : decode prog_14_method_3_code 89 = .ok (.iconst 1, 1) := by decide +kernel
theorem d_MO_put_90 : decode prog_14_method_3_code 90 = .ok (.goto 4, 3) := by decide +kernel
theorem d_MO_put_93 : decode prog_14_method_3_code 93 = .ok (.iconst 0, 1) := by decide +kernel
theorem d_MO_put_94 : decode prog_14_method_3_code 94 = .ok (.istore 4, 2) := by decide +kernel
theorem d_MO_put_96 : decode prog_14_method_3_code 96 = .ok (.iinc 5 1, 3) := by decide +kernel
theorem d_MO_put_99 : decode prog_14_method_3_code 99 = .ok (.goto (-63), 3) := by decide +kernel
theorem d_MO_put_102 : decode prog_14_method_3_code 102 = .ok (.iload_n 1, 1) := by decide +kernel
theorem d_MO_put_103 : decode prog_14_method_3_code 103 = .ok (.iconst 1, 1) := by decide +kernel
theorem d_MO_put_104 : decode prog_14_method_3_code 104 = .ok (.isub, 1) := by decide +kernel
theorem d_MO_put_105 : decode prog_14_method_3_code 105 = .ok (.istore 5, 2) := by decide +kernel
theorem d_MO_put_107 : decode prog_14_method_3_code 107 = .ok (.iload 5, 2) := by decide +kernel
theorem d_MO_put_109 : decode prog_14_method_3_code 109 = .ok (.ifCond .lt 45, 3) := by decide +kernel
theorem d_MO_put_112 : decode prog_14_method_3_code 112 = .ok (.iload 4, 2) := by decide +kernel
theorem d_MO_put_114 : decode prog_14_method_3_code 114 = .ok (.ifCond .eq 40, 3) := by decide +kernel
theorem d_MO_put_117 : decode prog_14_method_3_code 117 = .ok (.aload_n 0, 1) := by decide +kernel
theorem d_MO_put_118 : decode prog_14_method_3_code 118 = .ok (.getfield 7, 3) := by decide +kernel
theorem d_MO_put_121 : decode prog_14_method_3_code 121 = .ok (.aload_n 0, 1) := by decide +kernel
theorem d_MO_put_122 : decode prog_14_method_3_code 122 = .ok (.getfield 117, 3) := by decide +kernel
theorem d_MO_put_125 : decode prog_14_method_3_code 125 = .ok (.lload_n 2, 1) := by decide +kernel
theorem d_MO_put_126 : decode prog_14_method_3_code 126 = .ok (.bipush 8, 2) := by decide +kernel
theorem d_MO_put_128 : decode prog_14_method_3_code 128 = .ok (.iload 5, 2) := by decide +kernel
theorem d_MO_put_130 : decode prog_14_method_3_code 130 = .ok (.imul, 1) := by decide +kernel
theorem d_MO_put_131 : decode prog_14_method_3_code 131 = .ok (.lushr, 1) := by decide +kernel
theorem d_MO_put_132 : decode prog_14_method_3_code 132 = .ok (.ldc2_w 120, 3) := by decide +kernel
theorem d_MO_put_135 : decode prog_14_method_3_code 135 = .ok (.land, 1) := by decide +kernel
theorem d_MO_put_136 : decode prog_14_method_3_code 136 = .ok (.l2i, 1) := by decide +kernel
theorem d_MO_put_137 : decode prog_14_method_3_code 137 = .ok (.iastore, 1) := by decide +kernel
theorem d_MO_put_138 : decode prog_14_method_3_code 138 = .ok (.aload_n 0, 1) := by decide +kernel
theorem d_MO_put_139 : decode prog_14_method_3_code 139 = .ok (.dup, 1) := by decide +kernel
theorem d_MO_put_140 : decode prog_14_method_3_code 140 = .ok (.getfield 117, 3) := by decide +kernel
theorem d_MO_put_143 : decode prog_14_method_3_code 143 = .ok (.iconst 1, 1) := by decide +kernel
theorem d_MO_put_144 : decode prog_14_method_3_code 144 = .ok (.iadd, 1) := by decide +kernel
theorem d_MO_put_145 : decode prog_14_method_3_code 145 = .ok (.putfield 117, 3) := by decide +kernel
theorem d_MO_put_148 : decode prog_14_method_3_code 148 = .ok (.iinc 5 (-1), 3) := by decide +kernel
theorem d_MO_put_151 : decode prog_14_method_3_code 151 = .ok (.goto (-44), 3) := by decide +kernel
theorem d_MO_put_154 : decode prog_14_method_3_code 154 = .ok (.iload 4, 2) := by decide +kernel
theorem d_MO_put_156 : decode prog_14_method_3_code 156 = .ok (.ireturn, 1) := by decide +kernel
theorem d_MO_scrap_0 : decode prog_14_method_4_code 0 = .ok (.aload_n 0, 1) := by decide +kernel
theorem d_MO_scrap_1 : decode prog_14_method_4_code 1 = .ok (.iconst 0, 1) := by decide +kernel
theorem d_MO_scrap_2 : decode prog_14_method_4_code 2 = .ok (.putfield 113, 3) := by decide +kernel
theorem d_MO_scrap_5 : decode prog_14_method_4_code 5 = .ok (.aload_n 0, 1) := by decide +kernel
theorem d_MO_scrap_6 : decode prog_14_method_4_code 6 = .ok (.iconst 0, 1) := by decide +kernel
theorem d_MO_scrap_7 : decode prog_14_method_4_code 7 = .ok (.putfield 117, 3) := by decide +kernel
theorem d_MO_scrap_10 : decode prog_14_method_4_code 10 = .ok (.return_, 1) := by decide +kernel
theorem d_MO_isFigure_0 : decode prog_14_method_5_code 0 = .ok (.iload_n 0, 1) := by decide +kernel
theorem d_MO_isFigure_1 : decode prog_14_method_5_code 1 = .ok (.bipush 48, 2) := by decide +kernel
theorem d_MO_isFigure_3 : decode prog_14_method_5_code 3 = .ok (.if_icmp .lt 13, 3) := by decide +kernel
theorem d_MO_isFigure_6 : decode prog_14_method_5_code 6 = .ok (.iload_n 0, 1) := by decide +kernel
theorem d_MO_isFigure_7 : decode prog_14_method_5_code 7 = .ok (.bipush 57, 2) := by decide +kernel
theorem d_MO_isFigure_9 : decode prog_14_method_5_code 9 = .ok (.if_icmp .gt 7, 3) := by decide +kernel
theorem d_MO_isFigure_12 : decode prog_14_method_5_code 12 = .ok (.iconst 1, 1) := by decide +kernel
theorem d_MO_isFigure_13 : decode prog_14_method_5_code 13 = .ok (.goto 4, 3) := by decide +kernel
theorem d_MO_isFigure_16 : decode prog_14_method_5_code 16 = .ok (.iconst 0, 1) := by decide +kernel
theorem d_MO_isFigure_17 : decode prog_14_method_5_code 17 = .ok (.ireturn, 1) := by decide +kernel
theorem d_MO_isLetter_0 : decode prog_14_method_6_code 0 = .ok (.iload_n 0, 1) := by decide +kernel
theorem d_MO_isLetter_1 : decode prog_14_method_6_code 1 = .ok (.bipush 97, 2) := by decide +kernel
theorem d_MO_isLetter_3 : decode prog_14_method_6_code 3 = .ok (.if_icmp .lt 9, 3) := by decide +kernel
theorem d_MO_isLetter_6 : decode prog_14_method_6_code 6 = .ok (.iload_n 0, 1) := by decide +kernel
theorem d_MO_isLetter_7 : decode prog_14_method_6_code 7 = .ok (.bipush 122, 2) := by decide +kernel
theorem d_MO_isLetter_9 : decode prog_14_method_6_code 9 = .ok (.if_icmp .le 27, 3) := by decide +kernel
theorem d_MO_isLetter_12 : decode prog_14_method_6_code 12 = .ok (.iload_n 0, 1) := by decide +kernel
theorem d_MO_isLetter_13 : decode prog_14_method_6_code 13 = .ok (.bipush 65, 2) := by decide +kernel
theorem d_MO_isLetter_15 : decode prog_14_method_6_code 15 = .ok (.if_icmp .lt 9, 3) := by decide +kernel
theorem d_MO_isLetter_18 : decode prog_14_method_6_code 18 = .ok (.iload_n 0, 1) := by decide +kernel
theorem d_MO_isLetter_19 : decode prog_14_method_6_code 19 = .ok (.bipush 90, 2) := by decide +kernel
theorem d_MO_isLetter_21 : decode prog_14_method_6_code 21 = .ok (.if_icmp .le 15, 3) := by decide +kernel
theorem d_MO_isLetter_24 : decode prog_14_method_6_code 24 = .ok (.iload_n 0, 1) := by decide +kernel
theorem d_MO_isLetter_25 : decode prog_14_method_6_code 25 = .ok (.bipush 95, 2) := by decide +kernel
theorem d_MO_isLetter_27 : decode prog_14_method_6_code 27 = .ok (.if_icmp .eq 9, 3) := by decide +kernel
theorem d_MO_isLetter_30 : decode prog_14_method_6_code 30 = .ok (.iload_n 0, 1) := by decide +kernel
theorem d_MO_isLetter_31 : decode prog_14_method_6_code 31 = .ok (.bipush 36, 2) := by decide +kernel
theorem d_MO_isLetter_33 : decode prog_14_method_6_code 33 = .ok (.if_icmp .ne 7, 3) := by decide +kernel
theorem d_MO_isLetter_36 : decode prog_14_method_6_code 36 = .ok (.iconst 1, 1) := by decide +kernel
theorem d_MO_isLetter_37 : decode prog_14_method_6_code 37 = .ok (.goto 4, 3) := by decide +kernel
theorem d_MO_isLetter_40 : decode prog_14_method_6_code 40 = .ok (.iconst 0, 1) := by decide +kernel
theorem d_MO_isLetter_41 : decode prog_14_method_6_code 41 = .ok (.ireturn, 1) := by decide +kernel
theorem d_MO_partEnd_0 : decode prog_14_method_7_code 0 = .ok (.iload_n 1, 1) := by decide +kernel
theorem d_MO_partEnd_1 : decode prog_14_method_7_code 1 = .ok (.istore_n 3, 1) := by decide +kernel
theorem d_MO_partEnd_2 : decode prog_14_method_7_code 2 = .ok (.iload_n 3, 1) := by decide +kernel
theorem d_MO_partEnd_3 : decode prog_14_method_7_code 3 = .ok (.iload_n 2, 1) := by decide +kernel
theorem d_MO_partEnd_4 : decode prog_14_method_7_code 4 = .ok (.if_icmp .ge 38, 3) := by decide +kernel
theorem d_MO_partEnd_7 : decode prog_14_method_7_code 7 = .ok (.aload_n 0, 1) := by decide +kernel
theorem d_MO_partEnd_8 : decode prog_14_method_7_code 8 = .ok (.getfield 13, 3) := by decide +kernel
theorem d_MO_partEnd_11 : decode prog_14_method_7_code 11 = .ok (.iload_n 3, 1) := by decide +kernel
theorem d_MO_partEnd_12 : decode prog_14_method_7_code 12 = .ok (.iaload, 1) := by decide +kernel
theorem d_MO_partEnd_13 : decode prog_14_method_7_code 13 = .ok (.invokestatic 122, 3) := by decide +kernel
theorem d_MO_partEnd_16 : decode prog_14_method_7_code 16 = .ok (.ifCond .ne 20, 3) := by decide +kernel
theorem d_MO_partEnd_19 : decode prog_14_method_7_code 19 = .ok (.iload_n 3, 1) := by decide +kernel
theorem d_MO_partEnd_20 : decode prog_14_method_7_code 20 = .ok (.iload_n 1, 1) := by decide +kernel
theorem d_MO_partEnd_21 : decode prog_14_method_7_code 21 = .ok (.if_icmp .le 21, 3) := by decide +kernel
theorem d_MO_partEnd_24 : decode prog_14_method_7_code 24 = .ok (.aload_n 0, 1) := by decide +kernel
theorem d_MO_partEnd_25 : decode prog_14_method_7_code 25 = .ok (.getfield 13, 3) := by decide +kernel
theorem d_MO_partEnd_28 : decode prog_14_method_7_code 28 = .ok (.iload_n 3, 1) := by decide +kernel
theorem d_MO_partEnd_29 : decode prog_14_method_7_code 29 = .ok (.iaload, 1) := by decide +kernel
theorem d_MO_partEnd_30 : decode prog_14_method_7_code 30 = .ok (.invokestatic 126, 3) := by decide +kernel
theorem d_MO_partEnd_33 : decode prog_14_method_7_code 33 = .ok (.ifCond .eq 9, 3) := by decide +kernel
theorem d_MO_partEnd_36 : decode prog_14_method_7_code 36 = .ok (.iinc 3 1, 3) := by decide +kernel
theorem d_MO_partEnd_39 : decode prog_14_method_7_code 39 = .ok (.goto (-37), 3) := by decide +kernel
theorem d_MO_partEnd_42 : decode prog_14_method_7_code 42 = .ok (.iload_n 3, 1) := by decide +kernel
theorem d_MO_partEnd_43 : decode prog_14_method_7_code 43 = .ok (.iload_n 1, 1) := by decide +kernel
theorem d_MO_partEnd_44 : decode prog_14_method_7_code 44 = .ok (.if_icmp .eq 11, 3) := by decide +kernel
theorem d_MO_partEnd_47 : decode prog_14_method_7_code 47 = .ok (.iload_n 3, 1) := by decide +kernel
theorem d_MO_partEnd_48 : decode prog_14_method_7_code 48 = .ok (.iload_n 1, 1) := by decide +kernel
theorem d_MO_partEnd_49 : decode prog_14_method_7_code 49 = .ok (.isub, 1) := by decide +kernel
theorem d_MO_partEnd_50 : decode prog_14_method_7_code 50 = .ok (.bipush 40, 2) := by decide +kernel
theorem d_MO_partEnd_52 : decode prog_14_method_7_code 52 = .ok (.if_icmp .le 7, 3) := by decide +kernel
theorem d_MO_partEnd_55 : decode prog_14_method_7_code 55 = .ok (.iconst (-1), 1) := by decide +kernel
theorem d_MO_partEnd_56 : decode prog_14_method_7_code 56 = .ok (.goto 4, 3) := by decide +kernel
theorem d_MO_partEnd_59 : decode prog_14_method_7_code 59 = .ok (.iload_n 3, 1) := by decide +kernel
theorem d_MO_partEnd_60 : decode prog_14_method_7_code 60 = .ok (.ireturn, 1) := by decide +kernel
theorem d_MO_nameEnd_0 : decode prog_14_method_8_code 0 = .ok (.aload_n 0, 1) := by decide +kernel
theorem d_MO_nameEnd_1 : decode prog_14_method_8_code 1 = .ok (.iconst 0, 1) := by decide +kernel
theorem d_MO_nameEnd_2 : decode prog_14_method_8_code 2 = .ok (.putfield 129, 3) := by decide +kernel
theorem d_MO_nameEnd_5 : decode prog_14_method_8_code 5 = .ok (.iload_n 1, 1) := by decide +kernel
theorem d_MO_nameEnd_6 : decode prog_14_method_8_code 6 = .ok (.istore_n 3, 1) := by decide +kernel
theorem d_MO_nameEnd_7 : decode prog_14_method_8_code 7 = .ok (.iconst 1, 1) := by decide +kernel
theorem d_MO_nameEnd_8 : decode prog_14_method_8_code 8 = .ok (.istore 4, 2) := by decide +kernel
theorem d_MO_nameEnd_10 : decode prog_14_method_8_code 10 = .ok (.iload 4, 2) := by decide +kernel
theorem d_MO_nameEnd_12 : decode prog_14_method_8_code 12 = .ok (.ifCond .eq 68, 3) := by decide +kernel
theorem d_MO_nameEnd_15 : decode prog_14_method_8_code 15 = .ok (.aload_n 0, 1) := by decide +kernel
theorem d_MO_nameEnd_16 : decode prog_14_method_8_code 16 = .ok (.iload_n 3, 1) := by decide +kernel
theorem d_MO_nameEnd_17 : decode prog_14_method_8_code 17 = .ok (.putfield 132, 3) := by decide +kernel
theorem d_MO_nameEnd_20 : decode prog_14_method_8_code 20 = .ok (.aload_n 0, 1) := by decide +kernel
theorem d_MO_nameEnd_21 : decode prog_14_method_8_code 21 = .ok (.dup, 1) := by decide +kernel
theorem d_MO_nameEnd_22 : decode prog_14_method_8_code 22 = .ok (.getfield 129, 3) := by decide +kernel
theorem d_MO_nameEnd_25 : decode prog_14_method_8_code 25 = .ok (.iconst 1, 1) := by decide +kernel
theorem d_MO_nameEnd_26 : decode prog_14_method_8_code 26 = .ok (.iadd, 1) := by decide +kernel
theorem d_MO_nameEnd_27 : decode prog_14_method_8_code 27 = .ok (.putfield 129, 3) := by decide +kernel
theorem d_MO_nameEnd_30 : decode prog_14_method_8_code 30 = .ok (.aload_n 0, 1) := by decide +kernel
theorem d_MO_nameEnd_31 : decode prog_14_method_8_code 31 = .ok (.iload_n 3, 1) := by decide +kernel
theorem d_MO_nameEnd_32 : decode prog_14_method_8_code 32 = .ok (.iload_n 2, 1) := by decide +kernel
theorem d_MO_nameEnd_33 : decode prog_14_method_8_code 33 = .ok (.invokevirtual 135, 3) := by decide +kernel
theorem d_MO_nameEnd_36 : decode prog_14_method_8_code 36 = .ok (.istore_n 3, 1) := by decide +kernel
theorem d_MO_nameEnd_37 : decode prog_14_method_8_code 37 = .ok (.iload_n 3, 1) := by decide +kernel
theorem d_MO_nameEnd_38 : decode prog_14_method_8_code 38 = .ok (.ifCond .lt 23, 3) := by decide +kernel
theorem d_MO_nameEnd_41 : decode prog_14_method_8_code 41 = .ok (.iload_n 3, 1) := by decide +kernel
theorem d_MO_nameEnd_42 : decode prog_14_method_8_code 42 = .ok (.iload_n 2, 1) := by decide +kernel
theorem d_MO_nameEnd_43 : decode prog_14_method_8_code 43 = .ok (.if_icmp .ge 18, 3) := by decide +kernel
theorem d_MO_nameEnd_46 : decode prog_14_method_8_code 46 = .ok (.aload_n 0, 1) := by decide +kernel
theorem d_MO_nameEnd_47 : decode prog_14_method_8_code 47 = .ok (.getfield 13, 3) := by decide +kernel
theorem d_MO_nameEnd_50 : decode prog_14_method_8_code 50 = .ok (.iload_n 3, 1) := by decide +kernel
theorem d_MO_nameEnd_51 : decode prog_14_method_8_code 51 = .ok (.iaload, 1) := by decide +kernel
theorem d_MO_nameEnd_52 : decode prog_14_method_8_code 52 = .ok (.bipush 46, 2) := by decide +kernel
theorem d_MO_nameEnd_54 : decode prog_14_method_8_code 54 = .ok (.if_icmp .ne 7, 3) := by decide +kernel
theorem d_MO_nameEnd_57 : decode prog_14_method_8_code 57 = .ok (.iconst 1, 1) := by decide +kernel
theorem d_MO_nameEnd_58 : decode prog_14_method_8_code 58 = .ok (.goto 4, 3) := by decide +kernel
theorem d_MO_nameEnd_61 : decode prog_14_method_8_code 61 = .ok (.iconst 0, 1) := by decide +kernel
theorem d_MO_nameEnd_62 : decode prog_14_method_8_code 62 = .ok (.istore 4, 2) := by decide +kernel
theorem d_MO_nameEnd_64 : decode prog_14_method_8_code 64 = .ok (.iload 4, 2) := by decide +kernel
theorem d_MO_nameEnd_66 : decode prog_14_method_8_code 66 = .ok (.ifCond .eq 9, 3) := by decide +kernel
theorem d_MO_nameEnd_69 : decode prog_14_method_8_code 69 = .ok (.iload_n 3, 1) := by decide +kernel
theorem d_MO_nameEnd_70 : decode prog_14_method_8_code 70 = .ok (.iconst 1, 1) := by decide +kernel
theorem d_MO_nameEnd_71 : decode prog_14_method_8_code 71 = .ok (.iadd, 1) := by decide +kernel
theorem d_MO_nameEnd_72 : decode prog_14_method_8_code 72 = .ok (.goto 4, 3) := by decide +kernel
theorem d_MO_nameEnd_75 : decode prog_14_method_8_code 75 = .ok (.iload_n 3, 1) := by decide +kernel
theorem d_MO_nameEnd_76 : decode prog_14_method_8_code 76 = .ok (.istore_n 3, 1) := by decide +kernel
theorem d_MO_nameEnd_77 : decode prog_14_method_8_code 77 = .ok (.goto (-67), 3) := by decide +kernel
theorem d_MO_nameEnd_80 : decode prog_14_method_8_code 80 = .ok (.iload_n 3, 1) := by decide +kernel
theorem d_MO_nameEnd_81 : decode prog_14_method_8_code 81 = .ok (.ifCond .lt 11, 3) := by decide +kernel
theorem d_MO_nameEnd_84 : decode prog_14_method_8_code 84 = .ok (.iload_n 3, 1) := by decide +kernel
theorem d_MO_nameEnd_85 : decode prog_14_method_8_code 85 = .ok (.iload_n 1, 1) := by decide +kernel
theorem d_MO_nameEnd_86 : decode prog_14_method_8_code 86 = .ok (.isub, 1) := by decide +kernel
theorem d_MO_nameEnd_87 : decode prog_14_method_8_code 87 = .ok (.bipush 40, 2) := by decide +kernel
theorem d_MO_nameEnd_89 : decode prog_14_method_8_code 89 = .ok (.if_icmp .le 7, 3) := by decide +kernel
theorem d_MO_nameEnd_92 : decode prog_14_method_8_code 92 = .ok (.iconst (-1), 1) := by decide +kernel
theorem d_MO_nameEnd_93 : decode prog_14_method_8_code 93 = .ok (.goto 4, 3) := by decide +kernel
theorem d_MO_nameEnd_96 : decode prog_14_method_8_code 96 = .ok (.iload_n 3, 1) := by decide +kernel
theorem d_MO_nameEnd_97 : decode prog_14_method_8_code 97 = .ok (.ireturn, 1) := by decide +kernel
theorem d_MO_numberEnd_0 : decode prog_14_method_9_code 0 = .ok (.aload_n 0, 1) := by decide +kernel
theorem d_MO_numberEnd_1 : decode prog_14_method_9_code 1 = .ok (.iconst 0, 1) := by decide +kernel
theorem d_MO_numberEnd_2 : decode prog_14_method_9_code 2 = .ok (.putfield 139, 3) := by decide +kernel
theorem d_MO_numberEnd_5 : decode prog_14_method_9_code 5 = .ok (.iload_n 1, 1) := by decide +kernel
theorem d_MO_numberEnd_6 : decode prog_14_method_9_code 6 = .ok (.istore_n 3, 1) := by decide +kernel
theorem d_MO_numberEnd_7 : decode prog_14_method_9_code 7 = .ok (.iload_n 3, 1) := by decide +kernel
theorem d_MO_numberEnd_8 : decode prog_14_method_9_code 8 = .ok (.iload_n 2, 1) := by decide +kernel
theorem d_MO_numberEnd_9 : decode prog_14_method_9_code 9 = .ok (.if_icmp .ge 49, 3) := by decide +kernel
theorem d_MO_numberEnd_12 : decode prog_14_method_9_code 12 = .ok (.aload_n 0, 1) := by decide +kernel
theorem d_MO_numberEnd_13 : decode prog_14_method_9_code 13 = .ok (.getfield 13, 3) := by decide +kernel
theorem d_MO_numberEnd_16 : decode prog_14_method_9_code 16 = .ok (.iload_n 3, 1) := by decide +kernel
theorem d_MO_numberEnd_17 : decode prog_14_method_9_code 17 = .ok (.iaload, 1) := by decide +kernel
theorem d_MO_numberEnd_18 : decode prog_14_method_9_code 18 = .ok (.invokestatic 126, 3) := by decide +kernel
theorem d_MO_numberEnd_21 : decode prog_14_method_9_code 21 = .ok (.ifCond .eq 37, 3) := by decide +kernel
theorem d_MO_numberEnd_24 : decode prog_14_method_9_code 24 = .ok (.iload_n 3, 1) := by decide +kernel
theorem d_MO_numberEnd_25 : decode prog_14_method_9_code 25 = .ok (.iload_n 1, 1) := by decide +kernel
theorem d_MO_numberEnd_26 : decode prog_14_method_9_code 26 = .ok (.isub, 1) := by decide +kernel
theorem d_MO_numberEnd_27 : decode prog_14_method_9_code 27 = .ok (.iconst 5, 1) := by decide +kernel
theorem d_MO_numberEnd_28 : decode prog_14_method_9_code 28 = .ok (.if_icmp .ge 30, 3) := by decide +kernel
theorem d_MO_numberEnd_31 : decode prog_14_method_9_code 31 = .ok (.aload_n 0, 1) := by decide +kernel
theorem d_MO_numberEnd_32 : decode prog_14_method_9_code 32 = .ok (.bipush 10, 2) := by decide +kernel
theorem d_MO_numberEnd_34 : decode prog_14_method_9_code 34 = .ok (.aload_n 0, 1) := by decide +kernel
theorem d_MO_numberEnd_35 : decode prog_14_method_9_code 35 = .ok (.getfield 139, 3) := by decide +kernel
theorem d_MO_numberEnd_38 : decode prog_14_method_9_code 38 = .ok (.imul, 1) := by decide +kernel
theorem d_MO_numberEnd_39 : decode prog_14_method_9_code 39 = .ok (.aload_n 0, 1) := by decide +kernel
theorem d_MO_numberEnd_40 : decode prog_14_method_9_code 40 = .ok (.getfield 13, 3) := by decide +kernel
theorem d_MO_numberEnd_43 : decode prog_14_method_9_code 43 = .ok (.iload_n 3, 1) := by decide +kernel
theorem d_MO_numberEnd_44 : decode prog_14_method_9_code 44 = .ok (.iaload, 1) := by decide +kernel
theorem d_MO_numberEnd_45 : decode prog_14_method_9_code 45 = .ok (.iadd, 1) := by decide +kernel
theorem d_MO_numberEnd_46 : decode prog_14_method_9_code 46 = .ok (.bipush 48, 2) := by decide +kernel
theorem d_MO_numberEnd_48 : decode prog_14_method_9_code 48 = .ok (.isub, 1) := by decide +kernel
theorem d_MO_numberEnd_49 : decode prog_14_method_9_code 49 = .ok (.putfield 139, 3) := by decide +kernel
theorem d_MO_numberEnd_52 : decode prog_14_method_9_code 52 = .ok (.iinc 3 1, 3) := by decide +kernel
theorem d_MO_numberEnd_55 : decode prog_14_method_9_code 55 = .ok (.goto (-48), 3) := by decide +kernel
theorem d_MO_numberEnd_58 : decode prog_14_method_9_code 58 = .ok (.iload_n 3, 1) := by decide +kernel
theorem d_MO_numberEnd_59 : decode prog_14_method_9_code 59 = .ok (.iload_n 1, 1) := by decide +kernel
theorem d_MO_numberEnd_60 : decode prog_14_method_9_code 60 = .ok (.if_icmp .le 32, 3) := by decide +kernel
theorem d_MO_numberEnd_63 : decode prog_14_method_9_code 63 = .ok (.iload_n 3, 1) := by decide +kernel
theorem d_MO_numberEnd_64 : decode prog_14_method_9_code 64 = .ok (.iload_n 1, 1) := by decide +kernel
theorem d_MO_numberEnd_65 : decode prog_14_method_9_code 65 = .ok (.isub, 1) := by decide +kernel
theorem d_MO_numberEnd_66 : decode prog_14_method_9_code 66 = .ok (.iconst 5, 1) := by decide +kernel
theorem d_MO_numberEnd_67 : decode prog_14_method_9_code 67 = .ok (.if_icmp .ge 25, 3) := by decide +kernel
theorem d_MO_numberEnd_70 : decode prog_14_method_9_code 70 = .ok (.aload_n 0, 1) := by decide +kernel
theorem d_MO_numberEnd_71 : decode prog_14_method_9_code 71 = .ok (.getfield 13, 3) := by decide +kernel
theorem d_MO_numberEnd_74 : decode prog_14_method_9_code 74 = .ok (.iload_n 1, 1) := by decide +kernel
theorem d_MO_numberEnd_75 : decode prog_14_method_9_code 75 = .ok (.iaload, 1) := by decide +kernel
theorem d_MO_numberEnd_76 : decode prog_14_method_9_code 76 = .ok (.bipush 48, 2) := by decide +kernel
theorem d_MO_numberEnd_78 : decode prog_14_method_9_code 78 = .ok (.if_icmp .ne 10, 3) := by decide +kernel
theorem d_MO_numberEnd_81 : decode prog_14_method_9_code 81 = .ok (.iload_n 3, 1) := by decide +kernel
theorem d_MO_numberEnd_82 : decode prog_14_method_9_code 82 = .ok (.iload_n 1, 1) := by decide +kernel
theorem d_MO_numberEnd_83 : decode prog_14_method_9_code 83 = .ok (.iconst 1, 1) := by decide +kernel
theorem d_MO_numberEnd_84 : decode prog_14_method_9_code 84 = .ok (.iadd, 1) := by decide +kernel
theorem d_MO_numberEnd_85 : decode prog_14_method_9_code 85 = .ok (.if_icmp .ne 7, 3) := by decide +kernel
theorem d_MO_numberEnd_88 : decode prog_14_method_9_code 88 = .ok (.iconst 1, 1) := by decide +kernel
theorem d_MO_numberEnd_89 : decode prog_14_method_9_code 89 = .ok (.goto 4, 3) := by decide +kernel
theorem d_MO_numberEnd_92 : decode prog_14_method_9_code 92 = .ok (.iconst 0, 1) := by decide +kernel
theorem d_MO_numberEnd_93 : decode prog_14_method_9_code 93 = .ok (.istore 4, 2) := by decide +kernel
theorem d_MO_numberEnd_95 : decode prog_14_method_9_code 95 = .ok (.iload 4, 2) := by decide +kernel
theorem d_MO_numberEnd_97 : decode prog_14_method_9_code 97 = .ok (.ifCond .eq 7, 3) := by decide +kernel
theorem d_MO_numberEnd_100 : decode prog_14_method_9_code 100 = .ok (.iload_n 3, 1) := by decide +kernel
theorem d_MO_numberEnd_101 : decode prog_14_method_9_code 101 = .ok (.goto 4, 3) := by decide +kernel
theorem d_MO_numberEnd_104 : decode prog_14_method_9_code 104 = .ok (.iconst (-1), 1) := by decide +kernel
theorem d_MO_numberEnd_105 : decode prog_14_method_9_code 105 = .ok (.ireturn, 1) := by decide +kernel
theorem d_MO_stands_0 : decode prog_14_method_10_code 0 = .ok (.iload_n 1, 1) := by decide +kernel
theorem d_MO_stands_1 : decode prog_14_method_10_code 1 = .ok (.ifCond .lt 15, 3) := by decide +kernel
theorem d_MO_stands_4 : decode prog_14_method_10_code 4 = .ok (.iload_n 1, 1) := by decide +kernel
theorem d_MO_stands_5 : decode prog_14_method_10_code 5 = .ok (.iload 5, 2) := by decide +kernel
theorem d_MO_stands_7 : decode prog_14_method_10_code 7 = .ok (.iadd, 1) := by decide +kernel
theorem d_MO_stands_8 : decode prog_14_method_10_code 8 = .ok (.iload_n 2, 1) := by decide +kernel
theorem d_MO_stands_9 : decode prog_14_method_10_code 9 = .ok (.if_icmp .gt 7, 3) := by decide +kernel
theorem d_MO_stands_12 : decode prog_14_method_10_code 12 = .ok (.iconst 1, 1) := by decide +kernel
theorem d_MO_stands_13 : decode prog_14_method_10_code 13 = .ok (.goto 4, 3) := by decide +kernel
theorem d_MO_stands_16 : decode prog_14_method_10_code 16 = .ok (.iconst 0, 1) := by decide +kernel
theorem d_MO_stands_17 : decode prog_14_method_10_code 17 = .ok (.istore 6, 2) := by decide +kernel
theorem d_MO_stands_19 : decode prog_14_method_10_code 19 = .ok (.iconst 0, 1) := by decide +kernel
theorem d_MO_stands_20 : decode prog_14_method_10_code 20 = .ok (.istore 7, 2) := by decide +kernel
theorem d_MO_stands_22 : decode prog_14_method_10_code 22 = .ok (.iload 7, 2) := by decide +kernel
theorem d_MO_stands_24 : decode prog_14_method_10_code 24 = .ok (.iload 5, 2) := by decide +kernel
theorem d_MO_stands_26 : decode prog_14_method_10_code 26 = .ok (.if_icmp .ge 51, 3) := by decide +kernel
theorem d_MO_stands_29 : decode prog_14_method_10_code 29 = .ok (.iload 6, 2) := by decide +kernel
theorem d_MO_stands_31 : decode prog_14_method_10_code 31 = .ok (.ifCond .eq 46, 3) := by decide +kernel
theorem d_MO_stands_34 : decode prog_14_method_10_code 34 = .ok (.aload_n 0, 1) := by decide +kernel
theorem d_MO_stands_35 : decode prog_14_method_10_code 35 = .ok (.getfield 13, 3) := by decide +kernel
theorem d_MO_stands_38 : decode prog_14_method_10_code 38 = .ok (.iload_n 1, 1) := by decide +kernel
theorem d_MO_stands_39 : decode prog_14_method_10_code 39 = .ok (.iload 7, 2) := by decide +kernel
theorem d_MO_stands_41 : decode prog_14_method_10_code 41 = .ok (.iadd, 1) := by decide +kernel
theorem d_MO_stands_42 : decode prog_14_method_10_code 42 = .ok (.iaload, 1) := by decide +kernel
theorem d_MO_stands_43 : decode prog_14_method_10_code 43 = .ok (.i2l, 1) := by decide +kernel
theorem d_MO_stands_44 : decode prog_14_method_10_code 44 = .ok (.lload_n 3, 1) := by decide +kernel
theorem d_MO_stands_45 : decode prog_14_method_10_code 45 = .ok (.bipush 8, 2) := by decide +kernel
theorem d_MO_stands_47 : decode prog_14_method_10_code 47 = .ok (.iload 5, 2) := by decide +kernel
theorem d_MO_stands_49 : decode prog_14_method_10_code 49 = .ok (.iconst 1, 1) := by decide +kernel
theorem d_MO_stands_50 : decode prog_14_method_10_code 50 = .ok (.isub, 1) := by decide +kernel
theorem d_MO_stands_51 : decode prog_14_method_10_code 51 = .ok (.iload 7, 2) := by decide +kernel
theorem d_MO_stands_53 : decode prog_14_method_10_code 53 = .ok (.isub, 1) := by decide +kernel
theorem d_MO_stands_54 : decode prog_14_method_10_code 54 = .ok (.imul, 1) := by decide +kernel
theorem d_MO_stands_55 : decode prog_14_method_10_code 55 = .ok (.lshr, 1) := by decide +kernel
theorem d_MO_stands_56 : decode prog_14_method_10_code 56 = .ok (.ldc2_w 120, 3) := by decide +kernel
theorem d_MO_stands_59 : decode prog_14_method_10_code 59 = .ok (.land, 1) := by decide +kernel
theorem d_MO_stands_60 : decode prog_14_method_10_code 60 = .ok (.lcmp, 1) := by decide +kernel
theorem d_MO_stands_61 : decode prog_14_method_10_code 61 = .ok (.ifCond .ne 7, 3) := by decide +kernel
theorem d_MO_stands_64 : decode prog_14_method_10_code 64 = .ok (.iconst 1, 1) := by decide +kernel
theorem d_MO_stands_65 : decode prog_14_method_10_code 65 = .ok (.goto 4, 3) := by decide +kernel
