theorem d_TR_takesLine_64 : decode prog_12_method_3_code 64 = .ok (.if_icmp .ne 5, 3) := by decide +kernel
theorem d_TR_takesLine_67 : decode prog_12_method_3_code 67 = .ok (.iconst 0, 1) := by decide +kernel
theorem d_TR_takesLine_68 : decode prog_12_method_3_code 68 = .ok (.ireturn, 1) := by decide +kernel
theorem d_TR_takesLine_69 : decode prog_12_method_3_code 69 = .ok (.aload_n 0, 1) := by decide +kernel
theorem d_TR_takesLine_70 : decode prog_12_method_3_code 70 = .ok (.getfield 27, 3) := by decide +kernel
theorem d_TR_takesLine_73 : decode prog_12_method_3_code 73 = .ok (.aload_n 0, 1) := by decide +kernel
theorem d_TR_takesLine_74 : decode prog_12_method_3_code 74 = .ok (.getfield 36, 3) := by decide +kernel
theorem d_TR_takesLine_77 : decode prog_12_method_3_code 77 = .ok (.aaload, 1) := by decide +kernel
theorem d_TR_takesLine_78 : decode prog_12_method_3_code 78 = .ok (.astore_n 2, 1) := by decide +kernel
theorem d_TR_takesLine_79 : decode prog_12_method_3_code 79 = .ok (.aload_n 0, 1) := by decide +kernel
theorem d_TR_takesLine_80 : decode prog_12_method_3_code 80 = .ok (.aload_n 2, 1) := by decide +kernel
theorem d_TR_takesLine_81 : decode prog_12_method_3_code 81 = .ok (.invokevirtual 58, 3) := by decide +kernel
theorem d_TR_takesLine_84 : decode prog_12_method_3_code 84 = .ok (.ifCond .eq 18, 3) := by decide +kernel
theorem d_TR_takesLine_87 : decode prog_12_method_3_code 87 = .ok (.aload_n 0, 1) := by decide +kernel
theorem d_TR_takesLine_88 : decode prog_12_method_3_code 88 = .ok (.aload_n 2, 1) := by decide +kernel
theorem d_TR_takesLine_89 : decode prog_12_method_3_code 89 = .ok (.invokevirtual 62, 3) := by decide +kernel
theorem d_TR_takesLine_92 : decode prog_12_method_3_code 92 = .ok (.ifCond .eq 10, 3) := by decide +kernel
theorem d_TR_takesLine_95 : decode prog_12_method_3_code 95 = .ok (.aload_n 0, 1) := by decide +kernel
theorem d_TR_takesLine_96 : decode prog_12_method_3_code 96 = .ok (.invokevirtual 65, 3) := by decide +kernel
theorem d_TR_takesLine_99 : decode prog_12_method_3_code 99 = .ok (.ifCond .ne 5, 3) := by decide +kernel
theorem d_TR_takesLine_102 : decode prog_12_method_3_code 102 = .ok (.iconst 0, 1) := by decide +kernel
theorem d_TR_takesLine_103 : decode prog_12_method_3_code 103 = .ok (.ireturn, 1) := by decide +kernel
theorem d_TR_takesLine_104 : decode prog_12_method_3_code 104 = .ok (.aload_n 0, 1) := by decide +kernel
theorem d_TR_takesLine_105 : decode prog_12_method_3_code 105 = .ok (.dup, 1) := by decide +kernel
theorem d_TR_takesLine_106 : decode prog_12_method_3_code 106 = .ok (.getfield 36, 3) := by decide +kernel
theorem d_TR_takesLine_109 : decode prog_12_method_3_code 109 = .ok (.iconst 1, 1) := by decide +kernel
theorem d_TR_takesLine_110 : decode prog_12_method_3_code 110 = .ok (.iadd, 1) := by decide +kernel
theorem d_TR_takesLine_111 : decode prog_12_method_3_code 111 = .ok (.putfield 36, 3) := by decide +kernel
theorem d_TR_takesLine_114 : decode prog_12_method_3_code 114 = .ok (.aload_n 1, 1) := by decide +kernel
theorem d_TR_takesLine_115 : decode prog_12_method_3_code 115 = .ok (.aload_n 0, 1) := by decide +kernel
theorem d_TR_takesLine_116 : decode prog_12_method_3_code 116 = .ok (.getfield 36, 3) := by decide +kernel
theorem d_TR_takesLine_119 : decode prog_12_method_3_code 119 = .ok (.putfield 68, 3) := by decide +kernel
theorem d_TR_takesLine_122 : decode prog_12_method_3_code 122 = .ok (.iconst 1, 1) := by decide +kernel
theorem d_TR_takesLine_123 : decode prog_12_method_3_code 123 = .ok (.ireturn, 1) := by decide +kernel
theorem d_TR_takesHeader_0 : decode prog_12_method_4_code 0 = .ok (.aload_n 0, 1) := by decide +kernel
theorem d_TR_takesHeader_1 : decode prog_12_method_4_code 1 = .ok (.getfield 32, 3) := by decide +kernel
theorem d_TR_takesHeader_4 : decode prog_12_method_4_code 4 = .ok (.iconst 4, 1) := by decide +kernel
theorem d_TR_takesHeader_5 : decode prog_12_method_4_code 5 = .ok (.if_icmp .ne 5, 3) := by decide +kernel
theorem d_TR_takesHeader_8 : decode prog_12_method_4_code 8 = .ok (.iconst 0, 1) := by decide +kernel
theorem d_TR_takesHeader_9 : decode prog_12_method_4_code 9 = .ok (.ireturn, 1) := by decide +kernel
theorem d_TR_takesHeader_10 : decode prog_12_method_4_code 10 = .ok (.aload_n 0, 1) := by decide +kernel
theorem d_TR_takesHeader_11 : decode prog_12_method_4_code 11 = .ok (.getfield 20, 3) := by decide +kernel
theorem d_TR_takesHeader_14 : decode prog_12_method_4_code 14 = .ok (.aload_n 0, 1) := by decide +kernel
theorem d_TR_takesHeader_15 : decode prog_12_method_4_code 15 = .ok (.getfield 32, 3) := by decide +kernel
theorem d_TR_takesHeader_18 : decode prog_12_method_4_code 18 = .ok (.aaload, 1) := by decide +kernel
theorem d_TR_takesHeader_19 : decode prog_12_method_4_code 19 = .ok (.astore_n 1, 1) := by decide +kernel
theorem d_TR_takesHeader_20 : decode prog_12_method_4_code 20 = .ok (.aload_n 0, 1) := by decide +kernel
theorem d_TR_takesHeader_21 : decode prog_12_method_4_code 21 = .ok (.aload_n 1, 1) := by decide +kernel
theorem d_TR_takesHeader_22 : decode prog_12_method_4_code 22 = .ok (.getfield 71, 3) := by decide +kernel
theorem d_TR_takesHeader_25 : decode prog_12_method_4_code 25 = .ok (.bipush 40, 2) := by decide +kernel
theorem d_TR_takesHeader_27 : decode prog_12_method_4_code 27 = .ok (.bipush 40, 2) := by decide +kernel
theorem d_TR_takesHeader_29 : decode prog_12_method_4_code 29 = .ok (.invokevirtual 74, 3) := by decide +kernel
theorem d_TR_takesHeader_32 : decode prog_12_method_4_code 32 = .ok (.ifCond .ne 5, 3) := by decide +kernel
theorem d_TR_takesHeader_35 : decode prog_12_method_4_code 35 = .ok (.iconst 0, 1) := by decide +kernel
theorem d_TR_takesHeader_36 : decode prog_12_method_4_code 36 = .ok (.ireturn, 1) := by decide +kernel
theorem d_TR_takesHeader_37 : decode prog_12_method_4_code 37 = .ok (.aload_n 1, 1) := by decide +kernel
theorem d_TR_takesHeader_38 : decode prog_12_method_4_code 38 = .ok (.aload_n 0, 1) := by decide +kernel
theorem d_TR_takesHeader_39 : decode prog_12_method_4_code 39 = .ok (.ldc 78, 2) := by decide +kernel
theorem d_TR_takesHeader_41 : decode prog_12_method_4_code 41 = .ok (.invokevirtual 41, 3) := by decide +kernel
theorem d_TR_takesHeader_44 : decode prog_12_method_4_code 44 = .ok (.putfield 80, 3) := by decide +kernel
theorem d_TR_takesHeader_47 : decode prog_12_method_4_code 47 = .ok (.aload_n 1, 1) := by decide +kernel
theorem d_TR_takesHeader_48 : decode prog_12_method_4_code 48 = .ok (.getfield 80, 3) := by decide +kernel
theorem d_TR_takesHeader_51 : decode prog_12_method_4_code 51 = .ok (.ifCond .ne 12, 3) := by decide +kernel
theorem d_TR_takesHeader_54 : decode prog_12_method_4_code 54 = .ok (.aload_n 0, 1) := by decide +kernel
theorem d_TR_takesHeader_55 : decode prog_12_method_4_code 55 = .ok (.invokevirtual 65, 3) := by decide +kernel
theorem d_TR_takesHeader_58 : decode prog_12_method_4_code 58 = .ok (.ifCond .ne 5, 3) := by decide +kernel
theorem d_TR_takesHeader_61 : decode prog_12_method_4_code 61 = .ok (.iconst 0, 1) := by decide +kernel
theorem d_TR_takesHeader_62 : decode prog_12_method_4_code 62 = .ok (.ireturn, 1) := by decide +kernel
theorem d_TR_takesHeader_63 : decode prog_12_method_4_code 63 = .ok (.aload_n 0, 1) := by decide +kernel
theorem d_TR_takesHeader_64 : decode prog_12_method_4_code 64 = .ok (.aload_n 1, 1) := by decide +kernel
theorem d_TR_takesHeader_65 : decode prog_12_method_4_code 65 = .ok (.getfield 84, 3) := by decide +kernel
theorem d_TR_takesHeader_68 : decode prog_12_method_4_code 68 = .ok (.invokevirtual 87, 3) := by decide +kernel
theorem d_TR_takesHeader_71 : decode prog_12_method_4_code 71 = .ok (.aload_n 1, 1) := by decide +kernel
theorem d_TR_takesHeader_72 : decode prog_12_method_4_code 72 = .ok (.iconst (-1), 1) := by decide +kernel
theorem d_TR_takesHeader_73 : decode prog_12_method_4_code 73 = .ok (.putfield 49, 3) := by decide +kernel
theorem d_TR_takesHeader_76 : decode prog_12_method_4_code 76 = .ok (.aload_n 1, 1) := by decide +kernel
theorem d_TR_takesHeader_77 : decode prog_12_method_4_code 77 = .ok (.aload_n 0, 1) := by decide +kernel
theorem d_TR_takesHeader_78 : decode prog_12_method_4_code 78 = .ok (.getfield 36, 3) := by decide +kernel
theorem d_TR_takesHeader_81 : decode prog_12_method_4_code 81 = .ok (.putfield 91, 3) := by decide +kernel
theorem d_TR_takesHeader_84 : decode prog_12_method_4_code 84 = .ok (.aload_n 1, 1) := by decide +kernel
theorem d_TR_takesHeader_85 : decode prog_12_method_4_code 85 = .ok (.aload_n 0, 1) := by decide +kernel
theorem d_TR_takesHeader_86 : decode prog_12_method_4_code 86 = .ok (.getfield 36, 3) := by decide +kernel
theorem d_TR_takesHeader_89 : decode prog_12_method_4_code 89 = .ok (.putfield 68, 3) := by decide +kernel
theorem d_TR_takesHeader_92 : decode prog_12_method_4_code 92 = .ok (.aload_n 0, 1) := by decide +kernel
theorem d_TR_takesHeader_93 : decode prog_12_method_4_code 93 = .ok (.dup, 1) := by decide +kernel
theorem d_TR_takesHeader_94 : decode prog_12_method_4_code 94 = .ok (.getfield 32, 3) := by decide +kernel
theorem d_TR_takesHeader_97 : decode prog_12_method_4_code 97 = .ok (.iconst 1, 1) := by decide +kernel
theorem d_TR_takesHeader_98 : decode prog_12_method_4_code 98 = .ok (.iadd, 1) := by decide +kernel
theorem d_TR_takesHeader_99 : decode prog_12_method_4_code 99 = .ok (.putfield 32, 3) := by decide +kernel
theorem d_TR_takesHeader_102 : decode prog_12_method_4_code 102 = .ok (.iconst 1, 1) := by decide +kernel
theorem d_TR_takesHeader_103 : decode prog_12_method_4_code 103 = .ok (.ireturn, 1) := by decide +kernel
theorem d_TR_takesCall_0 : decode prog_12_method_5_code 0 = .ok (.aload_n 0, 1) := by decide +kernel
theorem d_TR_takesCall_1 : decode prog_12_method_5_code 1 = .ok (.aload_n 0, 1) := by decide +kernel
theorem d_TR_takesCall_2 : decode prog_12_method_5_code 2 = .ok (.getfield 12, 3) := by decide +kernel
theorem d_TR_takesCall_5 : decode prog_12_method_5_code 5 = .ok (.bipush 40, 2) := by decide +kernel
theorem d_TR_takesCall_7 : decode prog_12_method_5_code 7 = .ok (.bipush 40, 2) := by decide +kernel
theorem d_TR_takesCall_9 : decode prog_12_method_5_code 9 = .ok (.invokevirtual 74, 3) := by decide +kernel
theorem d_TR_takesCall_12 : decode prog_12_method_5_code 12 = .ok (.ifCond .ne 5, 3) := by decide +kernel
theorem d_TR_takesCall_15 : decode prog_12_method_5_code 15 = .ok (.iconst 0, 1) := by decide +kernel
theorem d_TR_takesCall_16 : decode prog_12_method_5_code 16 = .ok (.ireturn, 1) := by decide +kernel
theorem d_TR_takesCall_17 : decode prog_12_method_5_code 17 = .ok (.aload_n 0, 1) := by decide +kernel
theorem d_TR_takesCall_18 : decode prog_12_method_5_code 18 = .ok (.getfield 12, 3) := by decide +kernel
theorem d_TR_takesCall_21 : decode prog_12_method_5_code 21 = .ok (.invokevirtual 94, 3) := by decide +kernel
theorem d_TR_takesCall_24 : decode prog_12_method_5_code 24 = .ok (.istore_n 2, 1) := by decide +kernel
theorem d_TR_takesCall_25 : decode prog_12_method_5_code 25 = .ok (.iload_n 2, 1) := by decide +kernel
theorem d_TR_takesCall_26 : decode prog_12_method_5_code 26 = .ok (.iconst (-1), 1) := by decide +kernel
theorem d_TR_takesCall_27 : decode prog_12_method_5_code 27 = .ok (.if_icmp .ne 5, 3) := by decide +kernel
theorem d_TR_takesCall_30 : decode prog_12_method_5_code 30 = .ok (.iconst 0, 1) := by decide +kernel
theorem d_TR_takesCall_31 : decode prog_12_method_5_code 31 = .ok (.ireturn, 1) := by decide +kernel
theorem d_TR_takesCall_32 : decode prog_12_method_5_code 32 = .ok (.aload_n 1, 1) := by decide +kernel
theorem d_TR_takesCall_33 : decode prog_12_method_5_code 33 = .ok (.getfield 98, 3) := by decide +kernel
theorem d_TR_takesCall_36 : decode prog_12_method_5_code 36 = .ok (.aload_n 0, 1) := by decide +kernel
theorem d_TR_takesCall_37 : decode prog_12_method_5_code 37 = .ok (.getfield 12, 3) := by decide +kernel
theorem d_TR_takesCall_40 : decode prog_12_method_5_code 40 = .ok (.getfield 101, 3) := by decide +kernel
theorem d_TR_takesCall_43 : decode prog_12_method_5_code 43 = .ok (.iload_n 2, 1) := by decide +kernel
theorem d_TR_takesCall_44 : decode prog_12_method_5_code 44 = .ok (.invokevirtual 104, 3) := by decide +kernel
theorem d_TR_takesCall_47 : decode prog_12_method_5_code 47 = .ok (.aload_n 1, 1) := by decide +kernel
theorem d_TR_takesCall_48 : decode prog_12_method_5_code 48 = .ok (.getfield 108, 3) := by decide +kernel
theorem d_TR_takesCall_51 : decode prog_12_method_5_code 51 = .ok (.iload_n 2, 1) := by decide +kernel
theorem d_TR_takesCall_52 : decode prog_12_method_5_code 52 = .ok (.iconst 1, 1) := by decide +kernel
theorem d_TR_takesCall_53 : decode prog_12_method_5_code 53 = .ok (.iadd, 1) := by decide +kernel
theorem d_TR_takesCall_54 : decode prog_12_method_5_code 54 = .ok (.aload_n 0, 1) := by decide +kernel
theorem d_TR_takesCall_55 : decode prog_12_method_5_code 55 = .ok (.getfield 12, 3) := by decide +kernel
theorem d_TR_takesCall_58 : decode prog_12_method_5_code 58 = .ok (.getfield 111, 3) := by decide +kernel
theorem d_TR_takesCall_61 : decode prog_12_method_5_code 61 = .ok (.invokevirtual 104, 3) := by decide +kernel
theorem d_TR_takesCall_64 : decode prog_12_method_5_code 64 = .ok (.iconst 1, 1) := by decide +kernel
theorem d_TR_takesCall_65 : decode prog_12_method_5_code 65 = .ok (.ireturn, 1) := by decide +kernel
theorem d_TR_takesPlace_0 : decode prog_12_method_6_code 0 = .ok (.aload_n 1, 1) := by decide +kernel
theorem d_TR_takesPlace_1 : decode prog_12_method_6_code 1 = .ok (.iconst (-1), 1) := by decide +kernel
theorem d_TR_takesPlace_2 : decode prog_12_method_6_code 2 = .ok (.putfield 114, 3) := by decide +kernel
theorem d_TR_takesPlace_5 : decode prog_12_method_6_code 5 = .ok (.aload_n 1, 1) := by decide +kernel
theorem d_TR_takesPlace_6 : decode prog_12_method_6_code 6 = .ok (.iconst 0, 1) := by decide +kernel
theorem d_TR_takesPlace_7 : decode prog_12_method_6_code 7 = .ok (.putfield 117, 3) := by decide +kernel
theorem d_TR_takesPlace_10 : decode prog_12_method_6_code 10 = .ok (.aload_n 0, 1) := by decide +kernel
theorem d_TR_takesPlace_11 : decode prog_12_method_6_code 11 = .ok (.ldc 120, 2) := by decide +kernel
theorem d_TR_takesPlace_13 : decode prog_12_method_6_code 13 = .ok (.invokevirtual 41, 3) := by decide +kernel
theorem d_TR_takesPlace_16 : decode prog_12_method_6_code 16 = .ok (.ifCond .ne 5, 3) := by decide +kernel
theorem d_TR_takesPlace_19 : decode prog_12_method_6_code 19 = .ok (.iconst 0, 1) := by decide +kernel
theorem d_TR_takesPlace_20 : decode prog_12_method_6_code 20 = .ok (.ireturn, 1) := by decide +kernel
theorem d_TR_takesPlace_21 : decode prog_12_method_6_code 21 = .ok (.aload_n 0, 1) := by decide +kernel
theorem d_TR_takesPlace_22 : decode prog_12_method_6_code 22 = .ok (.ldc 122, 2) := by decide +kernel
theorem d_TR_takesPlace_24 : decode prog_12_method_6_code 24 = .ok (.aload_n 1, 1) := by decide +kernel
theorem d_TR_takesPlace_25 : decode prog_12_method_6_code 25 = .ok (.getfield 124, 3) := by decide +kernel
theorem d_TR_takesPlace_28 : decode prog_12_method_6_code 28 = .ok (.invokevirtual 127, 3) := by decide +kernel
theorem d_TR_takesPlace_31 : decode prog_12_method_6_code 31 = .ok (.ifCond .ne 16, 3) := by decide +kernel
theorem d_TR_takesPlace_34 : decode prog_12_method_6_code 34 = .ok (.aload_n 0, 1) := by decide +kernel
theorem d_TR_takesPlace_35 : decode prog_12_method_6_code 35 = .ok (.ldc 131, 2) := by decide +kernel
theorem d_TR_takesPlace_37 : decode prog_12_method_6_code 37 = .ok (.aload_n 1, 1) := by decide +kernel
theorem d_TR_takesPlace_38 : decode prog_12_method_6_code 38 = .ok (.getfield 124, 3) := by decide +kernel
theorem d_TR_takesPlace_41 : decode prog_12_method_6_code 41 = .ok (.invokevirtual 127, 3) := by decide +kernel
theorem d_TR_takesPlace_44 : decode prog_12_method_6_code 44 = .ok (.ifCond .eq 10, 3) := by decide +kernel
theorem d_TR_takesPlace_47 : decode prog_12_method_6_code 47 = .ok (.aload_n 0, 1) := by decide +kernel
theorem d_TR_takesPlace_48 : decode prog_12_method_6_code 48 = .ok (.ldc 133, 2) := by decide +kernel
theorem d_TR_takesPlace_50 : decode prog_12_method_6_code 50 = .ok (.invokevirtual 41, 3) := by decide +kernel
theorem d_TR_takesPlace_53 : decode prog_12_method_6_code 53 = .ok (.ireturn, 1) := by decide +kernel
theorem d_TR_takesPlace_54 : decode prog_12_method_6_code 54 = .ok (.aload_n 0, 1) := by decide +kernel
theorem d_TR_takesPlace_55 : decode prog_12_method_6_code 55 = .ok (.aload_n 1, 1) := by decide +kernel
theorem d_TR_takesPlace_56 : decode prog_12_method_6_code 56 = .ok (.getfield 124, 3) := by decide +kernel
theorem d_TR_takesPlace_59 : decode prog_12_method_6_code 59 = .ok (.iconst 2, 1) := by decide +kernel
theorem d_TR_takesPlace_60 : decode prog_12_method_6_code 60 = .ok (.bipush 81, 2) := by decide +kernel
theorem d_TR_takesPlace_62 : decode prog_12_method_6_code 62 = .ok (.invokevirtual 74, 3) := by decide +kernel
theorem d_TR_takesPlace_65 : decode prog_12_method_6_code 65 = .ok (.ifCond .ne 5, 3) := by decide +kernel
theorem d_TR_takesPlace_68 : decode prog_12_method_6_code 68 = .ok (.iconst 0, 1) := by decide +kernel
theorem d_TR_takesPlace_69 : decode prog_12_method_6_code 69 = .ok (.ireturn, 1) := by decide +kernel
theorem d_TR_takesPlace_70 : decode prog_12_method_6_code 70 = .ok (.aload_n 1, 1) := by decide +kernel
theorem d_TR_takesPlace_71 : decode prog_12_method_6_code 71 = .ok (.iconst 1, 1) := by decide +kernel
theorem d_TR_takesPlace_72 : decode prog_12_method_6_code 72 = .ok (.putfield 117, 3) := by decide +kernel
theorem d_TR_takesPlace_75 : decode prog_12_method_6_code 75 = .ok (.aload_n 0, 1) := by decide +kernel
theorem d_TR_takesPlace_76 : decode prog_12_method_6_code 76 = .ok (.ldc 135, 2) := by decide +kernel
theorem d_TR_takesPlace_78 : decode prog_12_method_6_code 78 = .ok (.invokevirtual 41, 3) := by decide +kernel
theorem d_TR_takesPlace_81 : decode prog_12_method_6_code 81 = .ok (.ifCond .eq 34, 3) := by decide +kernel
theorem d_TR_takesPlace_84 : decode prog_12_method_6_code 84 = .ok (.aload_n 1, 1) := by decide +kernel
theorem d_TR_takesPlace_85 : decode prog_12_method_6_code 85 = .ok (.aload_n 0, 1) := by decide +kernel
theorem d_TR_takesPlace_86 : decode prog_12_method_6_code 86 = .ok (.invokevirtual 137, 3) := by decide +kernel
theorem d_TR_takesPlace_89 : decode prog_12_method_6_code 89 = .ok (.putfield 114, 3) := by decide +kernel
theorem d_TR_takesPlace_92 : decode prog_12_method_6_code 92 = .ok (.aload_n 1, 1) := by decide +kernel
theorem d_TR_takesPlace_93 : decode prog_12_method_6_code 93 = .ok (.getfield 114, 3) := by decide +kernel
theorem d_TR_takesPlace_96 : decode prog_12_method_6_code 96 = .ok (.iconst (-1), 1) := by decide +kernel
theorem d_TR_takesPlace_97 : decode prog_12_method_6_code 97 = .ok (.if_icmp .eq 16, 3) := by decide +kernel
theorem d_TR_takesPlace_100 : decode prog_12_method_6_code 100 = .ok (.aload_n 0, 1) := by decide +kernel
theorem d_TR_takesPlace_101 : decode prog_12_method_6_code 101 = .ok (.ldc 133, 2) := by decide +kernel
theorem d_TR_takesPlace_103 : decode prog_12_method_6_code 103 = .ok (.invokevirtual 41, 3) := by decide +kernel
theorem d_TR_takesPlace_106 : decode prog_12_method_6_code 106 = .ok (.ifCond .eq 7, 3) := by decide +kernel
theorem d_TR_takesPlace_109 : decode prog_12_method_6_code 109 = .ok (.iconst 1, 1) := by decide +kernel
theorem d_TR_takesPlace_110 : decode prog_12_method_6_code 110 = .ok (.goto 4, 3) := by decide +kernel
theorem d_TR_takesPlace_113 : decode prog_12_method_6_code 113 = .ok (.iconst 0, 1) := by decide +kernel
theorem d_TR_takesPlace_114 : decode prog_12_method_6_code 114 = .ok (.ireturn, 1) := by decide +kernel
theorem d_TR_takesPlace_115 : decode prog_12_method_6_code 115 = .ok (.aload_n 0, 1) := by decide +kernel
theorem d_TR_takesPlace_116 : decode prog_12_method_6_code 116 = .ok (.ldc 133, 2) := by decide +kernel
theorem d_TR_takesPlace_118 : decode prog_12_method_6_code 118 = .ok (.invokevirtual 41, 3) := by decide +kernel
theorem d_TR_takesPlace_121 : decode prog_12_method_6_code 121 = .ok (.ireturn, 1) := by decide +kernel
theorem d_TR_takesMore_0 : decode prog_12_method_7_code 0 = .ok (.aload_n 0, 1) := by decide +kernel
theorem d_TR_takesMore_1 : decode prog_12_method_7_code 1 = .ok (.ldc 140, 2) := by decide +kernel
theorem d_TR_takesMore_3 : decode prog_12_method_7_code 3 = .ok (.invokevirtual 41, 3) := by decide +kernel
theorem d_TR_takesMore_6 : decode prog_12_method_7_code 6 = .ok (.ifCond .ne 5, 3) := by decide +kernel
theorem d_TR_takesMore_9 : decode prog_12_method_7_code 9 = .ok (.iconst 0, 1) := by decide +kernel
theorem d_TR_takesMore_10 : decode prog_12_method_7_code 10 = .ok (.ireturn, 1) := by decide +kernel
theorem d_TR_takesMore_11 : decode prog_12_method_7_code 11 = .ok (.aload_n 1, 1) := by decide +kernel
theorem d_TR_takesMore_12 : decode prog_12_method_7_code 12 = .ok (.aload_n 0, 1) := by decide +kernel
theorem d_TR_takesMore_13 : decode prog_12_method_7_code 13 = .ok (.invokevirtual 137, 3) := by decide +kernel
theorem d_TR_takesMore_16 : decode prog_12_method_7_code 16 = .ok (.putfield 49, 3) := by decide +kernel
theorem d_TR_takesMore_19 : decode prog_12_method_7_code 19 = .ok (.aload_n 1, 1) := by decide +kernel
theorem d_TR_takesMore_20 : decode prog_12_method_7_code 20 = .ok (.getfield 49, 3) := by decide +kernel
theorem d_TR_takesMore_23 : decode prog_12_method_7_code 23 = .ok (.iconst (-1), 1) := by decide +kernel
theorem d_TR_takesMore_24 : decode prog_12_method_7_code 24 = .ok (.if_icmp .eq 23, 3) := by decide +kernel
theorem d_TR_takesMore_27 : decode prog_12_method_7_code 27 = .ok (.aload_n 0, 1) := by decide +kernel
theorem d_TR_takesMore_28 : decode prog_12_method_7_code 28 = .ok (.ldc 142, 2) := by decide +kernel
theorem d_TR_takesMore_30 : decode prog_12_method_7_code 30 = .ok (.invokevirtual 41, 3) := by decide +kernel
theorem d_TR_takesMore_33 : decode prog_12_method_7_code 33 = .ok (.ifCond .eq 14, 3) := by decide +kernel
theorem d_TR_takesMore_36 : decode prog_12_method_7_code 36 = .ok (.aload_n 0, 1) := by decide +kernel
theorem d_TR_takesMore_37 : decode prog_12_method_7_code 37 = .ok (.invokevirtual 65, 3) := by decide +kernel
theorem d_TR_takesMore_40 : decode prog_12_method_7_code 40 = .ok (.ifCond .eq 7, 3) := by decide +kernel
theorem d_TR_takesMore_43 : decode prog_12_method_7_code 43 = .ok (.iconst 1, 1) := by decide +kernel
theorem d_TR_takesMore_44 : decode prog_12_method_7_code 44 = .ok (.goto 4, 3) := by decide +kernel
theorem d_TR_takesMore_47 : decode prog_12_method_7_code 47 = .ok (.iconst 0, 1) := by decide +kernel
theorem d_TR_takesMore_48 : decode prog_12_method_7_code 48 = .ok (.ireturn, 1) := by decide +kernel
theorem d_LW_load_0 : decode method_3_code 0 = .ok (.aload_n 1, 1) := by decide +kernel
theorem d_LW_load_1 : decode method_3_code 1 = .ok (.iconst 0, 1) := by decide +kernel
theorem d_LW_load_2 : decode method_3_code 2 = .ok (.aload_n 0, 1) := by decide +kernel
theorem d_LW_load_3 : decode method_3_code 3 = .ok (.invokevirtual 7, 3) := by decide +kernel
theorem d_LW_load_6 : decode method_3_code 6 = .ok (.i2l, 1) := by decide +kernel
theorem d_LW_load_7 : decode method_3_code 7 = .ok (.lastore, 1) := by decide +kernel
theorem d_LW_load_8 : decode method_3_code 8 = .ok (.goto 6, 3) := by decide +kernel
theorem d_LW_load_11 : decode method_3_code 11 = .ok (.astore_n 2, 1) := by decide +kernel
theorem d_LW_load_12 : decode method_3_code 12 = .ok (.iconst 1, 1) := by decide +kernel
theorem d_LW_load_13 : decode method_3_code 13 = .ok (.ireturn, 1) := by decide +kernel
theorem d_LW_load_14 : decode method_3_code 14 = .ok (.iconst 0, 1) := by decide +kernel
theorem d_LW_load_15 : decode method_3_code 15 = .ok (.ireturn, 1) := by decide +kernel
theorem d_LW_retrace_0 : decode method_4_code 0 = .ok (.aload_n 1, 1) := by decide +kernel
theorem d_LW_retrace_1 : decode method_4_code 1 = .ok (.iconst 0, 1) := by decide +kernel
theorem d_LW_retrace_2 : decode method_4_code 2 = .ok (.aload_n 0, 1) := by decide +kernel
theorem d_LW_retrace_3 : decode method_4_code 3 = .ok (.invokevirtual 15, 3) := by decide +kernel
theorem d_LW_retrace_6 : decode method_4_code 6 = .ok (.i2l, 1) := by decide +kernel
theorem d_LW_retrace_7 : decode method_4_code 7 = .ok (.lastore, 1) := by decide +kernel
theorem d_LW_retrace_8 : decode method_4_code 8 = .ok (.goto 9, 3) := by decide +kernel
theorem d_LW_retrace_11 : decode method_4_code 11 = .ok (.astore_n 2, 1) := by decide +kernel
theorem d_LW_retrace_12 : decode method_4_code 12 = .ok (.iconst 1, 1) := by decide +kernel
theorem d_LW_retrace_13 : decode method_4_code 13 = .ok (.ireturn, 1) := by decide +kernel
theorem d_LW_retrace_14 : decode method_4_code 14 = .ok (.astore_n 2, 1) := by decide +kernel
theorem d_LW_retrace_15 : decode method_4_code 15 = .ok (.iconst 2, 1) := by decide +kernel
theorem d_LW_retrace_16 : decode method_4_code 16 = .ok (.ireturn, 1) := by decide +kernel
theorem d_LW_retrace_17 : decode method_4_code 17 = .ok (.iconst 0, 1) := by decide +kernel
theorem d_LW_retrace_18 : decode method_4_code 18 = .ok (.ireturn, 1) := by decide +kernel
theorem d_LW_shorten_0 : decode method_5_code 0 = .ok (.aload_n 1, 1) := by decide +kernel
theorem d_LW_shorten_1 : decode method_5_code 1 = .ok (.iconst 0, 1) := by decide +kernel
theorem d_LW_shorten_2 : decode method_5_code 2 = .ok (.aload_n 0, 1) := by decide +kernel
theorem d_LW_shorten_3 : decode method_5_code 3 = .ok (.invokevirtual 20, 3) := by decide +kernel
theorem d_LW_shorten_6 : decode method_5_code 6 = .ok (.i2l, 1) := by decide +kernel
theorem d_LW_shorten_7 : decode method_5_code 7 = .ok (.lastore, 1) := by decide +kernel
theorem d_LW_shorten_8 : decode method_5_code 8 = .ok (.goto 9, 3) := by decide +kernel
theorem d_LW_shorten_11 : decode method_5_code 11 = .ok (.astore_n 2, 1) := by decide +kernel
theorem d_LW_shorten_12 : decode method_5_code 12 = .ok (.iconst 1, 1) := by decide +kernel
theorem d_LW_shorten_13 : decode method_5_code 13 = .ok (.ireturn, 1) := by decide +kernel
theorem d_LW_shorten_14 : decode method_5_code 14 = .ok (.astore_n 2, 1) := by decide +kernel
theorem d_LW_shorten_15 : decode method_5_code 15 = .ok (.iconst 2, 1) := by decide +kernel
theorem d_LW_shorten_16 : decode method_5_code 16 = .ok (.ireturn, 1) := by decide +kernel
theorem d_LW_shorten_17 : decode method_5_code 17 = .ok (.iconst 0, 1) := by decide +kernel
theorem d_LW_shorten_18 : decode method_5_code 18 = .ok (.ireturn, 1) := by decide +kernel
theorem d_LW_report_0 : decode method_6_code 0 = .ok (.aload_n 1, 1) := by decide +kernel
theorem d_LW_report_1 : decode method_6_code 1 = .ok (.iconst 0, 1) := by decide +kernel
theorem d_LW_report_2 : decode method_6_code 2 = .ok (.aload_n 0, 1) := by decide +kernel
theorem d_LW_report_3 : decode method_6_code 3 = .ok (.invokevirtual 23, 3) := by decide +kernel
theorem d_LW_report_6 : decode method_6_code 6 = .ok (.i2l, 1) := by decide +kernel
theorem d_LW_report_7 : decode method_6_code 7 = .ok (.lastore, 1) := by decide +kernel
theorem d_LW_report_8 : decode method_6_code 8 = .ok (.goto 9, 3) := by decide +kernel
theorem d_LW_report_11 : decode method_6_code 11 = .ok (.astore_n 2, 1) := by decide +kernel
theorem d_LW_report_12 : decode method_6_code 12 = .ok (.iconst 1, 1) := by decide +kernel
theorem d_LW_report_13 : decode method_6_code 13 = .ok (.ireturn, 1) := by decide +kernel
theorem d_LW_report_14 : decode method_6_code 14 = .ok (.astore_n 2, 1) := by decide +kernel
theorem d_LW_report_15 : decode method_6_code 15 = .ok (.iconst 2, 1) := by decide +kernel
theorem d_LW_report_16 : decode method_6_code 16 = .ok (.ireturn, 1) := by decide +kernel
theorem d_LW_report_17 : decode method_6_code 17 = .ok (.iconst 0, 1) := by decide +kernel
theorem d_LW_report_18 : decode method_6_code 18 = .ok (.ireturn, 1) := by decide +kernel
theorem d_LW_at_0 : decode method_7_code 0 = .ok (.aload_n 2, 1) := by decide +kernel
theorem d_LW_at_1 : decode method_7_code 1 = .ok (.iconst 0, 1) := by decide +kernel
theorem d_LW_at_2 : decode method_7_code 2 = .ok (.aload_n 0, 1) := by decide +kernel
theorem d_LW_at_3 : decode method_7_code 3 = .ok (.iload_n 1, 1) := by decide +kernel
theorem d_LW_at_4 : decode method_7_code 4 = .ok (.invokevirtual 26, 3) := by decide +kernel
theorem d_LW_at_7 : decode method_7_code 7 = .ok (.i2l, 1) := by decide +kernel
theorem d_LW_at_8 : decode method_7_code 8 = .ok (.lastore, 1) := by decide +kernel
theorem d_LW_at_9 : decode method_7_code 9 = .ok (.goto 6, 3) := by decide +kernel
theorem d_LW_at_12 : decode method_7_code 12 = .ok (.astore_n 3, 1) := by decide +kernel
theorem d_LW_at_13 : decode method_7_code 13 = .ok (.iconst 1, 1) := by decide +kernel
theorem d_LW_at_14 : decode method_7_code 14 = .ok (.ireturn, 1) := by decide +kernel
theorem d_LW_at_15 : decode method_7_code 15 = .ok (.iconst 0, 1) := by decide +kernel
theorem d_LW_at_16 : decode method_7_code 16 = .ok (.ireturn, 1) := by decide +kernel
theorem d_LW_groups_0 : decode method_8_code 0 = .ok (.aload_n 2, 1) := by decide +kernel
theorem d_LW_groups_1 : decode method_8_code 1 = .ok (.iconst 0, 1) := by decide +kernel
theorem d_LW_groups_2 : decode method_8_code 2 = .ok (.aload_n 0, 1) := by decide +kernel
theorem d_LW_groups_3 : decode method_8_code 3 = .ok (.iload_n 1, 1) := by decide +kernel
theorem d_LW_groups_4 : decode method_8_code 4 = .ok (.invokevirtual 32, 3) := by decide +kernel
theorem d_LW_groups_7 : decode method_8_code 7 = .ok (.i2l, 1) := by decide +kernel
theorem d_LW_groups_8 : decode method_8_code 8 = .ok (.lastore, 1) := by decide +kernel
theorem d_LW_groups_9 : decode method_8_code 9 = .ok (.goto 6, 3) := by decide +kernel
theorem d_LW_groups_12 : decode method_8_code 12 = .ok (.astore_n 3, 1) := by decide +kernel
theorem d_LW_groups_13 : decode method_8_code 13 = .ok (.iconst 1, 1) := by decide +kernel
theorem d_LW_groups_14 : decode method_8_code 14 = .ok (.ireturn, 1) := by decide +kernel
theorem d_LW_groups_15 : decode method_8_code 15 = .ok (.iconst 0, 1) := by decide +kernel
theorem d_LW_groups_16 : decode method_8_code 16 = .ok (.ireturn, 1) := by decide +kernel
theorem d_LW_key_0 : decode method_9_code 0 = .ok (.aload_n 2, 1) := by decide +kernel
theorem d_LW_key_1 : decode method_9_code 1 = .ok (.iconst 0, 1) := by decide +kernel
theorem d_LW_key_2 : decode method_9_code 2 = .ok (.aload_n 0, 1) := by decide +kernel
theorem d_LW_key_3 : decode method_9_code 3 = .ok (.iload_n 1, 1) := by decide +kernel
theorem d_LW_key_4 : decode method_9_code 4 = .ok (.invokevirtual 37, 3) := by decide +kernel
theorem d_LW_key_7 : decode method_9_code 7 = .ok (.lastore, 1) := by decide +kernel
theorem d_LW_key_8 : decode method_9_code 8 = .ok (.goto 6, 3) := by decide +kernel
theorem d_LW_key_11 : decode method_9_code 11 = .ok (.astore_n 3, 1) := by decide +kernel
theorem d_LW_key_12 : decode method_9_code 12 = .ok (.iconst 1, 1) := by decide +kernel
theorem d_LW_key_13 : decode method_9_code 13 = .ok (.ireturn, 1) := by decide +kernel
theorem d_LW_key_14 : decode method_9_code 14 = .ok (.iconst 0, 1) := by decide +kernel
theorem d_LW_key_15 : decode method_9_code 15 = .ok (.ireturn, 1) := by decide +kernel
theorem d_LW_reports_0 : decode method_10_code 0 = .ok (.aload_n 3, 1) := by decide +kernel
theorem d_LW_reports_1 : decode method_10_code 1 = .ok (.iconst 0, 1) := by decide +kernel
theorem d_LW_reports_2 : decode method_10_code 2 = .ok (.aload_n 0, 1) := by decide +kernel
theorem d_LW_reports_3 : decode method_10_code 3 = .ok (.iload_n 1, 1) := by decide +kernel
theorem d_LW_reports_4 : decode method_10_code 4 = .ok (.iload_n 2, 1) := by decide +kernel
theorem d_LW_reports_5 : decode method_10_code 5 = .ok (.invokevirtual 41, 3) := by decide +kernel
theorem d_LW_reports_8 : decode method_10_code 8 = .ok (.i2l, 1) := by decide +kernel
theorem d_LW_reports_9 : decode method_10_code 9 = .ok (.lastore, 1) := by decide +kernel
theorem d_LW_reports_10 : decode method_10_code 10 = .ok (.goto 11, 3) := by decide +kernel
theorem d_LW_reports_13 : decode method_10_code 13 = .ok (.astore 4, 2) := by decide +kernel
theorem d_LW_reports_15 : decode method_10_code 15 = .ok (.iconst 1, 1) := by decide +kernel
theorem d_LW_reports_16 : decode method_10_code 16 = .ok (.ireturn, 1) := by decide +kernel
theorem d_LW_reports_17 : decode method_10_code 17 = .ok (.astore 4, 2) := by decide +kernel
theorem d_LW_reports_19 : decode method_10_code 19 = .ok (.iconst 2, 1) := by decide +kernel
theorem d_LW_reports_20 : decode method_10_code 20 = .ok (.ireturn, 1) := by decide +kernel
theorem d_LW_reports_21 : decode method_10_code 21 = .ok (.iconst 0, 1) := by decide +kernel
theorem d_LW_reports_22 : decode method_10_code 22 = .ok (.ireturn, 1) := by decide +kernel
theorem d_LW_law_0 : decode code 0 = .ok (.new 8, 3) := by decide +kernel
theorem d_LW_law_3 : decode code 3 = .ok (.dup, 1) := by decide +kernel
theorem d_LW_law_4 : decode code 4 = .ok (.invokespecial 45, 3) := by decide +kernel
theorem d_LW_law_7 : decode code 7 = .ok (.astore_n 1, 1) := by decide +kernel
theorem d_LW_law_8 : decode code 8 = .ok (.new 46, 3) := by decide +kernel
theorem d_LW_law_11 : decode code 11 = .ok (.dup, 1) := by decide +kernel
theorem d_LW_law_12 : decode code 12 = .ok (.invokespecial 48, 3) := by decide +kernel
theorem d_LW_law_15 : decode code 15 = .ok (.astore_n 2, 1) := by decide +kernel
theorem d_LW_law_16 : decode code 16 = .ok (.iconst 1, 1) := by decide +kernel
theorem d_LW_law_17 : decode code 17 = .ok (.newarray .long, 2) := by decide +kernel
theorem d_LW_law_19 : decode code 19 = .ok (.astore_n 3, 1) := by decide +kernel
theorem d_LW_law_20 : decode code 20 = .ok (.iconst 0, 1) := by decide +kernel
theorem d_LW_law_21 : decode code 21 = .ok (.istore 4, 2) := by decide +kernel
theorem d_LW_law_23 : decode code 23 = .ok (.iload 4, 2) := by decide +kernel
theorem d_LW_law_25 : decode code 25 = .ok (.aload_n 0, 1) := by decide +kernel
theorem d_LW_law_26 : decode code 26 = .ok (.arraylength, 1) := by decide +kernel
theorem d_LW_law_27 : decode code 27 = .ok (.iconst 4, 1) := by decide +kernel
theorem d_LW_law_28 : decode code 28 = .ok (.isub, 1) := by decide +kernel
theorem d_LW_law_29 : decode code 29 = .ok (.if_icmp .gt 628, 3) := by decide +kernel
theorem d_LW_law_32 : decode code 32 = .ok (.aload_n 0, 1) := by decide +kernel
theorem d_LW_law_33 : decode code 33 = .ok (.iload 4, 2) := by decide +kernel
theorem d_LW_law_35 : decode code 35 = .ok (.iaload, 1) := by decide +kernel
theorem d_LW_law_36 : decode code 36 = .ok (.bipush 15, 2) := by decide +kernel
theorem d_LW_law_38 : decode code 38 = .ok (.iand, 1) := by decide +kernel
theorem d_LW_law_39 : decode code 39 = .ok (.tableswitch 612 0 13 #[69, 138, 149, 193, 237, 281, 325, 338, 351, 407, 420, 476, 489, 544], 69) := by decide +kernel
theorem d_LW_law_108 : decode code 108 = .ok (.aload_n 1, 1) := by decide +kernel
theorem d_LW_law_109 : decode code 109 = .ok (.aload_n 0, 1) := by decide +kernel
theorem d_LW_law_110 : decode code 110 = .ok (.iload 4, 2) := by decide +kernel
theorem d_LW_law_112 : decode code 112 = .ok (.iconst 1, 1) := by decide +kernel
theorem d_LW_law_113 : decode code 113 = .ok (.iadd, 1) := by decide +kernel
theorem d_LW_law_114 : decode code 114 = .ok (.iaload, 1) := by decide +kernel
theorem d_LW_law_115 : decode code 115 = .ok (.aload_n 0, 1) := by decide +kernel
theorem d_LW_law_116 : decode code 116 = .ok (.iload 4, 2) := by decide +kernel
theorem d_LW_law_118 : decode code 118 = .ok (.iconst 2, 1) := by decide +kernel
theorem d_LW_law_119 : decode code 119 = .ok (.iadd, 1) := by decide +kernel
theorem d_LW_law_120 : decode code 120 = .ok (.iaload, 1) := by decide +kernel
theorem d_LW_law_121 : decode code 121 = .ok (.i2l, 1) := by decide +kernel
theorem d_LW_law_122 : decode code 122 = .ok (.bipush 32, 2) := by decide +kernel
theorem d_LW_law_124 : decode code 124 = .ok (.lshl, 1) := by decide +kernel
theorem d_LW_law_125 : decode code 125 = .ok (.aload_n 0, 1) := by decide +kernel
theorem d_LW_law_126 : decode code 126 = .ok (.iload 4, 2) := by decide +kernel
theorem d_LW_law_128 : decode code 128 = .ok (.iconst 3, 1) := by decide +kernel
theorem d_LW_law_129 : decode code 129 = .ok (.iadd, 1) := by decide +kernel
theorem d_LW_law_130 : decode code 130 = .ok (.iaload, 1) := by decide +kernel
theorem d_LW_law_131 : decode code 131 = .ok (.i2l, 1) := by decide +kernel
theorem d_LW_law_132 : decode code 132 = .ok (.ldc2_w 49, 3) := by decide +kernel
theorem d_LW_law_135 : decode code 135 = .ok (.land, 1) := by decide +kernel
theorem d_LW_law_136 : decode code 136 = .ok (.lor, 1) := by decide +kernel
theorem d_LW_law_137 : decode code 137 = .ok (.invokevirtual 51, 3) := by decide +kernel
theorem d_LW_law_140 : decode code 140 = .ok (.aload_n 2, 1) := by decide +kernel
theorem d_LW_law_141 : decode code 141 = .ok (.aload_n 0, 1) := by decide +kernel
theorem d_LW_law_142 : decode code 142 = .ok (.iload 4, 2) := by decide +kernel
theorem d_LW_law_144 : decode code 144 = .ok (.iconst 1, 1) := by decide +kernel
theorem d_LW_law_145 : decode code 145 = .ok (.iadd, 1) := by decide +kernel
theorem d_LW_law_146 : decode code 146 = .ok (.iaload, 1) := by decide +kernel
theorem d_LW_law_147 : decode code 147 = .ok (.aload_n 0, 1) := by decide +kernel
theorem d_LW_law_148 : decode code 148 = .ok (.iload 4, 2) := by decide +kernel
theorem d_LW_law_150 : decode code 150 = .ok (.iconst 2, 1) := by decide +kernel
theorem d_LW_law_151 : decode code 151 = .ok (.iadd, 1) := by decide +kernel
theorem d_LW_law_152 : decode code 152 = .ok (.iaload, 1) := by decide +kernel
theorem d_LW_law_153 : decode code 153 = .ok (.i2l, 1) := by decide +kernel
theorem d_LW_law_154 : decode code 154 = .ok (.bipush 32, 2) := by decide +kernel
theorem d_LW_law_156 : decode code 156 = .ok (.lshl, 1) := by decide +kernel
theorem d_LW_law_157 : decode code 157 = .ok (.aload_n 0, 1) := by decide +kernel
theorem d_LW_law_158 : decode code 158 = .ok (.iload 4, 2) := by decide +kernel
theorem d_LW_law_160 : decode code 160 = .ok (.iconst 3, 1) := by decide +kernel
theorem d_LW_law_161 : decode code 161 = .ok (.iadd, 1) := by decide +kernel
theorem d_LW_law_162 : decode code 162 = .ok (.iaload, 1) := by decide +kernel
theorem d_LW_law_163 : decode code 163 = .ok (.i2l, 1) := by decide +kernel
theorem d_LW_law_164 : decode code 164 = .ok (.ldc2_w 49, 3) := by decide +kernel
theorem d_LW_law_167 : decode code 167 = .ok (.land, 1) := by decide +kernel
theorem d_LW_law_168 : decode code 168 = .ok (.lor, 1) := by decide +kernel
theorem d_LW_law_169 : decode code 169 = .ok (.invokevirtual 55, 3) := by decide +kernel
theorem d_LW_law_172 : decode code 172 = .ok (.if_icmp .eq 479, 3) := by decide +kernel
theorem d_LW_law_175 : decode code 175 = .ok (.iconst 0, 1) := by decide +kernel
theorem d_LW_law_176 : decode code 176 = .ok (.ireturn, 1) := by decide +kernel
theorem d_LW_law_177 : decode code 177 = .ok (.aload_n 1, 1) := by decide +kernel
theorem d_LW_law_178 : decode code 178 = .ok (.invokevirtual 56, 3) := by decide +kernel
theorem d_LW_law_181 : decode code 181 = .ok (.aload_n 2, 1) := by decide +kernel
theorem d_LW_law_182 : decode code 182 = .ok (.invokevirtual 59, 3) := by decide +kernel
theorem d_LW_law_185 : decode code 185 = .ok (.goto 466, 3) := by decide +kernel
theorem d_LW_law_188 : decode code 188 = .ok (.aload_n 1, 1) := by decide +kernel
theorem d_LW_law_189 : decode code 189 = .ok (.aload_n 3, 1) := by decide +kernel
theorem d_LW_law_190 : decode code 190 = .ok (.invokestatic 60, 3) := by decide +kernel
theorem d_LW_law_193 : decode code 193 = .ok (.istore 5, 2) := by decide +kernel
theorem d_LW_law_195 : decode code 195 = .ok (.aload_n 2, 1) := by decide +kernel
theorem d_LW_law_196 : decode code 196 = .ok (.invokevirtual 65, 3) := by decide +kernel
theorem d_LW_law_199 : decode code 199 = .ok (.istore 6, 2) := by decide +kernel
theorem d_LW_law_201 : decode code 201 = .ok (.aload_n 2, 1) := by decide +kernel
theorem d_LW_law_202 : decode code 202 = .ok (.invokevirtual 66, 3) := by decide +kernel
theorem d_LW_law_205 : decode code 205 = .ok (.iload 5, 2) := by decide +kernel
theorem d_LW_law_207 : decode code 207 = .ok (.if_icmp .eq 5, 3) := by decide +kernel
theorem d_LW_law_210 : decode code 210 = .ok (.iconst 0, 1) := by decide +kernel
theorem d_LW_law_211 : decode code 211 = .ok (.ireturn, 1) := by decide +kernel
theorem d_LW_law_212 : decode code 212 = .ok (.iload 5, 2) := by decide +kernel
theorem d_LW_law_214 : decode code 214 = .ok (.ifCond .ne 15, 3) := by decide +kernel
theorem d_LW_law_217 : decode code 217 = .ok (.aload_n 3, 1) := by decide +kernel
theorem d_LW_law_218 : decode code 218 = .ok (.iconst 0, 1) := by decide +kernel
theorem d_LW_law_219 : decode code 219 = .ok (.laload, 1) := by decide +kernel
theorem d_LW_law_220 : decode code 220 = .ok (.iload 6, 2) := by decide +kernel
theorem d_LW_law_222 : decode code 222 = .ok (.i2l, 1) := by decide +kernel
theorem d_LW_law_223 : decode code 223 = .ok (.lcmp, 1) := by decide +kernel
theorem d_LW_law_224 : decode code 224 = .ok (.ifCond .eq 5, 3) := by decide +kernel
theorem d_LW_law_227 : decode code 227 = .ok (.iconst 0, 1) := by decide +kernel
theorem d_LW_law_228 : decode code 228 = .ok (.ireturn, 1) := by decide +kernel
theorem d_LW_law_229 : decode code 229 = .ok (.goto 422, 3) := by decide +kernel
theorem d_LW_law_232 : decode code 232 = .ok (.aload_n 1, 1) := by decide +kernel
theorem d_LW_law_233 : decode code 233 = .ok (.aload_n 3, 1) := by decide +kernel
theorem d_LW_law_234 : decode code 234 = .ok (.invokestatic 69, 3) := by decide +kernel
theorem d_LW_law_237 : decode code 237 = .ok (.istore 5, 2) := by decide +kernel
theorem d_LW_law_239 : decode code 239 = .ok (.aload_n 2, 1) := by decide +kernel
theorem d_LW_law_240 : decode code 240 = .ok (.invokevirtual 71, 3) := by decide +kernel
theorem d_LW_law_243 : decode code 243 = .ok (.istore 6, 2) := by decide +kernel
theorem d_LW_law_245 : decode code 245 = .ok (.aload_n 2, 1) := by decide +kernel
theorem d_LW_law_246 : decode code 246 = .ok (.invokevirtual 66, 3) := by decide +kernel
theorem d_LW_law_249 : decode code 249 = .ok (.iload 5, 2) := by decide +kernel
theorem d_LW_law_251 : decode code 251 = .ok (.if_icmp .eq 5, 3) := by decide +kernel
theorem d_LW_law_254 : decode code 254 = .ok (.iconst 0, 1) := by decide +kernel
theorem d_LW_law_255 : decode code 255 = .ok (.ireturn, 1) := by decide +kernel
theorem d_LW_law_256 : decode code 256 = .ok (.iload 5, 2) := by decide +kernel
theorem d_LW_law_258 : decode code 258 = .ok (.ifCond .ne 15, 3) := by decide +kernel
theorem d_LW_law_261 : decode code 261 = .ok (.aload_n 3, 1) := by decide +kernel
theorem d_LW_law_262 : decode code 262 = .ok (.iconst 0, 1) := by decide +kernel
theorem d_LW_law_263 : decode code 263 = .ok (.laload, 1) := by decide +kernel
theorem d_LW_law_264 : decode code 264 = .ok (.iload 6, 2) := by decide +kernel
theorem d_LW_law_266 : decode code 266 = .ok (.i2l, 1) := by decide +kernel
theorem d_LW_law_267 : decode code 267 = .ok (.lcmp, 1) := by decide +kernel
theorem d_LW_law_268 : decode code 268 = .ok (.ifCond .eq 5, 3) := by decide +kernel
theorem d_LW_law_271 : decode code 271 = .ok (.iconst 0, 1) := by decide +kernel
theorem d_LW_law_272 : decode code 272 = .ok (.ireturn, 1) := by decide +kernel
theorem d_LW_law_273 : decode code 273 = .ok (.goto 378, 3) := by decide +kernel
theorem d_LW_law_276 : decode code 276 = .ok (.aload_n 1, 1) := by decide +kernel
theorem d_LW_law_277 : decode code 277 = .ok (.aload_n 3, 1) := by decide +kernel
theorem d_LW_law_278 : decode code 278 = .ok (.invokestatic 72, 3) := by decide +kernel
theorem d_LW_law_281 : decode code 281 = .ok (.istore 5, 2) := by decide +kernel
theorem d_LW_law_283 : decode code 283 = .ok (.aload_n 2, 1) := by decide +kernel
theorem d_LW_law_284 : decode code 284 = .ok (.invokevirtual 74, 3) := by decide +kernel
theorem d_LW_law_287 : decode code 287 = .ok (.istore 6, 2) := by decide +kernel
theorem d_LW_law_289 : decode code 289 = .ok (.aload_n 2, 1) := by decide +kernel
theorem d_LW_law_290 : decode code 290 = .ok (.invokevirtual 66, 3) := by decide +kernel
theorem d_LW_law_293 : decode code 293 = .ok (.iload 5, 2) := by decide +kernel
theorem d_LW_law_295 : decode code 295 = .ok (.if_icmp .eq 5, 3) := by decide +kernel
theorem d_LW_law_298 : decode code 298 = .ok (.iconst 0, 1) := by decide +kernel
theorem d_LW_law_299 : decode code 299 = .ok (.ireturn, 1) := by decide +kernel
theorem d_LW_law_300 : decode code 300 = .ok (.iload 5, 2) := by decide +kernel
theorem d_LW_law_302 : decode code 302 = .ok (.ifCond .ne 15, 3) := by decide +kernel
theorem d_LW_law_305 : decode code 305 = .ok (.aload_n 3, 1) := by decide +kernel
theorem d_LW_law_306 : decode code 306 = .ok (.iconst 0, 1) := by decide +kernel
theorem d_LW_law_307 : decode code 307 = .ok (.laload, 1) := by decide +kernel
theorem d_LW_law_308 : decode code 308 = .ok (.iload 6, 2) := by decide +kernel
theorem d_LW_law_310 : decode code 310 = .ok (.i2l, 1) := by decide +kernel
theorem d_LW_law_311 : decode code 311 = .ok (.lcmp, 1) := by decide +kernel
theorem d_LW_law_312 : decode code 312 = .ok (.ifCond .eq 5, 3) := by decide +kernel
theorem d_LW_law_315 : decode code 315 = .ok (.iconst 0, 1) := by decide +kernel
theorem d_LW_law_316 : decode code 316 = .ok (.ireturn, 1) := by decide +kernel
theorem d_LW_law_317 : decode code 317 = .ok (.goto 334, 3) := by decide +kernel
theorem d_LW_law_320 : decode code 320 = .ok (.aload_n 1, 1) := by decide +kernel
theorem d_LW_law_321 : decode code 321 = .ok (.aload_n 3, 1) := by decide +kernel
theorem d_LW_law_322 : decode code 322 = .ok (.invokestatic 75, 3) := by decide +kernel
theorem d_LW_law_325 : decode code 325 = .ok (.istore 5, 2) := by decide +kernel
theorem d_LW_law_327 : decode code 327 = .ok (.aload_n 2, 1) := by decide +kernel
theorem d_LW_law_328 : decode code 328 = .ok (.invokevirtual 77, 3) := by decide +kernel
theorem d_LW_law_331 : decode code 331 = .ok (.istore 6, 2) := by decide +kernel
theorem d_LW_law_333 : decode code 333 = .ok (.aload_n 2, 1) := by decide +kernel
theorem d_LW_law_334 : decode code 334 = .ok (.invokevirtual 66, 3) := by decide +kernel
theorem d_LW_law_337 : decode code 337 = .ok (.iload 5, 2) := by decide +kernel
theorem d_LW_law_339 : decode code 339 = .ok (.if_icmp .eq 5, 3) := by decide +kernel
theorem d_LW_law_342 : decode code 342 = .ok (.iconst 0, 1) := by decide +kernel
theorem d_LW_law_343 : decode code 343 = .ok (.ireturn, 1) := by decide +kernel
theorem d_LW_law_344 : decode code 344 = .ok (.iload 5, 2) := by decide +kernel
theorem d_LW_law_346 : decode code 346 = .ok (.ifCond .ne 15, 3) := by decide +kernel
theorem d_LW_law_349 : decode code 349 = .ok (.aload_n 3, 1) := by decide +kernel
theorem d_LW_law_350 : decode code 350 = .ok (.iconst 0, 1) := by decide +kernel
theorem d_LW_law_351 : decode code 351 = .ok (.laload, 1) := by decide +kernel
theorem d_LW_law_352 : decode code 352 = .ok (.iload 6, 2) := by decide +kernel
theorem d_LW_law_354 : decode code 354 = .ok (.i2l, 1) := by decide +kernel
theorem d_LW_law_355 : decode code 355 = .ok (.lcmp, 1) := by decide +kernel
theorem d_LW_law_356 : decode code 356 = .ok (.ifCond .eq 5, 3) := by decide +kernel
theorem d_LW_law_359 : decode code 359 = .ok (.iconst 0, 1) := by decide +kernel
theorem d_LW_law_360 : decode code 360 = .ok (.ireturn, 1) := by decide +kernel
theorem d_LW_law_361 : decode code 361 = .ok (.goto 290, 3) := by decide +kernel
theorem d_LW_law_364 : decode code 364 = .ok (.aload_n 1, 1) := by decide +kernel
theorem d_LW_law_365 : decode code 365 = .ok (.invokevirtual 78, 3) := by decide +kernel
theorem d_LW_law_368 : decode code 368 = .ok (.aload_n 2, 1) := by decide +kernel
theorem d_LW_law_369 : decode code 369 = .ok (.invokevirtual 81, 3) := by decide +kernel
theorem d_LW_law_372 : decode code 372 = .ok (.if_icmp .eq 279, 3) := by decide +kernel
theorem d_LW_law_375 : decode code 375 = .ok (.iconst 0, 1) := by decide +kernel
theorem d_LW_law_376 : decode code 376 = .ok (.ireturn, 1) := by decide +kernel
theorem d_LW_law_377 : decode code 377 = .ok (.aload_n 1, 1) := by decide +kernel
theorem d_LW_law_378 : decode code 378 = .ok (.invokevirtual 82, 3) := by decide +kernel
theorem d_LW_law_381 : decode code 381 = .ok (.aload_n 2, 1) := by decide +kernel
theorem d_LW_law_382 : decode code 382 = .ok (.invokevirtual 85, 3) := by decide +kernel
theorem d_LW_law_385 : decode code 385 = .ok (.if_icmp .eq 266, 3) := by decide +kernel
theorem d_LW_law_388 : decode code 388 = .ok (.iconst 0, 1) := by decide +kernel
theorem d_LW_law_389 : decode code 389 = .ok (.ireturn, 1) := by decide +kernel
theorem d_LW_law_390 : decode code 390 = .ok (.aload_n 1, 1) := by decide +kernel
theorem d_LW_law_391 : decode code 391 = .ok (.aload_n 0, 1) := by decide +kernel
theorem d_LW_law_392 : decode code 392 = .ok (.iload 4, 2) := by decide +kernel
theorem d_LW_law_394 : decode code 394 = .ok (.iconst 1, 1) := by decide +kernel
theorem d_LW_law_395 : decode code 395 = .ok (.iadd, 1) := by decide +kernel
theorem d_LW_law_396 : decode code 396 = .ok (.iaload, 1) := by decide +kernel
theorem d_LW_law_397 : decode code 397 = .ok (.aload_n 3, 1) := by decide +kernel
theorem d_LW_law_398 : decode code 398 = .ok (.invokestatic 86, 3) := by decide +kernel
theorem d_LW_law_401 : decode code 401 = .ok (.istore 5, 2) := by decide +kernel
theorem d_LW_law_403 : decode code 403 = .ok (.aload_n 2, 1) := by decide +kernel
theorem d_LW_law_404 : decode code 404 = .ok (.aload_n 0, 1) := by decide +kernel
theorem d_LW_law_405 : decode code 405 = .ok (.iload 4, 2) := by decide +kernel
theorem d_LW_law_407 : decode code 407 = .ok (.iconst 1, 1) := by decide +kernel
theorem d_LW_law_408 : decode code 408 = .ok (.iadd, 1) := by decide +kernel
theorem d_LW_law_409 : decode code 409 = .ok (.iaload, 1) := by decide +kernel
theorem d_LW_law_410 : decode code 410 = .ok (.invokevirtual 89, 3) := by decide +kernel
theorem d_LW_law_413 : decode code 413 = .ok (.istore 6, 2) := by decide +kernel
theorem d_LW_law_415 : decode code 415 = .ok (.aload_n 2, 1) := by decide +kernel
theorem d_LW_law_416 : decode code 416 = .ok (.invokevirtual 66, 3) := by decide +kernel
theorem d_LW_law_419 : decode code 419 = .ok (.iload 5, 2) := by decide +kernel
theorem d_LW_law_421 : decode code 421 = .ok (.if_icmp .eq 5, 3) := by decide +kernel
theorem d_LW_law_424 : decode code 424 = .ok (.iconst 0, 1) := by decide +kernel
theorem d_LW_law_425 : decode code 425 = .ok (.ireturn, 1) := by decide +kernel
theorem d_LW_law_426 : decode code 426 = .ok (.iload 5, 2) := by decide +kernel
theorem d_LW_law_428 : decode code 428 = .ok (.ifCond .ne 15, 3) := by decide +kernel
theorem d_LW_law_431 : decode code 431 = .ok (.aload_n 3, 1) := by decide +kernel
theorem d_LW_law_432 : decode code 432 = .ok (.iconst 0, 1) := by decide +kernel
theorem d_LW_law_433 : decode code 433 = .ok (.laload, 1) := by decide +kernel
theorem d_LW_law_434 : decode code 434 = .ok (.iload 6, 2) := by decide +kernel
theorem d_LW_law_436 : decode code 436 = .ok (.i2l, 1) := by decide +kernel
theorem d_LW_law_437 : decode code 437 = .ok (.lcmp, 1) := by decide +kernel
theorem d_LW_law_438 : decode code 438 = .ok (.ifCond .eq 5, 3) := by decide +kernel
theorem d_LW_law_441 : decode code 441 = .ok (.iconst 0, 1) := by decide +kernel
theorem d_LW_law_442 : decode code 442 = .ok (.ireturn, 1) := by decide +kernel
theorem d_LW_law_443 : decode code 443 = .ok (.goto 208, 3) := by decide +kernel
theorem d_LW_law_446 : decode code 446 = .ok (.aload_n 1, 1) := by decide +kernel
theorem d_LW_law_447 : decode code 447 = .ok (.invokevirtual 90, 3) := by decide +kernel
theorem d_LW_law_450 : decode code 450 = .ok (.aload_n 2, 1) := by decide +kernel
theorem d_LW_law_451 : decode code 451 = .ok (.invokevirtual 93, 3) := by decide +kernel
theorem d_LW_law_454 : decode code 454 = .ok (.if_icmp .eq 197, 3) := by decide +kernel
theorem d_LW_law_457 : decode code 457 = .ok (.iconst 0, 1) := by decide +kernel
theorem d_LW_law_458 : decode code 458 = .ok (.ireturn, 1) := by decide +kernel
theorem d_LW_law_459 : decode code 459 = .ok (.aload_n 1, 1) := by decide +kernel
theorem d_LW_law_460 : decode code 460 = .ok (.aload_n 0, 1) := by decide +kernel
theorem d_LW_law_461 : decode code 461 = .ok (.iload 4, 2) := by decide +kernel
theorem d_LW_law_463 : decode code 463 = .ok (.iconst 1, 1) := by decide +kernel
theorem d_LW_law_464 : decode code 464 = .ok (.iadd, 1) := by decide +kernel
theorem d_LW_law_465 : decode code 465 = .ok (.iaload, 1) := by decide +kernel
theorem d_LW_law_466 : decode code 466 = .ok (.aload_n 3, 1) := by decide +kernel
theorem d_LW_law_467 : decode code 467 = .ok (.invokestatic 94, 3) := by decide +kernel
theorem d_LW_law_470 : decode code 470 = .ok (.istore 5, 2) := by decide +kernel
theorem d_LW_law_472 : decode code 472 = .ok (.aload_n 2, 1) := by decide +kernel
theorem d_LW_law_473 : decode code 473 = .ok (.aload_n 0, 1) := by decide +kernel
theorem d_LW_law_474 : decode code 474 = .ok (.iload 4, 2) := by decide +kernel
theorem d_LW_law_476 : decode code 476 = .ok (.iconst 1, 1) := by decide +kernel
theorem d_LW_law_477 : decode code 477 = .ok (.iadd, 1) := by decide +kernel
theorem d_LW_law_478 : decode code 478 = .ok (.iaload, 1) := by decide +kernel
theorem d_LW_law_479 : decode code 479 = .ok (.invokevirtual 96, 3) := by decide +kernel
theorem d_LW_law_482 : decode code 482 = .ok (.istore 6, 2) := by decide +kernel
theorem d_LW_law_484 : decode code 484 = .ok (.aload_n 2, 1) := by decide +kernel
theorem d_LW_law_485 : decode code 485 = .ok (.invokevirtual 66, 3) := by decide +kernel
theorem d_LW_law_488 : decode code 488 = .ok (.iload 5, 2) := by decide +kernel
theorem d_LW_law_490 : decode code 490 = .ok (.if_icmp .eq 5, 3) := by decide +kernel
theorem d_LW_law_493 : decode code 493 = .ok (.iconst 0, 1) := by decide +kernel
theorem d_LW_law_494 : decode code 494 = .ok (.ireturn, 1) := by decide +kernel
theorem d_LW_law_495 : decode code 495 = .ok (.iload 5, 2) := by decide +kernel
theorem d_LW_law_497 : decode code 497 = .ok (.ifCond .ne 15, 3) := by decide +kernel
theorem d_LW_law_500 : decode code 500 = .ok (.aload_n 3, 1) := by decide +kernel
theorem d_LW_law_501 : decode code 501 = .ok (.iconst 0, 1) := by decide +kernel
theorem d_LW_law_502 : decode code 502 = .ok (.laload, 1) := by decide +kernel
theorem d_LW_law_503 : decode code 503 = .ok (.iload 6, 2) := by decide +kernel
theorem d_LW_law_505 : decode code 505 = .ok (.i2l, 1) := by decide +kernel
theorem d_LW_law_506 : decode code 506 = .ok (.lcmp, 1) := by decide +kernel
theorem d_LW_law_507 : decode code 507 = .ok (.ifCond .eq 5, 3) := by decide +kernel
theorem d_LW_law_510 : decode code 510 = .ok (.iconst 0, 1) := by decide +kernel
theorem d_LW_law_511 : decode code 511 = .ok (.ireturn, 1) := by decide +kernel
theorem d_LW_law_512 : decode code 512 = .ok (.goto 139, 3) := by decide +kernel
theorem d_LW_law_515 : decode code 515 = .ok (.aload_n 1, 1) := by decide +kernel
theorem d_LW_law_516 : decode code 516 = .ok (.invokevirtual 97, 3) := by decide +kernel
theorem d_LW_law_519 : decode code 519 = .ok (.aload_n 2, 1) := by decide +kernel
theorem d_LW_law_520 : decode code 520 = .ok (.invokevirtual 100, 3) := by decide +kernel
theorem d_LW_law_523 : decode code 523 = .ok (.if_icmp .eq 128, 3) := by decide +kernel
theorem d_LW_law_526 : decode code 526 = .ok (.iconst 0, 1) := by decide +kernel
theorem d_LW_law_527 : decode code 527 = .ok (.ireturn, 1) := by decide +kernel
theorem d_LW_law_528 : decode code 528 = .ok (.aload_n 1, 1) := by decide +kernel
theorem d_LW_law_529 : decode code 529 = .ok (.aload_n 0, 1) := by decide +kernel
theorem d_LW_law_530 : decode code 530 = .ok (.iload 4, 2) := by decide +kernel
theorem d_LW_law_532 : decode code 532 = .ok (.iconst 1, 1) := by decide +kernel
theorem d_LW_law_533 : decode code 533 = .ok (.iadd, 1) := by decide +kernel
theorem d_LW_law_534 : decode code 534 = .ok (.iaload, 1) := by decide +kernel
theorem d_LW_law_535 : decode code 535 = .ok (.aload_n 3, 1) := by decide +kernel
theorem d_LW_law_536 : decode code 536 = .ok (.invokestatic 101, 3) := by decide +kernel
theorem d_LW_law_539 : decode code 539 = .ok (.istore 5, 2) := by decide +kernel
theorem d_LW_law_541 : decode code 541 = .ok (.aload_n 2, 1) := by decide +kernel
theorem d_LW_law_542 : decode code 542 = .ok (.aload_n 0, 1) := by decide +kernel
theorem d_LW_law_543 : decode code 543 = .ok (.iload 4, 2) := by decide +kernel
theorem d_LW_law_545 : decode code 545 = .ok (.iconst 1, 1) := by decide +kernel
theorem d_LW_law_546 : decode code 546 = .ok (.iadd, 1) := by decide +kernel
theorem d_LW_law_547 : decode code 547 = .ok (.iaload, 1) := by decide +kernel
theorem d_LW_law_548 : decode code 548 = .ok (.invokevirtual 103, 3) := by decide +kernel
theorem d_LW_law_551 : decode code 551 = .ok (.lstore 6, 2) := by decide +kernel
theorem d_LW_law_553 : decode code 553 = .ok (.aload_n 2, 1) := by decide +kernel
theorem d_LW_law_554 : decode code 554 = .ok (.invokevirtual 66, 3) := by decide +kernel
theorem d_LW_law_557 : decode code 557 = .ok (.iload 5, 2) := by decide +kernel
theorem d_LW_law_559 : decode code 559 = .ok (.if_icmp .eq 5, 3) := by decide +kernel
theorem d_LW_law_562 : decode code 562 = .ok (.iconst 0, 1) := by decide +kernel
theorem d_LW_law_563 : decode code 563 = .ok (.ireturn, 1) := by decide +kernel
theorem d_LW_law_564 : decode code 564 = .ok (.iload 5, 2) := by decide +kernel
theorem d_LW_law_566 : decode code 566 = .ok (.ifCond .ne 14, 3) := by decide +kernel
theorem d_LW_law_569 : decode code 569 = .ok (.aload_n 3, 1) := by decide +kernel
theorem d_LW_law_570 : decode code 570 = .ok (.iconst 0, 1) := by decide +kernel
theorem d_LW_law_571 : decode code 571 = .ok (.laload, 1) := by decide +kernel
theorem d_LW_law_572 : decode code 572 = .ok (.lload 6, 2) := by decide +kernel
theorem d_LW_law_574 : decode code 574 = .ok (.lcmp, 1) := by decide +kernel
theorem d_LW_law_575 : decode code 575 = .ok (.ifCond .eq 5, 3) := by decide +kernel
theorem d_LW_law_578 : decode code 578 = .ok (.iconst 0, 1) := by decide +kernel
theorem d_LW_law_579 : decode code 579 = .ok (.ireturn, 1) := by decide +kernel
theorem d_LW_law_580 : decode code 580 = .ok (.goto 71, 3) := by decide +kernel
theorem d_LW_law_583 : decode code 583 = .ok (.aload_n 1, 1) := by decide +kernel
theorem d_LW_law_584 : decode code 584 = .ok (.aload_n 0, 1) := by decide +kernel
theorem d_LW_law_585 : decode code 585 = .ok (.iload 4, 2) := by decide +kernel
theorem d_LW_law_587 : decode code 587 = .ok (.iconst 1, 1) := by decide +kernel
theorem d_LW_law_588 : decode code 588 = .ok (.iadd, 1) := by decide +kernel
theorem d_LW_law_589 : decode code 589 = .ok (.iaload, 1) := by decide +kernel
theorem d_LW_law_590 : decode code 590 = .ok (.aload_n 0, 1) := by decide +kernel
theorem d_LW_law_591 : decode code 591 = .ok (.iload 4, 2) := by decide +kernel
theorem d_LW_law_593 : decode code 593 = .ok (.iconst 2, 1) := by decide +kernel
theorem d_LW_law_594 : decode code 594 = .ok (.iadd, 1) := by decide +kernel
theorem d_LW_law_595 : decode code 595 = .ok (.iaload, 1) := by decide +kernel
theorem d_LW_law_596 : decode code 596 = .ok (.aload_n 3, 1) := by decide +kernel
theorem d_LW_law_597 : decode code 597 = .ok (.invokestatic 104, 3) := by decide +kernel
theorem d_LW_law_600 : decode code 600 = .ok (.istore 5, 2) := by decide +kernel
theorem d_LW_law_602 : decode code 602 = .ok (.aload_n 2, 1) := by decide +kernel
theorem d_LW_law_603 : decode code 603 = .ok (.aload_n 0, 1) := by decide +kernel
theorem d_LW_law_604 : decode code 604 = .ok (.iload 4, 2) := by decide +kernel
theorem d_LW_law_606 : decode code 606 = .ok (.iconst 1, 1) := by decide +kernel
theorem d_LW_law_607 : decode code 607 = .ok (.iadd, 1) := by decide +kernel
theorem d_LW_law_608 : decode code 608 = .ok (.iaload, 1) := by decide +kernel
theorem d_LW_law_609 : decode code 609 = .ok (.aload_n 0, 1) := by decide +kernel
theorem d_LW_law_610 : decode code 610 = .ok (.iload 4, 2) := by decide +kernel
theorem d_LW_law_612 : decode code 612 = .ok (.iconst 2, 1) := by decide +kernel
theorem d_LW_law_613 : decode code 613 = .ok (.iadd, 1) := by decide +kernel
theorem d_LW_law_614 : decode code 614 = .ok (.iaload, 1) := by decide +kernel
theorem d_LW_law_615 : decode code 615 = .ok (.invokevirtual 107, 3) := by decide +kernel
theorem d_LW_law_618 : decode code 618 = .ok (.istore 6, 2) := by decide +kernel
theorem d_LW_law_620 : decode code 620 = .ok (.aload_n 2, 1) := by decide +kernel
theorem d_LW_law_621 : decode code 621 = .ok (.invokevirtual 66, 3) := by decide +kernel
theorem d_LW_law_624 : decode code 624 = .ok (.iload 5, 2) := by decide +kernel
theorem d_LW_law_626 : decode code 626 = .ok (.if_icmp .eq 5, 3) := by decide +kernel
theorem d_LW_law_629 : decode code 629 = .ok (.iconst 0, 1) := by decide +kernel
theorem d_LW_law_630 : decode code 630 = .ok (.ireturn, 1) := by decide +kernel
theorem d_LW_law_631 : decode code 631 = .ok (.iload 5, 2) := by decide +kernel
theorem d_LW_law_633 : decode code 633 = .ok (.ifCond .ne 15, 3) := by decide +kernel
theorem d_LW_law_636 : decode code 636 = .ok (.aload_n 3, 1) := by decide +kernel
theorem d_LW_law_637 : decode code 637 = .ok (.iconst 0, 1) := by decide +kernel
theorem d_LW_law_638 : decode code 638 = .ok (.laload, 1) := by decide +kernel
theorem d_LW_law_639 : decode code 639 = .ok (.iload 6, 2) := by decide +kernel
theorem d_LW_law_641 : decode code 641 = .ok (.i2l, 1) := by decide +kernel
theorem d_LW_law_642 : decode code 642 = .ok (.lcmp, 1) := by decide +kernel
theorem d_LW_law_643 : decode code 643 = .ok (.ifCond .eq 5, 3) := by decide +kernel
theorem d_LW_law_646 : decode code 646 = .ok (.iconst 0, 1) := by decide +kernel
theorem d_LW_law_647 : decode code 647 = .ok (.ireturn, 1) := by decide +kernel
theorem d_LW_law_648 : decode code 648 = .ok (.goto 3, 3) := by decide +kernel
theorem d_LW_law_651 : decode code 651 = .ok (.iinc 4 4, 3) := by decide +kernel
theorem d_LW_law_654 : decode code 654 = .ok (.goto (-631), 3) := by decide +kernel
theorem d_LW_law_657 : decode code 657 = .ok (.iconst 1, 1) := by decide +kernel
theorem d_LW_law_658 : decode code 658 = .ok (.ireturn, 1) := by decide +kernel
