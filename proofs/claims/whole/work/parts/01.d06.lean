theorem d_RW_retraceFrame_99 : decode prog_9_method_3_code 99 = .ok (.aload_n 0, 1) := by decide +kernel
theorem d_RW_retraceFrame_100 : decode prog_9_method_3_code 100 = .ok (.aload 5, 2) := by decide +kernel
theorem d_RW_retraceFrame_102 : decode prog_9_method_3_code 102 = .ok (.getfield 106, 3) := by decide +kernel
theorem d_RW_retraceFrame_105 : decode prog_9_method_3_code 105 = .ok (.aload 5, 2) := by decide +kernel
theorem d_RW_retraceFrame_107 : decode prog_9_method_3_code 107 = .ok (.getfield 109, 3) := by decide +kernel
theorem d_RW_retraceFrame_110 : decode prog_9_method_3_code 110 = .ok (.aload_n 1, 1) := by decide +kernel
theorem d_RW_retraceFrame_111 : decode prog_9_method_3_code 111 = .ok (.invokevirtual 98, 3) := by decide +kernel
theorem d_RW_retraceFrame_114 : decode prog_9_method_3_code 114 = .ok (.aload_n 0, 1) := by decide +kernel
theorem d_RW_retraceFrame_115 : decode prog_9_method_3_code 115 = .ok (.getfield 15, 3) := by decide +kernel
theorem d_RW_retraceFrame_118 : decode prog_9_method_3_code 118 = .ok (.aload_n 2, 1) := by decide +kernel
theorem d_RW_retraceFrame_119 : decode prog_9_method_3_code 119 = .ok (.aload_n 1, 1) := by decide +kernel
theorem d_RW_retraceFrame_120 : decode prog_9_method_3_code 120 = .ok (.getfield 80, 3) := by decide +kernel
theorem d_RW_retraceFrame_123 : decode prog_9_method_3_code 123 = .ok (.aload 5, 2) := by decide +kernel
theorem d_RW_retraceFrame_125 : decode prog_9_method_3_code 125 = .ok (.invokevirtual 110, 3) := by decide +kernel
theorem d_RW_retraceFrame_128 : decode prog_9_method_3_code 128 = .ok (.ifCond .eq 13, 3) := by decide +kernel
theorem d_RW_retraceFrame_131 : decode prog_9_method_3_code 131 = .ok (.aload_n 0, 1) := by decide +kernel
theorem d_RW_retraceFrame_132 : decode prog_9_method_3_code 132 = .ok (.dup, 1) := by decide +kernel
theorem d_RW_retraceFrame_133 : decode prog_9_method_3_code 133 = .ok (.getfield 114, 3) := by decide +kernel
theorem d_RW_retraceFrame_136 : decode prog_9_method_3_code 136 = .ok (.iconst 1, 1) := by decide +kernel
theorem d_RW_retraceFrame_137 : decode prog_9_method_3_code 137 = .ok (.iadd, 1) := by decide +kernel
theorem d_RW_retraceFrame_138 : decode prog_9_method_3_code 138 = .ok (.putfield 114, 3) := by decide +kernel
theorem d_RW_retraceFrame_141 : decode prog_9_method_3_code 141 = .ok (.return_, 1) := by decide +kernel
theorem d_RW_writeInlined_0 : decode prog_9_method_4_code 0 = .ok (.iload_n 1, 1) := by decide +kernel
theorem d_RW_writeInlined_1 : decode prog_9_method_4_code 1 = .ok (.aload_n 0, 1) := by decide +kernel
theorem d_RW_writeInlined_2 : decode prog_9_method_4_code 2 = .ok (.getfield 15, 3) := by decide +kernel
theorem d_RW_writeInlined_5 : decode prog_9_method_4_code 5 = .ok (.getfield 117, 3) := by decide +kernel
theorem d_RW_writeInlined_8 : decode prog_9_method_4_code 8 = .ok (.iload_n 1, 1) := by decide +kernel
theorem d_RW_writeInlined_9 : decode prog_9_method_4_code 9 = .ok (.aaload, 1) := by decide +kernel
theorem d_RW_writeInlined_10 : decode prog_9_method_4_code 10 = .ok (.getfield 121, 3) := by decide +kernel
theorem d_RW_writeInlined_13 : decode prog_9_method_4_code 13 = .ok (.iadd, 1) := by decide +kernel
theorem d_RW_writeInlined_14 : decode prog_9_method_4_code 14 = .ok (.istore_n 3, 1) := by decide +kernel
theorem d_RW_writeInlined_15 : decode prog_9_method_4_code 15 = .ok (.iload_n 1, 1) := by decide +kernel
theorem d_RW_writeInlined_16 : decode prog_9_method_4_code 16 = .ok (.istore 4, 2) := by decide +kernel
theorem d_RW_writeInlined_18 : decode prog_9_method_4_code 18 = .ok (.iload 4, 2) := by decide +kernel
theorem d_RW_writeInlined_20 : decode prog_9_method_4_code 20 = .ok (.iload_n 3, 1) := by decide +kernel
theorem d_RW_writeInlined_21 : decode prog_9_method_4_code 21 = .ok (.if_icmp .ge 80, 3) := by decide +kernel
theorem d_RW_writeInlined_24 : decode prog_9_method_4_code 24 = .ok (.aload_n 0, 1) := by decide +kernel
theorem d_RW_writeInlined_25 : decode prog_9_method_4_code 25 = .ok (.getfield 15, 3) := by decide +kernel
theorem d_RW_writeInlined_28 : decode prog_9_method_4_code 28 = .ok (.getfield 117, 3) := by decide +kernel
theorem d_RW_writeInlined_31 : decode prog_9_method_4_code 31 = .ok (.iload 4, 2) := by decide +kernel
theorem d_RW_writeInlined_33 : decode prog_9_method_4_code 33 = .ok (.aaload, 1) := by decide +kernel
theorem d_RW_writeInlined_34 : decode prog_9_method_4_code 34 = .ok (.astore 5, 2) := by decide +kernel
theorem d_RW_writeInlined_36 : decode prog_9_method_4_code 36 = .ok (.aload 5, 2) := by decide +kernel
theorem d_RW_writeInlined_38 : decode prog_9_method_4_code 38 = .ok (.invokevirtual 124, 3) := by decide +kernel
theorem d_RW_writeInlined_41 : decode prog_9_method_4_code 41 = .ok (.ifCond .eq 7, 3) := by decide +kernel
theorem d_RW_writeInlined_44 : decode prog_9_method_4_code 44 = .ok (.iconst 0, 1) := by decide +kernel
theorem d_RW_writeInlined_45 : decode prog_9_method_4_code 45 = .ok (.goto 10, 3) := by decide +kernel
theorem d_RW_writeInlined_48 : decode prog_9_method_4_code 48 = .ok (.iload_n 2, 1) := by decide +kernel
theorem d_RW_writeInlined_49 : decode prog_9_method_4_code 49 = .ok (.aload 5, 2) := by decide +kernel
theorem d_RW_writeInlined_51 : decode prog_9_method_4_code 51 = .ok (.getfield 128, 3) := by decide +kernel
theorem d_RW_writeInlined_54 : decode prog_9_method_4_code 54 = .ok (.isub, 1) := by decide +kernel
theorem d_RW_writeInlined_55 : decode prog_9_method_4_code 55 = .ok (.istore 6, 2) := by decide +kernel
theorem d_RW_writeInlined_57 : decode prog_9_method_4_code 57 = .ok (.aload_n 0, 1) := by decide +kernel
theorem d_RW_writeInlined_58 : decode prog_9_method_4_code 58 = .ok (.aload 5, 2) := by decide +kernel
theorem d_RW_writeInlined_60 : decode prog_9_method_4_code 60 = .ok (.getfield 106, 3) := by decide +kernel
theorem d_RW_writeInlined_63 : decode prog_9_method_4_code 63 = .ok (.aload 5, 2) := by decide +kernel
theorem d_RW_writeInlined_65 : decode prog_9_method_4_code 65 = .ok (.getfield 109, 3) := by decide +kernel
theorem d_RW_writeInlined_68 : decode prog_9_method_4_code 68 = .ok (.invokevirtual 131, 3) := by decide +kernel
theorem d_RW_writeInlined_71 : decode prog_9_method_4_code 71 = .ok (.aload_n 0, 1) := by decide +kernel
theorem d_RW_writeInlined_72 : decode prog_9_method_4_code 72 = .ok (.getfield 19, 3) := by decide +kernel
theorem d_RW_writeInlined_75 : decode prog_9_method_4_code 75 = .ok (.aload 5, 2) := by decide +kernel
theorem d_RW_writeInlined_77 : decode prog_9_method_4_code 77 = .ok (.getfield 106, 3) := by decide +kernel
theorem d_RW_writeInlined_80 : decode prog_9_method_4_code 80 = .ok (.invokevirtual 135, 3) := by decide +kernel
theorem d_RW_writeInlined_83 : decode prog_9_method_4_code 83 = .ok (.aload_n 0, 1) := by decide +kernel
theorem d_RW_writeInlined_84 : decode prog_9_method_4_code 84 = .ok (.aload 5, 2) := by decide +kernel
theorem d_RW_writeInlined_86 : decode prog_9_method_4_code 86 = .ok (.getfield 141, 3) := by decide +kernel
theorem d_RW_writeInlined_89 : decode prog_9_method_4_code 89 = .ok (.iload 6, 2) := by decide +kernel
theorem d_RW_writeInlined_91 : decode prog_9_method_4_code 91 = .ok (.iadd, 1) := by decide +kernel
theorem d_RW_writeInlined_92 : decode prog_9_method_4_code 92 = .ok (.invokevirtual 144, 3) := by decide +kernel
theorem d_RW_writeInlined_95 : decode prog_9_method_4_code 95 = .ok (.iinc 4 1, 3) := by decide +kernel
theorem d_RW_writeInlined_98 : decode prog_9_method_4_code 98 = .ok (.goto (-80), 3) := by decide +kernel
theorem d_RW_writeInlined_101 : decode prog_9_method_4_code 101 = .ok (.return_, 1) := by decide +kernel
theorem d_RW_shortenTrace_0 : decode prog_9_method_5_code 0 = .ok (.iconst 0, 1) := by decide +kernel
theorem d_RW_shortenTrace_1 : decode prog_9_method_5_code 1 = .ok (.istore_n 1, 1) := by decide +kernel
theorem d_RW_shortenTrace_2 : decode prog_9_method_5_code 2 = .ok (.iload_n 1, 1) := by decide +kernel
theorem d_RW_shortenTrace_3 : decode prog_9_method_5_code 3 = .ok (.aload_n 0, 1) := by decide +kernel
theorem d_RW_shortenTrace_4 : decode prog_9_method_5_code 4 = .ok (.getfield 9, 3) := by decide +kernel
theorem d_RW_shortenTrace_7 : decode prog_9_method_5_code 7 = .ok (.getfield 23, 3) := by decide +kernel
theorem d_RW_shortenTrace_10 : decode prog_9_method_5_code 10 = .ok (.if_icmp .ge 105, 3) := by decide +kernel
theorem d_RW_shortenTrace_13 : decode prog_9_method_5_code 13 = .ok (.aload_n 0, 1) := by decide +kernel
theorem d_RW_shortenTrace_14 : decode prog_9_method_5_code 14 = .ok (.getfield 9, 3) := by decide +kernel
theorem d_RW_shortenTrace_17 : decode prog_9_method_5_code 17 = .ok (.getfield 29, 3) := by decide +kernel
theorem d_RW_shortenTrace_20 : decode prog_9_method_5_code 20 = .ok (.iload_n 1, 1) := by decide +kernel
theorem d_RW_shortenTrace_21 : decode prog_9_method_5_code 21 = .ok (.aaload, 1) := by decide +kernel
theorem d_RW_shortenTrace_22 : decode prog_9_method_5_code 22 = .ok (.astore_n 2, 1) := by decide +kernel
theorem d_RW_shortenTrace_23 : decode prog_9_method_5_code 23 = .ok (.aload_n 0, 1) := by decide +kernel
theorem d_RW_shortenTrace_24 : decode prog_9_method_5_code 24 = .ok (.getfield 15, 3) := by decide +kernel
theorem d_RW_shortenTrace_27 : decode prog_9_method_5_code 27 = .ok (.aload_n 2, 1) := by decide +kernel
theorem d_RW_shortenTrace_28 : decode prog_9_method_5_code 28 = .ok (.getfield 33, 3) := by decide +kernel
theorem d_RW_shortenTrace_31 : decode prog_9_method_5_code 31 = .ok (.invokevirtual 148, 3) := by decide +kernel
theorem d_RW_shortenTrace_34 : decode prog_9_method_5_code 34 = .ok (.astore_n 3, 1) := by decide +kernel
theorem d_RW_shortenTrace_35 : decode prog_9_method_5_code 35 = .ok (.aload_n 0, 1) := by decide +kernel
theorem d_RW_shortenTrace_36 : decode prog_9_method_5_code 36 = .ok (.iload_n 1, 1) := by decide +kernel
theorem d_RW_shortenTrace_37 : decode prog_9_method_5_code 37 = .ok (.aload_n 3, 1) := by decide +kernel
theorem d_RW_shortenTrace_38 : decode prog_9_method_5_code 38 = .ok (.ifnonnull 10, 3) := by decide +kernel
theorem d_RW_shortenTrace_41 : decode prog_9_method_5_code 41 = .ok (.aload_n 2, 1) := by decide +kernel
theorem d_RW_shortenTrace_42 : decode prog_9_method_5_code 42 = .ok (.getfield 33, 3) := by decide +kernel
theorem d_RW_shortenTrace_45 : decode prog_9_method_5_code 45 = .ok (.goto 7, 3) := by decide +kernel
theorem d_RW_shortenTrace_48 : decode prog_9_method_5_code 48 = .ok (.aload_n 3, 1) := by decide +kernel
theorem d_RW_shortenTrace_49 : decode prog_9_method_5_code 49 = .ok (.getfield 151, 3) := by decide +kernel
theorem d_RW_shortenTrace_52 : decode prog_9_method_5_code 52 = .ok (.invokevirtual 50, 3) := by decide +kernel
theorem d_RW_shortenTrace_55 : decode prog_9_method_5_code 55 = .ok (.aload_n 2, 1) := by decide +kernel
theorem d_RW_shortenTrace_56 : decode prog_9_method_5_code 56 = .ok (.getfield 54, 3) := by decide +kernel
theorem d_RW_shortenTrace_59 : decode prog_9_method_5_code 59 = .ok (.istore 4, 2) := by decide +kernel
theorem d_RW_shortenTrace_61 : decode prog_9_method_5_code 61 = .ok (.aload_n 2, 1) := by decide +kernel
theorem d_RW_shortenTrace_62 : decode prog_9_method_5_code 62 = .ok (.getfield 54, 3) := by decide +kernel
theorem d_RW_shortenTrace_65 : decode prog_9_method_5_code 65 = .ok (.istore 5, 2) := by decide +kernel
theorem d_RW_shortenTrace_67 : decode prog_9_method_5_code 67 = .ok (.iload 5, 2) := by decide +kernel
theorem d_RW_shortenTrace_69 : decode prog_9_method_5_code 69 = .ok (.aload_n 2, 1) := by decide +kernel
theorem d_RW_shortenTrace_70 : decode prog_9_method_5_code 70 = .ok (.getfield 57, 3) := by decide +kernel
theorem d_RW_shortenTrace_73 : decode prog_9_method_5_code 73 = .ok (.if_icmp .ge 31, 3) := by decide +kernel
theorem d_RW_shortenTrace_76 : decode prog_9_method_5_code 76 = .ok (.iload 5, 2) := by decide +kernel
theorem d_RW_shortenTrace_78 : decode prog_9_method_5_code 78 = .ok (.iload 4, 2) := by decide +kernel
theorem d_RW_shortenTrace_80 : decode prog_9_method_5_code 80 = .ok (.if_icmp .ne 18, 3) := by decide +kernel
theorem d_RW_shortenTrace_83 : decode prog_9_method_5_code 83 = .ok (.iload 5, 2) := by decide +kernel
theorem d_RW_shortenTrace_85 : decode prog_9_method_5_code 85 = .ok (.aload_n 0, 1) := by decide +kernel
theorem d_RW_shortenTrace_86 : decode prog_9_method_5_code 86 = .ok (.iload 5, 2) := by decide +kernel
theorem d_RW_shortenTrace_88 : decode prog_9_method_5_code 88 = .ok (.aload_n 2, 1) := by decide +kernel
theorem d_RW_shortenTrace_89 : decode prog_9_method_5_code 89 = .ok (.getfield 57, 3) := by decide +kernel
theorem d_RW_shortenTrace_92 : decode prog_9_method_5_code 92 = .ok (.invokevirtual 154, 3) := by decide +kernel
theorem d_RW_shortenTrace_95 : decode prog_9_method_5_code 95 = .ok (.iadd, 1) := by decide +kernel
theorem d_RW_shortenTrace_96 : decode prog_9_method_5_code 96 = .ok (.istore 4, 2) := by decide +kernel
theorem d_RW_shortenTrace_98 : decode prog_9_method_5_code 98 = .ok (.iinc 5 1, 3) := by decide +kernel
theorem d_RW_shortenTrace_101 : decode prog_9_method_5_code 101 = .ok (.goto (-34), 3) := by decide +kernel
theorem d_RW_shortenTrace_104 : decode prog_9_method_5_code 104 = .ok (.aload_n 0, 1) := by decide +kernel
theorem d_RW_shortenTrace_105 : decode prog_9_method_5_code 105 = .ok (.aload_n 2, 1) := by decide +kernel
theorem d_RW_shortenTrace_106 : decode prog_9_method_5_code 106 = .ok (.invokevirtual 68, 3) := by decide +kernel
theorem d_RW_shortenTrace_109 : decode prog_9_method_5_code 109 = .ok (.iinc 1 1, 3) := by decide +kernel
theorem d_RW_shortenTrace_112 : decode prog_9_method_5_code 112 = .ok (.goto (-110), 3) := by decide +kernel
theorem d_RW_shortenTrace_115 : decode prog_9_method_5_code 115 = .ok (.return_, 1) := by decide +kernel
theorem d_RW_shortenFrom_0 : decode prog_9_method_6_code 0 = .ok (.iconst (-1), 1) := by decide +kernel
theorem d_RW_shortenFrom_1 : decode prog_9_method_6_code 1 = .ok (.istore_n 3, 1) := by decide +kernel
theorem d_RW_shortenFrom_2 : decode prog_9_method_6_code 2 = .ok (.iconst 0, 1) := by decide +kernel
theorem d_RW_shortenFrom_3 : decode prog_9_method_6_code 3 = .ok (.istore 4, 2) := by decide +kernel
theorem d_RW_shortenFrom_5 : decode prog_9_method_6_code 5 = .ok (.iconst 0, 1) := by decide +kernel
theorem d_RW_shortenFrom_6 : decode prog_9_method_6_code 6 = .ok (.istore 5, 2) := by decide +kernel
theorem d_RW_shortenFrom_8 : decode prog_9_method_6_code 8 = .ok (.iconst 0, 1) := by decide +kernel
theorem d_RW_shortenFrom_9 : decode prog_9_method_6_code 9 = .ok (.istore 6, 2) := by decide +kernel
theorem d_RW_shortenFrom_11 : decode prog_9_method_6_code 11 = .ok (.iload 6, 2) := by decide +kernel
theorem d_RW_shortenFrom_13 : decode prog_9_method_6_code 13 = .ok (.aload_n 0, 1) := by decide +kernel
theorem d_RW_shortenFrom_14 : decode prog_9_method_6_code 14 = .ok (.getfield 15, 3) := by decide +kernel
theorem d_RW_shortenFrom_17 : decode prog_9_method_6_code 17 = .ok (.getfield 158, 3) := by decide +kernel
theorem d_RW_shortenFrom_20 : decode prog_9_method_6_code 20 = .ok (.if_icmp .ge 65, 3) := by decide +kernel
theorem d_RW_shortenFrom_23 : decode prog_9_method_6_code 23 = .ok (.aload_n 0, 1) := by decide +kernel
theorem d_RW_shortenFrom_24 : decode prog_9_method_6_code 24 = .ok (.getfield 15, 3) := by decide +kernel
theorem d_RW_shortenFrom_27 : decode prog_9_method_6_code 27 = .ok (.getfield 117, 3) := by decide +kernel
theorem d_RW_shortenFrom_30 : decode prog_9_method_6_code 30 = .ok (.iload 6, 2) := by decide +kernel
theorem d_RW_shortenFrom_32 : decode prog_9_method_6_code 32 = .ok (.aaload, 1) := by decide +kernel
theorem d_RW_shortenFrom_33 : decode prog_9_method_6_code 33 = .ok (.getfield 121, 3) := by decide +kernel
theorem d_RW_shortenFrom_36 : decode prog_9_method_6_code 36 = .ok (.iload 4, 2) := by decide +kernel
theorem d_RW_shortenFrom_38 : decode prog_9_method_6_code 38 = .ok (.if_icmp .le 41, 3) := by decide +kernel
theorem d_RW_shortenFrom_41 : decode prog_9_method_6_code 41 = .ok (.aload_n 0, 1) := by decide +kernel
theorem d_RW_shortenFrom_42 : decode prog_9_method_6_code 42 = .ok (.iload 6, 2) := by decide +kernel
theorem d_RW_shortenFrom_44 : decode prog_9_method_6_code 44 = .ok (.iload_n 1, 1) := by decide +kernel
theorem d_RW_shortenFrom_45 : decode prog_9_method_6_code 45 = .ok (.iload_n 2, 1) := by decide +kernel
theorem d_RW_shortenFrom_46 : decode prog_9_method_6_code 46 = .ok (.invokevirtual 161, 3) := by decide +kernel
theorem d_RW_shortenFrom_49 : decode prog_9_method_6_code 49 = .ok (.istore 7, 2) := by decide +kernel
theorem d_RW_shortenFrom_51 : decode prog_9_method_6_code 51 = .ok (.iload 7, 2) := by decide +kernel
theorem d_RW_shortenFrom_53 : decode prog_9_method_6_code 53 = .ok (.iconst (-1), 1) := by decide +kernel
theorem d_RW_shortenFrom_54 : decode prog_9_method_6_code 54 = .ok (.if_icmp .eq 25, 3) := by decide +kernel
theorem d_RW_shortenFrom_57 : decode prog_9_method_6_code 57 = .ok (.iload 6, 2) := by decide +kernel
theorem d_RW_shortenFrom_59 : decode prog_9_method_6_code 59 = .ok (.istore_n 3, 1) := by decide +kernel
theorem d_RW_shortenFrom_60 : decode prog_9_method_6_code 60 = .ok (.aload_n 0, 1) := by decide +kernel
theorem d_RW_shortenFrom_61 : decode prog_9_method_6_code 61 = .ok (.getfield 15, 3) := by decide +kernel
theorem d_RW_shortenFrom_64 : decode prog_9_method_6_code 64 = .ok (.getfield 117, 3) := by decide +kernel
theorem d_RW_shortenFrom_67 : decode prog_9_method_6_code 67 = .ok (.iload 6, 2) := by decide +kernel
theorem d_RW_shortenFrom_69 : decode prog_9_method_6_code 69 = .ok (.aaload, 1) := by decide +kernel
theorem d_RW_shortenFrom_70 : decode prog_9_method_6_code 70 = .ok (.getfield 121, 3) := by decide +kernel
theorem d_RW_shortenFrom_73 : decode prog_9_method_6_code 73 = .ok (.istore 4, 2) := by decide +kernel
theorem d_RW_shortenFrom_75 : decode prog_9_method_6_code 75 = .ok (.iload 7, 2) := by decide +kernel
theorem d_RW_shortenFrom_77 : decode prog_9_method_6_code 77 = .ok (.istore 5, 2) := by decide +kernel
theorem d_RW_shortenFrom_79 : decode prog_9_method_6_code 79 = .ok (.iinc 6 1, 3) := by decide +kernel
theorem d_RW_shortenFrom_82 : decode prog_9_method_6_code 82 = .ok (.goto (-71), 3) := by decide +kernel
theorem d_RW_shortenFrom_85 : decode prog_9_method_6_code 85 = .ok (.iload_n 3, 1) := by decide +kernel
theorem d_RW_shortenFrom_86 : decode prog_9_method_6_code 86 = .ok (.iconst (-1), 1) := by decide +kernel
theorem d_RW_shortenFrom_87 : decode prog_9_method_6_code 87 = .ok (.if_icmp .ne 18, 3) := by decide +kernel
theorem d_RW_shortenFrom_90 : decode prog_9_method_6_code 90 = .ok (.aload_n 0, 1) := by decide +kernel
theorem d_RW_shortenFrom_91 : decode prog_9_method_6_code 91 = .ok (.aload_n 0, 1) := by decide +kernel
theorem d_RW_shortenFrom_92 : decode prog_9_method_6_code 92 = .ok (.getfield 9, 3) := by decide +kernel
theorem d_RW_shortenFrom_95 : decode prog_9_method_6_code 95 = .ok (.getfield 60, 3) := by decide +kernel
theorem d_RW_shortenFrom_98 : decode prog_9_method_6_code 98 = .ok (.iload_n 1, 1) := by decide +kernel
theorem d_RW_shortenFrom_99 : decode prog_9_method_6_code 99 = .ok (.aaload, 1) := by decide +kernel
theorem d_RW_shortenFrom_100 : decode prog_9_method_6_code 100 = .ok (.invokevirtual 165, 3) := by decide +kernel
theorem d_RW_shortenFrom_103 : decode prog_9_method_6_code 103 = .ok (.iconst 1, 1) := by decide +kernel
theorem d_RW_shortenFrom_104 : decode prog_9_method_6_code 104 = .ok (.ireturn, 1) := by decide +kernel
theorem d_RW_shortenFrom_105 : decode prog_9_method_6_code 105 = .ok (.aload_n 0, 1) := by decide +kernel
theorem d_RW_shortenFrom_106 : decode prog_9_method_6_code 106 = .ok (.getfield 15, 3) := by decide +kernel
theorem d_RW_shortenFrom_109 : decode prog_9_method_6_code 109 = .ok (.getfield 117, 3) := by decide +kernel
theorem d_RW_shortenFrom_112 : decode prog_9_method_6_code 112 = .ok (.iload_n 3, 1) := by decide +kernel
theorem d_RW_shortenFrom_113 : decode prog_9_method_6_code 113 = .ok (.aaload, 1) := by decide +kernel
theorem d_RW_shortenFrom_114 : decode prog_9_method_6_code 114 = .ok (.astore 6, 2) := by decide +kernel
theorem d_RW_shortenFrom_116 : decode prog_9_method_6_code 116 = .ok (.aload_n 0, 1) := by decide +kernel
theorem d_RW_shortenFrom_117 : decode prog_9_method_6_code 117 = .ok (.aload_n 0, 1) := by decide +kernel
theorem d_RW_shortenFrom_118 : decode prog_9_method_6_code 118 = .ok (.getfield 15, 3) := by decide +kernel
theorem d_RW_shortenFrom_121 : decode prog_9_method_6_code 121 = .ok (.aload 6, 2) := by decide +kernel
theorem d_RW_shortenFrom_123 : decode prog_9_method_6_code 123 = .ok (.invokevirtual 168, 3) := by decide +kernel
theorem d_RW_shortenFrom_126 : decode prog_9_method_6_code 126 = .ok (.aload 6, 2) := by decide +kernel
theorem d_RW_shortenFrom_128 : decode prog_9_method_6_code 128 = .ok (.getfield 172, 3) := by decide +kernel
theorem d_RW_shortenFrom_131 : decode prog_9_method_6_code 131 = .ok (.invokevirtual 131, 3) := by decide +kernel
theorem d_RW_shortenFrom_134 : decode prog_9_method_6_code 134 = .ok (.aload_n 0, 1) := by decide +kernel
theorem d_RW_shortenFrom_135 : decode prog_9_method_6_code 135 = .ok (.getfield 19, 3) := by decide +kernel
theorem d_RW_shortenFrom_138 : decode prog_9_method_6_code 138 = .ok (.ldc 173, 2) := by decide +kernel
theorem d_RW_shortenFrom_140 : decode prog_9_method_6_code 140 = .ok (.invokevirtual 175, 3) := by decide +kernel
theorem d_RW_shortenFrom_143 : decode prog_9_method_6_code 143 = .ok (.aload_n 0, 1) := by decide +kernel
theorem d_RW_shortenFrom_144 : decode prog_9_method_6_code 144 = .ok (.aload 6, 2) := by decide +kernel
theorem d_RW_shortenFrom_146 : decode prog_9_method_6_code 146 = .ok (.getfield 128, 3) := by decide +kernel
theorem d_RW_shortenFrom_149 : decode prog_9_method_6_code 149 = .ok (.iload 5, 2) := by decide +kernel
theorem d_RW_shortenFrom_151 : decode prog_9_method_6_code 151 = .ok (.iadd, 1) := by decide +kernel
theorem d_RW_shortenFrom_152 : decode prog_9_method_6_code 152 = .ok (.invokevirtual 144, 3) := by decide +kernel
theorem d_RW_shortenFrom_155 : decode prog_9_method_6_code 155 = .ok (.iload 4, 2) := by decide +kernel
theorem d_RW_shortenFrom_157 : decode prog_9_method_6_code 157 = .ok (.ireturn, 1) := by decide +kernel
theorem d_RW_offsetOfFit_0 : decode prog_9_method_7_code 0 = .ok (.aload_n 0, 1) := by decide +kernel
theorem d_RW_offsetOfFit_1 : decode prog_9_method_7_code 1 = .ok (.getfield 15, 3) := by decide +kernel
theorem d_RW_offsetOfFit_4 : decode prog_9_method_7_code 4 = .ok (.getfield 117, 3) := by decide +kernel
theorem d_RW_offsetOfFit_7 : decode prog_9_method_7_code 7 = .ok (.iload_n 1, 1) := by decide +kernel
theorem d_RW_offsetOfFit_8 : decode prog_9_method_7_code 8 = .ok (.aaload, 1) := by decide +kernel
theorem d_RW_offsetOfFit_9 : decode prog_9_method_7_code 9 = .ok (.astore 4, 2) := by decide +kernel
theorem d_RW_offsetOfFit_11 : decode prog_9_method_7_code 11 = .ok (.aload 4, 2) := by decide +kernel
theorem d_RW_offsetOfFit_13 : decode prog_9_method_7_code 13 = .ok (.invokevirtual 179, 3) := by decide +kernel
theorem d_RW_offsetOfFit_16 : decode prog_9_method_7_code 16 = .ok (.ifCond .eq 14, 3) := by decide +kernel
theorem d_RW_offsetOfFit_19 : decode prog_9_method_7_code 19 = .ok (.aload 4, 2) := by decide +kernel
theorem d_RW_offsetOfFit_21 : decode prog_9_method_7_code 21 = .ok (.getfield 121, 3) := by decide +kernel
theorem d_RW_offsetOfFit_24 : decode prog_9_method_7_code 24 = .ok (.iload_n 3, 1) := by decide +kernel
theorem d_RW_offsetOfFit_25 : decode prog_9_method_7_code 25 = .ok (.iload_n 2, 1) := by decide +kernel
theorem d_RW_offsetOfFit_26 : decode prog_9_method_7_code 26 = .ok (.isub, 1) := by decide +kernel
theorem d_RW_offsetOfFit_27 : decode prog_9_method_7_code 27 = .ok (.if_icmp .le 5, 3) := by decide +kernel
theorem d_RW_offsetOfFit_30 : decode prog_9_method_7_code 30 = .ok (.iconst (-1), 1) := by decide +kernel
theorem d_RW_offsetOfFit_31 : decode prog_9_method_7_code 31 = .ok (.ireturn, 1) := by decide +kernel
theorem d_RW_offsetOfFit_32 : decode prog_9_method_7_code 32 = .ok (.iconst (-1), 1) := by decide +kernel
theorem d_RW_offsetOfFit_33 : decode prog_9_method_7_code 33 = .ok (.istore 5, 2) := by decide +kernel
theorem d_RW_offsetOfFit_35 : decode prog_9_method_7_code 35 = .ok (.iconst 0, 1) := by decide +kernel
theorem d_RW_offsetOfFit_36 : decode prog_9_method_7_code 36 = .ok (.istore 6, 2) := by decide +kernel
theorem d_RW_offsetOfFit_38 : decode prog_9_method_7_code 38 = .ok (.iload 6, 2) := by decide +kernel
theorem d_RW_offsetOfFit_40 : decode prog_9_method_7_code 40 = .ok (.aload 4, 2) := by decide +kernel
theorem d_RW_offsetOfFit_42 : decode prog_9_method_7_code 42 = .ok (.getfield 121, 3) := by decide +kernel
theorem d_RW_offsetOfFit_45 : decode prog_9_method_7_code 45 = .ok (.if_icmp .ge 123, 3) := by decide +kernel
theorem d_RW_offsetOfFit_48 : decode prog_9_method_7_code 48 = .ok (.aload_n 0, 1) := by decide +kernel
theorem d_RW_offsetOfFit_49 : decode prog_9_method_7_code 49 = .ok (.getfield 15, 3) := by decide +kernel
theorem d_RW_offsetOfFit_52 : decode prog_9_method_7_code 52 = .ok (.getfield 117, 3) := by decide +kernel
theorem d_RW_offsetOfFit_55 : decode prog_9_method_7_code 55 = .ok (.iload_n 1, 1) := by decide +kernel
theorem d_RW_offsetOfFit_56 : decode prog_9_method_7_code 56 = .ok (.iload 6, 2) := by decide +kernel
theorem d_RW_offsetOfFit_58 : decode prog_9_method_7_code 58 = .ok (.iadd, 1) := by decide +kernel
theorem d_RW_offsetOfFit_59 : decode prog_9_method_7_code 59 = .ok (.aaload, 1) := by decide +kernel
theorem d_RW_offsetOfFit_60 : decode prog_9_method_7_code 60 = .ok (.astore 7, 2) := by decide +kernel
theorem d_RW_offsetOfFit_62 : decode prog_9_method_7_code 62 = .ok (.aload_n 0, 1) := by decide +kernel
theorem d_RW_offsetOfFit_63 : decode prog_9_method_7_code 63 = .ok (.getfield 9, 3) := by decide +kernel
theorem d_RW_offsetOfFit_66 : decode prog_9_method_7_code 66 = .ok (.getfield 60, 3) := by decide +kernel
theorem d_RW_offsetOfFit_69 : decode prog_9_method_7_code 69 = .ok (.iload_n 2, 1) := by decide +kernel
theorem d_RW_offsetOfFit_70 : decode prog_9_method_7_code 70 = .ok (.iload 6, 2) := by decide +kernel
theorem d_RW_offsetOfFit_72 : decode prog_9_method_7_code 72 = .ok (.iadd, 1) := by decide +kernel
theorem d_RW_offsetOfFit_73 : decode prog_9_method_7_code 73 = .ok (.aaload, 1) := by decide +kernel
theorem d_RW_offsetOfFit_74 : decode prog_9_method_7_code 74 = .ok (.astore 8, 2) := by decide +kernel
theorem d_RW_offsetOfFit_76 : decode prog_9_method_7_code 76 = .ok (.aload 8, 2) := by decide +kernel
theorem d_RW_offsetOfFit_78 : decode prog_9_method_7_code 78 = .ok (.getfield 83, 3) := by decide +kernel
theorem d_RW_offsetOfFit_81 : decode prog_9_method_7_code 81 = .ok (.aload 7, 2) := by decide +kernel
theorem d_RW_offsetOfFit_83 : decode prog_9_method_7_code 83 = .ok (.getfield 141, 3) := by decide +kernel
theorem d_RW_offsetOfFit_86 : decode prog_9_method_7_code 86 = .ok (.if_icmp .lt 34, 3) := by decide +kernel
theorem d_RW_offsetOfFit_89 : decode prog_9_method_7_code 89 = .ok (.aload 8, 2) := by decide +kernel
theorem d_RW_offsetOfFit_91 : decode prog_9_method_7_code 91 = .ok (.getfield 83, 3) := by decide +kernel
theorem d_RW_offsetOfFit_94 : decode prog_9_method_7_code 94 = .ok (.aload 7, 2) := by decide +kernel
theorem d_RW_offsetOfFit_96 : decode prog_9_method_7_code 96 = .ok (.getfield 182, 3) := by decide +kernel
theorem d_RW_offsetOfFit_99 : decode prog_9_method_7_code 99 = .ok (.if_icmp .gt 21, 3) := by decide +kernel
theorem d_RW_offsetOfFit_102 : decode prog_9_method_7_code 102 = .ok (.aload 7, 2) := by decide +kernel
theorem d_RW_offsetOfFit_104 : decode prog_9_method_7_code 104 = .ok (.aload 8, 2) := by decide +kernel
theorem d_RW_offsetOfFit_106 : decode prog_9_method_7_code 106 = .ok (.getfield 72, 3) := by decide +kernel
theorem d_RW_offsetOfFit_109 : decode prog_9_method_7_code 109 = .ok (.aload 8, 2) := by decide +kernel
theorem d_RW_offsetOfFit_111 : decode prog_9_method_7_code 111 = .ok (.getfield 80, 3) := by decide +kernel
theorem d_RW_offsetOfFit_114 : decode prog_9_method_7_code 114 = .ok (.invokevirtual 185, 3) := by decide +kernel
theorem d_RW_offsetOfFit_117 : decode prog_9_method_7_code 117 = .ok (.ifCond .ne 5, 3) := by decide +kernel
theorem d_RW_offsetOfFit_120 : decode prog_9_method_7_code 120 = .ok (.iconst (-1), 1) := by decide +kernel
theorem d_RW_offsetOfFit_121 : decode prog_9_method_7_code 121 = .ok (.ireturn, 1) := by decide +kernel
theorem d_RW_offsetOfFit_122 : decode prog_9_method_7_code 122 = .ok (.aload 7, 2) := by decide +kernel
theorem d_RW_offsetOfFit_124 : decode prog_9_method_7_code 124 = .ok (.invokevirtual 124, 3) := by decide +kernel
theorem d_RW_offsetOfFit_127 : decode prog_9_method_7_code 127 = .ok (.ifCond .ne 35, 3) := by decide +kernel
theorem d_RW_offsetOfFit_130 : decode prog_9_method_7_code 130 = .ok (.aload 8, 2) := by decide +kernel
theorem d_RW_offsetOfFit_132 : decode prog_9_method_7_code 132 = .ok (.getfield 83, 3) := by decide +kernel
theorem d_RW_offsetOfFit_135 : decode prog_9_method_7_code 135 = .ok (.aload 7, 2) := by decide +kernel
theorem d_RW_offsetOfFit_137 : decode prog_9_method_7_code 137 = .ok (.getfield 141, 3) := by decide +kernel
theorem d_RW_offsetOfFit_140 : decode prog_9_method_7_code 140 = .ok (.isub, 1) := by decide +kernel
theorem d_RW_offsetOfFit_141 : decode prog_9_method_7_code 141 = .ok (.istore 9, 2) := by decide +kernel
theorem d_RW_offsetOfFit_143 : decode prog_9_method_7_code 143 = .ok (.iload 5, 2) := by decide +kernel
theorem d_RW_offsetOfFit_145 : decode prog_9_method_7_code 145 = .ok (.iconst (-1), 1) := by decide +kernel
theorem d_RW_offsetOfFit_146 : decode prog_9_method_7_code 146 = .ok (.if_icmp .eq 12, 3) := by decide +kernel
theorem d_RW_offsetOfFit_149 : decode prog_9_method_7_code 149 = .ok (.iload 5, 2) := by decide +kernel
theorem d_RW_offsetOfFit_151 : decode prog_9_method_7_code 151 = .ok (.iload 9, 2) := by decide +kernel
theorem d_RW_offsetOfFit_153 : decode prog_9_method_7_code 153 = .ok (.if_icmp .eq 5, 3) := by decide +kernel
theorem d_RW_offsetOfFit_156 : decode prog_9_method_7_code 156 = .ok (.iconst (-1), 1) := by decide +kernel
theorem d_RW_offsetOfFit_157 : decode prog_9_method_7_code 157 = .ok (.ireturn, 1) := by decide +kernel
theorem d_RW_offsetOfFit_158 : decode prog_9_method_7_code 158 = .ok (.iload 9, 2) := by decide +kernel
theorem d_RW_offsetOfFit_160 : decode prog_9_method_7_code 160 = .ok (.istore 5, 2) := by decide +kernel
theorem d_RW_offsetOfFit_162 : decode prog_9_method_7_code 162 = .ok (.iinc 6 1, 3) := by decide +kernel
theorem d_RW_offsetOfFit_165 : decode prog_9_method_7_code 165 = .ok (.goto (-127), 3) := by decide +kernel
theorem d_RW_offsetOfFit_168 : decode prog_9_method_7_code 168 = .ok (.iload 5, 2) := by decide +kernel
theorem d_RW_offsetOfFit_170 : decode prog_9_method_7_code 170 = .ok (.iconst (-1), 1) := by decide +kernel
theorem d_RW_offsetOfFit_171 : decode prog_9_method_7_code 171 = .ok (.if_icmp .ne 7, 3) := by decide +kernel
theorem d_RW_offsetOfFit_174 : decode prog_9_method_7_code 174 = .ok (.iconst 0, 1) := by decide +kernel
theorem d_RW_offsetOfFit_175 : decode prog_9_method_7_code 175 = .ok (.goto 5, 3) := by decide +kernel
theorem d_RW_offsetOfFit_178 : decode prog_9_method_7_code 178 = .ok (.iload 5, 2) := by decide +kernel
theorem d_RW_offsetOfFit_180 : decode prog_9_method_7_code 180 = .ok (.ireturn, 1) := by decide +kernel
theorem d_RW_shortenAlone_0 : decode prog_9_method_8_code 0 = .ok (.aload_n 0, 1) := by decide +kernel
theorem d_RW_shortenAlone_1 : decode prog_9_method_8_code 1 = .ok (.getfield 15, 3) := by decide +kernel
theorem d_RW_shortenAlone_4 : decode prog_9_method_8_code 4 = .ok (.aload_n 1, 1) := by decide +kernel
theorem d_RW_shortenAlone_5 : decode prog_9_method_8_code 5 = .ok (.getfield 72, 3) := by decide +kernel
theorem d_RW_shortenAlone_8 : decode prog_9_method_8_code 8 = .ok (.aload_n 1, 1) := by decide +kernel
theorem d_RW_shortenAlone_9 : decode prog_9_method_8_code 9 = .ok (.getfield 80, 3) := by decide +kernel
theorem d_RW_shortenAlone_12 : decode prog_9_method_8_code 12 = .ok (.invokevirtual 189, 3) := by decide +kernel
theorem d_RW_shortenAlone_15 : decode prog_9_method_8_code 15 = .ok (.istore_n 2, 1) := by decide +kernel
theorem d_RW_shortenAlone_16 : decode prog_9_method_8_code 16 = .ok (.iload_n 2, 1) := by decide +kernel
theorem d_RW_shortenAlone_17 : decode prog_9_method_8_code 17 = .ok (.iconst (-1), 1) := by decide +kernel
theorem d_RW_shortenAlone_18 : decode prog_9_method_8_code 18 = .ok (.if_icmp .eq 31, 3) := by decide +kernel
theorem d_RW_shortenAlone_21 : decode prog_9_method_8_code 21 = .ok (.aload_n 0, 1) := by decide +kernel
theorem d_RW_shortenAlone_22 : decode prog_9_method_8_code 22 = .ok (.getfield 15, 3) := by decide +kernel
theorem d_RW_shortenAlone_25 : decode prog_9_method_8_code 25 = .ok (.getfield 117, 3) := by decide +kernel
theorem d_RW_shortenAlone_28 : decode prog_9_method_8_code 28 = .ok (.iload_n 2, 1) := by decide +kernel
theorem d_RW_shortenAlone_29 : decode prog_9_method_8_code 29 = .ok (.aaload, 1) := by decide +kernel
theorem d_RW_shortenAlone_30 : decode prog_9_method_8_code 30 = .ok (.astore_n 3, 1) := by decide +kernel
theorem d_RW_shortenAlone_31 : decode prog_9_method_8_code 31 = .ok (.aload_n 0, 1) := by decide +kernel
theorem d_RW_shortenAlone_32 : decode prog_9_method_8_code 32 = .ok (.aload_n 0, 1) := by decide +kernel
theorem d_RW_shortenAlone_33 : decode prog_9_method_8_code 33 = .ok (.getfield 15, 3) := by decide +kernel
theorem d_RW_shortenAlone_36 : decode prog_9_method_8_code 36 = .ok (.aload_n 3, 1) := by decide +kernel
theorem d_RW_shortenAlone_37 : decode prog_9_method_8_code 37 = .ok (.invokevirtual 168, 3) := by decide +kernel
theorem d_RW_shortenAlone_40 : decode prog_9_method_8_code 40 = .ok (.aload_n 3, 1) := by decide +kernel
theorem d_RW_shortenAlone_41 : decode prog_9_method_8_code 41 = .ok (.getfield 172, 3) := by decide +kernel
theorem d_RW_shortenAlone_44 : decode prog_9_method_8_code 44 = .ok (.aload_n 1, 1) := by decide +kernel
theorem d_RW_shortenAlone_45 : decode prog_9_method_8_code 45 = .ok (.invokevirtual 193, 3) := by decide +kernel
theorem d_RW_shortenAlone_48 : decode prog_9_method_8_code 48 = .ok (.return_, 1) := by decide +kernel
theorem d_RW_shortenAlone_49 : decode prog_9_method_8_code 49 = .ok (.aload_n 0, 1) := by decide +kernel
theorem d_RW_shortenAlone_50 : decode prog_9_method_8_code 50 = .ok (.getfield 15, 3) := by decide +kernel
theorem d_RW_shortenAlone_53 : decode prog_9_method_8_code 53 = .ok (.aload_n 1, 1) := by decide +kernel
theorem d_RW_shortenAlone_54 : decode prog_9_method_8_code 54 = .ok (.getfield 72, 3) := by decide +kernel
theorem d_RW_shortenAlone_57 : decode prog_9_method_8_code 57 = .ok (.invokevirtual 148, 3) := by decide +kernel
theorem d_RW_shortenAlone_60 : decode prog_9_method_8_code 60 = .ok (.astore_n 3, 1) := by decide +kernel
theorem d_RW_shortenAlone_61 : decode prog_9_method_8_code 61 = .ok (.aload_n 3, 1) := by decide +kernel
theorem d_RW_shortenAlone_62 : decode prog_9_method_8_code 62 = .ok (.ifnonnull 11, 3) := by decide +kernel
theorem d_RW_shortenAlone_65 : decode prog_9_method_8_code 65 = .ok (.aload_n 0, 1) := by decide +kernel
theorem d_RW_shortenAlone_66 : decode prog_9_method_8_code 66 = .ok (.aload_n 1, 1) := by decide +kernel
theorem d_RW_shortenAlone_67 : decode prog_9_method_8_code 67 = .ok (.invokevirtual 77, 3) := by decide +kernel
theorem d_RW_shortenAlone_70 : decode prog_9_method_8_code 70 = .ok (.goto 16, 3) := by decide +kernel
theorem d_RW_shortenAlone_73 : decode prog_9_method_8_code 73 = .ok (.aload_n 0, 1) := by decide +kernel
theorem d_RW_shortenAlone_74 : decode prog_9_method_8_code 74 = .ok (.aload_n 3, 1) := by decide +kernel
theorem d_RW_shortenAlone_75 : decode prog_9_method_8_code 75 = .ok (.getfield 151, 3) := by decide +kernel
theorem d_RW_shortenAlone_78 : decode prog_9_method_8_code 78 = .ok (.aload_n 1, 1) := by decide +kernel
theorem d_RW_shortenAlone_79 : decode prog_9_method_8_code 79 = .ok (.getfield 80, 3) := by decide +kernel
theorem d_RW_shortenAlone_82 : decode prog_9_method_8_code 82 = .ok (.aload_n 1, 1) := by decide +kernel
theorem d_RW_shortenAlone_83 : decode prog_9_method_8_code 83 = .ok (.invokevirtual 193, 3) := by decide +kernel
theorem d_RW_shortenAlone_86 : decode prog_9_method_8_code 86 = .ok (.return_, 1) := by decide +kernel
theorem d_RW_writeHeader_0 : decode prog_9_method_9_code 0 = .ok (.aload_n 0, 1) := by decide +kernel
theorem d_RW_writeHeader_1 : decode prog_9_method_9_code 1 = .ok (.getfield 9, 3) := by decide +kernel
theorem d_RW_writeHeader_4 : decode prog_9_method_9_code 4 = .ok (.getfield 29, 3) := by decide +kernel
theorem d_RW_writeHeader_7 : decode prog_9_method_9_code 7 = .ok (.iload_n 1, 1) := by decide +kernel
theorem d_RW_writeHeader_8 : decode prog_9_method_9_code 8 = .ok (.aaload, 1) := by decide +kernel
theorem d_RW_writeHeader_9 : decode prog_9_method_9_code 9 = .ok (.astore_n 3, 1) := by decide +kernel
theorem d_RW_writeHeader_10 : decode prog_9_method_9_code 10 = .ok (.iload_n 1, 1) := by decide +kernel
theorem d_RW_writeHeader_11 : decode prog_9_method_9_code 11 = .ok (.ifCond .le 12, 3) := by decide +kernel
theorem d_RW_writeHeader_14 : decode prog_9_method_9_code 14 = .ok (.aload_n 0, 1) := by decide +kernel
theorem d_RW_writeHeader_15 : decode prog_9_method_9_code 15 = .ok (.getfield 19, 3) := by decide +kernel
theorem d_RW_writeHeader_18 : decode prog_9_method_9_code 18 = .ok (.ldc 196, 2) := by decide +kernel
theorem d_RW_writeHeader_20 : decode prog_9_method_9_code 20 = .ok (.invokevirtual 175, 3) := by decide +kernel
theorem d_RW_writeHeader_23 : decode prog_9_method_9_code 23 = .ok (.aload_n 0, 1) := by decide +kernel
theorem d_RW_writeHeader_24 : decode prog_9_method_9_code 24 = .ok (.getfield 19, 3) := by decide +kernel
theorem d_RW_writeHeader_27 : decode prog_9_method_9_code 27 = .ok (.aload_n 2, 1) := by decide +kernel
theorem d_RW_writeHeader_28 : decode prog_9_method_9_code 28 = .ok (.invokevirtual 198, 3) := by decide +kernel
theorem d_RW_writeHeader_31 : decode prog_9_method_9_code 31 = .ok (.aload_n 3, 1) := by decide +kernel
theorem d_RW_writeHeader_32 : decode prog_9_method_9_code 32 = .ok (.getfield 201, 3) := by decide +kernel
theorem d_RW_writeHeader_35 : decode prog_9_method_9_code 35 = .ok (.ifCond .eq 23, 3) := by decide +kernel
theorem d_RW_writeHeader_38 : decode prog_9_method_9_code 38 = .ok (.aload_n 0, 1) := by decide +kernel
theorem d_RW_writeHeader_39 : decode prog_9_method_9_code 39 = .ok (.getfield 19, 3) := by decide +kernel
theorem d_RW_writeHeader_42 : decode prog_9_method_9_code 42 = .ok (.ldc 205, 2) := by decide +kernel
theorem d_RW_writeHeader_44 : decode prog_9_method_9_code 44 = .ok (.invokevirtual 175, 3) := by decide +kernel
theorem d_RW_writeHeader_47 : decode prog_9_method_9_code 47 = .ok (.aload_n 0, 1) := by decide +kernel
theorem d_RW_writeHeader_48 : decode prog_9_method_9_code 48 = .ok (.getfield 19, 3) := by decide +kernel
theorem d_RW_writeHeader_51 : decode prog_9_method_9_code 51 = .ok (.aload_n 3, 1) := by decide +kernel
theorem d_RW_writeHeader_52 : decode prog_9_method_9_code 52 = .ok (.getfield 207, 3) := by decide +kernel
theorem d_RW_writeHeader_55 : decode prog_9_method_9_code 55 = .ok (.invokevirtual 198, 3) := by decide +kernel
theorem d_RW_writeHeader_58 : decode prog_9_method_9_code 58 = .ok (.aload_n 0, 1) := by decide +kernel
theorem d_RW_writeHeader_59 : decode prog_9_method_9_code 59 = .ok (.getfield 19, 3) := by decide +kernel
theorem d_RW_writeHeader_62 : decode prog_9_method_9_code 62 = .ok (.bipush 10, 2) := by decide +kernel
theorem d_RW_writeHeader_64 : decode prog_9_method_9_code 64 = .ok (.invokevirtual 210, 3) := by decide +kernel
theorem d_RW_writeHeader_67 : decode prog_9_method_9_code 67 = .ok (.return_, 1) := by decide +kernel
theorem d_RW_writeMore_0 : decode prog_9_method_10_code 0 = .ok (.aload_n 1, 1) := by decide +kernel
theorem d_RW_writeMore_1 : decode prog_9_method_10_code 1 = .ok (.getfield 214, 3) := by decide +kernel
theorem d_RW_writeMore_4 : decode prog_9_method_10_code 4 = .ok (.iconst (-1), 1) := by decide +kernel
theorem d_RW_writeMore_5 : decode prog_9_method_10_code 5 = .ok (.if_icmp .eq 41, 3) := by decide +kernel
theorem d_RW_writeMore_8 : decode prog_9_method_10_code 8 = .ok (.aload_n 0, 1) := by decide +kernel
theorem d_RW_writeMore_9 : decode prog_9_method_10_code 9 = .ok (.getfield 19, 3) := by decide +kernel
theorem d_RW_writeMore_12 : decode prog_9_method_10_code 12 = .ok (.ldc 217, 2) := by decide +kernel
theorem d_RW_writeMore_14 : decode prog_9_method_10_code 14 = .ok (.invokevirtual 175, 3) := by decide +kernel
theorem d_RW_writeMore_17 : decode prog_9_method_10_code 17 = .ok (.aload_n 0, 1) := by decide +kernel
theorem d_RW_writeMore_18 : decode prog_9_method_10_code 18 = .ok (.getfield 19, 3) := by decide +kernel
theorem d_RW_writeMore_21 : decode prog_9_method_10_code 21 = .ok (.aload_n 1, 1) := by decide +kernel
theorem d_RW_writeMore_22 : decode prog_9_method_10_code 22 = .ok (.getfield 214, 3) := by decide +kernel
theorem d_RW_writeMore_25 : decode prog_9_method_10_code 25 = .ok (.invokevirtual 219, 3) := by decide +kernel
theorem d_RW_writeMore_28 : decode prog_9_method_10_code 28 = .ok (.aload_n 0, 1) := by decide +kernel
theorem d_RW_writeMore_29 : decode prog_9_method_10_code 29 = .ok (.getfield 19, 3) := by decide +kernel
theorem d_RW_writeMore_32 : decode prog_9_method_10_code 32 = .ok (.ldc 222, 2) := by decide +kernel
theorem d_RW_writeMore_34 : decode prog_9_method_10_code 34 = .ok (.invokevirtual 175, 3) := by decide +kernel
theorem d_RW_writeMore_37 : decode prog_9_method_10_code 37 = .ok (.aload_n 0, 1) := by decide +kernel
theorem d_RW_writeMore_38 : decode prog_9_method_10_code 38 = .ok (.getfield 19, 3) := by decide +kernel
theorem d_RW_writeMore_41 : decode prog_9_method_10_code 41 = .ok (.bipush 10, 2) := by decide +kernel
theorem d_RW_writeMore_43 : decode prog_9_method_10_code 43 = .ok (.invokevirtual 210, 3) := by decide +kernel
theorem d_RW_writeMore_46 : decode prog_9_method_10_code 46 = .ok (.return_, 1) := by decide +kernel
theorem d_RW_writeUnchanged_0 : decode prog_9_method_11_code 0 = .ok (.aload_n 0, 1) := by decide +kernel
theorem d_RW_writeUnchanged_1 : decode prog_9_method_11_code 1 = .ok (.aload_n 1, 1) := by decide +kernel
theorem d_RW_writeUnchanged_2 : decode prog_9_method_11_code 2 = .ok (.getfield 72, 3) := by decide +kernel
theorem d_RW_writeUnchanged_5 : decode prog_9_method_11_code 5 = .ok (.aload_n 1, 1) := by decide +kernel
theorem d_RW_writeUnchanged_6 : decode prog_9_method_11_code 6 = .ok (.getfield 80, 3) := by decide +kernel
theorem d_RW_writeUnchanged_9 : decode prog_9_method_11_code 9 = .ok (.invokevirtual 131, 3) := by decide +kernel
theorem d_RW_writeUnchanged_12 : decode prog_9_method_11_code 12 = .ok (.aload_n 0, 1) := by decide +kernel
theorem d_RW_writeUnchanged_13 : decode prog_9_method_11_code 13 = .ok (.getfield 19, 3) := by decide +kernel
theorem d_RW_writeUnchanged_16 : decode prog_9_method_11_code 16 = .ok (.aload_n 1, 1) := by decide +kernel
theorem d_RW_writeUnchanged_17 : decode prog_9_method_11_code 17 = .ok (.getfield 224, 3) := by decide +kernel
theorem d_RW_writeUnchanged_20 : decode prog_9_method_11_code 20 = .ok (.invokevirtual 198, 3) := by decide +kernel
theorem d_RW_writeUnchanged_23 : decode prog_9_method_11_code 23 = .ok (.aload_n 0, 1) := by decide +kernel
theorem d_RW_writeUnchanged_24 : decode prog_9_method_11_code 24 = .ok (.aload_n 1, 1) := by decide +kernel
theorem d_RW_writeUnchanged_25 : decode prog_9_method_11_code 25 = .ok (.getfield 83, 3) := by decide +kernel
theorem d_RW_writeUnchanged_28 : decode prog_9_method_11_code 28 = .ok (.invokevirtual 144, 3) := by decide +kernel
theorem d_RW_writeUnchanged_31 : decode prog_9_method_11_code 31 = .ok (.return_, 1) := by decide +kernel
theorem d_RW_writeReal_0 : decode prog_9_method_12_code 0 = .ok (.aload_n 0, 1) := by decide +kernel
theorem d_RW_writeReal_1 : decode prog_9_method_12_code 1 = .ok (.aload_n 1, 1) := by decide +kernel
theorem d_RW_writeReal_2 : decode prog_9_method_12_code 2 = .ok (.aload_n 2, 1) := by decide +kernel
theorem d_RW_writeReal_3 : decode prog_9_method_12_code 3 = .ok (.invokevirtual 131, 3) := by decide +kernel
theorem d_RW_writeReal_6 : decode prog_9_method_12_code 6 = .ok (.aload_n 3, 1) := by decide +kernel
theorem d_RW_writeReal_7 : decode prog_9_method_12_code 7 = .ok (.getfield 227, 3) := by decide +kernel
theorem d_RW_writeReal_10 : decode prog_9_method_12_code 10 = .ok (.ifCond .eq 14, 3) := by decide +kernel
theorem d_RW_writeReal_13 : decode prog_9_method_12_code 13 = .ok (.aload_n 0, 1) := by decide +kernel
theorem d_RW_writeReal_14 : decode prog_9_method_12_code 14 = .ok (.getfield 19, 3) := by decide +kernel
theorem d_RW_writeReal_17 : decode prog_9_method_12_code 17 = .ok (.aload_n 1, 1) := by decide +kernel
theorem d_RW_writeReal_18 : decode prog_9_method_12_code 18 = .ok (.invokevirtual 135, 3) := by decide +kernel
theorem d_RW_writeReal_21 : decode prog_9_method_12_code 21 = .ok (.goto 14, 3) := by decide +kernel
theorem d_RW_writeReal_24 : decode prog_9_method_12_code 24 = .ok (.aload_n 0, 1) := by decide +kernel
theorem d_RW_writeReal_25 : decode prog_9_method_12_code 25 = .ok (.getfield 19, 3) := by decide +kernel
theorem d_RW_writeReal_28 : decode prog_9_method_12_code 28 = .ok (.aload_n 3, 1) := by decide +kernel
theorem d_RW_writeReal_29 : decode prog_9_method_12_code 29 = .ok (.getfield 224, 3) := by decide +kernel
theorem d_RW_writeReal_32 : decode prog_9_method_12_code 32 = .ok (.invokevirtual 198, 3) := by decide +kernel
theorem d_RW_writeReal_35 : decode prog_9_method_12_code 35 = .ok (.aload_n 0, 1) := by decide +kernel
theorem d_RW_writeReal_36 : decode prog_9_method_12_code 36 = .ok (.aload_n 3, 1) := by decide +kernel
theorem d_RW_writeReal_37 : decode prog_9_method_12_code 37 = .ok (.getfield 83, 3) := by decide +kernel
theorem d_RW_writeReal_40 : decode prog_9_method_12_code 40 = .ok (.invokevirtual 144, 3) := by decide +kernel
theorem d_RW_writeReal_43 : decode prog_9_method_12_code 43 = .ok (.return_, 1) := by decide +kernel
theorem d_RW_writeShort_0 : decode prog_9_method_13_code 0 = .ok (.aload_n 0, 1) := by decide +kernel
theorem d_RW_writeShort_1 : decode prog_9_method_13_code 1 = .ok (.aload_n 1, 1) := by decide +kernel
theorem d_RW_writeShort_2 : decode prog_9_method_13_code 2 = .ok (.aload_n 2, 1) := by decide +kernel
theorem d_RW_writeShort_3 : decode prog_9_method_13_code 3 = .ok (.invokevirtual 131, 3) := by decide +kernel
theorem d_RW_writeShort_6 : decode prog_9_method_13_code 6 = .ok (.aload_n 3, 1) := by decide +kernel
theorem d_RW_writeShort_7 : decode prog_9_method_13_code 7 = .ok (.getfield 227, 3) := by decide +kernel
theorem d_RW_writeShort_10 : decode prog_9_method_13_code 10 = .ok (.ifCond .eq 15, 3) := by decide +kernel
theorem d_RW_writeShort_13 : decode prog_9_method_13_code 13 = .ok (.aload_n 0, 1) := by decide +kernel
theorem d_RW_writeShort_14 : decode prog_9_method_13_code 14 = .ok (.getfield 19, 3) := by decide +kernel
theorem d_RW_writeShort_17 : decode prog_9_method_13_code 17 = .ok (.ldc 173, 2) := by decide +kernel
theorem d_RW_writeShort_19 : decode prog_9_method_13_code 19 = .ok (.invokevirtual 175, 3) := by decide +kernel
theorem d_RW_writeShort_22 : decode prog_9_method_13_code 22 = .ok (.goto 14, 3) := by decide +kernel
theorem d_RW_writeShort_25 : decode prog_9_method_13_code 25 = .ok (.aload_n 0, 1) := by decide +kernel
theorem d_RW_writeShort_26 : decode prog_9_method_13_code 26 = .ok (.getfield 19, 3) := by decide +kernel
theorem d_RW_writeShort_29 : decode prog_9_method_13_code 29 = .ok (.aload_n 3, 1) := by decide +kernel
theorem d_RW_writeShort_30 : decode prog_9_method_13_code 30 = .ok (.getfield 224, 3) := by decide +kernel
theorem d_RW_writeShort_33 : decode prog_9_method_13_code 33 = .ok (.invokevirtual 198, 3) := by decide +kernel
theorem d_RW_writeShort_36 : decode prog_9_method_13_code 36 = .ok (.aload_n 0, 1) := by decide +kernel
theorem d_RW_writeShort_37 : decode prog_9_method_13_code 37 = .ok (.aload_n 3, 1) := by decide +kernel
theorem d_RW_writeShort_38 : decode prog_9_method_13_code 38 = .ok (.getfield 83, 3) := by decide +kernel
theorem d_RW_writeShort_41 : decode prog_9_method_13_code 41 = .ok (.invokevirtual 144, 3) := by decide +kernel
theorem d_RW_writeShort_44 : decode prog_9_method_13_code 44 = .ok (.return_, 1) := by decide +kernel
theorem d_RW_openFrame_0 : decode prog_9_method_14_code 0 = .ok (.aload_n 0, 1) := by decide +kernel
theorem d_RW_openFrame_1 : decode prog_9_method_14_code 1 = .ok (.getfield 19, 3) := by decide +kernel
theorem d_RW_openFrame_4 : decode prog_9_method_14_code 4 = .ok (.ldc 230, 2) := by decide +kernel
theorem d_RW_openFrame_6 : decode prog_9_method_14_code 6 = .ok (.invokevirtual 175, 3) := by decide +kernel
theorem d_RW_openFrame_9 : decode prog_9_method_14_code 9 = .ok (.aload_n 0, 1) := by decide +kernel
theorem d_RW_openFrame_10 : decode prog_9_method_14_code 10 = .ok (.getfield 19, 3) := by decide +kernel
theorem d_RW_openFrame_13 : decode prog_9_method_14_code 13 = .ok (.aload_n 1, 1) := by decide +kernel
theorem d_RW_openFrame_14 : decode prog_9_method_14_code 14 = .ok (.invokevirtual 198, 3) := by decide +kernel
theorem d_RW_openFrame_17 : decode prog_9_method_14_code 17 = .ok (.aload_n 0, 1) := by decide +kernel
theorem d_RW_openFrame_18 : decode prog_9_method_14_code 18 = .ok (.getfield 19, 3) := by decide +kernel
theorem d_RW_openFrame_21 : decode prog_9_method_14_code 21 = .ok (.bipush 46, 2) := by decide +kernel
theorem d_RW_openFrame_23 : decode prog_9_method_14_code 23 = .ok (.invokevirtual 210, 3) := by decide +kernel
theorem d_RW_openFrame_26 : decode prog_9_method_14_code 26 = .ok (.aload_n 0, 1) := by decide +kernel
theorem d_RW_openFrame_27 : decode prog_9_method_14_code 27 = .ok (.getfield 19, 3) := by decide +kernel
theorem d_RW_openFrame_30 : decode prog_9_method_14_code 30 = .ok (.aload_n 2, 1) := by decide +kernel
theorem d_RW_openFrame_31 : decode prog_9_method_14_code 31 = .ok (.invokevirtual 198, 3) := by decide +kernel
theorem d_RW_openFrame_34 : decode prog_9_method_14_code 34 = .ok (.aload_n 0, 1) := by decide +kernel
theorem d_RW_openFrame_35 : decode prog_9_method_14_code 35 = .ok (.getfield 19, 3) := by decide +kernel
theorem d_RW_openFrame_38 : decode prog_9_method_14_code 38 = .ok (.bipush 40, 2) := by decide +kernel
theorem d_RW_openFrame_40 : decode prog_9_method_14_code 40 = .ok (.invokevirtual 210, 3) := by decide +kernel
theorem d_RW_openFrame_43 : decode prog_9_method_14_code 43 = .ok (.aload_n 0, 1) := by decide +kernel
theorem d_RW_openFrame_44 : decode prog_9_method_14_code 44 = .ok (.dup, 1) := by decide +kernel
theorem d_RW_openFrame_45 : decode prog_9_method_14_code 45 = .ok (.getfield 232, 3) := by decide +kernel
theorem d_RW_openFrame_48 : decode prog_9_method_14_code 48 = .ok (.iconst 1, 1) := by decide +kernel
theorem d_RW_openFrame_49 : decode prog_9_method_14_code 49 = .ok (.iadd, 1) := by decide +kernel
theorem d_RW_openFrame_50 : decode prog_9_method_14_code 50 = .ok (.putfield 232, 3) := by decide +kernel
theorem d_RW_openFrame_53 : decode prog_9_method_14_code 53 = .ok (.return_, 1) := by decide +kernel
theorem d_RW_closeFrame_0 : decode prog_9_method_15_code 0 = .ok (.iload_n 1, 1) := by decide +kernel
theorem d_RW_closeFrame_1 : decode prog_9_method_15_code 1 = .ok (.iconst (-1), 1) := by decide +kernel
theorem d_RW_closeFrame_2 : decode prog_9_method_15_code 2 = .ok (.if_icmp .eq 20, 3) := by decide +kernel
theorem d_RW_closeFrame_5 : decode prog_9_method_15_code 5 = .ok (.aload_n 0, 1) := by decide +kernel
theorem d_RW_closeFrame_6 : decode prog_9_method_15_code 6 = .ok (.getfield 19, 3) := by decide +kernel
theorem d_RW_closeFrame_9 : decode prog_9_method_15_code 9 = .ok (.bipush 58, 2) := by decide +kernel
theorem d_RW_closeFrame_11 : decode prog_9_method_15_code 11 = .ok (.invokevirtual 210, 3) := by decide +kernel
theorem d_RW_closeFrame_14 : decode prog_9_method_15_code 14 = .ok (.aload_n 0, 1) := by decide +kernel
theorem d_RW_closeFrame_15 : decode prog_9_method_15_code 15 = .ok (.getfield 19, 3) := by decide +kernel
theorem d_RW_closeFrame_18 : decode prog_9_method_15_code 18 = .ok (.iload_n 1, 1) := by decide +kernel
theorem d_RW_closeFrame_19 : decode prog_9_method_15_code 19 = .ok (.invokevirtual 219, 3) := by decide +kernel
theorem d_RW_closeFrame_22 : decode prog_9_method_15_code 22 = .ok (.aload_n 0, 1) := by decide +kernel
theorem d_RW_closeFrame_23 : decode prog_9_method_15_code 23 = .ok (.getfield 19, 3) := by decide +kernel
theorem d_RW_closeFrame_26 : decode prog_9_method_15_code 26 = .ok (.ldc 235, 2) := by decide +kernel
theorem d_RW_closeFrame_28 : decode prog_9_method_15_code 28 = .ok (.invokevirtual 175, 3) := by decide +kernel
theorem d_RW_closeFrame_31 : decode prog_9_method_15_code 31 = .ok (.return_, 1) := by decide +kernel
theorem d_SL_init_0 : decode prog_10_method_1_code 0 = .ok (.aload_n 0, 1) := by decide +kernel
theorem d_SL_init_1 : decode prog_10_method_1_code 1 = .ok (.invokespecial 3, 3) := by decide +kernel
theorem d_SL_init_4 : decode prog_10_method_1_code 4 = .ok (.aload_n 0, 1) := by decide +kernel
theorem d_SL_init_5 : decode prog_10_method_1_code 5 = .ok (.aload_n 1, 1) := by decide +kernel
theorem d_SL_init_6 : decode prog_10_method_1_code 6 = .ok (.putfield 9, 3) := by decide +kernel
theorem d_SL_init_9 : decode prog_10_method_1_code 9 = .ok (.return_, 1) := by decide +kernel
theorem d_SL_set_0 : decode prog_10_method_2_code 0 = .ok (.aload_n 0, 1) := by decide +kernel
theorem d_SL_set_1 : decode prog_10_method_2_code 1 = .ok (.iload_n 1, 1) := by decide +kernel
theorem d_SL_set_2 : decode prog_10_method_2_code 2 = .ok (.putfield 15, 3) := by decide +kernel
theorem d_SL_set_5 : decode prog_10_method_2_code 5 = .ok (.aload_n 0, 1) := by decide +kernel
theorem d_SL_set_6 : decode prog_10_method_2_code 6 = .ok (.iload_n 2, 1) := by decide +kernel
theorem d_SL_set_7 : decode prog_10_method_2_code 7 = .ok (.putfield 19, 3) := by decide +kernel
theorem d_SL_set_10 : decode prog_10_method_2_code 10 = .ok (.return_, 1) := by decide +kernel
theorem d_SL_isSame_0 : decode prog_10_method_3_code 0 = .ok (.aload_n 0, 1) := by decide +kernel
theorem d_SL_isSame_1 : decode prog_10_method_3_code 1 = .ok (.getfield 19, 3) := by decide +kernel
theorem d_SL_isSame_4 : decode prog_10_method_3_code 4 = .ok (.aload_n 0, 1) := by decide +kernel
theorem d_SL_isSame_5 : decode prog_10_method_3_code 5 = .ok (.getfield 15, 3) := by decide +kernel
theorem d_SL_isSame_8 : decode prog_10_method_3_code 8 = .ok (.isub, 1) := by decide +kernel
theorem d_SL_isSame_9 : decode prog_10_method_3_code 9 = .ok (.istore_n 2, 1) := by decide +kernel
theorem d_SL_isSame_10 : decode prog_10_method_3_code 10 = .ok (.aload_n 1, 1) := by decide +kernel
theorem d_SL_isSame_11 : decode prog_10_method_3_code 11 = .ok (.getfield 19, 3) := by decide +kernel
theorem d_SL_isSame_14 : decode prog_10_method_3_code 14 = .ok (.aload_n 1, 1) := by decide +kernel
theorem d_SL_isSame_15 : decode prog_10_method_3_code 15 = .ok (.getfield 15, 3) := by decide +kernel
theorem d_SL_isSame_18 : decode prog_10_method_3_code 18 = .ok (.isub, 1) := by decide +kernel
theorem d_SL_isSame_19 : decode prog_10_method_3_code 19 = .ok (.iload_n 2, 1) := by decide +kernel
theorem d_SL_isSame_20 : decode prog_10_method_3_code 20 = .ok (.if_icmp .eq 5, 3) := by decide +kernel
theorem d_SL_isSame_23 : decode prog_10_method_3_code 23 = .ok (.iconst 0, 1) := by decide +kernel
theorem d_SL_isSame_24 : decode prog_10_method_3_code 24 = .ok (.ireturn, 1) := by decide +kernel
theorem d_SL_isSame_25 : decode prog_10_method_3_code 25 = .ok (.iconst 0, 1) := by decide +kernel
theorem d_SL_isSame_26 : decode prog_10_method_3_code 26 = .ok (.istore_n 3, 1) := by decide +kernel
theorem d_SL_isSame_27 : decode prog_10_method_3_code 27 = .ok (.iload_n 3, 1) := by decide +kernel
theorem d_SL_isSame_28 : decode prog_10_method_3_code 28 = .ok (.iload_n 2, 1) := by decide +kernel
theorem d_SL_isSame_29 : decode prog_10_method_3_code 29 = .ok (.if_icmp .ge 36, 3) := by decide +kernel
theorem d_SL_isSame_32 : decode prog_10_method_3_code 32 = .ok (.aload_n 0, 1) := by decide +kernel
theorem d_SL_isSame_33 : decode prog_10_method_3_code 33 = .ok (.getfield 9, 3) := by decide +kernel
theorem d_SL_isSame_36 : decode prog_10_method_3_code 36 = .ok (.aload_n 0, 1) := by decide +kernel
theorem d_SL_isSame_37 : decode prog_10_method_3_code 37 = .ok (.getfield 15, 3) := by decide +kernel
theorem d_SL_isSame_40 : decode prog_10_method_3_code 40 = .ok (.iload_n 3, 1) := by decide +kernel
theorem d_SL_isSame_41 : decode prog_10_method_3_code 41 = .ok (.iadd, 1) := by decide +kernel
theorem d_SL_isSame_42 : decode prog_10_method_3_code 42 = .ok (.caload, 1) := by decide +kernel
theorem d_SL_isSame_43 : decode prog_10_method_3_code 43 = .ok (.aload_n 1, 1) := by decide +kernel
theorem d_SL_isSame_44 : decode prog_10_method_3_code 44 = .ok (.getfield 9, 3) := by decide +kernel
theorem d_SL_isSame_47 : decode prog_10_method_3_code 47 = .ok (.aload_n 1, 1) := by decide +kernel
theorem d_SL_isSame_48 : decode prog_10_method_3_code 48 = .ok (.getfield 15, 3) := by decide +kernel
theorem d_SL_isSame_51 : decode prog_10_method_3_code 51 = .ok (.iload_n 3, 1) := by decide +kernel
theorem d_SL_isSame_52 : decode prog_10_method_3_code 52 = .ok (.iadd, 1) := by decide +kernel
theorem d_SL_isSame_53 : decode prog_10_method_3_code 53 = .ok (.caload, 1) := by decide +kernel
theorem d_SL_isSame_54 : decode prog_10_method_3_code 54 = .ok (.if_icmp .eq 5, 3) := by decide +kernel
theorem d_SL_isSame_57 : decode prog_10_method_3_code 57 = .ok (.iconst 0, 1) := by decide +kernel
theorem d_SL_isSame_58 : decode prog_10_method_3_code 58 = .ok (.ireturn, 1) := by decide +kernel
theorem d_SL_isSame_59 : decode prog_10_method_3_code 59 = .ok (.iinc 3 1, 3) := by decide +kernel
theorem d_SL_isSame_62 : decode prog_10_method_3_code 62 = .ok (.goto (-35), 3) := by decide +kernel
theorem d_SL_isSame_65 : decode prog_10_method_3_code 65 = .ok (.iconst 1, 1) := by decide +kernel
theorem d_SL_isSame_66 : decode prog_10_method_3_code 66 = .ok (.ireturn, 1) := by decide +kernel
theorem d_SL_lastPoint_0 : decode prog_10_method_4_code 0 = .ok (.aload_n 0, 1) := by decide +kernel
theorem d_SL_lastPoint_1 : decode prog_10_method_4_code 1 = .ok (.getfield 19, 3) := by decide +kernel
theorem d_SL_lastPoint_4 : decode prog_10_method_4_code 4 = .ok (.iconst 1, 1) := by decide +kernel
theorem d_SL_lastPoint_5 : decode prog_10_method_4_code 5 = .ok (.isub, 1) := by decide +kernel
theorem d_SL_lastPoint_6 : decode prog_10_method_4_code 6 = .ok (.istore_n 1, 1) := by decide +kernel
theorem d_SL_lastPoint_7 : decode prog_10_method_4_code 7 = .ok (.iload_n 1, 1) := by decide +kernel
theorem d_SL_lastPoint_8 : decode prog_10_method_4_code 8 = .ok (.aload_n 0, 1) := by decide +kernel
theorem d_SL_lastPoint_9 : decode prog_10_method_4_code 9 = .ok (.getfield 15, 3) := by decide +kernel
theorem d_SL_lastPoint_12 : decode prog_10_method_4_code 12 = .ok (.if_icmp .lt 22, 3) := by decide +kernel
theorem d_SL_lastPoint_15 : decode prog_10_method_4_code 15 = .ok (.aload_n 0, 1) := by decide +kernel
theorem d_SL_lastPoint_16 : decode prog_10_method_4_code 16 = .ok (.getfield 9, 3) := by decide +kernel
theorem d_SL_lastPoint_19 : decode prog_10_method_4_code 19 = .ok (.iload_n 1, 1) := by decide +kernel
theorem d_SL_lastPoint_20 : decode prog_10_method_4_code 20 = .ok (.caload, 1) := by decide +kernel
theorem d_SL_lastPoint_21 : decode prog_10_method_4_code 21 = .ok (.bipush 46, 2) := by decide +kernel
theorem d_SL_lastPoint_23 : decode prog_10_method_4_code 23 = .ok (.if_icmp .ne 5, 3) := by decide +kernel
theorem d_SL_lastPoint_26 : decode prog_10_method_4_code 26 = .ok (.iload_n 1, 1) := by decide +kernel
theorem d_SL_lastPoint_27 : decode prog_10_method_4_code 27 = .ok (.ireturn, 1) := by decide +kernel
theorem d_SL_lastPoint_28 : decode prog_10_method_4_code 28 = .ok (.iinc 1 (-1), 3) := by decide +kernel
theorem d_SL_lastPoint_31 : decode prog_10_method_4_code 31 = .ok (.goto (-24), 3) := by decide +kernel
theorem d_SL_lastPoint_34 : decode prog_10_method_4_code 34 = .ok (.iconst (-1), 1) := by decide +kernel
theorem d_SL_lastPoint_35 : decode prog_10_method_4_code 35 = .ok (.ireturn, 1) := by decide +kernel
theorem d_TX_init_0 : decode prog_11_method_1_code 0 = .ok (.aload_n 0, 1) := by decide +kernel
theorem d_TX_init_1 : decode prog_11_method_1_code 1 = .ok (.invokespecial 3, 3) := by decide +kernel
theorem d_TX_init_4 : decode prog_11_method_1_code 4 = .ok (.aload_n 0, 1) := by decide +kernel
theorem d_TX_init_5 : decode prog_11_method_1_code 5 = .ok (.iload_n 1, 1) := by decide +kernel
theorem d_TX_init_6 : decode prog_11_method_1_code 6 = .ok (.newarray .char, 2) := by decide +kernel
theorem d_TX_init_8 : decode prog_11_method_1_code 8 = .ok (.putfield 9, 3) := by decide +kernel
theorem d_TX_init_11 : decode prog_11_method_1_code 11 = .ok (.return_, 1) := by decide +kernel
theorem d_TX_clear_0 : decode prog_11_method_2_code 0 = .ok (.aload_n 0, 1) := by decide +kernel
theorem d_TX_clear_1 : decode prog_11_method_2_code 1 = .ok (.iconst 0, 1) := by decide +kernel
theorem d_TX_clear_2 : decode prog_11_method_2_code 2 = .ok (.putfield 15, 3) := by decide +kernel
theorem d_TX_clear_5 : decode prog_11_method_2_code 5 = .ok (.aload_n 0, 1) := by decide +kernel
theorem d_TX_clear_6 : decode prog_11_method_2_code 6 = .ok (.iconst 0, 1) := by decide +kernel
theorem d_TX_clear_7 : decode prog_11_method_2_code 7 = .ok (.putfield 19, 3) := by decide +kernel
theorem d_TX_clear_10 : decode prog_11_method_2_code 10 = .ok (.return_, 1) := by decide +kernel
theorem d_TX_add_0 : decode prog_11_method_3_code 0 = .ok (.aload_n 0, 1) := by decide +kernel
theorem d_TX_add_1 : decode prog_11_method_3_code 1 = .ok (.getfield 15, 3) := by decide +kernel
theorem d_TX_add_4 : decode prog_11_method_3_code 4 = .ok (.aload_n 0, 1) := by decide +kernel
theorem d_TX_add_5 : decode prog_11_method_3_code 5 = .ok (.getfield 9, 3) := by decide +kernel
theorem d_TX_add_8 : decode prog_11_method_3_code 8 = .ok (.arraylength, 1) := by decide +kernel
theorem d_TX_add_9 : decode prog_11_method_3_code 9 = .ok (.if_icmp .lt 9, 3) := by decide +kernel
theorem d_TX_add_12 : decode prog_11_method_3_code 12 = .ok (.aload_n 0, 1) := by decide +kernel
theorem d_TX_add_13 : decode prog_11_method_3_code 13 = .ok (.iconst 1, 1) := by decide +kernel
theorem d_TX_add_14 : decode prog_11_method_3_code 14 = .ok (.putfield 19, 3) := by decide +kernel
theorem d_TX_add_17 : decode prog_11_method_3_code 17 = .ok (.return_, 1) := by decide +kernel
theorem d_TX_add_18 : decode prog_11_method_3_code 18 = .ok (.aload_n 0, 1) := by decide +kernel
theorem d_TX_add_19 : decode prog_11_method_3_code 19 = .ok (.getfield 9, 3) := by decide +kernel
theorem d_TX_add_22 : decode prog_11_method_3_code 22 = .ok (.aload_n 0, 1) := by decide +kernel
theorem d_TX_add_23 : decode prog_11_method_3_code 23 = .ok (.getfield 15, 3) := by decide +kernel
theorem d_TX_add_26 : decode prog_11_method_3_code 26 = .ok (.iload_n 1, 1) := by decide +kernel
theorem d_TX_add_27 : decode prog_11_method_3_code 27 = .ok (.castore, 1) := by decide +kernel
theorem d_TX_add_28 : decode prog_11_method_3_code 28 = .ok (.aload_n 0, 1) := by decide +kernel
theorem d_TX_add_29 : decode prog_11_method_3_code 29 = .ok (.dup, 1) := by decide +kernel
theorem d_TX_add_30 : decode prog_11_method_3_code 30 = .ok (.getfield 15, 3) := by decide +kernel
theorem d_TX_add_33 : decode prog_11_method_3_code 33 = .ok (.iconst 1, 1) := by decide +kernel
theorem d_TX_add_34 : decode prog_11_method_3_code 34 = .ok (.iadd, 1) := by decide +kernel
theorem d_TX_add_35 : decode prog_11_method_3_code 35 = .ok (.putfield 15, 3) := by decide +kernel
theorem d_TX_add_38 : decode prog_11_method_3_code 38 = .ok (.return_, 1) := by decide +kernel
theorem d_TX_addWord_0 : decode prog_11_method_4_code 0 = .ok (.iconst 0, 1) := by decide +kernel
theorem d_TX_addWord_1 : decode prog_11_method_4_code 1 = .ok (.istore_n 2, 1) := by decide +kernel
theorem d_TX_addWord_2 : decode prog_11_method_4_code 2 = .ok (.iload_n 2, 1) := by decide +kernel
theorem d_TX_addWord_3 : decode prog_11_method_4_code 3 = .ok (.aload_n 1, 1) := by decide +kernel
theorem d_TX_addWord_4 : decode prog_11_method_4_code 4 = .ok (.invokevirtual 23, 3) := by decide +kernel
theorem d_TX_addWord_7 : decode prog_11_method_4_code 7 = .ok (.if_icmp .ge 18, 3) := by decide +kernel
theorem d_TX_addWord_10 : decode prog_11_method_4_code 10 = .ok (.aload_n 0, 1) := by decide +kernel
theorem d_TX_addWord_11 : decode prog_11_method_4_code 11 = .ok (.aload_n 1, 1) := by decide +kernel
theorem d_TX_addWord_12 : decode prog_11_method_4_code 12 = .ok (.iload_n 2, 1) := by decide +kernel
theorem d_TX_addWord_13 : decode prog_11_method_4_code 13 = .ok (.invokevirtual 29, 3) := by decide +kernel
theorem d_TX_addWord_16 : decode prog_11_method_4_code 16 = .ok (.invokevirtual 33, 3) := by decide +kernel
theorem d_TX_addWord_19 : decode prog_11_method_4_code 19 = .ok (.iinc 2 1, 3) := by decide +kernel
theorem d_TX_addWord_22 : decode prog_11_method_4_code 22 = .ok (.goto (-20), 3) := by decide +kernel
theorem d_TX_addWord_25 : decode prog_11_method_4_code 25 = .ok (.return_, 1) := by decide +kernel
theorem d_TX_addSlice_0 : decode prog_11_method_5_code 0 = .ok (.aload_n 0, 1) := by decide +kernel
theorem d_TX_addSlice_1 : decode prog_11_method_5_code 1 = .ok (.aload_n 1, 1) := by decide +kernel
theorem d_TX_addSlice_2 : decode prog_11_method_5_code 2 = .ok (.getfield 37, 3) := by decide +kernel
theorem d_TX_addSlice_5 : decode prog_11_method_5_code 5 = .ok (.aload_n 1, 1) := by decide +kernel
theorem d_TX_addSlice_6 : decode prog_11_method_5_code 6 = .ok (.getfield 40, 3) := by decide +kernel
theorem d_TX_addSlice_9 : decode prog_11_method_5_code 9 = .ok (.aload_n 1, 1) := by decide +kernel
theorem d_TX_addSlice_10 : decode prog_11_method_5_code 10 = .ok (.getfield 43, 3) := by decide +kernel
theorem d_TX_addSlice_13 : decode prog_11_method_5_code 13 = .ok (.invokevirtual 46, 3) := by decide +kernel
theorem d_TX_addSlice_16 : decode prog_11_method_5_code 16 = .ok (.return_, 1) := by decide +kernel
theorem d_TX_addSpan_0 : decode prog_11_method_6_code 0 = .ok (.iload_n 3, 1) := by decide +kernel
theorem d_TX_addSpan_1 : decode prog_11_method_6_code 1 = .ok (.iload_n 2, 1) := by decide +kernel
theorem d_TX_addSpan_2 : decode prog_11_method_6_code 2 = .ok (.isub, 1) := by decide +kernel
theorem d_TX_addSpan_3 : decode prog_11_method_6_code 3 = .ok (.aload_n 0, 1) := by decide +kernel
theorem d_TX_addSpan_4 : decode prog_11_method_6_code 4 = .ok (.getfield 9, 3) := by decide +kernel
theorem d_TX_addSpan_7 : decode prog_11_method_6_code 7 = .ok (.arraylength, 1) := by decide +kernel
theorem d_TX_addSpan_8 : decode prog_11_method_6_code 8 = .ok (.aload_n 0, 1) := by decide +kernel
theorem d_TX_addSpan_9 : decode prog_11_method_6_code 9 = .ok (.getfield 15, 3) := by decide +kernel
theorem d_TX_addSpan_12 : decode prog_11_method_6_code 12 = .ok (.isub, 1) := by decide +kernel
theorem d_TX_addSpan_13 : decode prog_11_method_6_code 13 = .ok (.if_icmp .le 9, 3) := by decide +kernel
theorem d_TX_addSpan_16 : decode prog_11_method_6_code 16 = .ok (.aload_n 0, 1) := by decide +kernel
theorem d_TX_addSpan_17 : decode prog_11_method_6_code 17 = .ok (.iconst 1, 1) := by decide +kernel
theorem d_TX_addSpan_18 : decode prog_11_method_6_code 18 = .ok (.putfield 19, 3) := by decide +kernel
theorem d_TX_addSpan_21 : decode prog_11_method_6_code 21 = .ok (.return_, 1) := by decide +kernel
theorem d_TX_addSpan_22 : decode prog_11_method_6_code 22 = .ok (.aload_n 1, 1) := by decide +kernel
theorem d_TX_addSpan_23 : decode prog_11_method_6_code 23 = .ok (.iload_n 2, 1) := by decide +kernel
theorem d_TX_addSpan_24 : decode prog_11_method_6_code 24 = .ok (.aload_n 0, 1) := by decide +kernel
theorem d_TX_addSpan_25 : decode prog_11_method_6_code 25 = .ok (.getfield 9, 3) := by decide +kernel
theorem d_TX_addSpan_28 : decode prog_11_method_6_code 28 = .ok (.aload_n 0, 1) := by decide +kernel
theorem d_TX_addSpan_29 : decode prog_11_method_6_code 29 = .ok (.getfield 15, 3) := by decide +kernel
theorem d_TX_addSpan_32 : decode prog_11_method_6_code 32 = .ok (.iload_n 3, 1) := by decide +kernel
theorem d_TX_addSpan_33 : decode prog_11_method_6_code 33 = .ok (.iload_n 2, 1) := by decide +kernel
theorem d_TX_addSpan_34 : decode prog_11_method_6_code 34 = .ok (.isub, 1) := by decide +kernel
theorem d_TX_addSpan_35 : decode prog_11_method_6_code 35 = .ok (.invokestatic 50, 3) := by decide +kernel
theorem d_TX_addSpan_38 : decode prog_11_method_6_code 38 = .ok (.aload_n 0, 1) := by decide +kernel
theorem d_TX_addSpan_39 : decode prog_11_method_6_code 39 = .ok (.dup, 1) := by decide +kernel
theorem d_TX_addSpan_40 : decode prog_11_method_6_code 40 = .ok (.getfield 15, 3) := by decide +kernel
theorem d_TX_addSpan_43 : decode prog_11_method_6_code 43 = .ok (.iload_n 3, 1) := by decide +kernel
theorem d_TX_addSpan_44 : decode prog_11_method_6_code 44 = .ok (.iload_n 2, 1) := by decide +kernel
theorem d_TX_addSpan_45 : decode prog_11_method_6_code 45 = .ok (.isub, 1) := by decide +kernel
theorem d_TX_addSpan_46 : decode prog_11_method_6_code 46 = .ok (.iadd, 1) := by decide +kernel
theorem d_TX_addSpan_47 : decode prog_11_method_6_code 47 = .ok (.putfield 15, 3) := by decide +kernel
theorem d_TX_addSpan_50 : decode prog_11_method_6_code 50 = .ok (.return_, 1) := by decide +kernel
theorem d_TX_addNumber_0 : decode prog_11_method_7_code 0 = .ok (.sipush 1000, 3) := by decide +kernel
theorem d_TX_addNumber_3 : decode prog_11_method_7_code 3 = .ok (.istore_n 2, 1) := by decide +kernel
theorem d_TX_addNumber_4 : decode prog_11_method_7_code 4 = .ok (.iload_n 2, 1) := by decide +kernel
theorem d_TX_addNumber_5 : decode prog_11_method_7_code 5 = .ok (.iconst 1, 1) := by decide +kernel
theorem d_TX_addNumber_6 : decode prog_11_method_7_code 6 = .ok (.if_icmp .lt 35, 3) := by decide +kernel
theorem d_TX_addNumber_9 : decode prog_11_method_7_code 9 = .ok (.iload_n 1, 1) := by decide +kernel
theorem d_TX_addNumber_10 : decode prog_11_method_7_code 10 = .ok (.iload_n 2, 1) := by decide +kernel
theorem d_TX_addNumber_11 : decode prog_11_method_7_code 11 = .ok (.if_icmp .ge 8, 3) := by decide +kernel
theorem d_TX_addNumber_14 : decode prog_11_method_7_code 14 = .ok (.iload_n 2, 1) := by decide +kernel
theorem d_TX_addNumber_15 : decode prog_11_method_7_code 15 = .ok (.iconst 1, 1) := by decide +kernel
theorem d_TX_addNumber_16 : decode prog_11_method_7_code 16 = .ok (.if_icmp .ne 17, 3) := by decide +kernel
theorem d_TX_addNumber_19 : decode prog_11_method_7_code 19 = .ok (.aload_n 0, 1) := by decide +kernel
theorem d_TX_addNumber_20 : decode prog_11_method_7_code 20 = .ok (.bipush 48, 2) := by decide +kernel
theorem d_TX_addNumber_22 : decode prog_11_method_7_code 22 = .ok (.iload_n 1, 1) := by decide +kernel
theorem d_TX_addNumber_23 : decode prog_11_method_7_code 23 = .ok (.iload_n 2, 1) := by decide +kernel
theorem d_TX_addNumber_24 : decode prog_11_method_7_code 24 = .ok (.idiv, 1) := by decide +kernel
theorem d_TX_addNumber_25 : decode prog_11_method_7_code 25 = .ok (.bipush 10, 2) := by decide +kernel
theorem d_TX_addNumber_27 : decode prog_11_method_7_code 27 = .ok (.irem, 1) := by decide +kernel
theorem d_TX_addNumber_28 : decode prog_11_method_7_code 28 = .ok (.iadd, 1) := by decide +kernel
theorem d_TX_addNumber_29 : decode prog_11_method_7_code 29 = .ok (.i2c, 1) := by decide +kernel
theorem d_TX_addNumber_30 : decode prog_11_method_7_code 30 = .ok (.invokevirtual 33, 3) := by decide +kernel
theorem d_TX_addNumber_33 : decode prog_11_method_7_code 33 = .ok (.iload_n 2, 1) := by decide +kernel
theorem d_TX_addNumber_34 : decode prog_11_method_7_code 34 = .ok (.bipush 10, 2) := by decide +kernel
theorem d_TX_addNumber_36 : decode prog_11_method_7_code 36 = .ok (.idiv, 1) := by decide +kernel
theorem d_TX_addNumber_37 : decode prog_11_method_7_code 37 = .ok (.istore_n 2, 1) := by decide +kernel
theorem d_TX_addNumber_38 : decode prog_11_method_7_code 38 = .ok (.goto (-34), 3) := by decide +kernel
theorem d_TX_addNumber_41 : decode prog_11_method_7_code 41 = .ok (.return_, 1) := by decide +kernel
theorem d_TX_addFileOf_0 : decode prog_11_method_8_code 0 = .ok (.aload_n 1, 1) := by decide +kernel
theorem d_TX_addFileOf_1 : decode prog_11_method_8_code 1 = .ok (.invokevirtual 56, 3) := by decide +kernel
theorem d_TX_addFileOf_4 : decode prog_11_method_8_code 4 = .ok (.iconst (-1), 1) := by decide +kernel
theorem d_TX_addFileOf_5 : decode prog_11_method_8_code 5 = .ok (.if_icmp .ne 10, 3) := by decide +kernel
theorem d_TX_addFileOf_8 : decode prog_11_method_8_code 8 = .ok (.aload_n 1, 1) := by decide +kernel
theorem d_TX_addFileOf_9 : decode prog_11_method_8_code 9 = .ok (.getfield 40, 3) := by decide +kernel
theorem d_TX_addFileOf_12 : decode prog_11_method_8_code 12 = .ok (.goto 9, 3) := by decide +kernel
theorem d_TX_addFileOf_15 : decode prog_11_method_8_code 15 = .ok (.aload_n 1, 1) := by decide +kernel
theorem d_TX_addFileOf_16 : decode prog_11_method_8_code 16 = .ok (.invokevirtual 56, 3) := by decide +kernel
theorem d_TX_addFileOf_19 : decode prog_11_method_8_code 19 = .ok (.iconst 1, 1) := by decide +kernel
theorem d_TX_addFileOf_20 : decode prog_11_method_8_code 20 = .ok (.iadd, 1) := by decide +kernel
theorem d_TX_addFileOf_21 : decode prog_11_method_8_code 21 = .ok (.istore_n 2, 1) := by decide +kernel
theorem d_TX_addFileOf_22 : decode prog_11_method_8_code 22 = .ok (.aload_n 1, 1) := by decide +kernel
theorem d_TX_addFileOf_23 : decode prog_11_method_8_code 23 = .ok (.getfield 43, 3) := by decide +kernel
theorem d_TX_addFileOf_26 : decode prog_11_method_8_code 26 = .ok (.istore_n 3, 1) := by decide +kernel
theorem d_TX_addFileOf_27 : decode prog_11_method_8_code 27 = .ok (.aload_n 1, 1) := by decide +kernel
theorem d_TX_addFileOf_28 : decode prog_11_method_8_code 28 = .ok (.getfield 43, 3) := by decide +kernel
theorem d_TX_addFileOf_31 : decode prog_11_method_8_code 31 = .ok (.iconst 1, 1) := by decide +kernel
theorem d_TX_addFileOf_32 : decode prog_11_method_8_code 32 = .ok (.isub, 1) := by decide +kernel
theorem d_TX_addFileOf_33 : decode prog_11_method_8_code 33 = .ok (.istore 4, 2) := by decide +kernel
theorem d_TX_addFileOf_35 : decode prog_11_method_8_code 35 = .ok (.iload 4, 2) := by decide +kernel
theorem d_TX_addFileOf_37 : decode prog_11_method_8_code 37 = .ok (.iload_n 2, 1) := by decide +kernel
theorem d_TX_addFileOf_38 : decode prog_11_method_8_code 38 = .ok (.if_icmp .le 24, 3) := by decide +kernel
theorem d_TX_addFileOf_41 : decode prog_11_method_8_code 41 = .ok (.aload_n 1, 1) := by decide +kernel
theorem d_TX_addFileOf_42 : decode prog_11_method_8_code 42 = .ok (.getfield 37, 3) := by decide +kernel
theorem d_TX_addFileOf_45 : decode prog_11_method_8_code 45 = .ok (.iload 4, 2) := by decide +kernel
theorem d_TX_addFileOf_47 : decode prog_11_method_8_code 47 = .ok (.caload, 1) := by decide +kernel
theorem d_TX_addFileOf_48 : decode prog_11_method_8_code 48 = .ok (.bipush 36, 2) := by decide +kernel
theorem d_TX_addFileOf_50 : decode prog_11_method_8_code 50 = .ok (.if_icmp .ne 6, 3) := by decide +kernel
theorem d_TX_addFileOf_53 : decode prog_11_method_8_code 53 = .ok (.iload 4, 2) := by decide +kernel
theorem d_TX_addFileOf_55 : decode prog_11_method_8_code 55 = .ok (.istore_n 3, 1) := by decide +kernel
theorem d_TX_addFileOf_56 : decode prog_11_method_8_code 56 = .ok (.iinc 4 (-1), 3) := by decide +kernel
theorem d_TX_addFileOf_59 : decode prog_11_method_8_code 59 = .ok (.goto (-24), 3) := by decide +kernel
theorem d_TX_addFileOf_62 : decode prog_11_method_8_code 62 = .ok (.aload_n 0, 1) := by decide +kernel
theorem d_TX_addFileOf_63 : decode prog_11_method_8_code 63 = .ok (.aload_n 1, 1) := by decide +kernel
theorem d_TX_addFileOf_64 : decode prog_11_method_8_code 64 = .ok (.getfield 37, 3) := by decide +kernel
theorem d_TX_addFileOf_67 : decode prog_11_method_8_code 67 = .ok (.iload_n 2, 1) := by decide +kernel
theorem d_TX_addFileOf_68 : decode prog_11_method_8_code 68 = .ok (.iload_n 3, 1) := by decide +kernel
theorem d_TX_addFileOf_69 : decode prog_11_method_8_code 69 = .ok (.invokevirtual 46, 3) := by decide +kernel
theorem d_TX_addFileOf_72 : decode prog_11_method_8_code 72 = .ok (.aload_n 0, 1) := by decide +kernel
theorem d_TX_addFileOf_73 : decode prog_11_method_8_code 73 = .ok (.ldc 59, 2) := by decide +kernel
theorem d_TX_addFileOf_75 : decode prog_11_method_8_code 75 = .ok (.invokevirtual 61, 3) := by decide +kernel
theorem d_TX_addFileOf_78 : decode prog_11_method_8_code 78 = .ok (.return_, 1) := by decide +kernel
theorem d_TX_sizeWithoutEmptyLastLine_0 : decode prog_11_method_9_code 0 = .ok (.aload_n 0, 1) := by decide +kernel
theorem d_TX_sizeWithoutEmptyLastLine_1 : decode prog_11_method_9_code 1 = .ok (.getfield 15, 3) := by decide +kernel
theorem d_TX_sizeWithoutEmptyLastLine_4 : decode prog_11_method_9_code 4 = .ok (.ifCond .le 28, 3) := by decide +kernel
theorem d_TX_sizeWithoutEmptyLastLine_7 : decode prog_11_method_9_code 7 = .ok (.aload_n 0, 1) := by decide +kernel
theorem d_TX_sizeWithoutEmptyLastLine_8 : decode prog_11_method_9_code 8 = .ok (.getfield 9, 3) := by decide +kernel
theorem d_TX_sizeWithoutEmptyLastLine_11 : decode prog_11_method_9_code 11 = .ok (.aload_n 0, 1) := by decide +kernel
theorem d_TX_sizeWithoutEmptyLastLine_12 : decode prog_11_method_9_code 12 = .ok (.getfield 15, 3) := by decide +kernel
theorem d_TX_sizeWithoutEmptyLastLine_15 : decode prog_11_method_9_code 15 = .ok (.iconst 1, 1) := by decide +kernel
theorem d_TX_sizeWithoutEmptyLastLine_16 : decode prog_11_method_9_code 16 = .ok (.isub, 1) := by decide +kernel
theorem d_TX_sizeWithoutEmptyLastLine_17 : decode prog_11_method_9_code 17 = .ok (.caload, 1) := by decide +kernel
theorem d_TX_sizeWithoutEmptyLastLine_18 : decode prog_11_method_9_code 18 = .ok (.bipush 10, 2) := by decide +kernel
theorem d_TX_sizeWithoutEmptyLastLine_20 : decode prog_11_method_9_code 20 = .ok (.if_icmp .ne 12, 3) := by decide +kernel
theorem d_TX_sizeWithoutEmptyLastLine_23 : decode prog_11_method_9_code 23 = .ok (.aload_n 0, 1) := by decide +kernel
theorem d_TX_sizeWithoutEmptyLastLine_24 : decode prog_11_method_9_code 24 = .ok (.getfield 15, 3) := by decide +kernel
theorem d_TX_sizeWithoutEmptyLastLine_27 : decode prog_11_method_9_code 27 = .ok (.iconst 1, 1) := by decide +kernel
theorem d_TX_sizeWithoutEmptyLastLine_28 : decode prog_11_method_9_code 28 = .ok (.isub, 1) := by decide +kernel
theorem d_TX_sizeWithoutEmptyLastLine_29 : decode prog_11_method_9_code 29 = .ok (.goto 7, 3) := by decide +kernel
theorem d_TX_sizeWithoutEmptyLastLine_32 : decode prog_11_method_9_code 32 = .ok (.aload_n 0, 1) := by decide +kernel
theorem d_TX_sizeWithoutEmptyLastLine_33 : decode prog_11_method_9_code 33 = .ok (.getfield 15, 3) := by decide +kernel
theorem d_TX_sizeWithoutEmptyLastLine_36 : decode prog_11_method_9_code 36 = .ok (.ireturn, 1) := by decide +kernel
theorem d_TX_hasWordAt_0 : decode prog_11_method_10_code 0 = .ok (.aload_n 2, 1) := by decide +kernel
theorem d_TX_hasWordAt_1 : decode prog_11_method_10_code 1 = .ok (.invokevirtual 23, 3) := by decide +kernel
theorem d_TX_hasWordAt_4 : decode prog_11_method_10_code 4 = .ok (.aload_n 0, 1) := by decide +kernel
theorem d_TX_hasWordAt_5 : decode prog_11_method_10_code 5 = .ok (.getfield 15, 3) := by decide +kernel
theorem d_TX_hasWordAt_8 : decode prog_11_method_10_code 8 = .ok (.iload_n 1, 1) := by decide +kernel
theorem d_TX_hasWordAt_9 : decode prog_11_method_10_code 9 = .ok (.isub, 1) := by decide +kernel
theorem d_TX_hasWordAt_10 : decode prog_11_method_10_code 10 = .ok (.if_icmp .le 5, 3) := by decide +kernel
theorem d_TX_hasWordAt_13 : decode prog_11_method_10_code 13 = .ok (.iconst 0, 1) := by decide +kernel
theorem d_TX_hasWordAt_14 : decode prog_11_method_10_code 14 = .ok (.ireturn, 1) := by decide +kernel
theorem d_TX_hasWordAt_15 : decode prog_11_method_10_code 15 = .ok (.iconst 0, 1) := by decide +kernel
theorem d_TX_hasWordAt_16 : decode prog_11_method_10_code 16 = .ok (.istore_n 3, 1) := by decide +kernel
theorem d_TX_hasWordAt_17 : decode prog_11_method_10_code 17 = .ok (.iload_n 3, 1) := by decide +kernel
theorem d_TX_hasWordAt_18 : decode prog_11_method_10_code 18 = .ok (.aload_n 2, 1) := by decide +kernel
theorem d_TX_hasWordAt_19 : decode prog_11_method_10_code 19 = .ok (.invokevirtual 23, 3) := by decide +kernel
theorem d_TX_hasWordAt_22 : decode prog_11_method_10_code 22 = .ok (.if_icmp .ge 27, 3) := by decide +kernel
theorem d_TX_hasWordAt_25 : decode prog_11_method_10_code 25 = .ok (.aload_n 0, 1) := by decide +kernel
theorem d_TX_hasWordAt_26 : decode prog_11_method_10_code 26 = .ok (.getfield 9, 3) := by decide +kernel
theorem d_TX_hasWordAt_29 : decode prog_11_method_10_code 29 = .ok (.iload_n 1, 1) := by decide +kernel
theorem d_TX_hasWordAt_30 : decode prog_11_method_10_code 30 = .ok (.iload_n 3, 1) := by decide +kernel
theorem d_TX_hasWordAt_31 : decode prog_11_method_10_code 31 = .ok (.iadd, 1) := by decide +kernel
theorem d_TX_hasWordAt_32 : decode prog_11_method_10_code 32 = .ok (.caload, 1) := by decide +kernel
theorem d_TX_hasWordAt_33 : decode prog_11_method_10_code 33 = .ok (.aload_n 2, 1) := by decide +kernel
theorem d_TX_hasWordAt_34 : decode prog_11_method_10_code 34 = .ok (.iload_n 3, 1) := by decide +kernel
theorem d_TX_hasWordAt_35 : decode prog_11_method_10_code 35 = .ok (.invokevirtual 29, 3) := by decide +kernel
theorem d_TX_hasWordAt_38 : decode prog_11_method_10_code 38 = .ok (.if_icmp .eq 5, 3) := by decide +kernel
theorem d_TX_hasWordAt_41 : decode prog_11_method_10_code 41 = .ok (.iconst 0, 1) := by decide +kernel
theorem d_TX_hasWordAt_42 : decode prog_11_method_10_code 42 = .ok (.ireturn, 1) := by decide +kernel
theorem d_TX_hasWordAt_43 : decode prog_11_method_10_code 43 = .ok (.iinc 3 1, 3) := by decide +kernel
theorem d_TX_hasWordAt_46 : decode prog_11_method_10_code 46 = .ok (.goto (-29), 3) := by decide +kernel
theorem d_TX_hasWordAt_49 : decode prog_11_method_10_code 49 = .ok (.iconst 1, 1) := by decide +kernel
theorem d_TX_hasWordAt_50 : decode prog_11_method_10_code 50 = .ok (.ireturn, 1) := by decide +kernel
theorem d_TX_placeOf_0 : decode prog_11_method_11_code 0 = .ok (.iload_n 2, 1) := by decide +kernel
theorem d_TX_placeOf_1 : decode prog_11_method_11_code 1 = .ok (.istore 4, 2) := by decide +kernel
theorem d_TX_placeOf_3 : decode prog_11_method_11_code 3 = .ok (.iload 4, 2) := by decide +kernel
theorem d_TX_placeOf_5 : decode prog_11_method_11_code 5 = .ok (.iload_n 3, 1) := by decide +kernel
theorem d_TX_placeOf_6 : decode prog_11_method_11_code 6 = .ok (.if_icmp .ge 23, 3) := by decide +kernel
theorem d_TX_placeOf_9 : decode prog_11_method_11_code 9 = .ok (.aload_n 0, 1) := by decide +kernel
theorem d_TX_placeOf_10 : decode prog_11_method_11_code 10 = .ok (.getfield 9, 3) := by decide +kernel
theorem d_TX_placeOf_13 : decode prog_11_method_11_code 13 = .ok (.iload 4, 2) := by decide +kernel
theorem d_TX_placeOf_15 : decode prog_11_method_11_code 15 = .ok (.caload, 1) := by decide +kernel
theorem d_TX_placeOf_16 : decode prog_11_method_11_code 16 = .ok (.iload_n 1, 1) := by decide +kernel
theorem d_TX_placeOf_17 : decode prog_11_method_11_code 17 = .ok (.if_icmp .ne 6, 3) := by decide +kernel
theorem d_TX_placeOf_20 : decode prog_11_method_11_code 20 = .ok (.iload 4, 2) := by decide +kernel
theorem d_TX_placeOf_22 : decode prog_11_method_11_code 22 = .ok (.ireturn, 1) := by decide +kernel
theorem d_TX_placeOf_23 : decode prog_11_method_11_code 23 = .ok (.iinc 4 1, 3) := by decide +kernel
theorem d_TX_placeOf_26 : decode prog_11_method_11_code 26 = .ok (.goto (-23), 3) := by decide +kernel
theorem d_TX_placeOf_29 : decode prog_11_method_11_code 29 = .ok (.iload_n 3, 1) := by decide +kernel
theorem d_TX_placeOf_30 : decode prog_11_method_11_code 30 = .ok (.ireturn, 1) := by decide +kernel
theorem d_TR_init_0 : decode prog_12_method_1_code 0 = .ok (.aload_n 0, 1) := by decide +kernel
theorem d_TR_init_1 : decode prog_12_method_1_code 1 = .ok (.aload_n 1, 1) := by decide +kernel
theorem d_TR_init_2 : decode prog_12_method_1_code 2 = .ok (.invokespecial 3, 3) := by decide +kernel
theorem d_TR_init_5 : decode prog_12_method_1_code 5 = .ok (.aload_n 0, 1) := by decide +kernel
theorem d_TR_init_6 : decode prog_12_method_1_code 6 = .ok (.new 9, 3) := by decide +kernel
theorem d_TR_init_9 : decode prog_12_method_1_code 9 = .ok (.dup, 1) := by decide +kernel
theorem d_TR_init_10 : decode prog_12_method_1_code 10 = .ok (.aload_n 1, 1) := by decide +kernel
theorem d_TR_init_11 : decode prog_12_method_1_code 11 = .ok (.invokespecial 11, 3) := by decide +kernel
theorem d_TR_init_14 : decode prog_12_method_1_code 14 = .ok (.putfield 12, 3) := by decide +kernel
theorem d_TR_init_17 : decode prog_12_method_1_code 17 = .ok (.aload_n 0, 1) := by decide +kernel
theorem d_TR_init_18 : decode prog_12_method_1_code 18 = .ok (.iconst 4, 1) := by decide +kernel
theorem d_TR_init_19 : decode prog_12_method_1_code 19 = .ok (.anewarray 18, 3) := by decide +kernel
theorem d_TR_init_22 : decode prog_12_method_1_code 22 = .ok (.putfield 20, 3) := by decide +kernel
theorem d_TR_init_25 : decode prog_12_method_1_code 25 = .ok (.iconst 0, 1) := by decide +kernel
theorem d_TR_init_26 : decode prog_12_method_1_code 26 = .ok (.istore_n 2, 1) := by decide +kernel
theorem d_TR_init_27 : decode prog_12_method_1_code 27 = .ok (.iload_n 2, 1) := by decide +kernel
theorem d_TR_init_28 : decode prog_12_method_1_code 28 = .ok (.iconst 4, 1) := by decide +kernel
theorem d_TR_init_29 : decode prog_12_method_1_code 29 = .ok (.if_icmp .ge 23, 3) := by decide +kernel
theorem d_TR_init_32 : decode prog_12_method_1_code 32 = .ok (.aload_n 0, 1) := by decide +kernel
theorem d_TR_init_33 : decode prog_12_method_1_code 33 = .ok (.getfield 20, 3) := by decide +kernel
theorem d_TR_init_36 : decode prog_12_method_1_code 36 = .ok (.iload_n 2, 1) := by decide +kernel
theorem d_TR_init_37 : decode prog_12_method_1_code 37 = .ok (.new 18, 3) := by decide +kernel
theorem d_TR_init_40 : decode prog_12_method_1_code 40 = .ok (.dup, 1) := by decide +kernel
theorem d_TR_init_41 : decode prog_12_method_1_code 41 = .ok (.aload_n 1, 1) := by decide +kernel
theorem d_TR_init_42 : decode prog_12_method_1_code 42 = .ok (.invokespecial 24, 3) := by decide +kernel
theorem d_TR_init_45 : decode prog_12_method_1_code 45 = .ok (.aastore, 1) := by decide +kernel
theorem d_TR_init_46 : decode prog_12_method_1_code 46 = .ok (.iinc 2 1, 3) := by decide +kernel
theorem d_TR_init_49 : decode prog_12_method_1_code 49 = .ok (.goto (-22), 3) := by decide +kernel
theorem d_TR_init_52 : decode prog_12_method_1_code 52 = .ok (.aload_n 0, 1) := by decide +kernel
theorem d_TR_init_53 : decode prog_12_method_1_code 53 = .ok (.bipush 20, 2) := by decide +kernel
theorem d_TR_init_55 : decode prog_12_method_1_code 55 = .ok (.anewarray 25, 3) := by decide +kernel
theorem d_TR_init_58 : decode prog_12_method_1_code 58 = .ok (.putfield 27, 3) := by decide +kernel
theorem d_TR_init_61 : decode prog_12_method_1_code 61 = .ok (.iconst 0, 1) := by decide +kernel
theorem d_TR_init_62 : decode prog_12_method_1_code 62 = .ok (.istore_n 2, 1) := by decide +kernel
theorem d_TR_init_63 : decode prog_12_method_1_code 63 = .ok (.iload_n 2, 1) := by decide +kernel
theorem d_TR_init_64 : decode prog_12_method_1_code 64 = .ok (.bipush 20, 2) := by decide +kernel
theorem d_TR_init_66 : decode prog_12_method_1_code 66 = .ok (.if_icmp .ge 23, 3) := by decide +kernel
theorem d_TR_init_69 : decode prog_12_method_1_code 69 = .ok (.aload_n 0, 1) := by decide +kernel
theorem d_TR_init_70 : decode prog_12_method_1_code 70 = .ok (.getfield 27, 3) := by decide +kernel
theorem d_TR_init_73 : decode prog_12_method_1_code 73 = .ok (.iload_n 2, 1) := by decide +kernel
theorem d_TR_init_74 : decode prog_12_method_1_code 74 = .ok (.new 25, 3) := by decide +kernel
theorem d_TR_init_77 : decode prog_12_method_1_code 77 = .ok (.dup, 1) := by decide +kernel
theorem d_TR_init_78 : decode prog_12_method_1_code 78 = .ok (.aload_n 1, 1) := by decide +kernel
theorem d_TR_init_79 : decode prog_12_method_1_code 79 = .ok (.invokespecial 31, 3) := by decide +kernel
theorem d_TR_init_82 : decode prog_12_method_1_code 82 = .ok (.aastore, 1) := by decide +kernel
theorem d_TR_init_83 : decode prog_12_method_1_code 83 = .ok (.iinc 2 1, 3) := by decide +kernel
theorem d_TR_init_86 : decode prog_12_method_1_code 86 = .ok (.goto (-23), 3) := by decide +kernel
theorem d_TR_init_89 : decode prog_12_method_1_code 89 = .ok (.return_, 1) := by decide +kernel
theorem d_TR_begin_0 : decode prog_12_method_2_code 0 = .ok (.aload_n 0, 1) := by decide +kernel
theorem d_TR_begin_1 : decode prog_12_method_2_code 1 = .ok (.iconst 0, 1) := by decide +kernel
theorem d_TR_begin_2 : decode prog_12_method_2_code 2 = .ok (.putfield 32, 3) := by decide +kernel
theorem d_TR_begin_5 : decode prog_12_method_2_code 5 = .ok (.aload_n 0, 1) := by decide +kernel
theorem d_TR_begin_6 : decode prog_12_method_2_code 6 = .ok (.iconst 0, 1) := by decide +kernel
theorem d_TR_begin_7 : decode prog_12_method_2_code 7 = .ok (.putfield 36, 3) := by decide +kernel
theorem d_TR_begin_10 : decode prog_12_method_2_code 10 = .ok (.return_, 1) := by decide +kernel
theorem d_TR_takesLine_0 : decode prog_12_method_3_code 0 = .ok (.aload_n 0, 1) := by decide +kernel
theorem d_TR_takesLine_1 : decode prog_12_method_3_code 1 = .ok (.getfield 32, 3) := by decide +kernel
theorem d_TR_takesLine_4 : decode prog_12_method_3_code 4 = .ok (.ifCond .eq 12, 3) := by decide +kernel
theorem d_TR_takesLine_7 : decode prog_12_method_3_code 7 = .ok (.aload_n 0, 1) := by decide +kernel
theorem d_TR_takesLine_8 : decode prog_12_method_3_code 8 = .ok (.ldc 39, 2) := by decide +kernel
theorem d_TR_takesLine_10 : decode prog_12_method_3_code 10 = .ok (.invokevirtual 41, 3) := by decide +kernel
theorem d_TR_takesLine_13 : decode prog_12_method_3_code 13 = .ok (.ifCond .eq 8, 3) := by decide +kernel
theorem d_TR_takesLine_16 : decode prog_12_method_3_code 16 = .ok (.aload_n 0, 1) := by decide +kernel
theorem d_TR_takesLine_17 : decode prog_12_method_3_code 17 = .ok (.invokevirtual 45, 3) := by decide +kernel
theorem d_TR_takesLine_20 : decode prog_12_method_3_code 20 = .ok (.ireturn, 1) := by decide +kernel
theorem d_TR_takesLine_21 : decode prog_12_method_3_code 21 = .ok (.aload_n 0, 1) := by decide +kernel
theorem d_TR_takesLine_22 : decode prog_12_method_3_code 22 = .ok (.getfield 20, 3) := by decide +kernel
theorem d_TR_takesLine_25 : decode prog_12_method_3_code 25 = .ok (.aload_n 0, 1) := by decide +kernel
theorem d_TR_takesLine_26 : decode prog_12_method_3_code 26 = .ok (.getfield 32, 3) := by decide +kernel
theorem d_TR_takesLine_29 : decode prog_12_method_3_code 29 = .ok (.iconst 1, 1) := by decide +kernel
theorem d_TR_takesLine_30 : decode prog_12_method_3_code 30 = .ok (.isub, 1) := by decide +kernel
theorem d_TR_takesLine_31 : decode prog_12_method_3_code 31 = .ok (.aaload, 1) := by decide +kernel
theorem d_TR_takesLine_32 : decode prog_12_method_3_code 32 = .ok (.astore_n 1, 1) := by decide +kernel
theorem d_TR_takesLine_33 : decode prog_12_method_3_code 33 = .ok (.aload_n 1, 1) := by decide +kernel
theorem d_TR_takesLine_34 : decode prog_12_method_3_code 34 = .ok (.getfield 49, 3) := by decide +kernel
theorem d_TR_takesLine_37 : decode prog_12_method_3_code 37 = .ok (.iconst (-1), 1) := by decide +kernel
theorem d_TR_takesLine_38 : decode prog_12_method_3_code 38 = .ok (.if_icmp .eq 5, 3) := by decide +kernel
theorem d_TR_takesLine_41 : decode prog_12_method_3_code 41 = .ok (.iconst 0, 1) := by decide +kernel
theorem d_TR_takesLine_42 : decode prog_12_method_3_code 42 = .ok (.ireturn, 1) := by decide +kernel
theorem d_TR_takesLine_43 : decode prog_12_method_3_code 43 = .ok (.aload_n 0, 1) := by decide +kernel
theorem d_TR_takesLine_44 : decode prog_12_method_3_code 44 = .ok (.ldc 52, 2) := by decide +kernel
theorem d_TR_takesLine_46 : decode prog_12_method_3_code 46 = .ok (.invokevirtual 41, 3) := by decide +kernel
theorem d_TR_takesLine_49 : decode prog_12_method_3_code 49 = .ok (.ifCond .ne 9, 3) := by decide +kernel
theorem d_TR_takesLine_52 : decode prog_12_method_3_code 52 = .ok (.aload_n 0, 1) := by decide +kernel
theorem d_TR_takesLine_53 : decode prog_12_method_3_code 53 = .ok (.aload_n 1, 1) := by decide +kernel
theorem d_TR_takesLine_54 : decode prog_12_method_3_code 54 = .ok (.invokevirtual 54, 3) := by decide +kernel
theorem d_TR_takesLine_57 : decode prog_12_method_3_code 57 = .ok (.ireturn, 1) := by decide +kernel
theorem d_TR_takesLine_58 : decode prog_12_method_3_code 58 = .ok (.aload_n 0, 1) := by decide +kernel
theorem d_TR_takesLine_59 : decode prog_12_method_3_code 59 = .ok (.getfield 36, 3) := by decide +kernel
theorem d_TR_takesLine_62 : decode prog_12_method_3_code 62 = .ok (.bipush 20, 2) := by decide +kernel
