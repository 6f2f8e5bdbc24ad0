theorem d_MO_sameCalls_61 : decode prog_14_method_60_code 61 = .ok (.iconst 1, 1) := by decide +kernel
theorem d_MO_sameCalls_62 : decode prog_14_method_60_code 62 = .ok (.goto 4, 3) := by decide +kernel
theorem d_MO_sameCalls_65 : decode prog_14_method_60_code 65 = .ok (.iconst 0, 1) := by decide +kernel
theorem d_MO_sameCalls_66 : decode prog_14_method_60_code 66 = .ok (.istore 4, 2) := by decide +kernel
theorem d_MO_sameCalls_68 : decode prog_14_method_60_code 68 = .ok (.iinc 5 1, 3) := by decide +kernel
theorem d_MO_sameCalls_71 : decode prog_14_method_60_code 71 = .ok (.goto (-42), 3) := by decide +kernel
theorem d_MO_sameCalls_74 : decode prog_14_method_60_code 74 = .ok (.iload 4, 2) := by decide +kernel
theorem d_MO_sameCalls_76 : decode prog_14_method_60_code 76 = .ok (.ireturn, 1) := by decide +kernel
theorem d_MO_keyOf_0 : decode prog_14_method_61_code 0 = .ok (.aload_n 0, 1) := by decide +kernel
theorem d_MO_keyOf_1 : decode prog_14_method_61_code 1 = .ok (.ldc2_w 373, 3) := by decide +kernel
theorem d_MO_keyOf_4 : decode prog_14_method_61_code 4 = .ok (.putfield 358, 3) := by decide +kernel
theorem d_MO_keyOf_7 : decode prog_14_method_61_code 7 = .ok (.iconst 0, 1) := by decide +kernel
theorem d_MO_keyOf_8 : decode prog_14_method_61_code 8 = .ok (.istore_n 1, 1) := by decide +kernel
theorem d_MO_keyOf_9 : decode prog_14_method_61_code 9 = .ok (.iconst 0, 1) := by decide +kernel
theorem d_MO_keyOf_10 : decode prog_14_method_61_code 10 = .ok (.istore_n 2, 1) := by decide +kernel
theorem d_MO_keyOf_11 : decode prog_14_method_61_code 11 = .ok (.iconst (-1), 1) := by decide +kernel
theorem d_MO_keyOf_12 : decode prog_14_method_61_code 12 = .ok (.istore_n 3, 1) := by decide +kernel
theorem d_MO_keyOf_13 : decode prog_14_method_61_code 13 = .ok (.iload_n 1, 1) := by decide +kernel
theorem d_MO_keyOf_14 : decode prog_14_method_61_code 14 = .ok (.aload_n 0, 1) := by decide +kernel
theorem d_MO_keyOf_15 : decode prog_14_method_61_code 15 = .ok (.getfield 245, 3) := by decide +kernel
theorem d_MO_keyOf_18 : decode prog_14_method_61_code 18 = .ok (.if_icmp .ge 129, 3) := by decide +kernel
theorem d_MO_keyOf_21 : decode prog_14_method_61_code 21 = .ok (.aload_n 0, 1) := by decide +kernel
theorem d_MO_keyOf_22 : decode prog_14_method_61_code 22 = .ok (.iload_n 1, 1) := by decide +kernel
theorem d_MO_keyOf_23 : decode prog_14_method_61_code 23 = .ok (.invokevirtual 375, 3) := by decide +kernel
theorem d_MO_keyOf_26 : decode prog_14_method_61_code 26 = .ok (.istore 4, 2) := by decide +kernel
theorem d_MO_keyOf_28 : decode prog_14_method_61_code 28 = .ok (.aload_n 0, 1) := by decide +kernel
theorem d_MO_keyOf_29 : decode prog_14_method_61_code 29 = .ok (.iload_n 1, 1) := by decide +kernel
theorem d_MO_keyOf_30 : decode prog_14_method_61_code 30 = .ok (.invokevirtual 341, 3) := by decide +kernel
theorem d_MO_keyOf_33 : decode prog_14_method_61_code 33 = .ok (.ifCond .eq 84, 3) := by decide +kernel
theorem d_MO_keyOf_36 : decode prog_14_method_61_code 36 = .ok (.iload_n 3, 1) := by decide +kernel
theorem d_MO_keyOf_37 : decode prog_14_method_61_code 37 = .ok (.ifCond .lt 12, 3) := by decide +kernel
theorem d_MO_keyOf_40 : decode prog_14_method_61_code 40 = .ok (.aload_n 0, 1) := by decide +kernel
theorem d_MO_keyOf_41 : decode prog_14_method_61_code 41 = .ok (.iload_n 3, 1) := by decide +kernel
theorem d_MO_keyOf_42 : decode prog_14_method_61_code 42 = .ok (.iload_n 1, 1) := by decide +kernel
theorem d_MO_keyOf_43 : decode prog_14_method_61_code 43 = .ok (.invokevirtual 378, 3) := by decide +kernel
theorem d_MO_keyOf_46 : decode prog_14_method_61_code 46 = .ok (.ifCond .ne 66, 3) := by decide +kernel
theorem d_MO_keyOf_49 : decode prog_14_method_61_code 49 = .ok (.iinc 2 1, 3) := by decide +kernel
theorem d_MO_keyOf_52 : decode prog_14_method_61_code 52 = .ok (.iload_n 2, 1) := by decide +kernel
theorem d_MO_keyOf_53 : decode prog_14_method_61_code 53 = .ok (.bipush 6, 2) := by decide +kernel
theorem d_MO_keyOf_55 : decode prog_14_method_61_code 55 = .ok (.if_icmp .gt 11, 3) := by decide +kernel
theorem d_MO_keyOf_58 : decode prog_14_method_61_code 58 = .ok (.aload_n 0, 1) := by decide +kernel
theorem d_MO_keyOf_59 : decode prog_14_method_61_code 59 = .ok (.iload_n 1, 1) := by decide +kernel
theorem d_MO_keyOf_60 : decode prog_14_method_61_code 60 = .ok (.invokevirtual 370, 3) := by decide +kernel
theorem d_MO_keyOf_63 : decode prog_14_method_61_code 63 = .ok (.goto 6, 3) := by decide +kernel
theorem d_MO_keyOf_66 : decode prog_14_method_61_code 66 = .ok (.iload_n 1, 1) := by decide +kernel
theorem d_MO_keyOf_67 : decode prog_14_method_61_code 67 = .ok (.iconst 4, 1) := by decide +kernel
theorem d_MO_keyOf_68 : decode prog_14_method_61_code 68 = .ok (.iadd, 1) := by decide +kernel
theorem d_MO_keyOf_69 : decode prog_14_method_61_code 69 = .ok (.istore 5, 2) := by decide +kernel
theorem d_MO_keyOf_71 : decode prog_14_method_61_code 71 = .ok (.iload_n 1, 1) := by decide +kernel
theorem d_MO_keyOf_72 : decode prog_14_method_61_code 72 = .ok (.iconst 4, 1) := by decide +kernel
theorem d_MO_keyOf_73 : decode prog_14_method_61_code 73 = .ok (.iadd, 1) := by decide +kernel
theorem d_MO_keyOf_74 : decode prog_14_method_61_code 74 = .ok (.istore 6, 2) := by decide +kernel
theorem d_MO_keyOf_76 : decode prog_14_method_61_code 76 = .ok (.iload 6, 2) := by decide +kernel
theorem d_MO_keyOf_78 : decode prog_14_method_61_code 78 = .ok (.iload 5, 2) := by decide +kernel
theorem d_MO_keyOf_80 : decode prog_14_method_61_code 80 = .ok (.if_icmp .ge 20, 3) := by decide +kernel
theorem d_MO_keyOf_83 : decode prog_14_method_61_code 83 = .ok (.aload_n 0, 1) := by decide +kernel
theorem d_MO_keyOf_84 : decode prog_14_method_61_code 84 = .ok (.aload_n 0, 1) := by decide +kernel
theorem d_MO_keyOf_85 : decode prog_14_method_61_code 85 = .ok (.getfield 94, 3) := by decide +kernel
theorem d_MO_keyOf_88 : decode prog_14_method_61_code 88 = .ok (.iload 6, 2) := by decide +kernel
theorem d_MO_keyOf_90 : decode prog_14_method_61_code 90 = .ok (.iaload, 1) := by decide +kernel
theorem d_MO_keyOf_91 : decode prog_14_method_61_code 91 = .ok (.invokevirtual 364, 3) := by decide +kernel
theorem d_MO_keyOf_94 : decode prog_14_method_61_code 94 = .ok (.iinc 6 1, 3) := by decide +kernel
theorem d_MO_keyOf_97 : decode prog_14_method_61_code 97 = .ok (.goto (-21), 3) := by decide +kernel
theorem d_MO_keyOf_100 : decode prog_14_method_61_code 100 = .ok (.iload_n 2, 1) := by decide +kernel
theorem d_MO_keyOf_101 : decode prog_14_method_61_code 101 = .ok (.bipush 6, 2) := by decide +kernel
theorem d_MO_keyOf_103 : decode prog_14_method_61_code 103 = .ok (.if_icmp .gt 9, 3) := by decide +kernel
theorem d_MO_keyOf_106 : decode prog_14_method_61_code 106 = .ok (.aload_n 0, 1) := by decide +kernel
theorem d_MO_keyOf_107 : decode prog_14_method_61_code 107 = .ok (.bipush 10, 2) := by decide +kernel
theorem d_MO_keyOf_109 : decode prog_14_method_61_code 109 = .ok (.invokevirtual 364, 3) := by decide +kernel
theorem d_MO_keyOf_112 : decode prog_14_method_61_code 112 = .ok (.iload_n 1, 1) := by decide +kernel
theorem d_MO_keyOf_113 : decode prog_14_method_61_code 113 = .ok (.istore_n 3, 1) := by decide +kernel
theorem d_MO_keyOf_114 : decode prog_14_method_61_code 114 = .ok (.goto 25, 3) := by decide +kernel
theorem d_MO_keyOf_117 : decode prog_14_method_61_code 117 = .ok (.aload_n 0, 1) := by decide +kernel
theorem d_MO_keyOf_118 : decode prog_14_method_61_code 118 = .ok (.getfield 94, 3) := by decide +kernel
theorem d_MO_keyOf_121 : decode prog_14_method_61_code 121 = .ok (.iload_n 1, 1) := by decide +kernel
theorem d_MO_keyOf_122 : decode prog_14_method_61_code 122 = .ok (.iaload, 1) := by decide +kernel
theorem d_MO_keyOf_123 : decode prog_14_method_61_code 123 = .ok (.bipush 9, 2) := by decide +kernel
theorem d_MO_keyOf_125 : decode prog_14_method_61_code 125 = .ok (.if_icmp .eq 14, 3) := by decide +kernel
theorem d_MO_keyOf_128 : decode prog_14_method_61_code 128 = .ok (.aload_n 0, 1) := by decide +kernel
theorem d_MO_keyOf_129 : decode prog_14_method_61_code 129 = .ok (.iload_n 1, 1) := by decide +kernel
theorem d_MO_keyOf_130 : decode prog_14_method_61_code 130 = .ok (.iload 4, 2) := by decide +kernel
theorem d_MO_keyOf_132 : decode prog_14_method_61_code 132 = .ok (.invokevirtual 381, 3) := by decide +kernel
theorem d_MO_keyOf_135 : decode prog_14_method_61_code 135 = .ok (.iconst 0, 1) := by decide +kernel
theorem d_MO_keyOf_136 : decode prog_14_method_61_code 136 = .ok (.istore_n 2, 1) := by decide +kernel
theorem d_MO_keyOf_137 : decode prog_14_method_61_code 137 = .ok (.iconst (-1), 1) := by decide +kernel
theorem d_MO_keyOf_138 : decode prog_14_method_61_code 138 = .ok (.istore_n 3, 1) := by decide +kernel
theorem d_MO_keyOf_139 : decode prog_14_method_61_code 139 = .ok (.iload 4, 2) := by decide +kernel
theorem d_MO_keyOf_141 : decode prog_14_method_61_code 141 = .ok (.iconst 1, 1) := by decide +kernel
theorem d_MO_keyOf_142 : decode prog_14_method_61_code 142 = .ok (.iadd, 1) := by decide +kernel
theorem d_MO_keyOf_143 : decode prog_14_method_61_code 143 = .ok (.istore_n 1, 1) := by decide +kernel
theorem d_MO_keyOf_144 : decode prog_14_method_61_code 144 = .ok (.goto (-131), 3) := by decide +kernel
theorem d_MO_keyOf_147 : decode prog_14_method_61_code 147 = .ok (.aload_n 0, 1) := by decide +kernel
theorem d_MO_keyOf_148 : decode prog_14_method_61_code 148 = .ok (.getfield 358, 3) := by decide +kernel
theorem d_MO_keyOf_151 : decode prog_14_method_61_code 151 = .ok (.lreturn, 1) := by decide +kernel
theorem d_MO_report_0 : decode prog_14_method_62_code 0 = .ok (.aload_n 0, 1) := by decide +kernel
theorem d_MO_report_1 : decode prog_14_method_62_code 1 = .ok (.aload_n 0, 1) := by decide +kernel
theorem d_MO_report_2 : decode prog_14_method_62_code 2 = .ok (.iconst 1, 1) := by decide +kernel
theorem d_MO_report_3 : decode prog_14_method_62_code 3 = .ok (.invokevirtual 347, 3) := by decide +kernel
theorem d_MO_report_6 : decode prog_14_method_62_code 6 = .ok (.putfield 113, 3) := by decide +kernel
theorem d_MO_report_9 : decode prog_14_method_62_code 9 = .ok (.aload_n 0, 1) := by decide +kernel
theorem d_MO_report_10 : decode prog_14_method_62_code 10 = .ok (.getfield 113, 3) := by decide +kernel
theorem d_MO_report_13 : decode prog_14_method_62_code 13 = .ok (.ifCond .le 5, 3) := by decide +kernel
theorem d_MO_report_16 : decode prog_14_method_62_code 16 = .ok (.iconst 0, 1) := by decide +kernel
theorem d_MO_report_17 : decode prog_14_method_62_code 17 = .ok (.ireturn, 1) := by decide +kernel
theorem d_MO_report_18 : decode prog_14_method_62_code 18 = .ok (.aload_n 0, 1) := by decide +kernel
theorem d_MO_report_19 : decode prog_14_method_62_code 19 = .ok (.invokevirtual 384, 3) := by decide +kernel
theorem d_MO_report_22 : decode prog_14_method_62_code 22 = .ok (.lstore_n 1, 1) := by decide +kernel
theorem d_MO_report_23 : decode prog_14_method_62_code 23 = .ok (.iconst 0, 1) := by decide +kernel
theorem d_MO_report_24 : decode prog_14_method_62_code 24 = .ok (.istore_n 3, 1) := by decide +kernel
theorem d_MO_report_25 : decode prog_14_method_62_code 25 = .ok (.iload_n 3, 1) := by decide +kernel
theorem d_MO_report_26 : decode prog_14_method_62_code 26 = .ok (.aload_n 0, 1) := by decide +kernel
theorem d_MO_report_27 : decode prog_14_method_62_code 27 = .ok (.getfield 388, 3) := by decide +kernel
theorem d_MO_report_30 : decode prog_14_method_62_code 30 = .ok (.if_icmp .ge 20, 3) := by decide +kernel
theorem d_MO_report_33 : decode prog_14_method_62_code 33 = .ok (.aload_n 0, 1) := by decide +kernel
theorem d_MO_report_34 : decode prog_14_method_62_code 34 = .ok (.getfield 100, 3) := by decide +kernel
theorem d_MO_report_37 : decode prog_14_method_62_code 37 = .ok (.iload_n 3, 1) := by decide +kernel
theorem d_MO_report_38 : decode prog_14_method_62_code 38 = .ok (.laload, 1) := by decide +kernel
theorem d_MO_report_39 : decode prog_14_method_62_code 39 = .ok (.lload_n 1, 1) := by decide +kernel
theorem d_MO_report_40 : decode prog_14_method_62_code 40 = .ok (.lcmp, 1) := by decide +kernel
theorem d_MO_report_41 : decode prog_14_method_62_code 41 = .ok (.ifCond .eq 9, 3) := by decide +kernel
theorem d_MO_report_44 : decode prog_14_method_62_code 44 = .ok (.iinc 3 1, 3) := by decide +kernel
theorem d_MO_report_47 : decode prog_14_method_62_code 47 = .ok (.goto (-22), 3) := by decide +kernel
theorem d_MO_report_50 : decode prog_14_method_62_code 50 = .ok (.iload_n 3, 1) := by decide +kernel
theorem d_MO_report_51 : decode prog_14_method_62_code 51 = .ok (.bipush 16, 2) := by decide +kernel
theorem d_MO_report_53 : decode prog_14_method_62_code 53 = .ok (.if_icmp .ne 10, 3) := by decide +kernel
theorem d_MO_report_56 : decode prog_14_method_62_code 56 = .ok (.aload_n 0, 1) := by decide +kernel
theorem d_MO_report_57 : decode prog_14_method_62_code 57 = .ok (.iconst 2, 1) := by decide +kernel
theorem d_MO_report_58 : decode prog_14_method_62_code 58 = .ok (.putfield 113, 3) := by decide +kernel
theorem d_MO_report_61 : decode prog_14_method_62_code 61 = .ok (.iconst 0, 1) := by decide +kernel
theorem d_MO_report_62 : decode prog_14_method_62_code 62 = .ok (.ireturn, 1) := by decide +kernel
theorem d_MO_report_63 : decode prog_14_method_62_code 63 = .ok (.aload_n 0, 1) := by decide +kernel
theorem d_MO_report_64 : decode prog_14_method_62_code 64 = .ok (.aload_n 0, 1) := by decide +kernel
theorem d_MO_report_65 : decode prog_14_method_62_code 65 = .ok (.getfield 298, 3) := by decide +kernel
theorem d_MO_report_68 : decode prog_14_method_62_code 68 = .ok (.putfield 351, 3) := by decide +kernel
theorem d_MO_report_71 : decode prog_14_method_62_code 71 = .ok (.aload_n 0, 1) := by decide +kernel
theorem d_MO_report_72 : decode prog_14_method_62_code 72 = .ok (.invokevirtual 354, 3) := by decide +kernel
theorem d_MO_report_75 : decode prog_14_method_62_code 75 = .ok (.istore 4, 2) := by decide +kernel
theorem d_MO_report_77 : decode prog_14_method_62_code 77 = .ok (.aload_n 0, 1) := by decide +kernel
theorem d_MO_report_78 : decode prog_14_method_62_code 78 = .ok (.iload 4, 2) := by decide +kernel
theorem d_MO_report_80 : decode prog_14_method_62_code 80 = .ok (.ifCond .lt 12, 3) := by decide +kernel
theorem d_MO_report_83 : decode prog_14_method_62_code 83 = .ok (.aload_n 0, 1) := by decide +kernel
theorem d_MO_report_84 : decode prog_14_method_62_code 84 = .ok (.getfield 391, 3) := by decide +kernel
theorem d_MO_report_87 : decode prog_14_method_62_code 87 = .ok (.iconst 1, 1) := by decide +kernel
theorem d_MO_report_88 : decode prog_14_method_62_code 88 = .ok (.iadd, 1) := by decide +kernel
theorem d_MO_report_89 : decode prog_14_method_62_code 89 = .ok (.goto 7, 3) := by decide +kernel
theorem d_MO_report_92 : decode prog_14_method_62_code 92 = .ok (.aload_n 0, 1) := by decide +kernel
theorem d_MO_report_93 : decode prog_14_method_62_code 93 = .ok (.getfield 391, 3) := by decide +kernel
theorem d_MO_report_96 : decode prog_14_method_62_code 96 = .ok (.putfield 391, 3) := by decide +kernel
theorem d_MO_report_99 : decode prog_14_method_62_code 99 = .ok (.iload_n 3, 1) := by decide +kernel
theorem d_MO_report_100 : decode prog_14_method_62_code 100 = .ok (.aload_n 0, 1) := by decide +kernel
theorem d_MO_report_101 : decode prog_14_method_62_code 101 = .ok (.getfield 388, 3) := by decide +kernel
theorem d_MO_report_104 : decode prog_14_method_62_code 104 = .ok (.if_icmp .ne 37, 3) := by decide +kernel
theorem d_MO_report_107 : decode prog_14_method_62_code 107 = .ok (.aload_n 0, 1) := by decide +kernel
theorem d_MO_report_108 : decode prog_14_method_62_code 108 = .ok (.getfield 100, 3) := by decide +kernel
theorem d_MO_report_111 : decode prog_14_method_62_code 111 = .ok (.iload_n 3, 1) := by decide +kernel
theorem d_MO_report_112 : decode prog_14_method_62_code 112 = .ok (.lload_n 1, 1) := by decide +kernel
theorem d_MO_report_113 : decode prog_14_method_62_code 113 = .ok (.lastore, 1) := by decide +kernel
theorem d_MO_report_114 : decode prog_14_method_62_code 114 = .ok (.aload_n 0, 1) := by decide +kernel
theorem d_MO_report_115 : decode prog_14_method_62_code 115 = .ok (.getfield 104, 3) := by decide +kernel
theorem d_MO_report_118 : decode prog_14_method_62_code 118 = .ok (.iload_n 3, 1) := by decide +kernel
theorem d_MO_report_119 : decode prog_14_method_62_code 119 = .ok (.iconst 0, 1) := by decide +kernel
theorem d_MO_report_120 : decode prog_14_method_62_code 120 = .ok (.iastore, 1) := by decide +kernel
theorem d_MO_report_121 : decode prog_14_method_62_code 121 = .ok (.aload_n 0, 1) := by decide +kernel
theorem d_MO_report_122 : decode prog_14_method_62_code 122 = .ok (.getfield 107, 3) := by decide +kernel
theorem d_MO_report_125 : decode prog_14_method_62_code 125 = .ok (.iload_n 3, 1) := by decide +kernel
theorem d_MO_report_126 : decode prog_14_method_62_code 126 = .ok (.aload_n 0, 1) := by decide +kernel
theorem d_MO_report_127 : decode prog_14_method_62_code 127 = .ok (.getfield 391, 3) := by decide +kernel
theorem d_MO_report_130 : decode prog_14_method_62_code 130 = .ok (.iastore, 1) := by decide +kernel
theorem d_MO_report_131 : decode prog_14_method_62_code 131 = .ok (.aload_n 0, 1) := by decide +kernel
theorem d_MO_report_132 : decode prog_14_method_62_code 132 = .ok (.dup, 1) := by decide +kernel
theorem d_MO_report_133 : decode prog_14_method_62_code 133 = .ok (.getfield 388, 3) := by decide +kernel
theorem d_MO_report_136 : decode prog_14_method_62_code 136 = .ok (.iconst 1, 1) := by decide +kernel
theorem d_MO_report_137 : decode prog_14_method_62_code 137 = .ok (.iadd, 1) := by decide +kernel
theorem d_MO_report_138 : decode prog_14_method_62_code 138 = .ok (.putfield 388, 3) := by decide +kernel
theorem d_MO_report_141 : decode prog_14_method_62_code 141 = .ok (.aload_n 0, 1) := by decide +kernel
theorem d_MO_report_142 : decode prog_14_method_62_code 142 = .ok (.getfield 104, 3) := by decide +kernel
theorem d_MO_report_145 : decode prog_14_method_62_code 145 = .ok (.iload_n 3, 1) := by decide +kernel
theorem d_MO_report_146 : decode prog_14_method_62_code 146 = .ok (.dup2, 1) := by decide +kernel
theorem d_MO_report_147 : decode prog_14_method_62_code 147 = .ok (.iaload, 1) := by decide +kernel
theorem d_MO_report_148 : decode prog_14_method_62_code 148 = .ok (.iconst 1, 1) := by decide +kernel
theorem d_MO_report_149 : decode prog_14_method_62_code 149 = .ok (.iadd, 1) := by decide +kernel
theorem d_MO_report_150 : decode prog_14_method_62_code 150 = .ok (.iastore, 1) := by decide +kernel
theorem d_MO_report_151 : decode prog_14_method_62_code 151 = .ok (.aload_n 0, 1) := by decide +kernel
theorem d_MO_report_152 : decode prog_14_method_62_code 152 = .ok (.getfield 110, 3) := by decide +kernel
theorem d_MO_report_155 : decode prog_14_method_62_code 155 = .ok (.iload_n 3, 1) := by decide +kernel
theorem d_MO_report_156 : decode prog_14_method_62_code 156 = .ok (.aload_n 0, 1) := by decide +kernel
theorem d_MO_report_157 : decode prog_14_method_62_code 157 = .ok (.getfield 391, 3) := by decide +kernel
theorem d_MO_report_160 : decode prog_14_method_62_code 160 = .ok (.iastore, 1) := by decide +kernel
theorem d_MO_report_161 : decode prog_14_method_62_code 161 = .ok (.iload_n 3, 1) := by decide +kernel
theorem d_MO_report_162 : decode prog_14_method_62_code 162 = .ok (.ireturn, 1) := by decide +kernel
theorem d_MO_wrong_0 : decode prog_14_method_63_code 0 = .ok (.aload_n 0, 1) := by decide +kernel
theorem d_MO_wrong_1 : decode prog_14_method_63_code 1 = .ok (.iconst 0, 1) := by decide +kernel
theorem d_MO_wrong_2 : decode prog_14_method_63_code 2 = .ok (.putfield 113, 3) := by decide +kernel
theorem d_MO_wrong_5 : decode prog_14_method_63_code 5 = .ok (.aload_n 0, 1) := by decide +kernel
theorem d_MO_wrong_6 : decode prog_14_method_63_code 6 = .ok (.getfield 200, 3) := by decide +kernel
theorem d_MO_wrong_9 : decode prog_14_method_63_code 9 = .ok (.ireturn, 1) := by decide +kernel
theorem d_MO_length_0 : decode prog_14_method_64_code 0 = .ok (.aload_n 0, 1) := by decide +kernel
theorem d_MO_length_1 : decode prog_14_method_64_code 1 = .ok (.iconst 0, 1) := by decide +kernel
theorem d_MO_length_2 : decode prog_14_method_64_code 2 = .ok (.putfield 113, 3) := by decide +kernel
theorem d_MO_length_5 : decode prog_14_method_64_code 5 = .ok (.aload_n 0, 1) := by decide +kernel
theorem d_MO_length_6 : decode prog_14_method_64_code 6 = .ok (.getfield 344, 3) := by decide +kernel
theorem d_MO_length_9 : decode prog_14_method_64_code 9 = .ok (.ireturn, 1) := by decide +kernel
theorem d_MO_at_0 : decode prog_14_method_65_code 0 = .ok (.aload_n 0, 1) := by decide +kernel
theorem d_MO_at_1 : decode prog_14_method_65_code 1 = .ok (.iload_n 1, 1) := by decide +kernel
theorem d_MO_at_2 : decode prog_14_method_65_code 2 = .ok (.ifCond .lt 11, 3) := by decide +kernel
theorem d_MO_at_5 : decode prog_14_method_65_code 5 = .ok (.iload_n 1, 1) := by decide +kernel
theorem d_MO_at_6 : decode prog_14_method_65_code 6 = .ok (.aload_n 0, 1) := by decide +kernel
theorem d_MO_at_7 : decode prog_14_method_65_code 7 = .ok (.getfield 344, 3) := by decide +kernel
theorem d_MO_at_10 : decode prog_14_method_65_code 10 = .ok (.if_icmp .lt 7, 3) := by decide +kernel
theorem d_MO_at_13 : decode prog_14_method_65_code 13 = .ok (.iconst 1, 1) := by decide +kernel
theorem d_MO_at_14 : decode prog_14_method_65_code 14 = .ok (.goto 4, 3) := by decide +kernel
theorem d_MO_at_17 : decode prog_14_method_65_code 17 = .ok (.iconst 0, 1) := by decide +kernel
theorem d_MO_at_18 : decode prog_14_method_65_code 18 = .ok (.putfield 113, 3) := by decide +kernel
theorem d_MO_at_21 : decode prog_14_method_65_code 21 = .ok (.aload_n 0, 1) := by decide +kernel
theorem d_MO_at_22 : decode prog_14_method_65_code 22 = .ok (.getfield 113, 3) := by decide +kernel
theorem d_MO_at_25 : decode prog_14_method_65_code 25 = .ok (.ifCond .le 7, 3) := by decide +kernel
theorem d_MO_at_28 : decode prog_14_method_65_code 28 = .ok (.iconst 0, 1) := by decide +kernel
theorem d_MO_at_29 : decode prog_14_method_65_code 29 = .ok (.goto 9, 3) := by decide +kernel
theorem d_MO_at_32 : decode prog_14_method_65_code 32 = .ok (.aload_n 0, 1) := by decide +kernel
theorem d_MO_at_33 : decode prog_14_method_65_code 33 = .ok (.getfield 97, 3) := by decide +kernel
theorem d_MO_at_36 : decode prog_14_method_65_code 36 = .ok (.iload_n 1, 1) := by decide +kernel
theorem d_MO_at_37 : decode prog_14_method_65_code 37 = .ok (.iaload, 1) := by decide +kernel
theorem d_MO_at_38 : decode prog_14_method_65_code 38 = .ok (.ireturn, 1) := by decide +kernel
theorem d_MO_doubtful_0 : decode prog_14_method_66_code 0 = .ok (.aload_n 0, 1) := by decide +kernel
theorem d_MO_doubtful_1 : decode prog_14_method_66_code 1 = .ok (.iconst 0, 1) := by decide +kernel
theorem d_MO_doubtful_2 : decode prog_14_method_66_code 2 = .ok (.putfield 113, 3) := by decide +kernel
theorem d_MO_doubtful_5 : decode prog_14_method_66_code 5 = .ok (.aload_n 0, 1) := by decide +kernel
theorem d_MO_doubtful_6 : decode prog_14_method_66_code 6 = .ok (.getfield 351, 3) := by decide +kernel
theorem d_MO_doubtful_9 : decode prog_14_method_66_code 9 = .ok (.ireturn, 1) := by decide +kernel
theorem d_MO_groups_0 : decode prog_14_method_67_code 0 = .ok (.aload_n 0, 1) := by decide +kernel
theorem d_MO_groups_1 : decode prog_14_method_67_code 1 = .ok (.iload_n 1, 1) := by decide +kernel
theorem d_MO_groups_2 : decode prog_14_method_67_code 2 = .ok (.ifCond .lt 11, 3) := by decide +kernel
theorem d_MO_groups_5 : decode prog_14_method_67_code 5 = .ok (.iload_n 1, 1) := by decide +kernel
theorem d_MO_groups_6 : decode prog_14_method_67_code 6 = .ok (.aload_n 0, 1) := by decide +kernel
theorem d_MO_groups_7 : decode prog_14_method_67_code 7 = .ok (.getfield 145, 3) := by decide +kernel
theorem d_MO_groups_10 : decode prog_14_method_67_code 10 = .ok (.if_icmp .lt 7, 3) := by decide +kernel
theorem d_MO_groups_13 : decode prog_14_method_67_code 13 = .ok (.iconst 1, 1) := by decide +kernel
theorem d_MO_groups_14 : decode prog_14_method_67_code 14 = .ok (.goto 4, 3) := by decide +kernel
theorem d_MO_groups_17 : decode prog_14_method_67_code 17 = .ok (.iconst 0, 1) := by decide +kernel
theorem d_MO_groups_18 : decode prog_14_method_67_code 18 = .ok (.putfield 113, 3) := by decide +kernel
theorem d_MO_groups_21 : decode prog_14_method_67_code 21 = .ok (.iconst 0, 1) := by decide +kernel
theorem d_MO_groups_22 : decode prog_14_method_67_code 22 = .ok (.istore_n 2, 1) := by decide +kernel
theorem d_MO_groups_23 : decode prog_14_method_67_code 23 = .ok (.iconst 0, 1) := by decide +kernel
theorem d_MO_groups_24 : decode prog_14_method_67_code 24 = .ok (.istore_n 3, 1) := by decide +kernel
theorem d_MO_groups_25 : decode prog_14_method_67_code 25 = .ok (.iload_n 3, 1) := by decide +kernel
theorem d_MO_groups_26 : decode prog_14_method_67_code 26 = .ok (.aload_n 0, 1) := by decide +kernel
theorem d_MO_groups_27 : decode prog_14_method_67_code 27 = .ok (.getfield 173, 3) := by decide +kernel
theorem d_MO_groups_30 : decode prog_14_method_67_code 30 = .ok (.if_icmp .ge 38, 3) := by decide +kernel
theorem d_MO_groups_33 : decode prog_14_method_67_code 33 = .ok (.aload_n 0, 1) := by decide +kernel
theorem d_MO_groups_34 : decode prog_14_method_67_code 34 = .ok (.getfield 113, 3) := by decide +kernel
theorem d_MO_groups_37 : decode prog_14_method_67_code 37 = .ok (.ifCond .ne 31, 3) := by decide +kernel
theorem d_MO_groups_40 : decode prog_14_method_67_code 40 = .ok (.aload_n 0, 1) := by decide +kernel
theorem d_MO_groups_41 : decode prog_14_method_67_code 41 = .ok (.getfield 61, 3) := by decide +kernel
theorem d_MO_groups_44 : decode prog_14_method_67_code 44 = .ok (.aload_n 0, 1) := by decide +kernel
theorem d_MO_groups_45 : decode prog_14_method_67_code 45 = .ok (.iload_n 3, 1) := by decide +kernel
theorem d_MO_groups_46 : decode prog_14_method_67_code 46 = .ok (.invokevirtual 269, 3) := by decide +kernel
theorem d_MO_groups_49 : decode prog_14_method_67_code 49 = .ok (.iaload, 1) := by decide +kernel
theorem d_MO_groups_50 : decode prog_14_method_67_code 50 = .ok (.iload_n 1, 1) := by decide +kernel
theorem d_MO_groups_51 : decode prog_14_method_67_code 51 = .ok (.if_icmp .ne 9, 3) := by decide +kernel
theorem d_MO_groups_54 : decode prog_14_method_67_code 54 = .ok (.iload_n 2, 1) := by decide +kernel
theorem d_MO_groups_55 : decode prog_14_method_67_code 55 = .ok (.iconst 1, 1) := by decide +kernel
theorem d_MO_groups_56 : decode prog_14_method_67_code 56 = .ok (.iadd, 1) := by decide +kernel
theorem d_MO_groups_57 : decode prog_14_method_67_code 57 = .ok (.goto 4, 3) := by decide +kernel
theorem d_MO_groups_60 : decode prog_14_method_67_code 60 = .ok (.iload_n 2, 1) := by decide +kernel
theorem d_MO_groups_61 : decode prog_14_method_67_code 61 = .ok (.istore_n 2, 1) := by decide +kernel
theorem d_MO_groups_62 : decode prog_14_method_67_code 62 = .ok (.iinc 3 1, 3) := by decide +kernel
theorem d_MO_groups_65 : decode prog_14_method_67_code 65 = .ok (.goto (-40), 3) := by decide +kernel
theorem d_MO_groups_68 : decode prog_14_method_67_code 68 = .ok (.iload_n 2, 1) := by decide +kernel
theorem d_MO_groups_69 : decode prog_14_method_67_code 69 = .ok (.ireturn, 1) := by decide +kernel
theorem d_MO_crashes_0 : decode prog_14_method_68_code 0 = .ok (.aload_n 0, 1) := by decide +kernel
theorem d_MO_crashes_1 : decode prog_14_method_68_code 1 = .ok (.iconst 0, 1) := by decide +kernel
theorem d_MO_crashes_2 : decode prog_14_method_68_code 2 = .ok (.putfield 113, 3) := by decide +kernel
theorem d_MO_crashes_5 : decode prog_14_method_68_code 5 = .ok (.aload_n 0, 1) := by decide +kernel
theorem d_MO_crashes_6 : decode prog_14_method_68_code 6 = .ok (.getfield 388, 3) := by decide +kernel
theorem d_MO_crashes_9 : decode prog_14_method_68_code 9 = .ok (.ireturn, 1) := by decide +kernel
theorem d_MO_key_0 : decode prog_14_method_69_code 0 = .ok (.aload_n 0, 1) := by decide +kernel
theorem d_MO_key_1 : decode prog_14_method_69_code 1 = .ok (.iload_n 1, 1) := by decide +kernel
theorem d_MO_key_2 : decode prog_14_method_69_code 2 = .ok (.ifCond .lt 11, 3) := by decide +kernel
theorem d_MO_key_5 : decode prog_14_method_69_code 5 = .ok (.iload_n 1, 1) := by decide +kernel
theorem d_MO_key_6 : decode prog_14_method_69_code 6 = .ok (.aload_n 0, 1) := by decide +kernel
theorem d_MO_key_7 : decode prog_14_method_69_code 7 = .ok (.getfield 388, 3) := by decide +kernel
theorem d_MO_key_10 : decode prog_14_method_69_code 10 = .ok (.if_icmp .lt 7, 3) := by decide +kernel
theorem d_MO_key_13 : decode prog_14_method_69_code 13 = .ok (.iconst 1, 1) := by decide +kernel
theorem d_MO_key_14 : decode prog_14_method_69_code 14 = .ok (.goto 4, 3) := by decide +kernel
theorem d_MO_key_17 : decode prog_14_method_69_code 17 = .ok (.iconst 0, 1) := by decide +kernel
theorem d_MO_key_18 : decode prog_14_method_69_code 18 = .ok (.putfield 113, 3) := by decide +kernel
theorem d_MO_key_21 : decode prog_14_method_69_code 21 = .ok (.aload_n 0, 1) := by decide +kernel
theorem d_MO_key_22 : decode prog_14_method_69_code 22 = .ok (.getfield 113, 3) := by decide +kernel
theorem d_MO_key_25 : decode prog_14_method_69_code 25 = .ok (.ifCond .le 7, 3) := by decide +kernel
theorem d_MO_key_28 : decode prog_14_method_69_code 28 = .ok (.lconst 0, 1) := by decide +kernel
theorem d_MO_key_29 : decode prog_14_method_69_code 29 = .ok (.goto 9, 3) := by decide +kernel
theorem d_MO_key_32 : decode prog_14_method_69_code 32 = .ok (.aload_n 0, 1) := by decide +kernel
theorem d_MO_key_33 : decode prog_14_method_69_code 33 = .ok (.getfield 100, 3) := by decide +kernel
theorem d_MO_key_36 : decode prog_14_method_69_code 36 = .ok (.iload_n 1, 1) := by decide +kernel
theorem d_MO_key_37 : decode prog_14_method_69_code 37 = .ok (.laload, 1) := by decide +kernel
theorem d_MO_key_38 : decode prog_14_method_69_code 38 = .ok (.lreturn, 1) := by decide +kernel
theorem d_MO_reports_0 : decode prog_14_method_70_code 0 = .ok (.aload_n 0, 1) := by decide +kernel
theorem d_MO_reports_1 : decode prog_14_method_70_code 1 = .ok (.iload_n 1, 1) := by decide +kernel
theorem d_MO_reports_2 : decode prog_14_method_70_code 2 = .ok (.ifCond .lt 11, 3) := by decide +kernel
theorem d_MO_reports_5 : decode prog_14_method_70_code 5 = .ok (.iload_n 1, 1) := by decide +kernel
theorem d_MO_reports_6 : decode prog_14_method_70_code 6 = .ok (.aload_n 0, 1) := by decide +kernel
theorem d_MO_reports_7 : decode prog_14_method_70_code 7 = .ok (.getfield 388, 3) := by decide +kernel
theorem d_MO_reports_10 : decode prog_14_method_70_code 10 = .ok (.if_icmp .lt 7, 3) := by decide +kernel
theorem d_MO_reports_13 : decode prog_14_method_70_code 13 = .ok (.iconst 1, 1) := by decide +kernel
theorem d_MO_reports_14 : decode prog_14_method_70_code 14 = .ok (.goto 17, 3) := by decide +kernel
theorem d_MO_reports_17 : decode prog_14_method_70_code 17 = .ok (.iload_n 2, 1) := by decide +kernel
theorem d_MO_reports_18 : decode prog_14_method_70_code 18 = .ok (.ifCond .lt 8, 3) := by decide +kernel
theorem d_MO_reports_21 : decode prog_14_method_70_code 21 = .ok (.iload_n 2, 1) := by decide +kernel
theorem d_MO_reports_22 : decode prog_14_method_70_code 22 = .ok (.iconst 2, 1) := by decide +kernel
theorem d_MO_reports_23 : decode prog_14_method_70_code 23 = .ok (.if_icmp .le 7, 3) := by decide +kernel
theorem d_MO_reports_26 : decode prog_14_method_70_code 26 = .ok (.iconst 2, 1) := by decide +kernel
theorem d_MO_reports_27 : decode prog_14_method_70_code 27 = .ok (.goto 4, 3) := by decide +kernel
theorem d_MO_reports_30 : decode prog_14_method_70_code 30 = .ok (.iconst 0, 1) := by decide +kernel
theorem d_MO_reports_31 : decode prog_14_method_70_code 31 = .ok (.putfield 113, 3) := by decide +kernel
theorem d_MO_reports_34 : decode prog_14_method_70_code 34 = .ok (.aload_n 0, 1) := by decide +kernel
theorem d_MO_reports_35 : decode prog_14_method_70_code 35 = .ok (.getfield 113, 3) := by decide +kernel
theorem d_MO_reports_38 : decode prog_14_method_70_code 38 = .ok (.ifCond .le 5, 3) := by decide +kernel
theorem d_MO_reports_41 : decode prog_14_method_70_code 41 = .ok (.iconst 0, 1) := by decide +kernel
theorem d_MO_reports_42 : decode prog_14_method_70_code 42 = .ok (.ireturn, 1) := by decide +kernel
theorem d_MO_reports_43 : decode prog_14_method_70_code 43 = .ok (.iload_n 2, 1) := by decide +kernel
theorem d_MO_reports_44 : decode prog_14_method_70_code 44 = .ok (.ifCond .ne 12, 3) := by decide +kernel
theorem d_MO_reports_47 : decode prog_14_method_70_code 47 = .ok (.aload_n 0, 1) := by decide +kernel
theorem d_MO_reports_48 : decode prog_14_method_70_code 48 = .ok (.getfield 104, 3) := by decide +kernel
theorem d_MO_reports_51 : decode prog_14_method_70_code 51 = .ok (.iload_n 1, 1) := by decide +kernel
theorem d_MO_reports_52 : decode prog_14_method_70_code 52 = .ok (.iaload, 1) := by decide +kernel
theorem d_MO_reports_53 : decode prog_14_method_70_code 53 = .ok (.goto 23, 3) := by decide +kernel
theorem d_MO_reports_56 : decode prog_14_method_70_code 56 = .ok (.iload_n 2, 1) := by decide +kernel
theorem d_MO_reports_57 : decode prog_14_method_70_code 57 = .ok (.iconst 1, 1) := by decide +kernel
theorem d_MO_reports_58 : decode prog_14_method_70_code 58 = .ok (.if_icmp .ne 12, 3) := by decide +kernel
theorem d_MO_reports_61 : decode prog_14_method_70_code 61 = .ok (.aload_n 0, 1) := by decide +kernel
theorem d_MO_reports_62 : decode prog_14_method_70_code 62 = .ok (.getfield 107, 3) := by decide +kernel
theorem d_MO_reports_65 : decode prog_14_method_70_code 65 = .ok (.iload_n 1, 1) := by decide +kernel
theorem d_MO_reports_66 : decode prog_14_method_70_code 66 = .ok (.iaload, 1) := by decide +kernel
theorem d_MO_reports_67 : decode prog_14_method_70_code 67 = .ok (.goto 9, 3) := by decide +kernel
theorem d_MO_reports_70 : decode prog_14_method_70_code 70 = .ok (.aload_n 0, 1) := by decide +kernel
theorem d_MO_reports_71 : decode prog_14_method_70_code 71 = .ok (.getfield 110, 3) := by decide +kernel
theorem d_MO_reports_74 : decode prog_14_method_70_code 74 = .ok (.iload_n 1, 1) := by decide +kernel
theorem d_MO_reports_75 : decode prog_14_method_70_code 75 = .ok (.iaload, 1) := by decide +kernel
theorem d_MO_reports_76 : decode prog_14_method_70_code 76 = .ok (.ireturn, 1) := by decide +kernel
theorem d_CL_init_0 : decode prog_2_method_1_code 0 = .ok (.aload_n 0, 1) := by decide +kernel
theorem d_CL_init_1 : decode prog_2_method_1_code 1 = .ok (.invokespecial 1, 3) := by decide +kernel
theorem d_CL_init_4 : decode prog_2_method_1_code 4 = .ok (.aload_n 0, 1) := by decide +kernel
theorem d_CL_init_5 : decode prog_2_method_1_code 5 = .ok (.new 7, 3) := by decide +kernel
theorem d_CL_init_8 : decode prog_2_method_1_code 8 = .ok (.dup, 1) := by decide +kernel
theorem d_CL_init_9 : decode prog_2_method_1_code 9 = .ok (.aload_n 1, 1) := by decide +kernel
theorem d_CL_init_10 : decode prog_2_method_1_code 10 = .ok (.invokespecial 9, 3) := by decide +kernel
theorem d_CL_init_13 : decode prog_2_method_1_code 13 = .ok (.putfield 12, 3) := by decide +kernel
theorem d_CL_init_16 : decode prog_2_method_1_code 16 = .ok (.aload_n 0, 1) := by decide +kernel
theorem d_CL_init_17 : decode prog_2_method_1_code 17 = .ok (.new 7, 3) := by decide +kernel
theorem d_CL_init_20 : decode prog_2_method_1_code 20 = .ok (.dup, 1) := by decide +kernel
theorem d_CL_init_21 : decode prog_2_method_1_code 21 = .ok (.aload_n 1, 1) := by decide +kernel
theorem d_CL_init_22 : decode prog_2_method_1_code 22 = .ok (.invokespecial 9, 3) := by decide +kernel
theorem d_CL_init_25 : decode prog_2_method_1_code 25 = .ok (.putfield 18, 3) := by decide +kernel
theorem d_CL_init_28 : decode prog_2_method_1_code 28 = .ok (.return_, 1) := by decide +kernel
theorem d_CB_init_0 : decode prog_3_method_1_code 0 = .ok (.aload_n 0, 1) := by decide +kernel
theorem d_CB_init_1 : decode prog_3_method_1_code 1 = .ok (.invokespecial 3, 3) := by decide +kernel
theorem d_CB_init_4 : decode prog_3_method_1_code 4 = .ok (.aload_n 0, 1) := by decide +kernel
theorem d_CB_init_5 : decode prog_3_method_1_code 5 = .ok (.bipush 16, 2) := by decide +kernel
theorem d_CB_init_7 : decode prog_3_method_1_code 7 = .ok (.newarray .long, 2) := by decide +kernel
theorem d_CB_init_9 : decode prog_3_method_1_code 9 = .ok (.putfield 9, 3) := by decide +kernel
theorem d_CB_init_12 : decode prog_3_method_1_code 12 = .ok (.aload_n 0, 1) := by decide +kernel
theorem d_CB_init_13 : decode prog_3_method_1_code 13 = .ok (.bipush 16, 2) := by decide +kernel
theorem d_CB_init_15 : decode prog_3_method_1_code 15 = .ok (.newarray .int, 2) := by decide +kernel
theorem d_CB_init_17 : decode prog_3_method_1_code 17 = .ok (.putfield 15, 3) := by decide +kernel
theorem d_CB_init_20 : decode prog_3_method_1_code 20 = .ok (.aload_n 0, 1) := by decide +kernel
theorem d_CB_init_21 : decode prog_3_method_1_code 21 = .ok (.bipush 16, 2) := by decide +kernel
theorem d_CB_init_23 : decode prog_3_method_1_code 23 = .ok (.newarray .int, 2) := by decide +kernel
theorem d_CB_init_25 : decode prog_3_method_1_code 25 = .ok (.putfield 19, 3) := by decide +kernel
theorem d_CB_init_28 : decode prog_3_method_1_code 28 = .ok (.aload_n 0, 1) := by decide +kernel
theorem d_CB_init_29 : decode prog_3_method_1_code 29 = .ok (.bipush 16, 2) := by decide +kernel
theorem d_CB_init_31 : decode prog_3_method_1_code 31 = .ok (.newarray .int, 2) := by decide +kernel
theorem d_CB_init_33 : decode prog_3_method_1_code 33 = .ok (.putfield 22, 3) := by decide +kernel
theorem d_CB_init_36 : decode prog_3_method_1_code 36 = .ok (.return_, 1) := by decide +kernel
theorem d_CB_placeOf_0 : decode prog_3_method_2_code 0 = .ok (.iconst 0, 1) := by decide +kernel
theorem d_CB_placeOf_1 : decode prog_3_method_2_code 1 = .ok (.istore_n 3, 1) := by decide +kernel
theorem d_CB_placeOf_2 : decode prog_3_method_2_code 2 = .ok (.iload_n 3, 1) := by decide +kernel
theorem d_CB_placeOf_3 : decode prog_3_method_2_code 3 = .ok (.aload_n 0, 1) := by decide +kernel
theorem d_CB_placeOf_4 : decode prog_3_method_2_code 4 = .ok (.getfield 25, 3) := by decide +kernel
theorem d_CB_placeOf_7 : decode prog_3_method_2_code 7 = .ok (.if_icmp .ge 22, 3) := by decide +kernel
theorem d_CB_placeOf_10 : decode prog_3_method_2_code 10 = .ok (.aload_n 0, 1) := by decide +kernel
theorem d_CB_placeOf_11 : decode prog_3_method_2_code 11 = .ok (.getfield 9, 3) := by decide +kernel
theorem d_CB_placeOf_14 : decode prog_3_method_2_code 14 = .ok (.iload_n 3, 1) := by decide +kernel
theorem d_CB_placeOf_15 : decode prog_3_method_2_code 15 = .ok (.laload, 1) := by decide +kernel
theorem d_CB_placeOf_16 : decode prog_3_method_2_code 16 = .ok (.lload_n 1, 1) := by decide +kernel
theorem d_CB_placeOf_17 : decode prog_3_method_2_code 17 = .ok (.lcmp, 1) := by decide +kernel
theorem d_CB_placeOf_18 : decode prog_3_method_2_code 18 = .ok (.ifCond .ne 5, 3) := by decide +kernel
theorem d_CB_placeOf_21 : decode prog_3_method_2_code 21 = .ok (.iload_n 3, 1) := by decide +kernel
theorem d_CB_placeOf_22 : decode prog_3_method_2_code 22 = .ok (.ireturn, 1) := by decide +kernel
theorem d_CB_placeOf_23 : decode prog_3_method_2_code 23 = .ok (.iinc 3 1, 3) := by decide +kernel
theorem d_CB_placeOf_26 : decode prog_3_method_2_code 26 = .ok (.goto (-24), 3) := by decide +kernel
theorem d_CB_placeOf_29 : decode prog_3_method_2_code 29 = .ok (.aload_n 0, 1) := by decide +kernel
theorem d_CB_placeOf_30 : decode prog_3_method_2_code 30 = .ok (.getfield 25, 3) := by decide +kernel
theorem d_CB_placeOf_33 : decode prog_3_method_2_code 33 = .ok (.ireturn, 1) := by decide +kernel
theorem d_CB_enter_0 : decode prog_3_method_3_code 0 = .ok (.aload_n 0, 1) := by decide +kernel
theorem d_CB_enter_1 : decode prog_3_method_3_code 1 = .ok (.dup, 1) := by decide +kernel
theorem d_CB_enter_2 : decode prog_3_method_3_code 2 = .ok (.getfield 29, 3) := by decide +kernel
theorem d_CB_enter_5 : decode prog_3_method_3_code 5 = .ok (.iconst 1, 1) := by decide +kernel
theorem d_CB_enter_6 : decode prog_3_method_3_code 6 = .ok (.iadd, 1) := by decide +kernel
theorem d_CB_enter_7 : decode prog_3_method_3_code 7 = .ok (.putfield 29, 3) := by decide +kernel
theorem d_CB_enter_10 : decode prog_3_method_3_code 10 = .ok (.iload_n 1, 1) := by decide +kernel
theorem d_CB_enter_11 : decode prog_3_method_3_code 11 = .ok (.aload_n 0, 1) := by decide +kernel
theorem d_CB_enter_12 : decode prog_3_method_3_code 12 = .ok (.getfield 25, 3) := by decide +kernel
theorem d_CB_enter_15 : decode prog_3_method_3_code 15 = .ok (.if_icmp .ne 30, 3) := by decide +kernel
theorem d_CB_enter_18 : decode prog_3_method_3_code 18 = .ok (.aload_n 0, 1) := by decide +kernel
theorem d_CB_enter_19 : decode prog_3_method_3_code 19 = .ok (.getfield 9, 3) := by decide +kernel
theorem d_CB_enter_22 : decode prog_3_method_3_code 22 = .ok (.iload_n 1, 1) := by decide +kernel
theorem d_CB_enter_23 : decode prog_3_method_3_code 23 = .ok (.lload_n 2, 1) := by decide +kernel
theorem d_CB_enter_24 : decode prog_3_method_3_code 24 = .ok (.lastore, 1) := by decide +kernel
theorem d_CB_enter_25 : decode prog_3_method_3_code 25 = .ok (.aload_n 0, 1) := by decide +kernel
theorem d_CB_enter_26 : decode prog_3_method_3_code 26 = .ok (.getfield 19, 3) := by decide +kernel
theorem d_CB_enter_29 : decode prog_3_method_3_code 29 = .ok (.iload_n 1, 1) := by decide +kernel
theorem d_CB_enter_30 : decode prog_3_method_3_code 30 = .ok (.aload_n 0, 1) := by decide +kernel
theorem d_CB_enter_31 : decode prog_3_method_3_code 31 = .ok (.getfield 29, 3) := by decide +kernel
theorem d_CB_enter_34 : decode prog_3_method_3_code 34 = .ok (.iastore, 1) := by decide +kernel
theorem d_CB_enter_35 : decode prog_3_method_3_code 35 = .ok (.aload_n 0, 1) := by decide +kernel
theorem d_CB_enter_36 : decode prog_3_method_3_code 36 = .ok (.dup, 1) := by decide +kernel
theorem d_CB_enter_37 : decode prog_3_method_3_code 37 = .ok (.getfield 25, 3) := by decide +kernel
theorem d_CB_enter_40 : decode prog_3_method_3_code 40 = .ok (.iconst 1, 1) := by decide +kernel
theorem d_CB_enter_41 : decode prog_3_method_3_code 41 = .ok (.iadd, 1) := by decide +kernel
theorem d_CB_enter_42 : decode prog_3_method_3_code 42 = .ok (.putfield 25, 3) := by decide +kernel
theorem d_CB_enter_45 : decode prog_3_method_3_code 45 = .ok (.aload_n 0, 1) := by decide +kernel
theorem d_CB_enter_46 : decode prog_3_method_3_code 46 = .ok (.getfield 15, 3) := by decide +kernel
theorem d_CB_enter_49 : decode prog_3_method_3_code 49 = .ok (.iload_n 1, 1) := by decide +kernel
theorem d_CB_enter_50 : decode prog_3_method_3_code 50 = .ok (.dup2, 1) := by decide +kernel
theorem d_CB_enter_51 : decode prog_3_method_3_code 51 = .ok (.iaload, 1) := by decide +kernel
theorem d_CB_enter_52 : decode prog_3_method_3_code 52 = .ok (.iconst 1, 1) := by decide +kernel
theorem d_CB_enter_53 : decode prog_3_method_3_code 53 = .ok (.iadd, 1) := by decide +kernel
theorem d_CB_enter_54 : decode prog_3_method_3_code 54 = .ok (.iastore, 1) := by decide +kernel
theorem d_CB_enter_55 : decode prog_3_method_3_code 55 = .ok (.aload_n 0, 1) := by decide +kernel
theorem d_CB_enter_56 : decode prog_3_method_3_code 56 = .ok (.getfield 22, 3) := by decide +kernel
theorem d_CB_enter_59 : decode prog_3_method_3_code 59 = .ok (.iload_n 1, 1) := by decide +kernel
theorem d_CB_enter_60 : decode prog_3_method_3_code 60 = .ok (.aload_n 0, 1) := by decide +kernel
theorem d_CB_enter_61 : decode prog_3_method_3_code 61 = .ok (.getfield 29, 3) := by decide +kernel
theorem d_CB_enter_64 : decode prog_3_method_3_code 64 = .ok (.iastore, 1) := by decide +kernel
theorem d_CB_enter_65 : decode prog_3_method_3_code 65 = .ok (.return_, 1) := by decide +kernel
theorem d_CB_keyOf_0 : decode prog_3_method_4_code 0 = .ok (.ldc2_w 32, 3) := by decide +kernel
theorem d_CB_keyOf_3 : decode prog_3_method_4_code 3 = .ok (.lstore_n 1, 1) := by decide +kernel
theorem d_CB_keyOf_4 : decode prog_3_method_4_code 4 = .ok (.iconst 0, 1) := by decide +kernel
theorem d_CB_keyOf_5 : decode prog_3_method_4_code 5 = .ok (.istore_n 3, 1) := by decide +kernel
theorem d_CB_keyOf_6 : decode prog_3_method_4_code 6 = .ok (.iconst 0, 1) := by decide +kernel
theorem d_CB_keyOf_7 : decode prog_3_method_4_code 7 = .ok (.istore 4, 2) := by decide +kernel
theorem d_CB_keyOf_9 : decode prog_3_method_4_code 9 = .ok (.iconst (-1), 1) := by decide +kernel
theorem d_CB_keyOf_10 : decode prog_3_method_4_code 10 = .ok (.istore 5, 2) := by decide +kernel
theorem d_CB_keyOf_12 : decode prog_3_method_4_code 12 = .ok (.iconst 0, 1) := by decide +kernel
theorem d_CB_keyOf_13 : decode prog_3_method_4_code 13 = .ok (.istore 6, 2) := by decide +kernel
theorem d_CB_keyOf_15 : decode prog_3_method_4_code 15 = .ok (.iload 6, 2) := by decide +kernel
theorem d_CB_keyOf_17 : decode prog_3_method_4_code 17 = .ok (.aload_n 0, 1) := by decide +kernel
theorem d_CB_keyOf_18 : decode prog_3_method_4_code 18 = .ok (.getfield 34, 3) := by decide +kernel
theorem d_CB_keyOf_21 : decode prog_3_method_4_code 21 = .ok (.if_icmp .ge 137, 3) := by decide +kernel
theorem d_CB_keyOf_24 : decode prog_3_method_4_code 24 = .ok (.aload_n 0, 1) := by decide +kernel
theorem d_CB_keyOf_25 : decode prog_3_method_4_code 25 = .ok (.getfield 37, 3) := by decide +kernel
theorem d_CB_keyOf_28 : decode prog_3_method_4_code 28 = .ok (.iload 6, 2) := by decide +kernel
theorem d_CB_keyOf_30 : decode prog_3_method_4_code 30 = .ok (.caload, 1) := by decide +kernel
theorem d_CB_keyOf_31 : decode prog_3_method_4_code 31 = .ok (.bipush 10, 2) := by decide +kernel
theorem d_CB_keyOf_33 : decode prog_3_method_4_code 33 = .ok (.if_icmp .eq 6, 3) := by decide +kernel
theorem d_CB_keyOf_36 : decode prog_3_method_4_code 36 = .ok (.goto 116, 3) := by decide +kernel
theorem d_CB_keyOf_39 : decode prog_3_method_4_code 39 = .ok (.aload_n 0, 1) := by decide +kernel
theorem d_CB_keyOf_40 : decode prog_3_method_4_code 40 = .ok (.iload_n 3, 1) := by decide +kernel
theorem d_CB_keyOf_41 : decode prog_3_method_4_code 41 = .ok (.ldc 41, 2) := by decide +kernel
theorem d_CB_keyOf_43 : decode prog_3_method_4_code 43 = .ok (.invokevirtual 43, 3) := by decide +kernel
theorem d_CB_keyOf_46 : decode prog_3_method_4_code 46 = .ok (.ifCond .eq 58, 3) := by decide +kernel
theorem d_CB_keyOf_49 : decode prog_3_method_4_code 49 = .ok (.iload_n 3, 1) := by decide +kernel
theorem d_CB_keyOf_50 : decode prog_3_method_4_code 50 = .ok (.ldc 41, 2) := by decide +kernel
theorem d_CB_keyOf_52 : decode prog_3_method_4_code 52 = .ok (.invokevirtual 47, 3) := by decide +kernel
theorem d_CB_keyOf_55 : decode prog_3_method_4_code 55 = .ok (.iadd, 1) := by decide +kernel
theorem d_CB_keyOf_56 : decode prog_3_method_4_code 56 = .ok (.istore 7, 2) := by decide +kernel
theorem d_CB_keyOf_58 : decode prog_3_method_4_code 58 = .ok (.iload 5, 2) := by decide +kernel
theorem d_CB_keyOf_60 : decode prog_3_method_4_code 60 = .ok (.iconst (-1), 1) := by decide +kernel
theorem d_CB_keyOf_61 : decode prog_3_method_4_code 61 = .ok (.if_icmp .eq 14, 3) := by decide +kernel
theorem d_CB_keyOf_64 : decode prog_3_method_4_code 64 = .ok (.aload_n 0, 1) := by decide +kernel
theorem d_CB_keyOf_65 : decode prog_3_method_4_code 65 = .ok (.iload 5, 2) := by decide +kernel
theorem d_CB_keyOf_67 : decode prog_3_method_4_code 67 = .ok (.iload 7, 2) := by decide +kernel
theorem d_CB_keyOf_69 : decode prog_3_method_4_code 69 = .ok (.invokestatic 53, 3) := by decide +kernel
theorem d_CB_keyOf_72 : decode prog_3_method_4_code 72 = .ok (.ifCond .ne 29, 3) := by decide +kernel
theorem d_CB_keyOf_75 : decode prog_3_method_4_code 75 = .ok (.iload 4, 2) := by decide +kernel
theorem d_CB_keyOf_77 : decode prog_3_method_4_code 77 = .ok (.bipush 6, 2) := by decide +kernel
theorem d_CB_keyOf_79 : decode prog_3_method_4_code 79 = .ok (.if_icmp .ge 13, 3) := by decide +kernel
theorem d_CB_keyOf_82 : decode prog_3_method_4_code 82 = .ok (.lload_n 1, 1) := by decide +kernel
theorem d_CB_keyOf_83 : decode prog_3_method_4_code 83 = .ok (.aload_n 0, 1) := by decide +kernel
theorem d_CB_keyOf_84 : decode prog_3_method_4_code 84 = .ok (.iload 7, 2) := by decide +kernel
theorem d_CB_keyOf_86 : decode prog_3_method_4_code 86 = .ok (.invokestatic 57, 3) := by decide +kernel
theorem d_CB_keyOf_89 : decode prog_3_method_4_code 89 = .ok (.goto 4, 3) := by decide +kernel
theorem d_CB_keyOf_92 : decode prog_3_method_4_code 92 = .ok (.lload_n 1, 1) := by decide +kernel
theorem d_CB_keyOf_93 : decode prog_3_method_4_code 93 = .ok (.lstore_n 1, 1) := by decide +kernel
theorem d_CB_keyOf_94 : decode prog_3_method_4_code 94 = .ok (.iinc 4 1, 3) := by decide +kernel
theorem d_CB_keyOf_97 : decode prog_3_method_4_code 97 = .ok (.iload 7, 2) := by decide +kernel
theorem d_CB_keyOf_99 : decode prog_3_method_4_code 99 = .ok (.istore 5, 2) := by decide +kernel
theorem d_CB_keyOf_101 : decode prog_3_method_4_code 101 = .ok (.goto 46, 3) := by decide +kernel
theorem d_CB_keyOf_104 : decode prog_3_method_4_code 104 = .ok (.aload_n 0, 1) := by decide +kernel
theorem d_CB_keyOf_105 : decode prog_3_method_4_code 105 = .ok (.iload_n 3, 1) := by decide +kernel
theorem d_CB_keyOf_106 : decode prog_3_method_4_code 106 = .ok (.ldc 61, 2) := by decide +kernel
theorem d_CB_keyOf_108 : decode prog_3_method_4_code 108 = .ok (.invokevirtual 43, 3) := by decide +kernel
theorem d_CB_keyOf_111 : decode prog_3_method_4_code 111 = .ok (.ifCond .ne 36, 3) := by decide +kernel
theorem d_CB_keyOf_114 : decode prog_3_method_4_code 114 = .ok (.iload_n 3, 1) := by decide +kernel
theorem d_CB_keyOf_115 : decode prog_3_method_4_code 115 = .ok (.ifCond .ne 7, 3) := by decide +kernel
theorem d_CB_keyOf_118 : decode prog_3_method_4_code 118 = .ok (.iconst 0, 1) := by decide +kernel
theorem d_CB_keyOf_119 : decode prog_3_method_4_code 119 = .ok (.goto 10, 3) := by decide +kernel
theorem d_CB_keyOf_122 : decode prog_3_method_4_code 122 = .ok (.iload_n 3, 1) := by decide +kernel
theorem d_CB_keyOf_123 : decode prog_3_method_4_code 123 = .ok (.ldc 63, 2) := by decide +kernel
theorem d_CB_keyOf_125 : decode prog_3_method_4_code 125 = .ok (.invokevirtual 47, 3) := by decide +kernel
theorem d_CB_keyOf_128 : decode prog_3_method_4_code 128 = .ok (.iadd, 1) := by decide +kernel
theorem d_CB_keyOf_129 : decode prog_3_method_4_code 129 = .ok (.istore 7, 2) := by decide +kernel
theorem d_CB_keyOf_131 : decode prog_3_method_4_code 131 = .ok (.lload_n 1, 1) := by decide +kernel
theorem d_CB_keyOf_132 : decode prog_3_method_4_code 132 = .ok (.aload_n 0, 1) := by decide +kernel
theorem d_CB_keyOf_133 : decode prog_3_method_4_code 133 = .ok (.iload 7, 2) := by decide +kernel
theorem d_CB_keyOf_135 : decode prog_3_method_4_code 135 = .ok (.iload 6, 2) := by decide +kernel
theorem d_CB_keyOf_137 : decode prog_3_method_4_code 137 = .ok (.invokestatic 65, 3) := by decide +kernel
theorem d_CB_keyOf_140 : decode prog_3_method_4_code 140 = .ok (.lstore_n 1, 1) := by decide +kernel
theorem d_CB_keyOf_141 : decode prog_3_method_4_code 141 = .ok (.iconst 0, 1) := by decide +kernel
theorem d_CB_keyOf_142 : decode prog_3_method_4_code 142 = .ok (.istore 4, 2) := by decide +kernel
theorem d_CB_keyOf_144 : decode prog_3_method_4_code 144 = .ok (.iconst (-1), 1) := by decide +kernel
theorem d_CB_keyOf_145 : decode prog_3_method_4_code 145 = .ok (.istore 5, 2) := by decide +kernel
theorem d_CB_keyOf_147 : decode prog_3_method_4_code 147 = .ok (.iload 6, 2) := by decide +kernel
theorem d_CB_keyOf_149 : decode prog_3_method_4_code 149 = .ok (.iconst 1, 1) := by decide +kernel
theorem d_CB_keyOf_150 : decode prog_3_method_4_code 150 = .ok (.iadd, 1) := by decide +kernel
theorem d_CB_keyOf_151 : decode prog_3_method_4_code 151 = .ok (.istore_n 3, 1) := by decide +kernel
theorem d_CB_keyOf_152 : decode prog_3_method_4_code 152 = .ok (.iinc 6 1, 3) := by decide +kernel
theorem d_CB_keyOf_155 : decode prog_3_method_4_code 155 = .ok (.goto (-140), 3) := by decide +kernel
theorem d_CB_keyOf_158 : decode prog_3_method_4_code 158 = .ok (.lload_n 1, 1) := by decide +kernel
theorem d_CB_keyOf_159 : decode prog_3_method_4_code 159 = .ok (.lreturn, 1) := by decide +kernel
theorem d_CB_isSameCall_0 : decode prog_3_method_5_code 0 = .ok (.aload_n 0, 1) := by decide +kernel
theorem d_CB_isSameCall_1 : decode prog_3_method_5_code 1 = .ok (.getfield 34, 3) := by decide +kernel
theorem d_CB_isSameCall_4 : decode prog_3_method_5_code 4 = .ok (.iload_n 1, 1) := by decide +kernel
theorem d_CB_isSameCall_5 : decode prog_3_method_5_code 5 = .ok (.iload_n 2, 1) := by decide +kernel
theorem d_CB_isSameCall_6 : decode prog_3_method_5_code 6 = .ok (.invokestatic 69, 3) := by decide +kernel
theorem d_CB_isSameCall_9 : decode prog_3_method_5_code 9 = .ok (.isub, 1) := by decide +kernel
theorem d_CB_isSameCall_10 : decode prog_3_method_5_code 10 = .ok (.istore_n 3, 1) := by decide +kernel
theorem d_CB_isSameCall_11 : decode prog_3_method_5_code 11 = .ok (.iconst 0, 1) := by decide +kernel
theorem d_CB_isSameCall_12 : decode prog_3_method_5_code 12 = .ok (.istore 4, 2) := by decide +kernel
theorem d_CB_isSameCall_14 : decode prog_3_method_5_code 14 = .ok (.iload 4, 2) := by decide +kernel
theorem d_CB_isSameCall_16 : decode prog_3_method_5_code 16 = .ok (.iload_n 3, 1) := by decide +kernel
theorem d_CB_isSameCall_17 : decode prog_3_method_5_code 17 = .ok (.if_icmp .ge 48, 3) := by decide +kernel
theorem d_CB_isSameCall_20 : decode prog_3_method_5_code 20 = .ok (.aload_n 0, 1) := by decide +kernel
theorem d_CB_isSameCall_21 : decode prog_3_method_5_code 21 = .ok (.getfield 37, 3) := by decide +kernel
theorem d_CB_isSameCall_24 : decode prog_3_method_5_code 24 = .ok (.iload_n 1, 1) := by decide +kernel
theorem d_CB_isSameCall_25 : decode prog_3_method_5_code 25 = .ok (.iload 4, 2) := by decide +kernel
theorem d_CB_isSameCall_27 : decode prog_3_method_5_code 27 = .ok (.iadd, 1) := by decide +kernel
theorem d_CB_isSameCall_28 : decode prog_3_method_5_code 28 = .ok (.caload, 1) := by decide +kernel
theorem d_CB_isSameCall_29 : decode prog_3_method_5_code 29 = .ok (.aload_n 0, 1) := by decide +kernel
theorem d_CB_isSameCall_30 : decode prog_3_method_5_code 30 = .ok (.getfield 37, 3) := by decide +kernel
theorem d_CB_isSameCall_33 : decode prog_3_method_5_code 33 = .ok (.iload_n 2, 1) := by decide +kernel
theorem d_CB_isSameCall_34 : decode prog_3_method_5_code 34 = .ok (.iload 4, 2) := by decide +kernel
theorem d_CB_isSameCall_36 : decode prog_3_method_5_code 36 = .ok (.iadd, 1) := by decide +kernel
theorem d_CB_isSameCall_37 : decode prog_3_method_5_code 37 = .ok (.caload, 1) := by decide +kernel
theorem d_CB_isSameCall_38 : decode prog_3_method_5_code 38 = .ok (.if_icmp .eq 5, 3) := by decide +kernel
theorem d_CB_isSameCall_41 : decode prog_3_method_5_code 41 = .ok (.iconst 0, 1) := by decide +kernel
theorem d_CB_isSameCall_42 : decode prog_3_method_5_code 42 = .ok (.ireturn, 1) := by decide +kernel
theorem d_CB_isSameCall_43 : decode prog_3_method_5_code 43 = .ok (.aload_n 0, 1) := by decide +kernel
theorem d_CB_isSameCall_44 : decode prog_3_method_5_code 44 = .ok (.getfield 37, 3) := by decide +kernel
theorem d_CB_isSameCall_47 : decode prog_3_method_5_code 47 = .ok (.iload_n 1, 1) := by decide +kernel
theorem d_CB_isSameCall_48 : decode prog_3_method_5_code 48 = .ok (.iload 4, 2) := by decide +kernel
theorem d_CB_isSameCall_50 : decode prog_3_method_5_code 50 = .ok (.iadd, 1) := by decide +kernel
theorem d_CB_isSameCall_51 : decode prog_3_method_5_code 51 = .ok (.caload, 1) := by decide +kernel
theorem d_CB_isSameCall_52 : decode prog_3_method_5_code 52 = .ok (.bipush 40, 2) := by decide +kernel
theorem d_CB_isSameCall_54 : decode prog_3_method_5_code 54 = .ok (.if_icmp .ne 5, 3) := by decide +kernel
theorem d_CB_isSameCall_57 : decode prog_3_method_5_code 57 = .ok (.iconst 1, 1) := by decide +kernel
theorem d_CB_isSameCall_58 : decode prog_3_method_5_code 58 = .ok (.ireturn, 1) := by decide +kernel
theorem d_CB_isSameCall_59 : decode prog_3_method_5_code 59 = .ok (.iinc 4 1, 3) := by decide +kernel
theorem d_CB_isSameCall_62 : decode prog_3_method_5_code 62 = .ok (.goto (-48), 3) := by decide +kernel
theorem d_CB_isSameCall_65 : decode prog_3_method_5_code 65 = .ok (.iconst 0, 1) := by decide +kernel
theorem d_CB_isSameCall_66 : decode prog_3_method_5_code 66 = .ok (.ireturn, 1) := by decide +kernel
theorem d_CB_mixCall_0 : decode prog_3_method_6_code 0 = .ok (.lload_n 0, 1) := by decide +kernel
theorem d_CB_mixCall_1 : decode prog_3_method_6_code 1 = .ok (.lstore 4, 2) := by decide +kernel
theorem d_CB_mixCall_3 : decode prog_3_method_6_code 3 = .ok (.aload_n 2, 1) := by decide +kernel
theorem d_CB_mixCall_4 : decode prog_3_method_6_code 4 = .ok (.bipush 40, 2) := by decide +kernel
theorem d_CB_mixCall_6 : decode prog_3_method_6_code 6 = .ok (.iload_n 3, 1) := by decide +kernel
theorem d_CB_mixCall_7 : decode prog_3_method_6_code 7 = .ok (.aload_n 2, 1) := by decide +kernel
theorem d_CB_mixCall_8 : decode prog_3_method_6_code 8 = .ok (.getfield 34, 3) := by decide +kernel
theorem d_CB_mixCall_11 : decode prog_3_method_6_code 11 = .ok (.invokevirtual 75, 3) := by decide +kernel
theorem d_CB_mixCall_14 : decode prog_3_method_6_code 14 = .ok (.istore 6, 2) := by decide +kernel
theorem d_CB_mixCall_16 : decode prog_3_method_6_code 16 = .ok (.iload_n 3, 1) := by decide +kernel
theorem d_CB_mixCall_17 : decode prog_3_method_6_code 17 = .ok (.istore 7, 2) := by decide +kernel
theorem d_CB_mixCall_19 : decode prog_3_method_6_code 19 = .ok (.iload 7, 2) := by decide +kernel
theorem d_CB_mixCall_21 : decode prog_3_method_6_code 21 = .ok (.iload 6, 2) := by decide +kernel
theorem d_CB_mixCall_23 : decode prog_3_method_6_code 23 = .ok (.if_icmp .ge 23, 3) := by decide +kernel
theorem d_CB_mixCall_26 : decode prog_3_method_6_code 26 = .ok (.lload 4, 2) := by decide +kernel
theorem d_CB_mixCall_28 : decode prog_3_method_6_code 28 = .ok (.aload_n 2, 1) := by decide +kernel
theorem d_CB_mixCall_29 : decode prog_3_method_6_code 29 = .ok (.getfield 37, 3) := by decide +kernel
theorem d_CB_mixCall_32 : decode prog_3_method_6_code 32 = .ok (.iload 7, 2) := by decide +kernel
theorem d_CB_mixCall_34 : decode prog_3_method_6_code 34 = .ok (.caload, 1) := by decide +kernel
theorem d_CB_mixCall_35 : decode prog_3_method_6_code 35 = .ok (.invokestatic 79, 3) := by decide +kernel
theorem d_CB_mixCall_38 : decode prog_3_method_6_code 38 = .ok (.lstore 4, 2) := by decide +kernel
theorem d_CB_mixCall_40 : decode prog_3_method_6_code 40 = .ok (.iinc 7 1, 3) := by decide +kernel
theorem d_CB_mixCall_43 : decode prog_3_method_6_code 43 = .ok (.goto (-24), 3) := by decide +kernel
theorem d_CB_mixCall_46 : decode prog_3_method_6_code 46 = .ok (.lload 4, 2) := by decide +kernel
theorem d_CB_mixCall_48 : decode prog_3_method_6_code 48 = .ok (.bipush 10, 2) := by decide +kernel
theorem d_CB_mixCall_50 : decode prog_3_method_6_code 50 = .ok (.invokestatic 79, 3) := by decide +kernel
theorem d_CB_mixCall_53 : decode prog_3_method_6_code 53 = .ok (.lreturn, 1) := by decide +kernel
theorem d_CB_mixHeader_0 : decode prog_3_method_7_code 0 = .ok (.aload_n 2, 1) := by decide +kernel
theorem d_CB_mixHeader_1 : decode prog_3_method_7_code 1 = .ok (.bipush 58, 2) := by decide +kernel
theorem d_CB_mixHeader_3 : decode prog_3_method_7_code 3 = .ok (.iload_n 3, 1) := by decide +kernel
theorem d_CB_mixHeader_4 : decode prog_3_method_7_code 4 = .ok (.iload 4, 2) := by decide +kernel
theorem d_CB_mixHeader_6 : decode prog_3_method_7_code 6 = .ok (.invokevirtual 75, 3) := by decide +kernel
theorem d_CB_mixHeader_9 : decode prog_3_method_7_code 9 = .ok (.istore 5, 2) := by decide +kernel
theorem d_CB_mixHeader_11 : decode prog_3_method_7_code 11 = .ok (.lload_n 0, 1) := by decide +kernel
theorem d_CB_mixHeader_12 : decode prog_3_method_7_code 12 = .ok (.aload_n 2, 1) := by decide +kernel
theorem d_CB_mixHeader_13 : decode prog_3_method_7_code 13 = .ok (.iload_n 3, 1) := by decide +kernel
theorem d_CB_mixHeader_14 : decode prog_3_method_7_code 14 = .ok (.iload 5, 2) := by decide +kernel
theorem d_CB_mixHeader_16 : decode prog_3_method_7_code 16 = .ok (.invokestatic 83, 3) := by decide +kernel
theorem d_CB_mixHeader_19 : decode prog_3_method_7_code 19 = .ok (.lstore 6, 2) := by decide +kernel
theorem d_CB_mixHeader_21 : decode prog_3_method_7_code 21 = .ok (.lload 6, 2) := by decide +kernel
theorem d_CB_mixHeader_23 : decode prog_3_method_7_code 23 = .ok (.bipush 58, 2) := by decide +kernel
theorem d_CB_mixHeader_25 : decode prog_3_method_7_code 25 = .ok (.invokestatic 79, 3) := by decide +kernel
theorem d_CB_mixHeader_28 : decode prog_3_method_7_code 28 = .ok (.lstore 6, 2) := by decide +kernel
theorem d_CB_mixHeader_30 : decode prog_3_method_7_code 30 = .ok (.lload 6, 2) := by decide +kernel
theorem d_CB_mixHeader_32 : decode prog_3_method_7_code 32 = .ok (.aload_n 2, 1) := by decide +kernel
theorem d_CB_mixHeader_33 : decode prog_3_method_7_code 33 = .ok (.iload 5, 2) := by decide +kernel
theorem d_CB_mixHeader_35 : decode prog_3_method_7_code 35 = .ok (.iconst 2, 1) := by decide +kernel
theorem d_CB_mixHeader_36 : decode prog_3_method_7_code 36 = .ok (.iadd, 1) := by decide +kernel
theorem d_CB_mixHeader_37 : decode prog_3_method_7_code 37 = .ok (.iload 4, 2) := by decide +kernel
theorem d_CB_mixHeader_39 : decode prog_3_method_7_code 39 = .ok (.invokestatic 83, 3) := by decide +kernel
theorem d_CB_mixHeader_42 : decode prog_3_method_7_code 42 = .ok (.lstore 6, 2) := by decide +kernel
theorem d_CB_mixHeader_44 : decode prog_3_method_7_code 44 = .ok (.lload 6, 2) := by decide +kernel
theorem d_CB_mixHeader_46 : decode prog_3_method_7_code 46 = .ok (.bipush 10, 2) := by decide +kernel
theorem d_CB_mixHeader_48 : decode prog_3_method_7_code 48 = .ok (.invokestatic 79, 3) := by decide +kernel
theorem d_CB_mixHeader_51 : decode prog_3_method_7_code 51 = .ok (.lreturn, 1) := by decide +kernel
theorem d_CB_mixWithoutFigures_0 : decode prog_3_method_8_code 0 = .ok (.lload_n 0, 1) := by decide +kernel
theorem d_CB_mixWithoutFigures_1 : decode prog_3_method_8_code 1 = .ok (.lstore 5, 2) := by decide +kernel
theorem d_CB_mixWithoutFigures_3 : decode prog_3_method_8_code 3 = .ok (.iload_n 3, 1) := by decide +kernel
theorem d_CB_mixWithoutFigures_4 : decode prog_3_method_8_code 4 = .ok (.istore 7, 2) := by decide +kernel
theorem d_CB_mixWithoutFigures_6 : decode prog_3_method_8_code 6 = .ok (.iload 7, 2) := by decide +kernel
theorem d_CB_mixWithoutFigures_8 : decode prog_3_method_8_code 8 = .ok (.iload 4, 2) := by decide +kernel
theorem d_CB_mixWithoutFigures_10 : decode prog_3_method_8_code 10 = .ok (.if_icmp .ge 68, 3) := by decide +kernel
theorem d_CB_mixWithoutFigures_13 : decode prog_3_method_8_code 13 = .ok (.aload_n 2, 1) := by decide +kernel
theorem d_CB_mixWithoutFigures_14 : decode prog_3_method_8_code 14 = .ok (.getfield 37, 3) := by decide +kernel
theorem d_CB_mixWithoutFigures_17 : decode prog_3_method_8_code 17 = .ok (.iload 7, 2) := by decide +kernel
theorem d_CB_mixWithoutFigures_19 : decode prog_3_method_8_code 19 = .ok (.caload, 1) := by decide +kernel
theorem d_CB_mixWithoutFigures_20 : decode prog_3_method_8_code 20 = .ok (.istore 8, 2) := by decide +kernel
theorem d_CB_mixWithoutFigures_22 : decode prog_3_method_8_code 22 = .ok (.iload 8, 2) := by decide +kernel
theorem d_CB_mixWithoutFigures_24 : decode prog_3_method_8_code 24 = .ok (.invokestatic 86, 3) := by decide +kernel
theorem d_CB_mixWithoutFigures_27 : decode prog_3_method_8_code 27 = .ok (.ifCond .ne 15, 3) := by decide +kernel
theorem d_CB_mixWithoutFigures_30 : decode prog_3_method_8_code 30 = .ok (.lload 5, 2) := by decide +kernel
theorem d_CB_mixWithoutFigures_32 : decode prog_3_method_8_code 32 = .ok (.iload 8, 2) := by decide +kernel
theorem d_CB_mixWithoutFigures_34 : decode prog_3_method_8_code 34 = .ok (.invokestatic 79, 3) := by decide +kernel
theorem d_CB_mixWithoutFigures_37 : decode prog_3_method_8_code 37 = .ok (.lstore 5, 2) := by decide +kernel
theorem d_CB_mixWithoutFigures_39 : decode prog_3_method_8_code 39 = .ok (.goto 33, 3) := by decide +kernel
theorem d_CB_mixWithoutFigures_42 : decode prog_3_method_8_code 42 = .ok (.iload 7, 2) := by decide +kernel
theorem d_CB_mixWithoutFigures_44 : decode prog_3_method_8_code 44 = .ok (.iload_n 3, 1) := by decide +kernel
theorem d_CB_mixWithoutFigures_45 : decode prog_3_method_8_code 45 = .ok (.if_icmp .eq 18, 3) := by decide +kernel
theorem d_CB_mixWithoutFigures_48 : decode prog_3_method_8_code 48 = .ok (.aload_n 2, 1) := by decide +kernel
theorem d_CB_mixWithoutFigures_49 : decode prog_3_method_8_code 49 = .ok (.getfield 37, 3) := by decide +kernel
theorem d_CB_mixWithoutFigures_52 : decode prog_3_method_8_code 52 = .ok (.iload 7, 2) := by decide +kernel
theorem d_CB_mixWithoutFigures_54 : decode prog_3_method_8_code 54 = .ok (.iconst 1, 1) := by decide +kernel
theorem d_CB_mixWithoutFigures_55 : decode prog_3_method_8_code 55 = .ok (.isub, 1) := by decide +kernel
theorem d_CB_mixWithoutFigures_56 : decode prog_3_method_8_code 56 = .ok (.caload, 1) := by decide +kernel
theorem d_CB_mixWithoutFigures_57 : decode prog_3_method_8_code 57 = .ok (.invokestatic 86, 3) := by decide +kernel
theorem d_CB_mixWithoutFigures_60 : decode prog_3_method_8_code 60 = .ok (.ifCond .ne 12, 3) := by decide +kernel
theorem d_CB_mixWithoutFigures_63 : decode prog_3_method_8_code 63 = .ok (.lload 5, 2) := by decide +kernel
theorem d_CB_mixWithoutFigures_65 : decode prog_3_method_8_code 65 = .ok (.bipush 48, 2) := by decide +kernel
theorem d_CB_mixWithoutFigures_67 : decode prog_3_method_8_code 67 = .ok (.invokestatic 79, 3) := by decide +kernel
theorem d_CB_mixWithoutFigures_70 : decode prog_3_method_8_code 70 = .ok (.lstore 5, 2) := by decide +kernel
theorem d_CB_mixWithoutFigures_72 : decode prog_3_method_8_code 72 = .ok (.iinc 7 1, 3) := by decide +kernel
theorem d_CB_mixWithoutFigures_75 : decode prog_3_method_8_code 75 = .ok (.goto (-69), 3) := by decide +kernel
theorem d_CB_mixWithoutFigures_78 : decode prog_3_method_8_code 78 = .ok (.lload 5, 2) := by decide +kernel
theorem d_CB_mixWithoutFigures_80 : decode prog_3_method_8_code 80 = .ok (.lreturn, 1) := by decide +kernel
theorem d_CB_mix_0 : decode prog_3_method_9_code 0 = .ok (.lload_n 0, 1) := by decide +kernel
theorem d_CB_mix_1 : decode prog_3_method_9_code 1 = .ok (.iload_n 2, 1) := by decide +kernel
theorem d_CB_mix_2 : decode prog_3_method_9_code 2 = .ok (.i2l, 1) := by decide +kernel
theorem d_CB_mix_3 : decode prog_3_method_9_code 3 = .ok (.lxor, 1) := by decide +kernel
theorem d_CB_mix_4 : decode prog_3_method_9_code 4 = .ok (.ldc2_w 90, 3) := by decide +kernel
theorem d_CB_mix_7 : decode prog_3_method_9_code 7 = .ok (.lmul, 1) := by decide +kernel
theorem d_CB_mix_8 : decode prog_3_method_9_code 8 = .ok (.lreturn, 1) := by decide +kernel
theorem d_FO_init_0 : decode prog_4_method_1_code 0 = .ok (.aload_n 0, 1) := by decide +kernel
theorem d_FO_init_1 : decode prog_4_method_1_code 1 = .ok (.invokespecial 3, 3) := by decide +kernel
theorem d_FO_init_4 : decode prog_4_method_1_code 4 = .ok (.aload_n 0, 1) := by decide +kernel
theorem d_FO_init_5 : decode prog_4_method_1_code 5 = .ok (.aload_n 1, 1) := by decide +kernel
theorem d_FO_init_6 : decode prog_4_method_1_code 6 = .ok (.putfield 9, 3) := by decide +kernel
theorem d_FO_init_9 : decode prog_4_method_1_code 9 = .ok (.return_, 1) := by decide +kernel
theorem d_FO_firstWrongLine_0 : decode prog_4_method_3_code 0 = .ok (.iconst 1, 1) := by decide +kernel
theorem d_FO_firstWrongLine_1 : decode prog_4_method_3_code 1 = .ok (.istore_n 2, 1) := by decide +kernel
theorem d_FO_firstWrongLine_2 : decode prog_4_method_3_code 2 = .ok (.aload_n 0, 1) := by decide +kernel
theorem d_FO_firstWrongLine_3 : decode prog_4_method_3_code 3 = .ok (.iconst 0, 1) := by decide +kernel
theorem d_FO_firstWrongLine_4 : decode prog_4_method_3_code 4 = .ok (.putfield 15, 3) := by decide +kernel
theorem d_FO_firstWrongLine_7 : decode prog_4_method_3_code 7 = .ok (.iconst 0, 1) := by decide +kernel
theorem d_FO_firstWrongLine_8 : decode prog_4_method_3_code 8 = .ok (.istore_n 3, 1) := by decide +kernel
theorem d_FO_firstWrongLine_9 : decode prog_4_method_3_code 9 = .ok (.iload_n 3, 1) := by decide +kernel
theorem d_FO_firstWrongLine_10 : decode prog_4_method_3_code 10 = .ok (.iload_n 1, 1) := by decide +kernel
theorem d_FO_firstWrongLine_11 : decode prog_4_method_3_code 11 = .ok (.if_icmp .gt 49, 3) := by decide +kernel
theorem d_FO_firstWrongLine_14 : decode prog_4_method_3_code 14 = .ok (.iload_n 3, 1) := by decide +kernel
theorem d_FO_firstWrongLine_15 : decode prog_4_method_3_code 15 = .ok (.iload_n 1, 1) := by decide +kernel
theorem d_FO_firstWrongLine_16 : decode prog_4_method_3_code 16 = .ok (.if_icmp .eq 14, 3) := by decide +kernel
theorem d_FO_firstWrongLine_19 : decode prog_4_method_3_code 19 = .ok (.aload_n 0, 1) := by decide +kernel
theorem d_FO_firstWrongLine_20 : decode prog_4_method_3_code 20 = .ok (.getfield 9, 3) := by decide +kernel
theorem d_FO_firstWrongLine_23 : decode prog_4_method_3_code 23 = .ok (.iload_n 3, 1) := by decide +kernel
theorem d_FO_firstWrongLine_24 : decode prog_4_method_3_code 24 = .ok (.caload, 1) := by decide +kernel
theorem d_FO_firstWrongLine_25 : decode prog_4_method_3_code 25 = .ok (.bipush 10, 2) := by decide +kernel
theorem d_FO_firstWrongLine_27 : decode prog_4_method_3_code 27 = .ok (.if_icmp .ne 27, 3) := by decide +kernel
theorem d_FO_firstWrongLine_30 : decode prog_4_method_3_code 30 = .ok (.aload_n 0, 1) := by decide +kernel
theorem d_FO_firstWrongLine_31 : decode prog_4_method_3_code 31 = .ok (.iload_n 3, 1) := by decide +kernel
theorem d_FO_firstWrongLine_32 : decode prog_4_method_3_code 32 = .ok (.putfield 19, 3) := by decide +kernel
theorem d_FO_firstWrongLine_35 : decode prog_4_method_3_code 35 = .ok (.aload_n 0, 1) := by decide +kernel
theorem d_FO_firstWrongLine_36 : decode prog_4_method_3_code 36 = .ok (.invokevirtual 22, 3) := by decide +kernel
theorem d_FO_firstWrongLine_39 : decode prog_4_method_3_code 39 = .ok (.ifCond .ne 5, 3) := by decide +kernel
theorem d_FO_firstWrongLine_42 : decode prog_4_method_3_code 42 = .ok (.iload_n 2, 1) := by decide +kernel
theorem d_FO_firstWrongLine_43 : decode prog_4_method_3_code 43 = .ok (.ireturn, 1) := by decide +kernel
theorem d_FO_firstWrongLine_44 : decode prog_4_method_3_code 44 = .ok (.iinc 2 1, 3) := by decide +kernel
theorem d_FO_firstWrongLine_47 : decode prog_4_method_3_code 47 = .ok (.aload_n 0, 1) := by decide +kernel
theorem d_FO_firstWrongLine_48 : decode prog_4_method_3_code 48 = .ok (.iload_n 3, 1) := by decide +kernel
theorem d_FO_firstWrongLine_49 : decode prog_4_method_3_code 49 = .ok (.iconst 1, 1) := by decide +kernel
theorem d_FO_firstWrongLine_50 : decode prog_4_method_3_code 50 = .ok (.iadd, 1) := by decide +kernel
theorem d_FO_firstWrongLine_51 : decode prog_4_method_3_code 51 = .ok (.putfield 15, 3) := by decide +kernel
theorem d_FO_firstWrongLine_54 : decode prog_4_method_3_code 54 = .ok (.iinc 3 1, 3) := by decide +kernel
theorem d_FO_firstWrongLine_57 : decode prog_4_method_3_code 57 = .ok (.goto (-48), 3) := by decide +kernel
theorem d_FO_firstWrongLine_60 : decode prog_4_method_3_code 60 = .ok (.iconst (-1), 1) := by decide +kernel
theorem d_FO_firstWrongLine_61 : decode prog_4_method_3_code 61 = .ok (.ireturn, 1) := by decide +kernel
theorem d_FO_isDone_0 : decode prog_4_method_4_code 0 = .ok (.aload_n 0, 1) := by decide +kernel
theorem d_FO_isDone_1 : decode prog_4_method_4_code 1 = .ok (.getfield 15, 3) := by decide +kernel
theorem d_FO_isDone_4 : decode prog_4_method_4_code 4 = .ok (.aload_n 0, 1) := by decide +kernel
theorem d_FO_isDone_5 : decode prog_4_method_4_code 5 = .ok (.getfield 19, 3) := by decide +kernel
theorem d_FO_isDone_8 : decode prog_4_method_4_code 8 = .ok (.if_icmp .lt 7, 3) := by decide +kernel
theorem d_FO_isDone_11 : decode prog_4_method_4_code 11 = .ok (.iconst 1, 1) := by decide +kernel
theorem d_FO_isDone_12 : decode prog_4_method_4_code 12 = .ok (.goto 4, 3) := by decide +kernel
theorem d_FO_isDone_15 : decode prog_4_method_4_code 15 = .ok (.iconst 0, 1) := by decide +kernel
theorem d_FO_isDone_16 : decode prog_4_method_4_code 16 = .ok (.ireturn, 1) := by decide +kernel
theorem d_FO_isAtComment_0 : decode prog_4_method_5_code 0 = .ok (.aload_n 0, 1) := by decide +kernel
theorem d_FO_isAtComment_1 : decode prog_4_method_5_code 1 = .ok (.getfield 15, 3) := by decide +kernel
theorem d_FO_isAtComment_4 : decode prog_4_method_5_code 4 = .ok (.aload_n 0, 1) := by decide +kernel
theorem d_FO_isAtComment_5 : decode prog_4_method_5_code 5 = .ok (.getfield 19, 3) := by decide +kernel
theorem d_FO_isAtComment_8 : decode prog_4_method_5_code 8 = .ok (.if_icmp .ge 21, 3) := by decide +kernel
theorem d_FO_isAtComment_11 : decode prog_4_method_5_code 11 = .ok (.aload_n 0, 1) := by decide +kernel
theorem d_FO_isAtComment_12 : decode prog_4_method_5_code 12 = .ok (.getfield 9, 3) := by decide +kernel
theorem d_FO_isAtComment_15 : decode prog_4_method_5_code 15 = .ok (.aload_n 0, 1) := by decide +kernel
theorem d_FO_isAtComment_16 : decode prog_4_method_5_code 16 = .ok (.getfield 15, 3) := by decide +kernel
theorem d_FO_isAtComment_19 : decode prog_4_method_5_code 19 = .ok (.caload, 1) := by decide +kernel
theorem d_FO_isAtComment_20 : decode prog_4_method_5_code 20 = .ok (.bipush 35, 2) := by decide +kernel
theorem d_FO_isAtComment_22 : decode prog_4_method_5_code 22 = .ok (.if_icmp .ne 7, 3) := by decide +kernel
theorem d_FO_isAtComment_25 : decode prog_4_method_5_code 25 = .ok (.iconst 1, 1) := by decide +kernel
theorem d_FO_isAtComment_26 : decode prog_4_method_5_code 26 = .ok (.goto 4, 3) := by decide +kernel
theorem d_FO_isAtComment_29 : decode prog_4_method_5_code 29 = .ok (.iconst 0, 1) := by decide +kernel
theorem d_FO_isAtComment_30 : decode prog_4_method_5_code 30 = .ok (.ireturn, 1) := by decide +kernel
theorem d_FO_isAtFigure_0 : decode prog_4_method_6_code 0 = .ok (.aload_n 0, 1) := by decide +kernel
theorem d_FO_isAtFigure_1 : decode prog_4_method_6_code 1 = .ok (.getfield 15, 3) := by decide +kernel
theorem d_FO_isAtFigure_4 : decode prog_4_method_6_code 4 = .ok (.aload_n 0, 1) := by decide +kernel
theorem d_FO_isAtFigure_5 : decode prog_4_method_6_code 5 = .ok (.getfield 19, 3) := by decide +kernel
theorem d_FO_isAtFigure_8 : decode prog_4_method_6_code 8 = .ok (.if_icmp .ge 22, 3) := by decide +kernel
theorem d_FO_isAtFigure_11 : decode prog_4_method_6_code 11 = .ok (.aload_n 0, 1) := by decide +kernel
theorem d_FO_isAtFigure_12 : decode prog_4_method_6_code 12 = .ok (.getfield 9, 3) := by decide +kernel
theorem d_FO_isAtFigure_15 : decode prog_4_method_6_code 15 = .ok (.aload_n 0, 1) := by decide +kernel
theorem d_FO_isAtFigure_16 : decode prog_4_method_6_code 16 = .ok (.getfield 15, 3) := by decide +kernel
theorem d_FO_isAtFigure_19 : decode prog_4_method_6_code 19 = .ok (.caload, 1) := by decide +kernel
theorem d_FO_isAtFigure_20 : decode prog_4_method_6_code 20 = .ok (.invokestatic 26, 3) := by decide +kernel
theorem d_FO_isAtFigure_23 : decode prog_4_method_6_code 23 = .ok (.ifCond .eq 7, 3) := by decide +kernel
theorem d_FO_isAtFigure_26 : decode prog_4_method_6_code 26 = .ok (.iconst 1, 1) := by decide +kernel
theorem d_FO_isAtFigure_27 : decode prog_4_method_6_code 27 = .ok (.goto 4, 3) := by decide +kernel
theorem d_FO_isAtFigure_30 : decode prog_4_method_6_code 30 = .ok (.iconst 0, 1) := by decide +kernel
theorem d_FO_isAtFigure_31 : decode prog_4_method_6_code 31 = .ok (.ireturn, 1) := by decide +kernel
theorem d_FO_takeWord_0 : decode prog_4_method_7_code 0 = .ok (.aload_n 1, 1) := by decide +kernel
theorem d_FO_takeWord_1 : decode prog_4_method_7_code 1 = .ok (.invokevirtual 30, 3) := by decide +kernel
theorem d_FO_takeWord_4 : decode prog_4_method_7_code 4 = .ok (.aload_n 0, 1) := by decide +kernel
theorem d_FO_takeWord_5 : decode prog_4_method_7_code 5 = .ok (.getfield 19, 3) := by decide +kernel
theorem d_FO_takeWord_8 : decode prog_4_method_7_code 8 = .ok (.aload_n 0, 1) := by decide +kernel
theorem d_FO_takeWord_9 : decode prog_4_method_7_code 9 = .ok (.getfield 15, 3) := by decide +kernel
theorem d_FO_takeWord_12 : decode prog_4_method_7_code 12 = .ok (.isub, 1) := by decide +kernel
theorem d_FO_takeWord_13 : decode prog_4_method_7_code 13 = .ok (.if_icmp .le 5, 3) := by decide +kernel
theorem d_FO_takeWord_16 : decode prog_4_method_7_code 16 = .ok (.iconst 0, 1) := by decide +kernel
theorem d_FO_takeWord_17 : decode prog_4_method_7_code 17 = .ok (.ireturn, 1) := by decide +kernel
theorem d_FO_takeWord_18 : decode prog_4_method_7_code 18 = .ok (.iconst 0, 1) := by decide +kernel
theorem d_FO_takeWord_19 : decode prog_4_method_7_code 19 = .ok (.istore_n 2, 1) := by decide +kernel
theorem d_FO_takeWord_20 : decode prog_4_method_7_code 20 = .ok (.iload_n 2, 1) := by decide +kernel
theorem d_FO_takeWord_21 : decode prog_4_method_7_code 21 = .ok (.aload_n 1, 1) := by decide +kernel
theorem d_FO_takeWord_22 : decode prog_4_method_7_code 22 = .ok (.invokevirtual 30, 3) := by decide +kernel
theorem d_FO_takeWord_25 : decode prog_4_method_7_code 25 = .ok (.if_icmp .ge 30, 3) := by decide +kernel
theorem d_FO_takeWord_28 : decode prog_4_method_7_code 28 = .ok (.aload_n 0, 1) := by decide +kernel
theorem d_FO_takeWord_29 : decode prog_4_method_7_code 29 = .ok (.getfield 9, 3) := by decide +kernel
theorem d_FO_takeWord_32 : decode prog_4_method_7_code 32 = .ok (.aload_n 0, 1) := by decide +kernel
theorem d_FO_takeWord_33 : decode prog_4_method_7_code 33 = .ok (.getfield 15, 3) := by decide +kernel
theorem d_FO_takeWord_36 : decode prog_4_method_7_code 36 = .ok (.iload_n 2, 1) := by decide +kernel
theorem d_FO_takeWord_37 : decode prog_4_method_7_code 37 = .ok (.iadd, 1) := by decide +kernel
theorem d_FO_takeWord_38 : decode prog_4_method_7_code 38 = .ok (.caload, 1) := by decide +kernel
theorem d_FO_takeWord_39 : decode prog_4_method_7_code 39 = .ok (.aload_n 1, 1) := by decide +kernel
theorem d_FO_takeWord_40 : decode prog_4_method_7_code 40 = .ok (.iload_n 2, 1) := by decide +kernel
theorem d_FO_takeWord_41 : decode prog_4_method_7_code 41 = .ok (.invokevirtual 36, 3) := by decide +kernel
theorem d_FO_takeWord_44 : decode prog_4_method_7_code 44 = .ok (.if_icmp .eq 5, 3) := by decide +kernel
theorem d_FO_takeWord_47 : decode prog_4_method_7_code 47 = .ok (.iconst 0, 1) := by decide +kernel
theorem d_FO_takeWord_48 : decode prog_4_method_7_code 48 = .ok (.ireturn, 1) := by decide +kernel
theorem d_FO_takeWord_49 : decode prog_4_method_7_code 49 = .ok (.iinc 2 1, 3) := by decide +kernel
theorem d_FO_takeWord_52 : decode prog_4_method_7_code 52 = .ok (.goto (-32), 3) := by decide +kernel
theorem d_FO_takeWord_55 : decode prog_4_method_7_code 55 = .ok (.aload_n 0, 1) := by decide +kernel
theorem d_FO_takeWord_56 : decode prog_4_method_7_code 56 = .ok (.dup, 1) := by decide +kernel
theorem d_FO_takeWord_57 : decode prog_4_method_7_code 57 = .ok (.getfield 15, 3) := by decide +kernel
theorem d_FO_takeWord_60 : decode prog_4_method_7_code 60 = .ok (.aload_n 1, 1) := by decide +kernel
theorem d_FO_takeWord_61 : decode prog_4_method_7_code 61 = .ok (.invokevirtual 30, 3) := by decide +kernel
theorem d_FO_takeWord_64 : decode prog_4_method_7_code 64 = .ok (.iadd, 1) := by decide +kernel
theorem d_FO_takeWord_65 : decode prog_4_method_7_code 65 = .ok (.putfield 15, 3) := by decide +kernel
theorem d_FO_takeWord_68 : decode prog_4_method_7_code 68 = .ok (.iconst 1, 1) := by decide +kernel
theorem d_FO_takeWord_69 : decode prog_4_method_7_code 69 = .ok (.ireturn, 1) := by decide +kernel
theorem d_FO_takeWordInto_0 : decode prog_4_method_8_code 0 = .ok (.aload_n 2, 1) := by decide +kernel
theorem d_FO_takeWordInto_1 : decode prog_4_method_8_code 1 = .ok (.aload_n 0, 1) := by decide +kernel
theorem d_FO_takeWordInto_2 : decode prog_4_method_8_code 2 = .ok (.getfield 15, 3) := by decide +kernel
theorem d_FO_takeWordInto_5 : decode prog_4_method_8_code 5 = .ok (.aload_n 0, 1) := by decide +kernel
theorem d_FO_takeWordInto_6 : decode prog_4_method_8_code 6 = .ok (.getfield 15, 3) := by decide +kernel
theorem d_FO_takeWordInto_9 : decode prog_4_method_8_code 9 = .ok (.aload_n 1, 1) := by decide +kernel
theorem d_FO_takeWordInto_10 : decode prog_4_method_8_code 10 = .ok (.invokevirtual 30, 3) := by decide +kernel
theorem d_FO_takeWordInto_13 : decode prog_4_method_8_code 13 = .ok (.iadd, 1) := by decide +kernel
theorem d_FO_takeWordInto_14 : decode prog_4_method_8_code 14 = .ok (.aload_n 0, 1) := by decide +kernel
theorem d_FO_takeWordInto_15 : decode prog_4_method_8_code 15 = .ok (.getfield 19, 3) := by decide +kernel
theorem d_FO_takeWordInto_18 : decode prog_4_method_8_code 18 = .ok (.invokestatic 40, 3) := by decide +kernel
theorem d_FO_takeWordInto_21 : decode prog_4_method_8_code 21 = .ok (.invokevirtual 46, 3) := by decide +kernel
theorem d_FO_takeWordInto_24 : decode prog_4_method_8_code 24 = .ok (.aload_n 0, 1) := by decide +kernel
theorem d_FO_takeWordInto_25 : decode prog_4_method_8_code 25 = .ok (.aload_n 1, 1) := by decide +kernel
theorem d_FO_takeWordInto_26 : decode prog_4_method_8_code 26 = .ok (.invokevirtual 52, 3) := by decide +kernel
theorem d_FO_takeWordInto_29 : decode prog_4_method_8_code 29 = .ok (.ireturn, 1) := by decide +kernel
theorem d_FO_takeRest_0 : decode prog_4_method_9_code 0 = .ok (.aload_n 1, 1) := by decide +kernel
theorem d_FO_takeRest_1 : decode prog_4_method_9_code 1 = .ok (.aload_n 0, 1) := by decide +kernel
theorem d_FO_takeRest_2 : decode prog_4_method_9_code 2 = .ok (.getfield 15, 3) := by decide +kernel
theorem d_FO_takeRest_5 : decode prog_4_method_9_code 5 = .ok (.aload_n 0, 1) := by decide +kernel
theorem d_FO_takeRest_6 : decode prog_4_method_9_code 6 = .ok (.getfield 19, 3) := by decide +kernel
theorem d_FO_takeRest_9 : decode prog_4_method_9_code 9 = .ok (.invokevirtual 46, 3) := by decide +kernel
theorem d_FO_takeRest_12 : decode prog_4_method_9_code 12 = .ok (.aload_n 0, 1) := by decide +kernel
theorem d_FO_takeRest_13 : decode prog_4_method_9_code 13 = .ok (.aload_n 0, 1) := by decide +kernel
theorem d_FO_takeRest_14 : decode prog_4_method_9_code 14 = .ok (.getfield 19, 3) := by decide +kernel
theorem d_FO_takeRest_17 : decode prog_4_method_9_code 17 = .ok (.putfield 15, 3) := by decide +kernel
theorem d_FO_takeRest_20 : decode prog_4_method_9_code 20 = .ok (.return_, 1) := by decide +kernel
theorem d_FO_takeParts_0 : decode prog_4_method_10_code 0 = .ok (.iconst 1, 1) := by decide +kernel
theorem d_FO_takeParts_1 : decode prog_4_method_10_code 1 = .ok (.istore 4, 2) := by decide +kernel
theorem d_FO_takeParts_3 : decode prog_4_method_10_code 3 = .ok (.aload_n 0, 1) := by decide +kernel
theorem d_FO_takeParts_4 : decode prog_4_method_10_code 4 = .ok (.getfield 15, 3) := by decide +kernel
theorem d_FO_takeParts_7 : decode prog_4_method_10_code 7 = .ok (.istore 5, 2) := by decide +kernel
theorem d_FO_takeParts_9 : decode prog_4_method_10_code 9 = .ok (.aload_n 0, 1) := by decide +kernel
theorem d_FO_takeParts_10 : decode prog_4_method_10_code 10 = .ok (.getfield 15, 3) := by decide +kernel
theorem d_FO_takeParts_13 : decode prog_4_method_10_code 13 = .ok (.istore 6, 2) := by decide +kernel
theorem d_FO_takeParts_15 : decode prog_4_method_10_code 15 = .ok (.iload 6, 2) := by decide +kernel
theorem d_FO_takeParts_17 : decode prog_4_method_10_code 17 = .ok (.aload_n 0, 1) := by decide +kernel
theorem d_FO_takeParts_18 : decode prog_4_method_10_code 18 = .ok (.getfield 19, 3) := by decide +kernel
theorem d_FO_takeParts_21 : decode prog_4_method_10_code 21 = .ok (.if_icmp .ge 88, 3) := by decide +kernel
theorem d_FO_takeParts_24 : decode prog_4_method_10_code 24 = .ok (.aload_n 0, 1) := by decide +kernel
theorem d_FO_takeParts_25 : decode prog_4_method_10_code 25 = .ok (.getfield 9, 3) := by decide +kernel
theorem d_FO_takeParts_28 : decode prog_4_method_10_code 28 = .ok (.iload 6, 2) := by decide +kernel
theorem d_FO_takeParts_30 : decode prog_4_method_10_code 30 = .ok (.caload, 1) := by decide +kernel
theorem d_FO_takeParts_31 : decode prog_4_method_10_code 31 = .ok (.istore 7, 2) := by decide +kernel
theorem d_FO_takeParts_33 : decode prog_4_method_10_code 33 = .ok (.iload 7, 2) := by decide +kernel
theorem d_FO_takeParts_35 : decode prog_4_method_10_code 35 = .ok (.invokestatic 56, 3) := by decide +kernel
theorem d_FO_takeParts_38 : decode prog_4_method_10_code 38 = .ok (.ifCond .ne 65, 3) := by decide +kernel
theorem d_FO_takeParts_41 : decode prog_4_method_10_code 41 = .ok (.iload 7, 2) := by decide +kernel
theorem d_FO_takeParts_43 : decode prog_4_method_10_code 43 = .ok (.invokestatic 26, 3) := by decide +kernel
theorem d_FO_takeParts_46 : decode prog_4_method_10_code 46 = .ok (.ifCond .eq 13, 3) := by decide +kernel
theorem d_FO_takeParts_49 : decode prog_4_method_10_code 49 = .ok (.iload 6, 2) := by decide +kernel
theorem d_FO_takeParts_51 : decode prog_4_method_10_code 51 = .ok (.iload 5, 2) := by decide +kernel
theorem d_FO_takeParts_53 : decode prog_4_method_10_code 53 = .ok (.if_icmp .le 6, 3) := by decide +kernel
theorem d_FO_takeParts_56 : decode prog_4_method_10_code 56 = .ok (.goto 47, 3) := by decide +kernel
theorem d_FO_takeParts_59 : decode prog_4_method_10_code 59 = .ok (.iload 7, 2) := by decide +kernel
theorem d_FO_takeParts_61 : decode prog_4_method_10_code 61 = .ok (.bipush 46, 2) := by decide +kernel
theorem d_FO_takeParts_63 : decode prog_4_method_10_code 63 = .ok (.if_icmp .ne 46, 3) := by decide +kernel
theorem d_FO_takeParts_66 : decode prog_4_method_10_code 66 = .ok (.iload 6, 2) := by decide +kernel
theorem d_FO_takeParts_68 : decode prog_4_method_10_code 68 = .ok (.iload 5, 2) := by decide +kernel
theorem d_FO_takeParts_70 : decode prog_4_method_10_code 70 = .ok (.if_icmp .eq 39, 3) := by decide +kernel
theorem d_FO_takeParts_73 : decode prog_4_method_10_code 73 = .ok (.iload 4, 2) := by decide +kernel
theorem d_FO_takeParts_75 : decode prog_4_method_10_code 75 = .ok (.iload_n 2, 1) := by decide +kernel
theorem d_FO_takeParts_76 : decode prog_4_method_10_code 76 = .ok (.if_icmp .ne 6, 3) := by decide +kernel
theorem d_FO_takeParts_79 : decode prog_4_method_10_code 79 = .ok (.goto 30, 3) := by decide +kernel
theorem d_FO_takeParts_82 : decode prog_4_method_10_code 82 = .ok (.iload 6, 2) := by decide +kernel
theorem d_FO_takeParts_84 : decode prog_4_method_10_code 84 = .ok (.iload 5, 2) := by decide +kernel
theorem d_FO_takeParts_86 : decode prog_4_method_10_code 86 = .ok (.isub, 1) := by decide +kernel
theorem d_FO_takeParts_87 : decode prog_4_method_10_code 87 = .ok (.bipush 40, 2) := by decide +kernel
theorem d_FO_takeParts_89 : decode prog_4_method_10_code 89 = .ok (.if_icmp .le 5, 3) := by decide +kernel
theorem d_FO_takeParts_92 : decode prog_4_method_10_code 92 = .ok (.iconst 0, 1) := by decide +kernel
theorem d_FO_takeParts_93 : decode prog_4_method_10_code 93 = .ok (.ireturn, 1) := by decide +kernel
theorem d_FO_takeParts_94 : decode prog_4_method_10_code 94 = .ok (.iinc 4 1, 3) := by decide +kernel
theorem d_FO_takeParts_97 : decode prog_4_method_10_code 97 = .ok (.iload 6, 2) := by decide +kernel
theorem d_FO_takeParts_99 : decode prog_4_method_10_code 99 = .ok (.iconst 1, 1) := by decide +kernel
theorem d_FO_takeParts_100 : decode prog_4_method_10_code 100 = .ok (.iadd, 1) := by decide +kernel
theorem d_FO_takeParts_101 : decode prog_4_method_10_code 101 = .ok (.istore 5, 2) := by decide +kernel
theorem d_FO_takeParts_103 : decode prog_4_method_10_code 103 = .ok (.iinc 6 1, 3) := by decide +kernel
theorem d_FO_takeParts_106 : decode prog_4_method_10_code 106 = .ok (.goto (-91), 3) := by decide +kernel
theorem d_FO_takeParts_109 : decode prog_4_method_10_code 109 = .ok (.iload 6, 2) := by decide +kernel
theorem d_FO_takeParts_111 : decode prog_4_method_10_code 111 = .ok (.iload 5, 2) := by decide +kernel
theorem d_FO_takeParts_113 : decode prog_4_method_10_code 113 = .ok (.if_icmp .eq 24, 3) := by decide +kernel
theorem d_FO_takeParts_116 : decode prog_4_method_10_code 116 = .ok (.iload 6, 2) := by decide +kernel
theorem d_FO_takeParts_118 : decode prog_4_method_10_code 118 = .ok (.iload 5, 2) := by decide +kernel
theorem d_FO_takeParts_120 : decode prog_4_method_10_code 120 = .ok (.isub, 1) := by decide +kernel
theorem d_FO_takeParts_121 : decode prog_4_method_10_code 121 = .ok (.bipush 40, 2) := by decide +kernel
theorem d_FO_takeParts_123 : decode prog_4_method_10_code 123 = .ok (.if_icmp .gt 14, 3) := by decide +kernel
theorem d_FO_takeParts_126 : decode prog_4_method_10_code 126 = .ok (.iload 6, 2) := by decide +kernel
theorem d_FO_takeParts_128 : decode prog_4_method_10_code 128 = .ok (.aload_n 0, 1) := by decide +kernel
theorem d_FO_takeParts_129 : decode prog_4_method_10_code 129 = .ok (.getfield 15, 3) := by decide +kernel
theorem d_FO_takeParts_132 : decode prog_4_method_10_code 132 = .ok (.isub, 1) := by decide +kernel
theorem d_FO_takeParts_133 : decode prog_4_method_10_code 133 = .ok (.iload_n 3, 1) := by decide +kernel
theorem d_FO_takeParts_134 : decode prog_4_method_10_code 134 = .ok (.if_icmp .le 5, 3) := by decide +kernel
theorem d_FO_takeParts_137 : decode prog_4_method_10_code 137 = .ok (.iconst 0, 1) := by decide +kernel
theorem d_FO_takeParts_138 : decode prog_4_method_10_code 138 = .ok (.ireturn, 1) := by decide +kernel
theorem d_FO_takeParts_139 : decode prog_4_method_10_code 139 = .ok (.aload_n 1, 1) := by decide +kernel
theorem d_FO_takeParts_140 : decode prog_4_method_10_code 140 = .ok (.aload_n 0, 1) := by decide +kernel
theorem d_FO_takeParts_141 : decode prog_4_method_10_code 141 = .ok (.getfield 15, 3) := by decide +kernel
theorem d_FO_takeParts_144 : decode prog_4_method_10_code 144 = .ok (.iload 6, 2) := by decide +kernel
theorem d_FO_takeParts_146 : decode prog_4_method_10_code 146 = .ok (.invokevirtual 46, 3) := by decide +kernel
theorem d_FO_takeParts_149 : decode prog_4_method_10_code 149 = .ok (.aload_n 0, 1) := by decide +kernel
theorem d_FO_takeParts_150 : decode prog_4_method_10_code 150 = .ok (.iload 6, 2) := by decide +kernel
theorem d_FO_takeParts_152 : decode prog_4_method_10_code 152 = .ok (.putfield 15, 3) := by decide +kernel
theorem d_FO_takeParts_155 : decode prog_4_method_10_code 155 = .ok (.iconst 1, 1) := by decide +kernel
theorem d_FO_takeParts_156 : decode prog_4_method_10_code 156 = .ok (.ireturn, 1) := by decide +kernel
theorem d_FO_takeNumber_0 : decode prog_4_method_11_code 0 = .ok (.iconst 0, 1) := by decide +kernel
theorem d_FO_takeNumber_1 : decode prog_4_method_11_code 1 = .ok (.istore_n 1, 1) := by decide +kernel
theorem d_FO_takeNumber_2 : decode prog_4_method_11_code 2 = .ok (.aload_n 0, 1) := by decide +kernel
theorem d_FO_takeNumber_3 : decode prog_4_method_11_code 3 = .ok (.getfield 15, 3) := by decide +kernel
theorem d_FO_takeNumber_6 : decode prog_4_method_11_code 6 = .ok (.istore_n 2, 1) := by decide +kernel
theorem d_FO_takeNumber_7 : decode prog_4_method_11_code 7 = .ok (.iload_n 2, 1) := by decide +kernel
theorem d_FO_takeNumber_8 : decode prog_4_method_11_code 8 = .ok (.aload_n 0, 1) := by decide +kernel
theorem d_FO_takeNumber_9 : decode prog_4_method_11_code 9 = .ok (.getfield 19, 3) := by decide +kernel
theorem d_FO_takeNumber_12 : decode prog_4_method_11_code 12 = .ok (.if_icmp .ge 60, 3) := by decide +kernel
theorem d_FO_takeNumber_15 : decode prog_4_method_11_code 15 = .ok (.aload_n 0, 1) := by decide +kernel
