theorem d_MO_stands_68 : decode prog_14_method_10_code 68 = .ok (.iconst 0, 1) := by decide +kernel
theorem d_MO_stands_69 : decode prog_14_method_10_code 69 = .ok (.istore 6, 2) := by decide +kernel
theorem d_MO_stands_71 : decode prog_14_method_10_code 71 = .ok (.iinc 7 1, 3) := by decide +kernel
theorem d_MO_stands_74 : decode prog_14_method_10_code 74 = .ok (.goto (-52), 3) := by decide +kernel
theorem d_MO_stands_77 : decode prog_14_method_10_code 77 = .ok (.iload 6, 2) := by decide +kernel
theorem d_MO_stands_79 : decode prog_14_method_10_code 79 = .ok (.ireturn, 1) := by decide +kernel
theorem d_MO_same_0 : decode prog_14_method_11_code 0 = .ok (.iload_n 2, 1) := by decide +kernel
theorem d_MO_same_1 : decode prog_14_method_11_code 1 = .ok (.iload_n 1, 1) := by decide +kernel
theorem d_MO_same_2 : decode prog_14_method_11_code 2 = .ok (.isub, 1) := by decide +kernel
theorem d_MO_same_3 : decode prog_14_method_11_code 3 = .ok (.iload 4, 2) := by decide +kernel
theorem d_MO_same_5 : decode prog_14_method_11_code 5 = .ok (.iload_n 3, 1) := by decide +kernel
theorem d_MO_same_6 : decode prog_14_method_11_code 6 = .ok (.isub, 1) := by decide +kernel
theorem d_MO_same_7 : decode prog_14_method_11_code 7 = .ok (.if_icmp .ne 7, 3) := by decide +kernel
theorem d_MO_same_10 : decode prog_14_method_11_code 10 = .ok (.iconst 1, 1) := by decide +kernel
theorem d_MO_same_11 : decode prog_14_method_11_code 11 = .ok (.goto 4, 3) := by decide +kernel
theorem d_MO_same_14 : decode prog_14_method_11_code 14 = .ok (.iconst 0, 1) := by decide +kernel
theorem d_MO_same_15 : decode prog_14_method_11_code 15 = .ok (.istore 5, 2) := by decide +kernel
theorem d_MO_same_17 : decode prog_14_method_11_code 17 = .ok (.iconst 0, 1) := by decide +kernel
theorem d_MO_same_18 : decode prog_14_method_11_code 18 = .ok (.istore 6, 2) := by decide +kernel
theorem d_MO_same_20 : decode prog_14_method_11_code 20 = .ok (.iload 5, 2) := by decide +kernel
theorem d_MO_same_22 : decode prog_14_method_11_code 22 = .ok (.ifCond .eq 45, 3) := by decide +kernel
theorem d_MO_same_25 : decode prog_14_method_11_code 25 = .ok (.iload 6, 2) := by decide +kernel
theorem d_MO_same_27 : decode prog_14_method_11_code 27 = .ok (.iload_n 2, 1) := by decide +kernel
theorem d_MO_same_28 : decode prog_14_method_11_code 28 = .ok (.iload_n 1, 1) := by decide +kernel
theorem d_MO_same_29 : decode prog_14_method_11_code 29 = .ok (.isub, 1) := by decide +kernel
theorem d_MO_same_30 : decode prog_14_method_11_code 30 = .ok (.if_icmp .ge 37, 3) := by decide +kernel
theorem d_MO_same_33 : decode prog_14_method_11_code 33 = .ok (.aload_n 0, 1) := by decide +kernel
theorem d_MO_same_34 : decode prog_14_method_11_code 34 = .ok (.getfield 13, 3) := by decide +kernel
theorem d_MO_same_37 : decode prog_14_method_11_code 37 = .ok (.iload_n 1, 1) := by decide +kernel
theorem d_MO_same_38 : decode prog_14_method_11_code 38 = .ok (.iload 6, 2) := by decide +kernel
theorem d_MO_same_40 : decode prog_14_method_11_code 40 = .ok (.iadd, 1) := by decide +kernel
theorem d_MO_same_41 : decode prog_14_method_11_code 41 = .ok (.iaload, 1) := by decide +kernel
theorem d_MO_same_42 : decode prog_14_method_11_code 42 = .ok (.aload_n 0, 1) := by decide +kernel
theorem d_MO_same_43 : decode prog_14_method_11_code 43 = .ok (.getfield 13, 3) := by decide +kernel
theorem d_MO_same_46 : decode prog_14_method_11_code 46 = .ok (.iload_n 3, 1) := by decide +kernel
theorem d_MO_same_47 : decode prog_14_method_11_code 47 = .ok (.iload 6, 2) := by decide +kernel
theorem d_MO_same_49 : decode prog_14_method_11_code 49 = .ok (.iadd, 1) := by decide +kernel
theorem d_MO_same_50 : decode prog_14_method_11_code 50 = .ok (.iaload, 1) := by decide +kernel
theorem d_MO_same_51 : decode prog_14_method_11_code 51 = .ok (.if_icmp .ne 7, 3) := by decide +kernel
theorem d_MO_same_54 : decode prog_14_method_11_code 54 = .ok (.iconst 1, 1) := by decide +kernel
theorem d_MO_same_55 : decode prog_14_method_11_code 55 = .ok (.goto 4, 3) := by decide +kernel
theorem d_MO_same_58 : decode prog_14_method_11_code 58 = .ok (.iconst 0, 1) := by decide +kernel
theorem d_MO_same_59 : decode prog_14_method_11_code 59 = .ok (.istore 5, 2) := by decide +kernel
theorem d_MO_same_61 : decode prog_14_method_11_code 61 = .ok (.iinc 6 1, 3) := by decide +kernel
theorem d_MO_same_64 : decode prog_14_method_11_code 64 = .ok (.goto (-44), 3) := by decide +kernel
theorem d_MO_same_67 : decode prog_14_method_11_code 67 = .ok (.iload 5, 2) := by decide +kernel
theorem d_MO_same_69 : decode prog_14_method_11_code 69 = .ok (.ireturn, 1) := by decide +kernel
theorem d_MO_classLine_0 : decode prog_14_method_12_code 0 = .ok (.aload_n 0, 1) := by decide +kernel
theorem d_MO_classLine_1 : decode prog_14_method_12_code 1 = .ok (.iload_n 1, 1) := by decide +kernel
theorem d_MO_classLine_2 : decode prog_14_method_12_code 2 = .ok (.iload_n 2, 1) := by decide +kernel
theorem d_MO_classLine_3 : decode prog_14_method_12_code 3 = .ok (.invokevirtual 142, 3) := by decide +kernel
theorem d_MO_classLine_6 : decode prog_14_method_12_code 6 = .ok (.istore_n 3, 1) := by decide +kernel
theorem d_MO_classLine_7 : decode prog_14_method_12_code 7 = .ok (.aload_n 0, 1) := by decide +kernel
theorem d_MO_classLine_8 : decode prog_14_method_12_code 8 = .ok (.getfield 145, 3) := by decide +kernel
theorem d_MO_classLine_11 : decode prog_14_method_12_code 11 = .ok (.bipush 8, 2) := by decide +kernel
theorem d_MO_classLine_13 : decode prog_14_method_12_code 13 = .ok (.if_icmp .eq 20, 3) := by decide +kernel
theorem d_MO_classLine_16 : decode prog_14_method_12_code 16 = .ok (.iload_n 3, 1) := by decide +kernel
theorem d_MO_classLine_17 : decode prog_14_method_12_code 17 = .ok (.ifCond .lt 16, 3) := by decide +kernel
theorem d_MO_classLine_20 : decode prog_14_method_12_code 20 = .ok (.aload_n 0, 1) := by decide +kernel
theorem d_MO_classLine_21 : decode prog_14_method_12_code 21 = .ok (.iload_n 3, 1) := by decide +kernel
theorem d_MO_classLine_22 : decode prog_14_method_12_code 22 = .ok (.iload_n 2, 1) := by decide +kernel
theorem d_MO_classLine_23 : decode prog_14_method_12_code 23 = .ok (.ldc2_w 148, 3) := by decide +kernel
theorem d_MO_classLine_26 : decode prog_14_method_12_code 26 = .ok (.iconst 4, 1) := by decide +kernel
theorem d_MO_classLine_27 : decode prog_14_method_12_code 27 = .ok (.invokevirtual 150, 3) := by decide +kernel
theorem d_MO_classLine_30 : decode prog_14_method_12_code 30 = .ok (.ifCond .ne 5, 3) := by decide +kernel
theorem d_MO_classLine_33 : decode prog_14_method_12_code 33 = .ok (.iconst 0, 1) := by decide +kernel
theorem d_MO_classLine_34 : decode prog_14_method_12_code 34 = .ok (.ireturn, 1) := by decide +kernel
theorem d_MO_classLine_35 : decode prog_14_method_12_code 35 = .ok (.aload_n 0, 1) := by decide +kernel
theorem d_MO_classLine_36 : decode prog_14_method_12_code 36 = .ok (.iload_n 3, 1) := by decide +kernel
theorem d_MO_classLine_37 : decode prog_14_method_12_code 37 = .ok (.iconst 4, 1) := by decide +kernel
theorem d_MO_classLine_38 : decode prog_14_method_12_code 38 = .ok (.iadd, 1) := by decide +kernel
theorem d_MO_classLine_39 : decode prog_14_method_12_code 39 = .ok (.iload_n 2, 1) := by decide +kernel
theorem d_MO_classLine_40 : decode prog_14_method_12_code 40 = .ok (.invokevirtual 142, 3) := by decide +kernel
theorem d_MO_classLine_43 : decode prog_14_method_12_code 43 = .ok (.istore 4, 2) := by decide +kernel
theorem d_MO_classLine_45 : decode prog_14_method_12_code 45 = .ok (.iload 4, 2) := by decide +kernel
theorem d_MO_classLine_47 : decode prog_14_method_12_code 47 = .ok (.ifCond .lt 23, 3) := by decide +kernel
theorem d_MO_classLine_50 : decode prog_14_method_12_code 50 = .ok (.iload 4, 2) := by decide +kernel
theorem d_MO_classLine_52 : decode prog_14_method_12_code 52 = .ok (.iconst 1, 1) := by decide +kernel
theorem d_MO_classLine_53 : decode prog_14_method_12_code 53 = .ok (.iadd, 1) := by decide +kernel
theorem d_MO_classLine_54 : decode prog_14_method_12_code 54 = .ok (.iload_n 2, 1) := by decide +kernel
theorem d_MO_classLine_55 : decode prog_14_method_12_code 55 = .ok (.if_icmp .ne 15, 3) := by decide +kernel
theorem d_MO_classLine_58 : decode prog_14_method_12_code 58 = .ok (.aload_n 0, 1) := by decide +kernel
theorem d_MO_classLine_59 : decode prog_14_method_12_code 59 = .ok (.getfield 13, 3) := by decide +kernel
theorem d_MO_classLine_62 : decode prog_14_method_12_code 62 = .ok (.iload 4, 2) := by decide +kernel
theorem d_MO_classLine_64 : decode prog_14_method_12_code 64 = .ok (.iaload, 1) := by decide +kernel
theorem d_MO_classLine_65 : decode prog_14_method_12_code 65 = .ok (.bipush 58, 2) := by decide +kernel
theorem d_MO_classLine_67 : decode prog_14_method_12_code 67 = .ok (.if_icmp .eq 5, 3) := by decide +kernel
theorem d_MO_classLine_70 : decode prog_14_method_12_code 70 = .ok (.iconst 0, 1) := by decide +kernel
theorem d_MO_classLine_71 : decode prog_14_method_12_code 71 = .ok (.ireturn, 1) := by decide +kernel
theorem d_MO_classLine_72 : decode prog_14_method_12_code 72 = .ok (.iconst 0, 1) := by decide +kernel
theorem d_MO_classLine_73 : decode prog_14_method_12_code 73 = .ok (.istore 5, 2) := by decide +kernel
theorem d_MO_classLine_75 : decode prog_14_method_12_code 75 = .ok (.iload 5, 2) := by decide +kernel
theorem d_MO_classLine_77 : decode prog_14_method_12_code 77 = .ok (.aload_n 0, 1) := by decide +kernel
theorem d_MO_classLine_78 : decode prog_14_method_12_code 78 = .ok (.getfield 145, 3) := by decide +kernel
theorem d_MO_classLine_81 : decode prog_14_method_12_code 81 = .ok (.if_icmp .ge 60, 3) := by decide +kernel
theorem d_MO_classLine_84 : decode prog_14_method_12_code 84 = .ok (.aload_n 0, 1) := by decide +kernel
theorem d_MO_classLine_85 : decode prog_14_method_12_code 85 = .ok (.iload_n 1, 1) := by decide +kernel
theorem d_MO_classLine_86 : decode prog_14_method_12_code 86 = .ok (.iload_n 3, 1) := by decide +kernel
theorem d_MO_classLine_87 : decode prog_14_method_12_code 87 = .ok (.aload_n 0, 1) := by decide +kernel
theorem d_MO_classLine_88 : decode prog_14_method_12_code 88 = .ok (.getfield 19, 3) := by decide +kernel
theorem d_MO_classLine_91 : decode prog_14_method_12_code 91 = .ok (.iload 5, 2) := by decide +kernel
theorem d_MO_classLine_93 : decode prog_14_method_12_code 93 = .ok (.iaload, 1) := by decide +kernel
theorem d_MO_classLine_94 : decode prog_14_method_12_code 94 = .ok (.aload_n 0, 1) := by decide +kernel
theorem d_MO_classLine_95 : decode prog_14_method_12_code 95 = .ok (.getfield 22, 3) := by decide +kernel
theorem d_MO_classLine_98 : decode prog_14_method_12_code 98 = .ok (.iload 5, 2) := by decide +kernel
theorem d_MO_classLine_100 : decode prog_14_method_12_code 100 = .ok (.iaload, 1) := by decide +kernel
theorem d_MO_classLine_101 : decode prog_14_method_12_code 101 = .ok (.invokevirtual 154, 3) := by decide +kernel
theorem d_MO_classLine_104 : decode prog_14_method_12_code 104 = .ok (.ifCond .ne 29, 3) := by decide +kernel
theorem d_MO_classLine_107 : decode prog_14_method_12_code 107 = .ok (.aload_n 0, 1) := by decide +kernel
theorem d_MO_classLine_108 : decode prog_14_method_12_code 108 = .ok (.iload_n 3, 1) := by decide +kernel
theorem d_MO_classLine_109 : decode prog_14_method_12_code 109 = .ok (.iconst 4, 1) := by decide +kernel
theorem d_MO_classLine_110 : decode prog_14_method_12_code 110 = .ok (.iadd, 1) := by decide +kernel
theorem d_MO_classLine_111 : decode prog_14_method_12_code 111 = .ok (.iload 4, 2) := by decide +kernel
theorem d_MO_classLine_113 : decode prog_14_method_12_code 113 = .ok (.aload_n 0, 1) := by decide +kernel
theorem d_MO_classLine_114 : decode prog_14_method_12_code 114 = .ok (.getfield 25, 3) := by decide +kernel
theorem d_MO_classLine_117 : decode prog_14_method_12_code 117 = .ok (.iload 5, 2) := by decide +kernel
theorem d_MO_classLine_119 : decode prog_14_method_12_code 119 = .ok (.iaload, 1) := by decide +kernel
theorem d_MO_classLine_120 : decode prog_14_method_12_code 120 = .ok (.aload_n 0, 1) := by decide +kernel
theorem d_MO_classLine_121 : decode prog_14_method_12_code 121 = .ok (.getfield 28, 3) := by decide +kernel
theorem d_MO_classLine_124 : decode prog_14_method_12_code 124 = .ok (.iload 5, 2) := by decide +kernel
theorem d_MO_classLine_126 : decode prog_14_method_12_code 126 = .ok (.iaload, 1) := by decide +kernel
theorem d_MO_classLine_127 : decode prog_14_method_12_code 127 = .ok (.invokevirtual 154, 3) := by decide +kernel
theorem d_MO_classLine_130 : decode prog_14_method_12_code 130 = .ok (.ifCond .eq 5, 3) := by decide +kernel
theorem d_MO_classLine_133 : decode prog_14_method_12_code 133 = .ok (.iconst 0, 1) := by decide +kernel
theorem d_MO_classLine_134 : decode prog_14_method_12_code 134 = .ok (.ireturn, 1) := by decide +kernel
theorem d_MO_classLine_135 : decode prog_14_method_12_code 135 = .ok (.iinc 5 1, 3) := by decide +kernel
theorem d_MO_classLine_138 : decode prog_14_method_12_code 138 = .ok (.goto (-63), 3) := by decide +kernel
theorem d_MO_classLine_141 : decode prog_14_method_12_code 141 = .ok (.aload_n 0, 1) := by decide +kernel
theorem d_MO_classLine_142 : decode prog_14_method_12_code 142 = .ok (.getfield 19, 3) := by decide +kernel
theorem d_MO_classLine_145 : decode prog_14_method_12_code 145 = .ok (.aload_n 0, 1) := by decide +kernel
theorem d_MO_classLine_146 : decode prog_14_method_12_code 146 = .ok (.getfield 145, 3) := by decide +kernel
theorem d_MO_classLine_149 : decode prog_14_method_12_code 149 = .ok (.iload_n 1, 1) := by decide +kernel
theorem d_MO_classLine_150 : decode prog_14_method_12_code 150 = .ok (.iastore, 1) := by decide +kernel
theorem d_MO_classLine_151 : decode prog_14_method_12_code 151 = .ok (.aload_n 0, 1) := by decide +kernel
theorem d_MO_classLine_152 : decode prog_14_method_12_code 152 = .ok (.getfield 22, 3) := by decide +kernel
theorem d_MO_classLine_155 : decode prog_14_method_12_code 155 = .ok (.aload_n 0, 1) := by decide +kernel
theorem d_MO_classLine_156 : decode prog_14_method_12_code 156 = .ok (.getfield 145, 3) := by decide +kernel
theorem d_MO_classLine_159 : decode prog_14_method_12_code 159 = .ok (.iload_n 3, 1) := by decide +kernel
theorem d_MO_classLine_160 : decode prog_14_method_12_code 160 = .ok (.iastore, 1) := by decide +kernel
theorem d_MO_classLine_161 : decode prog_14_method_12_code 161 = .ok (.aload_n 0, 1) := by decide +kernel
theorem d_MO_classLine_162 : decode prog_14_method_12_code 162 = .ok (.getfield 25, 3) := by decide +kernel
theorem d_MO_classLine_165 : decode prog_14_method_12_code 165 = .ok (.aload_n 0, 1) := by decide +kernel
theorem d_MO_classLine_166 : decode prog_14_method_12_code 166 = .ok (.getfield 145, 3) := by decide +kernel
theorem d_MO_classLine_169 : decode prog_14_method_12_code 169 = .ok (.iload_n 3, 1) := by decide +kernel
theorem d_MO_classLine_170 : decode prog_14_method_12_code 170 = .ok (.iconst 4, 1) := by decide +kernel
theorem d_MO_classLine_171 : decode prog_14_method_12_code 171 = .ok (.iadd, 1) := by decide +kernel
theorem d_MO_classLine_172 : decode prog_14_method_12_code 172 = .ok (.iastore, 1) := by decide +kernel
theorem d_MO_classLine_173 : decode prog_14_method_12_code 173 = .ok (.aload_n 0, 1) := by decide +kernel
theorem d_MO_classLine_174 : decode prog_14_method_12_code 174 = .ok (.getfield 28, 3) := by decide +kernel
theorem d_MO_classLine_177 : decode prog_14_method_12_code 177 = .ok (.aload_n 0, 1) := by decide +kernel
theorem d_MO_classLine_178 : decode prog_14_method_12_code 178 = .ok (.getfield 145, 3) := by decide +kernel
theorem d_MO_classLine_181 : decode prog_14_method_12_code 181 = .ok (.iload 4, 2) := by decide +kernel
theorem d_MO_classLine_183 : decode prog_14_method_12_code 183 = .ok (.iastore, 1) := by decide +kernel
theorem d_MO_classLine_184 : decode prog_14_method_12_code 184 = .ok (.aload_n 0, 1) := by decide +kernel
theorem d_MO_classLine_185 : decode prog_14_method_12_code 185 = .ok (.dup, 1) := by decide +kernel
theorem d_MO_classLine_186 : decode prog_14_method_12_code 186 = .ok (.getfield 145, 3) := by decide +kernel
theorem d_MO_classLine_189 : decode prog_14_method_12_code 189 = .ok (.iconst 1, 1) := by decide +kernel
theorem d_MO_classLine_190 : decode prog_14_method_12_code 190 = .ok (.iadd, 1) := by decide +kernel
theorem d_MO_classLine_191 : decode prog_14_method_12_code 191 = .ok (.putfield 145, 3) := by decide +kernel
theorem d_MO_classLine_194 : decode prog_14_method_12_code 194 = .ok (.iconst 1, 1) := by decide +kernel
theorem d_MO_classLine_195 : decode prog_14_method_12_code 195 = .ok (.ireturn, 1) := by decide +kernel
theorem d_MO_more_0 : decode prog_14_method_13_code 0 = .ok (.aload_n 0, 1) := by decide +kernel
theorem d_MO_more_1 : decode prog_14_method_13_code 1 = .ok (.iload_n 1, 1) := by decide +kernel
theorem d_MO_more_2 : decode prog_14_method_13_code 2 = .ok (.iload_n 2, 1) := by decide +kernel
theorem d_MO_more_3 : decode prog_14_method_13_code 3 = .ok (.ldc2_w 158, 3) := by decide +kernel
theorem d_MO_more_6 : decode prog_14_method_13_code 6 = .ok (.iconst 1, 1) := by decide +kernel
theorem d_MO_more_7 : decode prog_14_method_13_code 7 = .ok (.invokevirtual 150, 3) := by decide +kernel
theorem d_MO_more_10 : decode prog_14_method_13_code 10 = .ok (.ifCond .eq 14, 3) := by decide +kernel
theorem d_MO_more_13 : decode prog_14_method_13_code 13 = .ok (.aload_n 0, 1) := by decide +kernel
theorem d_MO_more_14 : decode prog_14_method_13_code 14 = .ok (.iload_n 1, 1) := by decide +kernel
theorem d_MO_more_15 : decode prog_14_method_13_code 15 = .ok (.iconst 1, 1) := by decide +kernel
theorem d_MO_more_16 : decode prog_14_method_13_code 16 = .ok (.iadd, 1) := by decide +kernel
theorem d_MO_more_17 : decode prog_14_method_13_code 17 = .ok (.iload_n 2, 1) := by decide +kernel
theorem d_MO_more_18 : decode prog_14_method_13_code 18 = .ok (.invokevirtual 160, 3) := by decide +kernel
theorem d_MO_more_21 : decode prog_14_method_13_code 21 = .ok (.goto 4, 3) := by decide +kernel
theorem d_MO_more_24 : decode prog_14_method_13_code 24 = .ok (.iload_n 1, 1) := by decide +kernel
theorem d_MO_more_25 : decode prog_14_method_13_code 25 = .ok (.ireturn, 1) := by decide +kernel
theorem d_MO_methodLine_0 : decode prog_14_method_14_code 0 = .ok (.aload_n 0, 1) := by decide +kernel
theorem d_MO_methodLine_1 : decode prog_14_method_14_code 1 = .ok (.getfield 145, 3) := by decide +kernel
theorem d_MO_methodLine_4 : decode prog_14_method_14_code 4 = .ok (.ifCond .eq 12, 3) := by decide +kernel
theorem d_MO_methodLine_7 : decode prog_14_method_14_code 7 = .ok (.aload_n 0, 1) := by decide +kernel
theorem d_MO_methodLine_8 : decode prog_14_method_14_code 8 = .ok (.getfield 163, 3) := by decide +kernel
theorem d_MO_methodLine_11 : decode prog_14_method_14_code 11 = .ok (.bipush 32, 2) := by decide +kernel
theorem d_MO_methodLine_13 : decode prog_14_method_14_code 13 = .ok (.if_icmp .ne 5, 3) := by decide +kernel
theorem d_MO_methodLine_16 : decode prog_14_method_14_code 16 = .ok (.iconst 0, 1) := by decide +kernel
theorem d_MO_methodLine_17 : decode prog_14_method_14_code 17 = .ok (.ireturn, 1) := by decide +kernel
theorem d_MO_methodLine_18 : decode prog_14_method_14_code 18 = .ok (.aload_n 0, 1) := by decide +kernel
theorem d_MO_methodLine_19 : decode prog_14_method_14_code 19 = .ok (.getfield 163, 3) := by decide +kernel
theorem d_MO_methodLine_22 : decode prog_14_method_14_code 22 = .ok (.istore_n 3, 1) := by decide +kernel
theorem d_MO_methodLine_23 : decode prog_14_method_14_code 23 = .ok (.iload_n 1, 1) := by decide +kernel
theorem d_MO_methodLine_24 : decode prog_14_method_14_code 24 = .ok (.iconst 4, 1) := by decide +kernel
theorem d_MO_methodLine_25 : decode prog_14_method_14_code 25 = .ok (.iadd, 1) := by decide +kernel
theorem d_MO_methodLine_26 : decode prog_14_method_14_code 26 = .ok (.istore 4, 2) := by decide +kernel
theorem d_MO_methodLine_28 : decode prog_14_method_14_code 28 = .ok (.iload 4, 2) := by decide +kernel
theorem d_MO_methodLine_30 : decode prog_14_method_14_code 30 = .ok (.iload_n 2, 1) := by decide +kernel
theorem d_MO_methodLine_31 : decode prog_14_method_14_code 31 = .ok (.if_icmp .ge 20, 3) := by decide +kernel
theorem d_MO_methodLine_34 : decode prog_14_method_14_code 34 = .ok (.aload_n 0, 1) := by decide +kernel
theorem d_MO_methodLine_35 : decode prog_14_method_14_code 35 = .ok (.getfield 13, 3) := by decide +kernel
theorem d_MO_methodLine_38 : decode prog_14_method_14_code 38 = .ok (.iload 4, 2) := by decide +kernel
theorem d_MO_methodLine_40 : decode prog_14_method_14_code 40 = .ok (.iaload, 1) := by decide +kernel
theorem d_MO_methodLine_41 : decode prog_14_method_14_code 41 = .ok (.invokestatic 126, 3) := by decide +kernel
theorem d_MO_methodLine_44 : decode prog_14_method_14_code 44 = .ok (.ifCond .eq 7, 3) := by decide +kernel
theorem d_MO_methodLine_47 : decode prog_14_method_14_code 47 = .ok (.iconst 1, 1) := by decide +kernel
theorem d_MO_methodLine_48 : decode prog_14_method_14_code 48 = .ok (.goto 4, 3) := by decide +kernel
theorem d_MO_methodLine_51 : decode prog_14_method_14_code 51 = .ok (.iconst 0, 1) := by decide +kernel
theorem d_MO_methodLine_52 : decode prog_14_method_14_code 52 = .ok (.istore 5, 2) := by decide +kernel
theorem d_MO_methodLine_54 : decode prog_14_method_14_code 54 = .ok (.aload_n 0, 1) := by decide +kernel
theorem d_MO_methodLine_55 : decode prog_14_method_14_code 55 = .ok (.getfield 49, 3) := by decide +kernel
theorem d_MO_methodLine_58 : decode prog_14_method_14_code 58 = .ok (.iload_n 3, 1) := by decide +kernel
theorem d_MO_methodLine_59 : decode prog_14_method_14_code 59 = .ok (.iconst (-1), 1) := by decide +kernel
theorem d_MO_methodLine_60 : decode prog_14_method_14_code 60 = .ok (.iastore, 1) := by decide +kernel
theorem d_MO_methodLine_61 : decode prog_14_method_14_code 61 = .ok (.aload_n 0, 1) := by decide +kernel
theorem d_MO_methodLine_62 : decode prog_14_method_14_code 62 = .ok (.getfield 52, 3) := by decide +kernel
theorem d_MO_methodLine_65 : decode prog_14_method_14_code 65 = .ok (.iload_n 3, 1) := by decide +kernel
theorem d_MO_methodLine_66 : decode prog_14_method_14_code 66 = .ok (.iconst (-1), 1) := by decide +kernel
theorem d_MO_methodLine_67 : decode prog_14_method_14_code 67 = .ok (.iastore, 1) := by decide +kernel
theorem d_MO_methodLine_68 : decode prog_14_method_14_code 68 = .ok (.iload 5, 2) := by decide +kernel
theorem d_MO_methodLine_70 : decode prog_14_method_14_code 70 = .ok (.ifCond .eq 85, 3) := by decide +kernel
theorem d_MO_methodLine_73 : decode prog_14_method_14_code 73 = .ok (.aload_n 0, 1) := by decide +kernel
theorem d_MO_methodLine_74 : decode prog_14_method_14_code 74 = .ok (.iload 4, 2) := by decide +kernel
theorem d_MO_methodLine_76 : decode prog_14_method_14_code 76 = .ok (.iload_n 2, 1) := by decide +kernel
theorem d_MO_methodLine_77 : decode prog_14_method_14_code 77 = .ok (.invokevirtual 160, 3) := by decide +kernel
theorem d_MO_methodLine_80 : decode prog_14_method_14_code 80 = .ok (.istore 4, 2) := by decide +kernel
theorem d_MO_methodLine_82 : decode prog_14_method_14_code 82 = .ok (.aload_n 0, 1) := by decide +kernel
theorem d_MO_methodLine_83 : decode prog_14_method_14_code 83 = .ok (.getfield 49, 3) := by decide +kernel
theorem d_MO_methodLine_86 : decode prog_14_method_14_code 86 = .ok (.iload_n 3, 1) := by decide +kernel
theorem d_MO_methodLine_87 : decode prog_14_method_14_code 87 = .ok (.aload_n 0, 1) := by decide +kernel
theorem d_MO_methodLine_88 : decode prog_14_method_14_code 88 = .ok (.getfield 139, 3) := by decide +kernel
theorem d_MO_methodLine_91 : decode prog_14_method_14_code 91 = .ok (.iastore, 1) := by decide +kernel
theorem d_MO_methodLine_92 : decode prog_14_method_14_code 92 = .ok (.aload_n 0, 1) := by decide +kernel
theorem d_MO_methodLine_93 : decode prog_14_method_14_code 93 = .ok (.iload 4, 2) := by decide +kernel
theorem d_MO_methodLine_95 : decode prog_14_method_14_code 95 = .ok (.iload_n 2, 1) := by decide +kernel
theorem d_MO_methodLine_96 : decode prog_14_method_14_code 96 = .ok (.ldc2_w 158, 3) := by decide +kernel
theorem d_MO_methodLine_99 : decode prog_14_method_14_code 99 = .ok (.iconst 1, 1) := by decide +kernel
theorem d_MO_methodLine_100 : decode prog_14_method_14_code 100 = .ok (.invokevirtual 150, 3) := by decide +kernel
theorem d_MO_methodLine_103 : decode prog_14_method_14_code 103 = .ok (.ifCond .eq 15, 3) := by decide +kernel
theorem d_MO_methodLine_106 : decode prog_14_method_14_code 106 = .ok (.aload_n 0, 1) := by decide +kernel
theorem d_MO_methodLine_107 : decode prog_14_method_14_code 107 = .ok (.iload 4, 2) := by decide +kernel
theorem d_MO_methodLine_109 : decode prog_14_method_14_code 109 = .ok (.iconst 1, 1) := by decide +kernel
theorem d_MO_methodLine_110 : decode prog_14_method_14_code 110 = .ok (.iadd, 1) := by decide +kernel
theorem d_MO_methodLine_111 : decode prog_14_method_14_code 111 = .ok (.iload_n 2, 1) := by decide +kernel
theorem d_MO_methodLine_112 : decode prog_14_method_14_code 112 = .ok (.invokevirtual 160, 3) := by decide +kernel
theorem d_MO_methodLine_115 : decode prog_14_method_14_code 115 = .ok (.goto 4, 3) := by decide +kernel
theorem d_MO_methodLine_118 : decode prog_14_method_14_code 118 = .ok (.iconst (-1), 1) := by decide +kernel
theorem d_MO_methodLine_119 : decode prog_14_method_14_code 119 = .ok (.istore 4, 2) := by decide +kernel
theorem d_MO_methodLine_121 : decode prog_14_method_14_code 121 = .ok (.aload_n 0, 1) := by decide +kernel
theorem d_MO_methodLine_122 : decode prog_14_method_14_code 122 = .ok (.getfield 52, 3) := by decide +kernel
theorem d_MO_methodLine_125 : decode prog_14_method_14_code 125 = .ok (.iload_n 3, 1) := by decide +kernel
theorem d_MO_methodLine_126 : decode prog_14_method_14_code 126 = .ok (.aload_n 0, 1) := by decide +kernel
theorem d_MO_methodLine_127 : decode prog_14_method_14_code 127 = .ok (.getfield 139, 3) := by decide +kernel
theorem d_MO_methodLine_130 : decode prog_14_method_14_code 130 = .ok (.iastore, 1) := by decide +kernel
theorem d_MO_methodLine_131 : decode prog_14_method_14_code 131 = .ok (.aload_n 0, 1) := by decide +kernel
theorem d_MO_methodLine_132 : decode prog_14_method_14_code 132 = .ok (.iload 4, 2) := by decide +kernel
theorem d_MO_methodLine_134 : decode prog_14_method_14_code 134 = .ok (.iload_n 2, 1) := by decide +kernel
theorem d_MO_methodLine_135 : decode prog_14_method_14_code 135 = .ok (.ldc2_w 158, 3) := by decide +kernel
theorem d_MO_methodLine_138 : decode prog_14_method_14_code 138 = .ok (.iconst 1, 1) := by decide +kernel
theorem d_MO_methodLine_139 : decode prog_14_method_14_code 139 = .ok (.invokevirtual 150, 3) := by decide +kernel
theorem d_MO_methodLine_142 : decode prog_14_method_14_code 142 = .ok (.ifCond .eq 10, 3) := by decide +kernel
theorem d_MO_methodLine_145 : decode prog_14_method_14_code 145 = .ok (.iload 4, 2) := by decide +kernel
theorem d_MO_methodLine_147 : decode prog_14_method_14_code 147 = .ok (.iconst 1, 1) := by decide +kernel
theorem d_MO_methodLine_148 : decode prog_14_method_14_code 148 = .ok (.iadd, 1) := by decide +kernel
theorem d_MO_methodLine_149 : decode prog_14_method_14_code 149 = .ok (.goto 4, 3) := by decide +kernel
theorem d_MO_methodLine_152 : decode prog_14_method_14_code 152 = .ok (.iconst (-1), 1) := by decide +kernel
theorem d_MO_methodLine_153 : decode prog_14_method_14_code 153 = .ok (.istore 4, 2) := by decide +kernel
theorem d_MO_methodLine_155 : decode prog_14_method_14_code 155 = .ok (.iload 4, 2) := by decide +kernel
theorem d_MO_methodLine_157 : decode prog_14_method_14_code 157 = .ok (.ifCond .lt 23, 3) := by decide +kernel
theorem d_MO_methodLine_160 : decode prog_14_method_14_code 160 = .ok (.iload 5, 2) := by decide +kernel
theorem d_MO_methodLine_162 : decode prog_14_method_14_code 162 = .ok (.ifCond .eq 22, 3) := by decide +kernel
theorem d_MO_methodLine_165 : decode prog_14_method_14_code 165 = .ok (.aload_n 0, 1) := by decide +kernel
theorem d_MO_methodLine_166 : decode prog_14_method_14_code 166 = .ok (.getfield 49, 3) := by decide +kernel
theorem d_MO_methodLine_169 : decode prog_14_method_14_code 169 = .ok (.iload_n 3, 1) := by decide +kernel
theorem d_MO_methodLine_170 : decode prog_14_method_14_code 170 = .ok (.iaload, 1) := by decide +kernel
theorem d_MO_methodLine_171 : decode prog_14_method_14_code 171 = .ok (.aload_n 0, 1) := by decide +kernel
theorem d_MO_methodLine_172 : decode prog_14_method_14_code 172 = .ok (.getfield 52, 3) := by decide +kernel
theorem d_MO_methodLine_175 : decode prog_14_method_14_code 175 = .ok (.iload_n 3, 1) := by decide +kernel
theorem d_MO_methodLine_176 : decode prog_14_method_14_code 176 = .ok (.iaload, 1) := by decide +kernel
theorem d_MO_methodLine_177 : decode prog_14_method_14_code 177 = .ok (.if_icmp .le 7, 3) := by decide +kernel
theorem d_MO_methodLine_180 : decode prog_14_method_14_code 180 = .ok (.iconst (-1), 1) := by decide +kernel
theorem d_MO_methodLine_181 : decode prog_14_method_14_code 181 = .ok (.goto 10, 3) := by decide +kernel
theorem d_MO_methodLine_184 : decode prog_14_method_14_code 184 = .ok (.aload_n 0, 1) := by decide +kernel
theorem d_MO_methodLine_185 : decode prog_14_method_14_code 185 = .ok (.iload 4, 2) := by decide +kernel
theorem d_MO_methodLine_187 : decode prog_14_method_14_code 187 = .ok (.iload_n 2, 1) := by decide +kernel
theorem d_MO_methodLine_188 : decode prog_14_method_14_code 188 = .ok (.invokevirtual 142, 3) := by decide +kernel
theorem d_MO_methodLine_191 : decode prog_14_method_14_code 191 = .ok (.istore 6, 2) := by decide +kernel
theorem d_MO_methodLine_193 : decode prog_14_method_14_code 193 = .ok (.iload 6, 2) := by decide +kernel
theorem d_MO_methodLine_195 : decode prog_14_method_14_code 195 = .ok (.ifCond .ge 5, 3) := by decide +kernel
theorem d_MO_methodLine_198 : decode prog_14_method_14_code 198 = .ok (.iconst 0, 1) := by decide +kernel
theorem d_MO_methodLine_199 : decode prog_14_method_14_code 199 = .ok (.ireturn, 1) := by decide +kernel
theorem d_MO_methodLine_200 : decode prog_14_method_14_code 200 = .ok (.aload_n 0, 1) := by decide +kernel
theorem d_MO_methodLine_201 : decode prog_14_method_14_code 201 = .ok (.getfield 31, 3) := by decide +kernel
theorem d_MO_methodLine_204 : decode prog_14_method_14_code 204 = .ok (.iload_n 3, 1) := by decide +kernel
theorem d_MO_methodLine_205 : decode prog_14_method_14_code 205 = .ok (.aload_n 0, 1) := by decide +kernel
theorem d_MO_methodLine_206 : decode prog_14_method_14_code 206 = .ok (.getfield 129, 3) := by decide +kernel
theorem d_MO_methodLine_209 : decode prog_14_method_14_code 209 = .ok (.iconst 1, 1) := by decide +kernel
theorem d_MO_methodLine_210 : decode prog_14_method_14_code 210 = .ok (.if_icmp .le 8, 3) := by decide +kernel
theorem d_MO_methodLine_213 : decode prog_14_method_14_code 213 = .ok (.iload 4, 2) := by decide +kernel
theorem d_MO_methodLine_215 : decode prog_14_method_14_code 215 = .ok (.goto 14, 3) := by decide +kernel
theorem d_MO_methodLine_218 : decode prog_14_method_14_code 218 = .ok (.aload_n 0, 1) := by decide +kernel
theorem d_MO_methodLine_219 : decode prog_14_method_14_code 219 = .ok (.getfield 19, 3) := by decide +kernel
theorem d_MO_methodLine_222 : decode prog_14_method_14_code 222 = .ok (.aload_n 0, 1) := by decide +kernel
theorem d_MO_methodLine_223 : decode prog_14_method_14_code 223 = .ok (.getfield 145, 3) := by decide +kernel
theorem d_MO_methodLine_226 : decode prog_14_method_14_code 226 = .ok (.iconst 1, 1) := by decide +kernel
theorem d_MO_methodLine_227 : decode prog_14_method_14_code 227 = .ok (.isub, 1) := by decide +kernel
theorem d_MO_methodLine_228 : decode prog_14_method_14_code 228 = .ok (.iaload, 1) := by decide +kernel
theorem d_MO_methodLine_229 : decode prog_14_method_14_code 229 = .ok (.iastore, 1) := by decide +kernel
theorem d_MO_methodLine_230 : decode prog_14_method_14_code 230 = .ok (.aload_n 0, 1) := by decide +kernel
theorem d_MO_methodLine_231 : decode prog_14_method_14_code 231 = .ok (.getfield 34, 3) := by decide +kernel
theorem d_MO_methodLine_234 : decode prog_14_method_14_code 234 = .ok (.iload_n 3, 1) := by decide +kernel
theorem d_MO_methodLine_235 : decode prog_14_method_14_code 235 = .ok (.aload_n 0, 1) := by decide +kernel
theorem d_MO_methodLine_236 : decode prog_14_method_14_code 236 = .ok (.getfield 129, 3) := by decide +kernel
theorem d_MO_methodLine_239 : decode prog_14_method_14_code 239 = .ok (.iconst 1, 1) := by decide +kernel
theorem d_MO_methodLine_240 : decode prog_14_method_14_code 240 = .ok (.if_icmp .le 12, 3) := by decide +kernel
theorem d_MO_methodLine_243 : decode prog_14_method_14_code 243 = .ok (.aload_n 0, 1) := by decide +kernel
theorem d_MO_methodLine_244 : decode prog_14_method_14_code 244 = .ok (.getfield 132, 3) := by decide +kernel
theorem d_MO_methodLine_247 : decode prog_14_method_14_code 247 = .ok (.iconst 1, 1) := by decide +kernel
theorem d_MO_methodLine_248 : decode prog_14_method_14_code 248 = .ok (.isub, 1) := by decide +kernel
theorem d_MO_methodLine_249 : decode prog_14_method_14_code 249 = .ok (.goto 14, 3) := by decide +kernel
theorem d_MO_methodLine_252 : decode prog_14_method_14_code 252 = .ok (.aload_n 0, 1) := by decide +kernel
theorem d_MO_methodLine_253 : decode prog_14_method_14_code 253 = .ok (.getfield 22, 3) := by decide +kernel
theorem d_MO_methodLine_256 : decode prog_14_method_14_code 256 = .ok (.aload_n 0, 1) := by decide +kernel
theorem d_MO_methodLine_257 : decode prog_14_method_14_code 257 = .ok (.getfield 145, 3) := by decide +kernel
theorem d_MO_methodLine_260 : decode prog_14_method_14_code 260 = .ok (.iconst 1, 1) := by decide +kernel
theorem d_MO_methodLine_261 : decode prog_14_method_14_code 261 = .ok (.isub, 1) := by decide +kernel
theorem d_MO_methodLine_262 : decode prog_14_method_14_code 262 = .ok (.iaload, 1) := by decide +kernel
theorem d_MO_methodLine_263 : decode prog_14_method_14_code 263 = .ok (.iastore, 1) := by decide +kernel
theorem d_MO_methodLine_264 : decode prog_14_method_14_code 264 = .ok (.aload_n 0, 1) := by decide +kernel
theorem d_MO_methodLine_265 : decode prog_14_method_14_code 265 = .ok (.getfield 37, 3) := by decide +kernel
theorem d_MO_methodLine_268 : decode prog_14_method_14_code 268 = .ok (.iload_n 3, 1) := by decide +kernel
theorem d_MO_methodLine_269 : decode prog_14_method_14_code 269 = .ok (.aload_n 0, 1) := by decide +kernel
theorem d_MO_methodLine_270 : decode prog_14_method_14_code 270 = .ok (.getfield 132, 3) := by decide +kernel
theorem d_MO_methodLine_273 : decode prog_14_method_14_code 273 = .ok (.iastore, 1) := by decide +kernel
theorem d_MO_methodLine_274 : decode prog_14_method_14_code 274 = .ok (.aload_n 0, 1) := by decide +kernel
theorem d_MO_methodLine_275 : decode prog_14_method_14_code 275 = .ok (.getfield 40, 3) := by decide +kernel
theorem d_MO_methodLine_278 : decode prog_14_method_14_code 278 = .ok (.iload_n 3, 1) := by decide +kernel
theorem d_MO_methodLine_279 : decode prog_14_method_14_code 279 = .ok (.iload 6, 2) := by decide +kernel
theorem d_MO_methodLine_281 : decode prog_14_method_14_code 281 = .ok (.iastore, 1) := by decide +kernel
theorem d_MO_methodLine_282 : decode prog_14_method_14_code 282 = .ok (.aload_n 0, 1) := by decide +kernel
theorem d_MO_methodLine_283 : decode prog_14_method_14_code 283 = .ok (.iload_n 3, 1) := by decide +kernel
theorem d_MO_methodLine_284 : decode prog_14_method_14_code 284 = .ok (.iload 6, 2) := by decide +kernel
theorem d_MO_methodLine_286 : decode prog_14_method_14_code 286 = .ok (.iload_n 2, 1) := by decide +kernel
theorem d_MO_methodLine_287 : decode prog_14_method_14_code 287 = .ok (.iload 5, 2) := by decide +kernel
theorem d_MO_methodLine_289 : decode prog_14_method_14_code 289 = .ok (.invokevirtual 166, 3) := by decide +kernel
theorem d_MO_methodLine_292 : decode prog_14_method_14_code 292 = .ok (.ireturn, 1) := by decide +kernel
theorem d_MO_methodRest_0 : decode prog_14_method_15_code 0 = .ok (.iload_n 2, 1) := by decide +kernel
theorem d_MO_methodRest_1 : decode prog_14_method_15_code 1 = .ok (.istore 5, 2) := by decide +kernel
theorem d_MO_methodRest_3 : decode prog_14_method_15_code 3 = .ok (.aload_n 0, 1) := by decide +kernel
theorem d_MO_methodRest_4 : decode prog_14_method_15_code 4 = .ok (.getfield 55, 3) := by decide +kernel
theorem d_MO_methodRest_7 : decode prog_14_method_15_code 7 = .ok (.iload_n 1, 1) := by decide +kernel
theorem d_MO_methodRest_8 : decode prog_14_method_15_code 8 = .ok (.aload_n 0, 1) := by decide +kernel
theorem d_MO_methodRest_9 : decode prog_14_method_15_code 9 = .ok (.getfield 49, 3) := by decide +kernel
theorem d_MO_methodRest_12 : decode prog_14_method_15_code 12 = .ok (.iload_n 1, 1) := by decide +kernel
theorem d_MO_methodRest_13 : decode prog_14_method_15_code 13 = .ok (.iaload, 1) := by decide +kernel
theorem d_MO_methodRest_14 : decode prog_14_method_15_code 14 = .ok (.iastore, 1) := by decide +kernel
theorem d_MO_methodRest_15 : decode prog_14_method_15_code 15 = .ok (.aload_n 0, 1) := by decide +kernel
theorem d_MO_methodRest_16 : decode prog_14_method_15_code 16 = .ok (.getfield 58, 3) := by decide +kernel
theorem d_MO_methodRest_19 : decode prog_14_method_15_code 19 = .ok (.iload_n 1, 1) := by decide +kernel
theorem d_MO_methodRest_20 : decode prog_14_method_15_code 20 = .ok (.aload_n 0, 1) := by decide +kernel
theorem d_MO_methodRest_21 : decode prog_14_method_15_code 21 = .ok (.getfield 52, 3) := by decide +kernel
theorem d_MO_methodRest_24 : decode prog_14_method_15_code 24 = .ok (.iload_n 1, 1) := by decide +kernel
theorem d_MO_methodRest_25 : decode prog_14_method_15_code 25 = .ok (.iaload, 1) := by decide +kernel
theorem d_MO_methodRest_26 : decode prog_14_method_15_code 26 = .ok (.iastore, 1) := by decide +kernel
theorem d_MO_methodRest_27 : decode prog_14_method_15_code 27 = .ok (.iload 4, 2) := by decide +kernel
theorem d_MO_methodRest_29 : decode prog_14_method_15_code 29 = .ok (.ifCond .eq 92, 3) := by decide +kernel
theorem d_MO_methodRest_32 : decode prog_14_method_15_code 32 = .ok (.aload_n 0, 1) := by decide +kernel
theorem d_MO_methodRest_33 : decode prog_14_method_15_code 33 = .ok (.iload 5, 2) := by decide +kernel
theorem d_MO_methodRest_35 : decode prog_14_method_15_code 35 = .ok (.iload_n 3, 1) := by decide +kernel
theorem d_MO_methodRest_36 : decode prog_14_method_15_code 36 = .ok (.invokevirtual 170, 3) := by decide +kernel
theorem d_MO_methodRest_39 : decode prog_14_method_15_code 39 = .ok (.istore 6, 2) := by decide +kernel
theorem d_MO_methodRest_41 : decode prog_14_method_15_code 41 = .ok (.iload 6, 2) := by decide +kernel
theorem d_MO_methodRest_43 : decode prog_14_method_15_code 43 = .ok (.iload 5, 2) := by decide +kernel
theorem d_MO_methodRest_45 : decode prog_14_method_15_code 45 = .ok (.if_icmp .eq 72, 3) := by decide +kernel
theorem d_MO_methodRest_48 : decode prog_14_method_15_code 48 = .ok (.iload 6, 2) := by decide +kernel
theorem d_MO_methodRest_50 : decode prog_14_method_15_code 50 = .ok (.ifCond .lt 67, 3) := by decide +kernel
theorem d_MO_methodRest_53 : decode prog_14_method_15_code 53 = .ok (.aload_n 0, 1) := by decide +kernel
theorem d_MO_methodRest_54 : decode prog_14_method_15_code 54 = .ok (.getfield 55, 3) := by decide +kernel
theorem d_MO_methodRest_57 : decode prog_14_method_15_code 57 = .ok (.iload_n 1, 1) := by decide +kernel
theorem d_MO_methodRest_58 : decode prog_14_method_15_code 58 = .ok (.aload_n 0, 1) := by decide +kernel
theorem d_MO_methodRest_59 : decode prog_14_method_15_code 59 = .ok (.getfield 139, 3) := by decide +kernel
theorem d_MO_methodRest_62 : decode prog_14_method_15_code 62 = .ok (.iastore, 1) := by decide +kernel
theorem d_MO_methodRest_63 : decode prog_14_method_15_code 63 = .ok (.aload_n 0, 1) := by decide +kernel
theorem d_MO_methodRest_64 : decode prog_14_method_15_code 64 = .ok (.getfield 58, 3) := by decide +kernel
theorem d_MO_methodRest_67 : decode prog_14_method_15_code 67 = .ok (.iload_n 1, 1) := by decide +kernel
theorem d_MO_methodRest_68 : decode prog_14_method_15_code 68 = .ok (.aload_n 0, 1) := by decide +kernel
theorem d_MO_methodRest_69 : decode prog_14_method_15_code 69 = .ok (.getfield 139, 3) := by decide +kernel
theorem d_MO_methodRest_72 : decode prog_14_method_15_code 72 = .ok (.iastore, 1) := by decide +kernel
theorem d_MO_methodRest_73 : decode prog_14_method_15_code 73 = .ok (.aload_n 0, 1) := by decide +kernel
theorem d_MO_methodRest_74 : decode prog_14_method_15_code 74 = .ok (.iload 6, 2) := by decide +kernel
theorem d_MO_methodRest_76 : decode prog_14_method_15_code 76 = .ok (.iload_n 3, 1) := by decide +kernel
theorem d_MO_methodRest_77 : decode prog_14_method_15_code 77 = .ok (.invokevirtual 170, 3) := by decide +kernel
theorem d_MO_methodRest_80 : decode prog_14_method_15_code 80 = .ok (.istore 7, 2) := by decide +kernel
theorem d_MO_methodRest_82 : decode prog_14_method_15_code 82 = .ok (.aload_n 0, 1) := by decide +kernel
theorem d_MO_methodRest_83 : decode prog_14_method_15_code 83 = .ok (.getfield 58, 3) := by decide +kernel
theorem d_MO_methodRest_86 : decode prog_14_method_15_code 86 = .ok (.iload_n 1, 1) := by decide +kernel
theorem d_MO_methodRest_87 : decode prog_14_method_15_code 87 = .ok (.iload 7, 2) := by decide +kernel
theorem d_MO_methodRest_89 : decode prog_14_method_15_code 89 = .ok (.iload 6, 2) := by decide +kernel
theorem d_MO_methodRest_91 : decode prog_14_method_15_code 91 = .ok (.if_icmp .eq 15, 3) := by decide +kernel
theorem d_MO_methodRest_94 : decode prog_14_method_15_code 94 = .ok (.iload 7, 2) := by decide +kernel
theorem d_MO_methodRest_96 : decode prog_14_method_15_code 96 = .ok (.ifCond .lt 10, 3) := by decide +kernel
theorem d_MO_methodRest_99 : decode prog_14_method_15_code 99 = .ok (.aload_n 0, 1) := by decide +kernel
theorem d_MO_methodRest_100 : decode prog_14_method_15_code 100 = .ok (.getfield 139, 3) := by decide +kernel
theorem d_MO_methodRest_103 : decode prog_14_method_15_code 103 = .ok (.goto 9, 3) := by decide +kernel
theorem d_MO_methodRest_106 : decode prog_14_method_15_code 106 = .ok (.aload_n 0, 1) := by decide +kernel
theorem d_MO_methodRest_107 : decode prog_14_method_15_code 107 = .ok (.getfield 55, 3) := by decide +kernel
theorem d_MO_methodRest_110 : decode prog_14_method_15_code 110 = .ok (.iload_n 1, 1) := by decide +kernel
theorem d_MO_methodRest_111 : decode prog_14_method_15_code 111 = .ok (.iaload, 1) := by decide +kernel
theorem d_MO_methodRest_112 : decode prog_14_method_15_code 112 = .ok (.iastore, 1) := by decide +kernel
theorem d_MO_methodRest_113 : decode prog_14_method_15_code 113 = .ok (.iload 7, 2) := by decide +kernel
theorem d_MO_methodRest_115 : decode prog_14_method_15_code 115 = .ok (.istore 6, 2) := by decide +kernel
theorem d_MO_methodRest_117 : decode prog_14_method_15_code 117 = .ok (.iload 6, 2) := by decide +kernel
theorem d_MO_methodRest_119 : decode prog_14_method_15_code 119 = .ok (.istore 5, 2) := by decide +kernel
theorem d_MO_methodRest_121 : decode prog_14_method_15_code 121 = .ok (.aload_n 0, 1) := by decide +kernel
theorem d_MO_methodRest_122 : decode prog_14_method_15_code 122 = .ok (.getfield 58, 3) := by decide +kernel
theorem d_MO_methodRest_125 : decode prog_14_method_15_code 125 = .ok (.iload_n 1, 1) := by decide +kernel
theorem d_MO_methodRest_126 : decode prog_14_method_15_code 126 = .ok (.iaload, 1) := by decide +kernel
theorem d_MO_methodRest_127 : decode prog_14_method_15_code 127 = .ok (.aload_n 0, 1) := by decide +kernel
theorem d_MO_methodRest_128 : decode prog_14_method_15_code 128 = .ok (.getfield 55, 3) := by decide +kernel
theorem d_MO_methodRest_131 : decode prog_14_method_15_code 131 = .ok (.iload_n 1, 1) := by decide +kernel
theorem d_MO_methodRest_132 : decode prog_14_method_15_code 132 = .ok (.iaload, 1) := by decide +kernel
theorem d_MO_methodRest_133 : decode prog_14_method_15_code 133 = .ok (.isub, 1) := by decide +kernel
theorem d_MO_methodRest_134 : decode prog_14_method_15_code 134 = .ok (.ifCond .eq 32, 3) := by decide +kernel
theorem d_MO_methodRest_137 : decode prog_14_method_15_code 137 = .ok (.aload_n 0, 1) := by decide +kernel
theorem d_MO_methodRest_138 : decode prog_14_method_15_code 138 = .ok (.getfield 58, 3) := by decide +kernel
theorem d_MO_methodRest_141 : decode prog_14_method_15_code 141 = .ok (.iload_n 1, 1) := by decide +kernel
theorem d_MO_methodRest_142 : decode prog_14_method_15_code 142 = .ok (.iaload, 1) := by decide +kernel
theorem d_MO_methodRest_143 : decode prog_14_method_15_code 143 = .ok (.aload_n 0, 1) := by decide +kernel
theorem d_MO_methodRest_144 : decode prog_14_method_15_code 144 = .ok (.getfield 55, 3) := by decide +kernel
theorem d_MO_methodRest_147 : decode prog_14_method_15_code 147 = .ok (.iload_n 1, 1) := by decide +kernel
theorem d_MO_methodRest_148 : decode prog_14_method_15_code 148 = .ok (.iaload, 1) := by decide +kernel
theorem d_MO_methodRest_149 : decode prog_14_method_15_code 149 = .ok (.isub, 1) := by decide +kernel
theorem d_MO_methodRest_150 : decode prog_14_method_15_code 150 = .ok (.aload_n 0, 1) := by decide +kernel
theorem d_MO_methodRest_151 : decode prog_14_method_15_code 151 = .ok (.getfield 52, 3) := by decide +kernel
theorem d_MO_methodRest_154 : decode prog_14_method_15_code 154 = .ok (.iload_n 1, 1) := by decide +kernel
theorem d_MO_methodRest_155 : decode prog_14_method_15_code 155 = .ok (.iaload, 1) := by decide +kernel
theorem d_MO_methodRest_156 : decode prog_14_method_15_code 156 = .ok (.aload_n 0, 1) := by decide +kernel
theorem d_MO_methodRest_157 : decode prog_14_method_15_code 157 = .ok (.getfield 49, 3) := by decide +kernel
theorem d_MO_methodRest_160 : decode prog_14_method_15_code 160 = .ok (.iload_n 1, 1) := by decide +kernel
theorem d_MO_methodRest_161 : decode prog_14_method_15_code 161 = .ok (.iaload, 1) := by decide +kernel
theorem d_MO_methodRest_162 : decode prog_14_method_15_code 162 = .ok (.isub, 1) := by decide +kernel
theorem d_MO_methodRest_163 : decode prog_14_method_15_code 163 = .ok (.if_icmp .ne 7, 3) := by decide +kernel
theorem d_MO_methodRest_166 : decode prog_14_method_15_code 166 = .ok (.iconst 1, 1) := by decide +kernel
theorem d_MO_methodRest_167 : decode prog_14_method_15_code 167 = .ok (.goto 4, 3) := by decide +kernel
theorem d_MO_methodRest_170 : decode prog_14_method_15_code 170 = .ok (.iconst 0, 1) := by decide +kernel
theorem d_MO_methodRest_171 : decode prog_14_method_15_code 171 = .ok (.istore 6, 2) := by decide +kernel
theorem d_MO_methodRest_173 : decode prog_14_method_15_code 173 = .ok (.iload 6, 2) := by decide +kernel
theorem d_MO_methodRest_175 : decode prog_14_method_15_code 175 = .ok (.ifCond .eq 30, 3) := by decide +kernel
theorem d_MO_methodRest_178 : decode prog_14_method_15_code 178 = .ok (.aload_n 0, 1) := by decide +kernel
theorem d_MO_methodRest_179 : decode prog_14_method_15_code 179 = .ok (.iload 5, 2) := by decide +kernel
theorem d_MO_methodRest_181 : decode prog_14_method_15_code 181 = .ok (.iload_n 3, 1) := by decide +kernel
theorem d_MO_methodRest_182 : decode prog_14_method_15_code 182 = .ok (.ldc2_w 148, 3) := by decide +kernel
theorem d_MO_methodRest_185 : decode prog_14_method_15_code 185 = .ok (.iconst 4, 1) := by decide +kernel
theorem d_MO_methodRest_186 : decode prog_14_method_15_code 186 = .ok (.invokevirtual 150, 3) := by decide +kernel
theorem d_MO_methodRest_189 : decode prog_14_method_15_code 189 = .ok (.ifCond .eq 16, 3) := by decide +kernel
theorem d_MO_methodRest_192 : decode prog_14_method_15_code 192 = .ok (.aload_n 0, 1) := by decide +kernel
theorem d_MO_methodRest_193 : decode prog_14_method_15_code 193 = .ok (.iload 5, 2) := by decide +kernel
theorem d_MO_methodRest_195 : decode prog_14_method_15_code 195 = .ok (.iconst 4, 1) := by decide +kernel
theorem d_MO_methodRest_196 : decode prog_14_method_15_code 196 = .ok (.iadd, 1) := by decide +kernel
theorem d_MO_methodRest_197 : decode prog_14_method_15_code 197 = .ok (.iload_n 3, 1) := by decide +kernel
theorem d_MO_methodRest_198 : decode prog_14_method_15_code 198 = .ok (.invokevirtual 135, 3) := by decide +kernel
theorem d_MO_methodRest_201 : decode prog_14_method_15_code 201 = .ok (.iload_n 3, 1) := by decide +kernel
theorem d_MO_methodRest_202 : decode prog_14_method_15_code 202 = .ok (.if_icmp .eq 5, 3) := by decide +kernel
theorem d_MO_methodRest_205 : decode prog_14_method_15_code 205 = .ok (.iconst 0, 1) := by decide +kernel
theorem d_MO_methodRest_206 : decode prog_14_method_15_code 206 = .ok (.ireturn, 1) := by decide +kernel
theorem d_MO_methodRest_207 : decode prog_14_method_15_code 207 = .ok (.aload_n 0, 1) := by decide +kernel
theorem d_MO_methodRest_208 : decode prog_14_method_15_code 208 = .ok (.getfield 43, 3) := by decide +kernel
theorem d_MO_methodRest_211 : decode prog_14_method_15_code 211 = .ok (.iload_n 1, 1) := by decide +kernel
theorem d_MO_methodRest_212 : decode prog_14_method_15_code 212 = .ok (.iload 5, 2) := by decide +kernel
theorem d_MO_methodRest_214 : decode prog_14_method_15_code 214 = .ok (.iconst 4, 1) := by decide +kernel
theorem d_MO_methodRest_215 : decode prog_14_method_15_code 215 = .ok (.iadd, 1) := by decide +kernel
theorem d_MO_methodRest_216 : decode prog_14_method_15_code 216 = .ok (.iastore, 1) := by decide +kernel
theorem d_MO_methodRest_217 : decode prog_14_method_15_code 217 = .ok (.aload_n 0, 1) := by decide +kernel
theorem d_MO_methodRest_218 : decode prog_14_method_15_code 218 = .ok (.getfield 46, 3) := by decide +kernel
theorem d_MO_methodRest_221 : decode prog_14_method_15_code 221 = .ok (.iload_n 1, 1) := by decide +kernel
theorem d_MO_methodRest_222 : decode prog_14_method_15_code 222 = .ok (.iload_n 3, 1) := by decide +kernel
theorem d_MO_methodRest_223 : decode prog_14_method_15_code 223 = .ok (.iastore, 1) := by decide +kernel
theorem d_MO_methodRest_224 : decode prog_14_method_15_code 224 = .ok (.aload_n 0, 1) := by decide +kernel
theorem d_MO_methodRest_225 : decode prog_14_method_15_code 225 = .ok (.getfield 61, 3) := by decide +kernel
theorem d_MO_methodRest_228 : decode prog_14_method_15_code 228 = .ok (.iload_n 1, 1) := by decide +kernel
theorem d_MO_methodRest_229 : decode prog_14_method_15_code 229 = .ok (.aload_n 0, 1) := by decide +kernel
theorem d_MO_methodRest_230 : decode prog_14_method_15_code 230 = .ok (.getfield 145, 3) := by decide +kernel
theorem d_MO_methodRest_233 : decode prog_14_method_15_code 233 = .ok (.iconst 1, 1) := by decide +kernel
theorem d_MO_methodRest_234 : decode prog_14_method_15_code 234 = .ok (.isub, 1) := by decide +kernel
theorem d_MO_methodRest_235 : decode prog_14_method_15_code 235 = .ok (.iastore, 1) := by decide +kernel
theorem d_MO_methodRest_236 : decode prog_14_method_15_code 236 = .ok (.iload 4, 2) := by decide +kernel
theorem d_MO_methodRest_238 : decode prog_14_method_15_code 238 = .ok (.ifCond .eq 90, 3) := by decide +kernel
theorem d_MO_methodRest_241 : decode prog_14_method_15_code 241 = .ok (.iload_n 1, 1) := by decide +kernel
theorem d_MO_methodRest_242 : decode prog_14_method_15_code 242 = .ok (.ifCond .le 86, 3) := by decide +kernel
theorem d_MO_methodRest_245 : decode prog_14_method_15_code 245 = .ok (.aload_n 0, 1) := by decide +kernel
theorem d_MO_methodRest_246 : decode prog_14_method_15_code 246 = .ok (.getfield 61, 3) := by decide +kernel
theorem d_MO_methodRest_249 : decode prog_14_method_15_code 249 = .ok (.iload_n 1, 1) := by decide +kernel
theorem d_MO_methodRest_250 : decode prog_14_method_15_code 250 = .ok (.iconst 1, 1) := by decide +kernel
theorem d_MO_methodRest_251 : decode prog_14_method_15_code 251 = .ok (.isub, 1) := by decide +kernel
theorem d_MO_methodRest_252 : decode prog_14_method_15_code 252 = .ok (.iaload, 1) := by decide +kernel
theorem d_MO_methodRest_253 : decode prog_14_method_15_code 253 = .ok (.aload_n 0, 1) := by decide +kernel
theorem d_MO_methodRest_254 : decode prog_14_method_15_code 254 = .ok (.getfield 61, 3) := by decide +kernel
theorem d_MO_methodRest_257 : decode prog_14_method_15_code 257 = .ok (.iload_n 1, 1) := by decide +kernel
theorem d_MO_methodRest_258 : decode prog_14_method_15_code 258 = .ok (.iaload, 1) := by decide +kernel
theorem d_MO_methodRest_259 : decode prog_14_method_15_code 259 = .ok (.if_icmp .ne 69, 3) := by decide +kernel
theorem d_MO_methodRest_262 : decode prog_14_method_15_code 262 = .ok (.aload_n 0, 1) := by decide +kernel
theorem d_MO_methodRest_263 : decode prog_14_method_15_code 263 = .ok (.getfield 49, 3) := by decide +kernel
theorem d_MO_methodRest_266 : decode prog_14_method_15_code 266 = .ok (.iload_n 1, 1) := by decide +kernel
theorem d_MO_methodRest_267 : decode prog_14_method_15_code 267 = .ok (.iconst 1, 1) := by decide +kernel
theorem d_MO_methodRest_268 : decode prog_14_method_15_code 268 = .ok (.isub, 1) := by decide +kernel
theorem d_MO_methodRest_269 : decode prog_14_method_15_code 269 = .ok (.iaload, 1) := by decide +kernel
theorem d_MO_methodRest_270 : decode prog_14_method_15_code 270 = .ok (.aload_n 0, 1) := by decide +kernel
theorem d_MO_methodRest_271 : decode prog_14_method_15_code 271 = .ok (.getfield 49, 3) := by decide +kernel
theorem d_MO_methodRest_274 : decode prog_14_method_15_code 274 = .ok (.iload_n 1, 1) := by decide +kernel
theorem d_MO_methodRest_275 : decode prog_14_method_15_code 275 = .ok (.iaload, 1) := by decide +kernel
theorem d_MO_methodRest_276 : decode prog_14_method_15_code 276 = .ok (.if_icmp .ne 52, 3) := by decide +kernel
theorem d_MO_methodRest_279 : decode prog_14_method_15_code 279 = .ok (.aload_n 0, 1) := by decide +kernel
theorem d_MO_methodRest_280 : decode prog_14_method_15_code 280 = .ok (.getfield 52, 3) := by decide +kernel
theorem d_MO_methodRest_283 : decode prog_14_method_15_code 283 = .ok (.iload_n 1, 1) := by decide +kernel
theorem d_MO_methodRest_284 : decode prog_14_method_15_code 284 = .ok (.iconst 1, 1) := by decide +kernel
theorem d_MO_methodRest_285 : decode prog_14_method_15_code 285 = .ok (.isub, 1) := by decide +kernel
theorem d_MO_methodRest_286 : decode prog_14_method_15_code 286 = .ok (.iaload, 1) := by decide +kernel
theorem d_MO_methodRest_287 : decode prog_14_method_15_code 287 = .ok (.aload_n 0, 1) := by decide +kernel
theorem d_MO_methodRest_288 : decode prog_14_method_15_code 288 = .ok (.getfield 52, 3) := by decide +kernel
theorem d_MO_methodRest_291 : decode prog_14_method_15_code 291 = .ok (.iload_n 1, 1) := by decide +kernel
theorem d_MO_methodRest_292 : decode prog_14_method_15_code 292 = .ok (.iaload, 1) := by decide +kernel
theorem d_MO_methodRest_293 : decode prog_14_method_15_code 293 = .ok (.if_icmp .ne 35, 3) := by decide +kernel
theorem d_MO_methodRest_296 : decode prog_14_method_15_code 296 = .ok (.aload_n 0, 1) := by decide +kernel
theorem d_MO_methodRest_297 : decode prog_14_method_15_code 297 = .ok (.aload_n 0, 1) := by decide +kernel
theorem d_MO_methodRest_298 : decode prog_14_method_15_code 298 = .ok (.getfield 43, 3) := by decide +kernel
theorem d_MO_methodRest_301 : decode prog_14_method_15_code 301 = .ok (.iload_n 1, 1) := by decide +kernel
theorem d_MO_methodRest_302 : decode prog_14_method_15_code 302 = .ok (.iconst 1, 1) := by decide +kernel
theorem d_MO_methodRest_303 : decode prog_14_method_15_code 303 = .ok (.isub, 1) := by decide +kernel
theorem d_MO_methodRest_304 : decode prog_14_method_15_code 304 = .ok (.iaload, 1) := by decide +kernel
theorem d_MO_methodRest_305 : decode prog_14_method_15_code 305 = .ok (.aload_n 0, 1) := by decide +kernel
theorem d_MO_methodRest_306 : decode prog_14_method_15_code 306 = .ok (.getfield 46, 3) := by decide +kernel
theorem d_MO_methodRest_309 : decode prog_14_method_15_code 309 = .ok (.iload_n 1, 1) := by decide +kernel
theorem d_MO_methodRest_310 : decode prog_14_method_15_code 310 = .ok (.iconst 1, 1) := by decide +kernel
theorem d_MO_methodRest_311 : decode prog_14_method_15_code 311 = .ok (.isub, 1) := by decide +kernel
theorem d_MO_methodRest_312 : decode prog_14_method_15_code 312 = .ok (.iaload, 1) := by decide +kernel
theorem d_MO_methodRest_313 : decode prog_14_method_15_code 313 = .ok (.iload 5, 2) := by decide +kernel
theorem d_MO_methodRest_315 : decode prog_14_method_15_code 315 = .ok (.iconst 4, 1) := by decide +kernel
theorem d_MO_methodRest_316 : decode prog_14_method_15_code 316 = .ok (.iadd, 1) := by decide +kernel
theorem d_MO_methodRest_317 : decode prog_14_method_15_code 317 = .ok (.iload_n 3, 1) := by decide +kernel
theorem d_MO_methodRest_318 : decode prog_14_method_15_code 318 = .ok (.invokevirtual 154, 3) := by decide +kernel
theorem d_MO_methodRest_321 : decode prog_14_method_15_code 321 = .ok (.ifCond .eq 7, 3) := by decide +kernel
theorem d_MO_methodRest_324 : decode prog_14_method_15_code 324 = .ok (.iconst 1, 1) := by decide +kernel
theorem d_MO_methodRest_325 : decode prog_14_method_15_code 325 = .ok (.goto 4, 3) := by decide +kernel
theorem d_MO_methodRest_328 : decode prog_14_method_15_code 328 = .ok (.iconst 0, 1) := by decide +kernel
theorem d_MO_methodRest_329 : decode prog_14_method_15_code 329 = .ok (.istore 7, 2) := by decide +kernel
theorem d_MO_methodRest_331 : decode prog_14_method_15_code 331 = .ok (.aload_n 0, 1) := by decide +kernel
theorem d_MO_methodRest_332 : decode prog_14_method_15_code 332 = .ok (.iload 7, 2) := by decide +kernel
theorem d_MO_methodRest_334 : decode prog_14_method_15_code 334 = .ok (.ifCond .eq 10, 3) := by decide +kernel
theorem d_MO_methodRest_337 : decode prog_14_method_15_code 337 = .ok (.aload_n 0, 1) := by decide +kernel
theorem d_MO_methodRest_338 : decode prog_14_method_15_code 338 = .ok (.getfield 173, 3) := by decide +kernel
theorem d_MO_methodRest_341 : decode prog_14_method_15_code 341 = .ok (.goto 9, 3) := by decide +kernel
theorem d_MO_methodRest_344 : decode prog_14_method_15_code 344 = .ok (.aload_n 0, 1) := by decide +kernel
theorem d_MO_methodRest_345 : decode prog_14_method_15_code 345 = .ok (.getfield 173, 3) := by decide +kernel
theorem d_MO_methodRest_348 : decode prog_14_method_15_code 348 = .ok (.iconst 1, 1) := by decide +kernel
theorem d_MO_methodRest_349 : decode prog_14_method_15_code 349 = .ok (.iadd, 1) := by decide +kernel
theorem d_MO_methodRest_350 : decode prog_14_method_15_code 350 = .ok (.putfield 173, 3) := by decide +kernel
theorem d_MO_methodRest_353 : decode prog_14_method_15_code 353 = .ok (.aload_n 0, 1) := by decide +kernel
theorem d_MO_methodRest_354 : decode prog_14_method_15_code 354 = .ok (.getfield 64, 3) := by decide +kernel
theorem d_MO_methodRest_357 : decode prog_14_method_15_code 357 = .ok (.iload_n 1, 1) := by decide +kernel
theorem d_MO_methodRest_358 : decode prog_14_method_15_code 358 = .ok (.aload_n 0, 1) := by decide +kernel
theorem d_MO_methodRest_359 : decode prog_14_method_15_code 359 = .ok (.getfield 173, 3) := by decide +kernel
theorem d_MO_methodRest_362 : decode prog_14_method_15_code 362 = .ok (.iconst 1, 1) := by decide +kernel
theorem d_MO_methodRest_363 : decode prog_14_method_15_code 363 = .ok (.isub, 1) := by decide +kernel
theorem d_MO_methodRest_364 : decode prog_14_method_15_code 364 = .ok (.iastore, 1) := by decide +kernel
theorem d_MO_methodRest_365 : decode prog_14_method_15_code 365 = .ok (.aload_n 0, 1) := by decide +kernel
theorem d_MO_methodRest_366 : decode prog_14_method_15_code 366 = .ok (.dup, 1) := by decide +kernel
theorem d_MO_methodRest_367 : decode prog_14_method_15_code 367 = .ok (.getfield 163, 3) := by decide +kernel
theorem d_MO_methodRest_370 : decode prog_14_method_15_code 370 = .ok (.iconst 1, 1) := by decide +kernel
theorem d_MO_methodRest_371 : decode prog_14_method_15_code 371 = .ok (.iadd, 1) := by decide +kernel
theorem d_MO_methodRest_372 : decode prog_14_method_15_code 372 = .ok (.putfield 163, 3) := by decide +kernel
theorem d_MO_methodRest_375 : decode prog_14_method_15_code 375 = .ok (.iconst 1, 1) := by decide +kernel
theorem d_MO_methodRest_376 : decode prog_14_method_15_code 376 = .ok (.ireturn, 1) := by decide +kernel
theorem d_MO_readMapping_0 : decode prog_14_method_16_code 0 = .ok (.aload_n 0, 1) := by decide +kernel
theorem d_MO_readMapping_1 : decode prog_14_method_16_code 1 = .ok (.iconst 0, 1) := by decide +kernel
theorem d_MO_readMapping_2 : decode prog_14_method_16_code 2 = .ok (.putfield 145, 3) := by decide +kernel
theorem d_MO_readMapping_5 : decode prog_14_method_16_code 5 = .ok (.aload_n 0, 1) := by decide +kernel
theorem d_MO_readMapping_6 : decode prog_14_method_16_code 6 = .ok (.iconst 0, 1) := by decide +kernel
theorem d_MO_readMapping_7 : decode prog_14_method_16_code 7 = .ok (.putfield 163, 3) := by decide +kernel
theorem d_MO_readMapping_10 : decode prog_14_method_16_code 10 = .ok (.aload_n 0, 1) := by decide +kernel
theorem d_MO_readMapping_11 : decode prog_14_method_16_code 11 = .ok (.iconst 0, 1) := by decide +kernel
theorem d_MO_readMapping_12 : decode prog_14_method_16_code 12 = .ok (.putfield 173, 3) := by decide +kernel
theorem d_MO_readMapping_15 : decode prog_14_method_16_code 15 = .ok (.iconst 0, 1) := by decide +kernel
theorem d_MO_readMapping_16 : decode prog_14_method_16_code 16 = .ok (.istore_n 2, 1) := by decide +kernel
theorem d_MO_readMapping_17 : decode prog_14_method_16_code 17 = .ok (.iconst 1, 1) := by decide +kernel
theorem d_MO_readMapping_18 : decode prog_14_method_16_code 18 = .ok (.istore_n 3, 1) := by decide +kernel
theorem d_MO_readMapping_19 : decode prog_14_method_16_code 19 = .ok (.iload_n 2, 1) := by decide +kernel
theorem d_MO_readMapping_20 : decode prog_14_method_16_code 20 = .ok (.iload_n 1, 1) := by decide +kernel
theorem d_MO_readMapping_21 : decode prog_14_method_16_code 21 = .ok (.if_icmp .gt 121, 3) := by decide +kernel
theorem d_MO_readMapping_24 : decode prog_14_method_16_code 24 = .ok (.iload_n 2, 1) := by decide +kernel
theorem d_MO_readMapping_25 : decode prog_14_method_16_code 25 = .ok (.istore 4, 2) := by decide +kernel
theorem d_MO_readMapping_27 : decode prog_14_method_16_code 27 = .ok (.iload 4, 2) := by decide +kernel
theorem d_MO_readMapping_29 : decode prog_14_method_16_code 29 = .ok (.iload_n 1, 1) := by decide +kernel
theorem d_MO_readMapping_30 : decode prog_14_method_16_code 30 = .ok (.if_icmp .ge 21, 3) := by decide +kernel
theorem d_MO_readMapping_33 : decode prog_14_method_16_code 33 = .ok (.aload_n 0, 1) := by decide +kernel
theorem d_MO_readMapping_34 : decode prog_14_method_16_code 34 = .ok (.getfield 13, 3) := by decide +kernel
theorem d_MO_readMapping_37 : decode prog_14_method_16_code 37 = .ok (.iload 4, 2) := by decide +kernel
theorem d_MO_readMapping_39 : decode prog_14_method_16_code 39 = .ok (.iaload, 1) := by decide +kernel
theorem d_MO_readMapping_40 : decode prog_14_method_16_code 40 = .ok (.bipush 10, 2) := by decide +kernel
theorem d_MO_readMapping_42 : decode prog_14_method_16_code 42 = .ok (.if_icmp .eq 9, 3) := by decide +kernel
theorem d_MO_readMapping_45 : decode prog_14_method_16_code 45 = .ok (.iinc 4 1, 3) := by decide +kernel
theorem d_MO_readMapping_48 : decode prog_14_method_16_code 48 = .ok (.goto (-21), 3) := by decide +kernel
theorem d_MO_readMapping_51 : decode prog_14_method_16_code 51 = .ok (.iload 4, 2) := by decide +kernel
theorem d_MO_readMapping_53 : decode prog_14_method_16_code 53 = .ok (.iload_n 2, 1) := by decide +kernel
theorem d_MO_readMapping_54 : decode prog_14_method_16_code 54 = .ok (.if_icmp .eq 14, 3) := by decide +kernel
theorem d_MO_readMapping_57 : decode prog_14_method_16_code 57 = .ok (.aload_n 0, 1) := by decide +kernel
theorem d_MO_readMapping_58 : decode prog_14_method_16_code 58 = .ok (.getfield 13, 3) := by decide +kernel
theorem d_MO_readMapping_61 : decode prog_14_method_16_code 61 = .ok (.iload_n 2, 1) := by decide +kernel
theorem d_MO_readMapping_62 : decode prog_14_method_16_code 62 = .ok (.iaload, 1) := by decide +kernel
theorem d_MO_readMapping_63 : decode prog_14_method_16_code 63 = .ok (.bipush 35, 2) := by decide +kernel
theorem d_MO_readMapping_65 : decode prog_14_method_16_code 65 = .ok (.if_icmp .ne 7, 3) := by decide +kernel
theorem d_MO_readMapping_68 : decode prog_14_method_16_code 68 = .ok (.iconst 1, 1) := by decide +kernel
theorem d_MO_readMapping_69 : decode prog_14_method_16_code 69 = .ok (.goto 4, 3) := by decide +kernel
theorem d_MO_readMapping_72 : decode prog_14_method_16_code 72 = .ok (.iconst 0, 1) := by decide +kernel
theorem d_MO_readMapping_73 : decode prog_14_method_16_code 73 = .ok (.istore 5, 2) := by decide +kernel
theorem d_MO_readMapping_75 : decode prog_14_method_16_code 75 = .ok (.iload 5, 2) := by decide +kernel
theorem d_MO_readMapping_77 : decode prog_14_method_16_code 77 = .ok (.ifCond .ne 40, 3) := by decide +kernel
theorem d_MO_readMapping_80 : decode prog_14_method_16_code 80 = .ok (.aload_n 0, 1) := by decide +kernel
theorem d_MO_readMapping_81 : decode prog_14_method_16_code 81 = .ok (.iload_n 2, 1) := by decide +kernel
theorem d_MO_readMapping_82 : decode prog_14_method_16_code 82 = .ok (.iload 4, 2) := by decide +kernel
theorem d_MO_readMapping_84 : decode prog_14_method_16_code 84 = .ok (.ldc2_w 176, 3) := by decide +kernel
theorem d_MO_readMapping_87 : decode prog_14_method_16_code 87 = .ok (.iconst 4, 1) := by decide +kernel
theorem d_MO_readMapping_88 : decode prog_14_method_16_code 88 = .ok (.invokevirtual 150, 3) := by decide +kernel
theorem d_MO_readMapping_91 : decode prog_14_method_16_code 91 = .ok (.ifCond .eq 16, 3) := by decide +kernel
theorem d_MO_readMapping_94 : decode prog_14_method_16_code 94 = .ok (.aload_n 0, 1) := by decide +kernel
theorem d_MO_readMapping_95 : decode prog_14_method_16_code 95 = .ok (.iload_n 2, 1) := by decide +kernel
theorem d_MO_readMapping_96 : decode prog_14_method_16_code 96 = .ok (.iload 4, 2) := by decide +kernel
theorem d_MO_readMapping_98 : decode prog_14_method_16_code 98 = .ok (.invokevirtual 178, 3) := by decide +kernel
theorem d_MO_readMapping_101 : decode prog_14_method_16_code 101 = .ok (.ifCond .eq 20, 3) := by decide +kernel
theorem d_MO_readMapping_104 : decode prog_14_method_16_code 104 = .ok (.goto 13, 3) := by decide +kernel
theorem d_MO_readMapping_107 : decode prog_14_method_16_code 107 = .ok (.aload_n 0, 1) := by decide +kernel
theorem d_MO_readMapping_108 : decode prog_14_method_16_code 108 = .ok (.iload_n 2, 1) := by decide +kernel
theorem d_MO_readMapping_109 : decode prog_14_method_16_code 109 = .ok (.iload 4, 2) := by decide +kernel
theorem d_MO_readMapping_111 : decode prog_14_method_16_code 111 = .ok (.invokevirtual 182, 3) := by decide +kernel
theorem d_MO_readMapping_114 : decode prog_14_method_16_code 114 = .ok (.ifCond .eq 7, 3) := by decide +kernel
theorem d_MO_readMapping_117 : decode prog_14_method_16_code 117 = .ok (.iconst 1, 1) := by decide +kernel
theorem d_MO_readMapping_118 : decode prog_14_method_16_code 118 = .ok (.goto 4, 3) := by decide +kernel
theorem d_MO_readMapping_121 : decode prog_14_method_16_code 121 = .ok (.iconst 0, 1) := by decide +kernel
theorem d_MO_readMapping_122 : decode prog_14_method_16_code 122 = .ok (.istore 6, 2) := by decide +kernel
theorem d_MO_readMapping_124 : decode prog_14_method_16_code 124 = .ok (.iload 6, 2) := by decide +kernel
theorem d_MO_readMapping_126 : decode prog_14_method_16_code 126 = .ok (.ifCond .ne 5, 3) := by decide +kernel
theorem d_MO_readMapping_129 : decode prog_14_method_16_code 129 = .ok (.iload_n 3, 1) := by decide +kernel
theorem d_MO_readMapping_130 : decode prog_14_method_16_code 130 = .ok (.ireturn, 1) := by decide +kernel
theorem d_MO_readMapping_131 : decode prog_14_method_16_code 131 = .ok (.iload 4, 2) := by decide +kernel
theorem d_MO_readMapping_133 : decode prog_14_method_16_code 133 = .ok (.iconst 1, 1) := by decide +kernel
theorem d_MO_readMapping_134 : decode prog_14_method_16_code 134 = .ok (.iadd, 1) := by decide +kernel
theorem d_MO_readMapping_135 : decode prog_14_method_16_code 135 = .ok (.istore_n 2, 1) := by decide +kernel
theorem d_MO_readMapping_136 : decode prog_14_method_16_code 136 = .ok (.iinc 3 1, 3) := by decide +kernel
theorem d_MO_readMapping_139 : decode prog_14_method_16_code 139 = .ok (.goto (-120), 3) := by decide +kernel
theorem d_MO_readMapping_142 : decode prog_14_method_16_code 142 = .ok (.iconst 0, 1) := by decide +kernel
theorem d_MO_readMapping_143 : decode prog_14_method_16_code 143 = .ok (.ireturn, 1) := by decide +kernel
theorem d_MO_lay_0 : decode prog_14_method_17_code 0 = .ok (.iconst 0, 1) := by decide +kernel
theorem d_MO_lay_1 : decode prog_14_method_17_code 1 = .ok (.istore 4, 2) := by decide +kernel
theorem d_MO_lay_3 : decode prog_14_method_17_code 3 = .ok (.iload 4, 2) := by decide +kernel
theorem d_MO_lay_5 : decode prog_14_method_17_code 5 = .ok (.iload_n 2, 1) := by decide +kernel
theorem d_MO_lay_6 : decode prog_14_method_17_code 6 = .ok (.if_icmp .ge 39, 3) := by decide +kernel
theorem d_MO_lay_9 : decode prog_14_method_17_code 9 = .ok (.aload_n 0, 1) := by decide +kernel
theorem d_MO_lay_10 : decode prog_14_method_17_code 10 = .ok (.getfield 13, 3) := by decide +kernel
theorem d_MO_lay_13 : decode prog_14_method_17_code 13 = .ok (.iload_n 1, 1) := by decide +kernel
theorem d_MO_lay_14 : decode prog_14_method_17_code 14 = .ok (.iload 4, 2) := by decide +kernel
theorem d_MO_lay_16 : decode prog_14_method_17_code 16 = .ok (.iadd, 1) := by decide +kernel
theorem d_MO_lay_17 : decode prog_14_method_17_code 17 = .ok (.iload_n 3, 1) := by decide +kernel
theorem d_MO_lay_18 : decode prog_14_method_17_code 18 = .ok (.ifCond .eq 13, 3) := by decide +kernel
theorem d_MO_lay_21 : decode prog_14_method_17_code 21 = .ok (.aload_n 0, 1) := by decide +kernel
theorem d_MO_lay_22 : decode prog_14_method_17_code 22 = .ok (.getfield 16, 3) := by decide +kernel
theorem d_MO_lay_25 : decode prog_14_method_17_code 25 = .ok (.iload 4, 2) := by decide +kernel
theorem d_MO_lay_27 : decode prog_14_method_17_code 27 = .ok (.iaload, 1) := by decide +kernel
theorem d_MO_lay_28 : decode prog_14_method_17_code 28 = .ok (.goto 10, 3) := by decide +kernel
theorem d_MO_lay_31 : decode prog_14_method_17_code 31 = .ok (.aload_n 0, 1) := by decide +kernel
theorem d_MO_lay_32 : decode prog_14_method_17_code 32 = .ok (.getfield 7, 3) := by decide +kernel
theorem d_MO_lay_35 : decode prog_14_method_17_code 35 = .ok (.iload 4, 2) := by decide +kernel
theorem d_MO_lay_37 : decode prog_14_method_17_code 37 = .ok (.iaload, 1) := by decide +kernel
theorem d_MO_lay_38 : decode prog_14_method_17_code 38 = .ok (.iastore, 1) := by decide +kernel
theorem d_MO_lay_39 : decode prog_14_method_17_code 39 = .ok (.iinc 4 1, 3) := by decide +kernel
theorem d_MO_lay_42 : decode prog_14_method_17_code 42 = .ok (.goto (-39), 3) := by decide +kernel
theorem d_MO_lay_45 : decode prog_14_method_17_code 45 = .ok (.return_, 1) := by decide +kernel
theorem d_MO_load_0 : decode prog_14_method_18_code 0 = .ok (.aload_n 0, 1) := by decide +kernel
theorem d_MO_load_1 : decode prog_14_method_18_code 1 = .ok (.iconst 0, 1) := by decide +kernel
theorem d_MO_load_2 : decode prog_14_method_18_code 2 = .ok (.aload_n 0, 1) := by decide +kernel
theorem d_MO_load_3 : decode prog_14_method_18_code 3 = .ok (.getfield 117, 3) := by decide +kernel
theorem d_MO_load_6 : decode prog_14_method_18_code 6 = .ok (.iconst 0, 1) := by decide +kernel
theorem d_MO_load_7 : decode prog_14_method_18_code 7 = .ok (.invokevirtual 185, 3) := by decide +kernel
theorem d_MO_load_10 : decode prog_14_method_18_code 10 = .ok (.aload_n 0, 1) := by decide +kernel
theorem d_MO_load_11 : decode prog_14_method_18_code 11 = .ok (.getfield 117, 3) := by decide +kernel
theorem d_MO_load_14 : decode prog_14_method_18_code 14 = .ok (.istore_n 1, 1) := by decide +kernel
theorem d_MO_load_15 : decode prog_14_method_18_code 15 = .ok (.aload_n 0, 1) := by decide +kernel
theorem d_MO_load_16 : decode prog_14_method_18_code 16 = .ok (.iconst 0, 1) := by decide +kernel
theorem d_MO_load_17 : decode prog_14_method_18_code 17 = .ok (.putfield 117, 3) := by decide +kernel
theorem d_MO_load_20 : decode prog_14_method_18_code 20 = .ok (.aload_n 0, 1) := by decide +kernel
theorem d_MO_load_21 : decode prog_14_method_18_code 21 = .ok (.iload_n 1, 1) := by decide +kernel
theorem d_MO_load_22 : decode prog_14_method_18_code 22 = .ok (.invokevirtual 189, 3) := by decide +kernel
theorem d_MO_load_25 : decode prog_14_method_18_code 25 = .ok (.istore_n 2, 1) := by decide +kernel
theorem d_MO_load_26 : decode prog_14_method_18_code 26 = .ok (.aload_n 0, 1) := by decide +kernel
theorem d_MO_load_27 : decode prog_14_method_18_code 27 = .ok (.iload_n 2, 1) := by decide +kernel
theorem d_MO_load_28 : decode prog_14_method_18_code 28 = .ok (.ifCond .le 7, 3) := by decide +kernel
theorem d_MO_load_31 : decode prog_14_method_18_code 31 = .ok (.iconst 1, 1) := by decide +kernel
theorem d_MO_load_32 : decode prog_14_method_18_code 32 = .ok (.goto 4, 3) := by decide +kernel
theorem d_MO_load_35 : decode prog_14_method_18_code 35 = .ok (.iconst 0, 1) := by decide +kernel
theorem d_MO_load_36 : decode prog_14_method_18_code 36 = .ok (.putfield 113, 3) := by decide +kernel
theorem d_MO_load_39 : decode prog_14_method_18_code 39 = .ok (.iload_n 2, 1) := by decide +kernel
theorem d_MO_load_40 : decode prog_14_method_18_code 40 = .ok (.ifCond .ne 43, 3) := by decide +kernel
theorem d_MO_load_43 : decode prog_14_method_18_code 43 = .ok (.iconst 0, 1) := by decide +kernel
theorem d_MO_load_44 : decode prog_14_method_18_code 44 = .ok (.istore_n 3, 1) := by decide +kernel
theorem d_MO_load_45 : decode prog_14_method_18_code 45 = .ok (.iload_n 3, 1) := by decide +kernel
theorem d_MO_load_46 : decode prog_14_method_18_code 46 = .ok (.iload_n 1, 1) := by decide +kernel
theorem d_MO_load_47 : decode prog_14_method_18_code 47 = .ok (.if_icmp .ge 21, 3) := by decide +kernel
theorem d_MO_load_50 : decode prog_14_method_18_code 50 = .ok (.aload_n 0, 1) := by decide +kernel
theorem d_MO_load_51 : decode prog_14_method_18_code 51 = .ok (.getfield 16, 3) := by decide +kernel
theorem d_MO_load_54 : decode prog_14_method_18_code 54 = .ok (.iload_n 3, 1) := by decide +kernel
theorem d_MO_load_55 : decode prog_14_method_18_code 55 = .ok (.aload_n 0, 1) := by decide +kernel
theorem d_MO_load_56 : decode prog_14_method_18_code 56 = .ok (.getfield 7, 3) := by decide +kernel
theorem d_MO_load_59 : decode prog_14_method_18_code 59 = .ok (.iload_n 3, 1) := by decide +kernel
theorem d_MO_load_60 : decode prog_14_method_18_code 60 = .ok (.iaload, 1) := by decide +kernel
theorem d_MO_load_61 : decode prog_14_method_18_code 61 = .ok (.iastore, 1) := by decide +kernel
theorem d_MO_load_62 : decode prog_14_method_18_code 62 = .ok (.iinc 3 1, 3) := by decide +kernel
theorem d_MO_load_65 : decode prog_14_method_18_code 65 = .ok (.goto (-20), 3) := by decide +kernel
theorem d_MO_load_68 : decode prog_14_method_18_code 68 = .ok (.aload_n 0, 1) := by decide +kernel
theorem d_MO_load_69 : decode prog_14_method_18_code 69 = .ok (.iload_n 1, 1) := by decide +kernel
theorem d_MO_load_70 : decode prog_14_method_18_code 70 = .ok (.putfield 193, 3) := by decide +kernel
theorem d_MO_load_73 : decode prog_14_method_18_code 73 = .ok (.aload_n 0, 1) := by decide +kernel
theorem d_MO_load_74 : decode prog_14_method_18_code 74 = .ok (.iconst 1, 1) := by decide +kernel
theorem d_MO_load_75 : decode prog_14_method_18_code 75 = .ok (.putfield 196, 3) := by decide +kernel
theorem d_MO_load_78 : decode prog_14_method_18_code 78 = .ok (.aload_n 0, 1) := by decide +kernel
theorem d_MO_load_79 : decode prog_14_method_18_code 79 = .ok (.getfield 173, 3) := by decide +kernel
theorem d_MO_load_82 : decode prog_14_method_18_code 82 = .ok (.ireturn, 1) := by decide +kernel
theorem d_MO_load_83 : decode prog_14_method_18_code 83 = .ok (.aload_n 0, 1) := by decide +kernel
theorem d_MO_load_84 : decode prog_14_method_18_code 84 = .ok (.iload_n 2, 1) := by decide +kernel
theorem d_MO_load_85 : decode prog_14_method_18_code 85 = .ok (.putfield 200, 3) := by decide +kernel
theorem d_MO_load_88 : decode prog_14_method_18_code 88 = .ok (.aload_n 0, 1) := by decide +kernel
theorem d_MO_load_89 : decode prog_14_method_18_code 89 = .ok (.iconst 0, 1) := by decide +kernel
theorem d_MO_load_90 : decode prog_14_method_18_code 90 = .ok (.aload_n 0, 1) := by decide +kernel
theorem d_MO_load_91 : decode prog_14_method_18_code 91 = .ok (.getfield 193, 3) := by decide +kernel
theorem d_MO_load_94 : decode prog_14_method_18_code 94 = .ok (.iconst 1, 1) := by decide +kernel
theorem d_MO_load_95 : decode prog_14_method_18_code 95 = .ok (.invokevirtual 185, 3) := by decide +kernel
theorem d_MO_load_98 : decode prog_14_method_18_code 98 = .ok (.aload_n 0, 1) := by decide +kernel
theorem d_MO_load_99 : decode prog_14_method_18_code 99 = .ok (.aload_n 0, 1) := by decide +kernel
theorem d_MO_load_100 : decode prog_14_method_18_code 100 = .ok (.getfield 193, 3) := by decide +kernel
theorem d_MO_load_103 : decode prog_14_method_18_code 103 = .ok (.invokevirtual 189, 3) := by decide +kernel
theorem d_MO_load_106 : decode prog_14_method_18_code 106 = .ok (.ireturn, 1) := by decide +kernel
theorem d_MO_header_0 : decode prog_14_method_19_code 0 = .ok (.aload_n 0, 1) := by decide +kernel
theorem d_MO_header_1 : decode prog_14_method_19_code 1 = .ok (.iload_n 1, 1) := by decide +kernel
theorem d_MO_header_2 : decode prog_14_method_19_code 2 = .ok (.iload_n 2, 1) := by decide +kernel
theorem d_MO_header_3 : decode prog_14_method_19_code 3 = .ok (.invokevirtual 142, 3) := by decide +kernel
theorem d_MO_header_6 : decode prog_14_method_19_code 6 = .ok (.istore_n 3, 1) := by decide +kernel
theorem d_MO_header_7 : decode prog_14_method_19_code 7 = .ok (.aload_n 0, 1) := by decide +kernel
theorem d_MO_header_8 : decode prog_14_method_19_code 8 = .ok (.getfield 76, 3) := by decide +kernel
theorem d_MO_header_11 : decode prog_14_method_19_code 11 = .ok (.aload_n 0, 1) := by decide +kernel
theorem d_MO_header_12 : decode prog_14_method_19_code 12 = .ok (.getfield 203, 3) := by decide +kernel
theorem d_MO_header_15 : decode prog_14_method_19_code 15 = .ok (.iload_n 1, 1) := by decide +kernel
theorem d_MO_header_16 : decode prog_14_method_19_code 16 = .ok (.iastore, 1) := by decide +kernel
theorem d_MO_header_17 : decode prog_14_method_19_code 17 = .ok (.aload_n 0, 1) := by decide +kernel
theorem d_MO_header_18 : decode prog_14_method_19_code 18 = .ok (.getfield 79, 3) := by decide +kernel
theorem d_MO_header_21 : decode prog_14_method_19_code 21 = .ok (.aload_n 0, 1) := by decide +kernel
theorem d_MO_header_22 : decode prog_14_method_19_code 22 = .ok (.getfield 203, 3) := by decide +kernel
theorem d_MO_header_25 : decode prog_14_method_19_code 25 = .ok (.iload_n 3, 1) := by decide +kernel
theorem d_MO_header_26 : decode prog_14_method_19_code 26 = .ok (.iastore, 1) := by decide +kernel
theorem d_MO_header_27 : decode prog_14_method_19_code 27 = .ok (.iload_n 3, 1) := by decide +kernel
theorem d_MO_header_28 : decode prog_14_method_19_code 28 = .ok (.ifCond .lt 25, 3) := by decide +kernel
theorem d_MO_header_31 : decode prog_14_method_19_code 31 = .ok (.iload_n 3, 1) := by decide +kernel
theorem d_MO_header_32 : decode prog_14_method_19_code 32 = .ok (.iload_n 2, 1) := by decide +kernel
theorem d_MO_header_33 : decode prog_14_method_19_code 33 = .ok (.if_icmp .eq 16, 3) := by decide +kernel
theorem d_MO_header_36 : decode prog_14_method_19_code 36 = .ok (.aload_n 0, 1) := by decide +kernel
theorem d_MO_header_37 : decode prog_14_method_19_code 37 = .ok (.iload_n 3, 1) := by decide +kernel
theorem d_MO_header_38 : decode prog_14_method_19_code 38 = .ok (.iload_n 2, 1) := by decide +kernel
theorem d_MO_header_39 : decode prog_14_method_19_code 39 = .ok (.ldc2_w 206, 3) := by decide +kernel
theorem d_MO_header_42 : decode prog_14_method_19_code 42 = .ok (.iconst 2, 1) := by decide +kernel
theorem d_MO_header_43 : decode prog_14_method_19_code 43 = .ok (.invokevirtual 150, 3) := by decide +kernel
theorem d_MO_header_46 : decode prog_14_method_19_code 46 = .ok (.ifCond .eq 7, 3) := by decide +kernel
theorem d_MO_header_49 : decode prog_14_method_19_code 49 = .ok (.iconst 1, 1) := by decide +kernel
theorem d_MO_header_50 : decode prog_14_method_19_code 50 = .ok (.goto 4, 3) := by decide +kernel
theorem d_MO_header_53 : decode prog_14_method_19_code 53 = .ok (.iconst 0, 1) := by decide +kernel
theorem d_MO_header_54 : decode prog_14_method_19_code 54 = .ok (.ireturn, 1) := by decide +kernel
theorem d_MO_moreLine_0 : decode prog_14_method_20_code 0 = .ok (.aload_n 0, 1) := by decide +kernel
theorem d_MO_moreLine_1 : decode prog_14_method_20_code 1 = .ok (.iload_n 1, 1) := by decide +kernel
theorem d_MO_moreLine_2 : decode prog_14_method_20_code 2 = .ok (.iload_n 2, 1) := by decide +kernel
theorem d_MO_moreLine_3 : decode prog_14_method_20_code 3 = .ok (.ldc2_w 208, 3) := by decide +kernel
theorem d_MO_moreLine_6 : decode prog_14_method_20_code 6 = .ok (.iconst 5, 1) := by decide +kernel
theorem d_MO_moreLine_7 : decode prog_14_method_20_code 7 = .ok (.invokevirtual 150, 3) := by decide +kernel
theorem d_MO_moreLine_10 : decode prog_14_method_20_code 10 = .ok (.ifCond .eq 14, 3) := by decide +kernel
theorem d_MO_moreLine_13 : decode prog_14_method_20_code 13 = .ok (.aload_n 0, 1) := by decide +kernel
theorem d_MO_moreLine_14 : decode prog_14_method_20_code 14 = .ok (.iload_n 1, 1) := by decide +kernel
theorem d_MO_moreLine_15 : decode prog_14_method_20_code 15 = .ok (.iconst 5, 1) := by decide +kernel
theorem d_MO_moreLine_16 : decode prog_14_method_20_code 16 = .ok (.iadd, 1) := by decide +kernel
theorem d_MO_moreLine_17 : decode prog_14_method_20_code 17 = .ok (.iload_n 2, 1) := by decide +kernel
theorem d_MO_moreLine_18 : decode prog_14_method_20_code 18 = .ok (.invokevirtual 160, 3) := by decide +kernel
theorem d_MO_moreLine_21 : decode prog_14_method_20_code 21 = .ok (.goto 4, 3) := by decide +kernel
theorem d_MO_moreLine_24 : decode prog_14_method_20_code 24 = .ok (.iconst (-1), 1) := by decide +kernel
theorem d_MO_moreLine_25 : decode prog_14_method_20_code 25 = .ok (.istore_n 3, 1) := by decide +kernel
theorem d_MO_moreLine_26 : decode prog_14_method_20_code 26 = .ok (.iload_n 3, 1) := by decide +kernel
theorem d_MO_moreLine_27 : decode prog_14_method_20_code 27 = .ok (.ifCond .lt 27, 3) := by decide +kernel
theorem d_MO_moreLine_30 : decode prog_14_method_20_code 30 = .ok (.iload_n 3, 1) := by decide +kernel
theorem d_MO_moreLine_31 : decode prog_14_method_20_code 31 = .ok (.iconst 5, 1) := by decide +kernel
theorem d_MO_moreLine_32 : decode prog_14_method_20_code 32 = .ok (.iadd, 1) := by decide +kernel
theorem d_MO_moreLine_33 : decode prog_14_method_20_code 33 = .ok (.iload_n 2, 1) := by decide +kernel
theorem d_MO_moreLine_34 : decode prog_14_method_20_code 34 = .ok (.if_icmp .ne 20, 3) := by decide +kernel
theorem d_MO_moreLine_37 : decode prog_14_method_20_code 37 = .ok (.aload_n 0, 1) := by decide +kernel
theorem d_MO_moreLine_38 : decode prog_14_method_20_code 38 = .ok (.iload_n 3, 1) := by decide +kernel
theorem d_MO_moreLine_39 : decode prog_14_method_20_code 39 = .ok (.iload_n 2, 1) := by decide +kernel
theorem d_MO_moreLine_40 : decode prog_14_method_20_code 40 = .ok (.ldc2_w 210, 3) := by decide +kernel
theorem d_MO_moreLine_43 : decode prog_14_method_20_code 43 = .ok (.iconst 5, 1) := by decide +kernel
theorem d_MO_moreLine_44 : decode prog_14_method_20_code 44 = .ok (.invokevirtual 150, 3) := by decide +kernel
theorem d_MO_moreLine_47 : decode prog_14_method_20_code 47 = .ok (.ifCond .eq 7, 3) := by decide +kernel
theorem d_MO_moreLine_50 : decode prog_14_method_20_code 50 = .ok (.iconst 1, 1) := by decide +kernel
theorem d_MO_moreLine_51 : decode prog_14_method_20_code 51 = .ok (.goto 4, 3) := by decide +kernel
theorem d_MO_moreLine_54 : decode prog_14_method_20_code 54 = .ok (.iconst 0, 1) := by decide +kernel
theorem d_MO_moreLine_55 : decode prog_14_method_20_code 55 = .ok (.ireturn, 1) := by decide +kernel
theorem d_MO_isNowhere_0 : decode prog_14_method_21_code 0 = .ok (.iload_n 2, 1) := by decide +kernel
theorem d_MO_isNowhere_1 : decode prog_14_method_21_code 1 = .ok (.iload_n 1, 1) := by decide +kernel
theorem d_MO_isNowhere_2 : decode prog_14_method_21_code 2 = .ok (.isub, 1) := by decide +kernel
theorem d_MO_isNowhere_3 : decode prog_14_method_21_code 3 = .ok (.bipush 14, 2) := by decide +kernel
theorem d_MO_isNowhere_5 : decode prog_14_method_21_code 5 = .ok (.if_icmp .ne 38, 3) := by decide +kernel
theorem d_MO_isNowhere_8 : decode prog_14_method_21_code 8 = .ok (.aload_n 0, 1) := by decide +kernel
theorem d_MO_isNowhere_9 : decode prog_14_method_21_code 9 = .ok (.iload_n 1, 1) := by decide +kernel
theorem d_MO_isNowhere_10 : decode prog_14_method_21_code 10 = .ok (.iload_n 2, 1) := by decide +kernel
theorem d_MO_isNowhere_11 : decode prog_14_method_21_code 11 = .ok (.ldc2_w 212, 3) := by decide +kernel
theorem d_MO_isNowhere_14 : decode prog_14_method_21_code 14 = .ok (.bipush 8, 2) := by decide +kernel
theorem d_MO_isNowhere_16 : decode prog_14_method_21_code 16 = .ok (.invokevirtual 150, 3) := by decide +kernel
theorem d_MO_isNowhere_19 : decode prog_14_method_21_code 19 = .ok (.ifCond .eq 24, 3) := by decide +kernel
theorem d_MO_isNowhere_22 : decode prog_14_method_21_code 22 = .ok (.aload_n 0, 1) := by decide +kernel
theorem d_MO_isNowhere_23 : decode prog_14_method_21_code 23 = .ok (.iload_n 1, 1) := by decide +kernel
theorem d_MO_isNowhere_24 : decode prog_14_method_21_code 24 = .ok (.bipush 8, 2) := by decide +kernel
theorem d_MO_isNowhere_26 : decode prog_14_method_21_code 26 = .ok (.iadd, 1) := by decide +kernel
theorem d_MO_isNowhere_27 : decode prog_14_method_21_code 27 = .ok (.iload_n 2, 1) := by decide +kernel
theorem d_MO_isNowhere_28 : decode prog_14_method_21_code 28 = .ok (.ldc2_w 214, 3) := by decide +kernel
theorem d_MO_isNowhere_31 : decode prog_14_method_21_code 31 = .ok (.bipush 6, 2) := by decide +kernel
theorem d_MO_isNowhere_33 : decode prog_14_method_21_code 33 = .ok (.invokevirtual 150, 3) := by decide +kernel
theorem d_MO_isNowhere_36 : decode prog_14_method_21_code 36 = .ok (.ifCond .eq 7, 3) := by decide +kernel
theorem d_MO_isNowhere_39 : decode prog_14_method_21_code 39 = .ok (.iconst 1, 1) := by decide +kernel
theorem d_MO_isNowhere_40 : decode prog_14_method_21_code 40 = .ok (.goto 4, 3) := by decide +kernel
theorem d_MO_isNowhere_43 : decode prog_14_method_21_code 43 = .ok (.iconst 0, 1) := by decide +kernel
theorem d_MO_isNowhere_44 : decode prog_14_method_21_code 44 = .ok (.istore_n 3, 1) := by decide +kernel
theorem d_MO_isNowhere_45 : decode prog_14_method_21_code 45 = .ok (.iload_n 3, 1) := by decide +kernel
theorem d_MO_isNowhere_46 : decode prog_14_method_21_code 46 = .ok (.ifCond .ne 41, 3) := by decide +kernel
theorem d_MO_isNowhere_49 : decode prog_14_method_21_code 49 = .ok (.iload_n 2, 1) := by decide +kernel
theorem d_MO_isNowhere_50 : decode prog_14_method_21_code 50 = .ok (.iload_n 1, 1) := by decide +kernel
theorem d_MO_isNowhere_51 : decode prog_14_method_21_code 51 = .ok (.isub, 1) := by decide +kernel
theorem d_MO_isNowhere_52 : decode prog_14_method_21_code 52 = .ok (.bipush 13, 2) := by decide +kernel
theorem d_MO_isNowhere_54 : decode prog_14_method_21_code 54 = .ok (.if_icmp .ne 37, 3) := by decide +kernel
theorem d_MO_isNowhere_57 : decode prog_14_method_21_code 57 = .ok (.aload_n 0, 1) := by decide +kernel
theorem d_MO_isNowhere_58 : decode prog_14_method_21_code 58 = .ok (.iload_n 1, 1) := by decide +kernel
theorem d_MO_isNowhere_59 : decode prog_14_method_21_code 59 = .ok (.iload_n 2, 1) := by decide +kernel
theorem d_MO_isNowhere_60 : decode prog_14_method_21_code 60 = .ok (.ldc2_w 216, 3) := by decide +kernel
theorem d_MO_isNowhere_63 : decode prog_14_method_21_code 63 = .ok (.bipush 8, 2) := by decide +kernel
theorem d_MO_isNowhere_65 : decode prog_14_method_21_code 65 = .ok (.invokevirtual 150, 3) := by decide +kernel
theorem d_MO_isNowhere_68 : decode prog_14_method_21_code 68 = .ok (.ifCond .eq 23, 3) := by decide +kernel
theorem d_MO_isNowhere_71 : decode prog_14_method_21_code 71 = .ok (.aload_n 0, 1) := by decide +kernel
theorem d_MO_isNowhere_72 : decode prog_14_method_21_code 72 = .ok (.iload_n 1, 1) := by decide +kernel
theorem d_MO_isNowhere_73 : decode prog_14_method_21_code 73 = .ok (.bipush 8, 2) := by decide +kernel
theorem d_MO_isNowhere_75 : decode prog_14_method_21_code 75 = .ok (.iadd, 1) := by decide +kernel
theorem d_MO_isNowhere_76 : decode prog_14_method_21_code 76 = .ok (.iload_n 2, 1) := by decide +kernel
theorem d_MO_isNowhere_77 : decode prog_14_method_21_code 77 = .ok (.ldc2_w 218, 3) := by decide +kernel
theorem d_MO_isNowhere_80 : decode prog_14_method_21_code 80 = .ok (.iconst 5, 1) := by decide +kernel
theorem d_MO_isNowhere_81 : decode prog_14_method_21_code 81 = .ok (.invokevirtual 150, 3) := by decide +kernel
theorem d_MO_isNowhere_84 : decode prog_14_method_21_code 84 = .ok (.ifCond .eq 7, 3) := by decide +kernel
theorem d_MO_isNowhere_87 : decode prog_14_method_21_code 87 = .ok (.iconst 1, 1) := by decide +kernel
theorem d_MO_isNowhere_88 : decode prog_14_method_21_code 88 = .ok (.goto 4, 3) := by decide +kernel
theorem d_MO_isNowhere_91 : decode prog_14_method_21_code 91 = .ok (.iconst 0, 1) := by decide +kernel
theorem d_MO_isNowhere_92 : decode prog_14_method_21_code 92 = .ok (.ireturn, 1) := by decide +kernel
theorem d_MO_place_0 : decode prog_14_method_22_code 0 = .ok (.aload_n 0, 1) := by decide +kernel
theorem d_MO_place_1 : decode prog_14_method_22_code 1 = .ok (.getfield 91, 3) := by decide +kernel
theorem d_MO_place_4 : decode prog_14_method_22_code 4 = .ok (.aload_n 0, 1) := by decide +kernel
theorem d_MO_place_5 : decode prog_14_method_22_code 5 = .ok (.getfield 203, 3) := by decide +kernel
theorem d_MO_place_8 : decode prog_14_method_22_code 8 = .ok (.iconst (-1), 1) := by decide +kernel
theorem d_MO_place_9 : decode prog_14_method_22_code 9 = .ok (.iastore, 1) := by decide +kernel
theorem d_MO_place_10 : decode prog_14_method_22_code 10 = .ok (.aload_n 0, 1) := by decide +kernel
theorem d_MO_place_11 : decode prog_14_method_22_code 11 = .ok (.getfield 85, 3) := by decide +kernel
theorem d_MO_place_14 : decode prog_14_method_22_code 14 = .ok (.aload_n 0, 1) := by decide +kernel
theorem d_MO_place_15 : decode prog_14_method_22_code 15 = .ok (.getfield 203, 3) := by decide +kernel
theorem d_MO_place_18 : decode prog_14_method_22_code 18 = .ok (.iload_n 1, 1) := by decide +kernel
theorem d_MO_place_19 : decode prog_14_method_22_code 19 = .ok (.iastore, 1) := by decide +kernel
theorem d_MO_place_20 : decode prog_14_method_22_code 20 = .ok (.aload_n 0, 1) := by decide +kernel
theorem d_MO_place_21 : decode prog_14_method_22_code 21 = .ok (.getfield 88, 3) := by decide +kernel
theorem d_MO_place_24 : decode prog_14_method_22_code 24 = .ok (.aload_n 0, 1) := by decide +kernel
theorem d_MO_place_25 : decode prog_14_method_22_code 25 = .ok (.getfield 203, 3) := by decide +kernel
theorem d_MO_place_28 : decode prog_14_method_22_code 28 = .ok (.iload_n 1, 1) := by decide +kernel
theorem d_MO_place_29 : decode prog_14_method_22_code 29 = .ok (.iastore, 1) := by decide +kernel
theorem d_MO_place_30 : decode prog_14_method_22_code 30 = .ok (.aload_n 0, 1) := by decide +kernel
theorem d_MO_place_31 : decode prog_14_method_22_code 31 = .ok (.iload_n 1, 1) := by decide +kernel
theorem d_MO_place_32 : decode prog_14_method_22_code 32 = .ok (.iload_n 2, 1) := by decide +kernel
theorem d_MO_place_33 : decode prog_14_method_22_code 33 = .ok (.invokevirtual 220, 3) := by decide +kernel
theorem d_MO_place_36 : decode prog_14_method_22_code 36 = .ok (.ifCond .eq 5, 3) := by decide +kernel
theorem d_MO_place_39 : decode prog_14_method_22_code 39 = .ok (.iconst 1, 1) := by decide +kernel
theorem d_MO_place_40 : decode prog_14_method_22_code 40 = .ok (.ireturn, 1) := by decide +kernel
theorem d_MO_place_41 : decode prog_14_method_22_code 41 = .ok (.aload_n 0, 1) := by decide +kernel
theorem d_MO_place_42 : decode prog_14_method_22_code 42 = .ok (.iload_n 1, 1) := by decide +kernel
theorem d_MO_place_43 : decode prog_14_method_22_code 43 = .ok (.iload_n 2, 1) := by decide +kernel
theorem d_MO_place_44 : decode prog_14_method_22_code 44 = .ok (.invokevirtual 135, 3) := by decide +kernel
theorem d_MO_place_47 : decode prog_14_method_22_code 47 = .ok (.istore_n 3, 1) := by decide +kernel
theorem d_MO_place_48 : decode prog_14_method_22_code 48 = .ok (.iload_n 3, 1) := by decide +kernel
theorem d_MO_place_49 : decode prog_14_method_22_code 49 = .ok (.ifCond .lt 28, 3) := by decide +kernel
theorem d_MO_place_52 : decode prog_14_method_22_code 52 = .ok (.iload_n 3, 1) := by decide +kernel
theorem d_MO_place_53 : decode prog_14_method_22_code 53 = .ok (.iload_n 2, 1) := by decide +kernel
theorem d_MO_place_54 : decode prog_14_method_22_code 54 = .ok (.if_icmp .ge 23, 3) := by decide +kernel
theorem d_MO_place_57 : decode prog_14_method_22_code 57 = .ok (.aload_n 0, 1) := by decide +kernel
theorem d_MO_place_58 : decode prog_14_method_22_code 58 = .ok (.getfield 13, 3) := by decide +kernel
theorem d_MO_place_61 : decode prog_14_method_22_code 61 = .ok (.iload_n 3, 1) := by decide +kernel
theorem d_MO_place_62 : decode prog_14_method_22_code 62 = .ok (.iaload, 1) := by decide +kernel
theorem d_MO_place_63 : decode prog_14_method_22_code 63 = .ok (.bipush 46, 2) := by decide +kernel
theorem d_MO_place_65 : decode prog_14_method_22_code 65 = .ok (.if_icmp .ne 12, 3) := by decide +kernel
theorem d_MO_place_68 : decode prog_14_method_22_code 68 = .ok (.aload_n 0, 1) := by decide +kernel
theorem d_MO_place_69 : decode prog_14_method_22_code 69 = .ok (.iload_n 3, 1) := by decide +kernel
theorem d_MO_place_70 : decode prog_14_method_22_code 70 = .ok (.iconst 1, 1) := by decide +kernel
theorem d_MO_place_71 : decode prog_14_method_22_code 71 = .ok (.iadd, 1) := by decide +kernel
theorem d_MO_place_72 : decode prog_14_method_22_code 72 = .ok (.iload_n 2, 1) := by decide +kernel
