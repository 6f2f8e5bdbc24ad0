theorem d_MO_place_73 : decode prog_14_method_22_code 73 = .ok (.invokevirtual 135, 3) := by decide +kernel
theorem d_MO_place_76 : decode prog_14_method_22_code 76 = .ok (.istore_n 3, 1) := by decide +kernel
theorem d_MO_place_77 : decode prog_14_method_22_code 77 = .ok (.iload_n 3, 1) := by decide +kernel
theorem d_MO_place_78 : decode prog_14_method_22_code 78 = .ok (.ifCond .ge 5, 3) := by decide +kernel
theorem d_MO_place_81 : decode prog_14_method_22_code 81 = .ok (.iconst 0, 1) := by decide +kernel
theorem d_MO_place_82 : decode prog_14_method_22_code 82 = .ok (.ireturn, 1) := by decide +kernel
theorem d_MO_place_83 : decode prog_14_method_22_code 83 = .ok (.aload_n 0, 1) := by decide +kernel
theorem d_MO_place_84 : decode prog_14_method_22_code 84 = .ok (.getfield 88, 3) := by decide +kernel
theorem d_MO_place_87 : decode prog_14_method_22_code 87 = .ok (.aload_n 0, 1) := by decide +kernel
theorem d_MO_place_88 : decode prog_14_method_22_code 88 = .ok (.getfield 203, 3) := by decide +kernel
theorem d_MO_place_91 : decode prog_14_method_22_code 91 = .ok (.iload_n 3, 1) := by decide +kernel
theorem d_MO_place_92 : decode prog_14_method_22_code 92 = .ok (.iastore, 1) := by decide +kernel
theorem d_MO_place_93 : decode prog_14_method_22_code 93 = .ok (.iload_n 3, 1) := by decide +kernel
theorem d_MO_place_94 : decode prog_14_method_22_code 94 = .ok (.iload_n 2, 1) := by decide +kernel
theorem d_MO_place_95 : decode prog_14_method_22_code 95 = .ok (.if_icmp .ge 36, 3) := by decide +kernel
theorem d_MO_place_98 : decode prog_14_method_22_code 98 = .ok (.aload_n 0, 1) := by decide +kernel
theorem d_MO_place_99 : decode prog_14_method_22_code 99 = .ok (.getfield 13, 3) := by decide +kernel
theorem d_MO_place_102 : decode prog_14_method_22_code 102 = .ok (.iload_n 3, 1) := by decide +kernel
theorem d_MO_place_103 : decode prog_14_method_22_code 103 = .ok (.iaload, 1) := by decide +kernel
theorem d_MO_place_104 : decode prog_14_method_22_code 104 = .ok (.bipush 58, 2) := by decide +kernel
theorem d_MO_place_106 : decode prog_14_method_22_code 106 = .ok (.if_icmp .ne 25, 3) := by decide +kernel
theorem d_MO_place_109 : decode prog_14_method_22_code 109 = .ok (.aload_n 0, 1) := by decide +kernel
theorem d_MO_place_110 : decode prog_14_method_22_code 110 = .ok (.iload_n 3, 1) := by decide +kernel
theorem d_MO_place_111 : decode prog_14_method_22_code 111 = .ok (.iconst 1, 1) := by decide +kernel
theorem d_MO_place_112 : decode prog_14_method_22_code 112 = .ok (.iadd, 1) := by decide +kernel
theorem d_MO_place_113 : decode prog_14_method_22_code 113 = .ok (.iload_n 2, 1) := by decide +kernel
theorem d_MO_place_114 : decode prog_14_method_22_code 114 = .ok (.invokevirtual 160, 3) := by decide +kernel
theorem d_MO_place_117 : decode prog_14_method_22_code 117 = .ok (.istore_n 3, 1) := by decide +kernel
theorem d_MO_place_118 : decode prog_14_method_22_code 118 = .ok (.aload_n 0, 1) := by decide +kernel
theorem d_MO_place_119 : decode prog_14_method_22_code 119 = .ok (.getfield 91, 3) := by decide +kernel
theorem d_MO_place_122 : decode prog_14_method_22_code 122 = .ok (.aload_n 0, 1) := by decide +kernel
theorem d_MO_place_123 : decode prog_14_method_22_code 123 = .ok (.getfield 203, 3) := by decide +kernel
theorem d_MO_place_126 : decode prog_14_method_22_code 126 = .ok (.aload_n 0, 1) := by decide +kernel
theorem d_MO_place_127 : decode prog_14_method_22_code 127 = .ok (.getfield 139, 3) := by decide +kernel
theorem d_MO_place_130 : decode prog_14_method_22_code 130 = .ok (.iastore, 1) := by decide +kernel
theorem d_MO_place_131 : decode prog_14_method_22_code 131 = .ok (.iload_n 3, 1) := by decide +kernel
theorem d_MO_place_132 : decode prog_14_method_22_code 132 = .ok (.iload_n 2, 1) := by decide +kernel
theorem d_MO_place_133 : decode prog_14_method_22_code 133 = .ok (.if_icmp .ne 7, 3) := by decide +kernel
theorem d_MO_place_136 : decode prog_14_method_22_code 136 = .ok (.iconst 1, 1) := by decide +kernel
theorem d_MO_place_137 : decode prog_14_method_22_code 137 = .ok (.goto 4, 3) := by decide +kernel
theorem d_MO_place_140 : decode prog_14_method_22_code 140 = .ok (.iconst 0, 1) := by decide +kernel
theorem d_MO_place_141 : decode prog_14_method_22_code 141 = .ok (.ireturn, 1) := by decide +kernel
theorem d_MO_frame_0 : decode prog_14_method_23_code 0 = .ok (.aload_n 0, 1) := by decide +kernel
theorem d_MO_frame_1 : decode prog_14_method_23_code 1 = .ok (.iload_n 1, 1) := by decide +kernel
theorem d_MO_frame_2 : decode prog_14_method_23_code 2 = .ok (.iload_n 2, 1) := by decide +kernel
theorem d_MO_frame_3 : decode prog_14_method_23_code 3 = .ok (.ldc2_w 223, 3) := by decide +kernel
theorem d_MO_frame_6 : decode prog_14_method_23_code 6 = .ok (.iconst 4, 1) := by decide +kernel
theorem d_MO_frame_7 : decode prog_14_method_23_code 7 = .ok (.invokevirtual 150, 3) := by decide +kernel
theorem d_MO_frame_10 : decode prog_14_method_23_code 10 = .ok (.ifCond .eq 14, 3) := by decide +kernel
theorem d_MO_frame_13 : decode prog_14_method_23_code 13 = .ok (.aload_n 0, 1) := by decide +kernel
theorem d_MO_frame_14 : decode prog_14_method_23_code 14 = .ok (.iload_n 1, 1) := by decide +kernel
theorem d_MO_frame_15 : decode prog_14_method_23_code 15 = .ok (.iconst 4, 1) := by decide +kernel
theorem d_MO_frame_16 : decode prog_14_method_23_code 16 = .ok (.iadd, 1) := by decide +kernel
theorem d_MO_frame_17 : decode prog_14_method_23_code 17 = .ok (.iload_n 2, 1) := by decide +kernel
theorem d_MO_frame_18 : decode prog_14_method_23_code 18 = .ok (.invokevirtual 142, 3) := by decide +kernel
theorem d_MO_frame_21 : decode prog_14_method_23_code 21 = .ok (.goto 4, 3) := by decide +kernel
theorem d_MO_frame_24 : decode prog_14_method_23_code 24 = .ok (.iconst (-1), 1) := by decide +kernel
theorem d_MO_frame_25 : decode prog_14_method_23_code 25 = .ok (.istore_n 3, 1) := by decide +kernel
theorem d_MO_frame_26 : decode prog_14_method_23_code 26 = .ok (.iload_n 3, 1) := by decide +kernel
theorem d_MO_frame_27 : decode prog_14_method_23_code 27 = .ok (.ifCond .lt 40, 3) := by decide +kernel
theorem d_MO_frame_30 : decode prog_14_method_23_code 30 = .ok (.aload_n 0, 1) := by decide +kernel
theorem d_MO_frame_31 : decode prog_14_method_23_code 31 = .ok (.getfield 129, 3) := by decide +kernel
theorem d_MO_frame_34 : decode prog_14_method_23_code 34 = .ok (.iconst 2, 1) := by decide +kernel
theorem d_MO_frame_35 : decode prog_14_method_23_code 35 = .ok (.if_icmp .lt 32, 3) := by decide +kernel
theorem d_MO_frame_38 : decode prog_14_method_23_code 38 = .ok (.iload_n 3, 1) := by decide +kernel
theorem d_MO_frame_39 : decode prog_14_method_23_code 39 = .ok (.iload_n 2, 1) := by decide +kernel
theorem d_MO_frame_40 : decode prog_14_method_23_code 40 = .ok (.if_icmp .ge 27, 3) := by decide +kernel
theorem d_MO_frame_43 : decode prog_14_method_23_code 43 = .ok (.aload_n 0, 1) := by decide +kernel
theorem d_MO_frame_44 : decode prog_14_method_23_code 44 = .ok (.getfield 13, 3) := by decide +kernel
theorem d_MO_frame_47 : decode prog_14_method_23_code 47 = .ok (.iload_n 3, 1) := by decide +kernel
theorem d_MO_frame_48 : decode prog_14_method_23_code 48 = .ok (.iaload, 1) := by decide +kernel
theorem d_MO_frame_49 : decode prog_14_method_23_code 49 = .ok (.bipush 40, 2) := by decide +kernel
theorem d_MO_frame_51 : decode prog_14_method_23_code 51 = .ok (.if_icmp .ne 16, 3) := by decide +kernel
theorem d_MO_frame_54 : decode prog_14_method_23_code 54 = .ok (.aload_n 0, 1) := by decide +kernel
theorem d_MO_frame_55 : decode prog_14_method_23_code 55 = .ok (.getfield 13, 3) := by decide +kernel
theorem d_MO_frame_58 : decode prog_14_method_23_code 58 = .ok (.iload_n 2, 1) := by decide +kernel
theorem d_MO_frame_59 : decode prog_14_method_23_code 59 = .ok (.iconst 1, 1) := by decide +kernel
theorem d_MO_frame_60 : decode prog_14_method_23_code 60 = .ok (.isub, 1) := by decide +kernel
theorem d_MO_frame_61 : decode prog_14_method_23_code 61 = .ok (.iaload, 1) := by decide +kernel
theorem d_MO_frame_62 : decode prog_14_method_23_code 62 = .ok (.bipush 41, 2) := by decide +kernel
theorem d_MO_frame_64 : decode prog_14_method_23_code 64 = .ok (.if_icmp .eq 5, 3) := by decide +kernel
theorem d_MO_frame_67 : decode prog_14_method_23_code 67 = .ok (.iconst 0, 1) := by decide +kernel
theorem d_MO_frame_68 : decode prog_14_method_23_code 68 = .ok (.ireturn, 1) := by decide +kernel
theorem d_MO_frame_69 : decode prog_14_method_23_code 69 = .ok (.aload_n 0, 1) := by decide +kernel
theorem d_MO_frame_70 : decode prog_14_method_23_code 70 = .ok (.getfield 76, 3) := by decide +kernel
theorem d_MO_frame_73 : decode prog_14_method_23_code 73 = .ok (.aload_n 0, 1) := by decide +kernel
theorem d_MO_frame_74 : decode prog_14_method_23_code 74 = .ok (.getfield 203, 3) := by decide +kernel
theorem d_MO_frame_77 : decode prog_14_method_23_code 77 = .ok (.iload_n 1, 1) := by decide +kernel
theorem d_MO_frame_78 : decode prog_14_method_23_code 78 = .ok (.iconst 4, 1) := by decide +kernel
theorem d_MO_frame_79 : decode prog_14_method_23_code 79 = .ok (.iadd, 1) := by decide +kernel
theorem d_MO_frame_80 : decode prog_14_method_23_code 80 = .ok (.iastore, 1) := by decide +kernel
theorem d_MO_frame_81 : decode prog_14_method_23_code 81 = .ok (.aload_n 0, 1) := by decide +kernel
theorem d_MO_frame_82 : decode prog_14_method_23_code 82 = .ok (.getfield 79, 3) := by decide +kernel
theorem d_MO_frame_85 : decode prog_14_method_23_code 85 = .ok (.aload_n 0, 1) := by decide +kernel
theorem d_MO_frame_86 : decode prog_14_method_23_code 86 = .ok (.getfield 203, 3) := by decide +kernel
theorem d_MO_frame_89 : decode prog_14_method_23_code 89 = .ok (.iload_n 3, 1) := by decide +kernel
theorem d_MO_frame_90 : decode prog_14_method_23_code 90 = .ok (.iastore, 1) := by decide +kernel
theorem d_MO_frame_91 : decode prog_14_method_23_code 91 = .ok (.aload_n 0, 1) := by decide +kernel
theorem d_MO_frame_92 : decode prog_14_method_23_code 92 = .ok (.getfield 82, 3) := by decide +kernel
theorem d_MO_frame_95 : decode prog_14_method_23_code 95 = .ok (.aload_n 0, 1) := by decide +kernel
theorem d_MO_frame_96 : decode prog_14_method_23_code 96 = .ok (.getfield 203, 3) := by decide +kernel
theorem d_MO_frame_99 : decode prog_14_method_23_code 99 = .ok (.aload_n 0, 1) := by decide +kernel
theorem d_MO_frame_100 : decode prog_14_method_23_code 100 = .ok (.getfield 132, 3) := by decide +kernel
theorem d_MO_frame_103 : decode prog_14_method_23_code 103 = .ok (.iastore, 1) := by decide +kernel
theorem d_MO_frame_104 : decode prog_14_method_23_code 104 = .ok (.aload_n 0, 1) := by decide +kernel
theorem d_MO_frame_105 : decode prog_14_method_23_code 105 = .ok (.iload_n 3, 1) := by decide +kernel
theorem d_MO_frame_106 : decode prog_14_method_23_code 106 = .ok (.iconst 1, 1) := by decide +kernel
theorem d_MO_frame_107 : decode prog_14_method_23_code 107 = .ok (.iadd, 1) := by decide +kernel
theorem d_MO_frame_108 : decode prog_14_method_23_code 108 = .ok (.iload_n 2, 1) := by decide +kernel
theorem d_MO_frame_109 : decode prog_14_method_23_code 109 = .ok (.iconst 1, 1) := by decide +kernel
theorem d_MO_frame_110 : decode prog_14_method_23_code 110 = .ok (.isub, 1) := by decide +kernel
theorem d_MO_frame_111 : decode prog_14_method_23_code 111 = .ok (.invokevirtual 225, 3) := by decide +kernel
theorem d_MO_frame_114 : decode prog_14_method_23_code 114 = .ok (.ireturn, 1) := by decide +kernel
theorem d_MO_lineKind_0 : decode prog_14_method_24_code 0 = .ok (.iload_n 3, 1) := by decide +kernel
theorem d_MO_lineKind_1 : decode prog_14_method_24_code 1 = .ok (.ifCond .ne 18, 3) := by decide +kernel
theorem d_MO_lineKind_4 : decode prog_14_method_24_code 4 = .ok (.aload_n 0, 1) := by decide +kernel
theorem d_MO_lineKind_5 : decode prog_14_method_24_code 5 = .ok (.iload_n 1, 1) := by decide +kernel
theorem d_MO_lineKind_6 : decode prog_14_method_24_code 6 = .ok (.iload_n 2, 1) := by decide +kernel
theorem d_MO_lineKind_7 : decode prog_14_method_24_code 7 = .ok (.invokevirtual 228, 3) := by decide +kernel
theorem d_MO_lineKind_10 : decode prog_14_method_24_code 10 = .ok (.ifCond .eq 7, 3) := by decide +kernel
theorem d_MO_lineKind_13 : decode prog_14_method_24_code 13 = .ok (.iconst 0, 1) := by decide +kernel
theorem d_MO_lineKind_14 : decode prog_14_method_24_code 14 = .ok (.goto 4, 3) := by decide +kernel
theorem d_MO_lineKind_17 : decode prog_14_method_24_code 17 = .ok (.iconst (-1), 1) := by decide +kernel
theorem d_MO_lineKind_18 : decode prog_14_method_24_code 18 = .ok (.ireturn, 1) := by decide +kernel
theorem d_MO_lineKind_19 : decode prog_14_method_24_code 19 = .ok (.aload_n 0, 1) := by decide +kernel
theorem d_MO_lineKind_20 : decode prog_14_method_24_code 20 = .ok (.iload_n 1, 1) := by decide +kernel
theorem d_MO_lineKind_21 : decode prog_14_method_24_code 21 = .ok (.iload_n 2, 1) := by decide +kernel
theorem d_MO_lineKind_22 : decode prog_14_method_24_code 22 = .ok (.ldc2_w 231, 3) := by decide +kernel
theorem d_MO_lineKind_25 : decode prog_14_method_24_code 25 = .ok (.bipush 8, 2) := by decide +kernel
theorem d_MO_lineKind_27 : decode prog_14_method_24_code 27 = .ok (.invokevirtual 150, 3) := by decide +kernel
theorem d_MO_lineKind_30 : decode prog_14_method_24_code 30 = .ok (.ifCond .eq 37, 3) := by decide +kernel
theorem d_MO_lineKind_33 : decode prog_14_method_24_code 33 = .ok (.aload_n 0, 1) := by decide +kernel
theorem d_MO_lineKind_34 : decode prog_14_method_24_code 34 = .ok (.iload_n 1, 1) := by decide +kernel
theorem d_MO_lineKind_35 : decode prog_14_method_24_code 35 = .ok (.bipush 8, 2) := by decide +kernel
theorem d_MO_lineKind_37 : decode prog_14_method_24_code 37 = .ok (.iadd, 1) := by decide +kernel
theorem d_MO_lineKind_38 : decode prog_14_method_24_code 38 = .ok (.iload_n 2, 1) := by decide +kernel
theorem d_MO_lineKind_39 : decode prog_14_method_24_code 39 = .ok (.ldc2_w 233, 3) := by decide +kernel
theorem d_MO_lineKind_42 : decode prog_14_method_24_code 42 = .ok (.iconst 3, 1) := by decide +kernel
theorem d_MO_lineKind_43 : decode prog_14_method_24_code 43 = .ok (.invokevirtual 150, 3) := by decide +kernel
theorem d_MO_lineKind_46 : decode prog_14_method_24_code 46 = .ok (.ifCond .eq 21, 3) := by decide +kernel
theorem d_MO_lineKind_49 : decode prog_14_method_24_code 49 = .ok (.aload_n 0, 1) := by decide +kernel
theorem d_MO_lineKind_50 : decode prog_14_method_24_code 50 = .ok (.iload_n 1, 1) := by decide +kernel
theorem d_MO_lineKind_51 : decode prog_14_method_24_code 51 = .ok (.bipush 11, 2) := by decide +kernel
theorem d_MO_lineKind_53 : decode prog_14_method_24_code 53 = .ok (.iadd, 1) := by decide +kernel
theorem d_MO_lineKind_54 : decode prog_14_method_24_code 54 = .ok (.iload_n 2, 1) := by decide +kernel
theorem d_MO_lineKind_55 : decode prog_14_method_24_code 55 = .ok (.invokevirtual 228, 3) := by decide +kernel
theorem d_MO_lineKind_58 : decode prog_14_method_24_code 58 = .ok (.ifCond .eq 7, 3) := by decide +kernel
theorem d_MO_lineKind_61 : decode prog_14_method_24_code 61 = .ok (.iconst 1, 1) := by decide +kernel
theorem d_MO_lineKind_62 : decode prog_14_method_24_code 62 = .ok (.goto 4, 3) := by decide +kernel
theorem d_MO_lineKind_65 : decode prog_14_method_24_code 65 = .ok (.iconst (-1), 1) := by decide +kernel
theorem d_MO_lineKind_66 : decode prog_14_method_24_code 66 = .ok (.ireturn, 1) := by decide +kernel
theorem d_MO_lineKind_67 : decode prog_14_method_24_code 67 = .ok (.iload_n 3, 1) := by decide +kernel
theorem d_MO_lineKind_68 : decode prog_14_method_24_code 68 = .ok (.iconst 1, 1) := by decide +kernel
theorem d_MO_lineKind_69 : decode prog_14_method_24_code 69 = .ok (.if_icmp .ne 14, 3) := by decide +kernel
theorem d_MO_lineKind_72 : decode prog_14_method_24_code 72 = .ok (.aload_n 0, 1) := by decide +kernel
theorem d_MO_lineKind_73 : decode prog_14_method_24_code 73 = .ok (.iload_n 1, 1) := by decide +kernel
theorem d_MO_lineKind_74 : decode prog_14_method_24_code 74 = .ok (.iload_n 2, 1) := by decide +kernel
theorem d_MO_lineKind_75 : decode prog_14_method_24_code 75 = .ok (.invokevirtual 235, 3) := by decide +kernel
theorem d_MO_lineKind_78 : decode prog_14_method_24_code 78 = .ok (.ifCond .eq 5, 3) := by decide +kernel
theorem d_MO_lineKind_81 : decode prog_14_method_24_code 81 = .ok (.iconst 2, 1) := by decide +kernel
theorem d_MO_lineKind_82 : decode prog_14_method_24_code 82 = .ok (.ireturn, 1) := by decide +kernel
theorem d_MO_lineKind_83 : decode prog_14_method_24_code 83 = .ok (.iload_n 3, 1) := by decide +kernel
theorem d_MO_lineKind_84 : decode prog_14_method_24_code 84 = .ok (.iconst 1, 1) := by decide +kernel
theorem d_MO_lineKind_85 : decode prog_14_method_24_code 85 = .ok (.if_icmp .ne 16, 3) := by decide +kernel
theorem d_MO_lineKind_88 : decode prog_14_method_24_code 88 = .ok (.aload_n 0, 1) := by decide +kernel
theorem d_MO_lineKind_89 : decode prog_14_method_24_code 89 = .ok (.iload_n 1, 1) := by decide +kernel
theorem d_MO_lineKind_90 : decode prog_14_method_24_code 90 = .ok (.iload_n 2, 1) := by decide +kernel
theorem d_MO_lineKind_91 : decode prog_14_method_24_code 91 = .ok (.invokevirtual 238, 3) := by decide +kernel
theorem d_MO_lineKind_94 : decode prog_14_method_24_code 94 = .ok (.ifCond .eq 7, 3) := by decide +kernel
theorem d_MO_lineKind_97 : decode prog_14_method_24_code 97 = .ok (.iconst 3, 1) := by decide +kernel
theorem d_MO_lineKind_98 : decode prog_14_method_24_code 98 = .ok (.goto 4, 3) := by decide +kernel
theorem d_MO_lineKind_101 : decode prog_14_method_24_code 101 = .ok (.iconst (-1), 1) := by decide +kernel
theorem d_MO_lineKind_102 : decode prog_14_method_24_code 102 = .ok (.ireturn, 1) := by decide +kernel
theorem d_MO_readTrace_0 : decode prog_14_method_25_code 0 = .ok (.iload_n 1, 1) := by decide +kernel
theorem d_MO_readTrace_1 : decode prog_14_method_25_code 1 = .ok (.ifCond .le 26, 3) := by decide +kernel
theorem d_MO_readTrace_4 : decode prog_14_method_25_code 4 = .ok (.aload_n 0, 1) := by decide +kernel
theorem d_MO_readTrace_5 : decode prog_14_method_25_code 5 = .ok (.getfield 13, 3) := by decide +kernel
theorem d_MO_readTrace_8 : decode prog_14_method_25_code 8 = .ok (.sipush 599, 3) := by decide +kernel
theorem d_MO_readTrace_11 : decode prog_14_method_25_code 11 = .ok (.iload_n 1, 1) := by decide +kernel
theorem d_MO_readTrace_12 : decode prog_14_method_25_code 12 = .ok (.iadd, 1) := by decide +kernel
theorem d_MO_readTrace_13 : decode prog_14_method_25_code 13 = .ok (.iaload, 1) := by decide +kernel
theorem d_MO_readTrace_14 : decode prog_14_method_25_code 14 = .ok (.bipush 10, 2) := by decide +kernel
theorem d_MO_readTrace_16 : decode prog_14_method_25_code 16 = .ok (.if_icmp .ne 11, 3) := by decide +kernel
theorem d_MO_readTrace_19 : decode prog_14_method_25_code 19 = .ok (.sipush 599, 3) := by decide +kernel
theorem d_MO_readTrace_22 : decode prog_14_method_25_code 22 = .ok (.iload_n 1, 1) := by decide +kernel
theorem d_MO_readTrace_23 : decode prog_14_method_25_code 23 = .ok (.iadd, 1) := by decide +kernel
theorem d_MO_readTrace_24 : decode prog_14_method_25_code 24 = .ok (.goto 8, 3) := by decide +kernel
theorem d_MO_readTrace_27 : decode prog_14_method_25_code 27 = .ok (.sipush 600, 3) := by decide +kernel
theorem d_MO_readTrace_30 : decode prog_14_method_25_code 30 = .ok (.iload_n 1, 1) := by decide +kernel
theorem d_MO_readTrace_31 : decode prog_14_method_25_code 31 = .ok (.iadd, 1) := by decide +kernel
theorem d_MO_readTrace_32 : decode prog_14_method_25_code 32 = .ok (.istore_n 2, 1) := by decide +kernel
theorem d_MO_readTrace_33 : decode prog_14_method_25_code 33 = .ok (.sipush 600, 3) := by decide +kernel
theorem d_MO_readTrace_36 : decode prog_14_method_25_code 36 = .ok (.istore_n 3, 1) := by decide +kernel
theorem d_MO_readTrace_37 : decode prog_14_method_25_code 37 = .ok (.iconst 0, 1) := by decide +kernel
theorem d_MO_readTrace_38 : decode prog_14_method_25_code 38 = .ok (.istore 4, 2) := by decide +kernel
theorem d_MO_readTrace_40 : decode prog_14_method_25_code 40 = .ok (.iconst 0, 1) := by decide +kernel
theorem d_MO_readTrace_41 : decode prog_14_method_25_code 41 = .ok (.istore 5, 2) := by decide +kernel
theorem d_MO_readTrace_43 : decode prog_14_method_25_code 43 = .ok (.iconst 0, 1) := by decide +kernel
theorem d_MO_readTrace_44 : decode prog_14_method_25_code 44 = .ok (.istore 6, 2) := by decide +kernel
theorem d_MO_readTrace_46 : decode prog_14_method_25_code 46 = .ok (.aload_n 0, 1) := by decide +kernel
theorem d_MO_readTrace_47 : decode prog_14_method_25_code 47 = .ok (.iconst 0, 1) := by decide +kernel
theorem d_MO_readTrace_48 : decode prog_14_method_25_code 48 = .ok (.putfield 203, 3) := by decide +kernel
theorem d_MO_readTrace_51 : decode prog_14_method_25_code 51 = .ok (.iload_n 1, 1) := by decide +kernel
theorem d_MO_readTrace_52 : decode prog_14_method_25_code 52 = .ok (.ifCond .le 168, 3) := by decide +kernel
theorem d_MO_readTrace_55 : decode prog_14_method_25_code 55 = .ok (.iload_n 3, 1) := by decide +kernel
theorem d_MO_readTrace_56 : decode prog_14_method_25_code 56 = .ok (.iload_n 2, 1) := by decide +kernel
theorem d_MO_readTrace_57 : decode prog_14_method_25_code 57 = .ok (.if_icmp .gt 163, 3) := by decide +kernel
theorem d_MO_readTrace_60 : decode prog_14_method_25_code 60 = .ok (.iload_n 3, 1) := by decide +kernel
theorem d_MO_readTrace_61 : decode prog_14_method_25_code 61 = .ok (.istore 7, 2) := by decide +kernel
theorem d_MO_readTrace_63 : decode prog_14_method_25_code 63 = .ok (.iload 7, 2) := by decide +kernel
theorem d_MO_readTrace_65 : decode prog_14_method_25_code 65 = .ok (.iload_n 2, 1) := by decide +kernel
theorem d_MO_readTrace_66 : decode prog_14_method_25_code 66 = .ok (.if_icmp .ge 21, 3) := by decide +kernel
theorem d_MO_readTrace_69 : decode prog_14_method_25_code 69 = .ok (.aload_n 0, 1) := by decide +kernel
theorem d_MO_readTrace_70 : decode prog_14_method_25_code 70 = .ok (.getfield 13, 3) := by decide +kernel
theorem d_MO_readTrace_73 : decode prog_14_method_25_code 73 = .ok (.iload 7, 2) := by decide +kernel
theorem d_MO_readTrace_75 : decode prog_14_method_25_code 75 = .ok (.iaload, 1) := by decide +kernel
theorem d_MO_readTrace_76 : decode prog_14_method_25_code 76 = .ok (.bipush 10, 2) := by decide +kernel
theorem d_MO_readTrace_78 : decode prog_14_method_25_code 78 = .ok (.if_icmp .eq 9, 3) := by decide +kernel
theorem d_MO_readTrace_81 : decode prog_14_method_25_code 81 = .ok (.iinc 7 1, 3) := by decide +kernel
theorem d_MO_readTrace_84 : decode prog_14_method_25_code 84 = .ok (.goto (-21), 3) := by decide +kernel
theorem d_MO_readTrace_87 : decode prog_14_method_25_code 87 = .ok (.aload_n 0, 1) := by decide +kernel
theorem d_MO_readTrace_88 : decode prog_14_method_25_code 88 = .ok (.iload_n 3, 1) := by decide +kernel
theorem d_MO_readTrace_89 : decode prog_14_method_25_code 89 = .ok (.iload 7, 2) := by decide +kernel
theorem d_MO_readTrace_91 : decode prog_14_method_25_code 91 = .ok (.iload 4, 2) := by decide +kernel
theorem d_MO_readTrace_93 : decode prog_14_method_25_code 93 = .ok (.invokevirtual 241, 3) := by decide +kernel
theorem d_MO_readTrace_96 : decode prog_14_method_25_code 96 = .ok (.istore 8, 2) := by decide +kernel
theorem d_MO_readTrace_98 : decode prog_14_method_25_code 98 = .ok (.iload 8, 2) := by decide +kernel
theorem d_MO_readTrace_100 : decode prog_14_method_25_code 100 = .ok (.iconst 1, 1) := by decide +kernel
theorem d_MO_readTrace_101 : decode prog_14_method_25_code 101 = .ok (.if_icmp .ne 10, 3) := by decide +kernel
theorem d_MO_readTrace_104 : decode prog_14_method_25_code 104 = .ok (.iload 5, 2) := by decide +kernel
theorem d_MO_readTrace_106 : decode prog_14_method_25_code 106 = .ok (.iconst 1, 1) := by decide +kernel
theorem d_MO_readTrace_107 : decode prog_14_method_25_code 107 = .ok (.iadd, 1) := by decide +kernel
theorem d_MO_readTrace_108 : decode prog_14_method_25_code 108 = .ok (.goto 5, 3) := by decide +kernel
theorem d_MO_readTrace_111 : decode prog_14_method_25_code 111 = .ok (.iload 5, 2) := by decide +kernel
theorem d_MO_readTrace_113 : decode prog_14_method_25_code 113 = .ok (.istore 5, 2) := by decide +kernel
theorem d_MO_readTrace_115 : decode prog_14_method_25_code 115 = .ok (.iload 8, 2) := by decide +kernel
theorem d_MO_readTrace_117 : decode prog_14_method_25_code 117 = .ok (.iconst 2, 1) := by decide +kernel
theorem d_MO_readTrace_118 : decode prog_14_method_25_code 118 = .ok (.if_icmp .ne 10, 3) := by decide +kernel
theorem d_MO_readTrace_121 : decode prog_14_method_25_code 121 = .ok (.iload 6, 2) := by decide +kernel
theorem d_MO_readTrace_123 : decode prog_14_method_25_code 123 = .ok (.iconst 1, 1) := by decide +kernel
theorem d_MO_readTrace_124 : decode prog_14_method_25_code 124 = .ok (.iadd, 1) := by decide +kernel
theorem d_MO_readTrace_125 : decode prog_14_method_25_code 125 = .ok (.goto 5, 3) := by decide +kernel
theorem d_MO_readTrace_128 : decode prog_14_method_25_code 128 = .ok (.iload 6, 2) := by decide +kernel
theorem d_MO_readTrace_130 : decode prog_14_method_25_code 130 = .ok (.istore 6, 2) := by decide +kernel
theorem d_MO_readTrace_132 : decode prog_14_method_25_code 132 = .ok (.iload 8, 2) := by decide +kernel
theorem d_MO_readTrace_134 : decode prog_14_method_25_code 134 = .ok (.ifCond .lt 16, 3) := by decide +kernel
theorem d_MO_readTrace_137 : decode prog_14_method_25_code 137 = .ok (.iload 5, 2) := by decide +kernel
theorem d_MO_readTrace_139 : decode prog_14_method_25_code 139 = .ok (.iconst 3, 1) := by decide +kernel
theorem d_MO_readTrace_140 : decode prog_14_method_25_code 140 = .ok (.if_icmp .gt 10, 3) := by decide +kernel
theorem d_MO_readTrace_143 : decode prog_14_method_25_code 143 = .ok (.iload 6, 2) := by decide +kernel
theorem d_MO_readTrace_145 : decode prog_14_method_25_code 145 = .ok (.bipush 20, 2) := by decide +kernel
theorem d_MO_readTrace_147 : decode prog_14_method_25_code 147 = .ok (.if_icmp .le 10, 3) := by decide +kernel
theorem d_MO_readTrace_150 : decode prog_14_method_25_code 150 = .ok (.aload_n 0, 1) := by decide +kernel
theorem d_MO_readTrace_151 : decode prog_14_method_25_code 151 = .ok (.getfield 203, 3) := by decide +kernel
theorem d_MO_readTrace_154 : decode prog_14_method_25_code 154 = .ok (.iconst 1, 1) := by decide +kernel
theorem d_MO_readTrace_155 : decode prog_14_method_25_code 155 = .ok (.iadd, 1) := by decide +kernel
theorem d_MO_readTrace_156 : decode prog_14_method_25_code 156 = .ok (.ireturn, 1) := by decide +kernel
theorem d_MO_readTrace_157 : decode prog_14_method_25_code 157 = .ok (.aload_n 0, 1) := by decide +kernel
theorem d_MO_readTrace_158 : decode prog_14_method_25_code 158 = .ok (.getfield 67, 3) := by decide +kernel
theorem d_MO_readTrace_161 : decode prog_14_method_25_code 161 = .ok (.aload_n 0, 1) := by decide +kernel
theorem d_MO_readTrace_162 : decode prog_14_method_25_code 162 = .ok (.getfield 203, 3) := by decide +kernel
theorem d_MO_readTrace_165 : decode prog_14_method_25_code 165 = .ok (.iload 8, 2) := by decide +kernel
theorem d_MO_readTrace_167 : decode prog_14_method_25_code 167 = .ok (.iastore, 1) := by decide +kernel
theorem d_MO_readTrace_168 : decode prog_14_method_25_code 168 = .ok (.aload_n 0, 1) := by decide +kernel
theorem d_MO_readTrace_169 : decode prog_14_method_25_code 169 = .ok (.getfield 70, 3) := by decide +kernel
theorem d_MO_readTrace_172 : decode prog_14_method_25_code 172 = .ok (.aload_n 0, 1) := by decide +kernel
theorem d_MO_readTrace_173 : decode prog_14_method_25_code 173 = .ok (.getfield 203, 3) := by decide +kernel
theorem d_MO_readTrace_176 : decode prog_14_method_25_code 176 = .ok (.iload_n 3, 1) := by decide +kernel
theorem d_MO_readTrace_177 : decode prog_14_method_25_code 177 = .ok (.iastore, 1) := by decide +kernel
theorem d_MO_readTrace_178 : decode prog_14_method_25_code 178 = .ok (.aload_n 0, 1) := by decide +kernel
theorem d_MO_readTrace_179 : decode prog_14_method_25_code 179 = .ok (.getfield 73, 3) := by decide +kernel
theorem d_MO_readTrace_182 : decode prog_14_method_25_code 182 = .ok (.aload_n 0, 1) := by decide +kernel
theorem d_MO_readTrace_183 : decode prog_14_method_25_code 183 = .ok (.getfield 203, 3) := by decide +kernel
theorem d_MO_readTrace_186 : decode prog_14_method_25_code 186 = .ok (.iload 7, 2) := by decide +kernel
theorem d_MO_readTrace_188 : decode prog_14_method_25_code 188 = .ok (.iastore, 1) := by decide +kernel
theorem d_MO_readTrace_189 : decode prog_14_method_25_code 189 = .ok (.aload_n 0, 1) := by decide +kernel
theorem d_MO_readTrace_190 : decode prog_14_method_25_code 190 = .ok (.dup, 1) := by decide +kernel
theorem d_MO_readTrace_191 : decode prog_14_method_25_code 191 = .ok (.getfield 203, 3) := by decide +kernel
theorem d_MO_readTrace_194 : decode prog_14_method_25_code 194 = .ok (.iconst 1, 1) := by decide +kernel
theorem d_MO_readTrace_195 : decode prog_14_method_25_code 195 = .ok (.iadd, 1) := by decide +kernel
theorem d_MO_readTrace_196 : decode prog_14_method_25_code 196 = .ok (.putfield 203, 3) := by decide +kernel
theorem d_MO_readTrace_199 : decode prog_14_method_25_code 199 = .ok (.iload 8, 2) := by decide +kernel
theorem d_MO_readTrace_201 : decode prog_14_method_25_code 201 = .ok (.iconst 3, 1) := by decide +kernel
theorem d_MO_readTrace_202 : decode prog_14_method_25_code 202 = .ok (.if_icmp .ne 7, 3) := by decide +kernel
theorem d_MO_readTrace_205 : decode prog_14_method_25_code 205 = .ok (.iconst 2, 1) := by decide +kernel
theorem d_MO_readTrace_206 : decode prog_14_method_25_code 206 = .ok (.goto 4, 3) := by decide +kernel
theorem d_MO_readTrace_209 : decode prog_14_method_25_code 209 = .ok (.iconst 1, 1) := by decide +kernel
theorem d_MO_readTrace_210 : decode prog_14_method_25_code 210 = .ok (.istore 4, 2) := by decide +kernel
theorem d_MO_readTrace_212 : decode prog_14_method_25_code 212 = .ok (.iload 7, 2) := by decide +kernel
theorem d_MO_readTrace_214 : decode prog_14_method_25_code 214 = .ok (.iconst 1, 1) := by decide +kernel
theorem d_MO_readTrace_215 : decode prog_14_method_25_code 215 = .ok (.iadd, 1) := by decide +kernel
theorem d_MO_readTrace_216 : decode prog_14_method_25_code 216 = .ok (.istore_n 3, 1) := by decide +kernel
theorem d_MO_readTrace_217 : decode prog_14_method_25_code 217 = .ok (.goto (-166), 3) := by decide +kernel
theorem d_MO_readTrace_220 : decode prog_14_method_25_code 220 = .ok (.aload_n 0, 1) := by decide +kernel
theorem d_MO_readTrace_221 : decode prog_14_method_25_code 221 = .ok (.getfield 203, 3) := by decide +kernel
theorem d_MO_readTrace_224 : decode prog_14_method_25_code 224 = .ok (.ifCond .ne 7, 3) := by decide +kernel
theorem d_MO_readTrace_227 : decode prog_14_method_25_code 227 = .ok (.iconst 1, 1) := by decide +kernel
theorem d_MO_readTrace_228 : decode prog_14_method_25_code 228 = .ok (.goto 4, 3) := by decide +kernel
theorem d_MO_readTrace_231 : decode prog_14_method_25_code 231 = .ok (.iconst 0, 1) := by decide +kernel
theorem d_MO_readTrace_232 : decode prog_14_method_25_code 232 = .ok (.ireturn, 1) := by decide +kernel
theorem d_MO_emit_0 : decode prog_14_method_26_code 0 = .ok (.aload_n 0, 1) := by decide +kernel
theorem d_MO_emit_1 : decode prog_14_method_26_code 1 = .ok (.getfield 245, 3) := by decide +kernel
theorem d_MO_emit_4 : decode prog_14_method_26_code 4 = .ok (.sipush 1000, 3) := by decide +kernel
theorem d_MO_emit_7 : decode prog_14_method_26_code 7 = .ok (.if_icmp .ne 9, 3) := by decide +kernel
theorem d_MO_emit_10 : decode prog_14_method_26_code 10 = .ok (.aload_n 0, 1) := by decide +kernel
theorem d_MO_emit_11 : decode prog_14_method_26_code 11 = .ok (.iconst 1, 1) := by decide +kernel
theorem d_MO_emit_12 : decode prog_14_method_26_code 12 = .ok (.putfield 248, 3) := by decide +kernel
theorem d_MO_emit_15 : decode prog_14_method_26_code 15 = .ok (.return_, 1) := by decide +kernel
theorem d_MO_emit_16 : decode prog_14_method_26_code 16 = .ok (.aload_n 0, 1) := by decide +kernel
theorem d_MO_emit_17 : decode prog_14_method_26_code 17 = .ok (.getfield 94, 3) := by decide +kernel
theorem d_MO_emit_20 : decode prog_14_method_26_code 20 = .ok (.aload_n 0, 1) := by decide +kernel
theorem d_MO_emit_21 : decode prog_14_method_26_code 21 = .ok (.getfield 245, 3) := by decide +kernel
theorem d_MO_emit_24 : decode prog_14_method_26_code 24 = .ok (.iload_n 1, 1) := by decide +kernel
theorem d_MO_emit_25 : decode prog_14_method_26_code 25 = .ok (.iastore, 1) := by decide +kernel
theorem d_MO_emit_26 : decode prog_14_method_26_code 26 = .ok (.aload_n 0, 1) := by decide +kernel
theorem d_MO_emit_27 : decode prog_14_method_26_code 27 = .ok (.dup, 1) := by decide +kernel
theorem d_MO_emit_28 : decode prog_14_method_26_code 28 = .ok (.getfield 245, 3) := by decide +kernel
theorem d_MO_emit_31 : decode prog_14_method_26_code 31 = .ok (.iconst 1, 1) := by decide +kernel
theorem d_MO_emit_32 : decode prog_14_method_26_code 32 = .ok (.iadd, 1) := by decide +kernel
theorem d_MO_emit_33 : decode prog_14_method_26_code 33 = .ok (.putfield 245, 3) := by decide +kernel
theorem d_MO_emit_36 : decode prog_14_method_26_code 36 = .ok (.return_, 1) := by decide +kernel
theorem d_MO_emitText_0 : decode prog_14_method_27_code 0 = .ok (.iload_n 1, 1) := by decide +kernel
theorem d_MO_emitText_1 : decode prog_14_method_27_code 1 = .ok (.istore_n 3, 1) := by decide +kernel
theorem d_MO_emitText_2 : decode prog_14_method_27_code 2 = .ok (.iload_n 3, 1) := by decide +kernel
theorem d_MO_emitText_3 : decode prog_14_method_27_code 3 = .ok (.iload_n 2, 1) := by decide +kernel
theorem d_MO_emitText_4 : decode prog_14_method_27_code 4 = .ok (.if_icmp .ge 19, 3) := by decide +kernel
theorem d_MO_emitText_7 : decode prog_14_method_27_code 7 = .ok (.aload_n 0, 1) := by decide +kernel
theorem d_MO_emitText_8 : decode prog_14_method_27_code 8 = .ok (.aload_n 0, 1) := by decide +kernel
theorem d_MO_emitText_9 : decode prog_14_method_27_code 9 = .ok (.getfield 13, 3) := by decide +kernel
theorem d_MO_emitText_12 : decode prog_14_method_27_code 12 = .ok (.iload_n 3, 1) := by decide +kernel
theorem d_MO_emitText_13 : decode prog_14_method_27_code 13 = .ok (.iaload, 1) := by decide +kernel
theorem d_MO_emitText_14 : decode prog_14_method_27_code 14 = .ok (.invokevirtual 251, 3) := by decide +kernel
theorem d_MO_emitText_17 : decode prog_14_method_27_code 17 = .ok (.iinc 3 1, 3) := by decide +kernel
theorem d_MO_emitText_20 : decode prog_14_method_27_code 20 = .ok (.goto (-18), 3) := by decide +kernel
theorem d_MO_emitText_23 : decode prog_14_method_27_code 23 = .ok (.return_, 1) := by decide +kernel
theorem d_MO_emitWord_0 : decode prog_14_method_28_code 0 = .ok (.iload_n 3, 1) := by decide +kernel
theorem d_MO_emitWord_1 : decode prog_14_method_28_code 1 = .ok (.iconst 1, 1) := by decide +kernel
theorem d_MO_emitWord_2 : decode prog_14_method_28_code 2 = .ok (.isub, 1) := by decide +kernel
theorem d_MO_emitWord_3 : decode prog_14_method_28_code 3 = .ok (.istore 4, 2) := by decide +kernel
theorem d_MO_emitWord_5 : decode prog_14_method_28_code 5 = .ok (.iload 4, 2) := by decide +kernel
theorem d_MO_emitWord_7 : decode prog_14_method_28_code 7 = .ok (.ifCond .lt 25, 3) := by decide +kernel
theorem d_MO_emitWord_10 : decode prog_14_method_28_code 10 = .ok (.aload_n 0, 1) := by decide +kernel
theorem d_MO_emitWord_11 : decode prog_14_method_28_code 11 = .ok (.lload_n 1, 1) := by decide +kernel
theorem d_MO_emitWord_12 : decode prog_14_method_28_code 12 = .ok (.bipush 8, 2) := by decide +kernel
theorem d_MO_emitWord_14 : decode prog_14_method_28_code 14 = .ok (.iload 4, 2) := by decide +kernel
theorem d_MO_emitWord_16 : decode prog_14_method_28_code 16 = .ok (.imul, 1) := by decide +kernel
theorem d_MO_emitWord_17 : decode prog_14_method_28_code 17 = .ok (.lshr, 1) := by decide +kernel
theorem d_MO_emitWord_18 : decode prog_14_method_28_code 18 = .ok (.ldc2_w 120, 3) := by decide +kernel
theorem d_MO_emitWord_21 : decode prog_14_method_28_code 21 = .ok (.land, 1) := by decide +kernel
theorem d_MO_emitWord_22 : decode prog_14_method_28_code 22 = .ok (.l2i, 1) := by decide +kernel
theorem d_MO_emitWord_23 : decode prog_14_method_28_code 23 = .ok (.invokevirtual 251, 3) := by decide +kernel
theorem d_MO_emitWord_26 : decode prog_14_method_28_code 26 = .ok (.iinc 4 (-1), 3) := by decide +kernel
theorem d_MO_emitWord_29 : decode prog_14_method_28_code 29 = .ok (.goto (-24), 3) := by decide +kernel
theorem d_MO_emitWord_32 : decode prog_14_method_28_code 32 = .ok (.return_, 1) := by decide +kernel
theorem d_MO_emitNumber_0 : decode prog_14_method_29_code 0 = .ok (.iconst 1, 1) := by decide +kernel
theorem d_MO_emitNumber_1 : decode prog_14_method_29_code 1 = .ok (.istore_n 2, 1) := by decide +kernel
theorem d_MO_emitNumber_2 : decode prog_14_method_29_code 2 = .ok (.iload_n 2, 1) := by decide +kernel
theorem d_MO_emitNumber_3 : decode prog_14_method_29_code 3 = .ok (.bipush 10, 2) := by decide +kernel
theorem d_MO_emitNumber_5 : decode prog_14_method_29_code 5 = .ok (.imul, 1) := by decide +kernel
theorem d_MO_emitNumber_6 : decode prog_14_method_29_code 6 = .ok (.iload_n 1, 1) := by decide +kernel
theorem d_MO_emitNumber_7 : decode prog_14_method_29_code 7 = .ok (.if_icmp .gt 11, 3) := by decide +kernel
theorem d_MO_emitNumber_10 : decode prog_14_method_29_code 10 = .ok (.iload_n 2, 1) := by decide +kernel
theorem d_MO_emitNumber_11 : decode prog_14_method_29_code 11 = .ok (.bipush 10, 2) := by decide +kernel
theorem d_MO_emitNumber_13 : decode prog_14_method_29_code 13 = .ok (.imul, 1) := by decide +kernel
theorem d_MO_emitNumber_14 : decode prog_14_method_29_code 14 = .ok (.istore_n 2, 1) := by decide +kernel
theorem d_MO_emitNumber_15 : decode prog_14_method_29_code 15 = .ok (.goto (-13), 3) := by decide +kernel
theorem d_MO_emitNumber_18 : decode prog_14_method_29_code 18 = .ok (.iload_n 2, 1) := by decide +kernel
theorem d_MO_emitNumber_19 : decode prog_14_method_29_code 19 = .ok (.ifCond .le 24, 3) := by decide +kernel
theorem d_MO_emitNumber_22 : decode prog_14_method_29_code 22 = .ok (.aload_n 0, 1) := by decide +kernel
theorem d_MO_emitNumber_23 : decode prog_14_method_29_code 23 = .ok (.bipush 48, 2) := by decide +kernel
theorem d_MO_emitNumber_25 : decode prog_14_method_29_code 25 = .ok (.iload_n 1, 1) := by decide +kernel
theorem d_MO_emitNumber_26 : decode prog_14_method_29_code 26 = .ok (.iload_n 2, 1) := by decide +kernel
theorem d_MO_emitNumber_27 : decode prog_14_method_29_code 27 = .ok (.idiv, 1) := by decide +kernel
theorem d_MO_emitNumber_28 : decode prog_14_method_29_code 28 = .ok (.bipush 10, 2) := by decide +kernel
theorem d_MO_emitNumber_30 : decode prog_14_method_29_code 30 = .ok (.irem, 1) := by decide +kernel
theorem d_MO_emitNumber_31 : decode prog_14_method_29_code 31 = .ok (.iadd, 1) := by decide +kernel
theorem d_MO_emitNumber_32 : decode prog_14_method_29_code 32 = .ok (.invokevirtual 251, 3) := by decide +kernel
theorem d_MO_emitNumber_35 : decode prog_14_method_29_code 35 = .ok (.iload_n 2, 1) := by decide +kernel
theorem d_MO_emitNumber_36 : decode prog_14_method_29_code 36 = .ok (.bipush 10, 2) := by decide +kernel
theorem d_MO_emitNumber_38 : decode prog_14_method_29_code 38 = .ok (.idiv, 1) := by decide +kernel
theorem d_MO_emitNumber_39 : decode prog_14_method_29_code 39 = .ok (.istore_n 2, 1) := by decide +kernel
theorem d_MO_emitNumber_40 : decode prog_14_method_29_code 40 = .ok (.goto (-22), 3) := by decide +kernel
theorem d_MO_emitNumber_43 : decode prog_14_method_29_code 43 = .ok (.return_, 1) := by decide +kernel
theorem d_MO_emitFile_0 : decode prog_14_method_30_code 0 = .ok (.iload_n 1, 1) := by decide +kernel
theorem d_MO_emitFile_1 : decode prog_14_method_30_code 1 = .ok (.istore_n 3, 1) := by decide +kernel
theorem d_MO_emitFile_2 : decode prog_14_method_30_code 2 = .ok (.iload_n 1, 1) := by decide +kernel
theorem d_MO_emitFile_3 : decode prog_14_method_30_code 3 = .ok (.istore 4, 2) := by decide +kernel
theorem d_MO_emitFile_5 : decode prog_14_method_30_code 5 = .ok (.iload 4, 2) := by decide +kernel
theorem d_MO_emitFile_7 : decode prog_14_method_30_code 7 = .ok (.iload_n 2, 1) := by decide +kernel
theorem d_MO_emitFile_8 : decode prog_14_method_30_code 8 = .ok (.if_icmp .ge 30, 3) := by decide +kernel
theorem d_MO_emitFile_11 : decode prog_14_method_30_code 11 = .ok (.aload_n 0, 1) := by decide +kernel
theorem d_MO_emitFile_12 : decode prog_14_method_30_code 12 = .ok (.getfield 13, 3) := by decide +kernel
theorem d_MO_emitFile_15 : decode prog_14_method_30_code 15 = .ok (.iload 4, 2) := by decide +kernel
theorem d_MO_emitFile_17 : decode prog_14_method_30_code 17 = .ok (.iaload, 1) := by decide +kernel
theorem d_MO_emitFile_18 : decode prog_14_method_30_code 18 = .ok (.bipush 46, 2) := by decide +kernel
theorem d_MO_emitFile_20 : decode prog_14_method_30_code 20 = .ok (.if_icmp .ne 10, 3) := by decide +kernel
theorem d_MO_emitFile_23 : decode prog_14_method_30_code 23 = .ok (.iload 4, 2) := by decide +kernel
theorem d_MO_emitFile_25 : decode prog_14_method_30_code 25 = .ok (.iconst 1, 1) := by decide +kernel
theorem d_MO_emitFile_26 : decode prog_14_method_30_code 26 = .ok (.iadd, 1) := by decide +kernel
theorem d_MO_emitFile_27 : decode prog_14_method_30_code 27 = .ok (.goto 4, 3) := by decide +kernel
theorem d_MO_emitFile_30 : decode prog_14_method_30_code 30 = .ok (.iload_n 3, 1) := by decide +kernel
theorem d_MO_emitFile_31 : decode prog_14_method_30_code 31 = .ok (.istore_n 3, 1) := by decide +kernel
theorem d_MO_emitFile_32 : decode prog_14_method_30_code 32 = .ok (.iinc 4 1, 3) := by decide +kernel
theorem d_MO_emitFile_35 : decode prog_14_method_30_code 35 = .ok (.goto (-30), 3) := by decide +kernel
theorem d_MO_emitFile_38 : decode prog_14_method_30_code 38 = .ok (.iload_n 3, 1) := by decide +kernel
theorem d_MO_emitFile_39 : decode prog_14_method_30_code 39 = .ok (.iconst 1, 1) := by decide +kernel
theorem d_MO_emitFile_40 : decode prog_14_method_30_code 40 = .ok (.iadd, 1) := by decide +kernel
theorem d_MO_emitFile_41 : decode prog_14_method_30_code 41 = .ok (.istore 4, 2) := by decide +kernel
theorem d_MO_emitFile_43 : decode prog_14_method_30_code 43 = .ok (.iload 4, 2) := by decide +kernel
theorem d_MO_emitFile_45 : decode prog_14_method_30_code 45 = .ok (.iload_n 2, 1) := by decide +kernel
theorem d_MO_emitFile_46 : decode prog_14_method_30_code 46 = .ok (.if_icmp .ge 21, 3) := by decide +kernel
theorem d_MO_emitFile_49 : decode prog_14_method_30_code 49 = .ok (.aload_n 0, 1) := by decide +kernel
theorem d_MO_emitFile_50 : decode prog_14_method_30_code 50 = .ok (.getfield 13, 3) := by decide +kernel
theorem d_MO_emitFile_53 : decode prog_14_method_30_code 53 = .ok (.iload 4, 2) := by decide +kernel
theorem d_MO_emitFile_55 : decode prog_14_method_30_code 55 = .ok (.iaload, 1) := by decide +kernel
theorem d_MO_emitFile_56 : decode prog_14_method_30_code 56 = .ok (.bipush 36, 2) := by decide +kernel
theorem d_MO_emitFile_58 : decode prog_14_method_30_code 58 = .ok (.if_icmp .eq 9, 3) := by decide +kernel
theorem d_MO_emitFile_61 : decode prog_14_method_30_code 61 = .ok (.iinc 4 1, 3) := by decide +kernel
theorem d_MO_emitFile_64 : decode prog_14_method_30_code 64 = .ok (.goto (-21), 3) := by decide +kernel
theorem d_MO_emitFile_67 : decode prog_14_method_30_code 67 = .ok (.aload_n 0, 1) := by decide +kernel
theorem d_MO_emitFile_68 : decode prog_14_method_30_code 68 = .ok (.iload_n 3, 1) := by decide +kernel
theorem d_MO_emitFile_69 : decode prog_14_method_30_code 69 = .ok (.iload 4, 2) := by decide +kernel
theorem d_MO_emitFile_71 : decode prog_14_method_30_code 71 = .ok (.invokevirtual 255, 3) := by decide +kernel
theorem d_MO_emitFile_74 : decode prog_14_method_30_code 74 = .ok (.aload_n 0, 1) := by decide +kernel
theorem d_MO_emitFile_75 : decode prog_14_method_30_code 75 = .ok (.ldc2_w 259, 3) := by decide +kernel
theorem d_MO_emitFile_78 : decode prog_14_method_30_code 78 = .ok (.iconst 5, 1) := by decide +kernel
theorem d_MO_emitFile_79 : decode prog_14_method_30_code 79 = .ok (.invokevirtual 261, 3) := by decide +kernel
theorem d_MO_emitFile_82 : decode prog_14_method_30_code 82 = .ok (.return_, 1) := by decide +kernel
theorem d_MO_emitHeader_0 : decode prog_14_method_31_code 0 = .ok (.aload_n 0, 1) := by decide +kernel
theorem d_MO_emitHeader_1 : decode prog_14_method_31_code 1 = .ok (.aload_n 0, 1) := by decide +kernel
theorem d_MO_emitHeader_2 : decode prog_14_method_31_code 2 = .ok (.getfield 70, 3) := by decide +kernel
theorem d_MO_emitHeader_5 : decode prog_14_method_31_code 5 = .ok (.iload_n 1, 1) := by decide +kernel
theorem d_MO_emitHeader_6 : decode prog_14_method_31_code 6 = .ok (.iaload, 1) := by decide +kernel
theorem d_MO_emitHeader_7 : decode prog_14_method_31_code 7 = .ok (.aload_n 0, 1) := by decide +kernel
theorem d_MO_emitHeader_8 : decode prog_14_method_31_code 8 = .ok (.getfield 76, 3) := by decide +kernel
theorem d_MO_emitHeader_11 : decode prog_14_method_31_code 11 = .ok (.iload_n 1, 1) := by decide +kernel
theorem d_MO_emitHeader_12 : decode prog_14_method_31_code 12 = .ok (.iaload, 1) := by decide +kernel
theorem d_MO_emitHeader_13 : decode prog_14_method_31_code 13 = .ok (.invokevirtual 255, 3) := by decide +kernel
theorem d_MO_emitHeader_16 : decode prog_14_method_31_code 16 = .ok (.aload_n 0, 1) := by decide +kernel
theorem d_MO_emitHeader_17 : decode prog_14_method_31_code 17 = .ok (.iload_n 2, 1) := by decide +kernel
theorem d_MO_emitHeader_18 : decode prog_14_method_31_code 18 = .ok (.iload_n 3, 1) := by decide +kernel
theorem d_MO_emitHeader_19 : decode prog_14_method_31_code 19 = .ok (.invokevirtual 255, 3) := by decide +kernel
theorem d_MO_emitHeader_22 : decode prog_14_method_31_code 22 = .ok (.aload_n 0, 1) := by decide +kernel
theorem d_MO_emitHeader_23 : decode prog_14_method_31_code 23 = .ok (.aload_n 0, 1) := by decide +kernel
theorem d_MO_emitHeader_24 : decode prog_14_method_31_code 24 = .ok (.getfield 79, 3) := by decide +kernel
theorem d_MO_emitHeader_27 : decode prog_14_method_31_code 27 = .ok (.iload_n 1, 1) := by decide +kernel
theorem d_MO_emitHeader_28 : decode prog_14_method_31_code 28 = .ok (.iaload, 1) := by decide +kernel
theorem d_MO_emitHeader_29 : decode prog_14_method_31_code 29 = .ok (.aload_n 0, 1) := by decide +kernel
theorem d_MO_emitHeader_30 : decode prog_14_method_31_code 30 = .ok (.getfield 73, 3) := by decide +kernel
theorem d_MO_emitHeader_33 : decode prog_14_method_31_code 33 = .ok (.iload_n 1, 1) := by decide +kernel
theorem d_MO_emitHeader_34 : decode prog_14_method_31_code 34 = .ok (.iaload, 1) := by decide +kernel
theorem d_MO_emitHeader_35 : decode prog_14_method_31_code 35 = .ok (.invokevirtual 255, 3) := by decide +kernel
theorem d_MO_emitHeader_38 : decode prog_14_method_31_code 38 = .ok (.aload_n 0, 1) := by decide +kernel
theorem d_MO_emitHeader_39 : decode prog_14_method_31_code 39 = .ok (.bipush 10, 2) := by decide +kernel
theorem d_MO_emitHeader_41 : decode prog_14_method_31_code 41 = .ok (.invokevirtual 251, 3) := by decide +kernel
theorem d_MO_emitHeader_44 : decode prog_14_method_31_code 44 = .ok (.return_, 1) := by decide +kernel
theorem d_MO_hasFile_0 : decode prog_14_method_32_code 0 = .ok (.aload_n 0, 1) := by decide +kernel
theorem d_MO_hasFile_1 : decode prog_14_method_32_code 1 = .ok (.getfield 88, 3) := by decide +kernel
theorem d_MO_hasFile_4 : decode prog_14_method_32_code 4 = .ok (.iload_n 1, 1) := by decide +kernel
theorem d_MO_hasFile_5 : decode prog_14_method_32_code 5 = .ok (.iaload, 1) := by decide +kernel
theorem d_MO_hasFile_6 : decode prog_14_method_32_code 6 = .ok (.aload_n 0, 1) := by decide +kernel
theorem d_MO_hasFile_7 : decode prog_14_method_32_code 7 = .ok (.getfield 85, 3) := by decide +kernel
theorem d_MO_hasFile_10 : decode prog_14_method_32_code 10 = .ok (.iload_n 1, 1) := by decide +kernel
theorem d_MO_hasFile_11 : decode prog_14_method_32_code 11 = .ok (.iaload, 1) := by decide +kernel
theorem d_MO_hasFile_12 : decode prog_14_method_32_code 12 = .ok (.if_icmp .le 7, 3) := by decide +kernel
theorem d_MO_hasFile_15 : decode prog_14_method_32_code 15 = .ok (.iconst 1, 1) := by decide +kernel
theorem d_MO_hasFile_16 : decode prog_14_method_32_code 16 = .ok (.goto 4, 3) := by decide +kernel
theorem d_MO_hasFile_19 : decode prog_14_method_32_code 19 = .ok (.iconst 0, 1) := by decide +kernel
theorem d_MO_hasFile_20 : decode prog_14_method_32_code 20 = .ok (.ireturn, 1) := by decide +kernel
theorem d_MO_emitTail_0 : decode prog_14_method_33_code 0 = .ok (.aload_n 0, 1) := by decide +kernel
theorem d_MO_emitTail_1 : decode prog_14_method_33_code 1 = .ok (.aload_n 0, 1) := by decide +kernel
theorem d_MO_emitTail_2 : decode prog_14_method_33_code 2 = .ok (.getfield 88, 3) := by decide +kernel
theorem d_MO_emitTail_5 : decode prog_14_method_33_code 5 = .ok (.iload_n 1, 1) := by decide +kernel
theorem d_MO_emitTail_6 : decode prog_14_method_33_code 6 = .ok (.iaload, 1) := by decide +kernel
theorem d_MO_emitTail_7 : decode prog_14_method_33_code 7 = .ok (.aload_n 0, 1) := by decide +kernel
theorem d_MO_emitTail_8 : decode prog_14_method_33_code 8 = .ok (.getfield 73, 3) := by decide +kernel
theorem d_MO_emitTail_11 : decode prog_14_method_33_code 11 = .ok (.iload_n 1, 1) := by decide +kernel
theorem d_MO_emitTail_12 : decode prog_14_method_33_code 12 = .ok (.iaload, 1) := by decide +kernel
theorem d_MO_emitTail_13 : decode prog_14_method_33_code 13 = .ok (.invokevirtual 255, 3) := by decide +kernel
theorem d_MO_emitTail_16 : decode prog_14_method_33_code 16 = .ok (.aload_n 0, 1) := by decide +kernel
theorem d_MO_emitTail_17 : decode prog_14_method_33_code 17 = .ok (.bipush 10, 2) := by decide +kernel
theorem d_MO_emitTail_19 : decode prog_14_method_33_code 19 = .ok (.invokevirtual 251, 3) := by decide +kernel
theorem d_MO_emitTail_22 : decode prog_14_method_33_code 22 = .ok (.return_, 1) := by decide +kernel
theorem d_MO_emitSource_0 : decode prog_14_method_34_code 0 = .ok (.aload_n 0, 1) := by decide +kernel
theorem d_MO_emitSource_1 : decode prog_14_method_34_code 1 = .ok (.ldc2_w 265, 3) := by decide +kernel
theorem d_MO_emitSource_4 : decode prog_14_method_34_code 4 = .ok (.bipush 8, 2) := by decide +kernel
theorem d_MO_emitSource_6 : decode prog_14_method_34_code 6 = .ok (.invokevirtual 261, 3) := by decide +kernel
theorem d_MO_emitSource_9 : decode prog_14_method_34_code 9 = .ok (.aload_n 0, 1) := by decide +kernel
theorem d_MO_emitSource_10 : decode prog_14_method_34_code 10 = .ok (.ldc2_w 267, 3) := by decide +kernel
theorem d_MO_emitSource_13 : decode prog_14_method_34_code 13 = .ok (.iconst 2, 1) := by decide +kernel
theorem d_MO_emitSource_14 : decode prog_14_method_34_code 14 = .ok (.invokevirtual 261, 3) := by decide +kernel
theorem d_MO_emitSource_17 : decode prog_14_method_34_code 17 = .ok (.return_, 1) := by decide +kernel
theorem d_MO_classLineOf_0 : decode prog_14_method_35_code 0 = .ok (.iconst 0, 1) := by decide +kernel
theorem d_MO_classLineOf_1 : decode prog_14_method_35_code 1 = .ok (.istore 4, 2) := by decide +kernel
theorem d_MO_classLineOf_3 : decode prog_14_method_35_code 3 = .ok (.iload 4, 2) := by decide +kernel
theorem d_MO_classLineOf_5 : decode prog_14_method_35_code 5 = .ok (.aload_n 0, 1) := by decide +kernel
theorem d_MO_classLineOf_6 : decode prog_14_method_35_code 6 = .ok (.getfield 145, 3) := by decide +kernel
theorem d_MO_classLineOf_9 : decode prog_14_method_35_code 9 = .ok (.if_icmp .ge 65, 3) := by decide +kernel
theorem d_MO_classLineOf_12 : decode prog_14_method_35_code 12 = .ok (.iload_n 3, 1) := by decide +kernel
theorem d_MO_classLineOf_13 : decode prog_14_method_35_code 13 = .ok (.ifCond .eq 29, 3) := by decide +kernel
theorem d_MO_classLineOf_16 : decode prog_14_method_35_code 16 = .ok (.aload_n 0, 1) := by decide +kernel
theorem d_MO_classLineOf_17 : decode prog_14_method_35_code 17 = .ok (.iload_n 1, 1) := by decide +kernel
theorem d_MO_classLineOf_18 : decode prog_14_method_35_code 18 = .ok (.iload_n 2, 1) := by decide +kernel
theorem d_MO_classLineOf_19 : decode prog_14_method_35_code 19 = .ok (.aload_n 0, 1) := by decide +kernel
theorem d_MO_classLineOf_20 : decode prog_14_method_35_code 20 = .ok (.getfield 19, 3) := by decide +kernel
theorem d_MO_classLineOf_23 : decode prog_14_method_35_code 23 = .ok (.iload 4, 2) := by decide +kernel
theorem d_MO_classLineOf_25 : decode prog_14_method_35_code 25 = .ok (.iaload, 1) := by decide +kernel
theorem d_MO_classLineOf_26 : decode prog_14_method_35_code 26 = .ok (.aload_n 0, 1) := by decide +kernel
theorem d_MO_classLineOf_27 : decode prog_14_method_35_code 27 = .ok (.getfield 22, 3) := by decide +kernel
theorem d_MO_classLineOf_30 : decode prog_14_method_35_code 30 = .ok (.iload 4, 2) := by decide +kernel
theorem d_MO_classLineOf_32 : decode prog_14_method_35_code 32 = .ok (.iaload, 1) := by decide +kernel
theorem d_MO_classLineOf_33 : decode prog_14_method_35_code 33 = .ok (.invokevirtual 154, 3) := by decide +kernel
theorem d_MO_classLineOf_36 : decode prog_14_method_35_code 36 = .ok (.ifCond .eq 32, 3) := by decide +kernel
theorem d_MO_classLineOf_39 : decode prog_14_method_35_code 39 = .ok (.goto 26, 3) := by decide +kernel
theorem d_MO_classLineOf_42 : decode prog_14_method_35_code 42 = .ok (.aload_n 0, 1) := by decide +kernel
theorem d_MO_classLineOf_43 : decode prog_14_method_35_code 43 = .ok (.iload_n 1, 1) := by decide +kernel
theorem d_MO_classLineOf_44 : decode prog_14_method_35_code 44 = .ok (.iload_n 2, 1) := by decide +kernel
theorem d_MO_classLineOf_45 : decode prog_14_method_35_code 45 = .ok (.aload_n 0, 1) := by decide +kernel
theorem d_MO_classLineOf_46 : decode prog_14_method_35_code 46 = .ok (.getfield 25, 3) := by decide +kernel
theorem d_MO_classLineOf_49 : decode prog_14_method_35_code 49 = .ok (.iload 4, 2) := by decide +kernel
theorem d_MO_classLineOf_51 : decode prog_14_method_35_code 51 = .ok (.iaload, 1) := by decide +kernel
theorem d_MO_classLineOf_52 : decode prog_14_method_35_code 52 = .ok (.aload_n 0, 1) := by decide +kernel
theorem d_MO_classLineOf_53 : decode prog_14_method_35_code 53 = .ok (.getfield 28, 3) := by decide +kernel
theorem d_MO_classLineOf_56 : decode prog_14_method_35_code 56 = .ok (.iload 4, 2) := by decide +kernel
theorem d_MO_classLineOf_58 : decode prog_14_method_35_code 58 = .ok (.iaload, 1) := by decide +kernel
theorem d_MO_classLineOf_59 : decode prog_14_method_35_code 59 = .ok (.invokevirtual 154, 3) := by decide +kernel
theorem d_MO_classLineOf_62 : decode prog_14_method_35_code 62 = .ok (.ifCond .eq 6, 3) := by decide +kernel
theorem d_MO_classLineOf_65 : decode prog_14_method_35_code 65 = .ok (.iload 4, 2) := by decide +kernel
theorem d_MO_classLineOf_67 : decode prog_14_method_35_code 67 = .ok (.ireturn, 1) := by decide +kernel
theorem d_MO_classLineOf_68 : decode prog_14_method_35_code 68 = .ok (.iinc 4 1, 3) := by decide +kernel
theorem d_MO_classLineOf_71 : decode prog_14_method_35_code 71 = .ok (.goto (-68), 3) := by decide +kernel
theorem d_MO_classLineOf_74 : decode prog_14_method_35_code 74 = .ok (.iconst (-1), 1) := by decide +kernel
theorem d_MO_classLineOf_75 : decode prog_14_method_35_code 75 = .ok (.ireturn, 1) := by decide +kernel
theorem d_MO_lineOf_0 : decode prog_14_method_36_code 0 = .ok (.iconst 0, 1) := by decide +kernel
theorem d_MO_lineOf_1 : decode prog_14_method_36_code 1 = .ok (.istore_n 2, 1) := by decide +kernel
theorem d_MO_lineOf_2 : decode prog_14_method_36_code 2 = .ok (.aload_n 0, 1) := by decide +kernel
theorem d_MO_lineOf_3 : decode prog_14_method_36_code 3 = .ok (.getfield 64, 3) := by decide +kernel
theorem d_MO_lineOf_6 : decode prog_14_method_36_code 6 = .ok (.iload_n 2, 1) := by decide +kernel
theorem d_MO_lineOf_7 : decode prog_14_method_36_code 7 = .ok (.iaload, 1) := by decide +kernel
theorem d_MO_lineOf_8 : decode prog_14_method_36_code 8 = .ok (.iload_n 1, 1) := by decide +kernel
theorem d_MO_lineOf_9 : decode prog_14_method_36_code 9 = .ok (.if_icmp .eq 9, 3) := by decide +kernel
theorem d_MO_lineOf_12 : decode prog_14_method_36_code 12 = .ok (.iinc 2 1, 3) := by decide +kernel
theorem d_MO_lineOf_15 : decode prog_14_method_36_code 15 = .ok (.goto (-13), 3) := by decide +kernel
theorem d_MO_lineOf_18 : decode prog_14_method_36_code 18 = .ok (.iload_n 2, 1) := by decide +kernel
theorem d_MO_lineOf_19 : decode prog_14_method_36_code 19 = .ok (.ireturn, 1) := by decide +kernel
theorem d_MO_lastOf_0 : decode prog_14_method_37_code 0 = .ok (.aload_n 0, 1) := by decide +kernel
theorem d_MO_lastOf_1 : decode prog_14_method_37_code 1 = .ok (.iload_n 1, 1) := by decide +kernel
theorem d_MO_lastOf_2 : decode prog_14_method_37_code 2 = .ok (.invokevirtual 269, 3) := by decide +kernel
theorem d_MO_lastOf_5 : decode prog_14_method_37_code 5 = .ok (.istore_n 2, 1) := by decide +kernel
theorem d_MO_lastOf_6 : decode prog_14_method_37_code 6 = .ok (.iload_n 2, 1) := by decide +kernel
theorem d_MO_lastOf_7 : decode prog_14_method_37_code 7 = .ok (.iconst 1, 1) := by decide +kernel
theorem d_MO_lastOf_8 : decode prog_14_method_37_code 8 = .ok (.iadd, 1) := by decide +kernel
theorem d_MO_lastOf_9 : decode prog_14_method_37_code 9 = .ok (.aload_n 0, 1) := by decide +kernel
theorem d_MO_lastOf_10 : decode prog_14_method_37_code 10 = .ok (.getfield 163, 3) := by decide +kernel
theorem d_MO_lastOf_13 : decode prog_14_method_37_code 13 = .ok (.if_icmp .ge 21, 3) := by decide +kernel
theorem d_MO_lastOf_16 : decode prog_14_method_37_code 16 = .ok (.aload_n 0, 1) := by decide +kernel
theorem d_MO_lastOf_17 : decode prog_14_method_37_code 17 = .ok (.getfield 64, 3) := by decide +kernel
theorem d_MO_lastOf_20 : decode prog_14_method_37_code 20 = .ok (.iload_n 2, 1) := by decide +kernel
theorem d_MO_lastOf_21 : decode prog_14_method_37_code 21 = .ok (.iconst 1, 1) := by decide +kernel
theorem d_MO_lastOf_22 : decode prog_14_method_37_code 22 = .ok (.iadd, 1) := by decide +kernel
theorem d_MO_lastOf_23 : decode prog_14_method_37_code 23 = .ok (.iaload, 1) := by decide +kernel
theorem d_MO_lastOf_24 : decode prog_14_method_37_code 24 = .ok (.iload_n 1, 1) := by decide +kernel
theorem d_MO_lastOf_25 : decode prog_14_method_37_code 25 = .ok (.if_icmp .ne 9, 3) := by decide +kernel
theorem d_MO_lastOf_28 : decode prog_14_method_37_code 28 = .ok (.iinc 2 1, 3) := by decide +kernel
theorem d_MO_lastOf_31 : decode prog_14_method_37_code 31 = .ok (.goto (-25), 3) := by decide +kernel
theorem d_MO_lastOf_34 : decode prog_14_method_37_code 34 = .ok (.iload_n 2, 1) := by decide +kernel
theorem d_MO_lastOf_35 : decode prog_14_method_37_code 35 = .ok (.ireturn, 1) := by decide +kernel
theorem d_MO_isFor_0 : decode prog_14_method_38_code 0 = .ok (.aload_n 0, 1) := by decide +kernel
theorem d_MO_isFor_1 : decode prog_14_method_38_code 1 = .ok (.iload_n 1, 1) := by decide +kernel
theorem d_MO_isFor_2 : decode prog_14_method_38_code 2 = .ok (.invokevirtual 269, 3) := by decide +kernel
theorem d_MO_isFor_5 : decode prog_14_method_38_code 5 = .ok (.istore 4, 2) := by decide +kernel
theorem d_MO_isFor_7 : decode prog_14_method_38_code 7 = .ok (.aload_n 0, 1) := by decide +kernel
theorem d_MO_isFor_8 : decode prog_14_method_38_code 8 = .ok (.getfield 61, 3) := by decide +kernel
theorem d_MO_isFor_11 : decode prog_14_method_38_code 11 = .ok (.iload 4, 2) := by decide +kernel
theorem d_MO_isFor_13 : decode prog_14_method_38_code 13 = .ok (.iaload, 1) := by decide +kernel
theorem d_MO_isFor_14 : decode prog_14_method_38_code 14 = .ok (.iload_n 2, 1) := by decide +kernel
theorem d_MO_isFor_15 : decode prog_14_method_38_code 15 = .ok (.if_icmp .ne 40, 3) := by decide +kernel
theorem d_MO_isFor_18 : decode prog_14_method_38_code 18 = .ok (.aload_n 0, 1) := by decide +kernel
theorem d_MO_isFor_19 : decode prog_14_method_38_code 19 = .ok (.aload_n 0, 1) := by decide +kernel
theorem d_MO_isFor_20 : decode prog_14_method_38_code 20 = .ok (.getfield 43, 3) := by decide +kernel
theorem d_MO_isFor_23 : decode prog_14_method_38_code 23 = .ok (.iload 4, 2) := by decide +kernel
theorem d_MO_isFor_25 : decode prog_14_method_38_code 25 = .ok (.iaload, 1) := by decide +kernel
theorem d_MO_isFor_26 : decode prog_14_method_38_code 26 = .ok (.aload_n 0, 1) := by decide +kernel
theorem d_MO_isFor_27 : decode prog_14_method_38_code 27 = .ok (.getfield 46, 3) := by decide +kernel
theorem d_MO_isFor_30 : decode prog_14_method_38_code 30 = .ok (.iload 4, 2) := by decide +kernel
theorem d_MO_isFor_32 : decode prog_14_method_38_code 32 = .ok (.iaload, 1) := by decide +kernel
theorem d_MO_isFor_33 : decode prog_14_method_38_code 33 = .ok (.aload_n 0, 1) := by decide +kernel
theorem d_MO_isFor_34 : decode prog_14_method_38_code 34 = .ok (.getfield 82, 3) := by decide +kernel
theorem d_MO_isFor_37 : decode prog_14_method_38_code 37 = .ok (.iload_n 3, 1) := by decide +kernel
theorem d_MO_isFor_38 : decode prog_14_method_38_code 38 = .ok (.iaload, 1) := by decide +kernel
theorem d_MO_isFor_39 : decode prog_14_method_38_code 39 = .ok (.aload_n 0, 1) := by decide +kernel
theorem d_MO_isFor_40 : decode prog_14_method_38_code 40 = .ok (.getfield 79, 3) := by decide +kernel
theorem d_MO_isFor_43 : decode prog_14_method_38_code 43 = .ok (.iload_n 3, 1) := by decide +kernel
theorem d_MO_isFor_44 : decode prog_14_method_38_code 44 = .ok (.iaload, 1) := by decide +kernel
theorem d_MO_isFor_45 : decode prog_14_method_38_code 45 = .ok (.invokevirtual 154, 3) := by decide +kernel
theorem d_MO_isFor_48 : decode prog_14_method_38_code 48 = .ok (.ifCond .eq 7, 3) := by decide +kernel
theorem d_MO_isFor_51 : decode prog_14_method_38_code 51 = .ok (.iconst 1, 1) := by decide +kernel
theorem d_MO_isFor_52 : decode prog_14_method_38_code 52 = .ok (.goto 4, 3) := by decide +kernel
theorem d_MO_isFor_55 : decode prog_14_method_38_code 55 = .ok (.iconst 0, 1) := by decide +kernel
theorem d_MO_isFor_56 : decode prog_14_method_38_code 56 = .ok (.ireturn, 1) := by decide +kernel
theorem d_MO_emitCall_0 : decode prog_14_method_39_code 0 = .ok (.aload_n 0, 1) := by decide +kernel
theorem d_MO_emitCall_1 : decode prog_14_method_39_code 1 = .ok (.ldc2_w 223, 3) := by decide +kernel
theorem d_MO_emitCall_4 : decode prog_14_method_39_code 4 = .ok (.iconst 4, 1) := by decide +kernel
theorem d_MO_emitCall_5 : decode prog_14_method_39_code 5 = .ok (.invokevirtual 261, 3) := by decide +kernel
theorem d_MO_emitCall_8 : decode prog_14_method_39_code 8 = .ok (.aload_n 0, 1) := by decide +kernel
theorem d_MO_emitCall_9 : decode prog_14_method_39_code 9 = .ok (.aload_n 0, 1) := by decide +kernel
theorem d_MO_emitCall_10 : decode prog_14_method_39_code 10 = .ok (.getfield 31, 3) := by decide +kernel
theorem d_MO_emitCall_13 : decode prog_14_method_39_code 13 = .ok (.iload_n 1, 1) := by decide +kernel
theorem d_MO_emitCall_14 : decode prog_14_method_39_code 14 = .ok (.iaload, 1) := by decide +kernel
theorem d_MO_emitCall_15 : decode prog_14_method_39_code 15 = .ok (.aload_n 0, 1) := by decide +kernel
theorem d_MO_emitCall_16 : decode prog_14_method_39_code 16 = .ok (.getfield 34, 3) := by decide +kernel
theorem d_MO_emitCall_19 : decode prog_14_method_39_code 19 = .ok (.iload_n 1, 1) := by decide +kernel
theorem d_MO_emitCall_20 : decode prog_14_method_39_code 20 = .ok (.iaload, 1) := by decide +kernel
theorem d_MO_emitCall_21 : decode prog_14_method_39_code 21 = .ok (.invokevirtual 255, 3) := by decide +kernel
theorem d_MO_emitCall_24 : decode prog_14_method_39_code 24 = .ok (.aload_n 0, 1) := by decide +kernel
theorem d_MO_emitCall_25 : decode prog_14_method_39_code 25 = .ok (.bipush 46, 2) := by decide +kernel
theorem d_MO_emitCall_27 : decode prog_14_method_39_code 27 = .ok (.invokevirtual 251, 3) := by decide +kernel
theorem d_MO_emitCall_30 : decode prog_14_method_39_code 30 = .ok (.aload_n 0, 1) := by decide +kernel
theorem d_MO_emitCall_31 : decode prog_14_method_39_code 31 = .ok (.aload_n 0, 1) := by decide +kernel
theorem d_MO_emitCall_32 : decode prog_14_method_39_code 32 = .ok (.getfield 37, 3) := by decide +kernel
theorem d_MO_emitCall_35 : decode prog_14_method_39_code 35 = .ok (.iload_n 1, 1) := by decide +kernel
theorem d_MO_emitCall_36 : decode prog_14_method_39_code 36 = .ok (.iaload, 1) := by decide +kernel
theorem d_MO_emitCall_37 : decode prog_14_method_39_code 37 = .ok (.aload_n 0, 1) := by decide +kernel
theorem d_MO_emitCall_38 : decode prog_14_method_39_code 38 = .ok (.getfield 40, 3) := by decide +kernel
theorem d_MO_emitCall_41 : decode prog_14_method_39_code 41 = .ok (.iload_n 1, 1) := by decide +kernel
theorem d_MO_emitCall_42 : decode prog_14_method_39_code 42 = .ok (.iaload, 1) := by decide +kernel
theorem d_MO_emitCall_43 : decode prog_14_method_39_code 43 = .ok (.invokevirtual 255, 3) := by decide +kernel
theorem d_MO_emitCall_46 : decode prog_14_method_39_code 46 = .ok (.aload_n 0, 1) := by decide +kernel
theorem d_MO_emitCall_47 : decode prog_14_method_39_code 47 = .ok (.bipush 40, 2) := by decide +kernel
theorem d_MO_emitCall_49 : decode prog_14_method_39_code 49 = .ok (.invokevirtual 251, 3) := by decide +kernel
theorem d_MO_emitCall_52 : decode prog_14_method_39_code 52 = .ok (.return_, 1) := by decide +kernel
theorem d_MO_inlined_0 : decode prog_14_method_40_code 0 = .ok (.aload_n 0, 1) := by decide +kernel
theorem d_MO_inlined_1 : decode prog_14_method_40_code 1 = .ok (.iload_n 1, 1) := by decide +kernel
theorem d_MO_inlined_2 : decode prog_14_method_40_code 2 = .ok (.invokevirtual 269, 3) := by decide +kernel
theorem d_MO_inlined_5 : decode prog_14_method_40_code 5 = .ok (.istore_n 3, 1) := by decide +kernel
theorem d_MO_inlined_6 : decode prog_14_method_40_code 6 = .ok (.iload_n 3, 1) := by decide +kernel
theorem d_MO_inlined_7 : decode prog_14_method_40_code 7 = .ok (.aload_n 0, 1) := by decide +kernel
theorem d_MO_inlined_8 : decode prog_14_method_40_code 8 = .ok (.iload_n 1, 1) := by decide +kernel
theorem d_MO_inlined_9 : decode prog_14_method_40_code 9 = .ok (.invokevirtual 272, 3) := by decide +kernel
theorem d_MO_inlined_12 : decode prog_14_method_40_code 12 = .ok (.if_icmp .gt 91, 3) := by decide +kernel
theorem d_MO_inlined_15 : decode prog_14_method_40_code 15 = .ok (.aload_n 0, 1) := by decide +kernel
theorem d_MO_inlined_16 : decode prog_14_method_40_code 16 = .ok (.iload_n 3, 1) := by decide +kernel
theorem d_MO_inlined_17 : decode prog_14_method_40_code 17 = .ok (.invokevirtual 275, 3) := by decide +kernel
theorem d_MO_inlined_20 : decode prog_14_method_40_code 20 = .ok (.aload_n 0, 1) := by decide +kernel
theorem d_MO_inlined_21 : decode prog_14_method_40_code 21 = .ok (.aload_n 0, 1) := by decide +kernel
theorem d_MO_inlined_22 : decode prog_14_method_40_code 22 = .ok (.getfield 31, 3) := by decide +kernel
theorem d_MO_inlined_25 : decode prog_14_method_40_code 25 = .ok (.iload_n 3, 1) := by decide +kernel
theorem d_MO_inlined_26 : decode prog_14_method_40_code 26 = .ok (.iaload, 1) := by decide +kernel
theorem d_MO_inlined_27 : decode prog_14_method_40_code 27 = .ok (.aload_n 0, 1) := by decide +kernel
theorem d_MO_inlined_28 : decode prog_14_method_40_code 28 = .ok (.getfield 34, 3) := by decide +kernel
theorem d_MO_inlined_31 : decode prog_14_method_40_code 31 = .ok (.iload_n 3, 1) := by decide +kernel
theorem d_MO_inlined_32 : decode prog_14_method_40_code 32 = .ok (.iaload, 1) := by decide +kernel
theorem d_MO_inlined_33 : decode prog_14_method_40_code 33 = .ok (.invokevirtual 278, 3) := by decide +kernel
theorem d_MO_inlined_36 : decode prog_14_method_40_code 36 = .ok (.aload_n 0, 1) := by decide +kernel
theorem d_MO_inlined_37 : decode prog_14_method_40_code 37 = .ok (.bipush 58, 2) := by decide +kernel
theorem d_MO_inlined_39 : decode prog_14_method_40_code 39 = .ok (.invokevirtual 251, 3) := by decide +kernel
theorem d_MO_inlined_42 : decode prog_14_method_40_code 42 = .ok (.aload_n 0, 1) := by decide +kernel
theorem d_MO_inlined_43 : decode prog_14_method_40_code 43 = .ok (.aload_n 0, 1) := by decide +kernel
theorem d_MO_inlined_44 : decode prog_14_method_40_code 44 = .ok (.getfield 58, 3) := by decide +kernel
theorem d_MO_inlined_47 : decode prog_14_method_40_code 47 = .ok (.iload_n 3, 1) := by decide +kernel
theorem d_MO_inlined_48 : decode prog_14_method_40_code 48 = .ok (.iaload, 1) := by decide +kernel
theorem d_MO_inlined_49 : decode prog_14_method_40_code 49 = .ok (.aload_n 0, 1) := by decide +kernel
theorem d_MO_inlined_50 : decode prog_14_method_40_code 50 = .ok (.getfield 55, 3) := by decide +kernel
theorem d_MO_inlined_53 : decode prog_14_method_40_code 53 = .ok (.iload_n 3, 1) := by decide +kernel
theorem d_MO_inlined_54 : decode prog_14_method_40_code 54 = .ok (.iaload, 1) := by decide +kernel
theorem d_MO_inlined_55 : decode prog_14_method_40_code 55 = .ok (.if_icmp .ne 12, 3) := by decide +kernel
theorem d_MO_inlined_58 : decode prog_14_method_40_code 58 = .ok (.aload_n 0, 1) := by decide +kernel
theorem d_MO_inlined_59 : decode prog_14_method_40_code 59 = .ok (.getfield 55, 3) := by decide +kernel
theorem d_MO_inlined_62 : decode prog_14_method_40_code 62 = .ok (.iload_n 3, 1) := by decide +kernel
theorem d_MO_inlined_63 : decode prog_14_method_40_code 63 = .ok (.iaload, 1) := by decide +kernel
theorem d_MO_inlined_64 : decode prog_14_method_40_code 64 = .ok (.goto 18, 3) := by decide +kernel
theorem d_MO_inlined_67 : decode prog_14_method_40_code 67 = .ok (.aload_n 0, 1) := by decide +kernel
theorem d_MO_inlined_68 : decode prog_14_method_40_code 68 = .ok (.getfield 55, 3) := by decide +kernel
theorem d_MO_inlined_71 : decode prog_14_method_40_code 71 = .ok (.iload_n 3, 1) := by decide +kernel
theorem d_MO_inlined_72 : decode prog_14_method_40_code 72 = .ok (.iaload, 1) := by decide +kernel
theorem d_MO_inlined_73 : decode prog_14_method_40_code 73 = .ok (.iload_n 2, 1) := by decide +kernel
theorem d_MO_inlined_74 : decode prog_14_method_40_code 74 = .ok (.iadd, 1) := by decide +kernel
theorem d_MO_inlined_75 : decode prog_14_method_40_code 75 = .ok (.aload_n 0, 1) := by decide +kernel
theorem d_MO_inlined_76 : decode prog_14_method_40_code 76 = .ok (.getfield 49, 3) := by decide +kernel
theorem d_MO_inlined_79 : decode prog_14_method_40_code 79 = .ok (.iload_n 3, 1) := by decide +kernel
theorem d_MO_inlined_80 : decode prog_14_method_40_code 80 = .ok (.iaload, 1) := by decide +kernel
theorem d_MO_inlined_81 : decode prog_14_method_40_code 81 = .ok (.isub, 1) := by decide +kernel
theorem d_MO_inlined_82 : decode prog_14_method_40_code 82 = .ok (.invokevirtual 281, 3) := by decide +kernel
theorem d_MO_inlined_85 : decode prog_14_method_40_code 85 = .ok (.aload_n 0, 1) := by decide +kernel
theorem d_MO_inlined_86 : decode prog_14_method_40_code 86 = .ok (.bipush 41, 2) := by decide +kernel
theorem d_MO_inlined_88 : decode prog_14_method_40_code 88 = .ok (.invokevirtual 251, 3) := by decide +kernel
theorem d_MO_inlined_91 : decode prog_14_method_40_code 91 = .ok (.aload_n 0, 1) := by decide +kernel
theorem d_MO_inlined_92 : decode prog_14_method_40_code 92 = .ok (.bipush 10, 2) := by decide +kernel
theorem d_MO_inlined_94 : decode prog_14_method_40_code 94 = .ok (.invokevirtual 251, 3) := by decide +kernel
theorem d_MO_inlined_97 : decode prog_14_method_40_code 97 = .ok (.iinc 3 1, 3) := by decide +kernel
theorem d_MO_inlined_100 : decode prog_14_method_40_code 100 = .ok (.goto (-94), 3) := by decide +kernel
theorem d_MO_inlined_103 : decode prog_14_method_40_code 103 = .ok (.return_, 1) := by decide +kernel
theorem d_MO_differ_0 : decode prog_14_method_41_code 0 = .ok (.aload_n 0, 1) := by decide +kernel
theorem d_MO_differ_1 : decode prog_14_method_41_code 1 = .ok (.iload_n 1, 1) := by decide +kernel
theorem d_MO_differ_2 : decode prog_14_method_41_code 2 = .ok (.invokevirtual 272, 3) := by decide +kernel
theorem d_MO_differ_5 : decode prog_14_method_41_code 5 = .ok (.istore_n 3, 1) := by decide +kernel
theorem d_MO_differ_6 : decode prog_14_method_41_code 6 = .ok (.aload_n 0, 1) := by decide +kernel
theorem d_MO_differ_7 : decode prog_14_method_41_code 7 = .ok (.iload_n 2, 1) := by decide +kernel
theorem d_MO_differ_8 : decode prog_14_method_41_code 8 = .ok (.invokevirtual 272, 3) := by decide +kernel
theorem d_MO_differ_11 : decode prog_14_method_41_code 11 = .ok (.istore 4, 2) := by decide +kernel
theorem d_MO_differ_13 : decode prog_14_method_41_code 13 = .ok (.aload_n 0, 1) := by decide +kernel
theorem d_MO_differ_14 : decode prog_14_method_41_code 14 = .ok (.aload_n 0, 1) := by decide +kernel
theorem d_MO_differ_15 : decode prog_14_method_41_code 15 = .ok (.getfield 31, 3) := by decide +kernel
theorem d_MO_differ_18 : decode prog_14_method_41_code 18 = .ok (.iload_n 3, 1) := by decide +kernel
theorem d_MO_differ_19 : decode prog_14_method_41_code 19 = .ok (.iaload, 1) := by decide +kernel
theorem d_MO_differ_20 : decode prog_14_method_41_code 20 = .ok (.aload_n 0, 1) := by decide +kernel
theorem d_MO_differ_21 : decode prog_14_method_41_code 21 = .ok (.getfield 34, 3) := by decide +kernel
theorem d_MO_differ_24 : decode prog_14_method_41_code 24 = .ok (.iload_n 3, 1) := by decide +kernel
theorem d_MO_differ_25 : decode prog_14_method_41_code 25 = .ok (.iaload, 1) := by decide +kernel
theorem d_MO_differ_26 : decode prog_14_method_41_code 26 = .ok (.aload_n 0, 1) := by decide +kernel
theorem d_MO_differ_27 : decode prog_14_method_41_code 27 = .ok (.getfield 31, 3) := by decide +kernel
theorem d_MO_differ_30 : decode prog_14_method_41_code 30 = .ok (.iload 4, 2) := by decide +kernel
theorem d_MO_differ_32 : decode prog_14_method_41_code 32 = .ok (.iaload, 1) := by decide +kernel
theorem d_MO_differ_33 : decode prog_14_method_41_code 33 = .ok (.aload_n 0, 1) := by decide +kernel
theorem d_MO_differ_34 : decode prog_14_method_41_code 34 = .ok (.getfield 34, 3) := by decide +kernel
theorem d_MO_differ_37 : decode prog_14_method_41_code 37 = .ok (.iload 4, 2) := by decide +kernel
theorem d_MO_differ_39 : decode prog_14_method_41_code 39 = .ok (.iaload, 1) := by decide +kernel
theorem d_MO_differ_40 : decode prog_14_method_41_code 40 = .ok (.invokevirtual 154, 3) := by decide +kernel
theorem d_MO_differ_43 : decode prog_14_method_41_code 43 = .ok (.ifCond .eq 36, 3) := by decide +kernel
theorem d_MO_differ_46 : decode prog_14_method_41_code 46 = .ok (.aload_n 0, 1) := by decide +kernel
theorem d_MO_differ_47 : decode prog_14_method_41_code 47 = .ok (.aload_n 0, 1) := by decide +kernel
theorem d_MO_differ_48 : decode prog_14_method_41_code 48 = .ok (.getfield 37, 3) := by decide +kernel
theorem d_MO_differ_51 : decode prog_14_method_41_code 51 = .ok (.iload_n 3, 1) := by decide +kernel
theorem d_MO_differ_52 : decode prog_14_method_41_code 52 = .ok (.iaload, 1) := by decide +kernel
theorem d_MO_differ_53 : decode prog_14_method_41_code 53 = .ok (.aload_n 0, 1) := by decide +kernel
theorem d_MO_differ_54 : decode prog_14_method_41_code 54 = .ok (.getfield 40, 3) := by decide +kernel
theorem d_MO_differ_57 : decode prog_14_method_41_code 57 = .ok (.iload_n 3, 1) := by decide +kernel
theorem d_MO_differ_58 : decode prog_14_method_41_code 58 = .ok (.iaload, 1) := by decide +kernel
theorem d_MO_differ_59 : decode prog_14_method_41_code 59 = .ok (.aload_n 0, 1) := by decide +kernel
theorem d_MO_differ_60 : decode prog_14_method_41_code 60 = .ok (.getfield 37, 3) := by decide +kernel
theorem d_MO_differ_63 : decode prog_14_method_41_code 63 = .ok (.iload 4, 2) := by decide +kernel
theorem d_MO_differ_65 : decode prog_14_method_41_code 65 = .ok (.iaload, 1) := by decide +kernel
theorem d_MO_differ_66 : decode prog_14_method_41_code 66 = .ok (.aload_n 0, 1) := by decide +kernel
theorem d_MO_differ_67 : decode prog_14_method_41_code 67 = .ok (.getfield 40, 3) := by decide +kernel
theorem d_MO_differ_70 : decode prog_14_method_41_code 70 = .ok (.iload 4, 2) := by decide +kernel
theorem d_MO_differ_72 : decode prog_14_method_41_code 72 = .ok (.iaload, 1) := by decide +kernel
theorem d_MO_differ_73 : decode prog_14_method_41_code 73 = .ok (.invokevirtual 154, 3) := by decide +kernel
theorem d_MO_differ_76 : decode prog_14_method_41_code 76 = .ok (.ifCond .ne 7, 3) := by decide +kernel
theorem d_MO_differ_79 : decode prog_14_method_41_code 79 = .ok (.iconst 1, 1) := by decide +kernel
theorem d_MO_differ_80 : decode prog_14_method_41_code 80 = .ok (.goto 4, 3) := by decide +kernel
theorem d_MO_differ_83 : decode prog_14_method_41_code 83 = .ok (.iconst 0, 1) := by decide +kernel
theorem d_MO_differ_84 : decode prog_14_method_41_code 84 = .ok (.ireturn, 1) := by decide +kernel
theorem d_MO_retraceFrame_0 : decode prog_14_method_42_code 0 = .ok (.aload_n 0, 1) := by decide +kernel
theorem d_MO_retraceFrame_1 : decode prog_14_method_42_code 1 = .ok (.aload_n 0, 1) := by decide +kernel
theorem d_MO_retraceFrame_2 : decode prog_14_method_42_code 2 = .ok (.getfield 76, 3) := by decide +kernel
theorem d_MO_retraceFrame_5 : decode prog_14_method_42_code 5 = .ok (.iload_n 1, 1) := by decide +kernel
theorem d_MO_retraceFrame_6 : decode prog_14_method_42_code 6 = .ok (.iaload, 1) := by decide +kernel
theorem d_MO_retraceFrame_7 : decode prog_14_method_42_code 7 = .ok (.aload_n 0, 1) := by decide +kernel
theorem d_MO_retraceFrame_8 : decode prog_14_method_42_code 8 = .ok (.getfield 82, 3) := by decide +kernel
theorem d_MO_retraceFrame_11 : decode prog_14_method_42_code 11 = .ok (.iload_n 1, 1) := by decide +kernel
theorem d_MO_retraceFrame_12 : decode prog_14_method_42_code 12 = .ok (.iaload, 1) := by decide +kernel
theorem d_MO_retraceFrame_13 : decode prog_14_method_42_code 13 = .ok (.iconst 1, 1) := by decide +kernel
theorem d_MO_retraceFrame_14 : decode prog_14_method_42_code 14 = .ok (.isub, 1) := by decide +kernel
theorem d_MO_retraceFrame_15 : decode prog_14_method_42_code 15 = .ok (.iconst 0, 1) := by decide +kernel
theorem d_MO_retraceFrame_16 : decode prog_14_method_42_code 16 = .ok (.invokevirtual 284, 3) := by decide +kernel
theorem d_MO_retraceFrame_19 : decode prog_14_method_42_code 19 = .ok (.istore_n 2, 1) := by decide +kernel
theorem d_MO_retraceFrame_20 : decode prog_14_method_42_code 20 = .ok (.iload_n 2, 1) := by decide +kernel
theorem d_MO_retraceFrame_21 : decode prog_14_method_42_code 21 = .ok (.ifCond .ge 26, 3) := by decide +kernel
theorem d_MO_retraceFrame_24 : decode prog_14_method_42_code 24 = .ok (.aload_n 0, 1) := by decide +kernel
theorem d_MO_retraceFrame_25 : decode prog_14_method_42_code 25 = .ok (.aload_n 0, 1) := by decide +kernel
theorem d_MO_retraceFrame_26 : decode prog_14_method_42_code 26 = .ok (.getfield 70, 3) := by decide +kernel
theorem d_MO_retraceFrame_29 : decode prog_14_method_42_code 29 = .ok (.iload_n 1, 1) := by decide +kernel
theorem d_MO_retraceFrame_30 : decode prog_14_method_42_code 30 = .ok (.iaload, 1) := by decide +kernel
theorem d_MO_retraceFrame_31 : decode prog_14_method_42_code 31 = .ok (.aload_n 0, 1) := by decide +kernel
theorem d_MO_retraceFrame_32 : decode prog_14_method_42_code 32 = .ok (.getfield 73, 3) := by decide +kernel
theorem d_MO_retraceFrame_35 : decode prog_14_method_42_code 35 = .ok (.iload_n 1, 1) := by decide +kernel
theorem d_MO_retraceFrame_36 : decode prog_14_method_42_code 36 = .ok (.iaload, 1) := by decide +kernel
theorem d_MO_retraceFrame_37 : decode prog_14_method_42_code 37 = .ok (.invokevirtual 255, 3) := by decide +kernel
theorem d_MO_retraceFrame_40 : decode prog_14_method_42_code 40 = .ok (.aload_n 0, 1) := by decide +kernel
theorem d_MO_retraceFrame_41 : decode prog_14_method_42_code 41 = .ok (.bipush 10, 2) := by decide +kernel
theorem d_MO_retraceFrame_43 : decode prog_14_method_42_code 43 = .ok (.invokevirtual 251, 3) := by decide +kernel
theorem d_MO_retraceFrame_46 : decode prog_14_method_42_code 46 = .ok (.return_, 1) := by decide +kernel
theorem d_MO_retraceFrame_47 : decode prog_14_method_42_code 47 = .ok (.iconst (-1), 1) := by decide +kernel
theorem d_MO_retraceFrame_48 : decode prog_14_method_42_code 48 = .ok (.istore_n 3, 1) := by decide +kernel
theorem d_MO_retraceFrame_49 : decode prog_14_method_42_code 49 = .ok (.iconst 0, 1) := by decide +kernel
theorem d_MO_retraceFrame_50 : decode prog_14_method_42_code 50 = .ok (.istore 4, 2) := by decide +kernel
theorem d_MO_retraceFrame_52 : decode prog_14_method_42_code 52 = .ok (.iconst 0, 1) := by decide +kernel
theorem d_MO_retraceFrame_53 : decode prog_14_method_42_code 53 = .ok (.istore 5, 2) := by decide +kernel
theorem d_MO_retraceFrame_55 : decode prog_14_method_42_code 55 = .ok (.iload 5, 2) := by decide +kernel
theorem d_MO_retraceFrame_57 : decode prog_14_method_42_code 57 = .ok (.aload_n 0, 1) := by decide +kernel
theorem d_MO_retraceFrame_58 : decode prog_14_method_42_code 58 = .ok (.getfield 173, 3) := by decide +kernel
theorem d_MO_retraceFrame_61 : decode prog_14_method_42_code 61 = .ok (.if_icmp .ge 129, 3) := by decide +kernel
theorem d_MO_retraceFrame_64 : decode prog_14_method_42_code 64 = .ok (.aload_n 0, 1) := by decide +kernel
theorem d_MO_retraceFrame_65 : decode prog_14_method_42_code 65 = .ok (.iload 5, 2) := by decide +kernel
theorem d_MO_retraceFrame_67 : decode prog_14_method_42_code 67 = .ok (.iload_n 2, 1) := by decide +kernel
theorem d_MO_retraceFrame_68 : decode prog_14_method_42_code 68 = .ok (.iload_n 1, 1) := by decide +kernel
theorem d_MO_retraceFrame_69 : decode prog_14_method_42_code 69 = .ok (.invokevirtual 288, 3) := by decide +kernel
theorem d_MO_retraceFrame_72 : decode prog_14_method_42_code 72 = .ok (.ifCond .eq 112, 3) := by decide +kernel
theorem d_MO_retraceFrame_75 : decode prog_14_method_42_code 75 = .ok (.aload_n 0, 1) := by decide +kernel
theorem d_MO_retraceFrame_76 : decode prog_14_method_42_code 76 = .ok (.iload 5, 2) := by decide +kernel
theorem d_MO_retraceFrame_78 : decode prog_14_method_42_code 78 = .ok (.invokevirtual 269, 3) := by decide +kernel
theorem d_MO_retraceFrame_81 : decode prog_14_method_42_code 81 = .ok (.istore 6, 2) := by decide +kernel
theorem d_MO_retraceFrame_83 : decode prog_14_method_42_code 83 = .ok (.aload_n 0, 1) := by decide +kernel
theorem d_MO_retraceFrame_84 : decode prog_14_method_42_code 84 = .ok (.getfield 91, 3) := by decide +kernel
theorem d_MO_retraceFrame_87 : decode prog_14_method_42_code 87 = .ok (.iload_n 1, 1) := by decide +kernel
theorem d_MO_retraceFrame_88 : decode prog_14_method_42_code 88 = .ok (.iaload, 1) := by decide +kernel
theorem d_MO_retraceFrame_89 : decode prog_14_method_42_code 89 = .ok (.ifCond .lt 58, 3) := by decide +kernel
theorem d_MO_retraceFrame_92 : decode prog_14_method_42_code 92 = .ok (.aload_n 0, 1) := by decide +kernel
theorem d_MO_retraceFrame_93 : decode prog_14_method_42_code 93 = .ok (.getfield 49, 3) := by decide +kernel
theorem d_MO_retraceFrame_96 : decode prog_14_method_42_code 96 = .ok (.iload 6, 2) := by decide +kernel
theorem d_MO_retraceFrame_98 : decode prog_14_method_42_code 98 = .ok (.iaload, 1) := by decide +kernel
theorem d_MO_retraceFrame_99 : decode prog_14_method_42_code 99 = .ok (.ifCond .lt 48, 3) := by decide +kernel
theorem d_MO_retraceFrame_102 : decode prog_14_method_42_code 102 = .ok (.aload_n 0, 1) := by decide +kernel
theorem d_MO_retraceFrame_103 : decode prog_14_method_42_code 103 = .ok (.getfield 49, 3) := by decide +kernel
theorem d_MO_retraceFrame_106 : decode prog_14_method_42_code 106 = .ok (.iload 6, 2) := by decide +kernel
theorem d_MO_retraceFrame_108 : decode prog_14_method_42_code 108 = .ok (.iaload, 1) := by decide +kernel
theorem d_MO_retraceFrame_109 : decode prog_14_method_42_code 109 = .ok (.aload_n 0, 1) := by decide +kernel
theorem d_MO_retraceFrame_110 : decode prog_14_method_42_code 110 = .ok (.getfield 91, 3) := by decide +kernel
theorem d_MO_retraceFrame_113 : decode prog_14_method_42_code 113 = .ok (.iload_n 1, 1) := by decide +kernel
theorem d_MO_retraceFrame_114 : decode prog_14_method_42_code 114 = .ok (.iaload, 1) := by decide +kernel
theorem d_MO_retraceFrame_115 : decode prog_14_method_42_code 115 = .ok (.if_icmp .gt 32, 3) := by decide +kernel
theorem d_MO_retraceFrame_118 : decode prog_14_method_42_code 118 = .ok (.aload_n 0, 1) := by decide +kernel
theorem d_MO_retraceFrame_119 : decode prog_14_method_42_code 119 = .ok (.getfield 91, 3) := by decide +kernel
theorem d_MO_retraceFrame_122 : decode prog_14_method_42_code 122 = .ok (.iload_n 1, 1) := by decide +kernel
theorem d_MO_retraceFrame_123 : decode prog_14_method_42_code 123 = .ok (.iaload, 1) := by decide +kernel
theorem d_MO_retraceFrame_124 : decode prog_14_method_42_code 124 = .ok (.aload_n 0, 1) := by decide +kernel
theorem d_MO_retraceFrame_125 : decode prog_14_method_42_code 125 = .ok (.getfield 52, 3) := by decide +kernel
theorem d_MO_retraceFrame_128 : decode prog_14_method_42_code 128 = .ok (.iload 6, 2) := by decide +kernel
theorem d_MO_retraceFrame_130 : decode prog_14_method_42_code 130 = .ok (.iaload, 1) := by decide +kernel
theorem d_MO_retraceFrame_131 : decode prog_14_method_42_code 131 = .ok (.if_icmp .gt 16, 3) := by decide +kernel
theorem d_MO_retraceFrame_134 : decode prog_14_method_42_code 134 = .ok (.aload_n 0, 1) := by decide +kernel
theorem d_MO_retraceFrame_135 : decode prog_14_method_42_code 135 = .ok (.iload 5, 2) := by decide +kernel
theorem d_MO_retraceFrame_137 : decode prog_14_method_42_code 137 = .ok (.aload_n 0, 1) := by decide +kernel
theorem d_MO_retraceFrame_138 : decode prog_14_method_42_code 138 = .ok (.getfield 91, 3) := by decide +kernel
theorem d_MO_retraceFrame_141 : decode prog_14_method_42_code 141 = .ok (.iload_n 1, 1) := by decide +kernel
theorem d_MO_retraceFrame_142 : decode prog_14_method_42_code 142 = .ok (.iaload, 1) := by decide +kernel
theorem d_MO_retraceFrame_143 : decode prog_14_method_42_code 143 = .ok (.invokevirtual 292, 3) := by decide +kernel
theorem d_MO_retraceFrame_146 : decode prog_14_method_42_code 146 = .ok (.return_, 1) := by decide +kernel
theorem d_MO_retraceFrame_147 : decode prog_14_method_42_code 147 = .ok (.iload 4, 2) := by decide +kernel
theorem d_MO_retraceFrame_149 : decode prog_14_method_42_code 149 = .ok (.ifCond .ne 17, 3) := by decide +kernel
theorem d_MO_retraceFrame_152 : decode prog_14_method_42_code 152 = .ok (.iload_n 3, 1) := by decide +kernel
theorem d_MO_retraceFrame_153 : decode prog_14_method_42_code 153 = .ok (.ifCond .lt 17, 3) := by decide +kernel
theorem d_MO_retraceFrame_156 : decode prog_14_method_42_code 156 = .ok (.aload_n 0, 1) := by decide +kernel
theorem d_MO_retraceFrame_157 : decode prog_14_method_42_code 157 = .ok (.iload_n 3, 1) := by decide +kernel
theorem d_MO_retraceFrame_158 : decode prog_14_method_42_code 158 = .ok (.iload 5, 2) := by decide +kernel
theorem d_MO_retraceFrame_160 : decode prog_14_method_42_code 160 = .ok (.invokevirtual 295, 3) := by decide +kernel
theorem d_MO_retraceFrame_163 : decode prog_14_method_42_code 163 = .ok (.ifCond .eq 7, 3) := by decide +kernel
theorem d_MO_retraceFrame_166 : decode prog_14_method_42_code 166 = .ok (.iconst 1, 1) := by decide +kernel
theorem d_MO_retraceFrame_167 : decode prog_14_method_42_code 167 = .ok (.goto 4, 3) := by decide +kernel
theorem d_MO_retraceFrame_170 : decode prog_14_method_42_code 170 = .ok (.iconst 0, 1) := by decide +kernel
theorem d_MO_retraceFrame_171 : decode prog_14_method_42_code 171 = .ok (.istore 4, 2) := by decide +kernel
theorem d_MO_retraceFrame_173 : decode prog_14_method_42_code 173 = .ok (.iload_n 3, 1) := by decide +kernel
theorem d_MO_retraceFrame_174 : decode prog_14_method_42_code 174 = .ok (.ifCond .ge 8, 3) := by decide +kernel
theorem d_MO_retraceFrame_177 : decode prog_14_method_42_code 177 = .ok (.iload 5, 2) := by decide +kernel
theorem d_MO_retraceFrame_179 : decode prog_14_method_42_code 179 = .ok (.goto 4, 3) := by decide +kernel
theorem d_MO_retraceFrame_182 : decode prog_14_method_42_code 182 = .ok (.iload_n 3, 1) := by decide +kernel
theorem d_MO_retraceFrame_183 : decode prog_14_method_42_code 183 = .ok (.istore_n 3, 1) := by decide +kernel
theorem d_MO_retraceFrame_184 : decode prog_14_method_42_code 184 = .ok (.iinc 5 1, 3) := by decide +kernel
theorem d_MO_retraceFrame_187 : decode prog_14_method_42_code 187 = .ok (.goto (-132), 3) := by decide +kernel
theorem d_MO_retraceFrame_190 : decode prog_14_method_42_code 190 = .ok (.aload_n 0, 1) := by decide +kernel
theorem d_MO_retraceFrame_191 : decode prog_14_method_42_code 191 = .ok (.iload 4, 2) := by decide +kernel
theorem d_MO_retraceFrame_193 : decode prog_14_method_42_code 193 = .ok (.ifCond .eq 12, 3) := by decide +kernel
theorem d_MO_retraceFrame_196 : decode prog_14_method_42_code 196 = .ok (.aload_n 0, 1) := by decide +kernel
theorem d_MO_retraceFrame_197 : decode prog_14_method_42_code 197 = .ok (.getfield 298, 3) := by decide +kernel
theorem d_MO_retraceFrame_200 : decode prog_14_method_42_code 200 = .ok (.iconst 1, 1) := by decide +kernel
theorem d_MO_retraceFrame_201 : decode prog_14_method_42_code 201 = .ok (.iadd, 1) := by decide +kernel
theorem d_MO_retraceFrame_202 : decode prog_14_method_42_code 202 = .ok (.goto 7, 3) := by decide +kernel
theorem d_MO_retraceFrame_205 : decode prog_14_method_42_code 205 = .ok (.aload_n 0, 1) := by decide +kernel
theorem d_MO_retraceFrame_206 : decode prog_14_method_42_code 206 = .ok (.getfield 298, 3) := by decide +kernel
theorem d_MO_retraceFrame_209 : decode prog_14_method_42_code 209 = .ok (.putfield 298, 3) := by decide +kernel
theorem d_MO_retraceFrame_212 : decode prog_14_method_42_code 212 = .ok (.iload_n 3, 1) := by decide +kernel
theorem d_MO_retraceFrame_213 : decode prog_14_method_42_code 213 = .ok (.ifCond .ge 7, 3) := by decide +kernel
theorem d_MO_retraceFrame_216 : decode prog_14_method_42_code 216 = .ok (.iconst (-1), 1) := by decide +kernel
theorem d_MO_retraceFrame_217 : decode prog_14_method_42_code 217 = .ok (.goto 8, 3) := by decide +kernel
theorem d_MO_retraceFrame_220 : decode prog_14_method_42_code 220 = .ok (.aload_n 0, 1) := by decide +kernel
theorem d_MO_retraceFrame_221 : decode prog_14_method_42_code 221 = .ok (.iload_n 3, 1) := by decide +kernel
theorem d_MO_retraceFrame_222 : decode prog_14_method_42_code 222 = .ok (.invokevirtual 272, 3) := by decide +kernel
theorem d_MO_retraceFrame_225 : decode prog_14_method_42_code 225 = .ok (.istore 5, 2) := by decide +kernel
theorem d_MO_retraceFrame_227 : decode prog_14_method_42_code 227 = .ok (.iload 5, 2) := by decide +kernel
theorem d_MO_retraceFrame_229 : decode prog_14_method_42_code 229 = .ok (.ifCond .ge 12, 3) := by decide +kernel
theorem d_MO_retraceFrame_232 : decode prog_14_method_42_code 232 = .ok (.aload_n 0, 1) := by decide +kernel
theorem d_MO_retraceFrame_233 : decode prog_14_method_42_code 233 = .ok (.getfield 19, 3) := by decide +kernel
theorem d_MO_retraceFrame_236 : decode prog_14_method_42_code 236 = .ok (.iload_n 2, 1) := by decide +kernel
theorem d_MO_retraceFrame_237 : decode prog_14_method_42_code 237 = .ok (.iaload, 1) := by decide +kernel
theorem d_MO_retraceFrame_238 : decode prog_14_method_42_code 238 = .ok (.goto 10, 3) := by decide +kernel
theorem d_MO_retraceFrame_241 : decode prog_14_method_42_code 241 = .ok (.aload_n 0, 1) := by decide +kernel
theorem d_MO_retraceFrame_242 : decode prog_14_method_42_code 242 = .ok (.getfield 31, 3) := by decide +kernel
theorem d_MO_retraceFrame_245 : decode prog_14_method_42_code 245 = .ok (.iload 5, 2) := by decide +kernel
theorem d_MO_retraceFrame_247 : decode prog_14_method_42_code 247 = .ok (.iaload, 1) := by decide +kernel
theorem d_MO_retraceFrame_248 : decode prog_14_method_42_code 248 = .ok (.istore 6, 2) := by decide +kernel
theorem d_MO_retraceFrame_250 : decode prog_14_method_42_code 250 = .ok (.iload 5, 2) := by decide +kernel
theorem d_MO_retraceFrame_252 : decode prog_14_method_42_code 252 = .ok (.ifCond .ge 12, 3) := by decide +kernel
theorem d_MO_retraceFrame_255 : decode prog_14_method_42_code 255 = .ok (.aload_n 0, 1) := by decide +kernel
theorem d_MO_retraceFrame_256 : decode prog_14_method_42_code 256 = .ok (.getfield 22, 3) := by decide +kernel
theorem d_MO_retraceFrame_259 : decode prog_14_method_42_code 259 = .ok (.iload_n 2, 1) := by decide +kernel
theorem d_MO_retraceFrame_260 : decode prog_14_method_42_code 260 = .ok (.iaload, 1) := by decide +kernel
theorem d_MO_retraceFrame_261 : decode prog_14_method_42_code 261 = .ok (.goto 10, 3) := by decide +kernel
theorem d_MO_retraceFrame_264 : decode prog_14_method_42_code 264 = .ok (.aload_n 0, 1) := by decide +kernel
theorem d_MO_retraceFrame_265 : decode prog_14_method_42_code 265 = .ok (.getfield 34, 3) := by decide +kernel
theorem d_MO_retraceFrame_268 : decode prog_14_method_42_code 268 = .ok (.iload 5, 2) := by decide +kernel
theorem d_MO_retraceFrame_270 : decode prog_14_method_42_code 270 = .ok (.iaload, 1) := by decide +kernel
theorem d_MO_retraceFrame_271 : decode prog_14_method_42_code 271 = .ok (.istore 7, 2) := by decide +kernel
theorem d_MO_retraceFrame_273 : decode prog_14_method_42_code 273 = .ok (.aload_n 0, 1) := by decide +kernel
theorem d_MO_retraceFrame_274 : decode prog_14_method_42_code 274 = .ok (.ldc2_w 223, 3) := by decide +kernel
theorem d_MO_retraceFrame_277 : decode prog_14_method_42_code 277 = .ok (.iconst 4, 1) := by decide +kernel
theorem d_MO_retraceFrame_278 : decode prog_14_method_42_code 278 = .ok (.invokevirtual 261, 3) := by decide +kernel
theorem d_MO_retraceFrame_281 : decode prog_14_method_42_code 281 = .ok (.aload_n 0, 1) := by decide +kernel
theorem d_MO_retraceFrame_282 : decode prog_14_method_42_code 282 = .ok (.iload 6, 2) := by decide +kernel
theorem d_MO_retraceFrame_284 : decode prog_14_method_42_code 284 = .ok (.iload 7, 2) := by decide +kernel
theorem d_MO_retraceFrame_286 : decode prog_14_method_42_code 286 = .ok (.invokevirtual 255, 3) := by decide +kernel
