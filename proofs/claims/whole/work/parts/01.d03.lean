theorem d_MO_retraceFrame_289 : decode prog_14_method_42_code 289 = .ok (.aload_n 0, 1) := by decide +kernel
theorem d_MO_retraceFrame_290 : decode prog_14_method_42_code 290 = .ok (.bipush 46, 2) := by decide +kernel
theorem d_MO_retraceFrame_292 : decode prog_14_method_42_code 292 = .ok (.invokevirtual 251, 3) := by decide +kernel
theorem d_MO_retraceFrame_295 : decode prog_14_method_42_code 295 = .ok (.aload_n 0, 1) := by decide +kernel
theorem d_MO_retraceFrame_296 : decode prog_14_method_42_code 296 = .ok (.iload 5, 2) := by decide +kernel
theorem d_MO_retraceFrame_298 : decode prog_14_method_42_code 298 = .ok (.ifCond .ge 12, 3) := by decide +kernel
theorem d_MO_retraceFrame_301 : decode prog_14_method_42_code 301 = .ok (.aload_n 0, 1) := by decide +kernel
theorem d_MO_retraceFrame_302 : decode prog_14_method_42_code 302 = .ok (.getfield 82, 3) := by decide +kernel
theorem d_MO_retraceFrame_305 : decode prog_14_method_42_code 305 = .ok (.iload_n 1, 1) := by decide +kernel
theorem d_MO_retraceFrame_306 : decode prog_14_method_42_code 306 = .ok (.iaload, 1) := by decide +kernel
theorem d_MO_retraceFrame_307 : decode prog_14_method_42_code 307 = .ok (.goto 10, 3) := by decide +kernel
theorem d_MO_retraceFrame_310 : decode prog_14_method_42_code 310 = .ok (.aload_n 0, 1) := by decide +kernel
theorem d_MO_retraceFrame_311 : decode prog_14_method_42_code 311 = .ok (.getfield 37, 3) := by decide +kernel
theorem d_MO_retraceFrame_314 : decode prog_14_method_42_code 314 = .ok (.iload 5, 2) := by decide +kernel
theorem d_MO_retraceFrame_316 : decode prog_14_method_42_code 316 = .ok (.iaload, 1) := by decide +kernel
theorem d_MO_retraceFrame_317 : decode prog_14_method_42_code 317 = .ok (.iload 5, 2) := by decide +kernel
theorem d_MO_retraceFrame_319 : decode prog_14_method_42_code 319 = .ok (.ifCond .ge 12, 3) := by decide +kernel
theorem d_MO_retraceFrame_322 : decode prog_14_method_42_code 322 = .ok (.aload_n 0, 1) := by decide +kernel
theorem d_MO_retraceFrame_323 : decode prog_14_method_42_code 323 = .ok (.getfield 79, 3) := by decide +kernel
theorem d_MO_retraceFrame_326 : decode prog_14_method_42_code 326 = .ok (.iload_n 1, 1) := by decide +kernel
theorem d_MO_retraceFrame_327 : decode prog_14_method_42_code 327 = .ok (.iaload, 1) := by decide +kernel
theorem d_MO_retraceFrame_328 : decode prog_14_method_42_code 328 = .ok (.goto 10, 3) := by decide +kernel
theorem d_MO_retraceFrame_331 : decode prog_14_method_42_code 331 = .ok (.aload_n 0, 1) := by decide +kernel
theorem d_MO_retraceFrame_332 : decode prog_14_method_42_code 332 = .ok (.getfield 40, 3) := by decide +kernel
theorem d_MO_retraceFrame_335 : decode prog_14_method_42_code 335 = .ok (.iload 5, 2) := by decide +kernel
theorem d_MO_retraceFrame_337 : decode prog_14_method_42_code 337 = .ok (.iaload, 1) := by decide +kernel
theorem d_MO_retraceFrame_338 : decode prog_14_method_42_code 338 = .ok (.invokevirtual 255, 3) := by decide +kernel
theorem d_MO_retraceFrame_341 : decode prog_14_method_42_code 341 = .ok (.aload_n 0, 1) := by decide +kernel
theorem d_MO_retraceFrame_342 : decode prog_14_method_42_code 342 = .ok (.bipush 40, 2) := by decide +kernel
theorem d_MO_retraceFrame_344 : decode prog_14_method_42_code 344 = .ok (.invokevirtual 251, 3) := by decide +kernel
theorem d_MO_retraceFrame_347 : decode prog_14_method_42_code 347 = .ok (.aload_n 0, 1) := by decide +kernel
theorem d_MO_retraceFrame_348 : decode prog_14_method_42_code 348 = .ok (.iload_n 1, 1) := by decide +kernel
theorem d_MO_retraceFrame_349 : decode prog_14_method_42_code 349 = .ok (.invokevirtual 301, 3) := by decide +kernel
theorem d_MO_retraceFrame_352 : decode prog_14_method_42_code 352 = .ok (.ifCond .eq 11, 3) := by decide +kernel
theorem d_MO_retraceFrame_355 : decode prog_14_method_42_code 355 = .ok (.aload_n 0, 1) := by decide +kernel
theorem d_MO_retraceFrame_356 : decode prog_14_method_42_code 356 = .ok (.iload 6, 2) := by decide +kernel
theorem d_MO_retraceFrame_358 : decode prog_14_method_42_code 358 = .ok (.iload 7, 2) := by decide +kernel
theorem d_MO_retraceFrame_360 : decode prog_14_method_42_code 360 = .ok (.invokevirtual 278, 3) := by decide +kernel
theorem d_MO_retraceFrame_363 : decode prog_14_method_42_code 363 = .ok (.aload_n 0, 1) := by decide +kernel
theorem d_MO_retraceFrame_364 : decode prog_14_method_42_code 364 = .ok (.iload_n 1, 1) := by decide +kernel
theorem d_MO_retraceFrame_365 : decode prog_14_method_42_code 365 = .ok (.invokevirtual 304, 3) := by decide +kernel
theorem d_MO_retraceFrame_368 : decode prog_14_method_42_code 368 = .ok (.return_, 1) := by decide +kernel
theorem d_MO_retraceAll_0 : decode prog_14_method_43_code 0 = .ok (.aload_n 0, 1) := by decide +kernel
theorem d_MO_retraceAll_1 : decode prog_14_method_43_code 1 = .ok (.iconst 0, 1) := by decide +kernel
theorem d_MO_retraceAll_2 : decode prog_14_method_43_code 2 = .ok (.putfield 245, 3) := by decide +kernel
theorem d_MO_retraceAll_5 : decode prog_14_method_43_code 5 = .ok (.aload_n 0, 1) := by decide +kernel
theorem d_MO_retraceAll_6 : decode prog_14_method_43_code 6 = .ok (.iconst 0, 1) := by decide +kernel
theorem d_MO_retraceAll_7 : decode prog_14_method_43_code 7 = .ok (.putfield 248, 3) := by decide +kernel
theorem d_MO_retraceAll_10 : decode prog_14_method_43_code 10 = .ok (.aload_n 0, 1) := by decide +kernel
theorem d_MO_retraceAll_11 : decode prog_14_method_43_code 11 = .ok (.iconst 0, 1) := by decide +kernel
theorem d_MO_retraceAll_12 : decode prog_14_method_43_code 12 = .ok (.putfield 298, 3) := by decide +kernel
theorem d_MO_retraceAll_15 : decode prog_14_method_43_code 15 = .ok (.iconst 0, 1) := by decide +kernel
theorem d_MO_retraceAll_16 : decode prog_14_method_43_code 16 = .ok (.istore_n 1, 1) := by decide +kernel
theorem d_MO_retraceAll_17 : decode prog_14_method_43_code 17 = .ok (.iload_n 1, 1) := by decide +kernel
theorem d_MO_retraceAll_18 : decode prog_14_method_43_code 18 = .ok (.aload_n 0, 1) := by decide +kernel
theorem d_MO_retraceAll_19 : decode prog_14_method_43_code 19 = .ok (.getfield 203, 3) := by decide +kernel
theorem d_MO_retraceAll_22 : decode prog_14_method_43_code 22 = .ok (.if_icmp .ge 123, 3) := by decide +kernel
theorem d_MO_retraceAll_25 : decode prog_14_method_43_code 25 = .ok (.aload_n 0, 1) := by decide +kernel
theorem d_MO_retraceAll_26 : decode prog_14_method_43_code 26 = .ok (.getfield 67, 3) := by decide +kernel
theorem d_MO_retraceAll_29 : decode prog_14_method_43_code 29 = .ok (.iload_n 1, 1) := by decide +kernel
theorem d_MO_retraceAll_30 : decode prog_14_method_43_code 30 = .ok (.iaload, 1) := by decide +kernel
theorem d_MO_retraceAll_31 : decode prog_14_method_43_code 31 = .ok (.iconst 2, 1) := by decide +kernel
theorem d_MO_retraceAll_32 : decode prog_14_method_43_code 32 = .ok (.if_icmp .ge 67, 3) := by decide +kernel
theorem d_MO_retraceAll_35 : decode prog_14_method_43_code 35 = .ok (.aload_n 0, 1) := by decide +kernel
theorem d_MO_retraceAll_36 : decode prog_14_method_43_code 36 = .ok (.aload_n 0, 1) := by decide +kernel
theorem d_MO_retraceAll_37 : decode prog_14_method_43_code 37 = .ok (.getfield 76, 3) := by decide +kernel
theorem d_MO_retraceAll_40 : decode prog_14_method_43_code 40 = .ok (.iload_n 1, 1) := by decide +kernel
theorem d_MO_retraceAll_41 : decode prog_14_method_43_code 41 = .ok (.iaload, 1) := by decide +kernel
theorem d_MO_retraceAll_42 : decode prog_14_method_43_code 42 = .ok (.aload_n 0, 1) := by decide +kernel
theorem d_MO_retraceAll_43 : decode prog_14_method_43_code 43 = .ok (.getfield 79, 3) := by decide +kernel
theorem d_MO_retraceAll_46 : decode prog_14_method_43_code 46 = .ok (.iload_n 1, 1) := by decide +kernel
theorem d_MO_retraceAll_47 : decode prog_14_method_43_code 47 = .ok (.iaload, 1) := by decide +kernel
theorem d_MO_retraceAll_48 : decode prog_14_method_43_code 48 = .ok (.iconst 0, 1) := by decide +kernel
theorem d_MO_retraceAll_49 : decode prog_14_method_43_code 49 = .ok (.invokevirtual 284, 3) := by decide +kernel
theorem d_MO_retraceAll_52 : decode prog_14_method_43_code 52 = .ok (.istore_n 2, 1) := by decide +kernel
theorem d_MO_retraceAll_53 : decode prog_14_method_43_code 53 = .ok (.aload_n 0, 1) := by decide +kernel
theorem d_MO_retraceAll_54 : decode prog_14_method_43_code 54 = .ok (.iload_n 1, 1) := by decide +kernel
theorem d_MO_retraceAll_55 : decode prog_14_method_43_code 55 = .ok (.iload_n 2, 1) := by decide +kernel
theorem d_MO_retraceAll_56 : decode prog_14_method_43_code 56 = .ok (.ifCond .ge 12, 3) := by decide +kernel
theorem d_MO_retraceAll_59 : decode prog_14_method_43_code 59 = .ok (.aload_n 0, 1) := by decide +kernel
theorem d_MO_retraceAll_60 : decode prog_14_method_43_code 60 = .ok (.getfield 76, 3) := by decide +kernel
theorem d_MO_retraceAll_63 : decode prog_14_method_43_code 63 = .ok (.iload_n 1, 1) := by decide +kernel
theorem d_MO_retraceAll_64 : decode prog_14_method_43_code 64 = .ok (.iaload, 1) := by decide +kernel
theorem d_MO_retraceAll_65 : decode prog_14_method_43_code 65 = .ok (.goto 9, 3) := by decide +kernel
theorem d_MO_retraceAll_68 : decode prog_14_method_43_code 68 = .ok (.aload_n 0, 1) := by decide +kernel
theorem d_MO_retraceAll_69 : decode prog_14_method_43_code 69 = .ok (.getfield 19, 3) := by decide +kernel
theorem d_MO_retraceAll_72 : decode prog_14_method_43_code 72 = .ok (.iload_n 2, 1) := by decide +kernel
theorem d_MO_retraceAll_73 : decode prog_14_method_43_code 73 = .ok (.iaload, 1) := by decide +kernel
theorem d_MO_retraceAll_74 : decode prog_14_method_43_code 74 = .ok (.iload_n 2, 1) := by decide +kernel
theorem d_MO_retraceAll_75 : decode prog_14_method_43_code 75 = .ok (.ifCond .ge 12, 3) := by decide +kernel
theorem d_MO_retraceAll_78 : decode prog_14_method_43_code 78 = .ok (.aload_n 0, 1) := by decide +kernel
theorem d_MO_retraceAll_79 : decode prog_14_method_43_code 79 = .ok (.getfield 79, 3) := by decide +kernel
theorem d_MO_retraceAll_82 : decode prog_14_method_43_code 82 = .ok (.iload_n 1, 1) := by decide +kernel
theorem d_MO_retraceAll_83 : decode prog_14_method_43_code 83 = .ok (.iaload, 1) := by decide +kernel
theorem d_MO_retraceAll_84 : decode prog_14_method_43_code 84 = .ok (.goto 9, 3) := by decide +kernel
theorem d_MO_retraceAll_87 : decode prog_14_method_43_code 87 = .ok (.aload_n 0, 1) := by decide +kernel
theorem d_MO_retraceAll_88 : decode prog_14_method_43_code 88 = .ok (.getfield 22, 3) := by decide +kernel
theorem d_MO_retraceAll_91 : decode prog_14_method_43_code 91 = .ok (.iload_n 2, 1) := by decide +kernel
theorem d_MO_retraceAll_92 : decode prog_14_method_43_code 92 = .ok (.iaload, 1) := by decide +kernel
theorem d_MO_retraceAll_93 : decode prog_14_method_43_code 93 = .ok (.invokevirtual 307, 3) := by decide +kernel
theorem d_MO_retraceAll_96 : decode prog_14_method_43_code 96 = .ok (.goto 43, 3) := by decide +kernel
theorem d_MO_retraceAll_99 : decode prog_14_method_43_code 99 = .ok (.aload_n 0, 1) := by decide +kernel
theorem d_MO_retraceAll_100 : decode prog_14_method_43_code 100 = .ok (.getfield 67, 3) := by decide +kernel
theorem d_MO_retraceAll_103 : decode prog_14_method_43_code 103 = .ok (.iload_n 1, 1) := by decide +kernel
theorem d_MO_retraceAll_104 : decode prog_14_method_43_code 104 = .ok (.iaload, 1) := by decide +kernel
theorem d_MO_retraceAll_105 : decode prog_14_method_43_code 105 = .ok (.iconst 2, 1) := by decide +kernel
theorem d_MO_retraceAll_106 : decode prog_14_method_43_code 106 = .ok (.if_icmp .ne 11, 3) := by decide +kernel
theorem d_MO_retraceAll_109 : decode prog_14_method_43_code 109 = .ok (.aload_n 0, 1) := by decide +kernel
theorem d_MO_retraceAll_110 : decode prog_14_method_43_code 110 = .ok (.iload_n 1, 1) := by decide +kernel
theorem d_MO_retraceAll_111 : decode prog_14_method_43_code 111 = .ok (.invokevirtual 311, 3) := by decide +kernel
theorem d_MO_retraceAll_114 : decode prog_14_method_43_code 114 = .ok (.goto 25, 3) := by decide +kernel
theorem d_MO_retraceAll_117 : decode prog_14_method_43_code 117 = .ok (.aload_n 0, 1) := by decide +kernel
theorem d_MO_retraceAll_118 : decode prog_14_method_43_code 118 = .ok (.aload_n 0, 1) := by decide +kernel
theorem d_MO_retraceAll_119 : decode prog_14_method_43_code 119 = .ok (.getfield 70, 3) := by decide +kernel
theorem d_MO_retraceAll_122 : decode prog_14_method_43_code 122 = .ok (.iload_n 1, 1) := by decide +kernel
theorem d_MO_retraceAll_123 : decode prog_14_method_43_code 123 = .ok (.iaload, 1) := by decide +kernel
theorem d_MO_retraceAll_124 : decode prog_14_method_43_code 124 = .ok (.aload_n 0, 1) := by decide +kernel
theorem d_MO_retraceAll_125 : decode prog_14_method_43_code 125 = .ok (.getfield 73, 3) := by decide +kernel
theorem d_MO_retraceAll_128 : decode prog_14_method_43_code 128 = .ok (.iload_n 1, 1) := by decide +kernel
theorem d_MO_retraceAll_129 : decode prog_14_method_43_code 129 = .ok (.iaload, 1) := by decide +kernel
theorem d_MO_retraceAll_130 : decode prog_14_method_43_code 130 = .ok (.invokevirtual 255, 3) := by decide +kernel
theorem d_MO_retraceAll_133 : decode prog_14_method_43_code 133 = .ok (.aload_n 0, 1) := by decide +kernel
theorem d_MO_retraceAll_134 : decode prog_14_method_43_code 134 = .ok (.bipush 10, 2) := by decide +kernel
theorem d_MO_retraceAll_136 : decode prog_14_method_43_code 136 = .ok (.invokevirtual 251, 3) := by decide +kernel
theorem d_MO_retraceAll_139 : decode prog_14_method_43_code 139 = .ok (.iinc 1 1, 3) := by decide +kernel
theorem d_MO_retraceAll_142 : decode prog_14_method_43_code 142 = .ok (.goto (-125), 3) := by decide +kernel
theorem d_MO_retraceAll_145 : decode prog_14_method_43_code 145 = .ok (.return_, 1) := by decide +kernel
theorem d_MO_calls_0 : decode prog_14_method_44_code 0 = .ok (.aload_n 0, 1) := by decide +kernel
theorem d_MO_calls_1 : decode prog_14_method_44_code 1 = .ok (.aload_n 0, 1) := by decide +kernel
theorem d_MO_calls_2 : decode prog_14_method_44_code 2 = .ok (.getfield 76, 3) := by decide +kernel
theorem d_MO_calls_5 : decode prog_14_method_44_code 5 = .ok (.iload_n 1, 1) := by decide +kernel
theorem d_MO_calls_6 : decode prog_14_method_44_code 6 = .ok (.iaload, 1) := by decide +kernel
theorem d_MO_calls_7 : decode prog_14_method_44_code 7 = .ok (.aload_n 0, 1) := by decide +kernel
theorem d_MO_calls_8 : decode prog_14_method_44_code 8 = .ok (.getfield 82, 3) := by decide +kernel
theorem d_MO_calls_11 : decode prog_14_method_44_code 11 = .ok (.iload_n 1, 1) := by decide +kernel
theorem d_MO_calls_12 : decode prog_14_method_44_code 12 = .ok (.iaload, 1) := by decide +kernel
theorem d_MO_calls_13 : decode prog_14_method_44_code 13 = .ok (.iconst 1, 1) := by decide +kernel
theorem d_MO_calls_14 : decode prog_14_method_44_code 14 = .ok (.isub, 1) := by decide +kernel
theorem d_MO_calls_15 : decode prog_14_method_44_code 15 = .ok (.aload_n 0, 1) := by decide +kernel
theorem d_MO_calls_16 : decode prog_14_method_44_code 16 = .ok (.getfield 31, 3) := by decide +kernel
theorem d_MO_calls_19 : decode prog_14_method_44_code 19 = .ok (.iload_n 2, 1) := by decide +kernel
theorem d_MO_calls_20 : decode prog_14_method_44_code 20 = .ok (.iaload, 1) := by decide +kernel
theorem d_MO_calls_21 : decode prog_14_method_44_code 21 = .ok (.aload_n 0, 1) := by decide +kernel
theorem d_MO_calls_22 : decode prog_14_method_44_code 22 = .ok (.getfield 34, 3) := by decide +kernel
theorem d_MO_calls_25 : decode prog_14_method_44_code 25 = .ok (.iload_n 2, 1) := by decide +kernel
theorem d_MO_calls_26 : decode prog_14_method_44_code 26 = .ok (.iaload, 1) := by decide +kernel
theorem d_MO_calls_27 : decode prog_14_method_44_code 27 = .ok (.invokevirtual 154, 3) := by decide +kernel
theorem d_MO_calls_30 : decode prog_14_method_44_code 30 = .ok (.ifCond .eq 38, 3) := by decide +kernel
theorem d_MO_calls_33 : decode prog_14_method_44_code 33 = .ok (.aload_n 0, 1) := by decide +kernel
theorem d_MO_calls_34 : decode prog_14_method_44_code 34 = .ok (.aload_n 0, 1) := by decide +kernel
theorem d_MO_calls_35 : decode prog_14_method_44_code 35 = .ok (.getfield 82, 3) := by decide +kernel
theorem d_MO_calls_38 : decode prog_14_method_44_code 38 = .ok (.iload_n 1, 1) := by decide +kernel
theorem d_MO_calls_39 : decode prog_14_method_44_code 39 = .ok (.iaload, 1) := by decide +kernel
theorem d_MO_calls_40 : decode prog_14_method_44_code 40 = .ok (.aload_n 0, 1) := by decide +kernel
theorem d_MO_calls_41 : decode prog_14_method_44_code 41 = .ok (.getfield 79, 3) := by decide +kernel
theorem d_MO_calls_44 : decode prog_14_method_44_code 44 = .ok (.iload_n 1, 1) := by decide +kernel
theorem d_MO_calls_45 : decode prog_14_method_44_code 45 = .ok (.iaload, 1) := by decide +kernel
theorem d_MO_calls_46 : decode prog_14_method_44_code 46 = .ok (.aload_n 0, 1) := by decide +kernel
theorem d_MO_calls_47 : decode prog_14_method_44_code 47 = .ok (.getfield 37, 3) := by decide +kernel
theorem d_MO_calls_50 : decode prog_14_method_44_code 50 = .ok (.iload_n 2, 1) := by decide +kernel
theorem d_MO_calls_51 : decode prog_14_method_44_code 51 = .ok (.iaload, 1) := by decide +kernel
theorem d_MO_calls_52 : decode prog_14_method_44_code 52 = .ok (.aload_n 0, 1) := by decide +kernel
theorem d_MO_calls_53 : decode prog_14_method_44_code 53 = .ok (.getfield 40, 3) := by decide +kernel
theorem d_MO_calls_56 : decode prog_14_method_44_code 56 = .ok (.iload_n 2, 1) := by decide +kernel
theorem d_MO_calls_57 : decode prog_14_method_44_code 57 = .ok (.iaload, 1) := by decide +kernel
theorem d_MO_calls_58 : decode prog_14_method_44_code 58 = .ok (.invokevirtual 154, 3) := by decide +kernel
theorem d_MO_calls_61 : decode prog_14_method_44_code 61 = .ok (.ifCond .eq 7, 3) := by decide +kernel
theorem d_MO_calls_64 : decode prog_14_method_44_code 64 = .ok (.iconst 1, 1) := by decide +kernel
theorem d_MO_calls_65 : decode prog_14_method_44_code 65 = .ok (.goto 4, 3) := by decide +kernel
theorem d_MO_calls_68 : decode prog_14_method_44_code 68 = .ok (.iconst 0, 1) := by decide +kernel
theorem d_MO_calls_69 : decode prog_14_method_44_code 69 = .ok (.ireturn, 1) := by decide +kernel
theorem d_MO_fit_0 : decode prog_14_method_45_code 0 = .ok (.iconst (-1), 1) := by decide +kernel
theorem d_MO_fit_1 : decode prog_14_method_45_code 1 = .ok (.istore_n 3, 1) := by decide +kernel
theorem d_MO_fit_2 : decode prog_14_method_45_code 2 = .ok (.iload_n 2, 1) := by decide +kernel
theorem d_MO_fit_3 : decode prog_14_method_45_code 3 = .ok (.istore 4, 2) := by decide +kernel
theorem d_MO_fit_5 : decode prog_14_method_45_code 5 = .ok (.aload_n 0, 1) := by decide +kernel
theorem d_MO_fit_6 : decode prog_14_method_45_code 6 = .ok (.iload_n 1, 1) := by decide +kernel
theorem d_MO_fit_7 : decode prog_14_method_45_code 7 = .ok (.invokevirtual 269, 3) := by decide +kernel
theorem d_MO_fit_10 : decode prog_14_method_45_code 10 = .ok (.istore 5, 2) := by decide +kernel
theorem d_MO_fit_12 : decode prog_14_method_45_code 12 = .ok (.aload_n 0, 1) := by decide +kernel
theorem d_MO_fit_13 : decode prog_14_method_45_code 13 = .ok (.iload_n 1, 1) := by decide +kernel
theorem d_MO_fit_14 : decode prog_14_method_45_code 14 = .ok (.invokevirtual 272, 3) := by decide +kernel
theorem d_MO_fit_17 : decode prog_14_method_45_code 17 = .ok (.istore 6, 2) := by decide +kernel
theorem d_MO_fit_19 : decode prog_14_method_45_code 19 = .ok (.aload_n 0, 1) := by decide +kernel
theorem d_MO_fit_20 : decode prog_14_method_45_code 20 = .ok (.getfield 49, 3) := by decide +kernel
theorem d_MO_fit_23 : decode prog_14_method_45_code 23 = .ok (.iload 5, 2) := by decide +kernel
theorem d_MO_fit_25 : decode prog_14_method_45_code 25 = .ok (.iaload, 1) := by decide +kernel
theorem d_MO_fit_26 : decode prog_14_method_45_code 26 = .ok (.ifCond .ge 5, 3) := by decide +kernel
theorem d_MO_fit_29 : decode prog_14_method_45_code 29 = .ok (.iconst (-1), 1) := by decide +kernel
theorem d_MO_fit_30 : decode prog_14_method_45_code 30 = .ok (.ireturn, 1) := by decide +kernel
theorem d_MO_fit_31 : decode prog_14_method_45_code 31 = .ok (.iload 5, 2) := by decide +kernel
theorem d_MO_fit_33 : decode prog_14_method_45_code 33 = .ok (.istore 7, 2) := by decide +kernel
theorem d_MO_fit_35 : decode prog_14_method_45_code 35 = .ok (.iload 7, 2) := by decide +kernel
theorem d_MO_fit_37 : decode prog_14_method_45_code 37 = .ok (.iload 6, 2) := by decide +kernel
theorem d_MO_fit_39 : decode prog_14_method_45_code 39 = .ok (.if_icmp .gt 137, 3) := by decide +kernel
theorem d_MO_fit_42 : decode prog_14_method_45_code 42 = .ok (.iload 4, 2) := by decide +kernel
theorem d_MO_fit_44 : decode prog_14_method_45_code 44 = .ok (.aload_n 0, 1) := by decide +kernel
theorem d_MO_fit_45 : decode prog_14_method_45_code 45 = .ok (.getfield 203, 3) := by decide +kernel
theorem d_MO_fit_48 : decode prog_14_method_45_code 48 = .ok (.if_icmp .ge 59, 3) := by decide +kernel
theorem d_MO_fit_51 : decode prog_14_method_45_code 51 = .ok (.aload_n 0, 1) := by decide +kernel
theorem d_MO_fit_52 : decode prog_14_method_45_code 52 = .ok (.getfield 67, 3) := by decide +kernel
theorem d_MO_fit_55 : decode prog_14_method_45_code 55 = .ok (.iload 4, 2) := by decide +kernel
theorem d_MO_fit_57 : decode prog_14_method_45_code 57 = .ok (.iaload, 1) := by decide +kernel
theorem d_MO_fit_58 : decode prog_14_method_45_code 58 = .ok (.iconst 2, 1) := by decide +kernel
theorem d_MO_fit_59 : decode prog_14_method_45_code 59 = .ok (.if_icmp .ne 48, 3) := by decide +kernel
theorem d_MO_fit_62 : decode prog_14_method_45_code 62 = .ok (.aload_n 0, 1) := by decide +kernel
theorem d_MO_fit_63 : decode prog_14_method_45_code 63 = .ok (.iload 4, 2) := by decide +kernel
theorem d_MO_fit_65 : decode prog_14_method_45_code 65 = .ok (.iload 7, 2) := by decide +kernel
theorem d_MO_fit_67 : decode prog_14_method_45_code 67 = .ok (.invokevirtual 314, 3) := by decide +kernel
theorem d_MO_fit_70 : decode prog_14_method_45_code 70 = .ok (.ifCond .eq 37, 3) := by decide +kernel
theorem d_MO_fit_73 : decode prog_14_method_45_code 73 = .ok (.aload_n 0, 1) := by decide +kernel
theorem d_MO_fit_74 : decode prog_14_method_45_code 74 = .ok (.getfield 91, 3) := by decide +kernel
theorem d_MO_fit_77 : decode prog_14_method_45_code 77 = .ok (.iload 4, 2) := by decide +kernel
theorem d_MO_fit_79 : decode prog_14_method_45_code 79 = .ok (.iaload, 1) := by decide +kernel
theorem d_MO_fit_80 : decode prog_14_method_45_code 80 = .ok (.aload_n 0, 1) := by decide +kernel
theorem d_MO_fit_81 : decode prog_14_method_45_code 81 = .ok (.getfield 55, 3) := by decide +kernel
theorem d_MO_fit_84 : decode prog_14_method_45_code 84 = .ok (.iload 7, 2) := by decide +kernel
theorem d_MO_fit_86 : decode prog_14_method_45_code 86 = .ok (.iaload, 1) := by decide +kernel
theorem d_MO_fit_87 : decode prog_14_method_45_code 87 = .ok (.if_icmp .lt 20, 3) := by decide +kernel
theorem d_MO_fit_90 : decode prog_14_method_45_code 90 = .ok (.aload_n 0, 1) := by decide +kernel
theorem d_MO_fit_91 : decode prog_14_method_45_code 91 = .ok (.getfield 91, 3) := by decide +kernel
theorem d_MO_fit_94 : decode prog_14_method_45_code 94 = .ok (.iload 4, 2) := by decide +kernel
theorem d_MO_fit_96 : decode prog_14_method_45_code 96 = .ok (.iaload, 1) := by decide +kernel
theorem d_MO_fit_97 : decode prog_14_method_45_code 97 = .ok (.aload_n 0, 1) := by decide +kernel
theorem d_MO_fit_98 : decode prog_14_method_45_code 98 = .ok (.getfield 58, 3) := by decide +kernel
theorem d_MO_fit_101 : decode prog_14_method_45_code 101 = .ok (.iload 7, 2) := by decide +kernel
theorem d_MO_fit_103 : decode prog_14_method_45_code 103 = .ok (.iaload, 1) := by decide +kernel
theorem d_MO_fit_104 : decode prog_14_method_45_code 104 = .ok (.if_icmp .le 5, 3) := by decide +kernel
theorem d_MO_fit_107 : decode prog_14_method_45_code 107 = .ok (.iconst (-1), 1) := by decide +kernel
theorem d_MO_fit_108 : decode prog_14_method_45_code 108 = .ok (.ireturn, 1) := by decide +kernel
theorem d_MO_fit_109 : decode prog_14_method_45_code 109 = .ok (.aload_n 0, 1) := by decide +kernel
theorem d_MO_fit_110 : decode prog_14_method_45_code 110 = .ok (.getfield 55, 3) := by decide +kernel
theorem d_MO_fit_113 : decode prog_14_method_45_code 113 = .ok (.iload 7, 2) := by decide +kernel
theorem d_MO_fit_115 : decode prog_14_method_45_code 115 = .ok (.iaload, 1) := by decide +kernel
theorem d_MO_fit_116 : decode prog_14_method_45_code 116 = .ok (.aload_n 0, 1) := by decide +kernel
theorem d_MO_fit_117 : decode prog_14_method_45_code 117 = .ok (.getfield 58, 3) := by decide +kernel
theorem d_MO_fit_120 : decode prog_14_method_45_code 120 = .ok (.iload 7, 2) := by decide +kernel
theorem d_MO_fit_122 : decode prog_14_method_45_code 122 = .ok (.iaload, 1) := by decide +kernel
theorem d_MO_fit_123 : decode prog_14_method_45_code 123 = .ok (.if_icmp .eq 44, 3) := by decide +kernel
theorem d_MO_fit_126 : decode prog_14_method_45_code 126 = .ok (.iload_n 3, 1) := by decide +kernel
theorem d_MO_fit_127 : decode prog_14_method_45_code 127 = .ok (.ifCond .lt 24, 3) := by decide +kernel
theorem d_MO_fit_130 : decode prog_14_method_45_code 130 = .ok (.aload_n 0, 1) := by decide +kernel
theorem d_MO_fit_131 : decode prog_14_method_45_code 131 = .ok (.getfield 91, 3) := by decide +kernel
theorem d_MO_fit_134 : decode prog_14_method_45_code 134 = .ok (.iload 4, 2) := by decide +kernel
theorem d_MO_fit_136 : decode prog_14_method_45_code 136 = .ok (.iaload, 1) := by decide +kernel
theorem d_MO_fit_137 : decode prog_14_method_45_code 137 = .ok (.aload_n 0, 1) := by decide +kernel
theorem d_MO_fit_138 : decode prog_14_method_45_code 138 = .ok (.getfield 55, 3) := by decide +kernel
theorem d_MO_fit_141 : decode prog_14_method_45_code 141 = .ok (.iload 7, 2) := by decide +kernel
theorem d_MO_fit_143 : decode prog_14_method_45_code 143 = .ok (.iaload, 1) := by decide +kernel
theorem d_MO_fit_144 : decode prog_14_method_45_code 144 = .ok (.isub, 1) := by decide +kernel
theorem d_MO_fit_145 : decode prog_14_method_45_code 145 = .ok (.iload_n 3, 1) := by decide +kernel
theorem d_MO_fit_146 : decode prog_14_method_45_code 146 = .ok (.if_icmp .eq 5, 3) := by decide +kernel
theorem d_MO_fit_149 : decode prog_14_method_45_code 149 = .ok (.iconst (-1), 1) := by decide +kernel
theorem d_MO_fit_150 : decode prog_14_method_45_code 150 = .ok (.ireturn, 1) := by decide +kernel
theorem d_MO_fit_151 : decode prog_14_method_45_code 151 = .ok (.aload_n 0, 1) := by decide +kernel
theorem d_MO_fit_152 : decode prog_14_method_45_code 152 = .ok (.getfield 91, 3) := by decide +kernel
theorem d_MO_fit_155 : decode prog_14_method_45_code 155 = .ok (.iload 4, 2) := by decide +kernel
theorem d_MO_fit_157 : decode prog_14_method_45_code 157 = .ok (.iaload, 1) := by decide +kernel
theorem d_MO_fit_158 : decode prog_14_method_45_code 158 = .ok (.aload_n 0, 1) := by decide +kernel
theorem d_MO_fit_159 : decode prog_14_method_45_code 159 = .ok (.getfield 55, 3) := by decide +kernel
theorem d_MO_fit_162 : decode prog_14_method_45_code 162 = .ok (.iload 7, 2) := by decide +kernel
theorem d_MO_fit_164 : decode prog_14_method_45_code 164 = .ok (.iaload, 1) := by decide +kernel
theorem d_MO_fit_165 : decode prog_14_method_45_code 165 = .ok (.isub, 1) := by decide +kernel
theorem d_MO_fit_166 : decode prog_14_method_45_code 166 = .ok (.istore_n 3, 1) := by decide +kernel
theorem d_MO_fit_167 : decode prog_14_method_45_code 167 = .ok (.iinc 4 1, 3) := by decide +kernel
theorem d_MO_fit_170 : decode prog_14_method_45_code 170 = .ok (.iinc 7 1, 3) := by decide +kernel
theorem d_MO_fit_173 : decode prog_14_method_45_code 173 = .ok (.goto (-138), 3) := by decide +kernel
theorem d_MO_fit_176 : decode prog_14_method_45_code 176 = .ok (.iload_n 3, 1) := by decide +kernel
theorem d_MO_fit_177 : decode prog_14_method_45_code 177 = .ok (.ifCond .ge 7, 3) := by decide +kernel
theorem d_MO_fit_180 : decode prog_14_method_45_code 180 = .ok (.iconst 0, 1) := by decide +kernel
theorem d_MO_fit_181 : decode prog_14_method_45_code 181 = .ok (.goto 4, 3) := by decide +kernel
theorem d_MO_fit_184 : decode prog_14_method_45_code 184 = .ok (.iload_n 3, 1) := by decide +kernel
theorem d_MO_fit_185 : decode prog_14_method_45_code 185 = .ok (.ireturn, 1) := by decide +kernel
theorem d_MO_emitShort_0 : decode prog_14_method_46_code 0 = .ok (.aload_n 0, 1) := by decide +kernel
theorem d_MO_emitShort_1 : decode prog_14_method_46_code 1 = .ok (.ldc2_w 223, 3) := by decide +kernel
theorem d_MO_emitShort_4 : decode prog_14_method_46_code 4 = .ok (.iconst 4, 1) := by decide +kernel
theorem d_MO_emitShort_5 : decode prog_14_method_46_code 5 = .ok (.invokevirtual 261, 3) := by decide +kernel
theorem d_MO_emitShort_8 : decode prog_14_method_46_code 8 = .ok (.aload_n 0, 1) := by decide +kernel
theorem d_MO_emitShort_9 : decode prog_14_method_46_code 9 = .ok (.aload_n 0, 1) := by decide +kernel
theorem d_MO_emitShort_10 : decode prog_14_method_46_code 10 = .ok (.getfield 25, 3) := by decide +kernel
theorem d_MO_emitShort_13 : decode prog_14_method_46_code 13 = .ok (.iload_n 1, 1) := by decide +kernel
theorem d_MO_emitShort_14 : decode prog_14_method_46_code 14 = .ok (.iaload, 1) := by decide +kernel
theorem d_MO_emitShort_15 : decode prog_14_method_46_code 15 = .ok (.aload_n 0, 1) := by decide +kernel
theorem d_MO_emitShort_16 : decode prog_14_method_46_code 16 = .ok (.getfield 28, 3) := by decide +kernel
theorem d_MO_emitShort_19 : decode prog_14_method_46_code 19 = .ok (.iload_n 1, 1) := by decide +kernel
theorem d_MO_emitShort_20 : decode prog_14_method_46_code 20 = .ok (.iaload, 1) := by decide +kernel
theorem d_MO_emitShort_21 : decode prog_14_method_46_code 21 = .ok (.invokevirtual 255, 3) := by decide +kernel
theorem d_MO_emitShort_24 : decode prog_14_method_46_code 24 = .ok (.aload_n 0, 1) := by decide +kernel
theorem d_MO_emitShort_25 : decode prog_14_method_46_code 25 = .ok (.bipush 46, 2) := by decide +kernel
theorem d_MO_emitShort_27 : decode prog_14_method_46_code 27 = .ok (.invokevirtual 251, 3) := by decide +kernel
theorem d_MO_emitShort_30 : decode prog_14_method_46_code 30 = .ok (.aload_n 0, 1) := by decide +kernel
theorem d_MO_emitShort_31 : decode prog_14_method_46_code 31 = .ok (.iload_n 2, 1) := by decide +kernel
theorem d_MO_emitShort_32 : decode prog_14_method_46_code 32 = .ok (.iload_n 3, 1) := by decide +kernel
theorem d_MO_emitShort_33 : decode prog_14_method_46_code 33 = .ok (.invokevirtual 255, 3) := by decide +kernel
theorem d_MO_emitShort_36 : decode prog_14_method_46_code 36 = .ok (.aload_n 0, 1) := by decide +kernel
theorem d_MO_emitShort_37 : decode prog_14_method_46_code 37 = .ok (.bipush 40, 2) := by decide +kernel
theorem d_MO_emitShort_39 : decode prog_14_method_46_code 39 = .ok (.invokevirtual 251, 3) := by decide +kernel
theorem d_MO_emitShort_42 : decode prog_14_method_46_code 42 = .ok (.return_, 1) := by decide +kernel
theorem d_MO_emitPlace_0 : decode prog_14_method_47_code 0 = .ok (.aload_n 0, 1) := by decide +kernel
theorem d_MO_emitPlace_1 : decode prog_14_method_47_code 1 = .ok (.iload_n 1, 1) := by decide +kernel
theorem d_MO_emitPlace_2 : decode prog_14_method_47_code 2 = .ok (.invokevirtual 301, 3) := by decide +kernel
theorem d_MO_emitPlace_5 : decode prog_14_method_47_code 5 = .ok (.ifCond .eq 7, 3) := by decide +kernel
theorem d_MO_emitPlace_8 : decode prog_14_method_47_code 8 = .ok (.aload_n 0, 1) := by decide +kernel
theorem d_MO_emitPlace_9 : decode prog_14_method_47_code 9 = .ok (.invokevirtual 317, 3) := by decide +kernel
theorem d_MO_emitPlace_12 : decode prog_14_method_47_code 12 = .ok (.aload_n 0, 1) := by decide +kernel
theorem d_MO_emitPlace_13 : decode prog_14_method_47_code 13 = .ok (.iload_n 1, 1) := by decide +kernel
theorem d_MO_emitPlace_14 : decode prog_14_method_47_code 14 = .ok (.invokevirtual 304, 3) := by decide +kernel
theorem d_MO_emitPlace_17 : decode prog_14_method_47_code 17 = .ok (.return_, 1) := by decide +kernel
theorem d_MO_shortenFrame_0 : decode prog_14_method_48_code 0 = .ok (.iconst (-1), 1) := by decide +kernel
theorem d_MO_shortenFrame_1 : decode prog_14_method_48_code 1 = .ok (.istore_n 2, 1) := by decide +kernel
theorem d_MO_shortenFrame_2 : decode prog_14_method_48_code 2 = .ok (.aload_n 0, 1) := by decide +kernel
theorem d_MO_shortenFrame_3 : decode prog_14_method_48_code 3 = .ok (.getfield 173, 3) := by decide +kernel
theorem d_MO_shortenFrame_6 : decode prog_14_method_48_code 6 = .ok (.iconst 1, 1) := by decide +kernel
theorem d_MO_shortenFrame_7 : decode prog_14_method_48_code 7 = .ok (.isub, 1) := by decide +kernel
theorem d_MO_shortenFrame_8 : decode prog_14_method_48_code 8 = .ok (.istore_n 3, 1) := by decide +kernel
theorem d_MO_shortenFrame_9 : decode prog_14_method_48_code 9 = .ok (.iload_n 3, 1) := by decide +kernel
theorem d_MO_shortenFrame_10 : decode prog_14_method_48_code 10 = .ok (.ifCond .lt 65, 3) := by decide +kernel
theorem d_MO_shortenFrame_13 : decode prog_14_method_48_code 13 = .ok (.iload_n 2, 1) := by decide +kernel
theorem d_MO_shortenFrame_14 : decode prog_14_method_48_code 14 = .ok (.ifCond .lt 28, 3) := by decide +kernel
theorem d_MO_shortenFrame_17 : decode prog_14_method_48_code 17 = .ok (.aload_n 0, 1) := by decide +kernel
theorem d_MO_shortenFrame_18 : decode prog_14_method_48_code 18 = .ok (.iload_n 3, 1) := by decide +kernel
theorem d_MO_shortenFrame_19 : decode prog_14_method_48_code 19 = .ok (.invokevirtual 272, 3) := by decide +kernel
theorem d_MO_shortenFrame_22 : decode prog_14_method_48_code 22 = .ok (.aload_n 0, 1) := by decide +kernel
theorem d_MO_shortenFrame_23 : decode prog_14_method_48_code 23 = .ok (.iload_n 3, 1) := by decide +kernel
theorem d_MO_shortenFrame_24 : decode prog_14_method_48_code 24 = .ok (.invokevirtual 269, 3) := by decide +kernel
theorem d_MO_shortenFrame_27 : decode prog_14_method_48_code 27 = .ok (.isub, 1) := by decide +kernel
theorem d_MO_shortenFrame_28 : decode prog_14_method_48_code 28 = .ok (.aload_n 0, 1) := by decide +kernel
theorem d_MO_shortenFrame_29 : decode prog_14_method_48_code 29 = .ok (.iload_n 2, 1) := by decide +kernel
theorem d_MO_shortenFrame_30 : decode prog_14_method_48_code 30 = .ok (.invokevirtual 272, 3) := by decide +kernel
theorem d_MO_shortenFrame_33 : decode prog_14_method_48_code 33 = .ok (.aload_n 0, 1) := by decide +kernel
theorem d_MO_shortenFrame_34 : decode prog_14_method_48_code 34 = .ok (.iload_n 2, 1) := by decide +kernel
theorem d_MO_shortenFrame_35 : decode prog_14_method_48_code 35 = .ok (.invokevirtual 269, 3) := by decide +kernel
theorem d_MO_shortenFrame_38 : decode prog_14_method_48_code 38 = .ok (.isub, 1) := by decide +kernel
theorem d_MO_shortenFrame_39 : decode prog_14_method_48_code 39 = .ok (.if_icmp .lt 7, 3) := by decide +kernel
theorem d_MO_shortenFrame_42 : decode prog_14_method_48_code 42 = .ok (.iconst 1, 1) := by decide +kernel
theorem d_MO_shortenFrame_43 : decode prog_14_method_48_code 43 = .ok (.goto 4, 3) := by decide +kernel
theorem d_MO_shortenFrame_46 : decode prog_14_method_48_code 46 = .ok (.iconst 0, 1) := by decide +kernel
theorem d_MO_shortenFrame_47 : decode prog_14_method_48_code 47 = .ok (.istore 4, 2) := by decide +kernel
theorem d_MO_shortenFrame_49 : decode prog_14_method_48_code 49 = .ok (.iload 4, 2) := by decide +kernel
theorem d_MO_shortenFrame_51 : decode prog_14_method_48_code 51 = .ok (.ifCond .eq 16, 3) := by decide +kernel
theorem d_MO_shortenFrame_54 : decode prog_14_method_48_code 54 = .ok (.aload_n 0, 1) := by decide +kernel
theorem d_MO_shortenFrame_55 : decode prog_14_method_48_code 55 = .ok (.iload_n 3, 1) := by decide +kernel
theorem d_MO_shortenFrame_56 : decode prog_14_method_48_code 56 = .ok (.iload_n 1, 1) := by decide +kernel
theorem d_MO_shortenFrame_57 : decode prog_14_method_48_code 57 = .ok (.invokevirtual 320, 3) := by decide +kernel
theorem d_MO_shortenFrame_60 : decode prog_14_method_48_code 60 = .ok (.ifCond .lt 7, 3) := by decide +kernel
theorem d_MO_shortenFrame_63 : decode prog_14_method_48_code 63 = .ok (.iload_n 3, 1) := by decide +kernel
theorem d_MO_shortenFrame_64 : decode prog_14_method_48_code 64 = .ok (.goto 4, 3) := by decide +kernel
theorem d_MO_shortenFrame_67 : decode prog_14_method_48_code 67 = .ok (.iload_n 2, 1) := by decide +kernel
theorem d_MO_shortenFrame_68 : decode prog_14_method_48_code 68 = .ok (.istore_n 2, 1) := by decide +kernel
theorem d_MO_shortenFrame_69 : decode prog_14_method_48_code 69 = .ok (.iinc 3 (-1), 3) := by decide +kernel
theorem d_MO_shortenFrame_72 : decode prog_14_method_48_code 72 = .ok (.goto (-63), 3) := by decide +kernel
theorem d_MO_shortenFrame_75 : decode prog_14_method_48_code 75 = .ok (.iload_n 2, 1) := by decide +kernel
theorem d_MO_shortenFrame_76 : decode prog_14_method_48_code 76 = .ok (.ifCond .lt 82, 3) := by decide +kernel
theorem d_MO_shortenFrame_79 : decode prog_14_method_48_code 79 = .ok (.aload_n 0, 1) := by decide +kernel
theorem d_MO_shortenFrame_80 : decode prog_14_method_48_code 80 = .ok (.iload_n 2, 1) := by decide +kernel
theorem d_MO_shortenFrame_81 : decode prog_14_method_48_code 81 = .ok (.invokevirtual 269, 3) := by decide +kernel
theorem d_MO_shortenFrame_84 : decode prog_14_method_48_code 84 = .ok (.istore_n 3, 1) := by decide +kernel
theorem d_MO_shortenFrame_85 : decode prog_14_method_48_code 85 = .ok (.aload_n 0, 1) := by decide +kernel
theorem d_MO_shortenFrame_86 : decode prog_14_method_48_code 86 = .ok (.aload_n 0, 1) := by decide +kernel
theorem d_MO_shortenFrame_87 : decode prog_14_method_48_code 87 = .ok (.getfield 61, 3) := by decide +kernel
theorem d_MO_shortenFrame_90 : decode prog_14_method_48_code 90 = .ok (.iload_n 3, 1) := by decide +kernel
theorem d_MO_shortenFrame_91 : decode prog_14_method_48_code 91 = .ok (.iaload, 1) := by decide +kernel
theorem d_MO_shortenFrame_92 : decode prog_14_method_48_code 92 = .ok (.aload_n 0, 1) := by decide +kernel
theorem d_MO_shortenFrame_93 : decode prog_14_method_48_code 93 = .ok (.getfield 43, 3) := by decide +kernel
theorem d_MO_shortenFrame_96 : decode prog_14_method_48_code 96 = .ok (.iload_n 3, 1) := by decide +kernel
theorem d_MO_shortenFrame_97 : decode prog_14_method_48_code 97 = .ok (.iaload, 1) := by decide +kernel
theorem d_MO_shortenFrame_98 : decode prog_14_method_48_code 98 = .ok (.aload_n 0, 1) := by decide +kernel
theorem d_MO_shortenFrame_99 : decode prog_14_method_48_code 99 = .ok (.getfield 46, 3) := by decide +kernel
theorem d_MO_shortenFrame_102 : decode prog_14_method_48_code 102 = .ok (.iload_n 3, 1) := by decide +kernel
theorem d_MO_shortenFrame_103 : decode prog_14_method_48_code 103 = .ok (.iaload, 1) := by decide +kernel
theorem d_MO_shortenFrame_104 : decode prog_14_method_48_code 104 = .ok (.invokevirtual 323, 3) := by decide +kernel
theorem d_MO_shortenFrame_107 : decode prog_14_method_48_code 107 = .ok (.aload_n 0, 1) := by decide +kernel
theorem d_MO_shortenFrame_108 : decode prog_14_method_48_code 108 = .ok (.invokevirtual 317, 3) := by decide +kernel
theorem d_MO_shortenFrame_111 : decode prog_14_method_48_code 111 = .ok (.aload_n 0, 1) := by decide +kernel
theorem d_MO_shortenFrame_112 : decode prog_14_method_48_code 112 = .ok (.bipush 58, 2) := by decide +kernel
theorem d_MO_shortenFrame_114 : decode prog_14_method_48_code 114 = .ok (.invokevirtual 251, 3) := by decide +kernel
theorem d_MO_shortenFrame_117 : decode prog_14_method_48_code 117 = .ok (.aload_n 0, 1) := by decide +kernel
theorem d_MO_shortenFrame_118 : decode prog_14_method_48_code 118 = .ok (.aload_n 0, 1) := by decide +kernel
theorem d_MO_shortenFrame_119 : decode prog_14_method_48_code 119 = .ok (.getfield 49, 3) := by decide +kernel
theorem d_MO_shortenFrame_122 : decode prog_14_method_48_code 122 = .ok (.iload_n 3, 1) := by decide +kernel
theorem d_MO_shortenFrame_123 : decode prog_14_method_48_code 123 = .ok (.iaload, 1) := by decide +kernel
theorem d_MO_shortenFrame_124 : decode prog_14_method_48_code 124 = .ok (.aload_n 0, 1) := by decide +kernel
theorem d_MO_shortenFrame_125 : decode prog_14_method_48_code 125 = .ok (.iload_n 2, 1) := by decide +kernel
theorem d_MO_shortenFrame_126 : decode prog_14_method_48_code 126 = .ok (.iload_n 1, 1) := by decide +kernel
theorem d_MO_shortenFrame_127 : decode prog_14_method_48_code 127 = .ok (.invokevirtual 320, 3) := by decide +kernel
theorem d_MO_shortenFrame_130 : decode prog_14_method_48_code 130 = .ok (.iadd, 1) := by decide +kernel
theorem d_MO_shortenFrame_131 : decode prog_14_method_48_code 131 = .ok (.invokevirtual 281, 3) := by decide +kernel
theorem d_MO_shortenFrame_134 : decode prog_14_method_48_code 134 = .ok (.aload_n 0, 1) := by decide +kernel
theorem d_MO_shortenFrame_135 : decode prog_14_method_48_code 135 = .ok (.bipush 41, 2) := by decide +kernel
theorem d_MO_shortenFrame_137 : decode prog_14_method_48_code 137 = .ok (.invokevirtual 251, 3) := by decide +kernel
theorem d_MO_shortenFrame_140 : decode prog_14_method_48_code 140 = .ok (.aload_n 0, 1) := by decide +kernel
theorem d_MO_shortenFrame_141 : decode prog_14_method_48_code 141 = .ok (.bipush 10, 2) := by decide +kernel
theorem d_MO_shortenFrame_143 : decode prog_14_method_48_code 143 = .ok (.invokevirtual 251, 3) := by decide +kernel
theorem d_MO_shortenFrame_146 : decode prog_14_method_48_code 146 = .ok (.iload_n 1, 1) := by decide +kernel
theorem d_MO_shortenFrame_147 : decode prog_14_method_48_code 147 = .ok (.aload_n 0, 1) := by decide +kernel
theorem d_MO_shortenFrame_148 : decode prog_14_method_48_code 148 = .ok (.iload_n 2, 1) := by decide +kernel
theorem d_MO_shortenFrame_149 : decode prog_14_method_48_code 149 = .ok (.invokevirtual 272, 3) := by decide +kernel
theorem d_MO_shortenFrame_152 : decode prog_14_method_48_code 152 = .ok (.iadd, 1) := by decide +kernel
theorem d_MO_shortenFrame_153 : decode prog_14_method_48_code 153 = .ok (.iload_n 3, 1) := by decide +kernel
theorem d_MO_shortenFrame_154 : decode prog_14_method_48_code 154 = .ok (.isub, 1) := by decide +kernel
theorem d_MO_shortenFrame_155 : decode prog_14_method_48_code 155 = .ok (.iconst 1, 1) := by decide +kernel
theorem d_MO_shortenFrame_156 : decode prog_14_method_48_code 156 = .ok (.iadd, 1) := by decide +kernel
theorem d_MO_shortenFrame_157 : decode prog_14_method_48_code 157 = .ok (.ireturn, 1) := by decide +kernel
theorem d_MO_shortenFrame_158 : decode prog_14_method_48_code 158 = .ok (.iconst 0, 1) := by decide +kernel
theorem d_MO_shortenFrame_159 : decode prog_14_method_48_code 159 = .ok (.istore_n 3, 1) := by decide +kernel
theorem d_MO_shortenFrame_160 : decode prog_14_method_48_code 160 = .ok (.iload_n 3, 1) := by decide +kernel
theorem d_MO_shortenFrame_161 : decode prog_14_method_48_code 161 = .ok (.aload_n 0, 1) := by decide +kernel
theorem d_MO_shortenFrame_162 : decode prog_14_method_48_code 162 = .ok (.getfield 163, 3) := by decide +kernel
theorem d_MO_shortenFrame_165 : decode prog_14_method_48_code 165 = .ok (.if_icmp .ge 58, 3) := by decide +kernel
theorem d_MO_shortenFrame_168 : decode prog_14_method_48_code 168 = .ok (.aload_n 0, 1) := by decide +kernel
theorem d_MO_shortenFrame_169 : decode prog_14_method_48_code 169 = .ok (.getfield 49, 3) := by decide +kernel
theorem d_MO_shortenFrame_172 : decode prog_14_method_48_code 172 = .ok (.iload_n 3, 1) := by decide +kernel
theorem d_MO_shortenFrame_173 : decode prog_14_method_48_code 173 = .ok (.iaload, 1) := by decide +kernel
theorem d_MO_shortenFrame_174 : decode prog_14_method_48_code 174 = .ok (.ifCond .ge 43, 3) := by decide +kernel
theorem d_MO_shortenFrame_177 : decode prog_14_method_48_code 177 = .ok (.aload_n 0, 1) := by decide +kernel
theorem d_MO_shortenFrame_178 : decode prog_14_method_48_code 178 = .ok (.iload_n 1, 1) := by decide +kernel
theorem d_MO_shortenFrame_179 : decode prog_14_method_48_code 179 = .ok (.iload_n 3, 1) := by decide +kernel
theorem d_MO_shortenFrame_180 : decode prog_14_method_48_code 180 = .ok (.invokevirtual 314, 3) := by decide +kernel
theorem d_MO_shortenFrame_183 : decode prog_14_method_48_code 183 = .ok (.ifCond .eq 34, 3) := by decide +kernel
theorem d_MO_shortenFrame_186 : decode prog_14_method_48_code 186 = .ok (.aload_n 0, 1) := by decide +kernel
theorem d_MO_shortenFrame_187 : decode prog_14_method_48_code 187 = .ok (.aload_n 0, 1) := by decide +kernel
theorem d_MO_shortenFrame_188 : decode prog_14_method_48_code 188 = .ok (.getfield 61, 3) := by decide +kernel
theorem d_MO_shortenFrame_191 : decode prog_14_method_48_code 191 = .ok (.iload_n 3, 1) := by decide +kernel
theorem d_MO_shortenFrame_192 : decode prog_14_method_48_code 192 = .ok (.iaload, 1) := by decide +kernel
theorem d_MO_shortenFrame_193 : decode prog_14_method_48_code 193 = .ok (.aload_n 0, 1) := by decide +kernel
theorem d_MO_shortenFrame_194 : decode prog_14_method_48_code 194 = .ok (.getfield 43, 3) := by decide +kernel
theorem d_MO_shortenFrame_197 : decode prog_14_method_48_code 197 = .ok (.iload_n 3, 1) := by decide +kernel
theorem d_MO_shortenFrame_198 : decode prog_14_method_48_code 198 = .ok (.iaload, 1) := by decide +kernel
theorem d_MO_shortenFrame_199 : decode prog_14_method_48_code 199 = .ok (.aload_n 0, 1) := by decide +kernel
theorem d_MO_shortenFrame_200 : decode prog_14_method_48_code 200 = .ok (.getfield 46, 3) := by decide +kernel
theorem d_MO_shortenFrame_203 : decode prog_14_method_48_code 203 = .ok (.iload_n 3, 1) := by decide +kernel
theorem d_MO_shortenFrame_204 : decode prog_14_method_48_code 204 = .ok (.iaload, 1) := by decide +kernel
theorem d_MO_shortenFrame_205 : decode prog_14_method_48_code 205 = .ok (.invokevirtual 323, 3) := by decide +kernel
theorem d_MO_shortenFrame_208 : decode prog_14_method_48_code 208 = .ok (.aload_n 0, 1) := by decide +kernel
theorem d_MO_shortenFrame_209 : decode prog_14_method_48_code 209 = .ok (.iload_n 1, 1) := by decide +kernel
theorem d_MO_shortenFrame_210 : decode prog_14_method_48_code 210 = .ok (.invokevirtual 326, 3) := by decide +kernel
theorem d_MO_shortenFrame_213 : decode prog_14_method_48_code 213 = .ok (.iload_n 1, 1) := by decide +kernel
theorem d_MO_shortenFrame_214 : decode prog_14_method_48_code 214 = .ok (.iconst 1, 1) := by decide +kernel
theorem d_MO_shortenFrame_215 : decode prog_14_method_48_code 215 = .ok (.iadd, 1) := by decide +kernel
theorem d_MO_shortenFrame_216 : decode prog_14_method_48_code 216 = .ok (.ireturn, 1) := by decide +kernel
theorem d_MO_shortenFrame_217 : decode prog_14_method_48_code 217 = .ok (.iinc 3 1, 3) := by decide +kernel
theorem d_MO_shortenFrame_220 : decode prog_14_method_48_code 220 = .ok (.goto (-60), 3) := by decide +kernel
theorem d_MO_shortenFrame_223 : decode prog_14_method_48_code 223 = .ok (.aload_n 0, 1) := by decide +kernel
theorem d_MO_shortenFrame_224 : decode prog_14_method_48_code 224 = .ok (.aload_n 0, 1) := by decide +kernel
theorem d_MO_shortenFrame_225 : decode prog_14_method_48_code 225 = .ok (.getfield 76, 3) := by decide +kernel
theorem d_MO_shortenFrame_228 : decode prog_14_method_48_code 228 = .ok (.iload_n 1, 1) := by decide +kernel
theorem d_MO_shortenFrame_229 : decode prog_14_method_48_code 229 = .ok (.iaload, 1) := by decide +kernel
theorem d_MO_shortenFrame_230 : decode prog_14_method_48_code 230 = .ok (.aload_n 0, 1) := by decide +kernel
theorem d_MO_shortenFrame_231 : decode prog_14_method_48_code 231 = .ok (.getfield 82, 3) := by decide +kernel
theorem d_MO_shortenFrame_234 : decode prog_14_method_48_code 234 = .ok (.iload_n 1, 1) := by decide +kernel
theorem d_MO_shortenFrame_235 : decode prog_14_method_48_code 235 = .ok (.iaload, 1) := by decide +kernel
theorem d_MO_shortenFrame_236 : decode prog_14_method_48_code 236 = .ok (.iconst 1, 1) := by decide +kernel
theorem d_MO_shortenFrame_237 : decode prog_14_method_48_code 237 = .ok (.isub, 1) := by decide +kernel
theorem d_MO_shortenFrame_238 : decode prog_14_method_48_code 238 = .ok (.iconst 1, 1) := by decide +kernel
theorem d_MO_shortenFrame_239 : decode prog_14_method_48_code 239 = .ok (.invokevirtual 284, 3) := by decide +kernel
theorem d_MO_shortenFrame_242 : decode prog_14_method_48_code 242 = .ok (.istore_n 3, 1) := by decide +kernel
theorem d_MO_shortenFrame_243 : decode prog_14_method_48_code 243 = .ok (.iload_n 3, 1) := by decide +kernel
theorem d_MO_shortenFrame_244 : decode prog_14_method_48_code 244 = .ok (.ifCond .lt 28, 3) := by decide +kernel
theorem d_MO_shortenFrame_247 : decode prog_14_method_48_code 247 = .ok (.aload_n 0, 1) := by decide +kernel
theorem d_MO_shortenFrame_248 : decode prog_14_method_48_code 248 = .ok (.iload_n 3, 1) := by decide +kernel
theorem d_MO_shortenFrame_249 : decode prog_14_method_48_code 249 = .ok (.aload_n 0, 1) := by decide +kernel
theorem d_MO_shortenFrame_250 : decode prog_14_method_48_code 250 = .ok (.getfield 82, 3) := by decide +kernel
theorem d_MO_shortenFrame_253 : decode prog_14_method_48_code 253 = .ok (.iload_n 1, 1) := by decide +kernel
theorem d_MO_shortenFrame_254 : decode prog_14_method_48_code 254 = .ok (.iaload, 1) := by decide +kernel
theorem d_MO_shortenFrame_255 : decode prog_14_method_48_code 255 = .ok (.aload_n 0, 1) := by decide +kernel
theorem d_MO_shortenFrame_256 : decode prog_14_method_48_code 256 = .ok (.getfield 79, 3) := by decide +kernel
theorem d_MO_shortenFrame_259 : decode prog_14_method_48_code 259 = .ok (.iload_n 1, 1) := by decide +kernel
theorem d_MO_shortenFrame_260 : decode prog_14_method_48_code 260 = .ok (.iaload, 1) := by decide +kernel
theorem d_MO_shortenFrame_261 : decode prog_14_method_48_code 261 = .ok (.invokevirtual 323, 3) := by decide +kernel
theorem d_MO_shortenFrame_264 : decode prog_14_method_48_code 264 = .ok (.aload_n 0, 1) := by decide +kernel
theorem d_MO_shortenFrame_265 : decode prog_14_method_48_code 265 = .ok (.iload_n 1, 1) := by decide +kernel
theorem d_MO_shortenFrame_266 : decode prog_14_method_48_code 266 = .ok (.invokevirtual 326, 3) := by decide +kernel
theorem d_MO_shortenFrame_269 : decode prog_14_method_48_code 269 = .ok (.goto 25, 3) := by decide +kernel
theorem d_MO_shortenFrame_272 : decode prog_14_method_48_code 272 = .ok (.aload_n 0, 1) := by decide +kernel
theorem d_MO_shortenFrame_273 : decode prog_14_method_48_code 273 = .ok (.aload_n 0, 1) := by decide +kernel
theorem d_MO_shortenFrame_274 : decode prog_14_method_48_code 274 = .ok (.getfield 70, 3) := by decide +kernel
theorem d_MO_shortenFrame_277 : decode prog_14_method_48_code 277 = .ok (.iload_n 1, 1) := by decide +kernel
theorem d_MO_shortenFrame_278 : decode prog_14_method_48_code 278 = .ok (.iaload, 1) := by decide +kernel
theorem d_MO_shortenFrame_279 : decode prog_14_method_48_code 279 = .ok (.aload_n 0, 1) := by decide +kernel
theorem d_MO_shortenFrame_280 : decode prog_14_method_48_code 280 = .ok (.getfield 73, 3) := by decide +kernel
theorem d_MO_shortenFrame_283 : decode prog_14_method_48_code 283 = .ok (.iload_n 1, 1) := by decide +kernel
theorem d_MO_shortenFrame_284 : decode prog_14_method_48_code 284 = .ok (.iaload, 1) := by decide +kernel
theorem d_MO_shortenFrame_285 : decode prog_14_method_48_code 285 = .ok (.invokevirtual 255, 3) := by decide +kernel
theorem d_MO_shortenFrame_288 : decode prog_14_method_48_code 288 = .ok (.aload_n 0, 1) := by decide +kernel
theorem d_MO_shortenFrame_289 : decode prog_14_method_48_code 289 = .ok (.bipush 10, 2) := by decide +kernel
theorem d_MO_shortenFrame_291 : decode prog_14_method_48_code 291 = .ok (.invokevirtual 251, 3) := by decide +kernel
theorem d_MO_shortenFrame_294 : decode prog_14_method_48_code 294 = .ok (.iload_n 1, 1) := by decide +kernel
theorem d_MO_shortenFrame_295 : decode prog_14_method_48_code 295 = .ok (.iconst 1, 1) := by decide +kernel
theorem d_MO_shortenFrame_296 : decode prog_14_method_48_code 296 = .ok (.iadd, 1) := by decide +kernel
theorem d_MO_shortenFrame_297 : decode prog_14_method_48_code 297 = .ok (.ireturn, 1) := by decide +kernel
theorem d_MO_shortenAll_0 : decode prog_14_method_49_code 0 = .ok (.aload_n 0, 1) := by decide +kernel
theorem d_MO_shortenAll_1 : decode prog_14_method_49_code 1 = .ok (.iconst 0, 1) := by decide +kernel
theorem d_MO_shortenAll_2 : decode prog_14_method_49_code 2 = .ok (.putfield 245, 3) := by decide +kernel
theorem d_MO_shortenAll_5 : decode prog_14_method_49_code 5 = .ok (.aload_n 0, 1) := by decide +kernel
theorem d_MO_shortenAll_6 : decode prog_14_method_49_code 6 = .ok (.iconst 0, 1) := by decide +kernel
theorem d_MO_shortenAll_7 : decode prog_14_method_49_code 7 = .ok (.putfield 248, 3) := by decide +kernel
theorem d_MO_shortenAll_10 : decode prog_14_method_49_code 10 = .ok (.iconst 0, 1) := by decide +kernel
theorem d_MO_shortenAll_11 : decode prog_14_method_49_code 11 = .ok (.istore_n 1, 1) := by decide +kernel
theorem d_MO_shortenAll_12 : decode prog_14_method_49_code 12 = .ok (.iload_n 1, 1) := by decide +kernel
theorem d_MO_shortenAll_13 : decode prog_14_method_49_code 13 = .ok (.aload_n 0, 1) := by decide +kernel
theorem d_MO_shortenAll_14 : decode prog_14_method_49_code 14 = .ok (.getfield 203, 3) := by decide +kernel
theorem d_MO_shortenAll_17 : decode prog_14_method_49_code 17 = .ok (.if_icmp .ge 106, 3) := by decide +kernel
theorem d_MO_shortenAll_20 : decode prog_14_method_49_code 20 = .ok (.aload_n 0, 1) := by decide +kernel
theorem d_MO_shortenAll_21 : decode prog_14_method_49_code 21 = .ok (.getfield 67, 3) := by decide +kernel
theorem d_MO_shortenAll_24 : decode prog_14_method_49_code 24 = .ok (.iload_n 1, 1) := by decide +kernel
theorem d_MO_shortenAll_25 : decode prog_14_method_49_code 25 = .ok (.iaload, 1) := by decide +kernel
theorem d_MO_shortenAll_26 : decode prog_14_method_49_code 26 = .ok (.iconst 2, 1) := by decide +kernel
theorem d_MO_shortenAll_27 : decode prog_14_method_49_code 27 = .ok (.if_icmp .ne 12, 3) := by decide +kernel
theorem d_MO_shortenAll_30 : decode prog_14_method_49_code 30 = .ok (.aload_n 0, 1) := by decide +kernel
theorem d_MO_shortenAll_31 : decode prog_14_method_49_code 31 = .ok (.iload_n 1, 1) := by decide +kernel
theorem d_MO_shortenAll_32 : decode prog_14_method_49_code 32 = .ok (.invokevirtual 329, 3) := by decide +kernel
theorem d_MO_shortenAll_35 : decode prog_14_method_49_code 35 = .ok (.istore_n 1, 1) := by decide +kernel
theorem d_MO_shortenAll_36 : decode prog_14_method_49_code 36 = .ok (.goto (-24), 3) := by decide +kernel
theorem d_MO_shortenAll_39 : decode prog_14_method_49_code 39 = .ok (.aload_n 0, 1) := by decide +kernel
theorem d_MO_shortenAll_40 : decode prog_14_method_49_code 40 = .ok (.getfield 67, 3) := by decide +kernel
theorem d_MO_shortenAll_43 : decode prog_14_method_49_code 43 = .ok (.iload_n 1, 1) := by decide +kernel
theorem d_MO_shortenAll_44 : decode prog_14_method_49_code 44 = .ok (.iaload, 1) := by decide +kernel
theorem d_MO_shortenAll_45 : decode prog_14_method_49_code 45 = .ok (.iconst 2, 1) := by decide +kernel
theorem d_MO_shortenAll_46 : decode prog_14_method_49_code 46 = .ok (.if_icmp .ge 23, 3) := by decide +kernel
theorem d_MO_shortenAll_49 : decode prog_14_method_49_code 49 = .ok (.aload_n 0, 1) := by decide +kernel
theorem d_MO_shortenAll_50 : decode prog_14_method_49_code 50 = .ok (.aload_n 0, 1) := by decide +kernel
theorem d_MO_shortenAll_51 : decode prog_14_method_49_code 51 = .ok (.getfield 76, 3) := by decide +kernel
theorem d_MO_shortenAll_54 : decode prog_14_method_49_code 54 = .ok (.iload_n 1, 1) := by decide +kernel
theorem d_MO_shortenAll_55 : decode prog_14_method_49_code 55 = .ok (.iaload, 1) := by decide +kernel
theorem d_MO_shortenAll_56 : decode prog_14_method_49_code 56 = .ok (.aload_n 0, 1) := by decide +kernel
theorem d_MO_shortenAll_57 : decode prog_14_method_49_code 57 = .ok (.getfield 79, 3) := by decide +kernel
theorem d_MO_shortenAll_60 : decode prog_14_method_49_code 60 = .ok (.iload_n 1, 1) := by decide +kernel
theorem d_MO_shortenAll_61 : decode prog_14_method_49_code 61 = .ok (.iaload, 1) := by decide +kernel
theorem d_MO_shortenAll_62 : decode prog_14_method_49_code 62 = .ok (.iconst 1, 1) := by decide +kernel
theorem d_MO_shortenAll_63 : decode prog_14_method_49_code 63 = .ok (.invokevirtual 284, 3) := by decide +kernel
theorem d_MO_shortenAll_66 : decode prog_14_method_49_code 66 = .ok (.goto 4, 3) := by decide +kernel
theorem d_MO_shortenAll_69 : decode prog_14_method_49_code 69 = .ok (.iconst (-1), 1) := by decide +kernel
theorem d_MO_shortenAll_70 : decode prog_14_method_49_code 70 = .ok (.istore_n 2, 1) := by decide +kernel
theorem d_MO_shortenAll_71 : decode prog_14_method_49_code 71 = .ok (.iload_n 2, 1) := by decide +kernel
theorem d_MO_shortenAll_72 : decode prog_14_method_49_code 72 = .ok (.ifCond .lt 23, 3) := by decide +kernel
theorem d_MO_shortenAll_75 : decode prog_14_method_49_code 75 = .ok (.aload_n 0, 1) := by decide +kernel
theorem d_MO_shortenAll_76 : decode prog_14_method_49_code 76 = .ok (.iload_n 1, 1) := by decide +kernel
theorem d_MO_shortenAll_77 : decode prog_14_method_49_code 77 = .ok (.aload_n 0, 1) := by decide +kernel
theorem d_MO_shortenAll_78 : decode prog_14_method_49_code 78 = .ok (.getfield 25, 3) := by decide +kernel
theorem d_MO_shortenAll_81 : decode prog_14_method_49_code 81 = .ok (.iload_n 2, 1) := by decide +kernel
theorem d_MO_shortenAll_82 : decode prog_14_method_49_code 82 = .ok (.iaload, 1) := by decide +kernel
theorem d_MO_shortenAll_83 : decode prog_14_method_49_code 83 = .ok (.aload_n 0, 1) := by decide +kernel
theorem d_MO_shortenAll_84 : decode prog_14_method_49_code 84 = .ok (.getfield 28, 3) := by decide +kernel
theorem d_MO_shortenAll_87 : decode prog_14_method_49_code 87 = .ok (.iload_n 2, 1) := by decide +kernel
theorem d_MO_shortenAll_88 : decode prog_14_method_49_code 88 = .ok (.iaload, 1) := by decide +kernel
theorem d_MO_shortenAll_89 : decode prog_14_method_49_code 89 = .ok (.invokevirtual 307, 3) := by decide +kernel
theorem d_MO_shortenAll_92 : decode prog_14_method_49_code 92 = .ok (.goto 25, 3) := by decide +kernel
theorem d_MO_shortenAll_95 : decode prog_14_method_49_code 95 = .ok (.aload_n 0, 1) := by decide +kernel
theorem d_MO_shortenAll_96 : decode prog_14_method_49_code 96 = .ok (.aload_n 0, 1) := by decide +kernel
theorem d_MO_shortenAll_97 : decode prog_14_method_49_code 97 = .ok (.getfield 70, 3) := by decide +kernel
theorem d_MO_shortenAll_100 : decode prog_14_method_49_code 100 = .ok (.iload_n 1, 1) := by decide +kernel
theorem d_MO_shortenAll_101 : decode prog_14_method_49_code 101 = .ok (.iaload, 1) := by decide +kernel
theorem d_MO_shortenAll_102 : decode prog_14_method_49_code 102 = .ok (.aload_n 0, 1) := by decide +kernel
theorem d_MO_shortenAll_103 : decode prog_14_method_49_code 103 = .ok (.getfield 73, 3) := by decide +kernel
theorem d_MO_shortenAll_106 : decode prog_14_method_49_code 106 = .ok (.iload_n 1, 1) := by decide +kernel
theorem d_MO_shortenAll_107 : decode prog_14_method_49_code 107 = .ok (.iaload, 1) := by decide +kernel
theorem d_MO_shortenAll_108 : decode prog_14_method_49_code 108 = .ok (.invokevirtual 255, 3) := by decide +kernel
theorem d_MO_shortenAll_111 : decode prog_14_method_49_code 111 = .ok (.aload_n 0, 1) := by decide +kernel
theorem d_MO_shortenAll_112 : decode prog_14_method_49_code 112 = .ok (.bipush 10, 2) := by decide +kernel
theorem d_MO_shortenAll_114 : decode prog_14_method_49_code 114 = .ok (.invokevirtual 251, 3) := by decide +kernel
theorem d_MO_shortenAll_117 : decode prog_14_method_49_code 117 = .ok (.iinc 1 1, 3) := by decide +kernel
theorem d_MO_shortenAll_120 : decode prog_14_method_49_code 120 = .ok (.goto (-108), 3) := by decide +kernel
theorem d_MO_shortenAll_123 : decode prog_14_method_49_code 123 = .ok (.return_, 1) := by decide +kernel
theorem d_MO_rewrite_0 : decode prog_14_method_50_code 0 = .ok (.aload_n 0, 1) := by decide +kernel
theorem d_MO_rewrite_1 : decode prog_14_method_50_code 1 = .ok (.sipush 600, 3) := by decide +kernel
theorem d_MO_rewrite_4 : decode prog_14_method_50_code 4 = .ok (.aload_n 0, 1) := by decide +kernel
theorem d_MO_rewrite_5 : decode prog_14_method_50_code 5 = .ok (.getfield 117, 3) := by decide +kernel
theorem d_MO_rewrite_8 : decode prog_14_method_50_code 8 = .ok (.iconst 0, 1) := by decide +kernel
theorem d_MO_rewrite_9 : decode prog_14_method_50_code 9 = .ok (.invokevirtual 185, 3) := by decide +kernel
theorem d_MO_rewrite_12 : decode prog_14_method_50_code 12 = .ok (.aload_n 0, 1) := by decide +kernel
theorem d_MO_rewrite_13 : decode prog_14_method_50_code 13 = .ok (.getfield 117, 3) := by decide +kernel
theorem d_MO_rewrite_16 : decode prog_14_method_50_code 16 = .ok (.istore_n 2, 1) := by decide +kernel
theorem d_MO_rewrite_17 : decode prog_14_method_50_code 17 = .ok (.aload_n 0, 1) := by decide +kernel
theorem d_MO_rewrite_18 : decode prog_14_method_50_code 18 = .ok (.iconst 0, 1) := by decide +kernel
theorem d_MO_rewrite_19 : decode prog_14_method_50_code 19 = .ok (.putfield 117, 3) := by decide +kernel
theorem d_MO_rewrite_22 : decode prog_14_method_50_code 22 = .ok (.aload_n 0, 1) := by decide +kernel
theorem d_MO_rewrite_23 : decode prog_14_method_50_code 23 = .ok (.iload_n 2, 1) := by decide +kernel
theorem d_MO_rewrite_24 : decode prog_14_method_50_code 24 = .ok (.invokevirtual 332, 3) := by decide +kernel
theorem d_MO_rewrite_27 : decode prog_14_method_50_code 27 = .ok (.istore_n 3, 1) := by decide +kernel
theorem d_MO_rewrite_28 : decode prog_14_method_50_code 28 = .ok (.iload_n 3, 1) := by decide +kernel
theorem d_MO_rewrite_29 : decode prog_14_method_50_code 29 = .ok (.ifCond .le 10, 3) := by decide +kernel
theorem d_MO_rewrite_32 : decode prog_14_method_50_code 32 = .ok (.aload_n 0, 1) := by decide +kernel
theorem d_MO_rewrite_33 : decode prog_14_method_50_code 33 = .ok (.iload_n 3, 1) := by decide +kernel
theorem d_MO_rewrite_34 : decode prog_14_method_50_code 34 = .ok (.putfield 200, 3) := by decide +kernel
theorem d_MO_rewrite_37 : decode prog_14_method_50_code 37 = .ok (.iconst 1, 1) := by decide +kernel
theorem d_MO_rewrite_38 : decode prog_14_method_50_code 38 = .ok (.ireturn, 1) := by decide +kernel
theorem d_MO_rewrite_39 : decode prog_14_method_50_code 39 = .ok (.aload_n 0, 1) := by decide +kernel
theorem d_MO_rewrite_40 : decode prog_14_method_50_code 40 = .ok (.getfield 196, 3) := by decide +kernel
theorem d_MO_rewrite_43 : decode prog_14_method_50_code 43 = .ok (.ifCond .ne 5, 3) := by decide +kernel
theorem d_MO_rewrite_46 : decode prog_14_method_50_code 46 = .ok (.iconst 2, 1) := by decide +kernel
theorem d_MO_rewrite_47 : decode prog_14_method_50_code 47 = .ok (.ireturn, 1) := by decide +kernel
theorem d_MO_rewrite_48 : decode prog_14_method_50_code 48 = .ok (.iload_n 1, 1) := by decide +kernel
theorem d_MO_rewrite_49 : decode prog_14_method_50_code 49 = .ok (.ifCond .eq 10, 3) := by decide +kernel
theorem d_MO_rewrite_52 : decode prog_14_method_50_code 52 = .ok (.aload_n 0, 1) := by decide +kernel
theorem d_MO_rewrite_53 : decode prog_14_method_50_code 53 = .ok (.invokevirtual 335, 3) := by decide +kernel
theorem d_MO_rewrite_56 : decode prog_14_method_50_code 56 = .ok (.goto 7, 3) := by decide +kernel
theorem d_MO_rewrite_59 : decode prog_14_method_50_code 59 = .ok (.aload_n 0, 1) := by decide +kernel
theorem d_MO_rewrite_60 : decode prog_14_method_50_code 60 = .ok (.invokevirtual 338, 3) := by decide +kernel
theorem d_MO_rewrite_63 : decode prog_14_method_50_code 63 = .ok (.aload_n 0, 1) := by decide +kernel
theorem d_MO_rewrite_64 : decode prog_14_method_50_code 64 = .ok (.getfield 248, 3) := by decide +kernel
theorem d_MO_rewrite_67 : decode prog_14_method_50_code 67 = .ok (.ifCond .eq 7, 3) := by decide +kernel
theorem d_MO_rewrite_70 : decode prog_14_method_50_code 70 = .ok (.iconst 2, 1) := by decide +kernel
theorem d_MO_rewrite_71 : decode prog_14_method_50_code 71 = .ok (.goto 4, 3) := by decide +kernel
theorem d_MO_rewrite_74 : decode prog_14_method_50_code 74 = .ok (.iconst 0, 1) := by decide +kernel
theorem d_MO_rewrite_75 : decode prog_14_method_50_code 75 = .ok (.ireturn, 1) := by decide +kernel
theorem d_MO_keepPrint_0 : decode prog_14_method_51_code 0 = .ok (.iconst 0, 1) := by decide +kernel
theorem d_MO_keepPrint_1 : decode prog_14_method_51_code 1 = .ok (.istore_n 1, 1) := by decide +kernel
theorem d_MO_keepPrint_2 : decode prog_14_method_51_code 2 = .ok (.iconst 0, 1) := by decide +kernel
theorem d_MO_keepPrint_3 : decode prog_14_method_51_code 3 = .ok (.istore_n 2, 1) := by decide +kernel
theorem d_MO_keepPrint_4 : decode prog_14_method_51_code 4 = .ok (.iload_n 2, 1) := by decide +kernel
theorem d_MO_keepPrint_5 : decode prog_14_method_51_code 5 = .ok (.aload_n 0, 1) := by decide +kernel
theorem d_MO_keepPrint_6 : decode prog_14_method_51_code 6 = .ok (.getfield 245, 3) := by decide +kernel
theorem d_MO_keepPrint_9 : decode prog_14_method_51_code 9 = .ok (.if_icmp .ge 64, 3) := by decide +kernel
theorem d_MO_keepPrint_12 : decode prog_14_method_51_code 12 = .ok (.aload_n 0, 1) := by decide +kernel
theorem d_MO_keepPrint_13 : decode prog_14_method_51_code 13 = .ok (.getfield 97, 3) := by decide +kernel
theorem d_MO_keepPrint_16 : decode prog_14_method_51_code 16 = .ok (.iload_n 2, 1) := by decide +kernel
theorem d_MO_keepPrint_17 : decode prog_14_method_51_code 17 = .ok (.aload_n 0, 1) := by decide +kernel
theorem d_MO_keepPrint_18 : decode prog_14_method_51_code 18 = .ok (.getfield 94, 3) := by decide +kernel
theorem d_MO_keepPrint_21 : decode prog_14_method_51_code 21 = .ok (.iload_n 2, 1) := by decide +kernel
theorem d_MO_keepPrint_22 : decode prog_14_method_51_code 22 = .ok (.iaload, 1) := by decide +kernel
theorem d_MO_keepPrint_23 : decode prog_14_method_51_code 23 = .ok (.iastore, 1) := by decide +kernel
theorem d_MO_keepPrint_24 : decode prog_14_method_51_code 24 = .ok (.iload_n 2, 1) := by decide +kernel
theorem d_MO_keepPrint_25 : decode prog_14_method_51_code 25 = .ok (.ifCond .eq 16, 3) := by decide +kernel
theorem d_MO_keepPrint_28 : decode prog_14_method_51_code 28 = .ok (.aload_n 0, 1) := by decide +kernel
theorem d_MO_keepPrint_29 : decode prog_14_method_51_code 29 = .ok (.getfield 94, 3) := by decide +kernel
theorem d_MO_keepPrint_32 : decode prog_14_method_51_code 32 = .ok (.iload_n 2, 1) := by decide +kernel
theorem d_MO_keepPrint_33 : decode prog_14_method_51_code 33 = .ok (.iconst 1, 1) := by decide +kernel
theorem d_MO_keepPrint_34 : decode prog_14_method_51_code 34 = .ok (.isub, 1) := by decide +kernel
theorem d_MO_keepPrint_35 : decode prog_14_method_51_code 35 = .ok (.iaload, 1) := by decide +kernel
theorem d_MO_keepPrint_36 : decode prog_14_method_51_code 36 = .ok (.bipush 10, 2) := by decide +kernel
theorem d_MO_keepPrint_38 : decode prog_14_method_51_code 38 = .ok (.if_icmp .ne 7, 3) := by decide +kernel
theorem d_MO_keepPrint_41 : decode prog_14_method_51_code 41 = .ok (.iconst 1, 1) := by decide +kernel
theorem d_MO_keepPrint_42 : decode prog_14_method_51_code 42 = .ok (.goto 4, 3) := by decide +kernel
theorem d_MO_keepPrint_45 : decode prog_14_method_51_code 45 = .ok (.iconst 0, 1) := by decide +kernel
theorem d_MO_keepPrint_46 : decode prog_14_method_51_code 46 = .ok (.istore_n 3, 1) := by decide +kernel
theorem d_MO_keepPrint_47 : decode prog_14_method_51_code 47 = .ok (.iload_n 3, 1) := by decide +kernel
theorem d_MO_keepPrint_48 : decode prog_14_method_51_code 48 = .ok (.ifCond .eq 17, 3) := by decide +kernel
theorem d_MO_keepPrint_51 : decode prog_14_method_51_code 51 = .ok (.aload_n 0, 1) := by decide +kernel
theorem d_MO_keepPrint_52 : decode prog_14_method_51_code 52 = .ok (.iload_n 2, 1) := by decide +kernel
theorem d_MO_keepPrint_53 : decode prog_14_method_51_code 53 = .ok (.invokevirtual 341, 3) := by decide +kernel
theorem d_MO_keepPrint_56 : decode prog_14_method_51_code 56 = .ok (.ifCond .eq 9, 3) := by decide +kernel
theorem d_MO_keepPrint_59 : decode prog_14_method_51_code 59 = .ok (.iload_n 1, 1) := by decide +kernel
theorem d_MO_keepPrint_60 : decode prog_14_method_51_code 60 = .ok (.iconst 1, 1) := by decide +kernel
theorem d_MO_keepPrint_61 : decode prog_14_method_51_code 61 = .ok (.iadd, 1) := by decide +kernel
theorem d_MO_keepPrint_62 : decode prog_14_method_51_code 62 = .ok (.goto 4, 3) := by decide +kernel
theorem d_MO_keepPrint_65 : decode prog_14_method_51_code 65 = .ok (.iload_n 1, 1) := by decide +kernel
theorem d_MO_keepPrint_66 : decode prog_14_method_51_code 66 = .ok (.istore_n 1, 1) := by decide +kernel
theorem d_MO_keepPrint_67 : decode prog_14_method_51_code 67 = .ok (.iinc 2 1, 3) := by decide +kernel
theorem d_MO_keepPrint_70 : decode prog_14_method_51_code 70 = .ok (.goto (-66), 3) := by decide +kernel
theorem d_MO_keepPrint_73 : decode prog_14_method_51_code 73 = .ok (.aload_n 0, 1) := by decide +kernel
theorem d_MO_keepPrint_74 : decode prog_14_method_51_code 74 = .ok (.aload_n 0, 1) := by decide +kernel
theorem d_MO_keepPrint_75 : decode prog_14_method_51_code 75 = .ok (.getfield 245, 3) := by decide +kernel
theorem d_MO_keepPrint_78 : decode prog_14_method_51_code 78 = .ok (.putfield 344, 3) := by decide +kernel
theorem d_MO_keepPrint_81 : decode prog_14_method_51_code 81 = .ok (.iload_n 1, 1) := by decide +kernel
theorem d_MO_keepPrint_82 : decode prog_14_method_51_code 82 = .ok (.ireturn, 1) := by decide +kernel
theorem d_MO_isFrameAt_0 : decode prog_14_method_52_code 0 = .ok (.aload_n 0, 1) := by decide +kernel
theorem d_MO_isFrameAt_1 : decode prog_14_method_52_code 1 = .ok (.getfield 94, 3) := by decide +kernel
theorem d_MO_isFrameAt_4 : decode prog_14_method_52_code 4 = .ok (.iload_n 1, 1) := by decide +kernel
theorem d_MO_isFrameAt_5 : decode prog_14_method_52_code 5 = .ok (.iaload, 1) := by decide +kernel
theorem d_MO_isFrameAt_6 : decode prog_14_method_52_code 6 = .ok (.bipush 9, 2) := by decide +kernel
theorem d_MO_isFrameAt_8 : decode prog_14_method_52_code 8 = .ok (.if_icmp .ne 30, 3) := by decide +kernel
theorem d_MO_isFrameAt_11 : decode prog_14_method_52_code 11 = .ok (.iload_n 1, 1) := by decide +kernel
theorem d_MO_isFrameAt_12 : decode prog_14_method_52_code 12 = .ok (.iconst 1, 1) := by decide +kernel
theorem d_MO_isFrameAt_13 : decode prog_14_method_52_code 13 = .ok (.iadd, 1) := by decide +kernel
theorem d_MO_isFrameAt_14 : decode prog_14_method_52_code 14 = .ok (.aload_n 0, 1) := by decide +kernel
theorem d_MO_isFrameAt_15 : decode prog_14_method_52_code 15 = .ok (.getfield 245, 3) := by decide +kernel
theorem d_MO_isFrameAt_18 : decode prog_14_method_52_code 18 = .ok (.if_icmp .ge 20, 3) := by decide +kernel
theorem d_MO_isFrameAt_21 : decode prog_14_method_52_code 21 = .ok (.aload_n 0, 1) := by decide +kernel
theorem d_MO_isFrameAt_22 : decode prog_14_method_52_code 22 = .ok (.getfield 94, 3) := by decide +kernel
theorem d_MO_isFrameAt_25 : decode prog_14_method_52_code 25 = .ok (.iload_n 1, 1) := by decide +kernel
theorem d_MO_isFrameAt_26 : decode prog_14_method_52_code 26 = .ok (.iconst 1, 1) := by decide +kernel
theorem d_MO_isFrameAt_27 : decode prog_14_method_52_code 27 = .ok (.iadd, 1) := by decide +kernel
theorem d_MO_isFrameAt_28 : decode prog_14_method_52_code 28 = .ok (.iaload, 1) := by decide +kernel
theorem d_MO_isFrameAt_29 : decode prog_14_method_52_code 29 = .ok (.bipush 97, 2) := by decide +kernel
theorem d_MO_isFrameAt_31 : decode prog_14_method_52_code 31 = .ok (.if_icmp .ne 7, 3) := by decide +kernel
theorem d_MO_isFrameAt_34 : decode prog_14_method_52_code 34 = .ok (.iconst 1, 1) := by decide +kernel
theorem d_MO_isFrameAt_35 : decode prog_14_method_52_code 35 = .ok (.goto 4, 3) := by decide +kernel
theorem d_MO_isFrameAt_38 : decode prog_14_method_52_code 38 = .ok (.iconst 0, 1) := by decide +kernel
theorem d_MO_isFrameAt_39 : decode prog_14_method_52_code 39 = .ok (.ireturn, 1) := by decide +kernel
theorem d_MO_retrace_0 : decode prog_14_method_53_code 0 = .ok (.aload_n 0, 1) := by decide +kernel
theorem d_MO_retrace_1 : decode prog_14_method_53_code 1 = .ok (.aload_n 0, 1) := by decide +kernel
theorem d_MO_retrace_2 : decode prog_14_method_53_code 2 = .ok (.iconst 1, 1) := by decide +kernel
theorem d_MO_retrace_3 : decode prog_14_method_53_code 3 = .ok (.invokevirtual 347, 3) := by decide +kernel
theorem d_MO_retrace_6 : decode prog_14_method_53_code 6 = .ok (.putfield 113, 3) := by decide +kernel
theorem d_MO_retrace_9 : decode prog_14_method_53_code 9 = .ok (.aload_n 0, 1) := by decide +kernel
theorem d_MO_retrace_10 : decode prog_14_method_53_code 10 = .ok (.getfield 113, 3) := by decide +kernel
theorem d_MO_retrace_13 : decode prog_14_method_53_code 13 = .ok (.ifCond .le 5, 3) := by decide +kernel
theorem d_MO_retrace_16 : decode prog_14_method_53_code 16 = .ok (.iconst 0, 1) := by decide +kernel
theorem d_MO_retrace_17 : decode prog_14_method_53_code 17 = .ok (.ireturn, 1) := by decide +kernel
theorem d_MO_retrace_18 : decode prog_14_method_53_code 18 = .ok (.aload_n 0, 1) := by decide +kernel
theorem d_MO_retrace_19 : decode prog_14_method_53_code 19 = .ok (.aload_n 0, 1) := by decide +kernel
theorem d_MO_retrace_20 : decode prog_14_method_53_code 20 = .ok (.getfield 298, 3) := by decide +kernel
theorem d_MO_retrace_23 : decode prog_14_method_53_code 23 = .ok (.putfield 351, 3) := by decide +kernel
theorem d_MO_retrace_26 : decode prog_14_method_53_code 26 = .ok (.aload_n 0, 1) := by decide +kernel
theorem d_MO_retrace_27 : decode prog_14_method_53_code 27 = .ok (.invokevirtual 354, 3) := by decide +kernel
theorem d_MO_retrace_30 : decode prog_14_method_53_code 30 = .ok (.ireturn, 1) := by decide +kernel
theorem d_MO_shorten_0 : decode prog_14_method_54_code 0 = .ok (.aload_n 0, 1) := by decide +kernel
theorem d_MO_shorten_1 : decode prog_14_method_54_code 1 = .ok (.aload_n 0, 1) := by decide +kernel
theorem d_MO_shorten_2 : decode prog_14_method_54_code 2 = .ok (.iconst 0, 1) := by decide +kernel
theorem d_MO_shorten_3 : decode prog_14_method_54_code 3 = .ok (.invokevirtual 347, 3) := by decide +kernel
theorem d_MO_shorten_6 : decode prog_14_method_54_code 6 = .ok (.putfield 113, 3) := by decide +kernel
theorem d_MO_shorten_9 : decode prog_14_method_54_code 9 = .ok (.aload_n 0, 1) := by decide +kernel
theorem d_MO_shorten_10 : decode prog_14_method_54_code 10 = .ok (.getfield 113, 3) := by decide +kernel
theorem d_MO_shorten_13 : decode prog_14_method_54_code 13 = .ok (.ifCond .le 7, 3) := by decide +kernel
theorem d_MO_shorten_16 : decode prog_14_method_54_code 16 = .ok (.iconst 0, 1) := by decide +kernel
theorem d_MO_shorten_17 : decode prog_14_method_54_code 17 = .ok (.goto 7, 3) := by decide +kernel
theorem d_MO_shorten_20 : decode prog_14_method_54_code 20 = .ok (.aload_n 0, 1) := by decide +kernel
theorem d_MO_shorten_21 : decode prog_14_method_54_code 21 = .ok (.invokevirtual 354, 3) := by decide +kernel
theorem d_MO_shorten_24 : decode prog_14_method_54_code 24 = .ok (.ireturn, 1) := by decide +kernel
theorem d_MO_mix_0 : decode prog_14_method_55_code 0 = .ok (.aload_n 0, 1) := by decide +kernel
theorem d_MO_mix_1 : decode prog_14_method_55_code 1 = .ok (.aload_n 0, 1) := by decide +kernel
theorem d_MO_mix_2 : decode prog_14_method_55_code 2 = .ok (.getfield 358, 3) := by decide +kernel
theorem d_MO_mix_5 : decode prog_14_method_55_code 5 = .ok (.iload_n 1, 1) := by decide +kernel
theorem d_MO_mix_6 : decode prog_14_method_55_code 6 = .ok (.i2l, 1) := by decide +kernel
theorem d_MO_mix_7 : decode prog_14_method_55_code 7 = .ok (.lxor, 1) := by decide +kernel
theorem d_MO_mix_8 : decode prog_14_method_55_code 8 = .ok (.ldc2_w 362, 3) := by decide +kernel
theorem d_MO_mix_11 : decode prog_14_method_55_code 11 = .ok (.lmul, 1) := by decide +kernel
theorem d_MO_mix_12 : decode prog_14_method_55_code 12 = .ok (.putfield 358, 3) := by decide +kernel
theorem d_MO_mix_15 : decode prog_14_method_55_code 15 = .ok (.return_, 1) := by decide +kernel
theorem d_MO_endOfLine_0 : decode prog_14_method_56_code 0 = .ok (.iload_n 1, 1) := by decide +kernel
theorem d_MO_endOfLine_1 : decode prog_14_method_56_code 1 = .ok (.istore_n 2, 1) := by decide +kernel
theorem d_MO_endOfLine_2 : decode prog_14_method_56_code 2 = .ok (.aload_n 0, 1) := by decide +kernel
theorem d_MO_endOfLine_3 : decode prog_14_method_56_code 3 = .ok (.getfield 94, 3) := by decide +kernel
theorem d_MO_endOfLine_6 : decode prog_14_method_56_code 6 = .ok (.iload_n 2, 1) := by decide +kernel
theorem d_MO_endOfLine_7 : decode prog_14_method_56_code 7 = .ok (.iaload, 1) := by decide +kernel
theorem d_MO_endOfLine_8 : decode prog_14_method_56_code 8 = .ok (.bipush 10, 2) := by decide +kernel
theorem d_MO_endOfLine_10 : decode prog_14_method_56_code 10 = .ok (.if_icmp .eq 9, 3) := by decide +kernel
theorem d_MO_endOfLine_13 : decode prog_14_method_56_code 13 = .ok (.iinc 2 1, 3) := by decide +kernel
theorem d_MO_endOfLine_16 : decode prog_14_method_56_code 16 = .ok (.goto (-14), 3) := by decide +kernel
theorem d_MO_endOfLine_19 : decode prog_14_method_56_code 19 = .ok (.iload_n 2, 1) := by decide +kernel
theorem d_MO_endOfLine_20 : decode prog_14_method_56_code 20 = .ok (.ireturn, 1) := by decide +kernel
theorem d_MO_mixHead_0 : decode prog_14_method_57_code 0 = .ok (.iload_n 1, 1) := by decide +kernel
theorem d_MO_mixHead_1 : decode prog_14_method_57_code 1 = .ok (.istore_n 3, 1) := by decide +kernel
theorem d_MO_mixHead_2 : decode prog_14_method_57_code 2 = .ok (.iload_n 3, 1) := by decide +kernel
theorem d_MO_mixHead_3 : decode prog_14_method_57_code 3 = .ok (.iload_n 2, 1) := by decide +kernel
theorem d_MO_mixHead_4 : decode prog_14_method_57_code 4 = .ok (.if_icmp .ge 63, 3) := by decide +kernel
theorem d_MO_mixHead_7 : decode prog_14_method_57_code 7 = .ok (.aload_n 0, 1) := by decide +kernel
theorem d_MO_mixHead_8 : decode prog_14_method_57_code 8 = .ok (.getfield 94, 3) := by decide +kernel
theorem d_MO_mixHead_11 : decode prog_14_method_57_code 11 = .ok (.iload_n 3, 1) := by decide +kernel
theorem d_MO_mixHead_12 : decode prog_14_method_57_code 12 = .ok (.iaload, 1) := by decide +kernel
theorem d_MO_mixHead_13 : decode prog_14_method_57_code 13 = .ok (.invokestatic 126, 3) := by decide +kernel
theorem d_MO_mixHead_16 : decode prog_14_method_57_code 16 = .ok (.istore 4, 2) := by decide +kernel
theorem d_MO_mixHead_18 : decode prog_14_method_57_code 18 = .ok (.iload 4, 2) := by decide +kernel
theorem d_MO_mixHead_20 : decode prog_14_method_57_code 20 = .ok (.ifCond .ne 16, 3) := by decide +kernel
theorem d_MO_mixHead_23 : decode prog_14_method_57_code 23 = .ok (.aload_n 0, 1) := by decide +kernel
theorem d_MO_mixHead_24 : decode prog_14_method_57_code 24 = .ok (.aload_n 0, 1) := by decide +kernel
theorem d_MO_mixHead_25 : decode prog_14_method_57_code 25 = .ok (.getfield 94, 3) := by decide +kernel
theorem d_MO_mixHead_28 : decode prog_14_method_57_code 28 = .ok (.iload_n 3, 1) := by decide +kernel
theorem d_MO_mixHead_29 : decode prog_14_method_57_code 29 = .ok (.iaload, 1) := by decide +kernel
theorem d_MO_mixHead_30 : decode prog_14_method_57_code 30 = .ok (.invokevirtual 364, 3) := by decide +kernel
theorem d_MO_mixHead_33 : decode prog_14_method_57_code 33 = .ok (.goto 28, 3) := by decide +kernel
theorem d_MO_mixHead_36 : decode prog_14_method_57_code 36 = .ok (.iload_n 3, 1) := by decide +kernel
theorem d_MO_mixHead_37 : decode prog_14_method_57_code 37 = .ok (.iload_n 1, 1) := by decide +kernel
theorem d_MO_mixHead_38 : decode prog_14_method_57_code 38 = .ok (.if_icmp .eq 17, 3) := by decide +kernel
theorem d_MO_mixHead_41 : decode prog_14_method_57_code 41 = .ok (.aload_n 0, 1) := by decide +kernel
theorem d_MO_mixHead_42 : decode prog_14_method_57_code 42 = .ok (.getfield 94, 3) := by decide +kernel
theorem d_MO_mixHead_45 : decode prog_14_method_57_code 45 = .ok (.iload_n 3, 1) := by decide +kernel
theorem d_MO_mixHead_46 : decode prog_14_method_57_code 46 = .ok (.iconst 1, 1) := by decide +kernel
theorem d_MO_mixHead_47 : decode prog_14_method_57_code 47 = .ok (.isub, 1) := by decide +kernel
theorem d_MO_mixHead_48 : decode prog_14_method_57_code 48 = .ok (.iaload, 1) := by decide +kernel
theorem d_MO_mixHead_49 : decode prog_14_method_57_code 49 = .ok (.invokestatic 126, 3) := by decide +kernel
theorem d_MO_mixHead_52 : decode prog_14_method_57_code 52 = .ok (.ifCond .ne 9, 3) := by decide +kernel
theorem d_MO_mixHead_55 : decode prog_14_method_57_code 55 = .ok (.aload_n 0, 1) := by decide +kernel
theorem d_MO_mixHead_56 : decode prog_14_method_57_code 56 = .ok (.bipush 48, 2) := by decide +kernel
theorem d_MO_mixHead_58 : decode prog_14_method_57_code 58 = .ok (.invokevirtual 364, 3) := by decide +kernel
theorem d_MO_mixHead_61 : decode prog_14_method_57_code 61 = .ok (.iinc 3 1, 3) := by decide +kernel
theorem d_MO_mixHead_64 : decode prog_14_method_57_code 64 = .ok (.goto (-62), 3) := by decide +kernel
theorem d_MO_mixHead_67 : decode prog_14_method_57_code 67 = .ok (.return_, 1) := by decide +kernel
theorem d_MO_mixHeader_0 : decode prog_14_method_58_code 0 = .ok (.iload_n 2, 1) := by decide +kernel
theorem d_MO_mixHeader_1 : decode prog_14_method_58_code 1 = .ok (.iload_n 1, 1) := by decide +kernel
theorem d_MO_mixHeader_2 : decode prog_14_method_58_code 2 = .ok (.isub, 1) := by decide +kernel
theorem d_MO_mixHeader_3 : decode prog_14_method_58_code 3 = .ok (.bipush 11, 2) := by decide +kernel
theorem d_MO_mixHeader_5 : decode prog_14_method_58_code 5 = .ok (.if_icmp .le 7, 3) := by decide +kernel
theorem d_MO_mixHeader_8 : decode prog_14_method_58_code 8 = .ok (.iconst 1, 1) := by decide +kernel
theorem d_MO_mixHeader_9 : decode prog_14_method_58_code 9 = .ok (.goto 4, 3) := by decide +kernel
theorem d_MO_mixHeader_12 : decode prog_14_method_58_code 12 = .ok (.iconst 0, 1) := by decide +kernel
theorem d_MO_mixHeader_13 : decode prog_14_method_58_code 13 = .ok (.istore_n 3, 1) := by decide +kernel
theorem d_MO_mixHeader_14 : decode prog_14_method_58_code 14 = .ok (.iconst 0, 1) := by decide +kernel
theorem d_MO_mixHeader_15 : decode prog_14_method_58_code 15 = .ok (.istore 4, 2) := by decide +kernel
theorem d_MO_mixHeader_17 : decode prog_14_method_58_code 17 = .ok (.iload 4, 2) := by decide +kernel
theorem d_MO_mixHeader_19 : decode prog_14_method_58_code 19 = .ok (.bipush 8, 2) := by decide +kernel
theorem d_MO_mixHeader_21 : decode prog_14_method_58_code 21 = .ok (.if_icmp .ge 49, 3) := by decide +kernel
theorem d_MO_mixHeader_24 : decode prog_14_method_58_code 24 = .ok (.iload_n 3, 1) := by decide +kernel
theorem d_MO_mixHeader_25 : decode prog_14_method_58_code 25 = .ok (.ifCond .eq 37, 3) := by decide +kernel
theorem d_MO_mixHeader_28 : decode prog_14_method_58_code 28 = .ok (.aload_n 0, 1) := by decide +kernel
theorem d_MO_mixHeader_29 : decode prog_14_method_58_code 29 = .ok (.getfield 94, 3) := by decide +kernel
theorem d_MO_mixHeader_32 : decode prog_14_method_58_code 32 = .ok (.iload_n 1, 1) := by decide +kernel
theorem d_MO_mixHeader_33 : decode prog_14_method_58_code 33 = .ok (.iload 4, 2) := by decide +kernel
theorem d_MO_mixHeader_35 : decode prog_14_method_58_code 35 = .ok (.iadd, 1) := by decide +kernel
theorem d_MO_mixHeader_36 : decode prog_14_method_58_code 36 = .ok (.iaload, 1) := by decide +kernel
theorem d_MO_mixHeader_37 : decode prog_14_method_58_code 37 = .ok (.i2l, 1) := by decide +kernel
theorem d_MO_mixHeader_38 : decode prog_14_method_58_code 38 = .ok (.ldc2_w 231, 3) := by decide +kernel
theorem d_MO_mixHeader_41 : decode prog_14_method_58_code 41 = .ok (.bipush 8, 2) := by decide +kernel
theorem d_MO_mixHeader_43 : decode prog_14_method_58_code 43 = .ok (.bipush 7, 2) := by decide +kernel
theorem d_MO_mixHeader_45 : decode prog_14_method_58_code 45 = .ok (.iload 4, 2) := by decide +kernel
theorem d_MO_mixHeader_47 : decode prog_14_method_58_code 47 = .ok (.isub, 1) := by decide +kernel
theorem d_MO_mixHeader_48 : decode prog_14_method_58_code 48 = .ok (.imul, 1) := by decide +kernel
theorem d_MO_mixHeader_49 : decode prog_14_method_58_code 49 = .ok (.lshr, 1) := by decide +kernel
theorem d_MO_mixHeader_50 : decode prog_14_method_58_code 50 = .ok (.ldc2_w 120, 3) := by decide +kernel
theorem d_MO_mixHeader_53 : decode prog_14_method_58_code 53 = .ok (.land, 1) := by decide +kernel
theorem d_MO_mixHeader_54 : decode prog_14_method_58_code 54 = .ok (.lcmp, 1) := by decide +kernel
theorem d_MO_mixHeader_55 : decode prog_14_method_58_code 55 = .ok (.ifCond .ne 7, 3) := by decide +kernel
theorem d_MO_mixHeader_58 : decode prog_14_method_58_code 58 = .ok (.iconst 1, 1) := by decide +kernel
theorem d_MO_mixHeader_59 : decode prog_14_method_58_code 59 = .ok (.goto 4, 3) := by decide +kernel
theorem d_MO_mixHeader_62 : decode prog_14_method_58_code 62 = .ok (.iconst 0, 1) := by decide +kernel
theorem d_MO_mixHeader_63 : decode prog_14_method_58_code 63 = .ok (.istore_n 3, 1) := by decide +kernel
theorem d_MO_mixHeader_64 : decode prog_14_method_58_code 64 = .ok (.iinc 4 1, 3) := by decide +kernel
theorem d_MO_mixHeader_67 : decode prog_14_method_58_code 67 = .ok (.goto (-50), 3) := by decide +kernel
theorem d_MO_mixHeader_70 : decode prog_14_method_58_code 70 = .ok (.iload_n 3, 1) := by decide +kernel
theorem d_MO_mixHeader_71 : decode prog_14_method_58_code 71 = .ok (.ifCond .eq 10, 3) := by decide +kernel
theorem d_MO_mixHeader_74 : decode prog_14_method_58_code 74 = .ok (.iload_n 1, 1) := by decide +kernel
theorem d_MO_mixHeader_75 : decode prog_14_method_58_code 75 = .ok (.bipush 11, 2) := by decide +kernel
theorem d_MO_mixHeader_77 : decode prog_14_method_58_code 77 = .ok (.iadd, 1) := by decide +kernel
theorem d_MO_mixHeader_78 : decode prog_14_method_58_code 78 = .ok (.goto 4, 3) := by decide +kernel
theorem d_MO_mixHeader_81 : decode prog_14_method_58_code 81 = .ok (.iload_n 1, 1) := by decide +kernel
theorem d_MO_mixHeader_82 : decode prog_14_method_58_code 82 = .ok (.istore 4, 2) := by decide +kernel
theorem d_MO_mixHeader_84 : decode prog_14_method_58_code 84 = .ok (.iload 4, 2) := by decide +kernel
theorem d_MO_mixHeader_86 : decode prog_14_method_58_code 86 = .ok (.istore 5, 2) := by decide +kernel
theorem d_MO_mixHeader_88 : decode prog_14_method_58_code 88 = .ok (.iload 5, 2) := by decide +kernel
theorem d_MO_mixHeader_90 : decode prog_14_method_58_code 90 = .ok (.iload_n 2, 1) := by decide +kernel
theorem d_MO_mixHeader_91 : decode prog_14_method_58_code 91 = .ok (.if_icmp .ge 21, 3) := by decide +kernel
theorem d_MO_mixHeader_94 : decode prog_14_method_58_code 94 = .ok (.aload_n 0, 1) := by decide +kernel
theorem d_MO_mixHeader_95 : decode prog_14_method_58_code 95 = .ok (.getfield 94, 3) := by decide +kernel
theorem d_MO_mixHeader_98 : decode prog_14_method_58_code 98 = .ok (.iload 5, 2) := by decide +kernel
theorem d_MO_mixHeader_100 : decode prog_14_method_58_code 100 = .ok (.iaload, 1) := by decide +kernel
theorem d_MO_mixHeader_101 : decode prog_14_method_58_code 101 = .ok (.bipush 58, 2) := by decide +kernel
theorem d_MO_mixHeader_103 : decode prog_14_method_58_code 103 = .ok (.if_icmp .eq 9, 3) := by decide +kernel
theorem d_MO_mixHeader_106 : decode prog_14_method_58_code 106 = .ok (.iinc 5 1, 3) := by decide +kernel
theorem d_MO_mixHeader_109 : decode prog_14_method_58_code 109 = .ok (.goto (-21), 3) := by decide +kernel
theorem d_MO_mixHeader_112 : decode prog_14_method_58_code 112 = .ok (.aload_n 0, 1) := by decide +kernel
theorem d_MO_mixHeader_113 : decode prog_14_method_58_code 113 = .ok (.iload 4, 2) := by decide +kernel
theorem d_MO_mixHeader_115 : decode prog_14_method_58_code 115 = .ok (.iload 5, 2) := by decide +kernel
theorem d_MO_mixHeader_117 : decode prog_14_method_58_code 117 = .ok (.invokevirtual 367, 3) := by decide +kernel
theorem d_MO_mixHeader_120 : decode prog_14_method_58_code 120 = .ok (.aload_n 0, 1) := by decide +kernel
theorem d_MO_mixHeader_121 : decode prog_14_method_58_code 121 = .ok (.bipush 58, 2) := by decide +kernel
theorem d_MO_mixHeader_123 : decode prog_14_method_58_code 123 = .ok (.invokevirtual 364, 3) := by decide +kernel
theorem d_MO_mixHeader_126 : decode prog_14_method_58_code 126 = .ok (.aload_n 0, 1) := by decide +kernel
theorem d_MO_mixHeader_127 : decode prog_14_method_58_code 127 = .ok (.iload 5, 2) := by decide +kernel
theorem d_MO_mixHeader_129 : decode prog_14_method_58_code 129 = .ok (.iload_n 2, 1) := by decide +kernel
theorem d_MO_mixHeader_130 : decode prog_14_method_58_code 130 = .ok (.if_icmp .ge 10, 3) := by decide +kernel
theorem d_MO_mixHeader_133 : decode prog_14_method_58_code 133 = .ok (.iload 5, 2) := by decide +kernel
theorem d_MO_mixHeader_135 : decode prog_14_method_58_code 135 = .ok (.iconst 2, 1) := by decide +kernel
theorem d_MO_mixHeader_136 : decode prog_14_method_58_code 136 = .ok (.iadd, 1) := by decide +kernel
theorem d_MO_mixHeader_137 : decode prog_14_method_58_code 137 = .ok (.goto 4, 3) := by decide +kernel
theorem d_MO_mixHeader_140 : decode prog_14_method_58_code 140 = .ok (.iload_n 2, 1) := by decide +kernel
theorem d_MO_mixHeader_141 : decode prog_14_method_58_code 141 = .ok (.iload_n 2, 1) := by decide +kernel
theorem d_MO_mixHeader_142 : decode prog_14_method_58_code 142 = .ok (.invokevirtual 367, 3) := by decide +kernel
theorem d_MO_mixHeader_145 : decode prog_14_method_58_code 145 = .ok (.aload_n 0, 1) := by decide +kernel
theorem d_MO_mixHeader_146 : decode prog_14_method_58_code 146 = .ok (.bipush 10, 2) := by decide +kernel
theorem d_MO_mixHeader_148 : decode prog_14_method_58_code 148 = .ok (.invokevirtual 364, 3) := by decide +kernel
theorem d_MO_mixHeader_151 : decode prog_14_method_58_code 151 = .ok (.return_, 1) := by decide +kernel
theorem d_MO_bracket_0 : decode prog_14_method_59_code 0 = .ok (.iload_n 1, 1) := by decide +kernel
theorem d_MO_bracket_1 : decode prog_14_method_59_code 1 = .ok (.istore_n 2, 1) := by decide +kernel
theorem d_MO_bracket_2 : decode prog_14_method_59_code 2 = .ok (.aload_n 0, 1) := by decide +kernel
theorem d_MO_bracket_3 : decode prog_14_method_59_code 3 = .ok (.getfield 94, 3) := by decide +kernel
theorem d_MO_bracket_6 : decode prog_14_method_59_code 6 = .ok (.iload_n 2, 1) := by decide +kernel
theorem d_MO_bracket_7 : decode prog_14_method_59_code 7 = .ok (.iaload, 1) := by decide +kernel
theorem d_MO_bracket_8 : decode prog_14_method_59_code 8 = .ok (.bipush 40, 2) := by decide +kernel
theorem d_MO_bracket_10 : decode prog_14_method_59_code 10 = .ok (.if_icmp .eq 9, 3) := by decide +kernel
theorem d_MO_bracket_13 : decode prog_14_method_59_code 13 = .ok (.iinc 2 1, 3) := by decide +kernel
theorem d_MO_bracket_16 : decode prog_14_method_59_code 16 = .ok (.goto (-14), 3) := by decide +kernel
theorem d_MO_bracket_19 : decode prog_14_method_59_code 19 = .ok (.iload_n 2, 1) := by decide +kernel
theorem d_MO_bracket_20 : decode prog_14_method_59_code 20 = .ok (.ireturn, 1) := by decide +kernel
theorem d_MO_sameCalls_0 : decode prog_14_method_60_code 0 = .ok (.aload_n 0, 1) := by decide +kernel
theorem d_MO_sameCalls_1 : decode prog_14_method_60_code 1 = .ok (.iload_n 1, 1) := by decide +kernel
theorem d_MO_sameCalls_2 : decode prog_14_method_60_code 2 = .ok (.invokevirtual 370, 3) := by decide +kernel
theorem d_MO_sameCalls_5 : decode prog_14_method_60_code 5 = .ok (.iload_n 1, 1) := by decide +kernel
theorem d_MO_sameCalls_6 : decode prog_14_method_60_code 6 = .ok (.isub, 1) := by decide +kernel
theorem d_MO_sameCalls_7 : decode prog_14_method_60_code 7 = .ok (.istore_n 3, 1) := by decide +kernel
theorem d_MO_sameCalls_8 : decode prog_14_method_60_code 8 = .ok (.aload_n 0, 1) := by decide +kernel
theorem d_MO_sameCalls_9 : decode prog_14_method_60_code 9 = .ok (.iload_n 2, 1) := by decide +kernel
theorem d_MO_sameCalls_10 : decode prog_14_method_60_code 10 = .ok (.invokevirtual 370, 3) := by decide +kernel
theorem d_MO_sameCalls_13 : decode prog_14_method_60_code 13 = .ok (.iload_n 2, 1) := by decide +kernel
theorem d_MO_sameCalls_14 : decode prog_14_method_60_code 14 = .ok (.isub, 1) := by decide +kernel
theorem d_MO_sameCalls_15 : decode prog_14_method_60_code 15 = .ok (.iload_n 3, 1) := by decide +kernel
theorem d_MO_sameCalls_16 : decode prog_14_method_60_code 16 = .ok (.if_icmp .ne 7, 3) := by decide +kernel
theorem d_MO_sameCalls_19 : decode prog_14_method_60_code 19 = .ok (.iconst 1, 1) := by decide +kernel
theorem d_MO_sameCalls_20 : decode prog_14_method_60_code 20 = .ok (.goto 4, 3) := by decide +kernel
theorem d_MO_sameCalls_23 : decode prog_14_method_60_code 23 = .ok (.iconst 0, 1) := by decide +kernel
theorem d_MO_sameCalls_24 : decode prog_14_method_60_code 24 = .ok (.istore 4, 2) := by decide +kernel
theorem d_MO_sameCalls_26 : decode prog_14_method_60_code 26 = .ok (.iconst 0, 1) := by decide +kernel
theorem d_MO_sameCalls_27 : decode prog_14_method_60_code 27 = .ok (.istore 5, 2) := by decide +kernel
theorem d_MO_sameCalls_29 : decode prog_14_method_60_code 29 = .ok (.iload 4, 2) := by decide +kernel
theorem d_MO_sameCalls_31 : decode prog_14_method_60_code 31 = .ok (.ifCond .eq 43, 3) := by decide +kernel
theorem d_MO_sameCalls_34 : decode prog_14_method_60_code 34 = .ok (.iload 5, 2) := by decide +kernel
theorem d_MO_sameCalls_36 : decode prog_14_method_60_code 36 = .ok (.iload_n 3, 1) := by decide +kernel
theorem d_MO_sameCalls_37 : decode prog_14_method_60_code 37 = .ok (.if_icmp .ge 37, 3) := by decide +kernel
theorem d_MO_sameCalls_40 : decode prog_14_method_60_code 40 = .ok (.aload_n 0, 1) := by decide +kernel
theorem d_MO_sameCalls_41 : decode prog_14_method_60_code 41 = .ok (.getfield 94, 3) := by decide +kernel
theorem d_MO_sameCalls_44 : decode prog_14_method_60_code 44 = .ok (.iload_n 1, 1) := by decide +kernel
theorem d_MO_sameCalls_45 : decode prog_14_method_60_code 45 = .ok (.iload 5, 2) := by decide +kernel
theorem d_MO_sameCalls_47 : decode prog_14_method_60_code 47 = .ok (.iadd, 1) := by decide +kernel
theorem d_MO_sameCalls_48 : decode prog_14_method_60_code 48 = .ok (.iaload, 1) := by decide +kernel
theorem d_MO_sameCalls_49 : decode prog_14_method_60_code 49 = .ok (.aload_n 0, 1) := by decide +kernel
theorem d_MO_sameCalls_50 : decode prog_14_method_60_code 50 = .ok (.getfield 94, 3) := by decide +kernel
theorem d_MO_sameCalls_53 : decode prog_14_method_60_code 53 = .ok (.iload_n 2, 1) := by decide +kernel
theorem d_MO_sameCalls_54 : decode prog_14_method_60_code 54 = .ok (.iload 5, 2) := by decide +kernel
theorem d_MO_sameCalls_56 : decode prog_14_method_60_code 56 = .ok (.iadd, 1) := by decide +kernel
theorem d_MO_sameCalls_57 : decode prog_14_method_60_code 57 = .ok (.iaload, 1) := by decide +kernel
theorem d_MO_sameCalls_58 : decode prog_14_method_60_code 58 = .ok (.if_icmp .ne 7, 3) := by decide +kernel
