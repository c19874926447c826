theorem d_11_8_67 : decode prog_11_method_8_code 67 = .ok (.return_, 1) := by decide +kernel
theorem d_11_9_0 : decode prog_11_method_9_code 0 = .ok (.aload_n 0, 1) := by decide +kernel
theorem d_11_9_1 : decode prog_11_method_9_code 1 = .ok (.invokevirtual 100, 3) := by decide +kernel
theorem d_11_9_4 : decode prog_11_method_9_code 4 = .ok (.iconst 0, 1) := by decide +kernel
theorem d_11_9_5 : decode prog_11_method_9_code 5 = .ok (.istore_n 1, 1) := by decide +kernel
theorem d_11_9_6 : decode prog_11_method_9_code 6 = .ok (.iload_n 1, 1) := by decide +kernel
theorem d_11_9_7 : decode prog_11_method_9_code 7 = .ok (.aload_n 0, 1) := by decide +kernel
theorem d_11_9_8 : decode prog_11_method_9_code 8 = .ok (.getfield 40, 3) := by decide +kernel
theorem d_11_9_11 : decode prog_11_method_9_code 11 = .ok (.getfield 84, 3) := by decide +kernel
theorem d_11_9_14 : decode prog_11_method_9_code 14 = .ok (.if_icmp .ge 30, 3) := by decide +kernel
theorem d_11_9_44 : decode prog_11_method_9_code 44 = .ok (.iconst (-1), 1) := by decide +kernel
theorem d_11_9_45 : decode prog_11_method_9_code 45 = .ok (.ireturn, 1) := by decide +kernel
theorem d_12_1_0 : decode prog_12_method_1_code 0 = .ok (.aload_n 0, 1) := by decide +kernel
theorem d_12_1_1 : decode prog_12_method_1_code 1 = .ok (.invokespecial 3, 3) := by decide +kernel
theorem d_12_1_4 : decode prog_12_method_1_code 4 = .ok (.aload_n 0, 1) := by decide +kernel
theorem d_12_1_5 : decode prog_12_method_1_code 5 = .ok (.bipush 16, 2) := by decide +kernel
theorem d_12_1_7 : decode prog_12_method_1_code 7 = .ok (.newarray .int, 2) := by decide +kernel
theorem d_12_1_9 : decode prog_12_method_1_code 9 = .ok (.putfield 9, 3) := by decide +kernel
theorem d_12_1_12 : decode prog_12_method_1_code 12 = .ok (.aload_n 0, 1) := by decide +kernel
theorem d_12_1_13 : decode prog_12_method_1_code 13 = .ok (.iconst 2, 1) := by decide +kernel
theorem d_12_1_14 : decode prog_12_method_1_code 14 = .ok (.bipush 16, 2) := by decide +kernel
theorem d_12_1_16 : decode prog_12_method_1_code 16 = .ok (.multianewarray 15 2, 4) := by decide +kernel
theorem d_12_1_20 : decode prog_12_method_1_code 20 = .ok (.putfield 17, 3) := by decide +kernel
theorem d_12_1_23 : decode prog_12_method_1_code 23 = .ok (.aload_n 0, 1) := by decide +kernel
theorem d_12_1_24 : decode prog_12_method_1_code 24 = .ok (.bipush 17, 2) := by decide +kernel
theorem d_12_1_26 : decode prog_12_method_1_code 26 = .ok (.bipush 16, 2) := by decide +kernel
theorem d_12_1_28 : decode prog_12_method_1_code 28 = .ok (.multianewarray 15 2, 4) := by decide +kernel
theorem d_12_1_32 : decode prog_12_method_1_code 32 = .ok (.putfield 20, 3) := by decide +kernel
theorem d_12_1_35 : decode prog_12_method_1_code 35 = .ok (.aload_n 0, 1) := by decide +kernel
theorem d_12_1_36 : decode prog_12_method_1_code 36 = .ok (.bipush 16, 2) := by decide +kernel
theorem d_12_1_38 : decode prog_12_method_1_code 38 = .ok (.newarray .int, 2) := by decide +kernel
theorem d_12_1_40 : decode prog_12_method_1_code 40 = .ok (.putfield 23, 3) := by decide +kernel
theorem d_12_1_43 : decode prog_12_method_1_code 43 = .ok (.return_, 1) := by decide +kernel
theorem d_12_2_0 : decode prog_12_method_2_code 0 = .ok (.aload_n 0, 1) := by decide +kernel
theorem d_12_2_1 : decode prog_12_method_2_code 1 = .ok (.getfield 26, 3) := by decide +kernel
theorem d_12_2_4 : decode prog_12_method_2_code 4 = .ok (.istore 4, 2) := by decide +kernel
theorem d_12_2_6 : decode prog_12_method_2_code 6 = .ok (.aload_n 0, 1) := by decide +kernel
theorem d_12_2_7 : decode prog_12_method_2_code 7 = .ok (.getfield 9, 3) := by decide +kernel
theorem d_12_2_10 : decode prog_12_method_2_code 10 = .ok (.iload 4, 2) := by decide +kernel
theorem d_12_2_12 : decode prog_12_method_2_code 12 = .ok (.iload_n 1, 1) := by decide +kernel
theorem d_12_2_13 : decode prog_12_method_2_code 13 = .ok (.iastore, 1) := by decide +kernel
theorem d_12_2_14 : decode prog_12_method_2_code 14 = .ok (.aload_n 0, 1) := by decide +kernel
theorem d_12_2_15 : decode prog_12_method_2_code 15 = .ok (.getfield 17, 3) := by decide +kernel
theorem d_12_2_18 : decode prog_12_method_2_code 18 = .ok (.iconst 0, 1) := by decide +kernel
theorem d_12_2_19 : decode prog_12_method_2_code 19 = .ok (.aaload, 1) := by decide +kernel
theorem d_12_2_20 : decode prog_12_method_2_code 20 = .ok (.iload 4, 2) := by decide +kernel
theorem d_12_2_22 : decode prog_12_method_2_code 22 = .ok (.iload_n 2, 1) := by decide +kernel
theorem d_12_2_23 : decode prog_12_method_2_code 23 = .ok (.iastore, 1) := by decide +kernel
theorem d_12_2_24 : decode prog_12_method_2_code 24 = .ok (.aload_n 0, 1) := by decide +kernel
theorem d_12_2_25 : decode prog_12_method_2_code 25 = .ok (.getfield 17, 3) := by decide +kernel
theorem d_12_2_28 : decode prog_12_method_2_code 28 = .ok (.iconst 1, 1) := by decide +kernel
theorem d_12_2_29 : decode prog_12_method_2_code 29 = .ok (.aaload, 1) := by decide +kernel
theorem d_12_2_30 : decode prog_12_method_2_code 30 = .ok (.iload 4, 2) := by decide +kernel
theorem d_12_2_32 : decode prog_12_method_2_code 32 = .ok (.iload_n 3, 1) := by decide +kernel
theorem d_12_2_33 : decode prog_12_method_2_code 33 = .ok (.iastore, 1) := by decide +kernel
theorem d_12_2_34 : decode prog_12_method_2_code 34 = .ok (.aload_n 0, 1) := by decide +kernel
theorem d_12_2_35 : decode prog_12_method_2_code 35 = .ok (.dup, 1) := by decide +kernel
theorem d_12_2_36 : decode prog_12_method_2_code 36 = .ok (.getfield 26, 3) := by decide +kernel
theorem d_12_2_39 : decode prog_12_method_2_code 39 = .ok (.iconst 1, 1) := by decide +kernel
theorem d_12_2_40 : decode prog_12_method_2_code 40 = .ok (.iadd, 1) := by decide +kernel
theorem d_12_2_41 : decode prog_12_method_2_code 41 = .ok (.putfield 26, 3) := by decide +kernel
theorem d_12_2_44 : decode prog_12_method_2_code 44 = .ok (.iload 4, 2) := by decide +kernel
theorem d_12_2_46 : decode prog_12_method_2_code 46 = .ok (.ireturn, 1) := by decide +kernel
theorem d_14_100_0 : decode prog_14_method_100_code 0 = .ok (.aload_n 0, 1) := by decide +kernel
theorem d_14_100_1 : decode prog_14_method_100_code 1 = .ok (.iconst 0, 1) := by decide +kernel
theorem d_14_100_2 : decode prog_14_method_100_code 2 = .ok (.putfield 114, 3) := by decide +kernel
theorem d_14_100_5 : decode prog_14_method_100_code 5 = .ok (.aload_n 0, 1) := by decide +kernel
theorem d_14_100_6 : decode prog_14_method_100_code 6 = .ok (.invokevirtual 423, 3) := by decide +kernel
theorem d_14_100_9 : decode prog_14_method_100_code 9 = .ok (.aload_n 0, 1) := by decide +kernel
theorem d_14_100_10 : decode prog_14_method_100_code 10 = .ok (.invokevirtual 426, 3) := by decide +kernel
theorem d_14_100_13 : decode prog_14_method_100_code 13 = .ok (.iadd, 1) := by decide +kernel
theorem d_14_100_14 : decode prog_14_method_100_code 14 = .ok (.aload_n 0, 1) := by decide +kernel
theorem d_14_100_15 : decode prog_14_method_100_code 15 = .ok (.invokevirtual 429, 3) := by decide +kernel
theorem d_14_100_18 : decode prog_14_method_100_code 18 = .ok (.iadd, 1) := by decide +kernel
theorem d_14_100_19 : decode prog_14_method_100_code 19 = .ok (.aload_n 0, 1) := by decide +kernel
theorem d_14_100_20 : decode prog_14_method_100_code 20 = .ok (.invokevirtual 432, 3) := by decide +kernel
theorem d_14_100_23 : decode prog_14_method_100_code 23 = .ok (.iadd, 1) := by decide +kernel
theorem d_14_100_24 : decode prog_14_method_100_code 24 = .ok (.ireturn, 1) := by decide +kernel
theorem d_14_101_0 : decode prog_14_method_101_code 0 = .ok (.iconst 0, 1) := by decide +kernel
theorem d_14_101_1 : decode prog_14_method_101_code 1 = .ok (.istore_n 1, 1) := by decide +kernel
theorem d_14_101_2 : decode prog_14_method_101_code 2 = .ok (.iconst 0, 1) := by decide +kernel
theorem d_14_101_3 : decode prog_14_method_101_code 3 = .ok (.istore_n 2, 1) := by decide +kernel
theorem d_14_101_4 : decode prog_14_method_101_code 4 = .ok (.aload_n 0, 1) := by decide +kernel
theorem d_14_101_5 : decode prog_14_method_101_code 5 = .ok (.getfield 100, 3) := by decide +kernel
theorem d_14_101_8 : decode prog_14_method_101_code 8 = .ok (.getfield 235, 3) := by decide +kernel
theorem d_14_101_11 : decode prog_14_method_101_code 11 = .ok (.ifnull 153, 3) := by decide +kernel
theorem d_14_101_164 : decode prog_14_method_101_code 164 = .ok (.iload_n 1, 1) := by decide +kernel
theorem d_14_101_165 : decode prog_14_method_101_code 165 = .ok (.ifCond .eq 7, 3) := by decide +kernel
theorem d_14_101_172 : decode prog_14_method_101_code 172 = .ok (.iconst 0, 1) := by decide +kernel
theorem d_14_101_173 : decode prog_14_method_101_code 173 = .ok (.ireturn, 1) := by decide +kernel
theorem d_14_102_0 : decode prog_14_method_102_code 0 = .ok (.aload_n 0, 1) := by decide +kernel
theorem d_14_102_1 : decode prog_14_method_102_code 1 = .ok (.getfield 100, 3) := by decide +kernel
theorem d_14_102_4 : decode prog_14_method_102_code 4 = .ok (.getfield 246, 3) := by decide +kernel
theorem d_14_102_7 : decode prog_14_method_102_code 7 = .ok (.astore_n 1, 1) := by decide +kernel
theorem d_14_102_8 : decode prog_14_method_102_code 8 = .ok (.aload_n 1, 1) := by decide +kernel
theorem d_14_102_9 : decode prog_14_method_102_code 9 = .ok (.ifnonnull 5, 3) := by decide +kernel
theorem d_14_102_12 : decode prog_14_method_102_code 12 = .ok (.iconst 0, 1) := by decide +kernel
theorem d_14_102_13 : decode prog_14_method_102_code 13 = .ok (.ireturn, 1) := by decide +kernel
theorem d_14_103_0 : decode prog_14_method_103_code 0 = .ok (.aload_n 0, 1) := by decide +kernel
theorem d_14_103_1 : decode prog_14_method_103_code 1 = .ok (.invokevirtual 445, 3) := by decide +kernel
theorem d_14_103_4 : decode prog_14_method_103_code 4 = .ok (.istore_n 1, 1) := by decide +kernel
theorem d_14_103_5 : decode prog_14_method_103_code 5 = .ok (.iload_n 1, 1) := by decide +kernel
theorem d_14_103_6 : decode prog_14_method_103_code 6 = .ok (.iconst (-1), 1) := by decide +kernel
theorem d_14_103_7 : decode prog_14_method_103_code 7 = .ok (.if_icmp .ne 5, 3) := by decide +kernel
theorem d_14_103_10 : decode prog_14_method_103_code 10 = .ok (.iconst 0, 1) := by decide +kernel
theorem d_14_103_11 : decode prog_14_method_103_code 11 = .ok (.ireturn, 1) := by decide +kernel
theorem d_14_104_0 : decode prog_14_method_104_code 0 = .ok (.lconst 0, 1) := by decide +kernel
theorem d_14_104_1 : decode prog_14_method_104_code 1 = .ok (.lstore_n 1, 1) := by decide +kernel
theorem d_14_104_2 : decode prog_14_method_104_code 2 = .ok (.iconst 0, 1) := by decide +kernel
theorem d_14_104_3 : decode prog_14_method_104_code 3 = .ok (.istore_n 3, 1) := by decide +kernel
theorem d_14_104_4 : decode prog_14_method_104_code 4 = .ok (.iload_n 3, 1) := by decide +kernel
theorem d_14_104_5 : decode prog_14_method_104_code 5 = .ok (.aload_n 0, 1) := by decide +kernel
theorem d_14_104_6 : decode prog_14_method_104_code 6 = .ok (.getfield 100, 3) := by decide +kernel
theorem d_14_104_9 : decode prog_14_method_104_code 9 = .ok (.getfield 404, 3) := by decide +kernel
theorem d_14_104_12 : decode prog_14_method_104_code 12 = .ok (.if_icmp .ge 17, 3) := by decide +kernel
theorem d_14_104_29 : decode prog_14_method_104_code 29 = .ok (.lload_n 1, 1) := by decide +kernel
theorem d_14_104_30 : decode prog_14_method_104_code 30 = .ok (.lconst 0, 1) := by decide +kernel
theorem d_14_104_31 : decode prog_14_method_104_code 31 = .ok (.lcmp, 1) := by decide +kernel
theorem d_14_104_32 : decode prog_14_method_104_code 32 = .ok (.ifCond .eq 18, 3) := by decide +kernel
theorem d_14_104_50 : decode prog_14_method_104_code 50 = .ok (.iconst 0, 1) := by decide +kernel
theorem d_14_104_51 : decode prog_14_method_104_code 51 = .ok (.goto 4, 3) := by decide +kernel
theorem d_14_104_55 : decode prog_14_method_104_code 55 = .ok (.ireturn, 1) := by decide +kernel
theorem d_14_15_0 : decode prog_14_method_15_code 0 = .ok (.aload_n 0, 1) := by decide +kernel
theorem d_14_15_1 : decode prog_14_method_15_code 1 = .ok (.arraylength, 1) := by decide +kernel
theorem d_14_15_2 : decode prog_14_method_15_code 2 = .ok (.istore 6, 2) := by decide +kernel
theorem d_14_15_4 : decode prog_14_method_15_code 4 = .ok (.new 52, 3) := by decide +kernel
theorem d_14_15_7 : decode prog_14_method_15_code 7 = .ok (.dup, 1) := by decide +kernel
theorem d_14_15_8 : decode prog_14_method_15_code 8 = .ok (.aload_n 0, 1) := by decide +kernel
theorem d_14_15_9 : decode prog_14_method_15_code 9 = .ok (.aload_n 1, 1) := by decide +kernel
theorem d_14_15_10 : decode prog_14_method_15_code 10 = .ok (.invokespecial 54, 3) := by decide +kernel
theorem d_14_15_13 : decode prog_14_method_15_code 13 = .ok (.astore 7, 2) := by decide +kernel
theorem d_14_15_15 : decode prog_14_method_15_code 15 = .ok (.lconst 0, 1) := by decide +kernel
theorem d_14_15_16 : decode prog_14_method_15_code 16 = .ok (.lstore 8, 2) := by decide +kernel
theorem d_14_15_18 : decode prog_14_method_15_code 18 = .ok (.aload_n 0, 1) := by decide +kernel
theorem d_14_15_19 : decode prog_14_method_15_code 19 = .ok (.astore 10, 2) := by decide +kernel
theorem d_14_15_21 : decode prog_14_method_15_code 21 = .ok (.aload 10, 2) := by decide +kernel
theorem d_14_15_23 : decode prog_14_method_15_code 23 = .ok (.arraylength, 1) := by decide +kernel
theorem d_14_15_24 : decode prog_14_method_15_code 24 = .ok (.istore 11, 2) := by decide +kernel
theorem d_14_15_26 : decode prog_14_method_15_code 26 = .ok (.iconst 0, 1) := by decide +kernel
theorem d_14_15_27 : decode prog_14_method_15_code 27 = .ok (.istore 12, 2) := by decide +kernel
theorem d_14_15_29 : decode prog_14_method_15_code 29 = .ok (.iload 12, 2) := by decide +kernel
theorem d_14_15_31 : decode prog_14_method_15_code 31 = .ok (.iload 11, 2) := by decide +kernel
theorem d_14_15_33 : decode prog_14_method_15_code 33 = .ok (.if_icmp .ge 24, 3) := by decide +kernel
theorem d_14_15_57 : decode prog_14_method_15_code 57 = .ok (.iload 6, 2) := by decide +kernel
theorem d_14_15_59 : decode prog_14_method_15_code 59 = .ok (.newarray .int, 2) := by decide +kernel
theorem d_14_15_61 : decode prog_14_method_15_code 61 = .ok (.astore 10, 2) := by decide +kernel
theorem d_14_15_63 : decode prog_14_method_15_code 63 = .ok (.iload 6, 2) := by decide +kernel
theorem d_14_15_65 : decode prog_14_method_15_code 65 = .ok (.newarray .long, 2) := by decide +kernel
theorem d_14_15_67 : decode prog_14_method_15_code 67 = .ok (.astore 11, 2) := by decide +kernel
theorem d_14_15_69 : decode prog_14_method_15_code 69 = .ok (.iload 6, 2) := by decide +kernel
theorem d_14_15_71 : decode prog_14_method_15_code 71 = .ok (.newarray .int, 2) := by decide +kernel
theorem d_14_15_73 : decode prog_14_method_15_code 73 = .ok (.astore 12, 2) := by decide +kernel
theorem d_14_15_75 : decode prog_14_method_15_code 75 = .ok (.iconst 0, 1) := by decide +kernel
theorem d_14_15_76 : decode prog_14_method_15_code 76 = .ok (.istore 13, 2) := by decide +kernel
theorem d_14_15_78 : decode prog_14_method_15_code 78 = .ok (.iload 13, 2) := by decide +kernel
theorem d_14_15_80 : decode prog_14_method_15_code 80 = .ok (.iload 6, 2) := by decide +kernel
theorem d_14_15_82 : decode prog_14_method_15_code 82 = .ok (.if_icmp .ge 72, 3) := by decide +kernel
theorem d_14_15_154 : decode prog_14_method_15_code 154 = .ok (.iconst 0, 1) := by decide +kernel
theorem d_14_15_155 : decode prog_14_method_15_code 155 = .ok (.istore 13, 2) := by decide +kernel
theorem d_14_15_157 : decode prog_14_method_15_code 157 = .ok (.iload 6, 2) := by decide +kernel
theorem d_14_15_159 : decode prog_14_method_15_code 159 = .ok (.newarray .long, 2) := by decide +kernel
theorem d_14_15_161 : decode prog_14_method_15_code 161 = .ok (.astore 14, 2) := by decide +kernel
theorem d_14_15_163 : decode prog_14_method_15_code 163 = .ok (.iload 6, 2) := by decide +kernel
theorem d_14_15_165 : decode prog_14_method_15_code 165 = .ok (.newarray .int, 2) := by decide +kernel
theorem d_14_15_167 : decode prog_14_method_15_code 167 = .ok (.astore 15, 2) := by decide +kernel
theorem d_14_15_169 : decode prog_14_method_15_code 169 = .ok (.iload 6, 2) := by decide +kernel
theorem d_14_15_171 : decode prog_14_method_15_code 171 = .ok (.newarray .int, 2) := by decide +kernel
theorem d_14_15_173 : decode prog_14_method_15_code 173 = .ok (.astore 16, 2) := by decide +kernel
theorem d_14_15_175 : decode prog_14_method_15_code 175 = .ok (.iconst 0, 1) := by decide +kernel
theorem d_14_15_176 : decode prog_14_method_15_code 176 = .ok (.istore 17, 2) := by decide +kernel
theorem d_14_15_178 : decode prog_14_method_15_code 178 = .ok (.iload 17, 2) := by decide +kernel
theorem d_14_15_180 : decode prog_14_method_15_code 180 = .ok (.iload 6, 2) := by decide +kernel
theorem d_14_15_182 : decode prog_14_method_15_code 182 = .ok (.if_icmp .ge 101, 3) := by decide +kernel
theorem d_14_15_283 : decode prog_14_method_15_code 283 = .ok (.aload 7, 2) := by decide +kernel
theorem d_14_15_285 : decode prog_14_method_15_code 285 = .ok (.iload 13, 2) := by decide +kernel
theorem d_14_15_287 : decode prog_14_method_15_code 287 = .ok (.putfield 64, 3) := by decide +kernel
theorem d_14_15_290 : decode prog_14_method_15_code 290 = .ok (.new 68, 3) := by decide +kernel
theorem d_14_15_293 : decode prog_14_method_15_code 293 = .ok (.dup, 1) := by decide +kernel
theorem d_14_15_294 : decode prog_14_method_15_code 294 = .ok (.iload 13, 2) := by decide +kernel
theorem d_14_15_296 : decode prog_14_method_15_code 296 = .ok (.aload 14, 2) := by decide +kernel
theorem d_14_15_298 : decode prog_14_method_15_code 298 = .ok (.aload 15, 2) := by decide +kernel
theorem d_14_15_300 : decode prog_14_method_15_code 300 = .ok (.aload 16, 2) := by decide +kernel
theorem d_14_15_302 : decode prog_14_method_15_code 302 = .ok (.invokespecial 70, 3) := by decide +kernel
theorem d_14_15_305 : decode prog_14_method_15_code 305 = .ok (.astore 17, 2) := by decide +kernel
theorem d_14_15_307 : decode prog_14_method_15_code 307 = .ok (.aload 17, 2) := by decide +kernel
theorem d_14_15_309 : decode prog_14_method_15_code 309 = .ok (.iload_n 3, 1) := by decide +kernel
theorem d_14_15_310 : decode prog_14_method_15_code 310 = .ok (.iload 4, 2) := by decide +kernel
theorem d_14_15_312 : decode prog_14_method_15_code 312 = .ok (.invokevirtual 73, 3) := by decide +kernel
theorem d_14_15_315 : decode prog_14_method_15_code 315 = .ok (.aload 7, 2) := by decide +kernel
theorem d_14_15_317 : decode prog_14_method_15_code 317 = .ok (.aload 17, 2) := by decide +kernel
theorem d_14_15_319 : decode prog_14_method_15_code 319 = .ok (.getfield 77, 3) := by decide +kernel
theorem d_14_15_322 : decode prog_14_method_15_code 322 = .ok (.putfield 80, 3) := by decide +kernel
theorem d_14_15_325 : decode prog_14_method_15_code 325 = .ok (.iconst 0, 1) := by decide +kernel
theorem d_14_15_326 : decode prog_14_method_15_code 326 = .ok (.istore 18, 2) := by decide +kernel
theorem d_14_15_328 : decode prog_14_method_15_code 328 = .ok (.iload 18, 2) := by decide +kernel
theorem d_14_15_330 : decode prog_14_method_15_code 330 = .ok (.aload 17, 2) := by decide +kernel
theorem d_14_15_332 : decode prog_14_method_15_code 332 = .ok (.getfield 77, 3) := by decide +kernel
theorem d_14_15_335 : decode prog_14_method_15_code 335 = .ok (.if_icmp .ge 28, 3) := by decide +kernel
theorem d_14_15_363 : decode prog_14_method_15_code 363 = .ok (.iconst 0, 1) := by decide +kernel
theorem d_14_15_364 : decode prog_14_method_15_code 364 = .ok (.istore 18, 2) := by decide +kernel
theorem d_14_15_366 : decode prog_14_method_15_code 366 = .ok (.iload 18, 2) := by decide +kernel
theorem d_14_15_368 : decode prog_14_method_15_code 368 = .ok (.iload 13, 2) := by decide +kernel
theorem d_14_15_370 : decode prog_14_method_15_code 370 = .ok (.if_icmp .ge 161, 3) := by decide +kernel
theorem d_14_15_531 : decode prog_14_method_15_code 531 = .ok (.aload 7, 2) := by decide +kernel
theorem d_14_15_533 : decode prog_14_method_15_code 533 = .ok (.areturn, 1) := by decide +kernel
theorem d_14_16_0 : decode prog_14_method_16_code 0 = .ok (.aload_n 0, 1) := by decide +kernel
theorem d_14_16_1 : decode prog_14_method_16_code 1 = .ok (.invokespecial 92, 3) := by decide +kernel
theorem d_14_16_4 : decode prog_14_method_16_code 4 = .ok (.aload_n 0, 1) := by decide +kernel
theorem d_14_16_5 : decode prog_14_method_16_code 5 = .ok (.new 97, 3) := by decide +kernel
theorem d_14_16_8 : decode prog_14_method_16_code 8 = .ok (.dup, 1) := by decide +kernel
theorem d_14_16_9 : decode prog_14_method_16_code 9 = .ok (.invokespecial 99, 3) := by decide +kernel
theorem d_14_16_12 : decode prog_14_method_16_code 12 = .ok (.putfield 100, 3) := by decide +kernel
theorem d_14_16_15 : decode prog_14_method_16_code 15 = .ok (.aload_n 0, 1) := by decide +kernel
theorem d_14_16_16 : decode prog_14_method_16_code 16 = .ok (.bipush 20, 2) := by decide +kernel
theorem d_14_16_18 : decode prog_14_method_16_code 18 = .ok (.anewarray 97, 3) := by decide +kernel
theorem d_14_16_21 : decode prog_14_method_16_code 21 = .ok (.putfield 104, 3) := by decide +kernel
theorem d_14_16_24 : decode prog_14_method_16_code 24 = .ok (.aload_n 0, 1) := by decide +kernel
theorem d_14_16_25 : decode prog_14_method_16_code 25 = .ok (.bipush 30, 2) := by decide +kernel
theorem d_14_16_27 : decode prog_14_method_16_code 27 = .ok (.newarray .int, 2) := by decide +kernel
theorem d_14_16_29 : decode prog_14_method_16_code 29 = .ok (.putfield 108, 3) := by decide +kernel
theorem d_14_16_32 : decode prog_14_method_16_code 32 = .ok (.aload_n 0, 1) := by decide +kernel
theorem d_14_16_33 : decode prog_14_method_16_code 33 = .ok (.iconst 0, 1) := by decide +kernel
theorem d_14_16_34 : decode prog_14_method_16_code 34 = .ok (.newarray .int, 2) := by decide +kernel
theorem d_14_16_36 : decode prog_14_method_16_code 36 = .ok (.putfield 111, 3) := by decide +kernel
theorem d_14_16_39 : decode prog_14_method_16_code 39 = .ok (.return_, 1) := by decide +kernel
theorem d_14_17_0 : decode prog_14_method_17_code 0 = .ok (.aload_n 0, 1) := by decide +kernel
theorem d_14_17_1 : decode prog_14_method_17_code 1 = .ok (.getfield 114, 3) := by decide +kernel
theorem d_14_17_4 : decode prog_14_method_17_code 4 = .ok (.ireturn, 1) := by decide +kernel
theorem d_14_18_0 : decode prog_14_method_18_code 0 = .ok (.aload_n 0, 1) := by decide +kernel
theorem d_14_18_1 : decode prog_14_method_18_code 1 = .ok (.iload_n 1, 1) := by decide +kernel
theorem d_14_18_2 : decode prog_14_method_18_code 2 = .ok (.ifCond .eq 7, 3) := by decide +kernel
theorem d_14_18_5 : decode prog_14_method_18_code 5 = .ok (.iconst 0, 1) := by decide +kernel
theorem d_14_18_6 : decode prog_14_method_18_code 6 = .ok (.goto 4, 3) := by decide +kernel
theorem d_14_18_9 : decode prog_14_method_18_code 9 = .ok (.iload_n 2, 1) := by decide +kernel
theorem d_14_18_10 : decode prog_14_method_18_code 10 = .ok (.putfield 114, 3) := by decide +kernel
theorem d_14_18_13 : decode prog_14_method_18_code 13 = .ok (.iload_n 1, 1) := by decide +kernel
theorem d_14_18_14 : decode prog_14_method_18_code 14 = .ok (.ifCond .ne 7, 3) := by decide +kernel
theorem d_14_18_17 : decode prog_14_method_18_code 17 = .ok (.iconst 1, 1) := by decide +kernel
theorem d_14_18_18 : decode prog_14_method_18_code 18 = .ok (.goto 4, 3) := by decide +kernel
theorem d_14_18_21 : decode prog_14_method_18_code 21 = .ok (.iconst 0, 1) := by decide +kernel
theorem d_14_18_22 : decode prog_14_method_18_code 22 = .ok (.ireturn, 1) := by decide +kernel
theorem d_14_19_0 : decode prog_14_method_19_code 0 = .ok (.aload_n 0, 1) := by decide +kernel
theorem d_14_19_1 : decode prog_14_method_19_code 1 = .ok (.getfield 117, 3) := by decide +kernel
theorem d_14_19_4 : decode prog_14_method_19_code 4 = .ok (.bipush 20, 2) := by decide +kernel
theorem d_14_19_6 : decode prog_14_method_19_code 6 = .ok (.if_icmp .ne 41, 3) := by decide +kernel
theorem d_14_19_47 : decode prog_14_method_19_code 47 = .ok (.aload_n 0, 1) := by decide +kernel
theorem d_14_19_48 : decode prog_14_method_19_code 48 = .ok (.getfield 104, 3) := by decide +kernel
theorem d_14_19_51 : decode prog_14_method_19_code 51 = .ok (.aload_n 0, 1) := by decide +kernel
theorem d_14_19_52 : decode prog_14_method_19_code 52 = .ok (.getfield 117, 3) := by decide +kernel
theorem d_14_19_55 : decode prog_14_method_19_code 55 = .ok (.aload_n 0, 1) := by decide +kernel
theorem d_14_19_56 : decode prog_14_method_19_code 56 = .ok (.getfield 100, 3) := by decide +kernel
theorem d_14_19_59 : decode prog_14_method_19_code 59 = .ok (.invokevirtual 120, 3) := by decide +kernel
theorem d_14_19_62 : decode prog_14_method_19_code 62 = .ok (.aastore, 1) := by decide +kernel
theorem d_14_19_63 : decode prog_14_method_19_code 63 = .ok (.aload_n 0, 1) := by decide +kernel
theorem d_14_19_64 : decode prog_14_method_19_code 64 = .ok (.dup, 1) := by decide +kernel
theorem d_14_19_65 : decode prog_14_method_19_code 65 = .ok (.getfield 117, 3) := by decide +kernel
theorem d_14_19_68 : decode prog_14_method_19_code 68 = .ok (.iconst 1, 1) := by decide +kernel
theorem d_14_19_69 : decode prog_14_method_19_code 69 = .ok (.iadd, 1) := by decide +kernel
theorem d_14_19_70 : decode prog_14_method_19_code 70 = .ok (.putfield 117, 3) := by decide +kernel
theorem d_14_19_73 : decode prog_14_method_19_code 73 = .ok (.return_, 1) := by decide +kernel
theorem d_14_20_0 : decode prog_14_method_20_code 0 = .ok (.iload_n 0, 1) := by decide +kernel
theorem d_14_20_1 : decode prog_14_method_20_code 1 = .ok (.iload_n 1, 1) := by decide +kernel
theorem d_14_20_2 : decode prog_14_method_20_code 2 = .ok (.if_icmp .lt 12, 3) := by decide +kernel
theorem d_14_20_5 : decode prog_14_method_20_code 5 = .ok (.iload_n 0, 1) := by decide +kernel
theorem d_14_20_6 : decode prog_14_method_20_code 6 = .ok (.iload_n 2, 1) := by decide +kernel
theorem d_14_20_7 : decode prog_14_method_20_code 7 = .ok (.if_icmp .gt 7, 3) := by decide +kernel
theorem d_14_20_10 : decode prog_14_method_20_code 10 = .ok (.iconst 1, 1) := by decide +kernel
theorem d_14_20_11 : decode prog_14_method_20_code 11 = .ok (.goto 4, 3) := by decide +kernel
theorem d_14_20_14 : decode prog_14_method_20_code 14 = .ok (.iconst 0, 1) := by decide +kernel
theorem d_14_20_15 : decode prog_14_method_20_code 15 = .ok (.ireturn, 1) := by decide +kernel
theorem d_14_21_0 : decode prog_14_method_21_code 0 = .ok (.iload_n 1, 1) := by decide +kernel
theorem d_14_21_1 : decode prog_14_method_21_code 1 = .ok (.iconst 0, 1) := by decide +kernel
theorem d_14_21_2 : decode prog_14_method_21_code 2 = .ok (.aload_n 0, 1) := by decide +kernel
theorem d_14_21_3 : decode prog_14_method_21_code 3 = .ok (.getfield 100, 3) := by decide +kernel
theorem d_14_21_6 : decode prog_14_method_21_code 6 = .ok (.getfield 124, 3) := by decide +kernel
theorem d_14_21_9 : decode prog_14_method_21_code 9 = .ok (.iconst 1, 1) := by decide +kernel
theorem d_14_21_10 : decode prog_14_method_21_code 10 = .ok (.isub, 1) := by decide +kernel
theorem d_14_21_11 : decode prog_14_method_21_code 11 = .ok (.invokestatic 127, 3) := by decide +kernel
theorem d_14_21_14 : decode prog_14_method_21_code 14 = .ok (.ireturn, 1) := by decide +kernel
theorem d_14_22_0 : decode prog_14_method_22_code 0 = .ok (.iload_n 1, 1) := by decide +kernel
theorem d_14_22_1 : decode prog_14_method_22_code 1 = .ok (.iconst 0, 1) := by decide +kernel
theorem d_14_22_2 : decode prog_14_method_22_code 2 = .ok (.aload_n 0, 1) := by decide +kernel
theorem d_14_22_3 : decode prog_14_method_22_code 3 = .ok (.getfield 100, 3) := by decide +kernel
theorem d_14_22_6 : decode prog_14_method_22_code 6 = .ok (.getfield 131, 3) := by decide +kernel
theorem d_14_22_9 : decode prog_14_method_22_code 9 = .ok (.iconst 1, 1) := by decide +kernel
theorem d_14_22_10 : decode prog_14_method_22_code 10 = .ok (.isub, 1) := by decide +kernel
theorem d_14_22_11 : decode prog_14_method_22_code 11 = .ok (.invokestatic 127, 3) := by decide +kernel
theorem d_14_22_14 : decode prog_14_method_22_code 14 = .ok (.ireturn, 1) := by decide +kernel
theorem d_14_23_0 : decode prog_14_method_23_code 0 = .ok (.iload_n 1, 1) := by decide +kernel
theorem d_14_23_1 : decode prog_14_method_23_code 1 = .ok (.iconst 0, 1) := by decide +kernel
theorem d_14_23_2 : decode prog_14_method_23_code 2 = .ok (.aload_n 0, 1) := by decide +kernel
theorem d_14_23_3 : decode prog_14_method_23_code 3 = .ok (.getfield 100, 3) := by decide +kernel
theorem d_14_23_6 : decode prog_14_method_23_code 6 = .ok (.getfield 134, 3) := by decide +kernel
theorem d_14_23_9 : decode prog_14_method_23_code 9 = .ok (.arraylength, 1) := by decide +kernel
theorem d_14_23_10 : decode prog_14_method_23_code 10 = .ok (.iconst 1, 1) := by decide +kernel
theorem d_14_23_11 : decode prog_14_method_23_code 11 = .ok (.isub, 1) := by decide +kernel
theorem d_14_23_12 : decode prog_14_method_23_code 12 = .ok (.invokestatic 127, 3) := by decide +kernel
theorem d_14_23_15 : decode prog_14_method_23_code 15 = .ok (.ireturn, 1) := by decide +kernel
theorem d_14_24_0 : decode prog_14_method_24_code 0 = .ok (.iconst 1, 1) := by decide +kernel
theorem d_14_24_1 : decode prog_14_method_24_code 1 = .ok (.aload_n 0, 1) := by decide +kernel
theorem d_14_24_2 : decode prog_14_method_24_code 2 = .ok (.getfield 100, 3) := by decide +kernel
theorem d_14_24_5 : decode prog_14_method_24_code 5 = .ok (.getfield 124, 3) := by decide +kernel
theorem d_14_24_8 : decode prog_14_method_24_code 8 = .ok (.ishl, 1) := by decide +kernel
theorem d_14_24_9 : decode prog_14_method_24_code 9 = .ok (.iconst 1, 1) := by decide +kernel
theorem d_14_24_10 : decode prog_14_method_24_code 10 = .ok (.isub, 1) := by decide +kernel
theorem d_14_24_11 : decode prog_14_method_24_code 11 = .ok (.ireturn, 1) := by decide +kernel
theorem d_14_25_0 : decode prog_14_method_25_code 0 = .ok (.new 138, 3) := by decide +kernel
theorem d_14_25_3 : decode prog_14_method_25_code 3 = .ok (.dup, 1) := by decide +kernel
theorem d_14_25_4 : decode prog_14_method_25_code 4 = .ok (.aload_n 0, 1) := by decide +kernel
theorem d_14_25_5 : decode prog_14_method_25_code 5 = .ok (.getfield 100, 3) := by decide +kernel
theorem d_14_25_8 : decode prog_14_method_25_code 8 = .ok (.getfield 134, 3) := by decide +kernel
theorem d_14_25_11 : decode prog_14_method_25_code 11 = .ok (.aload_n 0, 1) := by decide +kernel
theorem d_14_25_12 : decode prog_14_method_25_code 12 = .ok (.invokevirtual 140, 3) := by decide +kernel
theorem d_14_25_15 : decode prog_14_method_25_code 15 = .ok (.aload_n 0, 1) := by decide +kernel
theorem d_14_25_16 : decode prog_14_method_25_code 16 = .ok (.getfield 100, 3) := by decide +kernel
theorem d_14_25_19 : decode prog_14_method_25_code 19 = .ok (.getfield 144, 3) := by decide +kernel
theorem d_14_25_22 : decode prog_14_method_25_code 22 = .ok (.invokespecial 147, 3) := by decide +kernel
theorem d_14_25_25 : decode prog_14_method_25_code 25 = .ok (.areturn, 1) := by decide +kernel
theorem d_14_26_0 : decode prog_14_method_26_code 0 = .ok (.aload_n 0, 1) := by decide +kernel
theorem d_14_26_1 : decode prog_14_method_26_code 1 = .ok (.aload_n 0, 1) := by decide +kernel
theorem d_14_26_2 : decode prog_14_method_26_code 2 = .ok (.getfield 100, 3) := by decide +kernel
theorem d_14_26_5 : decode prog_14_method_26_code 5 = .ok (.getfield 124, 3) := by decide +kernel
theorem d_14_26_8 : decode prog_14_method_26_code 8 = .ok (.bipush 8, 2) := by decide +kernel
theorem d_14_26_10 : decode prog_14_method_26_code 10 = .ok (.if_icmp .ge 7, 3) := by decide +kernel
theorem d_14_26_13 : decode prog_14_method_26_code 13 = .ok (.iconst 1, 1) := by decide +kernel
theorem d_14_26_14 : decode prog_14_method_26_code 14 = .ok (.goto 4, 3) := by decide +kernel
theorem d_14_26_18 : decode prog_14_method_26_code 18 = .ok (.iconst 1, 1) := by decide +kernel
theorem d_14_26_19 : decode prog_14_method_26_code 19 = .ok (.invokevirtual 150, 3) := by decide +kernel
theorem d_14_26_22 : decode prog_14_method_26_code 22 = .ok (.ifCond .eq 5, 3) := by decide +kernel
theorem d_14_26_27 : decode prog_14_method_26_code 27 = .ok (.aload_n 0, 1) := by decide +kernel
theorem d_14_26_28 : decode prog_14_method_26_code 28 = .ok (.invokevirtual 154, 3) := by decide +kernel
theorem d_14_26_31 : decode prog_14_method_26_code 31 = .ok (.aload_n 0, 1) := by decide +kernel
theorem d_14_26_32 : decode prog_14_method_26_code 32 = .ok (.getfield 100, 3) := by decide +kernel
theorem d_14_26_35 : decode prog_14_method_26_code 35 = .ok (.getfield 144, 3) := by decide +kernel
theorem d_14_26_38 : decode prog_14_method_26_code 38 = .ok (.aload_n 0, 1) := by decide +kernel
theorem d_14_26_39 : decode prog_14_method_26_code 39 = .ok (.getfield 100, 3) := by decide +kernel
theorem d_14_26_42 : decode prog_14_method_26_code 42 = .ok (.getfield 124, 3) := by decide +kernel
theorem d_14_26_45 : decode prog_14_method_26_code 45 = .ok (.aload_n 0, 1) := by decide +kernel
theorem d_14_26_46 : decode prog_14_method_26_code 46 = .ok (.getfield 100, 3) := by decide +kernel
theorem d_14_26_49 : decode prog_14_method_26_code 49 = .ok (.getfield 124, 3) := by decide +kernel
theorem d_14_26_52 : decode prog_14_method_26_code 52 = .ok (.iastore, 1) := by decide +kernel
theorem d_14_26_53 : decode prog_14_method_26_code 53 = .ok (.aload_n 0, 1) := by decide +kernel
theorem d_14_26_54 : decode prog_14_method_26_code 54 = .ok (.getfield 100, 3) := by decide +kernel
theorem d_14_26_57 : decode prog_14_method_26_code 57 = .ok (.dup, 1) := by decide +kernel
theorem d_14_26_58 : decode prog_14_method_26_code 58 = .ok (.getfield 124, 3) := by decide +kernel
theorem d_14_26_61 : decode prog_14_method_26_code 61 = .ok (.iconst 1, 1) := by decide +kernel
theorem d_14_26_62 : decode prog_14_method_26_code 62 = .ok (.iadd, 1) := by decide +kernel
theorem d_14_26_63 : decode prog_14_method_26_code 63 = .ok (.putfield 124, 3) := by decide +kernel
theorem d_14_26_66 : decode prog_14_method_26_code 66 = .ok (.aload_n 0, 1) := by decide +kernel
theorem d_14_26_67 : decode prog_14_method_26_code 67 = .ok (.getfield 100, 3) := by decide +kernel
theorem d_14_26_70 : decode prog_14_method_26_code 70 = .ok (.getfield 124, 3) := by decide +kernel
theorem d_14_26_73 : decode prog_14_method_26_code 73 = .ok (.iconst 1, 1) := by decide +kernel
theorem d_14_26_74 : decode prog_14_method_26_code 74 = .ok (.isub, 1) := by decide +kernel
theorem d_14_26_75 : decode prog_14_method_26_code 75 = .ok (.ireturn, 1) := by decide +kernel
theorem d_14_27_0 : decode prog_14_method_27_code 0 = .ok (.aload_n 0, 1) := by decide +kernel
theorem d_14_27_1 : decode prog_14_method_27_code 1 = .ok (.iload_n 1, 1) := by decide +kernel
theorem d_14_27_2 : decode prog_14_method_27_code 2 = .ok (.ifCond .eq 11, 3) := by decide +kernel
theorem d_14_27_5 : decode prog_14_method_27_code 5 = .ok (.aload_n 0, 1) := by decide +kernel
theorem d_14_27_6 : decode prog_14_method_27_code 6 = .ok (.iload_n 2, 1) := by decide +kernel
theorem d_14_27_7 : decode prog_14_method_27_code 7 = .ok (.invokevirtual 157, 3) := by decide +kernel
theorem d_14_27_10 : decode prog_14_method_27_code 10 = .ok (.goto 8, 3) := by decide +kernel
theorem d_14_27_13 : decode prog_14_method_27_code 13 = .ok (.aload_n 0, 1) := by decide +kernel
theorem d_14_27_14 : decode prog_14_method_27_code 14 = .ok (.iload_n 2, 1) := by decide +kernel
theorem d_14_27_15 : decode prog_14_method_27_code 15 = .ok (.invokevirtual 161, 3) := by decide +kernel
theorem d_14_27_18 : decode prog_14_method_27_code 18 = .ok (.iconst 1, 1) := by decide +kernel
theorem d_14_27_19 : decode prog_14_method_27_code 19 = .ok (.invokevirtual 150, 3) := by decide +kernel
theorem d_14_27_22 : decode prog_14_method_27_code 22 = .ok (.ifCond .ne 18, 3) := by decide +kernel
theorem d_14_27_40 : decode prog_14_method_27_code 40 = .ok (.iconst 0, 1) := by decide +kernel
theorem d_14_27_41 : decode prog_14_method_27_code 41 = .ok (.ireturn, 1) := by decide +kernel
theorem d_14_29_0 : decode prog_14_method_29_code 0 = .ok (.bipush 8, 2) := by decide +kernel
theorem d_14_29_2 : decode prog_14_method_29_code 2 = .ok (.newarray .int, 2) := by decide +kernel
theorem d_14_29_4 : decode prog_14_method_29_code 4 = .ok (.astore_n 1, 1) := by decide +kernel
theorem d_14_29_5 : decode prog_14_method_29_code 5 = .ok (.iconst 0, 1) := by decide +kernel
theorem d_14_29_6 : decode prog_14_method_29_code 6 = .ok (.istore_n 2, 1) := by decide +kernel
theorem d_14_29_7 : decode prog_14_method_29_code 7 = .ok (.iconst 0, 1) := by decide +kernel
theorem d_14_29_8 : decode prog_14_method_29_code 8 = .ok (.istore_n 3, 1) := by decide +kernel
theorem d_14_29_9 : decode prog_14_method_29_code 9 = .ok (.iconst (-1), 1) := by decide +kernel
theorem d_14_29_10 : decode prog_14_method_29_code 10 = .ok (.istore 4, 2) := by decide +kernel
theorem d_14_29_12 : decode prog_14_method_29_code 12 = .ok (.aload_n 0, 1) := by decide +kernel
theorem d_14_29_13 : decode prog_14_method_29_code 13 = .ok (.iconst (-1), 1) := by decide +kernel
theorem d_14_29_14 : decode prog_14_method_29_code 14 = .ok (.putfield 172, 3) := by decide +kernel
theorem d_14_29_17 : decode prog_14_method_29_code 17 = .ok (.iconst 0, 1) := by decide +kernel
theorem d_14_29_18 : decode prog_14_method_29_code 18 = .ok (.istore 5, 2) := by decide +kernel
theorem d_14_29_20 : decode prog_14_method_29_code 20 = .ok (.iload 5, 2) := by decide +kernel
theorem d_14_29_22 : decode prog_14_method_29_code 22 = .ok (.aload_n 0, 1) := by decide +kernel
theorem d_14_29_23 : decode prog_14_method_29_code 23 = .ok (.getfield 169, 3) := by decide +kernel
theorem d_14_29_26 : decode prog_14_method_29_code 26 = .ok (.if_icmp .ge 184, 3) := by decide +kernel
theorem d_14_29_210 : decode prog_14_method_29_code 210 = .ok (.iload_n 2, 1) := by decide +kernel
theorem d_14_29_211 : decode prog_14_method_29_code 211 = .ok (.newarray .int, 2) := by decide +kernel
theorem d_14_29_213 : decode prog_14_method_29_code 213 = .ok (.astore 5, 2) := by decide +kernel
theorem d_14_29_215 : decode prog_14_method_29_code 215 = .ok (.iconst 0, 1) := by decide +kernel
theorem d_14_29_216 : decode prog_14_method_29_code 216 = .ok (.istore 6, 2) := by decide +kernel
theorem d_14_29_218 : decode prog_14_method_29_code 218 = .ok (.iconst 0, 1) := by decide +kernel
theorem d_14_29_219 : decode prog_14_method_29_code 219 = .ok (.istore 7, 2) := by decide +kernel
theorem d_14_29_221 : decode prog_14_method_29_code 221 = .ok (.iload 7, 2) := by decide +kernel
theorem d_14_29_223 : decode prog_14_method_29_code 223 = .ok (.iload_n 2, 1) := by decide +kernel
theorem d_14_29_224 : decode prog_14_method_29_code 224 = .ok (.if_icmp .ge 48, 3) := by decide +kernel
theorem d_14_29_272 : decode prog_14_method_29_code 272 = .ok (.aload_n 0, 1) := by decide +kernel
theorem d_14_29_273 : decode prog_14_method_29_code 273 = .ok (.new 175, 3) := by decide +kernel
theorem d_14_29_276 : decode prog_14_method_29_code 276 = .ok (.dup, 1) := by decide +kernel
theorem d_14_29_277 : decode prog_14_method_29_code 277 = .ok (.aload 5, 2) := by decide +kernel
theorem d_14_29_279 : decode prog_14_method_29_code 279 = .ok (.iload 6, 2) := by decide +kernel
theorem d_14_29_281 : decode prog_14_method_29_code 281 = .ok (.iconst 0, 1) := by decide +kernel
theorem d_14_29_282 : decode prog_14_method_29_code 282 = .ok (.invokespecial 177, 3) := by decide +kernel
theorem d_14_29_285 : decode prog_14_method_29_code 285 = .ok (.putfield 180, 3) := by decide +kernel
theorem d_14_29_288 : decode prog_14_method_29_code 288 = .ok (.return_, 1) := by decide +kernel
theorem d_14_30_0 : decode prog_14_method_30_code 0 = .ok (.iconst 0, 1) := by decide +kernel
theorem d_14_30_1 : decode prog_14_method_30_code 1 = .ok (.istore_n 1, 1) := by decide +kernel
theorem d_14_30_2 : decode prog_14_method_30_code 2 = .ok (.iload_n 1, 1) := by decide +kernel
theorem d_14_30_3 : decode prog_14_method_30_code 3 = .ok (.aload_n 0, 1) := by decide +kernel
theorem d_14_30_4 : decode prog_14_method_30_code 4 = .ok (.getfield 100, 3) := by decide +kernel
theorem d_14_30_7 : decode prog_14_method_30_code 7 = .ok (.getfield 134, 3) := by decide +kernel
theorem d_14_30_10 : decode prog_14_method_30_code 10 = .ok (.arraylength, 1) := by decide +kernel
theorem d_14_30_11 : decode prog_14_method_30_code 11 = .ok (.if_icmp .ge 28, 3) := by decide +kernel
theorem d_14_30_39 : decode prog_14_method_30_code 39 = .ok (.iload_n 1, 1) := by decide +kernel
theorem d_14_30_40 : decode prog_14_method_30_code 40 = .ok (.ireturn, 1) := by decide +kernel
theorem d_14_31_0 : decode prog_14_method_31_code 0 = .ok (.aload_n 0, 1) := by decide +kernel
theorem d_14_31_1 : decode prog_14_method_31_code 1 = .ok (.getfield 100, 3) := by decide +kernel
theorem d_14_31_4 : decode prog_14_method_31_code 4 = .ok (.getfield 134, 3) := by decide +kernel
theorem d_14_31_7 : decode prog_14_method_31_code 7 = .ok (.arraylength, 1) := by decide +kernel
theorem d_14_31_8 : decode prog_14_method_31_code 8 = .ok (.iload_n 1, 1) := by decide +kernel
theorem d_14_31_9 : decode prog_14_method_31_code 9 = .ok (.iconst 1, 1) := by decide +kernel
theorem d_14_31_10 : decode prog_14_method_31_code 10 = .ok (.iadd, 1) := by decide +kernel
theorem d_14_31_11 : decode prog_14_method_31_code 11 = .ok (.invokestatic 11, 3) := by decide +kernel
theorem d_14_31_14 : decode prog_14_method_31_code 14 = .ok (.anewarray 175, 3) := by decide +kernel
theorem d_14_31_17 : decode prog_14_method_31_code 17 = .ok (.astore_n 3, 1) := by decide +kernel
theorem d_14_31_18 : decode prog_14_method_31_code 18 = .ok (.iconst 0, 1) := by decide +kernel
theorem d_14_31_19 : decode prog_14_method_31_code 19 = .ok (.istore 4, 2) := by decide +kernel
theorem d_14_31_21 : decode prog_14_method_31_code 21 = .ok (.iload 4, 2) := by decide +kernel
theorem d_14_31_23 : decode prog_14_method_31_code 23 = .ok (.aload_n 0, 1) := by decide +kernel
theorem d_14_31_24 : decode prog_14_method_31_code 24 = .ok (.getfield 100, 3) := by decide +kernel
theorem d_14_31_27 : decode prog_14_method_31_code 27 = .ok (.getfield 134, 3) := by decide +kernel
theorem d_14_31_30 : decode prog_14_method_31_code 30 = .ok (.arraylength, 1) := by decide +kernel
theorem d_14_31_31 : decode prog_14_method_31_code 31 = .ok (.if_icmp .ge 23, 3) := by decide +kernel
theorem d_14_31_54 : decode prog_14_method_31_code 54 = .ok (.aload_n 3, 1) := by decide +kernel
theorem d_14_31_55 : decode prog_14_method_31_code 55 = .ok (.iload_n 1, 1) := by decide +kernel
theorem d_14_31_56 : decode prog_14_method_31_code 56 = .ok (.aload_n 2, 1) := by decide +kernel
theorem d_14_31_57 : decode prog_14_method_31_code 57 = .ok (.aastore, 1) := by decide +kernel
theorem d_14_31_58 : decode prog_14_method_31_code 58 = .ok (.aload_n 3, 1) := by decide +kernel
theorem d_14_31_59 : decode prog_14_method_31_code 59 = .ok (.areturn, 1) := by decide +kernel
theorem d_14_32_0 : decode prog_14_method_32_code 0 = .ok (.aload_n 0, 1) := by decide +kernel
theorem d_14_32_1 : decode prog_14_method_32_code 1 = .ok (.iload_n 1, 1) := by decide +kernel
theorem d_14_32_2 : decode prog_14_method_32_code 2 = .ok (.iconst 1, 1) := by decide +kernel
theorem d_14_32_3 : decode prog_14_method_32_code 3 = .ok (.ldc 188, 2) := by decide +kernel
theorem d_14_32_5 : decode prog_14_method_32_code 5 = .ok (.invokestatic 127, 3) := by decide +kernel
theorem d_14_32_8 : decode prog_14_method_32_code 8 = .ok (.iconst 1, 1) := by decide +kernel
theorem d_14_32_9 : decode prog_14_method_32_code 9 = .ok (.invokevirtual 150, 3) := by decide +kernel
theorem d_14_32_12 : decode prog_14_method_32_code 12 = .ok (.ifCond .eq 5, 3) := by decide +kernel
theorem d_14_32_15 : decode prog_14_method_32_code 15 = .ok (.iconst 0, 1) := by decide +kernel
theorem d_14_32_16 : decode prog_14_method_32_code 16 = .ok (.ireturn, 1) := by decide +kernel
theorem d_14_32_17 : decode prog_14_method_32_code 17 = .ok (.aload_n 0, 1) := by decide +kernel
theorem d_14_32_18 : decode prog_14_method_32_code 18 = .ok (.invokevirtual 189, 3) := by decide +kernel
theorem d_14_32_21 : decode prog_14_method_32_code 21 = .ok (.aload_n 0, 1) := by decide +kernel
theorem d_14_32_22 : decode prog_14_method_32_code 22 = .ok (.getfield 172, 3) := by decide +kernel
theorem d_14_32_25 : decode prog_14_method_32_code 25 = .ok (.iconst (-1), 1) := by decide +kernel
theorem d_14_32_26 : decode prog_14_method_32_code 26 = .ok (.if_icmp .eq 16, 3) := by decide +kernel
theorem d_14_32_42 : decode prog_14_method_32_code 42 = .ok (.aload_n 0, 1) := by decide +kernel
theorem d_14_32_43 : decode prog_14_method_32_code 43 = .ok (.invokevirtual 192, 3) := by decide +kernel
theorem d_14_32_46 : decode prog_14_method_32_code 46 = .ok (.istore_n 2, 1) := by decide +kernel
theorem d_14_32_47 : decode prog_14_method_32_code 47 = .ok (.iload_n 2, 1) := by decide +kernel
theorem d_14_32_48 : decode prog_14_method_32_code 48 = .ok (.aload_n 0, 1) := by decide +kernel
theorem d_14_32_49 : decode prog_14_method_32_code 49 = .ok (.getfield 100, 3) := by decide +kernel
theorem d_14_32_52 : decode prog_14_method_32_code 52 = .ok (.getfield 134, 3) := by decide +kernel
theorem d_14_32_55 : decode prog_14_method_32_code 55 = .ok (.arraylength, 1) := by decide +kernel
theorem d_14_32_56 : decode prog_14_method_32_code 56 = .ok (.if_icmp .ge 18, 3) := by decide +kernel
theorem d_14_32_74 : decode prog_14_method_32_code 74 = .ok (.iconst 0, 1) := by decide +kernel
theorem d_14_32_75 : decode prog_14_method_32_code 75 = .ok (.istore_n 3, 1) := by decide +kernel
theorem d_14_32_76 : decode prog_14_method_32_code 76 = .ok (.aload_n 0, 1) := by decide +kernel
theorem d_14_32_77 : decode prog_14_method_32_code 77 = .ok (.iload_n 2, 1) := by decide +kernel
theorem d_14_32_78 : decode prog_14_method_32_code 78 = .ok (.bipush 30, 2) := by decide +kernel
theorem d_14_32_80 : decode prog_14_method_32_code 80 = .ok (.if_icmp .ge 15, 3) := by decide +kernel
theorem d_14_32_83 : decode prog_14_method_32_code 83 = .ok (.iload_n 3, 1) := by decide +kernel
theorem d_14_32_84 : decode prog_14_method_32_code 84 = .ok (.iload_n 1, 1) := by decide +kernel
theorem d_14_32_85 : decode prog_14_method_32_code 85 = .ok (.iadd, 1) := by decide +kernel
theorem d_14_32_86 : decode prog_14_method_32_code 86 = .ok (.ldc 198, 2) := by decide +kernel
theorem d_14_32_88 : decode prog_14_method_32_code 88 = .ok (.if_icmp .gt 7, 3) := by decide +kernel
theorem d_14_32_91 : decode prog_14_method_32_code 91 = .ok (.iconst 1, 1) := by decide +kernel
theorem d_14_32_92 : decode prog_14_method_32_code 92 = .ok (.goto 4, 3) := by decide +kernel
theorem d_14_32_96 : decode prog_14_method_32_code 96 = .ok (.iconst 2, 1) := by decide +kernel
theorem d_14_32_97 : decode prog_14_method_32_code 97 = .ok (.invokevirtual 150, 3) := by decide +kernel
theorem d_14_32_100 : decode prog_14_method_32_code 100 = .ok (.ifCond .eq 5, 3) := by decide +kernel
theorem d_14_32_105 : decode prog_14_method_32_code 105 = .ok (.aload_n 0, 1) := by decide +kernel
theorem d_14_32_106 : decode prog_14_method_32_code 106 = .ok (.iconst 0, 1) := by decide +kernel
theorem d_14_32_107 : decode prog_14_method_32_code 107 = .ok (.putfield 169, 3) := by decide +kernel
theorem d_14_32_110 : decode prog_14_method_32_code 110 = .ok (.aload_n 0, 1) := by decide +kernel
theorem d_14_32_111 : decode prog_14_method_32_code 111 = .ok (.invokevirtual 154, 3) := by decide +kernel
theorem d_14_32_114 : decode prog_14_method_32_code 114 = .ok (.aload_n 0, 1) := by decide +kernel
theorem d_14_32_115 : decode prog_14_method_32_code 115 = .ok (.getfield 100, 3) := by decide +kernel
theorem d_14_32_118 : decode prog_14_method_32_code 118 = .ok (.aload_n 0, 1) := by decide +kernel
theorem d_14_32_119 : decode prog_14_method_32_code 119 = .ok (.iload_n 2, 1) := by decide +kernel
theorem d_14_32_120 : decode prog_14_method_32_code 120 = .ok (.aload_n 0, 1) := by decide +kernel
theorem d_14_32_121 : decode prog_14_method_32_code 121 = .ok (.getfield 180, 3) := by decide +kernel
theorem d_14_32_124 : decode prog_14_method_32_code 124 = .ok (.iload_n 3, 1) := by decide +kernel
theorem d_14_32_125 : decode prog_14_method_32_code 125 = .ok (.iload_n 1, 1) := by decide +kernel
theorem d_14_32_126 : decode prog_14_method_32_code 126 = .ok (.iadd, 1) := by decide +kernel
theorem d_14_32_127 : decode prog_14_method_32_code 127 = .ok (.invokevirtual 199, 3) := by decide +kernel
theorem d_14_32_130 : decode prog_14_method_32_code 130 = .ok (.invokevirtual 203, 3) := by decide +kernel
theorem d_14_32_133 : decode prog_14_method_32_code 133 = .ok (.putfield 134, 3) := by decide +kernel
theorem d_14_32_136 : decode prog_14_method_32_code 136 = .ok (.iload_n 2, 1) := by decide +kernel
theorem d_14_32_137 : decode prog_14_method_32_code 137 = .ok (.ireturn, 1) := by decide +kernel
theorem d_14_33_0 : decode prog_14_method_33_code 0 = .ok (.aload_n 0, 1) := by decide +kernel
theorem d_14_33_1 : decode prog_14_method_33_code 1 = .ok (.aload_n 0, 1) := by decide +kernel
theorem d_14_33_2 : decode prog_14_method_33_code 2 = .ok (.iload_n 1, 1) := by decide +kernel
theorem d_14_33_3 : decode prog_14_method_33_code 3 = .ok (.invokevirtual 207, 3) := by decide +kernel
theorem d_14_33_6 : decode prog_14_method_33_code 6 = .ok (.iconst 1, 1) := by decide +kernel
theorem d_14_33_7 : decode prog_14_method_33_code 7 = .ok (.invokevirtual 150, 3) := by decide +kernel
theorem d_14_33_10 : decode prog_14_method_33_code 10 = .ok (.ifCond .ne 37, 3) := by decide +kernel
theorem d_14_33_47 : decode prog_14_method_33_code 47 = .ok (.iconst 0, 1) := by decide +kernel
theorem d_14_33_48 : decode prog_14_method_33_code 48 = .ok (.ireturn, 1) := by decide +kernel
theorem d_14_34_0 : decode prog_14_method_34_code 0 = .ok (.aload_n 0, 1) := by decide +kernel
theorem d_14_34_1 : decode prog_14_method_34_code 1 = .ok (.aload_n 0, 1) := by decide +kernel
theorem d_14_34_2 : decode prog_14_method_34_code 2 = .ok (.iload_n 1, 1) := by decide +kernel
theorem d_14_34_3 : decode prog_14_method_34_code 3 = .ok (.invokevirtual 207, 3) := by decide +kernel
theorem d_14_34_6 : decode prog_14_method_34_code 6 = .ok (.iconst 1, 1) := by decide +kernel
theorem d_14_34_7 : decode prog_14_method_34_code 7 = .ok (.invokevirtual 150, 3) := by decide +kernel
theorem d_14_34_10 : decode prog_14_method_34_code 10 = .ok (.ifCond .eq 7, 3) := by decide +kernel
theorem d_14_34_13 : decode prog_14_method_34_code 13 = .ok (.iconst 0, 1) := by decide +kernel
theorem d_14_34_14 : decode prog_14_method_34_code 14 = .ok (.goto 15, 3) := by decide +kernel
theorem d_14_34_29 : decode prog_14_method_34_code 29 = .ok (.ireturn, 1) := by decide +kernel
theorem d_14_35_0 : decode prog_14_method_35_code 0 = .ok (.aload_n 0, 1) := by decide +kernel
theorem d_14_35_1 : decode prog_14_method_35_code 1 = .ok (.aload_n 0, 1) := by decide +kernel
theorem d_14_35_2 : decode prog_14_method_35_code 2 = .ok (.iload_n 1, 1) := by decide +kernel
theorem d_14_35_3 : decode prog_14_method_35_code 3 = .ok (.invokevirtual 207, 3) := by decide +kernel
theorem d_14_35_6 : decode prog_14_method_35_code 6 = .ok (.ifCond .eq 15, 3) := by decide +kernel
theorem d_14_35_21 : decode prog_14_method_35_code 21 = .ok (.iconst 0, 1) := by decide +kernel
theorem d_14_35_22 : decode prog_14_method_35_code 22 = .ok (.iconst 1, 1) := by decide +kernel
theorem d_14_35_23 : decode prog_14_method_35_code 23 = .ok (.invokevirtual 150, 3) := by decide +kernel
theorem d_14_35_26 : decode prog_14_method_35_code 26 = .ok (.ifCond .eq 5, 3) := by decide +kernel
theorem d_14_35_29 : decode prog_14_method_35_code 29 = .ok (.iconst 0, 1) := by decide +kernel
theorem d_14_35_30 : decode prog_14_method_35_code 30 = .ok (.ireturn, 1) := by decide +kernel
theorem d_14_36_0 : decode prog_14_method_36_code 0 = .ok (.iconst 0, 1) := by decide +kernel
theorem d_14_36_1 : decode prog_14_method_36_code 1 = .ok (.istore_n 1, 1) := by decide +kernel
theorem d_14_36_2 : decode prog_14_method_36_code 2 = .ok (.aload_n 0, 1) := by decide +kernel
theorem d_14_36_3 : decode prog_14_method_36_code 3 = .ok (.astore_n 2, 1) := by decide +kernel
theorem d_14_36_4 : decode prog_14_method_36_code 4 = .ok (.aload_n 2, 1) := by decide +kernel
theorem d_14_36_5 : decode prog_14_method_36_code 5 = .ok (.arraylength, 1) := by decide +kernel
theorem d_14_36_6 : decode prog_14_method_36_code 6 = .ok (.istore_n 3, 1) := by decide +kernel
theorem d_14_36_7 : decode prog_14_method_36_code 7 = .ok (.iconst 0, 1) := by decide +kernel
theorem d_14_36_8 : decode prog_14_method_36_code 8 = .ok (.istore 4, 2) := by decide +kernel
theorem d_14_36_10 : decode prog_14_method_36_code 10 = .ok (.iload 4, 2) := by decide +kernel
theorem d_14_36_12 : decode prog_14_method_36_code 12 = .ok (.iload_n 3, 1) := by decide +kernel
theorem d_14_36_13 : decode prog_14_method_36_code 13 = .ok (.if_icmp .ge 23, 3) := by decide +kernel
theorem d_14_36_36 : decode prog_14_method_36_code 36 = .ok (.iload_n 1, 1) := by decide +kernel
theorem d_14_36_37 : decode prog_14_method_36_code 37 = .ok (.ireturn, 1) := by decide +kernel
theorem d_14_37_0 : decode prog_14_method_37_code 0 = .ok (.aload_n 0, 1) := by decide +kernel
theorem d_14_37_1 : decode prog_14_method_37_code 1 = .ok (.iconst 0, 1) := by decide +kernel
theorem d_14_37_2 : decode prog_14_method_37_code 2 = .ok (.putfield 114, 3) := by decide +kernel
theorem d_14_37_5 : decode prog_14_method_37_code 5 = .ok (.aload_n 0, 1) := by decide +kernel
theorem d_14_37_6 : decode prog_14_method_37_code 6 = .ok (.getfield 100, 3) := by decide +kernel
theorem d_14_37_9 : decode prog_14_method_37_code 9 = .ok (.getfield 134, 3) := by decide +kernel
theorem d_14_37_12 : decode prog_14_method_37_code 12 = .ok (.invokestatic 217, 3) := by decide +kernel
theorem d_14_37_15 : decode prog_14_method_37_code 15 = .ok (.ireturn, 1) := by decide +kernel
theorem d_14_38_0 : decode prog_14_method_38_code 0 = .ok (.aload_n 0, 1) := by decide +kernel
theorem d_14_38_1 : decode prog_14_method_38_code 1 = .ok (.iload_n 1, 1) := by decide +kernel
theorem d_14_38_2 : decode prog_14_method_38_code 2 = .ok (.iconst 0, 1) := by decide +kernel
theorem d_14_38_3 : decode prog_14_method_38_code 3 = .ok (.ldc 221, 2) := by decide +kernel
theorem d_14_38_5 : decode prog_14_method_38_code 5 = .ok (.invokestatic 127, 3) := by decide +kernel
theorem d_14_38_8 : decode prog_14_method_38_code 8 = .ok (.iconst 1, 1) := by decide +kernel
theorem d_14_38_9 : decode prog_14_method_38_code 9 = .ok (.invokevirtual 150, 3) := by decide +kernel
theorem d_14_38_12 : decode prog_14_method_38_code 12 = .ok (.ifCond .ne 28, 3) := by decide +kernel
theorem d_14_38_15 : decode prog_14_method_38_code 15 = .ok (.aload_n 0, 1) := by decide +kernel
theorem d_14_38_16 : decode prog_14_method_38_code 16 = .ok (.aload_n 0, 1) := by decide +kernel
theorem d_14_38_17 : decode prog_14_method_38_code 17 = .ok (.getfield 100, 3) := by decide +kernel
theorem d_14_38_20 : decode prog_14_method_38_code 20 = .ok (.getfield 131, 3) := by decide +kernel
theorem d_14_38_23 : decode prog_14_method_38_code 23 = .ok (.bipush 8, 2) := by decide +kernel
theorem d_14_38_25 : decode prog_14_method_38_code 25 = .ok (.if_icmp .ge 7, 3) := by decide +kernel
theorem d_14_38_28 : decode prog_14_method_38_code 28 = .ok (.iconst 1, 1) := by decide +kernel
theorem d_14_38_29 : decode prog_14_method_38_code 29 = .ok (.goto 4, 3) := by decide +kernel
theorem d_14_38_33 : decode prog_14_method_38_code 33 = .ok (.iconst 2, 1) := by decide +kernel
theorem d_14_38_34 : decode prog_14_method_38_code 34 = .ok (.invokevirtual 150, 3) := by decide +kernel
theorem d_14_38_37 : decode prog_14_method_38_code 37 = .ok (.ifCond .eq 5, 3) := by decide +kernel
theorem d_14_38_40 : decode prog_14_method_38_code 40 = .ok (.iconst 0, 1) := by decide +kernel
theorem d_14_38_41 : decode prog_14_method_38_code 41 = .ok (.ireturn, 1) := by decide +kernel
theorem d_14_38_42 : decode prog_14_method_38_code 42 = .ok (.aload_n 0, 1) := by decide +kernel
theorem d_14_38_43 : decode prog_14_method_38_code 43 = .ok (.invokevirtual 154, 3) := by decide +kernel
theorem d_14_38_46 : decode prog_14_method_38_code 46 = .ok (.aload_n 0, 1) := by decide +kernel
theorem d_14_38_47 : decode prog_14_method_38_code 47 = .ok (.getfield 100, 3) := by decide +kernel
theorem d_14_38_50 : decode prog_14_method_38_code 50 = .ok (.getfield 222, 3) := by decide +kernel
theorem d_14_38_53 : decode prog_14_method_38_code 53 = .ok (.aload_n 0, 1) := by decide +kernel
theorem d_14_38_54 : decode prog_14_method_38_code 54 = .ok (.getfield 100, 3) := by decide +kernel
theorem d_14_38_57 : decode prog_14_method_38_code 57 = .ok (.getfield 131, 3) := by decide +kernel
theorem d_14_38_60 : decode prog_14_method_38_code 60 = .ok (.iload_n 1, 1) := by decide +kernel
theorem d_14_38_61 : decode prog_14_method_38_code 61 = .ok (.iastore, 1) := by decide +kernel
theorem d_14_38_62 : decode prog_14_method_38_code 62 = .ok (.aload_n 0, 1) := by decide +kernel
theorem d_14_38_63 : decode prog_14_method_38_code 63 = .ok (.getfield 100, 3) := by decide +kernel
theorem d_14_38_66 : decode prog_14_method_38_code 66 = .ok (.getfield 225, 3) := by decide +kernel
theorem d_14_38_69 : decode prog_14_method_38_code 69 = .ok (.aload_n 0, 1) := by decide +kernel
theorem d_14_38_70 : decode prog_14_method_38_code 70 = .ok (.getfield 100, 3) := by decide +kernel
theorem d_14_38_73 : decode prog_14_method_38_code 73 = .ok (.getfield 131, 3) := by decide +kernel
theorem d_14_38_76 : decode prog_14_method_38_code 76 = .ok (.iconst 0, 1) := by decide +kernel
theorem d_14_38_77 : decode prog_14_method_38_code 77 = .ok (.iastore, 1) := by decide +kernel
theorem d_14_38_78 : decode prog_14_method_38_code 78 = .ok (.aload_n 0, 1) := by decide +kernel
theorem d_14_38_79 : decode prog_14_method_38_code 79 = .ok (.getfield 100, 3) := by decide +kernel
theorem d_14_38_82 : decode prog_14_method_38_code 82 = .ok (.getfield 164, 3) := by decide +kernel
theorem d_14_38_85 : decode prog_14_method_38_code 85 = .ok (.aload_n 0, 1) := by decide +kernel
theorem d_14_38_86 : decode prog_14_method_38_code 86 = .ok (.getfield 100, 3) := by decide +kernel
theorem d_14_38_89 : decode prog_14_method_38_code 89 = .ok (.getfield 131, 3) := by decide +kernel
theorem d_14_38_92 : decode prog_14_method_38_code 92 = .ok (.aload_n 0, 1) := by decide +kernel
theorem d_14_38_93 : decode prog_14_method_38_code 93 = .ok (.getfield 100, 3) := by decide +kernel
theorem d_14_38_96 : decode prog_14_method_38_code 96 = .ok (.getfield 131, 3) := by decide +kernel
