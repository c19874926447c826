theorem d_1_49_2 : decode prog_1_method_49_code 2 = .ok (.getfield 58, 3) := by decide +kernel
theorem d_1_49_5 : decode prog_1_method_49_code 5 = .ok (.getfield 352, 3) := by decide +kernel
theorem d_1_49_8 : decode prog_1_method_49_code 8 = .ok (.invokestatic 93, 3) := by decide +kernel
theorem d_1_50_0 : decode prog_1_method_50_code 0 = .ok (.aload_n 0, 1) := by decide +kernel
theorem d_1_50_1 : decode prog_1_method_50_code 1 = .ok (.getfield 365, 3) := by decide +kernel
theorem d_1_50_4 : decode prog_1_method_50_code 4 = .ok (.ifCond .ne 5, 3) := by decide +kernel
theorem d_1_50_7 : decode prog_1_method_50_code 7 = .ok (.iconst (-1), 1) := by decide +kernel
theorem d_1_50_8 : decode prog_1_method_50_code 8 = .ok (.ireturn, 1) := by decide +kernel
theorem d_1_51_0 : decode prog_1_method_51_code 0 = .ok (.lconst 0, 1) := by decide +kernel
theorem d_1_51_1 : decode prog_1_method_51_code 1 = .ok (.lstore_n 1, 1) := by decide +kernel
theorem d_1_51_2 : decode prog_1_method_51_code 2 = .ok (.iconst 0, 1) := by decide +kernel
theorem d_1_51_3 : decode prog_1_method_51_code 3 = .ok (.istore_n 3, 1) := by decide +kernel
theorem d_1_51_4 : decode prog_1_method_51_code 4 = .ok (.iload_n 3, 1) := by decide +kernel
theorem d_1_51_5 : decode prog_1_method_51_code 5 = .ok (.aload_n 0, 1) := by decide +kernel
theorem d_1_51_6 : decode prog_1_method_51_code 6 = .ok (.getfield 12, 3) := by decide +kernel
theorem d_1_51_9 : decode prog_1_method_51_code 9 = .ok (.getfield 117, 3) := by decide +kernel
theorem d_1_51_12 : decode prog_1_method_51_code 12 = .ok (.if_icmp .ge 26, 3) := by decide +kernel
theorem d_1_51_38 : decode prog_1_method_51_code 38 = .ok (.iconst 0, 1) := by decide +kernel
theorem d_1_51_39 : decode prog_1_method_51_code 39 = .ok (.istore_n 3, 1) := by decide +kernel
theorem d_1_51_40 : decode prog_1_method_51_code 40 = .ok (.iload_n 3, 1) := by decide +kernel
theorem d_1_51_41 : decode prog_1_method_51_code 41 = .ok (.aload_n 0, 1) := by decide +kernel
theorem d_1_51_42 : decode prog_1_method_51_code 42 = .ok (.getfield 37, 3) := by decide +kernel
theorem d_1_51_45 : decode prog_1_method_51_code 45 = .ok (.getfield 90, 3) := by decide +kernel
theorem d_1_51_48 : decode prog_1_method_51_code 48 = .ok (.if_icmp .ge 46, 3) := by decide +kernel
theorem d_1_51_94 : decode prog_1_method_51_code 94 = .ok (.aload_n 0, 1) := by decide +kernel
theorem d_1_51_95 : decode prog_1_method_51_code 95 = .ok (.getfield 44, 3) := by decide +kernel
theorem d_1_51_98 : decode prog_1_method_51_code 98 = .ok (.invokevirtual 191, 3) := by decide +kernel
theorem d_1_51_101 : decode prog_1_method_51_code 101 = .ok (.astore_n 3, 1) := by decide +kernel
theorem d_1_51_102 : decode prog_1_method_51_code 102 = .ok (.aload_n 3, 1) := by decide +kernel
theorem d_1_51_103 : decode prog_1_method_51_code 103 = .ok (.ifnull 36, 3) := by decide +kernel
theorem d_1_51_139 : decode prog_1_method_51_code 139 = .ok (.iconst 0, 1) := by decide +kernel
theorem d_1_51_140 : decode prog_1_method_51_code 140 = .ok (.istore 4, 2) := by decide +kernel
theorem d_1_51_142 : decode prog_1_method_51_code 142 = .ok (.iload 4, 2) := by decide +kernel
theorem d_1_51_144 : decode prog_1_method_51_code 144 = .ok (.aload_n 0, 1) := by decide +kernel
theorem d_1_51_145 : decode prog_1_method_51_code 145 = .ok (.getfield 58, 3) := by decide +kernel
theorem d_1_51_148 : decode prog_1_method_51_code 148 = .ok (.getfield 352, 3) := by decide +kernel
theorem d_1_51_151 : decode prog_1_method_51_code 151 = .ok (.if_icmp .ge 27, 3) := by decide +kernel
theorem d_1_51_178 : decode prog_1_method_51_code 178 = .ok (.lload_n 1, 1) := by decide +kernel
theorem d_1_51_179 : decode prog_1_method_51_code 179 = .ok (.lreturn, 1) := by decide +kernel
theorem d_1_52_0 : decode prog_1_method_52_code 0 = .ok (.iload_n 1, 1) := by decide +kernel
theorem d_1_52_1 : decode prog_1_method_52_code 1 = .ok (.aload_n 0, 1) := by decide +kernel
theorem d_1_52_2 : decode prog_1_method_52_code 2 = .ok (.getfield 12, 3) := by decide +kernel
theorem d_1_52_5 : decode prog_1_method_52_code 5 = .ok (.getfield 75, 3) := by decide +kernel
theorem d_1_52_8 : decode prog_1_method_52_code 8 = .ok (.invokestatic 93, 3) := by decide +kernel
theorem d_1_53_0 : decode prog_1_method_53_code 0 = .ok (.iload_n 1, 1) := by decide +kernel
theorem d_1_53_1 : decode prog_1_method_53_code 1 = .ok (.aload_n 0, 1) := by decide +kernel
theorem d_1_53_2 : decode prog_1_method_53_code 2 = .ok (.getfield 37, 3) := by decide +kernel
theorem d_1_53_5 : decode prog_1_method_53_code 5 = .ok (.getfield 90, 3) := by decide +kernel
theorem d_1_53_8 : decode prog_1_method_53_code 8 = .ok (.invokestatic 93, 3) := by decide +kernel
theorem d_1_54_0 : decode prog_1_method_54_code 0 = .ok (.aload_n 0, 1) := by decide +kernel
theorem d_1_54_1 : decode prog_1_method_54_code 1 = .ok (.getfield 37, 3) := by decide +kernel
theorem d_1_54_4 : decode prog_1_method_54_code 4 = .ok (.invokevirtual 379, 3) := by decide +kernel
theorem d_1_54_7 : decode prog_1_method_54_code 7 = .ok (.ifCond .eq 7, 3) := by decide +kernel
theorem d_1_54_14 : decode prog_1_method_54_code 14 = .ok (.iconst 0, 1) := by decide +kernel
theorem d_1_54_15 : decode prog_1_method_54_code 15 = .ok (.aload_n 0, 1) := by decide +kernel
theorem d_1_54_16 : decode prog_1_method_54_code 16 = .ok (.invokevirtual 382, 3) := by decide +kernel
theorem d_1_54_19 : decode prog_1_method_54_code 19 = .ok (.iadd, 1) := by decide +kernel
theorem d_1_54_20 : decode prog_1_method_54_code 20 = .ok (.aload_n 0, 1) := by decide +kernel
theorem d_1_54_21 : decode prog_1_method_54_code 21 = .ok (.invokevirtual 385, 3) := by decide +kernel
theorem d_1_54_24 : decode prog_1_method_54_code 24 = .ok (.ifCond .eq 7, 3) := by decide +kernel
theorem d_1_54_31 : decode prog_1_method_54_code 31 = .ok (.iconst 0, 1) := by decide +kernel
theorem d_1_54_32 : decode prog_1_method_54_code 32 = .ok (.iadd, 1) := by decide +kernel
theorem d_1_54_33 : decode prog_1_method_54_code 33 = .ok (.aload_n 0, 1) := by decide +kernel
theorem d_1_54_34 : decode prog_1_method_54_code 34 = .ok (.getfield 58, 3) := by decide +kernel
theorem d_1_54_37 : decode prog_1_method_54_code 37 = .ok (.invokevirtual 388, 3) := by decide +kernel
theorem d_1_54_40 : decode prog_1_method_54_code 40 = .ok (.ifCond .eq 7, 3) := by decide +kernel
theorem d_1_54_47 : decode prog_1_method_54_code 47 = .ok (.iconst 0, 1) := by decide +kernel
theorem d_1_54_48 : decode prog_1_method_54_code 48 = .ok (.iadd, 1) := by decide +kernel
theorem d_1_54_49 : decode prog_1_method_54_code 49 = .ok (.ireturn, 1) := by decide +kernel
theorem d_1_56_0 : decode prog_1_method_56_code 0 = .ok (.iload_n 0, 1) := by decide +kernel
theorem d_1_56_1 : decode prog_1_method_56_code 1 = .ok (.ifCond .lt 8, 3) := by decide +kernel
theorem d_1_56_4 : decode prog_1_method_56_code 4 = .ok (.iload_n 0, 1) := by decide +kernel
theorem d_1_56_5 : decode prog_1_method_56_code 5 = .ok (.iload_n 1, 1) := by decide +kernel
theorem d_1_56_6 : decode prog_1_method_56_code 6 = .ok (.if_icmp .lt 14, 3) := by decide +kernel
theorem d_1_56_9 : decode prog_1_method_56_code 9 = .ok (.new 391, 3) := by decide +kernel
theorem d_1_56_12 : decode prog_1_method_56_code 12 = .ok (.dup, 1) := by decide +kernel
theorem d_1_56_13 : decode prog_1_method_56_code 13 = .ok (.ldc_w 393, 3) := by decide +kernel
theorem d_1_56_16 : decode prog_1_method_56_code 16 = .ok (.invokespecial 395, 3) := by decide +kernel
theorem d_1_56_19 : decode prog_1_method_56_code 19 = .ok (.athrow, 1) := by decide +kernel
theorem d_1_57_0 : decode prog_1_method_57_code 0 = .ok (.iload_n 0, 1) := by decide +kernel
theorem d_1_57_1 : decode prog_1_method_57_code 1 = .ok (.iload_n 1, 1) := by decide +kernel
theorem d_1_57_2 : decode prog_1_method_57_code 2 = .ok (.if_icmp .lt 8, 3) := by decide +kernel
theorem d_1_57_5 : decode prog_1_method_57_code 5 = .ok (.iload_n 0, 1) := by decide +kernel
theorem d_1_57_6 : decode prog_1_method_57_code 6 = .ok (.iload_n 2, 1) := by decide +kernel
theorem d_1_57_7 : decode prog_1_method_57_code 7 = .ok (.if_icmp .le 14, 3) := by decide +kernel
theorem d_1_57_10 : decode prog_1_method_57_code 10 = .ok (.new 306, 3) := by decide +kernel
theorem d_1_57_13 : decode prog_1_method_57_code 13 = .ok (.dup, 1) := by decide +kernel
theorem d_1_57_14 : decode prog_1_method_57_code 14 = .ok (.ldc_w 396, 3) := by decide +kernel
theorem d_1_57_17 : decode prog_1_method_57_code 17 = .ok (.invokespecial 310, 3) := by decide +kernel
theorem d_1_57_20 : decode prog_1_method_57_code 20 = .ok (.athrow, 1) := by decide +kernel
theorem d_1_57_21 : decode prog_1_method_57_code 21 = .ok (.return_, 1) := by decide +kernel
theorem d_1_58_0 : decode prog_1_method_58_code 0 = .ok (.iload_n 0, 1) := by decide +kernel
theorem d_1_58_1 : decode prog_1_method_58_code 1 = .ok (.iload_n 1, 1) := by decide +kernel
theorem d_1_58_2 : decode prog_1_method_58_code 2 = .ok (.if_icmp .le 14, 3) := by decide +kernel
theorem d_1_58_16 : decode prog_1_method_58_code 16 = .ok (.return_, 1) := by decide +kernel
theorem d_1_59_0 : decode prog_1_method_59_code 0 = .ok (.iload_n 0, 1) := by decide +kernel
theorem d_1_59_1 : decode prog_1_method_59_code 1 = .ok (.ifCond .lt 8, 3) := by decide +kernel
theorem d_1_59_4 : decode prog_1_method_59_code 4 = .ok (.iload_n 0, 1) := by decide +kernel
theorem d_1_59_5 : decode prog_1_method_59_code 5 = .ok (.iload_n 1, 1) := by decide +kernel
theorem d_1_59_6 : decode prog_1_method_59_code 6 = .ok (.if_icmp .lt 14, 3) := by decide +kernel
theorem d_1_59_9 : decode prog_1_method_59_code 9 = .ok (.new 202, 3) := by decide +kernel
theorem d_1_59_12 : decode prog_1_method_59_code 12 = .ok (.dup, 1) := by decide +kernel
theorem d_1_59_13 : decode prog_1_method_59_code 13 = .ok (.ldc_w 400, 3) := by decide +kernel
theorem d_1_59_16 : decode prog_1_method_59_code 16 = .ok (.invokespecial 206, 3) := by decide +kernel
theorem d_1_59_19 : decode prog_1_method_59_code 19 = .ok (.athrow, 1) := by decide +kernel
theorem d_1_5_0 : decode prog_1_method_5_code 0 = .ok (.iload_n 1, 1) := by decide +kernel
theorem d_1_5_1 : decode prog_1_method_5_code 1 = .ok (.iconst 1, 1) := by decide +kernel
theorem d_1_5_2 : decode prog_1_method_5_code 2 = .ok (.ldc 109, 2) := by decide +kernel
theorem d_1_5_4 : decode prog_1_method_5_code 4 = .ok (.invokestatic 96, 3) := by decide +kernel
theorem d_1_5_7 : decode prog_1_method_5_code 7 = .ok (.aload_n 0, 1) := by decide +kernel
theorem d_1_5_8 : decode prog_1_method_5_code 8 = .ok (.getfield 12, 3) := by decide +kernel
theorem d_1_5_11 : decode prog_1_method_5_code 11 = .ok (.invokevirtual 110, 3) := by decide +kernel
theorem d_1_5_14 : decode prog_1_method_5_code 14 = .ok (.istore_n 2, 1) := by decide +kernel
theorem d_1_5_15 : decode prog_1_method_5_code 15 = .ok (.iload_n 2, 1) := by decide +kernel
theorem d_1_5_16 : decode prog_1_method_5_code 16 = .ok (.iconst (-1), 1) := by decide +kernel
theorem d_1_5_17 : decode prog_1_method_5_code 17 = .ok (.if_icmp .eq 16, 3) := by decide +kernel
theorem d_1_5_33 : decode prog_1_method_5_code 33 = .ok (.aload_n 0, 1) := by decide +kernel
theorem d_1_5_34 : decode prog_1_method_5_code 34 = .ok (.getfield 12, 3) := by decide +kernel
theorem d_1_5_37 : decode prog_1_method_5_code 37 = .ok (.invokevirtual 114, 3) := by decide +kernel
theorem d_1_5_40 : decode prog_1_method_5_code 40 = .ok (.istore_n 3, 1) := by decide +kernel
theorem d_1_5_41 : decode prog_1_method_5_code 41 = .ok (.iload_n 3, 1) := by decide +kernel
theorem d_1_5_42 : decode prog_1_method_5_code 42 = .ok (.iconst (-1), 1) := by decide +kernel
theorem d_1_5_43 : decode prog_1_method_5_code 43 = .ok (.if_icmp .ne 35, 3) := by decide +kernel
theorem d_1_5_46 : decode prog_1_method_5_code 46 = .ok (.aload_n 0, 1) := by decide +kernel
theorem d_1_5_47 : decode prog_1_method_5_code 47 = .ok (.getfield 12, 3) := by decide +kernel
theorem d_1_5_50 : decode prog_1_method_5_code 50 = .ok (.getfield 117, 3) := by decide +kernel
theorem d_1_5_53 : decode prog_1_method_5_code 53 = .ok (.iconst 1, 1) := by decide +kernel
theorem d_1_5_54 : decode prog_1_method_5_code 54 = .ok (.iadd, 1) := by decide +kernel
theorem d_1_5_55 : decode prog_1_method_5_code 55 = .ok (.bipush 30, 2) := by decide +kernel
theorem d_1_5_57 : decode prog_1_method_5_code 57 = .ok (.invokestatic 79, 3) := by decide +kernel
theorem d_1_5_60 : decode prog_1_method_5_code 60 = .ok (.aload_n 0, 1) := by decide +kernel
theorem d_1_5_61 : decode prog_1_method_5_code 61 = .ok (.getfield 12, 3) := by decide +kernel
theorem d_1_5_64 : decode prog_1_method_5_code 64 = .ok (.invokevirtual 120, 3) := by decide +kernel
theorem d_1_5_67 : decode prog_1_method_5_code 67 = .ok (.istore_n 3, 1) := by decide +kernel
theorem d_1_5_68 : decode prog_1_method_5_code 68 = .ok (.aload_n 0, 1) := by decide +kernel
theorem d_1_5_69 : decode prog_1_method_5_code 69 = .ok (.iconst 3, 1) := by decide +kernel
theorem d_1_5_70 : decode prog_1_method_5_code 70 = .ok (.iload_n 3, 1) := by decide +kernel
theorem d_1_5_71 : decode prog_1_method_5_code 71 = .ok (.iconst 0, 1) := by decide +kernel
theorem d_1_5_72 : decode prog_1_method_5_code 72 = .ok (.invokevirtual 86, 3) := by decide +kernel
theorem d_1_5_75 : decode prog_1_method_5_code 75 = .ok (.goto 34, 3) := by decide +kernel
theorem d_1_5_109 : decode prog_1_method_5_code 109 = .ok (.aload_n 0, 1) := by decide +kernel
theorem d_1_5_110 : decode prog_1_method_5_code 110 = .ok (.getfield 12, 3) := by decide +kernel
theorem d_1_5_113 : decode prog_1_method_5_code 113 = .ok (.iconst 0, 1) := by decide +kernel
theorem d_1_5_114 : decode prog_1_method_5_code 114 = .ok (.putfield 102, 3) := by decide +kernel
theorem d_1_5_117 : decode prog_1_method_5_code 117 = .ok (.aload_n 0, 1) := by decide +kernel
theorem d_1_5_118 : decode prog_1_method_5_code 118 = .ok (.getfield 12, 3) := by decide +kernel
theorem d_1_5_121 : decode prog_1_method_5_code 121 = .ok (.getfield 123, 3) := by decide +kernel
theorem d_1_5_124 : decode prog_1_method_5_code 124 = .ok (.iload_n 3, 1) := by decide +kernel
theorem d_1_5_125 : decode prog_1_method_5_code 125 = .ok (.dup2, 1) := by decide +kernel
theorem d_1_5_126 : decode prog_1_method_5_code 126 = .ok (.iaload, 1) := by decide +kernel
theorem d_1_5_127 : decode prog_1_method_5_code 127 = .ok (.iload_n 1, 1) := by decide +kernel
theorem d_1_5_128 : decode prog_1_method_5_code 128 = .ok (.iadd, 1) := by decide +kernel
theorem d_1_5_129 : decode prog_1_method_5_code 129 = .ok (.iastore, 1) := by decide +kernel
theorem d_1_5_130 : decode prog_1_method_5_code 130 = .ok (.iload_n 3, 1) := by decide +kernel
theorem d_1_5_131 : decode prog_1_method_5_code 131 = .ok (.ireturn, 1) := by decide +kernel
theorem d_1_60_0 : decode prog_1_method_60_code 0 = .ok (.aload_n 0, 1) := by decide +kernel
theorem d_1_60_1 : decode prog_1_method_60_code 1 = .ok (.getfield 12, 3) := by decide +kernel
theorem d_1_60_4 : decode prog_1_method_60_code 4 = .ok (.getfield 75, 3) := by decide +kernel
theorem d_1_60_7 : decode prog_1_method_60_code 7 = .ok (.iconst 5, 1) := by decide +kernel
theorem d_1_60_8 : decode prog_1_method_60_code 8 = .ok (.if_icmp .le 14, 3) := by decide +kernel
theorem d_1_60_22 : decode prog_1_method_60_code 22 = .ok (.return_, 1) := by decide +kernel
theorem d_1_61_0 : decode prog_1_method_61_code 0 = .ok (.aload_n 0, 1) := by decide +kernel
theorem d_1_61_1 : decode prog_1_method_61_code 1 = .ok (.aload_n 0, 1) := by decide +kernel
theorem d_1_61_2 : decode prog_1_method_61_code 2 = .ok (.getfield 368, 3) := by decide +kernel
theorem d_1_61_5 : decode prog_1_method_61_code 5 = .ok (.iconst 1, 1) := by decide +kernel
theorem d_1_61_6 : decode prog_1_method_61_code 6 = .ok (.iadd, 1) := by decide +kernel
theorem d_1_61_7 : decode prog_1_method_61_code 7 = .ok (.bipush 20, 2) := by decide +kernel
theorem d_1_61_9 : decode prog_1_method_61_code 9 = .ok (.irem, 1) := by decide +kernel
theorem d_1_61_10 : decode prog_1_method_61_code 10 = .ok (.putfield 368, 3) := by decide +kernel
theorem d_1_61_13 : decode prog_1_method_61_code 13 = .ok (.aload_n 0, 1) := by decide +kernel
theorem d_1_61_14 : decode prog_1_method_61_code 14 = .ok (.getfield 62, 3) := by decide +kernel
theorem d_1_61_17 : decode prog_1_method_61_code 17 = .ok (.aload_n 0, 1) := by decide +kernel
theorem d_1_61_18 : decode prog_1_method_61_code 18 = .ok (.getfield 368, 3) := by decide +kernel
theorem d_1_61_21 : decode prog_1_method_61_code 21 = .ok (.iload_n 1, 1) := by decide +kernel
theorem d_1_61_22 : decode prog_1_method_61_code 22 = .ok (.iastore, 1) := by decide +kernel
theorem d_1_61_23 : decode prog_1_method_61_code 23 = .ok (.aload_n 0, 1) := by decide +kernel
theorem d_1_61_24 : decode prog_1_method_61_code 24 = .ok (.getfield 66, 3) := by decide +kernel
theorem d_1_61_27 : decode prog_1_method_61_code 27 = .ok (.aload_n 0, 1) := by decide +kernel
theorem d_1_61_28 : decode prog_1_method_61_code 28 = .ok (.getfield 368, 3) := by decide +kernel
theorem d_1_61_31 : decode prog_1_method_61_code 31 = .ok (.iload_n 2, 1) := by decide +kernel
theorem d_1_61_32 : decode prog_1_method_61_code 32 = .ok (.iastore, 1) := by decide +kernel
theorem d_1_61_33 : decode prog_1_method_61_code 33 = .ok (.aload_n 0, 1) := by decide +kernel
theorem d_1_61_34 : decode prog_1_method_61_code 34 = .ok (.getfield 69, 3) := by decide +kernel
theorem d_1_61_37 : decode prog_1_method_61_code 37 = .ok (.aload_n 0, 1) := by decide +kernel
theorem d_1_61_38 : decode prog_1_method_61_code 38 = .ok (.getfield 368, 3) := by decide +kernel
theorem d_1_61_41 : decode prog_1_method_61_code 41 = .ok (.iload_n 3, 1) := by decide +kernel
theorem d_1_61_42 : decode prog_1_method_61_code 42 = .ok (.iastore, 1) := by decide +kernel
theorem d_1_61_43 : decode prog_1_method_61_code 43 = .ok (.aload_n 0, 1) := by decide +kernel
theorem d_1_61_44 : decode prog_1_method_61_code 44 = .ok (.aload_n 0, 1) := by decide +kernel
theorem d_1_61_45 : decode prog_1_method_61_code 45 = .ok (.getfield 365, 3) := by decide +kernel
theorem d_1_61_48 : decode prog_1_method_61_code 48 = .ok (.iconst 1, 1) := by decide +kernel
theorem d_1_61_49 : decode prog_1_method_61_code 49 = .ok (.iadd, 1) := by decide +kernel
theorem d_1_61_50 : decode prog_1_method_61_code 50 = .ok (.bipush 20, 2) := by decide +kernel
theorem d_1_61_52 : decode prog_1_method_61_code 52 = .ok (.invokestatic 267, 3) := by decide +kernel
theorem d_1_61_55 : decode prog_1_method_61_code 55 = .ok (.putfield 365, 3) := by decide +kernel
theorem d_1_61_58 : decode prog_1_method_61_code 58 = .ok (.return_, 1) := by decide +kernel
theorem d_1_65_0 : decode prog_1_method_65_code 0 = .ok (.aload_n 0, 1) := by decide +kernel
theorem d_1_65_1 : decode prog_1_method_65_code 1 = .ok (.getfield 44, 3) := by decide +kernel
theorem d_1_65_4 : decode prog_1_method_65_code 4 = .ok (.invokevirtual 191, 3) := by decide +kernel
theorem d_1_65_7 : decode prog_1_method_65_code 7 = .ok (.astore_n 1, 1) := by decide +kernel
theorem d_1_65_8 : decode prog_1_method_65_code 8 = .ok (.aload_n 1, 1) := by decide +kernel
theorem d_1_65_9 : decode prog_1_method_65_code 9 = .ok (.ifnull 11, 3) := by decide +kernel
theorem d_1_65_20 : decode prog_1_method_65_code 20 = .ok (.iconst 0, 1) := by decide +kernel
theorem d_1_65_21 : decode prog_1_method_65_code 21 = .ok (.ireturn, 1) := by decide +kernel
theorem d_1_66_0 : decode prog_1_method_66_code 0 = .ok (.aload_n 0, 1) := by decide +kernel
theorem d_1_66_1 : decode prog_1_method_66_code 1 = .ok (.getfield 21, 3) := by decide +kernel
theorem d_1_66_4 : decode prog_1_method_66_code 4 = .ok (.aload_n 0, 1) := by decide +kernel
theorem d_1_66_5 : decode prog_1_method_66_code 5 = .ok (.getfield 12, 3) := by decide +kernel
theorem d_1_66_8 : decode prog_1_method_66_code 8 = .ok (.invokevirtual 250, 3) := by decide +kernel
theorem d_1_66_11 : decode prog_1_method_66_code 11 = .ok (.invokevirtual 272, 3) := by decide +kernel
theorem d_1_66_14 : decode prog_1_method_66_code 14 = .ok (.aload_n 0, 1) := by decide +kernel
theorem d_1_66_15 : decode prog_1_method_66_code 15 = .ok (.getfield 21, 3) := by decide +kernel
theorem d_1_66_18 : decode prog_1_method_66_code 18 = .ok (.invokevirtual 278, 3) := by decide +kernel
theorem d_1_66_21 : decode prog_1_method_66_code 21 = .ok (.istore_n 1, 1) := by decide +kernel
theorem d_1_66_22 : decode prog_1_method_66_code 22 = .ok (.iload_n 1, 1) := by decide +kernel
theorem d_1_66_23 : decode prog_1_method_66_code 23 = .ok (.iconst (-1), 1) := by decide +kernel
theorem d_1_66_24 : decode prog_1_method_66_code 24 = .ok (.if_icmp .ne 5, 3) := by decide +kernel
theorem d_1_66_27 : decode prog_1_method_66_code 27 = .ok (.iconst 0, 1) := by decide +kernel
theorem d_1_66_28 : decode prog_1_method_66_code 28 = .ok (.ireturn, 1) := by decide +kernel
theorem d_1_6_0 : decode prog_1_method_6_code 0 = .ok (.iload_n 1, 1) := by decide +kernel
theorem d_1_6_1 : decode prog_1_method_6_code 1 = .ok (.aload_n 0, 1) := by decide +kernel
theorem d_1_6_2 : decode prog_1_method_6_code 2 = .ok (.getfield 12, 3) := by decide +kernel
theorem d_1_6_5 : decode prog_1_method_6_code 5 = .ok (.getfield 117, 3) := by decide +kernel
theorem d_1_6_8 : decode prog_1_method_6_code 8 = .ok (.invokestatic 93, 3) := by decide +kernel
theorem d_1_7_0 : decode prog_1_method_7_code 0 = .ok (.iload_n 1, 1) := by decide +kernel
theorem d_1_7_1 : decode prog_1_method_7_code 1 = .ok (.aload_n 0, 1) := by decide +kernel
theorem d_1_7_2 : decode prog_1_method_7_code 2 = .ok (.getfield 12, 3) := by decide +kernel
theorem d_1_7_5 : decode prog_1_method_7_code 5 = .ok (.getfield 117, 3) := by decide +kernel
theorem d_1_7_8 : decode prog_1_method_7_code 8 = .ok (.invokestatic 93, 3) := by decide +kernel
theorem d_1_8_0 : decode prog_1_method_8_code 0 = .ok (.iload_n 1, 1) := by decide +kernel
theorem d_1_8_1 : decode prog_1_method_8_code 1 = .ok (.aload_n 0, 1) := by decide +kernel
theorem d_1_8_2 : decode prog_1_method_8_code 2 = .ok (.getfield 12, 3) := by decide +kernel
theorem d_1_8_5 : decode prog_1_method_8_code 5 = .ok (.getfield 117, 3) := by decide +kernel
theorem d_1_8_8 : decode prog_1_method_8_code 8 = .ok (.invokestatic 93, 3) := by decide +kernel
theorem d_1_9_0 : decode prog_1_method_9_code 0 = .ok (.aload_n 0, 1) := by decide +kernel
theorem d_1_9_1 : decode prog_1_method_9_code 1 = .ok (.getfield 12, 3) := by decide +kernel
theorem d_1_9_4 : decode prog_1_method_9_code 4 = .ok (.aload_n 0, 1) := by decide +kernel
theorem d_1_9_5 : decode prog_1_method_9_code 5 = .ok (.getfield 12, 3) := by decide +kernel
theorem d_1_9_8 : decode prog_1_method_9_code 8 = .ok (.getfield 123, 3) := by decide +kernel
theorem d_1_9_11 : decode prog_1_method_9_code 11 = .ok (.aload_n 0, 1) := by decide +kernel
theorem d_1_9_12 : decode prog_1_method_9_code 12 = .ok (.getfield 12, 3) := by decide +kernel
theorem d_1_9_15 : decode prog_1_method_9_code 15 = .ok (.getfield 117, 3) := by decide +kernel
theorem d_1_9_18 : decode prog_1_method_9_code 18 = .ok (.invokevirtual 134, 3) := by decide +kernel
theorem d_1_9_21 : decode prog_1_method_9_code 21 = .ok (.ireturn, 1) := by decide +kernel
theorem d_20_1_0 : decode prog_20_method_1_code 0 = .ok (.aload_n 0, 1) := by decide +kernel
theorem d_20_1_1 : decode prog_20_method_1_code 1 = .ok (.invokespecial 3, 3) := by decide +kernel
theorem d_20_1_4 : decode prog_20_method_1_code 4 = .ok (.aload_n 0, 1) := by decide +kernel
theorem d_20_1_5 : decode prog_20_method_1_code 5 = .ok (.bipush 8, 2) := by decide +kernel
theorem d_20_1_7 : decode prog_20_method_1_code 7 = .ok (.newarray .int, 2) := by decide +kernel
theorem d_20_1_9 : decode prog_20_method_1_code 9 = .ok (.putfield 9, 3) := by decide +kernel
theorem d_20_1_12 : decode prog_20_method_1_code 12 = .ok (.aload_n 0, 1) := by decide +kernel
theorem d_20_1_13 : decode prog_20_method_1_code 13 = .ok (.iconst 0, 1) := by decide +kernel
theorem d_20_1_14 : decode prog_20_method_1_code 14 = .ok (.anewarray 15, 3) := by decide +kernel
theorem d_20_1_17 : decode prog_20_method_1_code 17 = .ok (.putfield 17, 3) := by decide +kernel
theorem d_20_1_20 : decode prog_20_method_1_code 20 = .ok (.aload_n 0, 1) := by decide +kernel
theorem d_20_1_21 : decode prog_20_method_1_code 21 = .ok (.bipush 8, 2) := by decide +kernel
theorem d_20_1_23 : decode prog_20_method_1_code 23 = .ok (.newarray .int, 2) := by decide +kernel
theorem d_20_1_25 : decode prog_20_method_1_code 25 = .ok (.putfield 21, 3) := by decide +kernel
theorem d_20_1_28 : decode prog_20_method_1_code 28 = .ok (.aload_n 0, 1) := by decide +kernel
theorem d_20_1_29 : decode prog_20_method_1_code 29 = .ok (.bipush 8, 2) := by decide +kernel
theorem d_20_1_31 : decode prog_20_method_1_code 31 = .ok (.newarray .int, 2) := by decide +kernel
theorem d_20_1_33 : decode prog_20_method_1_code 33 = .ok (.putfield 24, 3) := by decide +kernel
theorem d_20_1_36 : decode prog_20_method_1_code 36 = .ok (.aload_n 0, 1) := by decide +kernel
theorem d_20_1_37 : decode prog_20_method_1_code 37 = .ok (.bipush 8, 2) := by decide +kernel
theorem d_20_1_39 : decode prog_20_method_1_code 39 = .ok (.newarray .int, 2) := by decide +kernel
theorem d_20_1_41 : decode prog_20_method_1_code 41 = .ok (.putfield 27, 3) := by decide +kernel
theorem d_20_1_44 : decode prog_20_method_1_code 44 = .ok (.aload_n 0, 1) := by decide +kernel
theorem d_20_1_45 : decode prog_20_method_1_code 45 = .ok (.bipush 16, 2) := by decide +kernel
theorem d_20_1_47 : decode prog_20_method_1_code 47 = .ok (.newarray .int, 2) := by decide +kernel
theorem d_20_1_49 : decode prog_20_method_1_code 49 = .ok (.putfield 30, 3) := by decide +kernel
theorem d_20_1_52 : decode prog_20_method_1_code 52 = .ok (.aload_n 0, 1) := by decide +kernel
theorem d_20_1_53 : decode prog_20_method_1_code 53 = .ok (.bipush 16, 2) := by decide +kernel
theorem d_20_1_55 : decode prog_20_method_1_code 55 = .ok (.newarray .int, 2) := by decide +kernel
theorem d_20_1_57 : decode prog_20_method_1_code 57 = .ok (.putfield 33, 3) := by decide +kernel
theorem d_20_1_60 : decode prog_20_method_1_code 60 = .ok (.aload_n 0, 1) := by decide +kernel
theorem d_20_1_61 : decode prog_20_method_1_code 61 = .ok (.bipush 16, 2) := by decide +kernel
theorem d_20_1_63 : decode prog_20_method_1_code 63 = .ok (.newarray .int, 2) := by decide +kernel
theorem d_20_1_65 : decode prog_20_method_1_code 65 = .ok (.putfield 36, 3) := by decide +kernel
theorem d_20_1_68 : decode prog_20_method_1_code 68 = .ok (.aload_n 0, 1) := by decide +kernel
theorem d_20_1_69 : decode prog_20_method_1_code 69 = .ok (.bipush 12, 2) := by decide +kernel
theorem d_20_1_71 : decode prog_20_method_1_code 71 = .ok (.newarray .int, 2) := by decide +kernel
theorem d_20_1_73 : decode prog_20_method_1_code 73 = .ok (.putfield 39, 3) := by decide +kernel
theorem d_20_1_76 : decode prog_20_method_1_code 76 = .ok (.aload_n 0, 1) := by decide +kernel
theorem d_20_1_77 : decode prog_20_method_1_code 77 = .ok (.iconst 1, 1) := by decide +kernel
theorem d_20_1_78 : decode prog_20_method_1_code 78 = .ok (.putfield 42, 3) := by decide +kernel
theorem d_20_1_81 : decode prog_20_method_1_code 81 = .ok (.return_, 1) := by decide +kernel
theorem d_20_2_0 : decode prog_20_method_2_code 0 = .ok (.new 10, 3) := by decide +kernel
theorem d_20_2_3 : decode prog_20_method_2_code 3 = .ok (.dup, 1) := by decide +kernel
theorem d_20_2_4 : decode prog_20_method_2_code 4 = .ok (.invokespecial 46, 3) := by decide +kernel
theorem d_20_2_7 : decode prog_20_method_2_code 7 = .ok (.astore_n 1, 1) := by decide +kernel
theorem d_20_2_8 : decode prog_20_method_2_code 8 = .ok (.aload_n 1, 1) := by decide +kernel
theorem d_20_2_9 : decode prog_20_method_2_code 9 = .ok (.aload_n 0, 1) := by decide +kernel
theorem d_20_2_10 : decode prog_20_method_2_code 10 = .ok (.getfield 47, 3) := by decide +kernel
theorem d_20_2_13 : decode prog_20_method_2_code 13 = .ok (.putfield 47, 3) := by decide +kernel
theorem d_20_2_16 : decode prog_20_method_2_code 16 = .ok (.aload_n 0, 1) := by decide +kernel
theorem d_20_2_17 : decode prog_20_method_2_code 17 = .ok (.getfield 9, 3) := by decide +kernel
theorem d_20_2_20 : decode prog_20_method_2_code 20 = .ok (.iconst 0, 1) := by decide +kernel
theorem d_20_2_21 : decode prog_20_method_2_code 21 = .ok (.aload_n 1, 1) := by decide +kernel
theorem d_20_2_22 : decode prog_20_method_2_code 22 = .ok (.getfield 9, 3) := by decide +kernel
theorem d_20_2_25 : decode prog_20_method_2_code 25 = .ok (.iconst 0, 1) := by decide +kernel
theorem d_20_2_26 : decode prog_20_method_2_code 26 = .ok (.bipush 8, 2) := by decide +kernel
theorem d_20_2_28 : decode prog_20_method_2_code 28 = .ok (.invokestatic 50, 3) := by decide +kernel
theorem d_20_2_31 : decode prog_20_method_2_code 31 = .ok (.aload_n 1, 1) := by decide +kernel
theorem d_20_2_32 : decode prog_20_method_2_code 32 = .ok (.aload_n 0, 1) := by decide +kernel
theorem d_20_2_33 : decode prog_20_method_2_code 33 = .ok (.getfield 17, 3) := by decide +kernel
theorem d_20_2_36 : decode prog_20_method_2_code 36 = .ok (.putfield 17, 3) := by decide +kernel
theorem d_20_2_39 : decode prog_20_method_2_code 39 = .ok (.aload_n 1, 1) := by decide +kernel
theorem d_20_2_40 : decode prog_20_method_2_code 40 = .ok (.aload_n 0, 1) := by decide +kernel
theorem d_20_2_41 : decode prog_20_method_2_code 41 = .ok (.getfield 56, 3) := by decide +kernel
theorem d_20_2_44 : decode prog_20_method_2_code 44 = .ok (.putfield 56, 3) := by decide +kernel
theorem d_20_2_47 : decode prog_20_method_2_code 47 = .ok (.aload_n 0, 1) := by decide +kernel
theorem d_20_2_48 : decode prog_20_method_2_code 48 = .ok (.getfield 21, 3) := by decide +kernel
theorem d_20_2_51 : decode prog_20_method_2_code 51 = .ok (.iconst 0, 1) := by decide +kernel
theorem d_20_2_52 : decode prog_20_method_2_code 52 = .ok (.aload_n 1, 1) := by decide +kernel
theorem d_20_2_53 : decode prog_20_method_2_code 53 = .ok (.getfield 21, 3) := by decide +kernel
theorem d_20_2_56 : decode prog_20_method_2_code 56 = .ok (.iconst 0, 1) := by decide +kernel
theorem d_20_2_57 : decode prog_20_method_2_code 57 = .ok (.bipush 8, 2) := by decide +kernel
theorem d_20_2_59 : decode prog_20_method_2_code 59 = .ok (.invokestatic 50, 3) := by decide +kernel
theorem d_20_2_62 : decode prog_20_method_2_code 62 = .ok (.aload_n 0, 1) := by decide +kernel
theorem d_20_2_63 : decode prog_20_method_2_code 63 = .ok (.getfield 24, 3) := by decide +kernel
theorem d_20_2_66 : decode prog_20_method_2_code 66 = .ok (.iconst 0, 1) := by decide +kernel
theorem d_20_2_67 : decode prog_20_method_2_code 67 = .ok (.aload_n 1, 1) := by decide +kernel
theorem d_20_2_68 : decode prog_20_method_2_code 68 = .ok (.getfield 24, 3) := by decide +kernel
theorem d_20_2_71 : decode prog_20_method_2_code 71 = .ok (.iconst 0, 1) := by decide +kernel
theorem d_20_2_72 : decode prog_20_method_2_code 72 = .ok (.bipush 8, 2) := by decide +kernel
theorem d_20_2_74 : decode prog_20_method_2_code 74 = .ok (.invokestatic 50, 3) := by decide +kernel
theorem d_20_2_77 : decode prog_20_method_2_code 77 = .ok (.aload_n 0, 1) := by decide +kernel
theorem d_20_2_78 : decode prog_20_method_2_code 78 = .ok (.getfield 27, 3) := by decide +kernel
theorem d_20_2_81 : decode prog_20_method_2_code 81 = .ok (.iconst 0, 1) := by decide +kernel
theorem d_20_2_82 : decode prog_20_method_2_code 82 = .ok (.aload_n 1, 1) := by decide +kernel
theorem d_20_2_83 : decode prog_20_method_2_code 83 = .ok (.getfield 27, 3) := by decide +kernel
theorem d_20_2_86 : decode prog_20_method_2_code 86 = .ok (.iconst 0, 1) := by decide +kernel
theorem d_20_2_87 : decode prog_20_method_2_code 87 = .ok (.bipush 8, 2) := by decide +kernel
theorem d_20_2_89 : decode prog_20_method_2_code 89 = .ok (.invokestatic 50, 3) := by decide +kernel
theorem d_20_2_92 : decode prog_20_method_2_code 92 = .ok (.aload_n 1, 1) := by decide +kernel
theorem d_20_2_93 : decode prog_20_method_2_code 93 = .ok (.aload_n 0, 1) := by decide +kernel
theorem d_20_2_94 : decode prog_20_method_2_code 94 = .ok (.getfield 59, 3) := by decide +kernel
theorem d_20_2_97 : decode prog_20_method_2_code 97 = .ok (.putfield 59, 3) := by decide +kernel
theorem d_20_2_100 : decode prog_20_method_2_code 100 = .ok (.aload_n 1, 1) := by decide +kernel
theorem d_20_2_101 : decode prog_20_method_2_code 101 = .ok (.aload_n 0, 1) := by decide +kernel
theorem d_20_2_102 : decode prog_20_method_2_code 102 = .ok (.getfield 63, 3) := by decide +kernel
theorem d_20_2_105 : decode prog_20_method_2_code 105 = .ok (.putfield 63, 3) := by decide +kernel
theorem d_20_2_108 : decode prog_20_method_2_code 108 = .ok (.aload_n 1, 1) := by decide +kernel
theorem d_20_2_109 : decode prog_20_method_2_code 109 = .ok (.aload_n 0, 1) := by decide +kernel
theorem d_20_2_110 : decode prog_20_method_2_code 110 = .ok (.getfield 67, 3) := by decide +kernel
theorem d_20_2_113 : decode prog_20_method_2_code 113 = .ok (.putfield 67, 3) := by decide +kernel
theorem d_20_2_116 : decode prog_20_method_2_code 116 = .ok (.aload_n 0, 1) := by decide +kernel
theorem d_20_2_117 : decode prog_20_method_2_code 117 = .ok (.getfield 30, 3) := by decide +kernel
theorem d_20_2_120 : decode prog_20_method_2_code 120 = .ok (.iconst 0, 1) := by decide +kernel
theorem d_20_2_121 : decode prog_20_method_2_code 121 = .ok (.aload_n 1, 1) := by decide +kernel
theorem d_20_2_122 : decode prog_20_method_2_code 122 = .ok (.getfield 30, 3) := by decide +kernel
theorem d_20_2_125 : decode prog_20_method_2_code 125 = .ok (.iconst 0, 1) := by decide +kernel
theorem d_20_2_126 : decode prog_20_method_2_code 126 = .ok (.bipush 16, 2) := by decide +kernel
theorem d_20_2_128 : decode prog_20_method_2_code 128 = .ok (.invokestatic 50, 3) := by decide +kernel
theorem d_20_2_131 : decode prog_20_method_2_code 131 = .ok (.aload_n 0, 1) := by decide +kernel
theorem d_20_2_132 : decode prog_20_method_2_code 132 = .ok (.getfield 33, 3) := by decide +kernel
theorem d_20_2_135 : decode prog_20_method_2_code 135 = .ok (.iconst 0, 1) := by decide +kernel
theorem d_20_2_136 : decode prog_20_method_2_code 136 = .ok (.aload_n 1, 1) := by decide +kernel
theorem d_20_2_137 : decode prog_20_method_2_code 137 = .ok (.getfield 33, 3) := by decide +kernel
theorem d_20_2_140 : decode prog_20_method_2_code 140 = .ok (.iconst 0, 1) := by decide +kernel
theorem d_20_2_141 : decode prog_20_method_2_code 141 = .ok (.bipush 16, 2) := by decide +kernel
theorem d_20_2_143 : decode prog_20_method_2_code 143 = .ok (.invokestatic 50, 3) := by decide +kernel
theorem d_20_2_146 : decode prog_20_method_2_code 146 = .ok (.aload_n 0, 1) := by decide +kernel
theorem d_20_2_147 : decode prog_20_method_2_code 147 = .ok (.getfield 36, 3) := by decide +kernel
theorem d_20_2_150 : decode prog_20_method_2_code 150 = .ok (.iconst 0, 1) := by decide +kernel
theorem d_20_2_151 : decode prog_20_method_2_code 151 = .ok (.aload_n 1, 1) := by decide +kernel
theorem d_20_2_152 : decode prog_20_method_2_code 152 = .ok (.getfield 36, 3) := by decide +kernel
theorem d_20_2_155 : decode prog_20_method_2_code 155 = .ok (.iconst 0, 1) := by decide +kernel
theorem d_20_2_156 : decode prog_20_method_2_code 156 = .ok (.bipush 16, 2) := by decide +kernel
theorem d_20_2_158 : decode prog_20_method_2_code 158 = .ok (.invokestatic 50, 3) := by decide +kernel
theorem d_20_2_161 : decode prog_20_method_2_code 161 = .ok (.aload_n 1, 1) := by decide +kernel
theorem d_20_2_162 : decode prog_20_method_2_code 162 = .ok (.aload_n 0, 1) := by decide +kernel
theorem d_20_2_163 : decode prog_20_method_2_code 163 = .ok (.getfield 70, 3) := by decide +kernel
theorem d_20_2_166 : decode prog_20_method_2_code 166 = .ok (.putfield 70, 3) := by decide +kernel
theorem d_20_2_169 : decode prog_20_method_2_code 169 = .ok (.aload_n 0, 1) := by decide +kernel
theorem d_20_2_170 : decode prog_20_method_2_code 170 = .ok (.getfield 39, 3) := by decide +kernel
theorem d_20_2_173 : decode prog_20_method_2_code 173 = .ok (.iconst 0, 1) := by decide +kernel
theorem d_20_2_174 : decode prog_20_method_2_code 174 = .ok (.aload_n 1, 1) := by decide +kernel
theorem d_20_2_175 : decode prog_20_method_2_code 175 = .ok (.getfield 39, 3) := by decide +kernel
theorem d_20_2_178 : decode prog_20_method_2_code 178 = .ok (.iconst 0, 1) := by decide +kernel
theorem d_20_2_179 : decode prog_20_method_2_code 179 = .ok (.bipush 12, 2) := by decide +kernel
theorem d_20_2_181 : decode prog_20_method_2_code 181 = .ok (.invokestatic 50, 3) := by decide +kernel
theorem d_20_2_184 : decode prog_20_method_2_code 184 = .ok (.aload_n 1, 1) := by decide +kernel
theorem d_20_2_185 : decode prog_20_method_2_code 185 = .ok (.aload_n 0, 1) := by decide +kernel
theorem d_20_2_186 : decode prog_20_method_2_code 186 = .ok (.getfield 42, 3) := by decide +kernel
theorem d_20_2_189 : decode prog_20_method_2_code 189 = .ok (.putfield 42, 3) := by decide +kernel
theorem d_20_2_192 : decode prog_20_method_2_code 192 = .ok (.aload_n 1, 1) := by decide +kernel
theorem d_20_2_193 : decode prog_20_method_2_code 193 = .ok (.areturn, 1) := by decide +kernel
theorem d_27_49_0 : decode prog_27_method_49_code 0 = .ok (.iload_n 0, 1) := by decide +kernel
theorem d_27_49_1 : decode prog_27_method_49_code 1 = .ok (.iload_n 0, 1) := by decide +kernel
theorem d_27_49_2 : decode prog_27_method_49_code 2 = .ok (.iconst 1, 1) := by decide +kernel
theorem d_27_49_3 : decode prog_27_method_49_code 3 = .ok (.iushr, 1) := by decide +kernel
theorem d_27_49_4 : decode prog_27_method_49_code 4 = .ok (.ldc_w 265, 3) := by decide +kernel
theorem d_27_49_7 : decode prog_27_method_49_code 7 = .ok (.iand, 1) := by decide +kernel
theorem d_27_49_8 : decode prog_27_method_49_code 8 = .ok (.isub, 1) := by decide +kernel
theorem d_27_49_9 : decode prog_27_method_49_code 9 = .ok (.istore_n 0, 1) := by decide +kernel
theorem d_27_49_10 : decode prog_27_method_49_code 10 = .ok (.iload_n 0, 1) := by decide +kernel
theorem d_27_49_11 : decode prog_27_method_49_code 11 = .ok (.ldc_w 266, 3) := by decide +kernel
theorem d_27_49_14 : decode prog_27_method_49_code 14 = .ok (.iand, 1) := by decide +kernel
theorem d_27_49_15 : decode prog_27_method_49_code 15 = .ok (.iload_n 0, 1) := by decide +kernel
theorem d_27_49_16 : decode prog_27_method_49_code 16 = .ok (.iconst 2, 1) := by decide +kernel
theorem d_27_49_17 : decode prog_27_method_49_code 17 = .ok (.iushr, 1) := by decide +kernel
theorem d_27_49_18 : decode prog_27_method_49_code 18 = .ok (.ldc_w 266, 3) := by decide +kernel
theorem d_27_49_21 : decode prog_27_method_49_code 21 = .ok (.iand, 1) := by decide +kernel
theorem d_27_49_22 : decode prog_27_method_49_code 22 = .ok (.iadd, 1) := by decide +kernel
theorem d_27_49_23 : decode prog_27_method_49_code 23 = .ok (.istore_n 0, 1) := by decide +kernel
theorem d_27_49_24 : decode prog_27_method_49_code 24 = .ok (.iload_n 0, 1) := by decide +kernel
theorem d_27_49_25 : decode prog_27_method_49_code 25 = .ok (.iload_n 0, 1) := by decide +kernel
theorem d_27_49_26 : decode prog_27_method_49_code 26 = .ok (.iconst 4, 1) := by decide +kernel
theorem d_27_49_27 : decode prog_27_method_49_code 27 = .ok (.iushr, 1) := by decide +kernel
theorem d_27_49_28 : decode prog_27_method_49_code 28 = .ok (.iadd, 1) := by decide +kernel
theorem d_27_49_29 : decode prog_27_method_49_code 29 = .ok (.ldc_w 267, 3) := by decide +kernel
theorem d_27_49_32 : decode prog_27_method_49_code 32 = .ok (.iand, 1) := by decide +kernel
theorem d_27_49_33 : decode prog_27_method_49_code 33 = .ok (.istore_n 0, 1) := by decide +kernel
theorem d_27_49_34 : decode prog_27_method_49_code 34 = .ok (.iload_n 0, 1) := by decide +kernel
theorem d_27_49_35 : decode prog_27_method_49_code 35 = .ok (.iload_n 0, 1) := by decide +kernel
theorem d_27_49_36 : decode prog_27_method_49_code 36 = .ok (.bipush 8, 2) := by decide +kernel
theorem d_27_49_38 : decode prog_27_method_49_code 38 = .ok (.iushr, 1) := by decide +kernel
theorem d_27_49_39 : decode prog_27_method_49_code 39 = .ok (.iadd, 1) := by decide +kernel
theorem d_27_49_40 : decode prog_27_method_49_code 40 = .ok (.istore_n 0, 1) := by decide +kernel
theorem d_27_49_41 : decode prog_27_method_49_code 41 = .ok (.iload_n 0, 1) := by decide +kernel
theorem d_27_49_42 : decode prog_27_method_49_code 42 = .ok (.iload_n 0, 1) := by decide +kernel
theorem d_27_49_43 : decode prog_27_method_49_code 43 = .ok (.bipush 16, 2) := by decide +kernel
theorem d_27_49_45 : decode prog_27_method_49_code 45 = .ok (.iushr, 1) := by decide +kernel
theorem d_27_49_46 : decode prog_27_method_49_code 46 = .ok (.iadd, 1) := by decide +kernel
theorem d_27_49_47 : decode prog_27_method_49_code 47 = .ok (.istore_n 0, 1) := by decide +kernel
theorem d_27_49_48 : decode prog_27_method_49_code 48 = .ok (.iload_n 0, 1) := by decide +kernel
theorem d_27_49_49 : decode prog_27_method_49_code 49 = .ok (.bipush 63, 2) := by decide +kernel
theorem d_27_49_51 : decode prog_27_method_49_code 51 = .ok (.iand, 1) := by decide +kernel
theorem d_27_49_52 : decode prog_27_method_49_code 52 = .ok (.ireturn, 1) := by decide +kernel
theorem d_2_11_0 : decode prog_2_method_11_code 0 = .ok (.aload_n 0, 1) := by decide +kernel
theorem d_2_11_1 : decode prog_2_method_11_code 1 = .ok (.getfield 65, 3) := by decide +kernel
theorem d_2_11_4 : decode prog_2_method_11_code 4 = .ok (.istore_n 1, 1) := by decide +kernel
theorem d_2_11_5 : decode prog_2_method_11_code 5 = .ok (.aload_n 0, 1) := by decide +kernel
theorem d_2_11_6 : decode prog_2_method_11_code 6 = .ok (.getfield 18, 3) := by decide +kernel
theorem d_2_11_9 : decode prog_2_method_11_code 9 = .ok (.iload_n 1, 1) := by decide +kernel
theorem d_2_11_10 : decode prog_2_method_11_code 10 = .ok (.iconst 0, 1) := by decide +kernel
theorem d_2_11_11 : decode prog_2_method_11_code 11 = .ok (.iastore, 1) := by decide +kernel
theorem d_2_11_12 : decode prog_2_method_11_code 12 = .ok (.aload_n 0, 1) := by decide +kernel
theorem d_2_11_13 : decode prog_2_method_11_code 13 = .ok (.getfield 21, 3) := by decide +kernel
theorem d_2_11_16 : decode prog_2_method_11_code 16 = .ok (.iload_n 1, 1) := by decide +kernel
theorem d_2_11_17 : decode prog_2_method_11_code 17 = .ok (.aload_n 0, 1) := by decide +kernel
theorem d_2_11_18 : decode prog_2_method_11_code 18 = .ok (.getfield 21, 3) := by decide +kernel
theorem d_2_11_21 : decode prog_2_method_11_code 21 = .ok (.bipush 30, 2) := by decide +kernel
theorem d_2_11_23 : decode prog_2_method_11_code 23 = .ok (.iaload, 1) := by decide +kernel
theorem d_2_11_24 : decode prog_2_method_11_code 24 = .ok (.iastore, 1) := by decide +kernel
theorem d_2_11_25 : decode prog_2_method_11_code 25 = .ok (.aload_n 0, 1) := by decide +kernel
theorem d_2_11_26 : decode prog_2_method_11_code 26 = .ok (.getfield 24, 3) := by decide +kernel
theorem d_2_11_29 : decode prog_2_method_11_code 29 = .ok (.iload_n 1, 1) := by decide +kernel
theorem d_2_11_30 : decode prog_2_method_11_code 30 = .ok (.aload_n 0, 1) := by decide +kernel
theorem d_2_11_31 : decode prog_2_method_11_code 31 = .ok (.getfield 24, 3) := by decide +kernel
theorem d_2_11_34 : decode prog_2_method_11_code 34 = .ok (.bipush 30, 2) := by decide +kernel
theorem d_2_11_36 : decode prog_2_method_11_code 36 = .ok (.iaload, 1) := by decide +kernel
theorem d_2_11_37 : decode prog_2_method_11_code 37 = .ok (.iastore, 1) := by decide +kernel
theorem d_2_11_38 : decode prog_2_method_11_code 38 = .ok (.aload_n 0, 1) := by decide +kernel
theorem d_2_11_39 : decode prog_2_method_11_code 39 = .ok (.getfield 29, 3) := by decide +kernel
theorem d_2_11_42 : decode prog_2_method_11_code 42 = .ok (.bipush 30, 2) := by decide +kernel
theorem d_2_11_44 : decode prog_2_method_11_code 44 = .ok (.aaload, 1) := by decide +kernel
theorem d_2_11_45 : decode prog_2_method_11_code 45 = .ok (.iconst 0, 1) := by decide +kernel
theorem d_2_11_46 : decode prog_2_method_11_code 46 = .ok (.aload_n 0, 1) := by decide +kernel
theorem d_2_11_47 : decode prog_2_method_11_code 47 = .ok (.getfield 29, 3) := by decide +kernel
theorem d_2_11_50 : decode prog_2_method_11_code 50 = .ok (.iload_n 1, 1) := by decide +kernel
theorem d_2_11_51 : decode prog_2_method_11_code 51 = .ok (.aaload, 1) := by decide +kernel
theorem d_2_11_52 : decode prog_2_method_11_code 52 = .ok (.iconst 0, 1) := by decide +kernel
theorem d_2_11_53 : decode prog_2_method_11_code 53 = .ok (.bipush 8, 2) := by decide +kernel
theorem d_2_11_55 : decode prog_2_method_11_code 55 = .ok (.invokestatic 72, 3) := by decide +kernel
theorem d_2_11_58 : decode prog_2_method_11_code 58 = .ok (.aload_n 0, 1) := by decide +kernel
theorem d_2_11_59 : decode prog_2_method_11_code 59 = .ok (.dup, 1) := by decide +kernel
theorem d_2_11_60 : decode prog_2_method_11_code 60 = .ok (.getfield 65, 3) := by decide +kernel
theorem d_2_11_63 : decode prog_2_method_11_code 63 = .ok (.iconst 1, 1) := by decide +kernel
theorem d_2_11_64 : decode prog_2_method_11_code 64 = .ok (.iadd, 1) := by decide +kernel
theorem d_2_11_65 : decode prog_2_method_11_code 65 = .ok (.putfield 65, 3) := by decide +kernel
theorem d_2_11_68 : decode prog_2_method_11_code 68 = .ok (.iload_n 1, 1) := by decide +kernel
theorem d_2_11_69 : decode prog_2_method_11_code 69 = .ok (.ireturn, 1) := by decide +kernel
theorem d_2_13_0 : decode prog_2_method_13_code 0 = .ok (.iconst 0, 1) := by decide +kernel
theorem d_2_13_1 : decode prog_2_method_13_code 1 = .ok (.istore_n 3, 1) := by decide +kernel
theorem d_2_13_2 : decode prog_2_method_13_code 2 = .ok (.iload_n 3, 1) := by decide +kernel
theorem d_2_13_3 : decode prog_2_method_13_code 3 = .ok (.aload_n 0, 1) := by decide +kernel
theorem d_2_13_4 : decode prog_2_method_13_code 4 = .ok (.getfield 24, 3) := by decide +kernel
theorem d_2_13_7 : decode prog_2_method_13_code 7 = .ok (.iload_n 1, 1) := by decide +kernel
theorem d_2_13_8 : decode prog_2_method_13_code 8 = .ok (.iaload, 1) := by decide +kernel
theorem d_2_13_9 : decode prog_2_method_13_code 9 = .ok (.if_icmp .ge 29, 3) := by decide +kernel
theorem d_2_13_38 : decode prog_2_method_13_code 38 = .ok (.iconst 0, 1) := by decide +kernel
theorem d_2_13_39 : decode prog_2_method_13_code 39 = .ok (.ireturn, 1) := by decide +kernel
theorem d_2_14_0 : decode prog_2_method_14_code 0 = .ok (.aload_n 0, 1) := by decide +kernel
theorem d_2_14_1 : decode prog_2_method_14_code 1 = .ok (.iload_n 1, 1) := by decide +kernel
theorem d_2_14_2 : decode prog_2_method_14_code 2 = .ok (.iload_n 2, 1) := by decide +kernel
theorem d_2_14_3 : decode prog_2_method_14_code 3 = .ok (.invokevirtual 78, 3) := by decide +kernel
theorem d_2_14_6 : decode prog_2_method_14_code 6 = .ok (.istore_n 3, 1) := by decide +kernel
theorem d_2_14_7 : decode prog_2_method_14_code 7 = .ok (.iload_n 3, 1) := by decide +kernel
theorem d_2_14_8 : decode prog_2_method_14_code 8 = .ok (.invokestatic 81, 3) := by decide +kernel
theorem d_2_14_11 : decode prog_2_method_14_code 11 = .ok (.iconst 1, 1) := by decide +kernel
theorem d_2_14_12 : decode prog_2_method_14_code 12 = .ok (.if_icmp .ne 12, 3) := by decide +kernel
theorem d_2_14_24 : decode prog_2_method_14_code 24 = .ok (.iconst (-1), 1) := by decide +kernel
theorem d_2_14_25 : decode prog_2_method_14_code 25 = .ok (.ireturn, 1) := by decide +kernel
theorem d_2_1_0 : decode prog_2_method_1_code 0 = .ok (.aload_n 0, 1) := by decide +kernel
theorem d_2_1_1 : decode prog_2_method_1_code 1 = .ok (.invokespecial 3, 3) := by decide +kernel
theorem d_2_1_4 : decode prog_2_method_1_code 4 = .ok (.aload_n 0, 1) := by decide +kernel
theorem d_2_1_5 : decode prog_2_method_1_code 5 = .ok (.bipush 30, 2) := by decide +kernel
theorem d_2_1_7 : decode prog_2_method_1_code 7 = .ok (.newarray .int, 2) := by decide +kernel
theorem d_2_1_9 : decode prog_2_method_1_code 9 = .ok (.putfield 9, 3) := by decide +kernel
theorem d_2_1_12 : decode prog_2_method_1_code 12 = .ok (.aload_n 0, 1) := by decide +kernel
theorem d_2_1_13 : decode prog_2_method_1_code 13 = .ok (.bipush 8, 2) := by decide +kernel
theorem d_2_1_15 : decode prog_2_method_1_code 15 = .ok (.newarray .int, 2) := by decide +kernel
theorem d_2_1_17 : decode prog_2_method_1_code 17 = .ok (.putfield 15, 3) := by decide +kernel
theorem d_2_1_20 : decode prog_2_method_1_code 20 = .ok (.aload_n 0, 1) := by decide +kernel
theorem d_2_1_21 : decode prog_2_method_1_code 21 = .ok (.bipush 31, 2) := by decide +kernel
theorem d_2_1_23 : decode prog_2_method_1_code 23 = .ok (.newarray .int, 2) := by decide +kernel
theorem d_2_1_25 : decode prog_2_method_1_code 25 = .ok (.putfield 18, 3) := by decide +kernel
theorem d_2_1_28 : decode prog_2_method_1_code 28 = .ok (.aload_n 0, 1) := by decide +kernel
theorem d_2_1_29 : decode prog_2_method_1_code 29 = .ok (.bipush 31, 2) := by decide +kernel
theorem d_2_1_31 : decode prog_2_method_1_code 31 = .ok (.newarray .int, 2) := by decide +kernel
theorem d_2_1_33 : decode prog_2_method_1_code 33 = .ok (.putfield 21, 3) := by decide +kernel
theorem d_2_1_36 : decode prog_2_method_1_code 36 = .ok (.aload_n 0, 1) := by decide +kernel
theorem d_2_1_37 : decode prog_2_method_1_code 37 = .ok (.bipush 31, 2) := by decide +kernel
theorem d_2_1_39 : decode prog_2_method_1_code 39 = .ok (.newarray .int, 2) := by decide +kernel
theorem d_2_1_41 : decode prog_2_method_1_code 41 = .ok (.putfield 24, 3) := by decide +kernel
theorem d_2_1_44 : decode prog_2_method_1_code 44 = .ok (.aload_n 0, 1) := by decide +kernel
theorem d_2_1_45 : decode prog_2_method_1_code 45 = .ok (.bipush 31, 2) := by decide +kernel
theorem d_2_1_47 : decode prog_2_method_1_code 47 = .ok (.bipush 8, 2) := by decide +kernel
theorem d_2_1_49 : decode prog_2_method_1_code 49 = .ok (.multianewarray 27 2, 4) := by decide +kernel
theorem d_2_1_53 : decode prog_2_method_1_code 53 = .ok (.putfield 29, 3) := by decide +kernel
theorem d_2_1_56 : decode prog_2_method_1_code 56 = .ok (.aload_n 0, 1) := by decide +kernel
theorem d_2_1_57 : decode prog_2_method_1_code 57 = .ok (.sipush 256, 3) := by decide +kernel
theorem d_2_1_60 : decode prog_2_method_1_code 60 = .ok (.newarray .int, 2) := by decide +kernel
theorem d_2_1_62 : decode prog_2_method_1_code 62 = .ok (.putfield 32, 3) := by decide +kernel
theorem d_2_1_65 : decode prog_2_method_1_code 65 = .ok (.return_, 1) := by decide +kernel
theorem d_2_2_0 : decode prog_2_method_2_code 0 = .ok (.iconst 1, 1) := by decide +kernel
theorem d_2_2_1 : decode prog_2_method_2_code 1 = .ok (.aload_n 0, 1) := by decide +kernel
theorem d_2_2_2 : decode prog_2_method_2_code 2 = .ok (.getfield 35, 3) := by decide +kernel
theorem d_2_2_5 : decode prog_2_method_2_code 5 = .ok (.ishl, 1) := by decide +kernel
theorem d_2_2_6 : decode prog_2_method_2_code 6 = .ok (.iconst 1, 1) := by decide +kernel
theorem d_2_2_7 : decode prog_2_method_2_code 7 = .ok (.isub, 1) := by decide +kernel
theorem d_2_2_8 : decode prog_2_method_2_code 8 = .ok (.ireturn, 1) := by decide +kernel
theorem d_2_4_0 : decode prog_2_method_4_code 0 = .ok (.iconst 0, 1) := by decide +kernel
theorem d_2_4_1 : decode prog_2_method_4_code 1 = .ok (.istore_n 3, 1) := by decide +kernel
theorem d_2_4_2 : decode prog_2_method_4_code 2 = .ok (.iconst 0, 1) := by decide +kernel
theorem d_2_4_3 : decode prog_2_method_4_code 3 = .ok (.istore 4, 2) := by decide +kernel
theorem d_2_4_5 : decode prog_2_method_4_code 5 = .ok (.iload 4, 2) := by decide +kernel
theorem d_2_4_7 : decode prog_2_method_4_code 7 = .ok (.iload_n 2, 1) := by decide +kernel
theorem d_2_4_8 : decode prog_2_method_4_code 8 = .ok (.if_icmp .ge 16, 3) := by decide +kernel
theorem d_2_4_24 : decode prog_2_method_4_code 24 = .ok (.iload_n 3, 1) := by decide +kernel
theorem d_2_4_25 : decode prog_2_method_4_code 25 = .ok (.ireturn, 1) := by decide +kernel
theorem d_2_6_0 : decode prog_2_method_6_code 0 = .ok (.aload_n 0, 1) := by decide +kernel
theorem d_2_6_1 : decode prog_2_method_6_code 1 = .ok (.invokevirtual 42, 3) := by decide +kernel
theorem d_2_6_4 : decode prog_2_method_6_code 4 = .ok (.iconst 0, 1) := by decide +kernel
theorem d_2_6_5 : decode prog_2_method_6_code 5 = .ok (.istore_n 1, 1) := by decide +kernel
theorem d_2_6_6 : decode prog_2_method_6_code 6 = .ok (.iconst (-1), 1) := by decide +kernel
theorem d_2_6_7 : decode prog_2_method_6_code 7 = .ok (.istore_n 2, 1) := by decide +kernel
theorem d_2_6_8 : decode prog_2_method_6_code 8 = .ok (.iconst 1, 1) := by decide +kernel
theorem d_2_6_9 : decode prog_2_method_6_code 9 = .ok (.istore_n 3, 1) := by decide +kernel
theorem d_2_6_10 : decode prog_2_method_6_code 10 = .ok (.aload_n 0, 1) := by decide +kernel
theorem d_2_6_11 : decode prog_2_method_6_code 11 = .ok (.getfield 39, 3) := by decide +kernel
theorem d_2_6_14 : decode prog_2_method_6_code 14 = .ok (.ifCond .le 7, 3) := by decide +kernel
theorem d_2_6_21 : decode prog_2_method_6_code 21 = .ok (.iconst 0, 1) := by decide +kernel
theorem d_2_6_22 : decode prog_2_method_6_code 22 = .ok (.istore 4, 2) := by decide +kernel
theorem d_2_6_24 : decode prog_2_method_6_code 24 = .ok (.iconst 0, 1) := by decide +kernel
theorem d_2_6_25 : decode prog_2_method_6_code 25 = .ok (.istore 5, 2) := by decide +kernel
theorem d_2_6_27 : decode prog_2_method_6_code 27 = .ok (.iload 5, 2) := by decide +kernel
theorem d_2_6_29 : decode prog_2_method_6_code 29 = .ok (.aload_n 0, 1) := by decide +kernel
theorem d_2_6_30 : decode prog_2_method_6_code 30 = .ok (.getfield 39, 3) := by decide +kernel
theorem d_2_6_33 : decode prog_2_method_6_code 33 = .ok (.if_icmp .ge 132, 3) := by decide +kernel
theorem d_2_6_165 : decode prog_2_method_6_code 165 = .ok (.iload 4, 2) := by decide +kernel
theorem d_2_6_167 : decode prog_2_method_6_code 167 = .ok (.ifCond .eq 8, 3) := by decide +kernel
theorem d_2_6_175 : decode prog_2_method_6_code 175 = .ok (.aload_n 0, 1) := by decide +kernel
theorem d_2_6_176 : decode prog_2_method_6_code 176 = .ok (.getfield 21, 3) := by decide +kernel
theorem d_2_6_179 : decode prog_2_method_6_code 179 = .ok (.bipush 30, 2) := by decide +kernel
theorem d_2_6_181 : decode prog_2_method_6_code 181 = .ok (.iload_n 2, 1) := by decide +kernel
theorem d_2_6_182 : decode prog_2_method_6_code 182 = .ok (.iconst (-1), 1) := by decide +kernel
theorem d_2_6_183 : decode prog_2_method_6_code 183 = .ok (.if_icmp .ne 15, 3) := by decide +kernel
theorem d_2_6_186 : decode prog_2_method_6_code 186 = .ok (.aload_n 0, 1) := by decide +kernel
theorem d_2_6_187 : decode prog_2_method_6_code 187 = .ok (.getfield 29, 3) := by decide +kernel
theorem d_2_6_190 : decode prog_2_method_6_code 190 = .ok (.bipush 30, 2) := by decide +kernel
theorem d_2_6_192 : decode prog_2_method_6_code 192 = .ok (.aaload, 1) := by decide +kernel
theorem d_2_6_193 : decode prog_2_method_6_code 193 = .ok (.iconst 0, 1) := by decide +kernel
theorem d_2_6_194 : decode prog_2_method_6_code 194 = .ok (.iaload, 1) := by decide +kernel
theorem d_2_6_195 : decode prog_2_method_6_code 195 = .ok (.goto 4, 3) := by decide +kernel
theorem d_2_6_199 : decode prog_2_method_6_code 199 = .ok (.iastore, 1) := by decide +kernel
theorem d_2_6_200 : decode prog_2_method_6_code 200 = .ok (.iconst (-1), 1) := by decide +kernel
theorem d_2_6_201 : decode prog_2_method_6_code 201 = .ok (.ireturn, 1) := by decide +kernel
theorem d_2_7_0 : decode prog_2_method_7_code 0 = .ok (.aload_n 0, 1) := by decide +kernel
theorem d_2_7_1 : decode prog_2_method_7_code 1 = .ok (.getfield 24, 3) := by decide +kernel
theorem d_2_7_4 : decode prog_2_method_7_code 4 = .ok (.bipush 30, 2) := by decide +kernel
theorem d_2_7_6 : decode prog_2_method_7_code 6 = .ok (.iconst 0, 1) := by decide +kernel
theorem d_2_7_7 : decode prog_2_method_7_code 7 = .ok (.iastore, 1) := by decide +kernel
theorem d_2_7_8 : decode prog_2_method_7_code 8 = .ok (.aload_n 0, 1) := by decide +kernel
theorem d_2_7_9 : decode prog_2_method_7_code 9 = .ok (.getfield 21, 3) := by decide +kernel
theorem d_2_7_12 : decode prog_2_method_7_code 12 = .ok (.bipush 30, 2) := by decide +kernel
theorem d_2_7_14 : decode prog_2_method_7_code 14 = .ok (.iconst 0, 1) := by decide +kernel
theorem d_2_7_15 : decode prog_2_method_7_code 15 = .ok (.iastore, 1) := by decide +kernel
theorem d_2_7_16 : decode prog_2_method_7_code 16 = .ok (.aload_n 0, 1) := by decide +kernel
theorem d_2_7_17 : decode prog_2_method_7_code 17 = .ok (.getfield 29, 3) := by decide +kernel
theorem d_2_7_20 : decode prog_2_method_7_code 20 = .ok (.bipush 30, 2) := by decide +kernel
theorem d_2_7_22 : decode prog_2_method_7_code 22 = .ok (.aaload, 1) := by decide +kernel
theorem d_2_7_23 : decode prog_2_method_7_code 23 = .ok (.iconst 0, 1) := by decide +kernel
theorem d_2_7_24 : decode prog_2_method_7_code 24 = .ok (.invokestatic 53, 3) := by decide +kernel
theorem d_2_7_27 : decode prog_2_method_7_code 27 = .ok (.return_, 1) := by decide +kernel
theorem d_2_9_0 : decode prog_2_method_9_code 0 = .ok (.iconst 0, 1) := by decide +kernel
theorem d_2_9_1 : decode prog_2_method_9_code 1 = .ok (.istore_n 1, 1) := by decide +kernel
theorem d_2_9_2 : decode prog_2_method_9_code 2 = .ok (.iload_n 1, 1) := by decide +kernel
