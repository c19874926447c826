theorem d_2_9_3 : decode prog_2_method_9_code 3 = .ok (.aload_n 0, 1) := by decide +kernel
theorem d_2_9_4 : decode prog_2_method_9_code 4 = .ok (.getfield 65, 3) := by decide +kernel
theorem d_2_9_7 : decode prog_2_method_9_code 7 = .ok (.if_icmp .ge 19, 3) := by decide +kernel
theorem d_2_9_26 : decode prog_2_method_9_code 26 = .ok (.iconst (-1), 1) := by decide +kernel
theorem d_2_9_27 : decode prog_2_method_9_code 27 = .ok (.ireturn, 1) := by decide +kernel
theorem d_37_103_0 : decode prog_37_method_103_code 0 = .ok (.iconst 0, 1) := by decide +kernel
theorem d_37_103_1 : decode prog_37_method_103_code 1 = .ok (.istore_n 2, 1) := by decide +kernel
theorem d_37_103_2 : decode prog_37_method_103_code 2 = .ok (.aload_n 0, 1) := by decide +kernel
theorem d_37_103_3 : decode prog_37_method_103_code 3 = .ok (.arraylength, 1) := by decide +kernel
theorem d_37_103_4 : decode prog_37_method_103_code 4 = .ok (.istore_n 3, 1) := by decide +kernel
theorem d_37_103_5 : decode prog_37_method_103_code 5 = .ok (.iload_n 2, 1) := by decide +kernel
theorem d_37_103_6 : decode prog_37_method_103_code 6 = .ok (.iload_n 3, 1) := by decide +kernel
theorem d_37_103_7 : decode prog_37_method_103_code 7 = .ok (.if_icmp .ge 13, 3) := by decide +kernel
theorem d_37_103_10 : decode prog_37_method_103_code 10 = .ok (.aload_n 0, 1) := by decide +kernel
theorem d_37_103_11 : decode prog_37_method_103_code 11 = .ok (.iload_n 2, 1) := by decide +kernel
theorem d_37_103_12 : decode prog_37_method_103_code 12 = .ok (.iload_n 1, 1) := by decide +kernel
theorem d_37_103_13 : decode prog_37_method_103_code 13 = .ok (.iastore, 1) := by decide +kernel
theorem d_37_103_14 : decode prog_37_method_103_code 14 = .ok (.iinc 2 1, 3) := by decide +kernel
theorem d_37_103_17 : decode prog_37_method_103_code 17 = .ok (.goto (-12), 3) := by decide +kernel
theorem d_37_103_20 : decode prog_37_method_103_code 20 = .ok (.return_, 1) := by decide +kernel
theorem d_3_1_0 : decode prog_3_method_1_code 0 = .ok (.aload_n 0, 1) := by decide +kernel
theorem d_3_1_1 : decode prog_3_method_1_code 1 = .ok (.invokespecial 3, 3) := by decide +kernel
theorem d_3_1_4 : decode prog_3_method_1_code 4 = .ok (.aload_n 0, 1) := by decide +kernel
theorem d_3_1_5 : decode prog_3_method_1_code 5 = .ok (.iconst 1, 1) := by decide +kernel
theorem d_3_1_6 : decode prog_3_method_1_code 6 = .ok (.putfield 9, 3) := by decide +kernel
theorem d_3_1_9 : decode prog_3_method_1_code 9 = .ok (.aload_n 0, 1) := by decide +kernel
theorem d_3_1_10 : decode prog_3_method_1_code 10 = .ok (.bipush 12, 2) := by decide +kernel
theorem d_3_1_12 : decode prog_3_method_1_code 12 = .ok (.newarray .int, 2) := by decide +kernel
theorem d_3_1_14 : decode prog_3_method_1_code 14 = .ok (.putfield 15, 3) := by decide +kernel
theorem d_3_1_17 : decode prog_3_method_1_code 17 = .ok (.aload_n 0, 1) := by decide +kernel
theorem d_3_1_18 : decode prog_3_method_1_code 18 = .ok (.sipush 4096, 3) := by decide +kernel
theorem d_3_1_21 : decode prog_3_method_1_code 21 = .ok (.newarray .int, 2) := by decide +kernel
theorem d_3_1_23 : decode prog_3_method_1_code 23 = .ok (.putfield 19, 3) := by decide +kernel
theorem d_3_1_26 : decode prog_3_method_1_code 26 = .ok (.return_, 1) := by decide +kernel
theorem d_3_2_0 : decode prog_3_method_2_code 0 = .ok (.aload_n 0, 1) := by decide +kernel
theorem d_3_2_1 : decode prog_3_method_2_code 1 = .ok (.getfield 22, 3) := by decide +kernel
theorem d_3_2_4 : decode prog_3_method_2_code 4 = .ok (.istore_n 2, 1) := by decide +kernel
theorem d_3_2_5 : decode prog_3_method_2_code 5 = .ok (.aload_n 0, 1) := by decide +kernel
theorem d_3_2_6 : decode prog_3_method_2_code 6 = .ok (.getfield 15, 3) := by decide +kernel
theorem d_3_2_9 : decode prog_3_method_2_code 9 = .ok (.iload_n 2, 1) := by decide +kernel
theorem d_3_2_10 : decode prog_3_method_2_code 10 = .ok (.iload_n 1, 1) := by decide +kernel
theorem d_3_2_11 : decode prog_3_method_2_code 11 = .ok (.iastore, 1) := by decide +kernel
theorem d_3_2_12 : decode prog_3_method_2_code 12 = .ok (.aload_n 0, 1) := by decide +kernel
theorem d_3_2_13 : decode prog_3_method_2_code 13 = .ok (.dup, 1) := by decide +kernel
theorem d_3_2_14 : decode prog_3_method_2_code 14 = .ok (.getfield 22, 3) := by decide +kernel
theorem d_3_2_17 : decode prog_3_method_2_code 17 = .ok (.iconst 1, 1) := by decide +kernel
theorem d_3_2_18 : decode prog_3_method_2_code 18 = .ok (.iadd, 1) := by decide +kernel
theorem d_3_2_19 : decode prog_3_method_2_code 19 = .ok (.putfield 22, 3) := by decide +kernel
theorem d_3_2_22 : decode prog_3_method_2_code 22 = .ok (.iload_n 2, 1) := by decide +kernel
theorem d_3_2_23 : decode prog_3_method_2_code 23 = .ok (.ireturn, 1) := by decide +kernel
theorem d_3_3_0 : decode prog_3_method_3_code 0 = .ok (.iconst 0, 1) := by decide +kernel
theorem d_3_3_1 : decode prog_3_method_3_code 1 = .ok (.istore_n 1, 1) := by decide +kernel
theorem d_3_3_2 : decode prog_3_method_3_code 2 = .ok (.iload_n 1, 1) := by decide +kernel
theorem d_3_3_3 : decode prog_3_method_3_code 3 = .ok (.aload_n 0, 1) := by decide +kernel
theorem d_3_3_4 : decode prog_3_method_3_code 4 = .ok (.getfield 22, 3) := by decide +kernel
theorem d_3_3_7 : decode prog_3_method_3_code 7 = .ok (.if_icmp .ge 47, 3) := by decide +kernel
theorem d_3_3_54 : decode prog_3_method_3_code 54 = .ok (.return_, 1) := by decide +kernel
theorem d_3_7_0 : decode prog_3_method_7_code 0 = .ok (.aload_n 0, 1) := by decide +kernel
theorem d_3_7_1 : decode prog_3_method_7_code 1 = .ok (.invokevirtual 42, 3) := by decide +kernel
theorem d_3_7_4 : decode prog_3_method_7_code 4 = .ok (.lconst 0, 1) := by decide +kernel
theorem d_3_7_5 : decode prog_3_method_7_code 5 = .ok (.lstore_n 1, 1) := by decide +kernel
theorem d_3_7_6 : decode prog_3_method_7_code 6 = .ok (.iconst 0, 1) := by decide +kernel
theorem d_3_7_7 : decode prog_3_method_7_code 7 = .ok (.istore_n 3, 1) := by decide +kernel
theorem d_3_7_8 : decode prog_3_method_7_code 8 = .ok (.iload_n 3, 1) := by decide +kernel
theorem d_3_7_9 : decode prog_3_method_7_code 9 = .ok (.aload_n 0, 1) := by decide +kernel
theorem d_3_7_10 : decode prog_3_method_7_code 10 = .ok (.getfield 22, 3) := by decide +kernel
theorem d_3_7_13 : decode prog_3_method_7_code 13 = .ok (.if_icmp .ge 17, 3) := by decide +kernel
theorem d_3_7_30 : decode prog_3_method_7_code 30 = .ok (.lload_n 1, 1) := by decide +kernel
theorem d_3_7_31 : decode prog_3_method_7_code 31 = .ok (.lconst 0, 1) := by decide +kernel
theorem d_3_7_32 : decode prog_3_method_7_code 32 = .ok (.lcmp, 1) := by decide +kernel
theorem d_3_7_33 : decode prog_3_method_7_code 33 = .ok (.ifCond .eq 20, 3) := by decide +kernel
theorem d_3_7_53 : decode prog_3_method_7_code 53 = .ok (.iconst 0, 1) := by decide +kernel
theorem d_3_7_54 : decode prog_3_method_7_code 54 = .ok (.ireturn, 1) := by decide +kernel
theorem d_5_1_0 : decode prog_5_method_1_code 0 = .ok (.aload_n 0, 1) := by decide +kernel
theorem d_5_1_1 : decode prog_5_method_1_code 1 = .ok (.invokespecial 3, 3) := by decide +kernel
theorem d_5_1_4 : decode prog_5_method_1_code 4 = .ok (.aload_n 0, 1) := by decide +kernel
theorem d_5_1_5 : decode prog_5_method_1_code 5 = .ok (.bipush 21, 2) := by decide +kernel
theorem d_5_1_7 : decode prog_5_method_1_code 7 = .ok (.anewarray 9, 3) := by decide +kernel
theorem d_5_1_10 : decode prog_5_method_1_code 10 = .ok (.putfield 11, 3) := by decide +kernel
theorem d_5_1_13 : decode prog_5_method_1_code 13 = .ok (.aload_n 0, 1) := by decide +kernel
theorem d_5_1_14 : decode prog_5_method_1_code 14 = .ok (.sipush 240, 3) := by decide +kernel
theorem d_5_1_17 : decode prog_5_method_1_code 17 = .ok (.anewarray 17, 3) := by decide +kernel
theorem d_5_1_20 : decode prog_5_method_1_code 20 = .ok (.putfield 19, 3) := by decide +kernel
theorem d_5_1_23 : decode prog_5_method_1_code 23 = .ok (.aload_n 0, 1) := by decide +kernel
theorem d_5_1_24 : decode prog_5_method_1_code 24 = .ok (.bipush 9, 2) := by decide +kernel
theorem d_5_1_26 : decode prog_5_method_1_code 26 = .ok (.anewarray 17, 3) := by decide +kernel
theorem d_5_1_29 : decode prog_5_method_1_code 29 = .ok (.putfield 23, 3) := by decide +kernel
theorem d_5_1_32 : decode prog_5_method_1_code 32 = .ok (.aload_n 0, 1) := by decide +kernel
theorem d_5_1_33 : decode prog_5_method_1_code 33 = .ok (.new 17, 3) := by decide +kernel
theorem d_5_1_36 : decode prog_5_method_1_code 36 = .ok (.dup, 1) := by decide +kernel
theorem d_5_1_37 : decode prog_5_method_1_code 37 = .ok (.invokespecial 26, 3) := by decide +kernel
theorem d_5_1_40 : decode prog_5_method_1_code 40 = .ok (.putfield 27, 3) := by decide +kernel
theorem d_5_1_43 : decode prog_5_method_1_code 43 = .ok (.aload_n 0, 1) := by decide +kernel
theorem d_5_1_44 : decode prog_5_method_1_code 44 = .ok (.new 17, 3) := by decide +kernel
theorem d_5_1_47 : decode prog_5_method_1_code 47 = .ok (.dup, 1) := by decide +kernel
theorem d_5_1_48 : decode prog_5_method_1_code 48 = .ok (.invokespecial 26, 3) := by decide +kernel
theorem d_5_1_51 : decode prog_5_method_1_code 51 = .ok (.putfield 31, 3) := by decide +kernel
theorem d_5_1_54 : decode prog_5_method_1_code 54 = .ok (.aload_n 0, 1) := by decide +kernel
theorem d_5_1_55 : decode prog_5_method_1_code 55 = .ok (.new 17, 3) := by decide +kernel
theorem d_5_1_58 : decode prog_5_method_1_code 58 = .ok (.dup, 1) := by decide +kernel
theorem d_5_1_59 : decode prog_5_method_1_code 59 = .ok (.invokespecial 26, 3) := by decide +kernel
theorem d_5_1_62 : decode prog_5_method_1_code 62 = .ok (.putfield 34, 3) := by decide +kernel
theorem d_5_1_65 : decode prog_5_method_1_code 65 = .ok (.aload_n 0, 1) := by decide +kernel
theorem d_5_1_66 : decode prog_5_method_1_code 66 = .ok (.new 17, 3) := by decide +kernel
theorem d_5_1_69 : decode prog_5_method_1_code 69 = .ok (.dup, 1) := by decide +kernel
theorem d_5_1_70 : decode prog_5_method_1_code 70 = .ok (.invokespecial 26, 3) := by decide +kernel
theorem d_5_1_73 : decode prog_5_method_1_code 73 = .ok (.putfield 37, 3) := by decide +kernel
theorem d_5_1_76 : decode prog_5_method_1_code 76 = .ok (.aload_n 0, 1) := by decide +kernel
theorem d_5_1_77 : decode prog_5_method_1_code 77 = .ok (.new 17, 3) := by decide +kernel
theorem d_5_1_80 : decode prog_5_method_1_code 80 = .ok (.dup, 1) := by decide +kernel
theorem d_5_1_81 : decode prog_5_method_1_code 81 = .ok (.invokespecial 26, 3) := by decide +kernel
theorem d_5_1_84 : decode prog_5_method_1_code 84 = .ok (.putfield 40, 3) := by decide +kernel
theorem d_5_1_87 : decode prog_5_method_1_code 87 = .ok (.aload_n 0, 1) := by decide +kernel
theorem d_5_1_88 : decode prog_5_method_1_code 88 = .ok (.new 17, 3) := by decide +kernel
theorem d_5_1_91 : decode prog_5_method_1_code 91 = .ok (.dup, 1) := by decide +kernel
theorem d_5_1_92 : decode prog_5_method_1_code 92 = .ok (.invokespecial 26, 3) := by decide +kernel
theorem d_5_1_95 : decode prog_5_method_1_code 95 = .ok (.putfield 43, 3) := by decide +kernel
theorem d_5_1_98 : decode prog_5_method_1_code 98 = .ok (.aload_n 0, 1) := by decide +kernel
theorem d_5_1_99 : decode prog_5_method_1_code 99 = .ok (.new 17, 3) := by decide +kernel
theorem d_5_1_102 : decode prog_5_method_1_code 102 = .ok (.dup, 1) := by decide +kernel
theorem d_5_1_103 : decode prog_5_method_1_code 103 = .ok (.invokespecial 26, 3) := by decide +kernel
theorem d_5_1_106 : decode prog_5_method_1_code 106 = .ok (.putfield 46, 3) := by decide +kernel
theorem d_5_1_109 : decode prog_5_method_1_code 109 = .ok (.aload_n 0, 1) := by decide +kernel
theorem d_5_1_110 : decode prog_5_method_1_code 110 = .ok (.new 17, 3) := by decide +kernel
theorem d_5_1_113 : decode prog_5_method_1_code 113 = .ok (.dup, 1) := by decide +kernel
theorem d_5_1_114 : decode prog_5_method_1_code 114 = .ok (.invokespecial 26, 3) := by decide +kernel
theorem d_5_1_117 : decode prog_5_method_1_code 117 = .ok (.putfield 49, 3) := by decide +kernel
theorem d_5_1_120 : decode prog_5_method_1_code 120 = .ok (.aload_n 0, 1) := by decide +kernel
theorem d_5_1_121 : decode prog_5_method_1_code 121 = .ok (.new 17, 3) := by decide +kernel
theorem d_5_1_124 : decode prog_5_method_1_code 124 = .ok (.dup, 1) := by decide +kernel
theorem d_5_1_125 : decode prog_5_method_1_code 125 = .ok (.invokespecial 26, 3) := by decide +kernel
theorem d_5_1_128 : decode prog_5_method_1_code 128 = .ok (.putfield 52, 3) := by decide +kernel
theorem d_5_1_131 : decode prog_5_method_1_code 131 = .ok (.aload_n 0, 1) := by decide +kernel
theorem d_5_1_132 : decode prog_5_method_1_code 132 = .ok (.aload_n 1, 1) := by decide +kernel
theorem d_5_1_133 : decode prog_5_method_1_code 133 = .ok (.putfield 55, 3) := by decide +kernel
theorem d_5_1_136 : decode prog_5_method_1_code 136 = .ok (.iconst 0, 1) := by decide +kernel
theorem d_5_1_137 : decode prog_5_method_1_code 137 = .ok (.istore_n 2, 1) := by decide +kernel
theorem d_5_1_138 : decode prog_5_method_1_code 138 = .ok (.iload_n 2, 1) := by decide +kernel
theorem d_5_1_139 : decode prog_5_method_1_code 139 = .ok (.bipush 9, 2) := by decide +kernel
theorem d_5_1_141 : decode prog_5_method_1_code 141 = .ok (.if_icmp .ge 22, 3) := by decide +kernel
theorem d_5_1_144 : decode prog_5_method_1_code 144 = .ok (.aload_n 0, 1) := by decide +kernel
theorem d_5_1_145 : decode prog_5_method_1_code 145 = .ok (.getfield 23, 3) := by decide +kernel
theorem d_5_1_148 : decode prog_5_method_1_code 148 = .ok (.iload_n 2, 1) := by decide +kernel
theorem d_5_1_149 : decode prog_5_method_1_code 149 = .ok (.new 17, 3) := by decide +kernel
theorem d_5_1_152 : decode prog_5_method_1_code 152 = .ok (.dup, 1) := by decide +kernel
theorem d_5_1_153 : decode prog_5_method_1_code 153 = .ok (.invokespecial 26, 3) := by decide +kernel
theorem d_5_1_156 : decode prog_5_method_1_code 156 = .ok (.aastore, 1) := by decide +kernel
theorem d_5_1_157 : decode prog_5_method_1_code 157 = .ok (.iinc 2 1, 3) := by decide +kernel
theorem d_5_1_160 : decode prog_5_method_1_code 160 = .ok (.goto (-22), 3) := by decide +kernel
theorem d_5_1_163 : decode prog_5_method_1_code 163 = .ok (.return_, 1) := by decide +kernel
theorem d_5_2_0 : decode prog_5_method_2_code 0 = .ok (.aload_n 0, 1) := by decide +kernel
theorem d_5_2_1 : decode prog_5_method_2_code 1 = .ok (.getfield 11, 3) := by decide +kernel
theorem d_5_2_4 : decode prog_5_method_2_code 4 = .ok (.aload_n 0, 1) := by decide +kernel
theorem d_5_2_5 : decode prog_5_method_2_code 5 = .ok (.getfield 59, 3) := by decide +kernel
theorem d_5_2_8 : decode prog_5_method_2_code 8 = .ok (.aaload, 1) := by decide +kernel
theorem d_5_2_9 : decode prog_5_method_2_code 9 = .ok (.areturn, 1) := by decide +kernel
theorem d_6_1_0 : decode prog_6_method_1_code 0 = .ok (.aload_n 0, 1) := by decide +kernel
theorem d_6_1_1 : decode prog_6_method_1_code 1 = .ok (.invokespecial 3, 3) := by decide +kernel
theorem d_6_1_4 : decode prog_6_method_1_code 4 = .ok (.aload_n 0, 1) := by decide +kernel
theorem d_6_1_5 : decode prog_6_method_1_code 5 = .ok (.bipush 8, 2) := by decide +kernel
theorem d_6_1_7 : decode prog_6_method_1_code 7 = .ok (.newarray .int, 2) := by decide +kernel
theorem d_6_1_9 : decode prog_6_method_1_code 9 = .ok (.putfield 9, 3) := by decide +kernel
theorem d_6_1_12 : decode prog_6_method_1_code 12 = .ok (.aload_n 0, 1) := by decide +kernel
theorem d_6_1_13 : decode prog_6_method_1_code 13 = .ok (.bipush 8, 2) := by decide +kernel
theorem d_6_1_15 : decode prog_6_method_1_code 15 = .ok (.newarray .long, 2) := by decide +kernel
theorem d_6_1_17 : decode prog_6_method_1_code 17 = .ok (.putfield 15, 3) := by decide +kernel
theorem d_6_1_20 : decode prog_6_method_1_code 20 = .ok (.aload_n 0, 1) := by decide +kernel
theorem d_6_1_21 : decode prog_6_method_1_code 21 = .ok (.bipush 8, 2) := by decide +kernel
theorem d_6_1_23 : decode prog_6_method_1_code 23 = .ok (.newarray .int, 2) := by decide +kernel
theorem d_6_1_25 : decode prog_6_method_1_code 25 = .ok (.putfield 19, 3) := by decide +kernel
theorem d_6_1_28 : decode prog_6_method_1_code 28 = .ok (.aload_n 0, 1) := by decide +kernel
theorem d_6_1_29 : decode prog_6_method_1_code 29 = .ok (.bipush 8, 2) := by decide +kernel
theorem d_6_1_31 : decode prog_6_method_1_code 31 = .ok (.newarray .int, 2) := by decide +kernel
theorem d_6_1_33 : decode prog_6_method_1_code 33 = .ok (.putfield 22, 3) := by decide +kernel
theorem d_6_1_36 : decode prog_6_method_1_code 36 = .ok (.aload_n 0, 1) := by decide +kernel
theorem d_6_1_37 : decode prog_6_method_1_code 37 = .ok (.bipush 8, 2) := by decide +kernel
theorem d_6_1_39 : decode prog_6_method_1_code 39 = .ok (.newarray .long, 2) := by decide +kernel
theorem d_6_1_41 : decode prog_6_method_1_code 41 = .ok (.putfield 25, 3) := by decide +kernel
theorem d_6_1_44 : decode prog_6_method_1_code 44 = .ok (.aload_n 0, 1) := by decide +kernel
theorem d_6_1_45 : decode prog_6_method_1_code 45 = .ok (.bipush 61, 2) := by decide +kernel
theorem d_6_1_47 : decode prog_6_method_1_code 47 = .ok (.newarray .int, 2) := by decide +kernel
theorem d_6_1_49 : decode prog_6_method_1_code 49 = .ok (.putfield 28, 3) := by decide +kernel
theorem d_6_1_52 : decode prog_6_method_1_code 52 = .ok (.return_, 1) := by decide +kernel
theorem d_6_2_0 : decode prog_6_method_2_code 0 = .ok (.aload_n 0, 1) := by decide +kernel
theorem d_6_2_1 : decode prog_6_method_2_code 1 = .ok (.iconst 0, 1) := by decide +kernel
theorem d_6_2_2 : decode prog_6_method_2_code 2 = .ok (.putfield 31, 3) := by decide +kernel
theorem d_6_2_5 : decode prog_6_method_2_code 5 = .ok (.aload_n 0, 1) := by decide +kernel
theorem d_6_2_6 : decode prog_6_method_2_code 6 = .ok (.iconst 0, 1) := by decide +kernel
theorem d_6_2_7 : decode prog_6_method_2_code 7 = .ok (.putfield 35, 3) := by decide +kernel
theorem d_6_2_10 : decode prog_6_method_2_code 10 = .ok (.return_, 1) := by decide +kernel
theorem d_6_5_0 : decode prog_6_method_5_code 0 = .ok (.aload_n 0, 1) := by decide +kernel
theorem d_6_5_1 : decode prog_6_method_5_code 1 = .ok (.getfield 31, 3) := by decide +kernel
theorem d_6_5_4 : decode prog_6_method_5_code 4 = .ok (.ifCond .ne 4, 3) := by decide +kernel
theorem d_6_5_7 : decode prog_6_method_5_code 7 = .ok (.return_, 1) := by decide +kernel
theorem d_7_1_0 : decode prog_7_method_1_code 0 = .ok (.aload_n 0, 1) := by decide +kernel
theorem d_7_1_1 : decode prog_7_method_1_code 1 = .ok (.invokespecial 3, 3) := by decide +kernel
theorem d_7_1_4 : decode prog_7_method_1_code 4 = .ok (.aload_n 0, 1) := by decide +kernel
theorem d_7_1_5 : decode prog_7_method_1_code 5 = .ok (.iconst 5, 1) := by decide +kernel
theorem d_7_1_6 : decode prog_7_method_1_code 6 = .ok (.newarray .int, 2) := by decide +kernel
theorem d_7_1_8 : decode prog_7_method_1_code 8 = .ok (.putfield 9, 3) := by decide +kernel
theorem d_7_1_11 : decode prog_7_method_1_code 11 = .ok (.aload_n 0, 1) := by decide +kernel
theorem d_7_1_12 : decode prog_7_method_1_code 12 = .ok (.aload_n 1, 1) := by decide +kernel
theorem d_7_1_13 : decode prog_7_method_1_code 13 = .ok (.putfield 15, 3) := by decide +kernel
theorem d_7_1_16 : decode prog_7_method_1_code 16 = .ok (.aload_n 0, 1) := by decide +kernel
theorem d_7_1_17 : decode prog_7_method_1_code 17 = .ok (.aload_n 2, 1) := by decide +kernel
theorem d_7_1_18 : decode prog_7_method_1_code 18 = .ok (.putfield 19, 3) := by decide +kernel
theorem d_7_1_21 : decode prog_7_method_1_code 21 = .ok (.return_, 1) := by decide +kernel
theorem d_7_2_0 : decode prog_7_method_2_code 0 = .ok (.aload_n 0, 1) := by decide +kernel
theorem d_7_2_1 : decode prog_7_method_2_code 1 = .ok (.getfield 19, 3) := by decide +kernel
theorem d_7_2_4 : decode prog_7_method_2_code 4 = .ok (.aload_n 0, 1) := by decide +kernel
theorem d_7_2_5 : decode prog_7_method_2_code 5 = .ok (.getfield 15, 3) := by decide +kernel
theorem d_7_2_8 : decode prog_7_method_2_code 8 = .ok (.invokevirtual 23, 3) := by decide +kernel
theorem d_7_2_11 : decode prog_7_method_2_code 11 = .ok (.invokevirtual 29, 3) := by decide +kernel
theorem d_7_2_14 : decode prog_7_method_2_code 14 = .ok (.aload_n 0, 1) := by decide +kernel
theorem d_7_2_15 : decode prog_7_method_2_code 15 = .ok (.getfield 19, 3) := by decide +kernel
theorem d_7_2_18 : decode prog_7_method_2_code 18 = .ok (.iload_n 1, 1) := by decide +kernel
theorem d_7_2_19 : decode prog_7_method_2_code 19 = .ok (.invokevirtual 35, 3) := by decide +kernel
theorem d_7_2_22 : decode prog_7_method_2_code 22 = .ok (.istore_n 2, 1) := by decide +kernel
theorem d_7_2_23 : decode prog_7_method_2_code 23 = .ok (.iload_n 2, 1) := by decide +kernel
theorem d_7_2_24 : decode prog_7_method_2_code 24 = .ok (.iconst (-1), 1) := by decide +kernel
theorem d_7_2_25 : decode prog_7_method_2_code 25 = .ok (.if_icmp .ne 5, 3) := by decide +kernel
theorem d_7_2_28 : decode prog_7_method_2_code 28 = .ok (.iconst (-1), 1) := by decide +kernel
theorem d_7_2_29 : decode prog_7_method_2_code 29 = .ok (.ireturn, 1) := by decide +kernel
theorem d_8_1_0 : decode prog_8_method_1_code 0 = .ok (.aload_n 0, 1) := by decide +kernel
theorem d_8_1_1 : decode prog_8_method_1_code 1 = .ok (.invokespecial 3, 3) := by decide +kernel
theorem d_8_1_4 : decode prog_8_method_1_code 4 = .ok (.aload_n 0, 1) := by decide +kernel
theorem d_8_1_5 : decode prog_8_method_1_code 5 = .ok (.bipush 60, 2) := by decide +kernel
theorem d_8_1_7 : decode prog_8_method_1_code 7 = .ok (.newarray .int, 2) := by decide +kernel
theorem d_8_1_9 : decode prog_8_method_1_code 9 = .ok (.putfield 9, 3) := by decide +kernel
theorem d_8_1_12 : decode prog_8_method_1_code 12 = .ok (.aload_n 0, 1) := by decide +kernel
theorem d_8_1_13 : decode prog_8_method_1_code 13 = .ok (.bipush 8, 2) := by decide +kernel
theorem d_8_1_15 : decode prog_8_method_1_code 15 = .ok (.newarray .int, 2) := by decide +kernel
theorem d_8_1_17 : decode prog_8_method_1_code 17 = .ok (.putfield 15, 3) := by decide +kernel
theorem d_8_1_20 : decode prog_8_method_1_code 20 = .ok (.aload_n 0, 1) := by decide +kernel
theorem d_8_1_21 : decode prog_8_method_1_code 21 = .ok (.bipush 8, 2) := by decide +kernel
theorem d_8_1_23 : decode prog_8_method_1_code 23 = .ok (.newarray .int, 2) := by decide +kernel
theorem d_8_1_25 : decode prog_8_method_1_code 25 = .ok (.putfield 18, 3) := by decide +kernel
theorem d_8_1_28 : decode prog_8_method_1_code 28 = .ok (.aload_n 0, 1) := by decide +kernel
theorem d_8_1_29 : decode prog_8_method_1_code 29 = .ok (.bipush 8, 2) := by decide +kernel
theorem d_8_1_31 : decode prog_8_method_1_code 31 = .ok (.newarray .int, 2) := by decide +kernel
theorem d_8_1_33 : decode prog_8_method_1_code 33 = .ok (.putfield 21, 3) := by decide +kernel
theorem d_8_1_36 : decode prog_8_method_1_code 36 = .ok (.return_, 1) := by decide +kernel
theorem d_9_10_0 : decode prog_9_method_10_code 0 = .ok (.aload_n 0, 1) := by decide +kernel
theorem d_9_10_1 : decode prog_9_method_10_code 1 = .ok (.iconst 5, 1) := by decide +kernel
theorem d_9_10_2 : decode prog_9_method_10_code 2 = .ok (.iconst 1, 1) := by decide +kernel
theorem d_9_10_3 : decode prog_9_method_10_code 3 = .ok (.iconst 0, 1) := by decide +kernel
theorem d_9_10_4 : decode prog_9_method_10_code 4 = .ok (.invokevirtual 126, 3) := by decide +kernel
theorem d_9_10_7 : decode prog_9_method_10_code 7 = .ok (.pop, 1) := by decide +kernel
theorem d_9_10_8 : decode prog_9_method_10_code 8 = .ok (.iconst 1, 1) := by decide +kernel
theorem d_9_10_9 : decode prog_9_method_10_code 9 = .ok (.istore_n 2, 1) := by decide +kernel
theorem d_9_10_10 : decode prog_9_method_10_code 10 = .ok (.iload_n 2, 1) := by decide +kernel
theorem d_9_10_11 : decode prog_9_method_10_code 11 = .ok (.iload_n 1, 1) := by decide +kernel
theorem d_9_10_12 : decode prog_9_method_10_code 12 = .ok (.if_icmp .gt 67, 3) := by decide +kernel
theorem d_9_10_15 : decode prog_9_method_10_code 15 = .ok (.aload_n 0, 1) := by decide +kernel
theorem d_9_10_16 : decode prog_9_method_10_code 16 = .ok (.getfield 31, 3) := by decide +kernel
theorem d_9_10_19 : decode prog_9_method_10_code 19 = .ok (.iconst 0, 1) := by decide +kernel
theorem d_9_10_20 : decode prog_9_method_10_code 20 = .ok (.aload_n 0, 1) := by decide +kernel
theorem d_9_10_21 : decode prog_9_method_10_code 21 = .ok (.getfield 34, 3) := by decide +kernel
theorem d_9_10_24 : decode prog_9_method_10_code 24 = .ok (.iconst 0, 1) := by decide +kernel
theorem d_9_10_25 : decode prog_9_method_10_code 25 = .ok (.bipush 8, 2) := by decide +kernel
theorem d_9_10_27 : decode prog_9_method_10_code 27 = .ok (.invokestatic 117, 3) := by decide +kernel
theorem d_9_10_30 : decode prog_9_method_10_code 30 = .ok (.aload_n 0, 1) := by decide +kernel
theorem d_9_10_31 : decode prog_9_method_10_code 31 = .ok (.iconst 5, 1) := by decide +kernel
theorem d_9_10_32 : decode prog_9_method_10_code 32 = .ok (.iload_n 2, 1) := by decide +kernel
theorem d_9_10_33 : decode prog_9_method_10_code 33 = .ok (.iconst 1, 1) := by decide +kernel
theorem d_9_10_34 : decode prog_9_method_10_code 34 = .ok (.iadd, 1) := by decide +kernel
theorem d_9_10_35 : decode prog_9_method_10_code 35 = .ok (.iconst 0, 1) := by decide +kernel
theorem d_9_10_36 : decode prog_9_method_10_code 36 = .ok (.invokevirtual 126, 3) := by decide +kernel
theorem d_9_10_39 : decode prog_9_method_10_code 39 = .ok (.pop, 1) := by decide +kernel
theorem d_9_10_40 : decode prog_9_method_10_code 40 = .ok (.iconst 0, 1) := by decide +kernel
theorem d_9_10_41 : decode prog_9_method_10_code 41 = .ok (.istore_n 3, 1) := by decide +kernel
theorem d_9_10_42 : decode prog_9_method_10_code 42 = .ok (.iload_n 3, 1) := by decide +kernel
theorem d_9_10_43 : decode prog_9_method_10_code 43 = .ok (.aload_n 0, 1) := by decide +kernel
theorem d_9_10_44 : decode prog_9_method_10_code 44 = .ok (.getfield 44, 3) := by decide +kernel
theorem d_9_10_47 : decode prog_9_method_10_code 47 = .ok (.if_icmp .ge 26, 3) := by decide +kernel
theorem d_9_10_73 : decode prog_9_method_10_code 73 = .ok (.iinc 2 1, 3) := by decide +kernel
theorem d_9_10_76 : decode prog_9_method_10_code 76 = .ok (.goto (-66), 3) := by decide +kernel
theorem d_9_10_79 : decode prog_9_method_10_code 79 = .ok (.iconst (-1), 1) := by decide +kernel
theorem d_9_10_80 : decode prog_9_method_10_code 80 = .ok (.ireturn, 1) := by decide +kernel
theorem d_9_12_0 : decode prog_9_method_12_code 0 = .ok (.aload_n 0, 1) := by decide +kernel
theorem d_9_12_1 : decode prog_9_method_12_code 1 = .ok (.invokevirtual 130, 3) := by decide +kernel
theorem d_9_12_4 : decode prog_9_method_12_code 4 = .ok (.getfield 123, 3) := by decide +kernel
theorem d_9_12_7 : decode prog_9_method_12_code 7 = .ok (.astore_n 1, 1) := by decide +kernel
theorem d_9_12_8 : decode prog_9_method_12_code 8 = .ok (.iconst 0, 1) := by decide +kernel
theorem d_9_12_9 : decode prog_9_method_12_code 9 = .ok (.istore_n 2, 1) := by decide +kernel
theorem d_9_12_10 : decode prog_9_method_12_code 10 = .ok (.iload_n 2, 1) := by decide +kernel
theorem d_9_12_11 : decode prog_9_method_12_code 11 = .ok (.aload_n 0, 1) := by decide +kernel
theorem d_9_12_12 : decode prog_9_method_12_code 12 = .ok (.getfield 44, 3) := by decide +kernel
theorem d_9_12_15 : decode prog_9_method_12_code 15 = .ok (.if_icmp .ge 67, 3) := by decide +kernel
theorem d_9_12_82 : decode prog_9_method_12_code 82 = .ok (.iconst 0, 1) := by decide +kernel
theorem d_9_12_83 : decode prog_9_method_12_code 83 = .ok (.ireturn, 1) := by decide +kernel
theorem d_9_1_0 : decode prog_9_method_1_code 0 = .ok (.aload_n 0, 1) := by decide +kernel
theorem d_9_1_1 : decode prog_9_method_1_code 1 = .ok (.invokespecial 3, 3) := by decide +kernel
theorem d_9_1_4 : decode prog_9_method_1_code 4 = .ok (.aload_n 0, 1) := by decide +kernel
theorem d_9_1_5 : decode prog_9_method_1_code 5 = .ok (.bipush 8, 2) := by decide +kernel
theorem d_9_1_7 : decode prog_9_method_1_code 7 = .ok (.newarray .int, 2) := by decide +kernel
theorem d_9_1_9 : decode prog_9_method_1_code 9 = .ok (.putfield 9, 3) := by decide +kernel
theorem d_9_1_12 : decode prog_9_method_1_code 12 = .ok (.aload_n 0, 1) := by decide +kernel
theorem d_9_1_13 : decode prog_9_method_1_code 13 = .ok (.bipush 8, 2) := by decide +kernel
theorem d_9_1_15 : decode prog_9_method_1_code 15 = .ok (.newarray .int, 2) := by decide +kernel
theorem d_9_1_17 : decode prog_9_method_1_code 17 = .ok (.putfield 15, 3) := by decide +kernel
theorem d_9_1_20 : decode prog_9_method_1_code 20 = .ok (.aload_n 0, 1) := by decide +kernel
theorem d_9_1_21 : decode prog_9_method_1_code 21 = .ok (.bipush 8, 2) := by decide +kernel
theorem d_9_1_23 : decode prog_9_method_1_code 23 = .ok (.newarray .int, 2) := by decide +kernel
theorem d_9_1_25 : decode prog_9_method_1_code 25 = .ok (.putfield 18, 3) := by decide +kernel
theorem d_9_1_28 : decode prog_9_method_1_code 28 = .ok (.aload_n 0, 1) := by decide +kernel
theorem d_9_1_29 : decode prog_9_method_1_code 29 = .ok (.new 21, 3) := by decide +kernel
theorem d_9_1_32 : decode prog_9_method_1_code 32 = .ok (.dup, 1) := by decide +kernel
theorem d_9_1_33 : decode prog_9_method_1_code 33 = .ok (.invokespecial 23, 3) := by decide +kernel
theorem d_9_1_36 : decode prog_9_method_1_code 36 = .ok (.putfield 24, 3) := by decide +kernel
theorem d_9_1_39 : decode prog_9_method_1_code 39 = .ok (.aload_n 0, 1) := by decide +kernel
theorem d_9_1_40 : decode prog_9_method_1_code 40 = .ok (.new 21, 3) := by decide +kernel
theorem d_9_1_43 : decode prog_9_method_1_code 43 = .ok (.dup, 1) := by decide +kernel
theorem d_9_1_44 : decode prog_9_method_1_code 44 = .ok (.invokespecial 23, 3) := by decide +kernel
theorem d_9_1_47 : decode prog_9_method_1_code 47 = .ok (.putfield 28, 3) := by decide +kernel
theorem d_9_1_50 : decode prog_9_method_1_code 50 = .ok (.aload_n 0, 1) := by decide +kernel
theorem d_9_1_51 : decode prog_9_method_1_code 51 = .ok (.bipush 8, 2) := by decide +kernel
theorem d_9_1_53 : decode prog_9_method_1_code 53 = .ok (.newarray .int, 2) := by decide +kernel
theorem d_9_1_55 : decode prog_9_method_1_code 55 = .ok (.putfield 31, 3) := by decide +kernel
theorem d_9_1_58 : decode prog_9_method_1_code 58 = .ok (.aload_n 0, 1) := by decide +kernel
theorem d_9_1_59 : decode prog_9_method_1_code 59 = .ok (.bipush 8, 2) := by decide +kernel
theorem d_9_1_61 : decode prog_9_method_1_code 61 = .ok (.newarray .int, 2) := by decide +kernel
theorem d_9_1_63 : decode prog_9_method_1_code 63 = .ok (.putfield 34, 3) := by decide +kernel
theorem d_9_1_66 : decode prog_9_method_1_code 66 = .ok (.aload_n 0, 1) := by decide +kernel
theorem d_9_1_67 : decode prog_9_method_1_code 67 = .ok (.bipush 21, 2) := by decide +kernel
theorem d_9_1_69 : decode prog_9_method_1_code 69 = .ok (.anewarray 37, 3) := by decide +kernel
theorem d_9_1_72 : decode prog_9_method_1_code 72 = .ok (.putfield 39, 3) := by decide +kernel
theorem d_9_1_75 : decode prog_9_method_1_code 75 = .ok (.iconst 0, 1) := by decide +kernel
theorem d_9_1_76 : decode prog_9_method_1_code 76 = .ok (.istore_n 1, 1) := by decide +kernel
theorem d_9_1_77 : decode prog_9_method_1_code 77 = .ok (.iload_n 1, 1) := by decide +kernel
theorem d_9_1_78 : decode prog_9_method_1_code 78 = .ok (.bipush 21, 2) := by decide +kernel
theorem d_9_1_80 : decode prog_9_method_1_code 80 = .ok (.if_icmp .ge 22, 3) := by decide +kernel
theorem d_9_1_83 : decode prog_9_method_1_code 83 = .ok (.aload_n 0, 1) := by decide +kernel
theorem d_9_1_84 : decode prog_9_method_1_code 84 = .ok (.getfield 39, 3) := by decide +kernel
theorem d_9_1_87 : decode prog_9_method_1_code 87 = .ok (.iload_n 1, 1) := by decide +kernel
theorem d_9_1_88 : decode prog_9_method_1_code 88 = .ok (.new 37, 3) := by decide +kernel
theorem d_9_1_91 : decode prog_9_method_1_code 91 = .ok (.dup, 1) := by decide +kernel
theorem d_9_1_92 : decode prog_9_method_1_code 92 = .ok (.invokespecial 43, 3) := by decide +kernel
theorem d_9_1_95 : decode prog_9_method_1_code 95 = .ok (.aastore, 1) := by decide +kernel
theorem d_9_1_96 : decode prog_9_method_1_code 96 = .ok (.iinc 1 1, 3) := by decide +kernel
theorem d_9_1_99 : decode prog_9_method_1_code 99 = .ok (.goto (-22), 3) := by decide +kernel
theorem d_9_1_102 : decode prog_9_method_1_code 102 = .ok (.return_, 1) := by decide +kernel
theorem d_9_2_0 : decode prog_9_method_2_code 0 = .ok (.aload_n 0, 1) := by decide +kernel
theorem d_9_2_1 : decode prog_9_method_2_code 1 = .ok (.getfield 44, 3) := by decide +kernel
theorem d_9_2_4 : decode prog_9_method_2_code 4 = .ok (.istore_n 2, 1) := by decide +kernel
theorem d_9_2_5 : decode prog_9_method_2_code 5 = .ok (.aload_n 0, 1) := by decide +kernel
theorem d_9_2_6 : decode prog_9_method_2_code 6 = .ok (.getfield 9, 3) := by decide +kernel
theorem d_9_2_9 : decode prog_9_method_2_code 9 = .ok (.iload_n 2, 1) := by decide +kernel
theorem d_9_2_10 : decode prog_9_method_2_code 10 = .ok (.iload_n 1, 1) := by decide +kernel
theorem d_9_2_11 : decode prog_9_method_2_code 11 = .ok (.iastore, 1) := by decide +kernel
theorem d_9_2_12 : decode prog_9_method_2_code 12 = .ok (.aload_n 0, 1) := by decide +kernel
theorem d_9_2_13 : decode prog_9_method_2_code 13 = .ok (.getfield 15, 3) := by decide +kernel
theorem d_9_2_16 : decode prog_9_method_2_code 16 = .ok (.iload_n 2, 1) := by decide +kernel
theorem d_9_2_17 : decode prog_9_method_2_code 17 = .ok (.iconst 0, 1) := by decide +kernel
theorem d_9_2_18 : decode prog_9_method_2_code 18 = .ok (.iastore, 1) := by decide +kernel
theorem d_9_2_19 : decode prog_9_method_2_code 19 = .ok (.aload_n 0, 1) := by decide +kernel
theorem d_9_2_20 : decode prog_9_method_2_code 20 = .ok (.getfield 18, 3) := by decide +kernel
theorem d_9_2_23 : decode prog_9_method_2_code 23 = .ok (.iload_n 2, 1) := by decide +kernel
theorem d_9_2_24 : decode prog_9_method_2_code 24 = .ok (.iload_n 2, 1) := by decide +kernel
theorem d_9_2_25 : decode prog_9_method_2_code 25 = .ok (.iastore, 1) := by decide +kernel
theorem d_9_2_26 : decode prog_9_method_2_code 26 = .ok (.aload_n 0, 1) := by decide +kernel
theorem d_9_2_27 : decode prog_9_method_2_code 27 = .ok (.dup, 1) := by decide +kernel
theorem d_9_2_28 : decode prog_9_method_2_code 28 = .ok (.getfield 44, 3) := by decide +kernel
theorem d_9_2_31 : decode prog_9_method_2_code 31 = .ok (.iconst 1, 1) := by decide +kernel
theorem d_9_2_32 : decode prog_9_method_2_code 32 = .ok (.iadd, 1) := by decide +kernel
theorem d_9_2_33 : decode prog_9_method_2_code 33 = .ok (.putfield 44, 3) := by decide +kernel
theorem d_9_2_36 : decode prog_9_method_2_code 36 = .ok (.iload_n 2, 1) := by decide +kernel
theorem d_9_2_37 : decode prog_9_method_2_code 37 = .ok (.ireturn, 1) := by decide +kernel
theorem d_9_3_0 : decode prog_9_method_3_code 0 = .ok (.aload_n 0, 1) := by decide +kernel
theorem d_9_3_1 : decode prog_9_method_3_code 1 = .ok (.getfield 39, 3) := by decide +kernel
theorem d_9_3_4 : decode prog_9_method_3_code 4 = .ok (.aload_n 0, 1) := by decide +kernel
theorem d_9_3_5 : decode prog_9_method_3_code 5 = .ok (.getfield 48, 3) := by decide +kernel
theorem d_9_3_8 : decode prog_9_method_3_code 8 = .ok (.aaload, 1) := by decide +kernel
theorem d_9_3_9 : decode prog_9_method_3_code 9 = .ok (.areturn, 1) := by decide +kernel
theorem d_9_5_0 : decode prog_9_method_5_code 0 = .ok (.lconst 0, 1) := by decide +kernel
theorem d_9_5_1 : decode prog_9_method_5_code 1 = .ok (.lstore 4, 2) := by decide +kernel
theorem d_9_5_3 : decode prog_9_method_5_code 3 = .ok (.iconst 0, 1) := by decide +kernel
theorem d_9_5_4 : decode prog_9_method_5_code 4 = .ok (.istore 6, 2) := by decide +kernel
theorem d_9_5_6 : decode prog_9_method_5_code 6 = .ok (.iload 6, 2) := by decide +kernel
theorem d_9_5_8 : decode prog_9_method_5_code 8 = .ok (.aload_n 0, 1) := by decide +kernel
theorem d_9_5_9 : decode prog_9_method_5_code 9 = .ok (.getfield 44, 3) := by decide +kernel
theorem d_9_5_12 : decode prog_9_method_5_code 12 = .ok (.if_icmp .ge 22, 3) := by decide +kernel
theorem d_9_5_34 : decode prog_9_method_5_code 34 = .ok (.aload_n 0, 1) := by decide +kernel
theorem d_9_5_35 : decode prog_9_method_5_code 35 = .ok (.getfield 24, 3) := by decide +kernel
theorem d_9_5_38 : decode prog_9_method_5_code 38 = .ok (.invokevirtual 51, 3) := by decide +kernel
theorem d_9_5_41 : decode prog_9_method_5_code 41 = .ok (.aload_n 0, 1) := by decide +kernel
theorem d_9_5_42 : decode prog_9_method_5_code 42 = .ok (.iconst 0, 1) := by decide +kernel
theorem d_9_5_43 : decode prog_9_method_5_code 43 = .ok (.putfield 54, 3) := by decide +kernel
theorem d_9_5_46 : decode prog_9_method_5_code 46 = .ok (.iconst 0, 1) := by decide +kernel
theorem d_9_5_47 : decode prog_9_method_5_code 47 = .ok (.istore 6, 2) := by decide +kernel
theorem d_9_5_49 : decode prog_9_method_5_code 49 = .ok (.iload 6, 2) := by decide +kernel
theorem d_9_5_51 : decode prog_9_method_5_code 51 = .ok (.aload_n 0, 1) := by decide +kernel
theorem d_9_5_52 : decode prog_9_method_5_code 52 = .ok (.getfield 44, 3) := by decide +kernel
theorem d_9_5_55 : decode prog_9_method_5_code 55 = .ok (.if_icmp .ge 29, 3) := by decide +kernel
theorem d_9_5_84 : decode prog_9_method_5_code 84 = .ok (.aload_n 0, 1) := by decide +kernel
theorem d_9_5_85 : decode prog_9_method_5_code 85 = .ok (.getfield 24, 3) := by decide +kernel
theorem d_9_5_88 : decode prog_9_method_5_code 88 = .ok (.iload_n 1, 1) := by decide +kernel
theorem d_9_5_89 : decode prog_9_method_5_code 89 = .ok (.iload_n 2, 1) := by decide +kernel
theorem d_9_5_90 : decode prog_9_method_5_code 90 = .ok (.invokevirtual 66, 3) := by decide +kernel
theorem d_9_5_93 : decode prog_9_method_5_code 93 = .ok (.aload_n 0, 1) := by decide +kernel
theorem d_9_5_94 : decode prog_9_method_5_code 94 = .ok (.getfield 31, 3) := by decide +kernel
theorem d_9_5_97 : decode prog_9_method_5_code 97 = .ok (.iconst 0, 1) := by decide +kernel
theorem d_9_5_98 : decode prog_9_method_5_code 98 = .ok (.invokestatic 70, 3) := by decide +kernel
theorem d_9_5_101 : decode prog_9_method_5_code 101 = .ok (.iconst 0, 1) := by decide +kernel
theorem d_9_5_102 : decode prog_9_method_5_code 102 = .ok (.istore 6, 2) := by decide +kernel
theorem d_9_5_104 : decode prog_9_method_5_code 104 = .ok (.iload 6, 2) := by decide +kernel
theorem d_9_5_106 : decode prog_9_method_5_code 106 = .ok (.aload_n 0, 1) := by decide +kernel
theorem d_9_5_107 : decode prog_9_method_5_code 107 = .ok (.getfield 24, 3) := by decide +kernel
theorem d_9_5_110 : decode prog_9_method_5_code 110 = .ok (.getfield 76, 3) := by decide +kernel
theorem d_9_5_113 : decode prog_9_method_5_code 113 = .ok (.if_icmp .ge 34, 3) := by decide +kernel
theorem d_9_5_147 : decode prog_9_method_5_code 147 = .ok (.aload_n 0, 1) := by decide +kernel
theorem d_9_5_148 : decode prog_9_method_5_code 148 = .ok (.getfield 24, 3) := by decide +kernel
theorem d_9_5_151 : decode prog_9_method_5_code 151 = .ok (.getfield 76, 3) := by decide +kernel
theorem d_9_5_154 : decode prog_9_method_5_code 154 = .ok (.ireturn, 1) := by decide +kernel
theorem d_9_9_0 : decode prog_9_method_9_code 0 = .ok (.aload_n 0, 1) := by decide +kernel
theorem d_9_9_1 : decode prog_9_method_9_code 1 = .ok (.aload_n 0, 1) := by decide +kernel
theorem d_9_9_2 : decode prog_9_method_9_code 2 = .ok (.getfield 48, 3) := by decide +kernel
theorem d_9_9_5 : decode prog_9_method_9_code 5 = .ok (.iconst 1, 1) := by decide +kernel
theorem d_9_9_6 : decode prog_9_method_9_code 6 = .ok (.iadd, 1) := by decide +kernel
theorem d_9_9_7 : decode prog_9_method_9_code 7 = .ok (.bipush 21, 2) := by decide +kernel
theorem d_9_9_9 : decode prog_9_method_9_code 9 = .ok (.irem, 1) := by decide +kernel
theorem d_9_9_10 : decode prog_9_method_9_code 10 = .ok (.putfield 48, 3) := by decide +kernel
theorem d_9_9_13 : decode prog_9_method_9_code 13 = .ok (.aload_n 0, 1) := by decide +kernel
theorem d_9_9_14 : decode prog_9_method_9_code 14 = .ok (.getfield 39, 3) := by decide +kernel
theorem d_9_9_17 : decode prog_9_method_9_code 17 = .ok (.aload_n 0, 1) := by decide +kernel
theorem d_9_9_18 : decode prog_9_method_9_code 18 = .ok (.getfield 48, 3) := by decide +kernel
theorem d_9_9_21 : decode prog_9_method_9_code 21 = .ok (.aaload, 1) := by decide +kernel
theorem d_9_9_22 : decode prog_9_method_9_code 22 = .ok (.astore_n 1, 1) := by decide +kernel
theorem d_9_9_23 : decode prog_9_method_9_code 23 = .ok (.aload_n 1, 1) := by decide +kernel
theorem d_9_9_24 : decode prog_9_method_9_code 24 = .ok (.aload_n 0, 1) := by decide +kernel
theorem d_9_9_25 : decode prog_9_method_9_code 25 = .ok (.getfield 24, 3) := by decide +kernel
theorem d_9_9_28 : decode prog_9_method_9_code 28 = .ok (.getfield 99, 3) := by decide +kernel
theorem d_9_9_31 : decode prog_9_method_9_code 31 = .ok (.bipush 60, 2) := by decide +kernel
theorem d_9_9_33 : decode prog_9_method_9_code 33 = .ok (.invokestatic 102, 3) := by decide +kernel
theorem d_9_9_36 : decode prog_9_method_9_code 36 = .ok (.putfield 108, 3) := by decide +kernel
theorem d_9_9_39 : decode prog_9_method_9_code 39 = .ok (.aload_n 1, 1) := by decide +kernel
theorem d_9_9_40 : decode prog_9_method_9_code 40 = .ok (.aload_n 0, 1) := by decide +kernel
theorem d_9_9_41 : decode prog_9_method_9_code 41 = .ok (.getfield 54, 3) := by decide +kernel
theorem d_9_9_44 : decode prog_9_method_9_code 44 = .ok (.putfield 109, 3) := by decide +kernel
theorem d_9_9_47 : decode prog_9_method_9_code 47 = .ok (.aload_n 1, 1) := by decide +kernel
theorem d_9_9_48 : decode prog_9_method_9_code 48 = .ok (.aload_n 0, 1) := by decide +kernel
theorem d_9_9_49 : decode prog_9_method_9_code 49 = .ok (.getfield 44, 3) := by decide +kernel
theorem d_9_9_52 : decode prog_9_method_9_code 52 = .ok (.putfield 110, 3) := by decide +kernel
theorem d_9_9_55 : decode prog_9_method_9_code 55 = .ok (.aload_n 0, 1) := by decide +kernel
theorem d_9_9_56 : decode prog_9_method_9_code 56 = .ok (.getfield 24, 3) := by decide +kernel
theorem d_9_9_59 : decode prog_9_method_9_code 59 = .ok (.getfield 113, 3) := by decide +kernel
theorem d_9_9_62 : decode prog_9_method_9_code 62 = .ok (.iconst 0, 1) := by decide +kernel
theorem d_9_9_63 : decode prog_9_method_9_code 63 = .ok (.aload_n 1, 1) := by decide +kernel
theorem d_9_9_64 : decode prog_9_method_9_code 64 = .ok (.getfield 116, 3) := by decide +kernel
theorem d_9_9_67 : decode prog_9_method_9_code 67 = .ok (.iconst 0, 1) := by decide +kernel
theorem d_9_9_68 : decode prog_9_method_9_code 68 = .ok (.aload_n 1, 1) := by decide +kernel
theorem d_9_9_69 : decode prog_9_method_9_code 69 = .ok (.getfield 108, 3) := by decide +kernel
theorem d_9_9_72 : decode prog_9_method_9_code 72 = .ok (.invokestatic 117, 3) := by decide +kernel
theorem d_9_9_75 : decode prog_9_method_9_code 75 = .ok (.aload_n 0, 1) := by decide +kernel
theorem d_9_9_76 : decode prog_9_method_9_code 76 = .ok (.getfield 31, 3) := by decide +kernel
theorem d_9_9_79 : decode prog_9_method_9_code 79 = .ok (.iconst 0, 1) := by decide +kernel
theorem d_9_9_80 : decode prog_9_method_9_code 80 = .ok (.aload_n 1, 1) := by decide +kernel
theorem d_9_9_81 : decode prog_9_method_9_code 81 = .ok (.getfield 123, 3) := by decide +kernel
theorem d_9_9_84 : decode prog_9_method_9_code 84 = .ok (.iconst 0, 1) := by decide +kernel
theorem d_9_9_85 : decode prog_9_method_9_code 85 = .ok (.bipush 8, 2) := by decide +kernel
theorem d_9_9_87 : decode prog_9_method_9_code 87 = .ok (.invokestatic 117, 3) := by decide +kernel
theorem d_9_9_90 : decode prog_9_method_9_code 90 = .ok (.aload_n 0, 1) := by decide +kernel
theorem d_9_9_91 : decode prog_9_method_9_code 91 = .ok (.getfield 9, 3) := by decide +kernel
theorem d_9_9_94 : decode prog_9_method_9_code 94 = .ok (.iconst 0, 1) := by decide +kernel
theorem d_9_9_95 : decode prog_9_method_9_code 95 = .ok (.aload_n 1, 1) := by decide +kernel
theorem d_9_9_96 : decode prog_9_method_9_code 96 = .ok (.getfield 124, 3) := by decide +kernel
theorem d_9_9_99 : decode prog_9_method_9_code 99 = .ok (.iconst 0, 1) := by decide +kernel
theorem d_9_9_100 : decode prog_9_method_9_code 100 = .ok (.bipush 8, 2) := by decide +kernel
theorem d_9_9_102 : decode prog_9_method_9_code 102 = .ok (.invokestatic 117, 3) := by decide +kernel
theorem d_9_9_105 : decode prog_9_method_9_code 105 = .ok (.aload_n 0, 1) := by decide +kernel
theorem d_9_9_106 : decode prog_9_method_9_code 106 = .ok (.getfield 15, 3) := by decide +kernel
theorem d_9_9_109 : decode prog_9_method_9_code 109 = .ok (.iconst 0, 1) := by decide +kernel
theorem d_9_9_110 : decode prog_9_method_9_code 110 = .ok (.aload_n 1, 1) := by decide +kernel
theorem d_9_9_111 : decode prog_9_method_9_code 111 = .ok (.getfield 125, 3) := by decide +kernel
theorem d_9_9_114 : decode prog_9_method_9_code 114 = .ok (.iconst 0, 1) := by decide +kernel
theorem d_9_9_115 : decode prog_9_method_9_code 115 = .ok (.bipush 8, 2) := by decide +kernel
theorem d_9_9_117 : decode prog_9_method_9_code 117 = .ok (.invokestatic 117, 3) := by decide +kernel
theorem d_9_9_120 : decode prog_9_method_9_code 120 = .ok (.return_, 1) := by decide +kernel
theorem d_law_0 : decode code 0 = .ok (.new 8, 3) := by decide +kernel
