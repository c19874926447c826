theorem d_2_1_9 : decode prog_2_method_1_code 9 = .ok (.putfield 9, 3) := by decide +kernel
theorem d_2_1_12 : decode prog_2_method_1_code 12 = .ok (.aload_n 0, 1) := by decide +kernel
theorem d_2_1_13 : decode prog_2_method_1_code 13 = .ok (.bipush 8, 2) := by decide +kernel
theorem d_2_1_15 : decode prog_2_method_1_code 15 = .ok (.newarray .int, 2) := by decide +kernel
theorem d_2_1_17 : decode prog_2_method_1_code 17 = .ok (.putfield 15, 3) := by decide +kernel
theorem d_2_1_20 : decode prog_2_method_1_code 20 = .ok (.aload_n 0, 1) := by decide +kernel
theorem d_2_1_21 : decode prog_2_method_1_code 21 = .ok (.bipush 31, 2) := by decide +kernel
theorem d_2_1_23 : decode prog_2_method_1_code 23 = .ok (.newarray .int, 2) := by decide +kernel
theorem d_2_1_25 : decode prog_2_method_1_code 25 = .ok (.putfield 18, 3) := by decide +kernel
theorem d_2_1_28 : decode prog_2_method_1_code 28 = .ok (.aload_n 0, 1) := by decide +kernel
theorem d_2_1_29 : decode prog_2_method_1_code 29 = .ok (.bipush 31, 2) := by decide +kernel
theorem d_2_1_31 : decode prog_2_method_1_code 31 = .ok (.newarray .int, 2) := by decide +kernel
theorem d_2_1_33 : decode prog_2_method_1_code 33 = .ok (.putfield 21, 3) := by decide +kernel
theorem d_2_1_36 : decode prog_2_method_1_code 36 = .ok (.aload_n 0, 1) := by decide +kernel
theorem d_2_1_37 : decode prog_2_method_1_code 37 = .ok (.bipush 31, 2) := by decide +kernel
theorem d_2_1_39 : decode prog_2_method_1_code 39 = .ok (.newarray .int, 2) := by decide +kernel
theorem d_2_1_41 : decode prog_2_method_1_code 41 = .ok (.putfield 24, 3) := by decide +kernel
theorem d_2_1_44 : decode prog_2_method_1_code 44 = .ok (.aload_n 0, 1) := by decide +kernel
theorem d_2_1_45 : decode prog_2_method_1_code 45 = .ok (.bipush 31, 2) := by decide +kernel
theorem d_2_1_47 : decode prog_2_method_1_code 47 = .ok (.bipush 8, 2) := by decide +kernel
theorem d_2_1_49 : decode prog_2_method_1_code 49 = .ok (.multianewarray 27 2, 4) := by decide +kernel
theorem d_2_1_53 : decode prog_2_method_1_code 53 = .ok (.putfield 29, 3) := by decide +kernel
theorem d_2_1_56 : decode prog_2_method_1_code 56 = .ok (.aload_n 0, 1) := by decide +kernel
theorem d_2_1_57 : decode prog_2_method_1_code 57 = .ok (.sipush 256, 3) := by decide +kernel
theorem d_2_1_60 : decode prog_2_method_1_code 60 = .ok (.newarray .int, 2) := by decide +kernel
theorem d_2_1_62 : decode prog_2_method_1_code 62 = .ok (.putfield 32, 3) := by decide +kernel
theorem d_2_1_65 : decode prog_2_method_1_code 65 = .ok (.return_, 1) := by decide +kernel
theorem d_2_2_0 : decode prog_2_method_2_code 0 = .ok (.iconst 1, 1) := by decide +kernel
theorem d_2_2_1 : decode prog_2_method_2_code 1 = .ok (.aload_n 0, 1) := by decide +kernel
theorem d_2_2_2 : decode prog_2_method_2_code 2 = .ok (.getfield 35, 3) := by decide +kernel
theorem d_2_2_5 : decode prog_2_method_2_code 5 = .ok (.ishl, 1) := by decide +kernel
theorem d_2_2_6 : decode prog_2_method_2_code 6 = .ok (.iconst 1, 1) := by decide +kernel
theorem d_2_2_7 : decode prog_2_method_2_code 7 = .ok (.isub, 1) := by decide +kernel
theorem d_2_2_8 : decode prog_2_method_2_code 8 = .ok (.ireturn, 1) := by decide +kernel
theorem d_2_3_0 : decode prog_2_method_3_code 0 = .ok (.aload_n 0, 1) := by decide +kernel
theorem d_2_3_1 : decode prog_2_method_3_code 1 = .ok (.getfield 15, 3) := by decide +kernel
theorem d_2_3_4 : decode prog_2_method_3_code 4 = .ok (.iload_n 1, 1) := by decide +kernel
theorem d_2_3_5 : decode prog_2_method_3_code 5 = .ok (.iaload, 1) := by decide +kernel
theorem d_2_3_6 : decode prog_2_method_3_code 6 = .ok (.aload_n 0, 1) := by decide +kernel
theorem d_2_3_7 : decode prog_2_method_3_code 7 = .ok (.getfield 15, 3) := by decide +kernel
theorem d_2_3_10 : decode prog_2_method_3_code 10 = .ok (.iload_n 2, 1) := by decide +kernel
theorem d_2_3_11 : decode prog_2_method_3_code 11 = .ok (.iaload, 1) := by decide +kernel
theorem d_2_3_12 : decode prog_2_method_3_code 12 = .ok (.if_icmp .lt 23, 3) := by decide +kernel
theorem d_2_3_15 : decode prog_2_method_3_code 15 = .ok (.aload_n 0, 1) := by decide +kernel
theorem d_2_3_16 : decode prog_2_method_3_code 16 = .ok (.getfield 15, 3) := by decide +kernel
theorem d_2_3_19 : decode prog_2_method_3_code 19 = .ok (.iload_n 1, 1) := by decide +kernel
theorem d_2_3_20 : decode prog_2_method_3_code 20 = .ok (.iaload, 1) := by decide +kernel
theorem d_2_3_21 : decode prog_2_method_3_code 21 = .ok (.aload_n 0, 1) := by decide +kernel
theorem d_2_3_22 : decode prog_2_method_3_code 22 = .ok (.getfield 15, 3) := by decide +kernel
theorem d_2_3_25 : decode prog_2_method_3_code 25 = .ok (.iload_n 2, 1) := by decide +kernel
theorem d_2_3_26 : decode prog_2_method_3_code 26 = .ok (.iaload, 1) := by decide +kernel
theorem d_2_3_27 : decode prog_2_method_3_code 27 = .ok (.if_icmp .ne 12, 3) := by decide +kernel
theorem d_2_3_30 : decode prog_2_method_3_code 30 = .ok (.iload_n 1, 1) := by decide +kernel
theorem d_2_3_31 : decode prog_2_method_3_code 31 = .ok (.iload_n 2, 1) := by decide +kernel
theorem d_2_3_32 : decode prog_2_method_3_code 32 = .ok (.if_icmp .ge 7, 3) := by decide +kernel
theorem d_2_3_35 : decode prog_2_method_3_code 35 = .ok (.iconst 1, 1) := by decide +kernel
theorem d_2_3_36 : decode prog_2_method_3_code 36 = .ok (.goto 4, 3) := by decide +kernel
theorem d_2_3_39 : decode prog_2_method_3_code 39 = .ok (.iconst 0, 1) := by decide +kernel
theorem d_2_3_40 : decode prog_2_method_3_code 40 = .ok (.ireturn, 1) := by decide +kernel
theorem d_2_4_0 : decode prog_2_method_4_code 0 = .ok (.iconst 0, 1) := by decide +kernel
theorem d_2_4_1 : decode prog_2_method_4_code 1 = .ok (.istore_n 3, 1) := by decide +kernel
theorem d_2_4_2 : decode prog_2_method_4_code 2 = .ok (.iconst 0, 1) := by decide +kernel
theorem d_2_4_3 : decode prog_2_method_4_code 3 = .ok (.istore 4, 2) := by decide +kernel
theorem d_2_4_5 : decode prog_2_method_4_code 5 = .ok (.iload 4, 2) := by decide +kernel
theorem d_2_4_7 : decode prog_2_method_4_code 7 = .ok (.iload_n 2, 1) := by decide +kernel
theorem d_2_4_8 : decode prog_2_method_4_code 8 = .ok (.if_icmp .ge 16, 3) := by decide +kernel
theorem d_2_4_11 : decode prog_2_method_4_code 11 = .ok (.iload_n 3, 1) := by decide +kernel
theorem d_2_4_12 : decode prog_2_method_4_code 12 = .ok (.aload_n 1, 1) := by decide +kernel
theorem d_2_4_13 : decode prog_2_method_4_code 13 = .ok (.iload 4, 2) := by decide +kernel
theorem d_2_4_15 : decode prog_2_method_4_code 15 = .ok (.iaload, 1) := by decide +kernel
theorem d_2_4_16 : decode prog_2_method_4_code 16 = .ok (.iadd, 1) := by decide +kernel
theorem d_2_4_17 : decode prog_2_method_4_code 17 = .ok (.istore_n 3, 1) := by decide +kernel
theorem d_2_4_18 : decode prog_2_method_4_code 18 = .ok (.iinc 4 1, 3) := by decide +kernel
theorem d_2_4_21 : decode prog_2_method_4_code 21 = .ok (.goto (-16), 3) := by decide +kernel
theorem d_2_4_24 : decode prog_2_method_4_code 24 = .ok (.iload_n 3, 1) := by decide +kernel
theorem d_2_4_25 : decode prog_2_method_4_code 25 = .ok (.ireturn, 1) := by decide +kernel
theorem d_2_5_0 : decode prog_2_method_5_code 0 = .ok (.iload_n 1, 1) := by decide +kernel
theorem d_2_5_1 : decode prog_2_method_5_code 1 = .ok (.ifCond .eq 35, 3) := by decide +kernel
theorem d_2_5_4 : decode prog_2_method_5_code 4 = .ok (.aload_n 0, 1) := by decide +kernel
theorem d_2_5_5 : decode prog_2_method_5_code 5 = .ok (.getfield 39, 3) := by decide +kernel
theorem d_2_5_8 : decode prog_2_method_5_code 8 = .ok (.aload_n 0, 1) := by decide +kernel
theorem d_2_5_9 : decode prog_2_method_5_code 9 = .ok (.getfield 9, 3) := by decide +kernel
theorem d_2_5_12 : decode prog_2_method_5_code 12 = .ok (.arraylength, 1) := by decide +kernel
theorem d_2_5_13 : decode prog_2_method_5_code 13 = .ok (.if_icmp .ge 23, 3) := by decide +kernel
theorem d_2_5_16 : decode prog_2_method_5_code 16 = .ok (.aload_n 0, 1) := by decide +kernel
theorem d_2_5_17 : decode prog_2_method_5_code 17 = .ok (.getfield 9, 3) := by decide +kernel
theorem d_2_5_20 : decode prog_2_method_5_code 20 = .ok (.aload_n 0, 1) := by decide +kernel
theorem d_2_5_21 : decode prog_2_method_5_code 21 = .ok (.getfield 39, 3) := by decide +kernel
theorem d_2_5_24 : decode prog_2_method_5_code 24 = .ok (.iload_n 1, 1) := by decide +kernel
theorem d_2_5_25 : decode prog_2_method_5_code 25 = .ok (.iastore, 1) := by decide +kernel
theorem d_2_5_26 : decode prog_2_method_5_code 26 = .ok (.aload_n 0, 1) := by decide +kernel
theorem d_2_5_27 : decode prog_2_method_5_code 27 = .ok (.dup, 1) := by decide +kernel
theorem d_2_5_28 : decode prog_2_method_5_code 28 = .ok (.getfield 39, 3) := by decide +kernel
theorem d_2_5_31 : decode prog_2_method_5_code 31 = .ok (.iconst 1, 1) := by decide +kernel
theorem d_2_5_32 : decode prog_2_method_5_code 32 = .ok (.iadd, 1) := by decide +kernel
theorem d_2_5_33 : decode prog_2_method_5_code 33 = .ok (.putfield 39, 3) := by decide +kernel
theorem d_2_5_36 : decode prog_2_method_5_code 36 = .ok (.return_, 1) := by decide +kernel
theorem d_2_6_0 : decode prog_2_method_6_code 0 = .ok (.aload_n 0, 1) := by decide +kernel
theorem d_2_6_1 : decode prog_2_method_6_code 1 = .ok (.invokevirtual 42, 3) := by decide +kernel
theorem d_2_6_4 : decode prog_2_method_6_code 4 = .ok (.iconst 0, 1) := by decide +kernel
theorem d_2_6_5 : decode prog_2_method_6_code 5 = .ok (.istore_n 1, 1) := by decide +kernel
theorem d_2_6_6 : decode prog_2_method_6_code 6 = .ok (.iconst (-1), 1) := by decide +kernel
theorem d_2_6_7 : decode prog_2_method_6_code 7 = .ok (.istore_n 2, 1) := by decide +kernel
theorem d_2_6_8 : decode prog_2_method_6_code 8 = .ok (.iconst 1, 1) := by decide +kernel
theorem d_2_6_9 : decode prog_2_method_6_code 9 = .ok (.istore_n 3, 1) := by decide +kernel
theorem d_2_6_10 : decode prog_2_method_6_code 10 = .ok (.aload_n 0, 1) := by decide +kernel
theorem d_2_6_11 : decode prog_2_method_6_code 11 = .ok (.getfield 39, 3) := by decide +kernel
theorem d_2_6_14 : decode prog_2_method_6_code 14 = .ok (.ifCond .le 7, 3) := by decide +kernel
theorem d_2_6_17 : decode prog_2_method_6_code 17 = .ok (.iconst 1, 1) := by decide +kernel
theorem d_2_6_18 : decode prog_2_method_6_code 18 = .ok (.goto 4, 3) := by decide +kernel
theorem d_2_6_21 : decode prog_2_method_6_code 21 = .ok (.iconst 0, 1) := by decide +kernel
theorem d_2_6_22 : decode prog_2_method_6_code 22 = .ok (.istore 4, 2) := by decide +kernel
theorem d_2_6_24 : decode prog_2_method_6_code 24 = .ok (.iconst 0, 1) := by decide +kernel
theorem d_2_6_25 : decode prog_2_method_6_code 25 = .ok (.istore 5, 2) := by decide +kernel
theorem d_2_6_27 : decode prog_2_method_6_code 27 = .ok (.iload 5, 2) := by decide +kernel
theorem d_2_6_29 : decode prog_2_method_6_code 29 = .ok (.aload_n 0, 1) := by decide +kernel
theorem d_2_6_30 : decode prog_2_method_6_code 30 = .ok (.getfield 39, 3) := by decide +kernel
theorem d_2_6_33 : decode prog_2_method_6_code 33 = .ok (.if_icmp .ge 132, 3) := by decide +kernel
theorem d_2_6_36 : decode prog_2_method_6_code 36 = .ok (.aload_n 0, 1) := by decide +kernel
theorem d_2_6_37 : decode prog_2_method_6_code 37 = .ok (.getfield 9, 3) := by decide +kernel
theorem d_2_6_40 : decode prog_2_method_6_code 40 = .ok (.iload 5, 2) := by decide +kernel
theorem d_2_6_42 : decode prog_2_method_6_code 42 = .ok (.iaload, 1) := by decide +kernel
theorem d_2_6_43 : decode prog_2_method_6_code 43 = .ok (.istore 6, 2) := by decide +kernel
theorem d_2_6_45 : decode prog_2_method_6_code 45 = .ok (.iload 4, 2) := by decide +kernel
theorem d_2_6_47 : decode prog_2_method_6_code 47 = .ok (.ifCond .eq 53, 3) := by decide +kernel
theorem d_2_6_50 : decode prog_2_method_6_code 50 = .ok (.iload 6, 2) := by decide +kernel
theorem d_2_6_52 : decode prog_2_method_6_code 52 = .ok (.bipush 65, 2) := by decide +kernel
theorem d_2_6_54 : decode prog_2_method_6_code 54 = .ok (.isub, 1) := by decide +kernel
theorem d_2_6_55 : decode prog_2_method_6_code 55 = .ok (.istore 7, 2) := by decide +kernel
theorem d_2_6_57 : decode prog_2_method_6_code 57 = .ok (.iload 7, 2) := by decide +kernel
theorem d_2_6_59 : decode prog_2_method_6_code 59 = .ok (.ifCond .lt 21, 3) := by decide +kernel
theorem d_2_6_62 : decode prog_2_method_6_code 62 = .ok (.iload 7, 2) := by decide +kernel
theorem d_2_6_64 : decode prog_2_method_6_code 64 = .ok (.aload_n 0, 1) := by decide +kernel
theorem d_2_6_65 : decode prog_2_method_6_code 65 = .ok (.getfield 35, 3) := by decide +kernel
theorem d_2_6_68 : decode prog_2_method_6_code 68 = .ok (.if_icmp .ge 12, 3) := by decide +kernel
theorem d_2_6_71 : decode prog_2_method_6_code 71 = .ok (.iload_n 1, 1) := by decide +kernel
theorem d_2_6_72 : decode prog_2_method_6_code 72 = .ok (.iload 7, 2) := by decide +kernel
theorem d_2_6_74 : decode prog_2_method_6_code 74 = .ok (.invokestatic 45, 3) := by decide +kernel
theorem d_2_6_77 : decode prog_2_method_6_code 77 = .ok (.ifCond .eq 6, 3) := by decide +kernel
theorem d_2_6_80 : decode prog_2_method_6_code 80 = .ok (.iload 5, 2) := by decide +kernel
theorem d_2_6_82 : decode prog_2_method_6_code 82 = .ok (.ireturn, 1) := by decide +kernel
theorem d_2_6_83 : decode prog_2_method_6_code 83 = .ok (.iload_n 1, 1) := by decide +kernel
theorem d_2_6_84 : decode prog_2_method_6_code 84 = .ok (.iconst 1, 1) := by decide +kernel
theorem d_2_6_85 : decode prog_2_method_6_code 85 = .ok (.iload 7, 2) := by decide +kernel
theorem d_2_6_87 : decode prog_2_method_6_code 87 = .ok (.ishl, 1) := by decide +kernel
theorem d_2_6_88 : decode prog_2_method_6_code 88 = .ok (.ior, 1) := by decide +kernel
theorem d_2_6_89 : decode prog_2_method_6_code 89 = .ok (.istore_n 1, 1) := by decide +kernel
theorem d_2_6_90 : decode prog_2_method_6_code 90 = .ok (.aload_n 0, 1) := by decide +kernel
theorem d_2_6_91 : decode prog_2_method_6_code 91 = .ok (.iload 7, 2) := by decide +kernel
theorem d_2_6_93 : decode prog_2_method_6_code 93 = .ok (.iload_n 3, 1) := by decide +kernel
theorem d_2_6_94 : decode prog_2_method_6_code 94 = .ok (.invokevirtual 49, 3) := by decide +kernel
theorem d_2_6_97 : decode prog_2_method_6_code 97 = .ok (.goto 37, 3) := by decide +kernel
theorem d_2_6_100 : decode prog_2_method_6_code 100 = .ok (.iload 6, 2) := by decide +kernel
theorem d_2_6_102 : decode prog_2_method_6_code 102 = .ok (.bipush 124, 2) := by decide +kernel
theorem d_2_6_104 : decode prog_2_method_6_code 104 = .ok (.if_icmp .ne 13, 3) := by decide +kernel
theorem d_2_6_107 : decode prog_2_method_6_code 107 = .ok (.iload_n 2, 1) := by decide +kernel
theorem d_2_6_108 : decode prog_2_method_6_code 108 = .ok (.iconst (-1), 1) := by decide +kernel
theorem d_2_6_109 : decode prog_2_method_6_code 109 = .ok (.if_icmp .ne 8, 3) := by decide +kernel
theorem d_2_6_112 : decode prog_2_method_6_code 112 = .ok (.iload_n 1, 1) := by decide +kernel
theorem d_2_6_113 : decode prog_2_method_6_code 113 = .ok (.istore_n 2, 1) := by decide +kernel
theorem d_2_6_114 : decode prog_2_method_6_code 114 = .ok (.goto 20, 3) := by decide +kernel
theorem d_2_6_117 : decode prog_2_method_6_code 117 = .ok (.iload 6, 2) := by decide +kernel
theorem d_2_6_119 : decode prog_2_method_6_code 119 = .ok (.bipush 62, 2) := by decide +kernel
theorem d_2_6_121 : decode prog_2_method_6_code 121 = .ok (.if_icmp .eq 13, 3) := by decide +kernel
theorem d_2_6_124 : decode prog_2_method_6_code 124 = .ok (.iload 6, 2) := by decide +kernel
theorem d_2_6_126 : decode prog_2_method_6_code 126 = .ok (.bipush 61, 2) := by decide +kernel
theorem d_2_6_128 : decode prog_2_method_6_code 128 = .ok (.if_icmp .eq 6, 3) := by decide +kernel
theorem d_2_6_131 : decode prog_2_method_6_code 131 = .ok (.iload 5, 2) := by decide +kernel
theorem d_2_6_133 : decode prog_2_method_6_code 133 = .ok (.ireturn, 1) := by decide +kernel
theorem d_2_6_134 : decode prog_2_method_6_code 134 = .ok (.iload 6, 2) := by decide +kernel
theorem d_2_6_136 : decode prog_2_method_6_code 136 = .ok (.bipush 61, 2) := by decide +kernel
theorem d_2_6_138 : decode prog_2_method_6_code 138 = .ok (.if_icmp .eq 7, 3) := by decide +kernel
theorem d_2_6_141 : decode prog_2_method_6_code 141 = .ok (.iconst 1, 1) := by decide +kernel
theorem d_2_6_142 : decode prog_2_method_6_code 142 = .ok (.goto 4, 3) := by decide +kernel
theorem d_2_6_145 : decode prog_2_method_6_code 145 = .ok (.iconst 0, 1) := by decide +kernel
theorem d_2_6_146 : decode prog_2_method_6_code 146 = .ok (.istore_n 3, 1) := by decide +kernel
theorem d_2_6_147 : decode prog_2_method_6_code 147 = .ok (.iload 4, 2) := by decide +kernel
theorem d_2_6_149 : decode prog_2_method_6_code 149 = .ok (.ifCond .ne 7, 3) := by decide +kernel
theorem d_2_6_152 : decode prog_2_method_6_code 152 = .ok (.iconst 1, 1) := by decide +kernel
theorem d_2_6_153 : decode prog_2_method_6_code 153 = .ok (.goto 4, 3) := by decide +kernel
theorem d_2_6_156 : decode prog_2_method_6_code 156 = .ok (.iconst 0, 1) := by decide +kernel
theorem d_2_6_157 : decode prog_2_method_6_code 157 = .ok (.istore 4, 2) := by decide +kernel
theorem d_2_6_159 : decode prog_2_method_6_code 159 = .ok (.iinc 5 1, 3) := by decide +kernel
theorem d_2_6_162 : decode prog_2_method_6_code 162 = .ok (.goto (-135), 3) := by decide +kernel
theorem d_2_6_165 : decode prog_2_method_6_code 165 = .ok (.iload 4, 2) := by decide +kernel
theorem d_2_6_167 : decode prog_2_method_6_code 167 = .ok (.ifCond .eq 8, 3) := by decide +kernel
theorem d_2_6_170 : decode prog_2_method_6_code 170 = .ok (.aload_n 0, 1) := by decide +kernel
theorem d_2_6_171 : decode prog_2_method_6_code 171 = .ok (.getfield 39, 3) := by decide +kernel
theorem d_2_6_174 : decode prog_2_method_6_code 174 = .ok (.ireturn, 1) := by decide +kernel
theorem d_2_6_175 : decode prog_2_method_6_code 175 = .ok (.aload_n 0, 1) := by decide +kernel
theorem d_2_6_176 : decode prog_2_method_6_code 176 = .ok (.getfield 21, 3) := by decide +kernel
theorem d_2_6_179 : decode prog_2_method_6_code 179 = .ok (.bipush 30, 2) := by decide +kernel
theorem d_2_6_181 : decode prog_2_method_6_code 181 = .ok (.iload_n 2, 1) := by decide +kernel
theorem d_2_6_182 : decode prog_2_method_6_code 182 = .ok (.iconst (-1), 1) := by decide +kernel
theorem d_2_6_183 : decode prog_2_method_6_code 183 = .ok (.if_icmp .ne 15, 3) := by decide +kernel
theorem d_2_6_186 : decode prog_2_method_6_code 186 = .ok (.aload_n 0, 1) := by decide +kernel
theorem d_2_6_187 : decode prog_2_method_6_code 187 = .ok (.getfield 29, 3) := by decide +kernel
theorem d_2_6_190 : decode prog_2_method_6_code 190 = .ok (.bipush 30, 2) := by decide +kernel
theorem d_2_6_192 : decode prog_2_method_6_code 192 = .ok (.aaload, 1) := by decide +kernel
theorem d_2_6_193 : decode prog_2_method_6_code 193 = .ok (.iconst 0, 1) := by decide +kernel
theorem d_2_6_194 : decode prog_2_method_6_code 194 = .ok (.iaload, 1) := by decide +kernel
theorem d_2_6_195 : decode prog_2_method_6_code 195 = .ok (.goto 4, 3) := by decide +kernel
theorem d_2_6_198 : decode prog_2_method_6_code 198 = .ok (.iload_n 2, 1) := by decide +kernel
theorem d_2_6_199 : decode prog_2_method_6_code 199 = .ok (.iastore, 1) := by decide +kernel
theorem d_2_6_200 : decode prog_2_method_6_code 200 = .ok (.iconst (-1), 1) := by decide +kernel
theorem d_2_6_201 : decode prog_2_method_6_code 201 = .ok (.ireturn, 1) := by decide +kernel
theorem d_2_7_0 : decode prog_2_method_7_code 0 = .ok (.aload_n 0, 1) := by decide +kernel
theorem d_2_7_1 : decode prog_2_method_7_code 1 = .ok (.getfield 24, 3) := by decide +kernel
theorem d_2_7_4 : decode prog_2_method_7_code 4 = .ok (.bipush 30, 2) := by decide +kernel
theorem d_2_7_6 : decode prog_2_method_7_code 6 = .ok (.iconst 0, 1) := by decide +kernel
theorem d_2_7_7 : decode prog_2_method_7_code 7 = .ok (.iastore, 1) := by decide +kernel
theorem d_2_7_8 : decode prog_2_method_7_code 8 = .ok (.aload_n 0, 1) := by decide +kernel
theorem d_2_7_9 : decode prog_2_method_7_code 9 = .ok (.getfield 21, 3) := by decide +kernel
theorem d_2_7_12 : decode prog_2_method_7_code 12 = .ok (.bipush 30, 2) := by decide +kernel
theorem d_2_7_14 : decode prog_2_method_7_code 14 = .ok (.iconst 0, 1) := by decide +kernel
theorem d_2_7_15 : decode prog_2_method_7_code 15 = .ok (.iastore, 1) := by decide +kernel
theorem d_2_7_16 : decode prog_2_method_7_code 16 = .ok (.aload_n 0, 1) := by decide +kernel
theorem d_2_7_17 : decode prog_2_method_7_code 17 = .ok (.getfield 29, 3) := by decide +kernel
theorem d_2_7_20 : decode prog_2_method_7_code 20 = .ok (.bipush 30, 2) := by decide +kernel
theorem d_2_7_22 : decode prog_2_method_7_code 22 = .ok (.aaload, 1) := by decide +kernel
theorem d_2_7_23 : decode prog_2_method_7_code 23 = .ok (.iconst 0, 1) := by decide +kernel
theorem d_2_7_24 : decode prog_2_method_7_code 24 = .ok (.invokestatic 53, 3) := by decide +kernel
theorem d_2_7_27 : decode prog_2_method_7_code 27 = .ok (.return_, 1) := by decide +kernel
theorem d_2_8_0 : decode prog_2_method_8_code 0 = .ok (.iload_n 2, 1) := by decide +kernel
theorem d_2_8_1 : decode prog_2_method_8_code 1 = .ok (.ifCond .eq 26, 3) := by decide +kernel
theorem d_2_8_4 : decode prog_2_method_8_code 4 = .ok (.aload_n 0, 1) := by decide +kernel
theorem d_2_8_5 : decode prog_2_method_8_code 5 = .ok (.getfield 24, 3) := by decide +kernel
theorem d_2_8_8 : decode prog_2_method_8_code 8 = .ok (.bipush 30, 2) := by decide +kernel
theorem d_2_8_10 : decode prog_2_method_8_code 10 = .ok (.iaload, 1) := by decide +kernel
theorem d_2_8_11 : decode prog_2_method_8_code 11 = .ok (.bipush 8, 2) := by decide +kernel
theorem d_2_8_13 : decode prog_2_method_8_code 13 = .ok (.if_icmp .ge 14, 3) := by decide +kernel
theorem d_2_8_16 : decode prog_2_method_8_code 16 = .ok (.aload_n 0, 1) := by decide +kernel
theorem d_2_8_17 : decode prog_2_method_8_code 17 = .ok (.getfield 24, 3) := by decide +kernel
theorem d_2_8_20 : decode prog_2_method_8_code 20 = .ok (.bipush 30, 2) := by decide +kernel
theorem d_2_8_22 : decode prog_2_method_8_code 22 = .ok (.dup2, 1) := by decide +kernel
theorem d_2_8_23 : decode prog_2_method_8_code 23 = .ok (.iaload, 1) := by decide +kernel
theorem d_2_8_24 : decode prog_2_method_8_code 24 = .ok (.iconst 1, 1) := by decide +kernel
theorem d_2_8_25 : decode prog_2_method_8_code 25 = .ok (.iadd, 1) := by decide +kernel
theorem d_2_8_26 : decode prog_2_method_8_code 26 = .ok (.iastore, 1) := by decide +kernel
theorem d_2_8_27 : decode prog_2_method_8_code 27 = .ok (.aload_n 0, 1) := by decide +kernel
theorem d_2_8_28 : decode prog_2_method_8_code 28 = .ok (.getfield 24, 3) := by decide +kernel
theorem d_2_8_31 : decode prog_2_method_8_code 31 = .ok (.bipush 30, 2) := by decide +kernel
theorem d_2_8_33 : decode prog_2_method_8_code 33 = .ok (.iaload, 1) := by decide +kernel
theorem d_2_8_34 : decode prog_2_method_8_code 34 = .ok (.iconst 1, 1) := by decide +kernel
theorem d_2_8_35 : decode prog_2_method_8_code 35 = .ok (.isub, 1) := by decide +kernel
theorem d_2_8_36 : decode prog_2_method_8_code 36 = .ok (.iconst 0, 1) := by decide +kernel
theorem d_2_8_37 : decode prog_2_method_8_code 37 = .ok (.invokestatic 59, 3) := by decide +kernel
theorem d_2_8_40 : decode prog_2_method_8_code 40 = .ok (.istore_n 3, 1) := by decide +kernel
theorem d_2_8_41 : decode prog_2_method_8_code 41 = .ok (.aload_n 0, 1) := by decide +kernel
theorem d_2_8_42 : decode prog_2_method_8_code 42 = .ok (.getfield 29, 3) := by decide +kernel
theorem d_2_8_45 : decode prog_2_method_8_code 45 = .ok (.bipush 30, 2) := by decide +kernel
theorem d_2_8_47 : decode prog_2_method_8_code 47 = .ok (.aaload, 1) := by decide +kernel
theorem d_2_8_48 : decode prog_2_method_8_code 48 = .ok (.iload_n 3, 1) := by decide +kernel
theorem d_2_8_49 : decode prog_2_method_8_code 49 = .ok (.dup2, 1) := by decide +kernel
theorem d_2_8_50 : decode prog_2_method_8_code 50 = .ok (.iaload, 1) := by decide +kernel
theorem d_2_8_51 : decode prog_2_method_8_code 51 = .ok (.iconst 1, 1) := by decide +kernel
theorem d_2_8_52 : decode prog_2_method_8_code 52 = .ok (.iload_n 1, 1) := by decide +kernel
theorem d_2_8_53 : decode prog_2_method_8_code 53 = .ok (.ishl, 1) := by decide +kernel
theorem d_2_8_54 : decode prog_2_method_8_code 54 = .ok (.ior, 1) := by decide +kernel
theorem d_2_8_55 : decode prog_2_method_8_code 55 = .ok (.iastore, 1) := by decide +kernel
theorem d_2_8_56 : decode prog_2_method_8_code 56 = .ok (.return_, 1) := by decide +kernel
theorem d_2_9_0 : decode prog_2_method_9_code 0 = .ok (.iconst 0, 1) := by decide +kernel
theorem d_2_9_1 : decode prog_2_method_9_code 1 = .ok (.istore_n 1, 1) := by decide +kernel
theorem d_2_9_2 : decode prog_2_method_9_code 2 = .ok (.iload_n 1, 1) := by decide +kernel
theorem d_2_9_3 : decode prog_2_method_9_code 3 = .ok (.aload_n 0, 1) := by decide +kernel
theorem d_2_9_4 : decode prog_2_method_9_code 4 = .ok (.getfield 65, 3) := by decide +kernel
theorem d_2_9_7 : decode prog_2_method_9_code 7 = .ok (.if_icmp .ge 19, 3) := by decide +kernel
theorem d_2_9_10 : decode prog_2_method_9_code 10 = .ok (.aload_n 0, 1) := by decide +kernel
theorem d_2_9_11 : decode prog_2_method_9_code 11 = .ok (.iload_n 1, 1) := by decide +kernel
theorem d_2_9_12 : decode prog_2_method_9_code 12 = .ok (.invokevirtual 68, 3) := by decide +kernel
theorem d_2_9_15 : decode prog_2_method_9_code 15 = .ok (.ifCond .eq 5, 3) := by decide +kernel
theorem d_2_9_18 : decode prog_2_method_9_code 18 = .ok (.iload_n 1, 1) := by decide +kernel
theorem d_2_9_19 : decode prog_2_method_9_code 19 = .ok (.ireturn, 1) := by decide +kernel
theorem d_2_9_20 : decode prog_2_method_9_code 20 = .ok (.iinc 1 1, 3) := by decide +kernel
theorem d_2_9_23 : decode prog_2_method_9_code 23 = .ok (.goto (-21), 3) := by decide +kernel
theorem d_2_9_26 : decode prog_2_method_9_code 26 = .ok (.iconst (-1), 1) := by decide +kernel
theorem d_2_9_27 : decode prog_2_method_9_code 27 = .ok (.ireturn, 1) := by decide +kernel
theorem d_32_49_0 : decode prog_32_method_49_code 0 = .ok (.iload_n 0, 1) := by decide +kernel
theorem d_32_49_1 : decode prog_32_method_49_code 1 = .ok (.iload_n 0, 1) := by decide +kernel
theorem d_32_49_2 : decode prog_32_method_49_code 2 = .ok (.iconst 1, 1) := by decide +kernel
theorem d_32_49_3 : decode prog_32_method_49_code 3 = .ok (.iushr, 1) := by decide +kernel
theorem d_32_49_4 : decode prog_32_method_49_code 4 = .ok (.ldc_w 265, 3) := by decide +kernel
theorem d_32_49_7 : decode prog_32_method_49_code 7 = .ok (.iand, 1) := by decide +kernel
theorem d_32_49_8 : decode prog_32_method_49_code 8 = .ok (.isub, 1) := by decide +kernel
theorem d_32_49_9 : decode prog_32_method_49_code 9 = .ok (.istore_n 0, 1) := by decide +kernel
theorem d_32_49_10 : decode prog_32_method_49_code 10 = .ok (.iload_n 0, 1) := by decide +kernel
theorem d_32_49_11 : decode prog_32_method_49_code 11 = .ok (.ldc_w 266, 3) := by decide +kernel
theorem d_32_49_14 : decode prog_32_method_49_code 14 = .ok (.iand, 1) := by decide +kernel
theorem d_32_49_15 : decode prog_32_method_49_code 15 = .ok (.iload_n 0, 1) := by decide +kernel
theorem d_32_49_16 : decode prog_32_method_49_code 16 = .ok (.iconst 2, 1) := by decide +kernel
theorem d_32_49_17 : decode prog_32_method_49_code 17 = .ok (.iushr, 1) := by decide +kernel
theorem d_32_49_18 : decode prog_32_method_49_code 18 = .ok (.ldc_w 266, 3) := by decide +kernel
theorem d_32_49_21 : decode prog_32_method_49_code 21 = .ok (.iand, 1) := by decide +kernel
theorem d_32_49_22 : decode prog_32_method_49_code 22 = .ok (.iadd, 1) := by decide +kernel
theorem d_32_49_23 : decode prog_32_method_49_code 23 = .ok (.istore_n 0, 1) := by decide +kernel
theorem d_32_49_24 : decode prog_32_method_49_code 24 = .ok (.iload_n 0, 1) := by decide +kernel
theorem d_32_49_25 : decode prog_32_method_49_code 25 = .ok (.iload_n 0, 1) := by decide +kernel
theorem d_32_49_26 : decode prog_32_method_49_code 26 = .ok (.iconst 4, 1) := by decide +kernel
theorem d_32_49_27 : decode prog_32_method_49_code 27 = .ok (.iushr, 1) := by decide +kernel
theorem d_32_49_28 : decode prog_32_method_49_code 28 = .ok (.iadd, 1) := by decide +kernel
theorem d_32_49_29 : decode prog_32_method_49_code 29 = .ok (.ldc_w 267, 3) := by decide +kernel
theorem d_32_49_32 : decode prog_32_method_49_code 32 = .ok (.iand, 1) := by decide +kernel
theorem d_32_49_33 : decode prog_32_method_49_code 33 = .ok (.istore_n 0, 1) := by decide +kernel
theorem d_32_49_34 : decode prog_32_method_49_code 34 = .ok (.iload_n 0, 1) := by decide +kernel
theorem d_32_49_35 : decode prog_32_method_49_code 35 = .ok (.iload_n 0, 1) := by decide +kernel
theorem d_32_49_36 : decode prog_32_method_49_code 36 = .ok (.bipush 8, 2) := by decide +kernel
theorem d_32_49_38 : decode prog_32_method_49_code 38 = .ok (.iushr, 1) := by decide +kernel
theorem d_32_49_39 : decode prog_32_method_49_code 39 = .ok (.iadd, 1) := by decide +kernel
theorem d_32_49_40 : decode prog_32_method_49_code 40 = .ok (.istore_n 0, 1) := by decide +kernel
theorem d_32_49_41 : decode prog_32_method_49_code 41 = .ok (.iload_n 0, 1) := by decide +kernel
theorem d_32_49_42 : decode prog_32_method_49_code 42 = .ok (.iload_n 0, 1) := by decide +kernel
theorem d_32_49_43 : decode prog_32_method_49_code 43 = .ok (.bipush 16, 2) := by decide +kernel
theorem d_32_49_45 : decode prog_32_method_49_code 45 = .ok (.iushr, 1) := by decide +kernel
theorem d_32_49_46 : decode prog_32_method_49_code 46 = .ok (.iadd, 1) := by decide +kernel
theorem d_32_49_47 : decode prog_32_method_49_code 47 = .ok (.istore_n 0, 1) := by decide +kernel
theorem d_32_49_48 : decode prog_32_method_49_code 48 = .ok (.iload_n 0, 1) := by decide +kernel
theorem d_32_49_49 : decode prog_32_method_49_code 49 = .ok (.bipush 63, 2) := by decide +kernel
theorem d_32_49_51 : decode prog_32_method_49_code 51 = .ok (.iand, 1) := by decide +kernel
theorem d_32_49_52 : decode prog_32_method_49_code 52 = .ok (.ireturn, 1) := by decide +kernel
theorem d_35_147_0 : decode prog_35_method_147_code 0 = .ok (.aload_n 0, 1) := by decide +kernel
theorem d_35_147_1 : decode prog_35_method_147_code 1 = .ok (.invokevirtual 335, 3) := by decide +kernel
theorem d_35_147_4 : decode prog_35_method_147_code 4 = .ok (.iload_n 3, 1) := by decide +kernel
theorem d_35_147_5 : decode prog_35_method_147_code 5 = .ok (.if_icmp .ne 23, 3) := by decide +kernel
theorem d_35_147_8 : decode prog_35_method_147_code 8 = .ok (.aload_n 0, 1) := by decide +kernel
theorem d_35_147_9 : decode prog_35_method_147_code 9 = .ok (.getfield 9, 3) := by decide +kernel
theorem d_35_147_12 : decode prog_35_method_147_code 12 = .ok (.iconst 0, 1) := by decide +kernel
theorem d_35_147_13 : decode prog_35_method_147_code 13 = .ok (.aload_n 1, 1) := by decide +kernel
theorem d_35_147_14 : decode prog_35_method_147_code 14 = .ok (.iload_n 2, 1) := by decide +kernel
theorem d_35_147_15 : decode prog_35_method_147_code 15 = .ok (.iload_n 3, 1) := by decide +kernel
theorem d_35_147_16 : decode prog_35_method_147_code 16 = .ok (.ishl, 1) := by decide +kernel
theorem d_35_147_17 : decode prog_35_method_147_code 17 = .ok (.aload_n 0, 1) := by decide +kernel
theorem d_35_147_18 : decode prog_35_method_147_code 18 = .ok (.getfield 9, 3) := by decide +kernel
theorem d_35_147_21 : decode prog_35_method_147_code 21 = .ok (.arraylength, 1) := by decide +kernel
theorem d_35_147_22 : decode prog_35_method_147_code 22 = .ok (.invokestatic 212, 3) := by decide +kernel
theorem d_35_147_25 : decode prog_35_method_147_code 25 = .ok (.goto 18, 3) := by decide +kernel
theorem d_35_147_43 : decode prog_35_method_147_code 43 = .ok (.return_, 1) := by decide +kernel
theorem d_35_150_0 : decode prog_35_method_150_code 0 = .ok (.aload_n 0, 1) := by decide +kernel
theorem d_35_150_1 : decode prog_35_method_150_code 1 = .ok (.invokespecial 1, 3) := by decide +kernel
theorem d_35_150_4 : decode prog_35_method_150_code 4 = .ok (.aload_n 1, 1) := by decide +kernel
theorem d_35_150_5 : decode prog_35_method_150_code 5 = .ok (.invokevirtual 552, 3) := by decide +kernel
theorem d_35_150_8 : decode prog_35_method_150_code 8 = .ok (.astore_n 3, 1) := by decide +kernel
theorem d_35_150_9 : decode prog_35_method_150_code 9 = .ok (.aload_n 1, 1) := by decide +kernel
theorem d_35_150_10 : decode prog_35_method_150_code 10 = .ok (.invokevirtual 549, 3) := by decide +kernel
theorem d_35_150_13 : decode prog_35_method_150_code 13 = .ok (.istore 4, 2) := by decide +kernel
theorem d_35_150_15 : decode prog_35_method_150_code 15 = .ok (.aload_n 1, 1) := by decide +kernel
theorem d_35_150_16 : decode prog_35_method_150_code 16 = .ok (.invokevirtual 1047, 3) := by decide +kernel
theorem d_35_150_19 : decode prog_35_method_150_code 19 = .ok (.ifCond .eq 22, 3) := by decide +kernel
theorem d_35_150_22 : decode prog_35_method_150_code 22 = .ok (.aload_n 0, 1) := by decide +kernel
theorem d_35_150_23 : decode prog_35_method_150_code 23 = .ok (.iconst 0, 1) := by decide +kernel
theorem d_35_150_24 : decode prog_35_method_150_code 24 = .ok (.putfield 15, 3) := by decide +kernel
theorem d_35_150_27 : decode prog_35_method_150_code 27 = .ok (.aload_n 0, 1) := by decide +kernel
theorem d_35_150_28 : decode prog_35_method_150_code 28 = .ok (.aload_n 3, 1) := by decide +kernel
theorem d_35_150_29 : decode prog_35_method_150_code 29 = .ok (.iconst 0, 1) := by decide +kernel
theorem d_35_150_30 : decode prog_35_method_150_code 30 = .ok (.iload 4, 2) := by decide +kernel
theorem d_35_150_32 : decode prog_35_method_150_code 32 = .ok (.invokestatic 54, 3) := by decide +kernel
theorem d_35_150_35 : decode prog_35_method_150_code 35 = .ok (.putfield 9, 3) := by decide +kernel
theorem d_35_150_38 : decode prog_35_method_150_code 38 = .ok (.goto 59, 3) := by decide +kernel
theorem d_35_150_97 : decode prog_35_method_150_code 97 = .ok (.return_, 1) := by decide +kernel
theorem d_35_152_0 : decode prog_35_method_152_code 0 = .ok (.getstatic 38, 3) := by decide +kernel
theorem d_35_152_3 : decode prog_35_method_152_code 3 = .ok (.ifCond .eq 10, 3) := by decide +kernel
theorem d_35_152_6 : decode prog_35_method_152_code 6 = .ok (.aload_n 0, 1) := by decide +kernel
theorem d_35_152_7 : decode prog_35_method_152_code 7 = .ok (.getfield 15, 3) := by decide +kernel
theorem d_35_152_10 : decode prog_35_method_152_code 10 = .ok (.goto 4, 3) := by decide +kernel
theorem d_35_152_14 : decode prog_35_method_152_code 14 = .ok (.ireturn, 1) := by decide +kernel
theorem d_35_154_0 : decode prog_35_method_154_code 0 = .ok (.getstatic 38, 3) := by decide +kernel
theorem d_35_154_3 : decode prog_35_method_154_code 3 = .ok (.ifCond .eq 14, 3) := by decide +kernel
theorem d_35_154_6 : decode prog_35_method_154_code 6 = .ok (.aload_n 0, 1) := by decide +kernel
theorem d_35_154_7 : decode prog_35_method_154_code 7 = .ok (.getfield 15, 3) := by decide +kernel
theorem d_35_154_10 : decode prog_35_method_154_code 10 = .ok (.ifCond .ne 7, 3) := by decide +kernel
theorem d_35_154_13 : decode prog_35_method_154_code 13 = .ok (.iconst 1, 1) := by decide +kernel
theorem d_35_154_14 : decode prog_35_method_154_code 14 = .ok (.goto 4, 3) := by decide +kernel
theorem d_35_154_17 : decode prog_35_method_154_code 17 = .ok (.iconst 0, 1) := by decide +kernel
theorem d_35_154_18 : decode prog_35_method_154_code 18 = .ok (.ireturn, 1) := by decide +kernel
theorem d_35_155_0 : decode prog_35_method_155_code 0 = .ok (.iload_n 0, 1) := by decide +kernel
theorem d_35_155_1 : decode prog_35_method_155_code 1 = .ok (.iload_n 1, 1) := by decide +kernel
theorem d_35_155_2 : decode prog_35_method_155_code 2 = .ok (.getstatic 1053, 3) := by decide +kernel
theorem d_35_155_5 : decode prog_35_method_155_code 5 = .ok (.invokestatic 1059, 3) := by decide +kernel
theorem d_35_155_8 : decode prog_35_method_155_code 8 = .ok (.pop, 1) := by decide +kernel
theorem d_35_155_9 : decode prog_35_method_155_code 9 = .ok (.return_, 1) := by decide +kernel
theorem d_35_53_0 : decode prog_35_method_53_code 0 = .ok (.aload_n 0, 1) := by decide +kernel
theorem d_35_53_1 : decode prog_35_method_53_code 1 = .ok (.aload_n 1, 1) := by decide +kernel
theorem d_35_53_2 : decode prog_35_method_53_code 2 = .ok (.aconst_null, 1) := by decide +kernel
theorem d_35_53_3 : decode prog_35_method_53_code 3 = .ok (.invokespecial 489, 3) := by decide +kernel
theorem d_35_53_6 : decode prog_35_method_53_code 6 = .ok (.return_, 1) := by decide +kernel
theorem d_35_54_0 : decode prog_35_method_54_code 0 = .ok (.aload_n 0, 1) := by decide +kernel
theorem d_35_54_1 : decode prog_35_method_54_code 1 = .ok (.getfield 9, 3) := by decide +kernel
theorem d_35_54_4 : decode prog_35_method_54_code 4 = .ok (.arraylength, 1) := by decide +kernel
theorem d_35_54_5 : decode prog_35_method_54_code 5 = .ok (.aload_n 0, 1) := by decide +kernel
theorem d_35_54_6 : decode prog_35_method_54_code 6 = .ok (.invokevirtual 335, 3) := by decide +kernel
theorem d_35_54_9 : decode prog_35_method_54_code 9 = .ok (.ishr, 1) := by decide +kernel
theorem d_35_54_10 : decode prog_35_method_54_code 10 = .ok (.ireturn, 1) := by decide +kernel
theorem d_35_56_0 : decode prog_35_method_56_code 0 = .ok (.aload_n 0, 1) := by decide +kernel
theorem d_35_56_1 : decode prog_35_method_56_code 1 = .ok (.invokevirtual 492, 3) := by decide +kernel
theorem d_35_56_4 : decode prog_35_method_56_code 4 = .ok (.ifCond .eq 12, 3) := by decide +kernel
theorem d_35_56_7 : decode prog_35_method_56_code 7 = .ok (.aload_n 0, 1) := by decide +kernel
theorem d_35_56_8 : decode prog_35_method_56_code 8 = .ok (.getfield 9, 3) := by decide +kernel
theorem d_35_56_11 : decode prog_35_method_56_code 11 = .ok (.iload_n 1, 1) := by decide +kernel
theorem d_35_56_12 : decode prog_35_method_56_code 12 = .ok (.invokestatic 495, 3) := by decide +kernel
theorem d_35_56_15 : decode prog_35_method_56_code 15 = .ok (.ireturn, 1) := by decide +kernel
theorem d_36_14_0 : decode prog_36_method_14_code 0 = .ok (.aload_n 0, 1) := by decide +kernel
theorem d_36_14_1 : decode prog_36_method_14_code 1 = .ok (.iload_n 1, 1) := by decide +kernel
theorem d_36_14_2 : decode prog_36_method_14_code 2 = .ok (.invokespecial 50, 3) := by decide +kernel
theorem d_36_14_5 : decode prog_36_method_14_code 5 = .ok (.pop, 1) := by decide +kernel
theorem d_36_14_6 : decode prog_36_method_14_code 6 = .ok (.aload_n 0, 1) := by decide +kernel
theorem d_36_14_7 : decode prog_36_method_14_code 7 = .ok (.areturn, 1) := by decide +kernel
theorem d_36_1_0 : decode prog_36_method_1_code 0 = .ok (.aload_n 0, 1) := by decide +kernel
theorem d_36_1_1 : decode prog_36_method_1_code 1 = .ok (.bipush 16, 2) := by decide +kernel
theorem d_36_1_3 : decode prog_36_method_1_code 3 = .ok (.invokespecial 1, 3) := by decide +kernel
theorem d_36_1_6 : decode prog_36_method_1_code 6 = .ok (.return_, 1) := by decide +kernel
theorem d_36_42_0 : decode prog_36_method_42_code 0 = .ok (.new 18, 3) := by decide +kernel
theorem d_36_42_3 : decode prog_36_method_42_code 3 = .ok (.dup, 1) := by decide +kernel
theorem d_36_42_4 : decode prog_36_method_42_code 4 = .ok (.aload_n 0, 1) := by decide +kernel
theorem d_36_42_5 : decode prog_36_method_42_code 5 = .ok (.invokespecial 137, 3) := by decide +kernel
theorem d_36_42_8 : decode prog_36_method_42_code 8 = .ok (.areturn, 1) := by decide +kernel
theorem d_36_7_0 : decode prog_36_method_7_code 0 = .ok (.aload_n 0, 1) := by decide +kernel
theorem d_36_7_1 : decode prog_36_method_7_code 1 = .ok (.aload_n 1, 1) := by decide +kernel
theorem d_36_7_2 : decode prog_36_method_7_code 2 = .ok (.invokespecial 29, 3) := by decide +kernel
theorem d_36_7_5 : decode prog_36_method_7_code 5 = .ok (.pop, 1) := by decide +kernel
theorem d_36_7_6 : decode prog_36_method_7_code 6 = .ok (.aload_n 0, 1) := by decide +kernel
theorem d_36_7_7 : decode prog_36_method_7_code 7 = .ok (.areturn, 1) := by decide +kernel
theorem d_36_93_0 : decode prog_36_method_93_code 0 = .ok (.aload_n 0, 1) := by decide +kernel
theorem d_36_93_1 : decode prog_36_method_93_code 1 = .ok (.invokespecial 343, 3) := by decide +kernel
theorem d_36_93_4 : decode prog_36_method_93_code 4 = .ok (.ireturn, 1) := by decide +kernel
theorem d_37_2_0 : decode prog_37_method_2_code 0 = .ok (.iload_n 1, 1) := by decide +kernel
theorem d_37_2_1 : decode prog_37_method_2_code 1 = .ok (.aload_n 0, 1) := by decide +kernel
theorem d_37_2_2 : decode prog_37_method_2_code 2 = .ok (.arraylength, 1) := by decide +kernel
theorem d_37_2_3 : decode prog_37_method_2_code 3 = .ok (.invokestatic 9, 3) := by decide +kernel
theorem d_37_2_6 : decode prog_37_method_2_code 6 = .ok (.aload_n 0, 1) := by decide +kernel
theorem d_37_2_7 : decode prog_37_method_2_code 7 = .ok (.iload_n 1, 1) := by decide +kernel
theorem d_37_2_8 : decode prog_37_method_2_code 8 = .ok (.baload, 1) := by decide +kernel
theorem d_37_2_9 : decode prog_37_method_2_code 9 = .ok (.sipush 255, 3) := by decide +kernel
theorem d_37_2_12 : decode prog_37_method_2_code 12 = .ok (.iand, 1) := by decide +kernel
theorem d_37_2_13 : decode prog_37_method_2_code 13 = .ok (.i2c, 1) := by decide +kernel
theorem d_37_2_14 : decode prog_37_method_2_code 14 = .ok (.ireturn, 1) := by decide +kernel
theorem d_37_3_0 : decode prog_37_method_3_code 0 = .ok (.iload_n 0, 1) := by decide +kernel
theorem d_37_3_1 : decode prog_37_method_3_code 1 = .ok (.sipush 255, 3) := by decide +kernel
theorem d_37_3_4 : decode prog_37_method_3_code 4 = .ok (.if_icmp .gt 7, 3) := by decide +kernel
theorem d_37_3_7 : decode prog_37_method_3_code 7 = .ok (.iconst 1, 1) := by decide +kernel
theorem d_37_3_8 : decode prog_37_method_3_code 8 = .ok (.goto 4, 3) := by decide +kernel
theorem d_37_3_11 : decode prog_37_method_3_code 11 = .ok (.iconst 0, 1) := by decide +kernel
theorem d_37_3_12 : decode prog_37_method_3_code 12 = .ok (.ireturn, 1) := by decide +kernel
theorem d_3_1_0 : decode prog_3_method_1_code 0 = .ok (.aload_n 0, 1) := by decide +kernel
theorem d_3_1_1 : decode prog_3_method_1_code 1 = .ok (.invokespecial 3, 3) := by decide +kernel
theorem d_3_1_4 : decode prog_3_method_1_code 4 = .ok (.aload_n 0, 1) := by decide +kernel
theorem d_3_1_5 : decode prog_3_method_1_code 5 = .ok (.iconst 1, 1) := by decide +kernel
theorem d_3_1_6 : decode prog_3_method_1_code 6 = .ok (.putfield 9, 3) := by decide +kernel
theorem d_3_1_9 : decode prog_3_method_1_code 9 = .ok (.aload_n 0, 1) := by decide +kernel
theorem d_3_1_10 : decode prog_3_method_1_code 10 = .ok (.bipush 12, 2) := by decide +kernel
theorem d_3_1_12 : decode prog_3_method_1_code 12 = .ok (.newarray .int, 2) := by decide +kernel
theorem d_3_1_14 : decode prog_3_method_1_code 14 = .ok (.putfield 15, 3) := by decide +kernel
theorem d_3_1_17 : decode prog_3_method_1_code 17 = .ok (.aload_n 0, 1) := by decide +kernel
theorem d_3_1_18 : decode prog_3_method_1_code 18 = .ok (.sipush 4096, 3) := by decide +kernel
theorem d_3_1_21 : decode prog_3_method_1_code 21 = .ok (.newarray .int, 2) := by decide +kernel
theorem d_3_1_23 : decode prog_3_method_1_code 23 = .ok (.putfield 19, 3) := by decide +kernel
theorem d_3_1_26 : decode prog_3_method_1_code 26 = .ok (.return_, 1) := by decide +kernel
theorem d_3_2_0 : decode prog_3_method_2_code 0 = .ok (.aload_n 0, 1) := by decide +kernel
theorem d_3_2_1 : decode prog_3_method_2_code 1 = .ok (.getfield 22, 3) := by decide +kernel
theorem d_3_2_4 : decode prog_3_method_2_code 4 = .ok (.istore_n 2, 1) := by decide +kernel
theorem d_3_2_5 : decode prog_3_method_2_code 5 = .ok (.aload_n 0, 1) := by decide +kernel
theorem d_3_2_6 : decode prog_3_method_2_code 6 = .ok (.getfield 15, 3) := by decide +kernel
theorem d_3_2_9 : decode prog_3_method_2_code 9 = .ok (.iload_n 2, 1) := by decide +kernel
theorem d_3_2_10 : decode prog_3_method_2_code 10 = .ok (.iload_n 1, 1) := by decide +kernel
theorem d_3_2_11 : decode prog_3_method_2_code 11 = .ok (.iastore, 1) := by decide +kernel
theorem d_3_2_12 : decode prog_3_method_2_code 12 = .ok (.aload_n 0, 1) := by decide +kernel
theorem d_3_2_13 : decode prog_3_method_2_code 13 = .ok (.dup, 1) := by decide +kernel
theorem d_3_2_14 : decode prog_3_method_2_code 14 = .ok (.getfield 22, 3) := by decide +kernel
theorem d_3_2_17 : decode prog_3_method_2_code 17 = .ok (.iconst 1, 1) := by decide +kernel
theorem d_3_2_18 : decode prog_3_method_2_code 18 = .ok (.iadd, 1) := by decide +kernel
theorem d_3_2_19 : decode prog_3_method_2_code 19 = .ok (.putfield 22, 3) := by decide +kernel
theorem d_3_2_22 : decode prog_3_method_2_code 22 = .ok (.iload_n 2, 1) := by decide +kernel
theorem d_3_2_23 : decode prog_3_method_2_code 23 = .ok (.ireturn, 1) := by decide +kernel
theorem d_3_3_0 : decode prog_3_method_3_code 0 = .ok (.iconst 0, 1) := by decide +kernel
theorem d_3_3_1 : decode prog_3_method_3_code 1 = .ok (.istore_n 1, 1) := by decide +kernel
theorem d_3_3_2 : decode prog_3_method_3_code 2 = .ok (.iload_n 1, 1) := by decide +kernel
theorem d_3_3_3 : decode prog_3_method_3_code 3 = .ok (.aload_n 0, 1) := by decide +kernel
theorem d_3_3_4 : decode prog_3_method_3_code 4 = .ok (.getfield 22, 3) := by decide +kernel
theorem d_3_3_7 : decode prog_3_method_3_code 7 = .ok (.if_icmp .ge 47, 3) := by decide +kernel
theorem d_3_3_10 : decode prog_3_method_3_code 10 = .ok (.iconst 0, 1) := by decide +kernel
theorem d_3_3_11 : decode prog_3_method_3_code 11 = .ok (.istore_n 2, 1) := by decide +kernel
theorem d_3_3_12 : decode prog_3_method_3_code 12 = .ok (.iload_n 2, 1) := by decide +kernel
theorem d_3_3_13 : decode prog_3_method_3_code 13 = .ok (.iconst 1, 1) := by decide +kernel
theorem d_3_3_14 : decode prog_3_method_3_code 14 = .ok (.iload_n 1, 1) := by decide +kernel
theorem d_3_3_15 : decode prog_3_method_3_code 15 = .ok (.ishl, 1) := by decide +kernel
theorem d_3_3_16 : decode prog_3_method_3_code 16 = .ok (.if_icmp .ge 32, 3) := by decide +kernel
theorem d_3_3_19 : decode prog_3_method_3_code 19 = .ok (.aload_n 0, 1) := by decide +kernel
theorem d_3_3_20 : decode prog_3_method_3_code 20 = .ok (.getfield 19, 3) := by decide +kernel
theorem d_3_3_23 : decode prog_3_method_3_code 23 = .ok (.iload_n 2, 1) := by decide +kernel
theorem d_3_3_24 : decode prog_3_method_3_code 24 = .ok (.iconst 1, 1) := by decide +kernel
theorem d_3_3_25 : decode prog_3_method_3_code 25 = .ok (.iload_n 1, 1) := by decide +kernel
theorem d_3_3_26 : decode prog_3_method_3_code 26 = .ok (.ishl, 1) := by decide +kernel
theorem d_3_3_27 : decode prog_3_method_3_code 27 = .ok (.ior, 1) := by decide +kernel
theorem d_3_3_28 : decode prog_3_method_3_code 28 = .ok (.aload_n 0, 1) := by decide +kernel
theorem d_3_3_29 : decode prog_3_method_3_code 29 = .ok (.getfield 19, 3) := by decide +kernel
theorem d_3_3_32 : decode prog_3_method_3_code 32 = .ok (.iload_n 2, 1) := by decide +kernel
theorem d_3_3_33 : decode prog_3_method_3_code 33 = .ok (.iaload, 1) := by decide +kernel
theorem d_3_3_34 : decode prog_3_method_3_code 34 = .ok (.aload_n 0, 1) := by decide +kernel
theorem d_3_3_35 : decode prog_3_method_3_code 35 = .ok (.getfield 15, 3) := by decide +kernel
theorem d_3_3_38 : decode prog_3_method_3_code 38 = .ok (.iload_n 1, 1) := by decide +kernel
theorem d_3_3_39 : decode prog_3_method_3_code 39 = .ok (.iaload, 1) := by decide +kernel
theorem d_3_3_40 : decode prog_3_method_3_code 40 = .ok (.iadd, 1) := by decide +kernel
theorem d_3_3_41 : decode prog_3_method_3_code 41 = .ok (.iastore, 1) := by decide +kernel
theorem d_3_3_42 : decode prog_3_method_3_code 42 = .ok (.iinc 2 1, 3) := by decide +kernel
theorem d_3_3_45 : decode prog_3_method_3_code 45 = .ok (.goto (-33), 3) := by decide +kernel
theorem d_3_3_48 : decode prog_3_method_3_code 48 = .ok (.iinc 1 1, 3) := by decide +kernel
theorem d_3_3_51 : decode prog_3_method_3_code 51 = .ok (.goto (-49), 3) := by decide +kernel
theorem d_3_3_54 : decode prog_3_method_3_code 54 = .ok (.return_, 1) := by decide +kernel
theorem d_3_4_0 : decode prog_3_method_4_code 0 = .ok (.aload_n 0, 1) := by decide +kernel
theorem d_3_4_1 : decode prog_3_method_4_code 1 = .ok (.getfield 19, 3) := by decide +kernel
theorem d_3_4_4 : decode prog_3_method_4_code 4 = .ok (.iload_n 1, 1) := by decide +kernel
theorem d_3_4_5 : decode prog_3_method_4_code 5 = .ok (.iaload, 1) := by decide +kernel
theorem d_3_4_6 : decode prog_3_method_4_code 6 = .ok (.aload_n 0, 1) := by decide +kernel
theorem d_3_4_7 : decode prog_3_method_4_code 7 = .ok (.getfield 9, 3) := by decide +kernel
theorem d_3_4_10 : decode prog_3_method_4_code 10 = .ok (.if_icmp .ge 35, 3) := by decide +kernel
theorem d_3_4_13 : decode prog_3_method_4_code 13 = .ok (.aload_n 0, 1) := by decide +kernel
theorem d_3_4_14 : decode prog_3_method_4_code 14 = .ok (.getfield 19, 3) := by decide +kernel
theorem d_3_4_17 : decode prog_3_method_4_code 17 = .ok (.iload_n 1, 1) := by decide +kernel
theorem d_3_4_18 : decode prog_3_method_4_code 18 = .ok (.iaload, 1) := by decide +kernel
theorem d_3_4_19 : decode prog_3_method_4_code 19 = .ok (.aload_n 0, 1) := by decide +kernel
theorem d_3_4_20 : decode prog_3_method_4_code 20 = .ok (.getfield 15, 3) := by decide +kernel
theorem d_3_4_23 : decode prog_3_method_4_code 23 = .ok (.iload_n 2, 1) := by decide +kernel
theorem d_3_4_24 : decode prog_3_method_4_code 24 = .ok (.iaload, 1) := by decide +kernel
theorem d_3_4_25 : decode prog_3_method_4_code 25 = .ok (.iadd, 1) := by decide +kernel
theorem d_3_4_26 : decode prog_3_method_4_code 26 = .ok (.aload_n 0, 1) := by decide +kernel
theorem d_3_4_27 : decode prog_3_method_4_code 27 = .ok (.getfield 9, 3) := by decide +kernel
theorem d_3_4_30 : decode prog_3_method_4_code 30 = .ok (.if_icmp .lt 15, 3) := by decide +kernel
theorem d_3_4_33 : decode prog_3_method_4_code 33 = .ok (.iload_n 1, 1) := by decide +kernel
theorem d_3_4_34 : decode prog_3_method_4_code 34 = .ok (.iload_n 2, 1) := by decide +kernel
theorem d_3_4_35 : decode prog_3_method_4_code 35 = .ok (.invokestatic 25, 3) := by decide +kernel
theorem d_3_4_38 : decode prog_3_method_4_code 38 = .ok (.ifCond .ne 7, 3) := by decide +kernel
theorem d_3_4_41 : decode prog_3_method_4_code 41 = .ok (.iconst 1, 1) := by decide +kernel
theorem d_3_4_42 : decode prog_3_method_4_code 42 = .ok (.goto 4, 3) := by decide +kernel
theorem d_3_4_45 : decode prog_3_method_4_code 45 = .ok (.iconst 0, 1) := by decide +kernel
theorem d_3_4_46 : decode prog_3_method_4_code 46 = .ok (.ireturn, 1) := by decide +kernel
theorem d_3_5_0 : decode prog_3_method_5_code 0 = .ok (.iconst 0, 1) := by decide +kernel
theorem d_3_5_1 : decode prog_3_method_5_code 1 = .ok (.istore_n 2, 1) := by decide +kernel
theorem d_3_5_2 : decode prog_3_method_5_code 2 = .ok (.iconst 0, 1) := by decide +kernel
theorem d_3_5_3 : decode prog_3_method_5_code 3 = .ok (.istore_n 3, 1) := by decide +kernel
theorem d_3_5_4 : decode prog_3_method_5_code 4 = .ok (.iload_n 3, 1) := by decide +kernel
theorem d_3_5_5 : decode prog_3_method_5_code 5 = .ok (.iconst 1, 1) := by decide +kernel
theorem d_3_5_6 : decode prog_3_method_5_code 6 = .ok (.aload_n 0, 1) := by decide +kernel
theorem d_3_5_7 : decode prog_3_method_5_code 7 = .ok (.getfield 22, 3) := by decide +kernel
theorem d_3_5_10 : decode prog_3_method_5_code 10 = .ok (.ishl, 1) := by decide +kernel
theorem d_3_5_11 : decode prog_3_method_5_code 11 = .ok (.if_icmp .ge 21, 3) := by decide +kernel
theorem d_3_5_14 : decode prog_3_method_5_code 14 = .ok (.aload_n 0, 1) := by decide +kernel
theorem d_3_5_15 : decode prog_3_method_5_code 15 = .ok (.iload_n 3, 1) := by decide +kernel
theorem d_3_5_16 : decode prog_3_method_5_code 16 = .ok (.iload_n 1, 1) := by decide +kernel
theorem d_3_5_17 : decode prog_3_method_5_code 17 = .ok (.invokevirtual 29, 3) := by decide +kernel
theorem d_3_5_20 : decode prog_3_method_5_code 20 = .ok (.ifCond .eq 6, 3) := by decide +kernel
theorem d_3_5_23 : decode prog_3_method_5_code 23 = .ok (.iinc 2 1, 3) := by decide +kernel
theorem d_3_5_26 : decode prog_3_method_5_code 26 = .ok (.iinc 3 1, 3) := by decide +kernel
theorem d_3_5_29 : decode prog_3_method_5_code 29 = .ok (.goto (-25), 3) := by decide +kernel
theorem d_3_5_32 : decode prog_3_method_5_code 32 = .ok (.iload_n 2, 1) := by decide +kernel
theorem d_3_5_33 : decode prog_3_method_5_code 33 = .ok (.ireturn, 1) := by decide +kernel
theorem d_3_6_0 : decode prog_3_method_6_code 0 = .ok (.lconst 0, 1) := by decide +kernel
theorem d_3_6_1 : decode prog_3_method_6_code 1 = .ok (.lstore_n 2, 1) := by decide +kernel
theorem d_3_6_2 : decode prog_3_method_6_code 2 = .ok (.iconst 0, 1) := by decide +kernel
theorem d_3_6_3 : decode prog_3_method_6_code 3 = .ok (.istore 4, 2) := by decide +kernel
theorem d_3_6_5 : decode prog_3_method_6_code 5 = .ok (.iload 4, 2) := by decide +kernel
theorem d_3_6_7 : decode prog_3_method_6_code 7 = .ok (.iconst 1, 1) := by decide +kernel
theorem d_3_6_8 : decode prog_3_method_6_code 8 = .ok (.aload_n 0, 1) := by decide +kernel
theorem d_3_6_9 : decode prog_3_method_6_code 9 = .ok (.getfield 22, 3) := by decide +kernel
theorem d_3_6_12 : decode prog_3_method_6_code 12 = .ok (.ishl, 1) := by decide +kernel
theorem d_3_6_13 : decode prog_3_method_6_code 13 = .ok (.if_icmp .ge 49, 3) := by decide +kernel
theorem d_3_6_16 : decode prog_3_method_6_code 16 = .ok (.aload_n 0, 1) := by decide +kernel
theorem d_3_6_17 : decode prog_3_method_6_code 17 = .ok (.iload 4, 2) := by decide +kernel
theorem d_3_6_19 : decode prog_3_method_6_code 19 = .ok (.iload_n 1, 1) := by decide +kernel
theorem d_3_6_20 : decode prog_3_method_6_code 20 = .ok (.invokevirtual 29, 3) := by decide +kernel
theorem d_3_6_23 : decode prog_3_method_6_code 23 = .ok (.ifCond .eq 33, 3) := by decide +kernel
theorem d_3_6_26 : decode prog_3_method_6_code 26 = .ok (.iload 4, 2) := by decide +kernel
theorem d_3_6_28 : decode prog_3_method_6_code 28 = .ok (.invokestatic 32, 3) := by decide +kernel
theorem d_3_6_31 : decode prog_3_method_6_code 31 = .ok (.istore 5, 2) := by decide +kernel
theorem d_3_6_33 : decode prog_3_method_6_code 33 = .ok (.lload_n 2, 1) := by decide +kernel
theorem d_3_6_34 : decode prog_3_method_6_code 34 = .ok (.getstatic 38, 3) := by decide +kernel
theorem d_3_6_37 : decode prog_3_method_6_code 37 = .ok (.iload 5, 2) := by decide +kernel
theorem d_3_6_39 : decode prog_3_method_6_code 39 = .ok (.laload, 1) := by decide +kernel
theorem d_3_6_40 : decode prog_3_method_6_code 40 = .ok (.getstatic 38, 3) := by decide +kernel
theorem d_3_6_43 : decode prog_3_method_6_code 43 = .ok (.aload_n 0, 1) := by decide +kernel
theorem d_3_6_44 : decode prog_3_method_6_code 44 = .ok (.getfield 22, 3) := by decide +kernel
theorem d_3_6_47 : decode prog_3_method_6_code 47 = .ok (.iconst 1, 1) := by decide +kernel
theorem d_3_6_48 : decode prog_3_method_6_code 48 = .ok (.isub, 1) := by decide +kernel
theorem d_3_6_49 : decode prog_3_method_6_code 49 = .ok (.iload 5, 2) := by decide +kernel
theorem d_3_6_51 : decode prog_3_method_6_code 51 = .ok (.isub, 1) := by decide +kernel
theorem d_3_6_52 : decode prog_3_method_6_code 52 = .ok (.laload, 1) := by decide +kernel
theorem d_3_6_53 : decode prog_3_method_6_code 53 = .ok (.lmul, 1) := by decide +kernel
theorem d_3_6_54 : decode prog_3_method_6_code 54 = .ok (.ladd, 1) := by decide +kernel
theorem d_3_6_55 : decode prog_3_method_6_code 55 = .ok (.lstore_n 2, 1) := by decide +kernel
theorem d_3_6_56 : decode prog_3_method_6_code 56 = .ok (.iinc 4 1, 3) := by decide +kernel
theorem d_3_6_59 : decode prog_3_method_6_code 59 = .ok (.goto (-54), 3) := by decide +kernel
theorem d_3_6_62 : decode prog_3_method_6_code 62 = .ok (.lload_n 2, 1) := by decide +kernel
theorem d_3_6_63 : decode prog_3_method_6_code 63 = .ok (.lreturn, 1) := by decide +kernel
theorem d_3_7_0 : decode prog_3_method_7_code 0 = .ok (.aload_n 0, 1) := by decide +kernel
theorem d_3_7_1 : decode prog_3_method_7_code 1 = .ok (.invokevirtual 42, 3) := by decide +kernel
theorem d_3_7_4 : decode prog_3_method_7_code 4 = .ok (.lconst 0, 1) := by decide +kernel
theorem d_3_7_5 : decode prog_3_method_7_code 5 = .ok (.lstore_n 1, 1) := by decide +kernel
theorem d_3_7_6 : decode prog_3_method_7_code 6 = .ok (.iconst 0, 1) := by decide +kernel
theorem d_3_7_7 : decode prog_3_method_7_code 7 = .ok (.istore_n 3, 1) := by decide +kernel
theorem d_3_7_8 : decode prog_3_method_7_code 8 = .ok (.iload_n 3, 1) := by decide +kernel
theorem d_3_7_9 : decode prog_3_method_7_code 9 = .ok (.aload_n 0, 1) := by decide +kernel
theorem d_3_7_10 : decode prog_3_method_7_code 10 = .ok (.getfield 22, 3) := by decide +kernel
theorem d_3_7_13 : decode prog_3_method_7_code 13 = .ok (.if_icmp .ge 17, 3) := by decide +kernel
theorem d_3_7_16 : decode prog_3_method_7_code 16 = .ok (.lload_n 1, 1) := by decide +kernel
theorem d_3_7_17 : decode prog_3_method_7_code 17 = .ok (.aload_n 0, 1) := by decide +kernel
theorem d_3_7_18 : decode prog_3_method_7_code 18 = .ok (.iload_n 3, 1) := by decide +kernel
theorem d_3_7_19 : decode prog_3_method_7_code 19 = .ok (.invokevirtual 45, 3) := by decide +kernel
theorem d_3_7_22 : decode prog_3_method_7_code 22 = .ok (.ladd, 1) := by decide +kernel
theorem d_3_7_23 : decode prog_3_method_7_code 23 = .ok (.lstore_n 1, 1) := by decide +kernel
theorem d_3_7_24 : decode prog_3_method_7_code 24 = .ok (.iinc 3 1, 3) := by decide +kernel
theorem d_3_7_27 : decode prog_3_method_7_code 27 = .ok (.goto (-19), 3) := by decide +kernel
theorem d_3_7_30 : decode prog_3_method_7_code 30 = .ok (.lload_n 1, 1) := by decide +kernel
theorem d_3_7_31 : decode prog_3_method_7_code 31 = .ok (.lconst 0, 1) := by decide +kernel
theorem d_3_7_32 : decode prog_3_method_7_code 32 = .ok (.lcmp, 1) := by decide +kernel
theorem d_3_7_33 : decode prog_3_method_7_code 33 = .ok (.ifCond .eq 20, 3) := by decide +kernel
theorem d_3_7_36 : decode prog_3_method_7_code 36 = .ok (.lload_n 1, 1) := by decide +kernel
theorem d_3_7_37 : decode prog_3_method_7_code 37 = .ok (.getstatic 38, 3) := by decide +kernel
theorem d_3_7_40 : decode prog_3_method_7_code 40 = .ok (.aload_n 0, 1) := by decide +kernel
theorem d_3_7_41 : decode prog_3_method_7_code 41 = .ok (.getfield 22, 3) := by decide +kernel
theorem d_3_7_44 : decode prog_3_method_7_code 44 = .ok (.laload, 1) := by decide +kernel
theorem d_3_7_45 : decode prog_3_method_7_code 45 = .ok (.lcmp, 1) := by decide +kernel
theorem d_3_7_46 : decode prog_3_method_7_code 46 = .ok (.ifCond .eq 7, 3) := by decide +kernel
theorem d_3_7_49 : decode prog_3_method_7_code 49 = .ok (.iconst 1, 1) := by decide +kernel
theorem d_3_7_50 : decode prog_3_method_7_code 50 = .ok (.goto 4, 3) := by decide +kernel
theorem d_3_7_53 : decode prog_3_method_7_code 53 = .ok (.iconst 0, 1) := by decide +kernel
theorem d_3_7_54 : decode prog_3_method_7_code 54 = .ok (.ireturn, 1) := by decide +kernel
theorem d_43_101_0 : decode prog_43_method_101_code 0 = .ok (.iconst 0, 1) := by decide +kernel
theorem d_43_101_1 : decode prog_43_method_101_code 1 = .ok (.istore_n 3, 1) := by decide +kernel
theorem d_43_101_2 : decode prog_43_method_101_code 2 = .ok (.aload_n 0, 1) := by decide +kernel
theorem d_43_101_3 : decode prog_43_method_101_code 3 = .ok (.arraylength, 1) := by decide +kernel
theorem d_43_101_4 : decode prog_43_method_101_code 4 = .ok (.istore 4, 2) := by decide +kernel
theorem d_43_101_6 : decode prog_43_method_101_code 6 = .ok (.iload_n 3, 1) := by decide +kernel
theorem d_43_101_7 : decode prog_43_method_101_code 7 = .ok (.iload 4, 2) := by decide +kernel
theorem d_43_101_9 : decode prog_43_method_101_code 9 = .ok (.if_icmp .ge 13, 3) := by decide +kernel
theorem d_43_101_12 : decode prog_43_method_101_code 12 = .ok (.aload_n 0, 1) := by decide +kernel
theorem d_43_101_13 : decode prog_43_method_101_code 13 = .ok (.iload_n 3, 1) := by decide +kernel
theorem d_43_101_14 : decode prog_43_method_101_code 14 = .ok (.lload_n 1, 1) := by decide +kernel
theorem d_43_101_15 : decode prog_43_method_101_code 15 = .ok (.lastore, 1) := by decide +kernel
theorem d_43_101_16 : decode prog_43_method_101_code 16 = .ok (.iinc 3 1, 3) := by decide +kernel
theorem d_43_101_19 : decode prog_43_method_101_code 19 = .ok (.goto (-13), 3) := by decide +kernel
theorem d_43_101_22 : decode prog_43_method_101_code 22 = .ok (.return_, 1) := by decide +kernel
theorem d_43_103_0 : decode prog_43_method_103_code 0 = .ok (.iconst 0, 1) := by decide +kernel
theorem d_43_103_1 : decode prog_43_method_103_code 1 = .ok (.istore_n 2, 1) := by decide +kernel
theorem d_43_103_2 : decode prog_43_method_103_code 2 = .ok (.aload_n 0, 1) := by decide +kernel
theorem d_43_103_3 : decode prog_43_method_103_code 3 = .ok (.arraylength, 1) := by decide +kernel
theorem d_43_103_4 : decode prog_43_method_103_code 4 = .ok (.istore_n 3, 1) := by decide +kernel
theorem d_43_103_5 : decode prog_43_method_103_code 5 = .ok (.iload_n 2, 1) := by decide +kernel
theorem d_43_103_6 : decode prog_43_method_103_code 6 = .ok (.iload_n 3, 1) := by decide +kernel
theorem d_43_103_7 : decode prog_43_method_103_code 7 = .ok (.if_icmp .ge 13, 3) := by decide +kernel
theorem d_43_103_10 : decode prog_43_method_103_code 10 = .ok (.aload_n 0, 1) := by decide +kernel
theorem d_43_103_11 : decode prog_43_method_103_code 11 = .ok (.iload_n 2, 1) := by decide +kernel
theorem d_43_103_12 : decode prog_43_method_103_code 12 = .ok (.iload_n 1, 1) := by decide +kernel
theorem d_43_103_13 : decode prog_43_method_103_code 13 = .ok (.iastore, 1) := by decide +kernel
theorem d_43_103_14 : decode prog_43_method_103_code 14 = .ok (.iinc 2 1, 3) := by decide +kernel
theorem d_43_103_17 : decode prog_43_method_103_code 17 = .ok (.goto (-12), 3) := by decide +kernel
theorem d_43_103_20 : decode prog_43_method_103_code 20 = .ok (.return_, 1) := by decide +kernel
theorem d_43_131_0 : decode prog_43_method_131_code 0 = .ok (.iload_n 1, 1) := by decide +kernel
theorem d_43_131_1 : decode prog_43_method_131_code 1 = .ok (.iload_n 0, 1) := by decide +kernel
theorem d_43_131_2 : decode prog_43_method_131_code 2 = .ok (.if_icmp .ge 35, 3) := by decide +kernel
theorem d_43_131_37 : decode prog_43_method_131_code 37 = .ok (.return_, 1) := by decide +kernel
theorem d_43_132_0 : decode prog_43_method_132_code 0 = .ok (.iload_n 1, 1) := by decide +kernel
theorem d_43_132_1 : decode prog_43_method_132_code 1 = .ok (.ifCond .ne 9, 3) := by decide +kernel
theorem d_43_132_4 : decode prog_43_method_132_code 4 = .ok (.iload_n 2, 1) := by decide +kernel
theorem d_43_132_5 : decode prog_43_method_132_code 5 = .ok (.aload_n 0, 1) := by decide +kernel
theorem d_43_132_6 : decode prog_43_method_132_code 6 = .ok (.arraylength, 1) := by decide +kernel
theorem d_43_132_7 : decode prog_43_method_132_code 7 = .ok (.if_icmp .eq 10, 3) := by decide +kernel
theorem d_43_132_10 : decode prog_43_method_132_code 10 = .ok (.aload_n 0, 1) := by decide +kernel
theorem d_43_132_11 : decode prog_43_method_132_code 11 = .ok (.iload_n 1, 1) := by decide +kernel
theorem d_43_132_12 : decode prog_43_method_132_code 12 = .ok (.iload_n 2, 1) := by decide +kernel
theorem d_43_132_13 : decode prog_43_method_132_code 13 = .ok (.invokestatic 339, 3) := by decide +kernel
theorem d_43_132_16 : decode prog_43_method_132_code 16 = .ok (.areturn, 1) := by decide +kernel
theorem d_43_133_0 : decode prog_43_method_133_code 0 = .ok (.iload_n 1, 1) := by decide +kernel
theorem d_43_133_1 : decode prog_43_method_133_code 1 = .ok (.iload_n 2, 1) := by decide +kernel
theorem d_43_133_2 : decode prog_43_method_133_code 2 = .ok (.invokestatic 343, 3) := by decide +kernel
theorem d_43_133_5 : decode prog_43_method_133_code 5 = .ok (.iload_n 2, 1) := by decide +kernel
theorem d_43_133_6 : decode prog_43_method_133_code 6 = .ok (.iload_n 1, 1) := by decide +kernel
theorem d_43_133_7 : decode prog_43_method_133_code 7 = .ok (.isub, 1) := by decide +kernel
theorem d_43_133_8 : decode prog_43_method_133_code 8 = .ok (.istore_n 3, 1) := by decide +kernel
theorem d_43_133_9 : decode prog_43_method_133_code 9 = .ok (.iload_n 3, 1) := by decide +kernel
theorem d_43_133_10 : decode prog_43_method_133_code 10 = .ok (.newarray .byte, 2) := by decide +kernel
theorem d_43_133_12 : decode prog_43_method_133_code 12 = .ok (.astore 4, 2) := by decide +kernel
theorem d_43_133_14 : decode prog_43_method_133_code 14 = .ok (.aload_n 0, 1) := by decide +kernel
theorem d_43_133_15 : decode prog_43_method_133_code 15 = .ok (.iload_n 1, 1) := by decide +kernel
theorem d_43_133_16 : decode prog_43_method_133_code 16 = .ok (.aload 4, 2) := by decide +kernel
theorem d_43_133_18 : decode prog_43_method_133_code 18 = .ok (.iconst 0, 1) := by decide +kernel
theorem d_43_133_19 : decode prog_43_method_133_code 19 = .ok (.aload_n 0, 1) := by decide +kernel
theorem d_43_133_20 : decode prog_43_method_133_code 20 = .ok (.arraylength, 1) := by decide +kernel
theorem d_43_133_21 : decode prog_43_method_133_code 21 = .ok (.iload_n 1, 1) := by decide +kernel
theorem d_43_133_22 : decode prog_43_method_133_code 22 = .ok (.isub, 1) := by decide +kernel
theorem d_43_133_23 : decode prog_43_method_133_code 23 = .ok (.iload_n 3, 1) := by decide +kernel
theorem d_43_133_24 : decode prog_43_method_133_code 24 = .ok (.invokestatic 304, 3) := by decide +kernel
theorem d_43_133_27 : decode prog_43_method_133_code 27 = .ok (.invokestatic 150, 3) := by decide +kernel
theorem d_43_133_30 : decode prog_43_method_133_code 30 = .ok (.aload 4, 2) := by decide +kernel
theorem d_43_133_32 : decode prog_43_method_133_code 32 = .ok (.areturn, 1) := by decide +kernel
theorem d_46_11_0 : decode prog_46_method_11_code 0 = .ok (.iload_n 0, 1) := by decide +kernel
theorem d_46_11_1 : decode prog_46_method_11_code 1 = .ok (.ifCond .lt 8, 3) := by decide +kernel
theorem d_46_11_4 : decode prog_46_method_11_code 4 = .ok (.iload_n 0, 1) := by decide +kernel
theorem d_46_11_5 : decode prog_46_method_11_code 5 = .ok (.iload_n 1, 1) := by decide +kernel
theorem d_46_11_6 : decode prog_46_method_11_code 6 = .ok (.if_icmp .lt 10, 3) := by decide +kernel
theorem d_46_11_16 : decode prog_46_method_11_code 16 = .ok (.iload_n 0, 1) := by decide +kernel
theorem d_46_11_17 : decode prog_46_method_11_code 17 = .ok (.ireturn, 1) := by decide +kernel
theorem d_4_1_0 : decode prog_4_method_1_code 0 = .ok (.aload_n 0, 1) := by decide +kernel
theorem d_4_1_1 : decode prog_4_method_1_code 1 = .ok (.invokespecial 3, 3) := by decide +kernel
