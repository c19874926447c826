theorem d_10_14_111 : decode prog_10_method_14_code 111 = .ok (.invokevirtual 31, 3) := by decide +kernel
theorem d_10_14_114 : decode prog_10_method_14_code 114 = .ok (.return_, 1) := by decide +kernel
theorem d_10_15_0 : decode prog_10_method_15_code 0 = .ok (.aload_n 1, 1) := by decide +kernel
theorem d_10_15_1 : decode prog_10_method_15_code 1 = .ok (.getfield 15, 3) := by decide +kernel
theorem d_10_15_4 : decode prog_10_method_15_code 4 = .ok (.iconst 1, 1) := by decide +kernel
theorem d_10_15_5 : decode prog_10_method_15_code 5 = .ok (.if_icmp .gt 35, 3) := by decide +kernel
theorem d_10_15_8 : decode prog_10_method_15_code 8 = .ok (.aload_n 2, 1) := by decide +kernel
theorem d_10_15_9 : decode prog_10_method_15_code 9 = .ok (.aload_n 0, 1) := by decide +kernel
theorem d_10_15_10 : decode prog_10_method_15_code 10 = .ok (.invokevirtual 51, 3) := by decide +kernel
theorem d_10_15_13 : decode prog_10_method_15_code 13 = .ok (.aload_n 0, 1) := by decide +kernel
theorem d_10_15_14 : decode prog_10_method_15_code 14 = .ok (.aload_n 1, 1) := by decide +kernel
theorem d_10_15_15 : decode prog_10_method_15_code 15 = .ok (.getfield 15, 3) := by decide +kernel
theorem d_10_15_18 : decode prog_10_method_15_code 18 = .ok (.ifCond .ne 7, 3) := by decide +kernel
theorem d_10_15_21 : decode prog_10_method_15_code 21 = .ok (.lconst 0, 1) := by decide +kernel
theorem d_10_15_22 : decode prog_10_method_15_code 22 = .ok (.goto 14, 3) := by decide +kernel
theorem d_10_15_25 : decode prog_10_method_15_code 25 = .ok (.aload_n 2, 1) := by decide +kernel
theorem d_10_15_26 : decode prog_10_method_15_code 26 = .ok (.aload_n 1, 1) := by decide +kernel
theorem d_10_15_27 : decode prog_10_method_15_code 27 = .ok (.getfield 9, 3) := by decide +kernel
theorem d_10_15_30 : decode prog_10_method_15_code 30 = .ok (.iconst 0, 1) := by decide +kernel
theorem d_10_15_31 : decode prog_10_method_15_code 31 = .ok (.iaload, 1) := by decide +kernel
theorem d_10_15_32 : decode prog_10_method_15_code 32 = .ok (.invokevirtual 55, 3) := by decide +kernel
theorem d_10_15_35 : decode prog_10_method_15_code 35 = .ok (.i2l, 1) := by decide +kernel
theorem d_10_15_36 : decode prog_10_method_15_code 36 = .ok (.invokevirtual 58, 3) := by decide +kernel
theorem d_10_15_39 : decode prog_10_method_15_code 39 = .ok (.return_, 1) := by decide +kernel
theorem d_10_15_40 : decode prog_10_method_15_code 40 = .ok (.iconst 0, 1) := by decide +kernel
theorem d_10_15_41 : decode prog_10_method_15_code 41 = .ok (.istore 4, 2) := by decide +kernel
theorem d_10_15_43 : decode prog_10_method_15_code 43 = .ok (.iload 4, 2) := by decide +kernel
theorem d_10_15_45 : decode prog_10_method_15_code 45 = .ok (.bipush 30, 2) := by decide +kernel
theorem d_10_15_47 : decode prog_10_method_15_code 47 = .ok (.if_icmp .ge 29, 3) := by decide +kernel
theorem d_10_15_50 : decode prog_10_method_15_code 50 = .ok (.aload_n 1, 1) := by decide +kernel
theorem d_10_15_51 : decode prog_10_method_15_code 51 = .ok (.getfield 9, 3) := by decide +kernel
theorem d_10_15_54 : decode prog_10_method_15_code 54 = .ok (.aload_n 1, 1) := by decide +kernel
theorem d_10_15_55 : decode prog_10_method_15_code 55 = .ok (.getfield 15, 3) := by decide +kernel
theorem d_10_15_58 : decode prog_10_method_15_code 58 = .ok (.iconst 1, 1) := by decide +kernel
theorem d_10_15_59 : decode prog_10_method_15_code 59 = .ok (.isub, 1) := by decide +kernel
theorem d_10_15_60 : decode prog_10_method_15_code 60 = .ok (.iaload, 1) := by decide +kernel
theorem d_10_15_61 : decode prog_10_method_15_code 61 = .ok (.iload 4, 2) := by decide +kernel
theorem d_10_15_63 : decode prog_10_method_15_code 63 = .ok (.ishl, 1) := by decide +kernel
theorem d_10_15_64 : decode prog_10_method_15_code 64 = .ok (.bipush 29, 2) := by decide +kernel
theorem d_10_15_66 : decode prog_10_method_15_code 66 = .ok (.ishr, 1) := by decide +kernel
theorem d_10_15_67 : decode prog_10_method_15_code 67 = .ok (.ifCond .ne 9, 3) := by decide +kernel
theorem d_10_15_70 : decode prog_10_method_15_code 70 = .ok (.iinc 4 1, 3) := by decide +kernel
theorem d_10_15_73 : decode prog_10_method_15_code 73 = .ok (.goto (-30), 3) := by decide +kernel
theorem d_10_15_76 : decode prog_10_method_15_code 76 = .ok (.aload_n 3, 1) := by decide +kernel
theorem d_10_15_77 : decode prog_10_method_15_code 77 = .ok (.aload_n 1, 1) := by decide +kernel
theorem d_10_15_78 : decode prog_10_method_15_code 78 = .ok (.invokevirtual 51, 3) := by decide +kernel
theorem d_10_15_81 : decode prog_10_method_15_code 81 = .ok (.aload_n 3, 1) := by decide +kernel
theorem d_10_15_82 : decode prog_10_method_15_code 82 = .ok (.iconst 1, 1) := by decide +kernel
theorem d_10_15_83 : decode prog_10_method_15_code 83 = .ok (.iload 4, 2) := by decide +kernel
theorem d_10_15_85 : decode prog_10_method_15_code 85 = .ok (.ishl, 1) := by decide +kernel
theorem d_10_15_86 : decode prog_10_method_15_code 86 = .ok (.invokevirtual 62, 3) := by decide +kernel
theorem d_10_15_89 : decode prog_10_method_15_code 89 = .ok (.aload_n 0, 1) := by decide +kernel
theorem d_10_15_90 : decode prog_10_method_15_code 90 = .ok (.iconst 1, 1) := by decide +kernel
theorem d_10_15_91 : decode prog_10_method_15_code 91 = .ok (.iload 4, 2) := by decide +kernel
theorem d_10_15_93 : decode prog_10_method_15_code 93 = .ok (.ishl, 1) := by decide +kernel
theorem d_10_15_94 : decode prog_10_method_15_code 94 = .ok (.invokevirtual 62, 3) := by decide +kernel
theorem d_10_15_97 : decode prog_10_method_15_code 97 = .ok (.aload_n 0, 1) := by decide +kernel
theorem d_10_15_98 : decode prog_10_method_15_code 98 = .ok (.getfield 15, 3) := by decide +kernel
theorem d_10_15_101 : decode prog_10_method_15_code 101 = .ok (.istore 5, 2) := by decide +kernel
theorem d_10_15_103 : decode prog_10_method_15_code 103 = .ok (.iload 5, 2) := by decide +kernel
theorem d_10_15_105 : decode prog_10_method_15_code 105 = .ok (.bipush 13, 2) := by decide +kernel
theorem d_10_15_107 : decode prog_10_method_15_code 107 = .ok (.if_icmp .ge 17, 3) := by decide +kernel
theorem d_10_15_110 : decode prog_10_method_15_code 110 = .ok (.aload_n 0, 1) := by decide +kernel
theorem d_10_15_111 : decode prog_10_method_15_code 111 = .ok (.getfield 9, 3) := by decide +kernel
theorem d_10_15_114 : decode prog_10_method_15_code 114 = .ok (.iload 5, 2) := by decide +kernel
theorem d_10_15_116 : decode prog_10_method_15_code 116 = .ok (.iconst 0, 1) := by decide +kernel
theorem d_10_15_117 : decode prog_10_method_15_code 117 = .ok (.iastore, 1) := by decide +kernel
theorem d_10_15_118 : decode prog_10_method_15_code 118 = .ok (.iinc 5 1, 3) := by decide +kernel
theorem d_10_15_121 : decode prog_10_method_15_code 121 = .ok (.goto (-18), 3) := by decide +kernel
theorem d_10_15_124 : decode prog_10_method_15_code 124 = .ok (.aload_n 2, 1) := by decide +kernel
theorem d_10_15_125 : decode prog_10_method_15_code 125 = .ok (.getfield 9, 3) := by decide +kernel
theorem d_10_15_128 : decode prog_10_method_15_code 128 = .ok (.iconst 0, 1) := by decide +kernel
theorem d_10_15_129 : decode prog_10_method_15_code 129 = .ok (.invokestatic 45, 3) := by decide +kernel
theorem d_10_15_132 : decode prog_10_method_15_code 132 = .ok (.aload_n 0, 1) := by decide +kernel
theorem d_10_15_133 : decode prog_10_method_15_code 133 = .ok (.getfield 15, 3) := by decide +kernel
theorem d_10_15_136 : decode prog_10_method_15_code 136 = .ok (.bipush 12, 2) := by decide +kernel
theorem d_10_15_138 : decode prog_10_method_15_code 138 = .ok (.invokestatic 35, 3) := by decide +kernel
theorem d_10_15_141 : decode prog_10_method_15_code 141 = .ok (.aload_n 3, 1) := by decide +kernel
theorem d_10_15_142 : decode prog_10_method_15_code 142 = .ok (.getfield 15, 3) := by decide +kernel
theorem d_10_15_145 : decode prog_10_method_15_code 145 = .ok (.isub, 1) := by decide +kernel
theorem d_10_15_146 : decode prog_10_method_15_code 146 = .ok (.istore 5, 2) := by decide +kernel
theorem d_10_15_148 : decode prog_10_method_15_code 148 = .ok (.iload 5, 2) := by decide +kernel
theorem d_10_15_150 : decode prog_10_method_15_code 150 = .ok (.ifCond .lt 23, 3) := by decide +kernel
theorem d_10_15_153 : decode prog_10_method_15_code 153 = .ok (.aload_n 2, 1) := by decide +kernel
theorem d_10_15_154 : decode prog_10_method_15_code 154 = .ok (.getfield 9, 3) := by decide +kernel
theorem d_10_15_157 : decode prog_10_method_15_code 157 = .ok (.iload 5, 2) := by decide +kernel
theorem d_10_15_159 : decode prog_10_method_15_code 159 = .ok (.aload_n 0, 1) := by decide +kernel
theorem d_10_15_160 : decode prog_10_method_15_code 160 = .ok (.aload_n 3, 1) := by decide +kernel
theorem d_10_15_161 : decode prog_10_method_15_code 161 = .ok (.iload 5, 2) := by decide +kernel
theorem d_10_15_163 : decode prog_10_method_15_code 163 = .ok (.invokevirtual 65, 3) := by decide +kernel
theorem d_10_15_166 : decode prog_10_method_15_code 166 = .ok (.iastore, 1) := by decide +kernel
theorem d_10_15_167 : decode prog_10_method_15_code 167 = .ok (.iinc 5 (-1), 3) := by decide +kernel
theorem d_10_15_170 : decode prog_10_method_15_code 170 = .ok (.goto (-22), 3) := by decide +kernel
theorem d_10_15_173 : decode prog_10_method_15_code 173 = .ok (.aload_n 2, 1) := by decide +kernel
theorem d_10_15_174 : decode prog_10_method_15_code 174 = .ok (.bipush 13, 2) := by decide +kernel
theorem d_10_15_176 : decode prog_10_method_15_code 176 = .ok (.invokevirtual 31, 3) := by decide +kernel
theorem d_10_15_179 : decode prog_10_method_15_code 179 = .ok (.aload_n 0, 1) := by decide +kernel
theorem d_10_15_180 : decode prog_10_method_15_code 180 = .ok (.bipush 13, 2) := by decide +kernel
theorem d_10_15_182 : decode prog_10_method_15_code 182 = .ok (.invokevirtual 31, 3) := by decide +kernel
theorem d_10_15_185 : decode prog_10_method_15_code 185 = .ok (.aload_n 0, 1) := by decide +kernel
theorem d_10_15_186 : decode prog_10_method_15_code 186 = .ok (.iconst 1, 1) := by decide +kernel
theorem d_10_15_187 : decode prog_10_method_15_code 187 = .ok (.iload 4, 2) := by decide +kernel
theorem d_10_15_189 : decode prog_10_method_15_code 189 = .ok (.ishl, 1) := by decide +kernel
theorem d_10_15_190 : decode prog_10_method_15_code 190 = .ok (.invokevirtual 55, 3) := by decide +kernel
theorem d_10_15_193 : decode prog_10_method_15_code 193 = .ok (.pop, 1) := by decide +kernel
theorem d_10_15_194 : decode prog_10_method_15_code 194 = .ok (.return_, 1) := by decide +kernel
theorem d_10_16_0 : decode prog_10_method_16_code 0 = .ok (.iload_n 2, 1) := by decide +kernel
theorem d_10_16_1 : decode prog_10_method_16_code 1 = .ok (.aload_n 1, 1) := by decide +kernel
theorem d_10_16_2 : decode prog_10_method_16_code 2 = .ok (.getfield 15, 3) := by decide +kernel
theorem d_10_16_5 : decode prog_10_method_16_code 5 = .ok (.iadd, 1) := by decide +kernel
theorem d_10_16_6 : decode prog_10_method_16_code 6 = .ok (.istore_n 3, 1) := by decide +kernel
theorem d_10_16_7 : decode prog_10_method_16_code 7 = .ok (.aload_n 1, 1) := by decide +kernel
theorem d_10_16_8 : decode prog_10_method_16_code 8 = .ok (.getfield 9, 3) := by decide +kernel
theorem d_10_16_11 : decode prog_10_method_16_code 11 = .ok (.aload_n 1, 1) := by decide +kernel
theorem d_10_16_12 : decode prog_10_method_16_code 12 = .ok (.getfield 15, 3) := by decide +kernel
theorem d_10_16_15 : decode prog_10_method_16_code 15 = .ok (.iconst 1, 1) := by decide +kernel
theorem d_10_16_16 : decode prog_10_method_16_code 16 = .ok (.isub, 1) := by decide +kernel
theorem d_10_16_17 : decode prog_10_method_16_code 17 = .ok (.iaload, 1) := by decide +kernel
theorem d_10_16_18 : decode prog_10_method_16_code 18 = .ok (.i2l, 1) := by decide +kernel
theorem d_10_16_19 : decode prog_10_method_16_code 19 = .ok (.lstore 4, 2) := by decide +kernel
theorem d_10_16_21 : decode prog_10_method_16_code 21 = .ok (.lload 4, 2) := by decide +kernel
theorem d_10_16_23 : decode prog_10_method_16_code 23 = .ok (.lconst 0, 1) := by decide +kernel
theorem d_10_16_24 : decode prog_10_method_16_code 24 = .ok (.lcmp, 1) := by decide +kernel
theorem d_10_16_25 : decode prog_10_method_16_code 25 = .ok (.ifCond .ne 5, 3) := by decide +kernel
theorem d_10_16_28 : decode prog_10_method_16_code 28 = .ok (.iconst 0, 1) := by decide +kernel
theorem d_10_16_29 : decode prog_10_method_16_code 29 = .ok (.ireturn, 1) := by decide +kernel
theorem d_10_16_30 : decode prog_10_method_16_code 30 = .ok (.aload_n 0, 1) := by decide +kernel
theorem d_10_16_31 : decode prog_10_method_16_code 31 = .ok (.getfield 9, 3) := by decide +kernel
theorem d_10_16_34 : decode prog_10_method_16_code 34 = .ok (.iload_n 3, 1) := by decide +kernel
theorem d_10_16_35 : decode prog_10_method_16_code 35 = .ok (.iaload, 1) := by decide +kernel
theorem d_10_16_36 : decode prog_10_method_16_code 36 = .ok (.i2l, 1) := by decide +kernel
theorem d_10_16_37 : decode prog_10_method_16_code 37 = .ok (.bipush 30, 2) := by decide +kernel
theorem d_10_16_39 : decode prog_10_method_16_code 39 = .ok (.lshl, 1) := by decide +kernel
theorem d_10_16_40 : decode prog_10_method_16_code 40 = .ok (.aload_n 0, 1) := by decide +kernel
theorem d_10_16_41 : decode prog_10_method_16_code 41 = .ok (.getfield 9, 3) := by decide +kernel
theorem d_10_16_44 : decode prog_10_method_16_code 44 = .ok (.iload_n 3, 1) := by decide +kernel
theorem d_10_16_45 : decode prog_10_method_16_code 45 = .ok (.iconst 1, 1) := by decide +kernel
theorem d_10_16_46 : decode prog_10_method_16_code 46 = .ok (.isub, 1) := by decide +kernel
theorem d_10_16_47 : decode prog_10_method_16_code 47 = .ok (.iaload, 1) := by decide +kernel
theorem d_10_16_48 : decode prog_10_method_16_code 48 = .ok (.i2l, 1) := by decide +kernel
theorem d_10_16_49 : decode prog_10_method_16_code 49 = .ok (.ladd, 1) := by decide +kernel
theorem d_10_16_50 : decode prog_10_method_16_code 50 = .ok (.lstore 6, 2) := by decide +kernel
theorem d_10_16_52 : decode prog_10_method_16_code 52 = .ok (.lload 6, 2) := by decide +kernel
theorem d_10_16_54 : decode prog_10_method_16_code 54 = .ok (.lload 4, 2) := by decide +kernel
theorem d_10_16_56 : decode prog_10_method_16_code 56 = .ok (.ldiv, 1) := by decide +kernel
theorem d_10_16_57 : decode prog_10_method_16_code 57 = .ok (.ldc2_w 19, 3) := by decide +kernel
theorem d_10_16_60 : decode prog_10_method_16_code 60 = .ok (.invokestatic 69, 3) := by decide +kernel
theorem d_10_16_63 : decode prog_10_method_16_code 63 = .ok (.lstore 8, 2) := by decide +kernel
theorem d_10_16_65 : decode prog_10_method_16_code 65 = .ok (.lload 6, 2) := by decide +kernel
theorem d_10_16_67 : decode prog_10_method_16_code 67 = .ok (.lload 8, 2) := by decide +kernel
theorem d_10_16_69 : decode prog_10_method_16_code 69 = .ok (.lload 4, 2) := by decide +kernel
theorem d_10_16_71 : decode prog_10_method_16_code 71 = .ok (.lmul, 1) := by decide +kernel
theorem d_10_16_72 : decode prog_10_method_16_code 72 = .ok (.lsub, 1) := by decide +kernel
theorem d_10_16_73 : decode prog_10_method_16_code 73 = .ok (.lstore 10, 2) := by decide +kernel
theorem d_10_16_75 : decode prog_10_method_16_code 75 = .ok (.iconst 0, 1) := by decide +kernel
theorem d_10_16_76 : decode prog_10_method_16_code 76 = .ok (.istore 12, 2) := by decide +kernel
theorem d_10_16_78 : decode prog_10_method_16_code 78 = .ok (.iload 12, 2) := by decide +kernel
theorem d_10_16_80 : decode prog_10_method_16_code 80 = .ok (.iconst 2, 1) := by decide +kernel
theorem d_10_16_81 : decode prog_10_method_16_code 81 = .ok (.if_icmp .ge 65, 3) := by decide +kernel
theorem d_10_16_84 : decode prog_10_method_16_code 84 = .ok (.lload 10, 2) := by decide +kernel
theorem d_10_16_86 : decode prog_10_method_16_code 86 = .ok (.ldc2_w 19, 3) := by decide +kernel
theorem d_10_16_89 : decode prog_10_method_16_code 89 = .ok (.lcmp, 1) := by decide +kernel
theorem d_10_16_90 : decode prog_10_method_16_code 90 = .ok (.ifCond .gt 56, 3) := by decide +kernel
theorem d_10_16_93 : decode prog_10_method_16_code 93 = .ok (.lload 8, 2) := by decide +kernel
theorem d_10_16_95 : decode prog_10_method_16_code 95 = .ok (.aload_n 1, 1) := by decide +kernel
theorem d_10_16_96 : decode prog_10_method_16_code 96 = .ok (.getfield 9, 3) := by decide +kernel
theorem d_10_16_99 : decode prog_10_method_16_code 99 = .ok (.aload_n 1, 1) := by decide +kernel
theorem d_10_16_100 : decode prog_10_method_16_code 100 = .ok (.getfield 15, 3) := by decide +kernel
theorem d_10_16_103 : decode prog_10_method_16_code 103 = .ok (.iconst 2, 1) := by decide +kernel
theorem d_10_16_104 : decode prog_10_method_16_code 104 = .ok (.isub, 1) := by decide +kernel
theorem d_10_16_105 : decode prog_10_method_16_code 105 = .ok (.iaload, 1) := by decide +kernel
theorem d_10_16_106 : decode prog_10_method_16_code 106 = .ok (.i2l, 1) := by decide +kernel
theorem d_10_16_107 : decode prog_10_method_16_code 107 = .ok (.lmul, 1) := by decide +kernel
theorem d_10_16_108 : decode prog_10_method_16_code 108 = .ok (.lload 10, 2) := by decide +kernel
theorem d_10_16_110 : decode prog_10_method_16_code 110 = .ok (.bipush 30, 2) := by decide +kernel
theorem d_10_16_112 : decode prog_10_method_16_code 112 = .ok (.lshl, 1) := by decide +kernel
theorem d_10_16_113 : decode prog_10_method_16_code 113 = .ok (.aload_n 0, 1) := by decide +kernel
theorem d_10_16_114 : decode prog_10_method_16_code 114 = .ok (.getfield 9, 3) := by decide +kernel
theorem d_10_16_117 : decode prog_10_method_16_code 117 = .ok (.iload_n 3, 1) := by decide +kernel
theorem d_10_16_118 : decode prog_10_method_16_code 118 = .ok (.iconst 2, 1) := by decide +kernel
theorem d_10_16_119 : decode prog_10_method_16_code 119 = .ok (.isub, 1) := by decide +kernel
theorem d_10_16_120 : decode prog_10_method_16_code 120 = .ok (.iaload, 1) := by decide +kernel
theorem d_10_16_121 : decode prog_10_method_16_code 121 = .ok (.i2l, 1) := by decide +kernel
theorem d_10_16_122 : decode prog_10_method_16_code 122 = .ok (.ladd, 1) := by decide +kernel
theorem d_10_16_123 : decode prog_10_method_16_code 123 = .ok (.lcmp, 1) := by decide +kernel
theorem d_10_16_124 : decode prog_10_method_16_code 124 = .ok (.ifCond .le 16, 3) := by decide +kernel
theorem d_10_16_127 : decode prog_10_method_16_code 127 = .ok (.lload 8, 2) := by decide +kernel
theorem d_10_16_129 : decode prog_10_method_16_code 129 = .ok (.lconst 1, 1) := by decide +kernel
theorem d_10_16_130 : decode prog_10_method_16_code 130 = .ok (.lsub, 1) := by decide +kernel
theorem d_10_16_131 : decode prog_10_method_16_code 131 = .ok (.lstore 8, 2) := by decide +kernel
theorem d_10_16_133 : decode prog_10_method_16_code 133 = .ok (.lload 10, 2) := by decide +kernel
theorem d_10_16_135 : decode prog_10_method_16_code 135 = .ok (.lload 4, 2) := by decide +kernel
theorem d_10_16_137 : decode prog_10_method_16_code 137 = .ok (.ladd, 1) := by decide +kernel
theorem d_10_16_138 : decode prog_10_method_16_code 138 = .ok (.lstore 10, 2) := by decide +kernel
theorem d_10_16_140 : decode prog_10_method_16_code 140 = .ok (.iinc 12 1, 3) := by decide +kernel
theorem d_10_16_143 : decode prog_10_method_16_code 143 = .ok (.goto (-65), 3) := by decide +kernel
theorem d_10_16_146 : decode prog_10_method_16_code 146 = .ok (.aload_n 0, 1) := by decide +kernel
theorem d_10_16_147 : decode prog_10_method_16_code 147 = .ok (.aload_n 1, 1) := by decide +kernel
theorem d_10_16_148 : decode prog_10_method_16_code 148 = .ok (.iload_n 2, 1) := by decide +kernel
theorem d_10_16_149 : decode prog_10_method_16_code 149 = .ok (.lload 8, 2) := by decide +kernel
theorem d_10_16_151 : decode prog_10_method_16_code 151 = .ok (.invokevirtual 72, 3) := by decide +kernel
theorem d_10_16_154 : decode prog_10_method_16_code 154 = .ok (.lconst 0, 1) := by decide +kernel
theorem d_10_16_155 : decode prog_10_method_16_code 155 = .ok (.lcmp, 1) := by decide +kernel
theorem d_10_16_156 : decode prog_10_method_16_code 156 = .ok (.ifCond .ge 19, 3) := by decide +kernel
theorem d_10_16_159 : decode prog_10_method_16_code 159 = .ok (.lload 8, 2) := by decide +kernel
theorem d_10_16_161 : decode prog_10_method_16_code 161 = .ok (.lconst 1, 1) := by decide +kernel
theorem d_10_16_162 : decode prog_10_method_16_code 162 = .ok (.lsub, 1) := by decide +kernel
theorem d_10_16_163 : decode prog_10_method_16_code 163 = .ok (.lstore 8, 2) := by decide +kernel
theorem d_10_16_165 : decode prog_10_method_16_code 165 = .ok (.aload_n 0, 1) := by decide +kernel
theorem d_10_16_166 : decode prog_10_method_16_code 166 = .ok (.aload_n 1, 1) := by decide +kernel
theorem d_10_16_167 : decode prog_10_method_16_code 167 = .ok (.iload_n 2, 1) := by decide +kernel
theorem d_10_16_168 : decode prog_10_method_16_code 168 = .ok (.ldc2_w 76, 3) := by decide +kernel
theorem d_10_16_171 : decode prog_10_method_16_code 171 = .ok (.invokevirtual 72, 3) := by decide +kernel
theorem d_10_16_174 : decode prog_10_method_16_code 174 = .ok (.pop2, 1) := by decide +kernel
theorem d_10_16_175 : decode prog_10_method_16_code 175 = .ok (.lload 8, 2) := by decide +kernel
theorem d_10_16_177 : decode prog_10_method_16_code 177 = .ok (.l2i, 1) := by decide +kernel
theorem d_10_16_178 : decode prog_10_method_16_code 178 = .ok (.ireturn, 1) := by decide +kernel
theorem d_10_17_0 : decode prog_10_method_17_code 0 = .ok (.lconst 0, 1) := by decide +kernel
theorem d_10_17_1 : decode prog_10_method_17_code 1 = .ok (.lstore 5, 2) := by decide +kernel
theorem d_10_17_3 : decode prog_10_method_17_code 3 = .ok (.iconst 0, 1) := by decide +kernel
theorem d_10_17_4 : decode prog_10_method_17_code 4 = .ok (.istore 7, 2) := by decide +kernel
theorem d_10_17_6 : decode prog_10_method_17_code 6 = .ok (.iload 7, 2) := by decide +kernel
theorem d_10_17_8 : decode prog_10_method_17_code 8 = .ok (.aload_n 1, 1) := by decide +kernel
theorem d_10_17_9 : decode prog_10_method_17_code 9 = .ok (.getfield 15, 3) := by decide +kernel
theorem d_10_17_12 : decode prog_10_method_17_code 12 = .ok (.if_icmp .gt 71, 3) := by decide +kernel
theorem d_10_17_15 : decode prog_10_method_17_code 15 = .ok (.lload 5, 2) := by decide +kernel
theorem d_10_17_17 : decode prog_10_method_17_code 17 = .ok (.aload_n 0, 1) := by decide +kernel
theorem d_10_17_18 : decode prog_10_method_17_code 18 = .ok (.getfield 9, 3) := by decide +kernel
theorem d_10_17_21 : decode prog_10_method_17_code 21 = .ok (.iload_n 2, 1) := by decide +kernel
theorem d_10_17_22 : decode prog_10_method_17_code 22 = .ok (.iload 7, 2) := by decide +kernel
theorem d_10_17_24 : decode prog_10_method_17_code 24 = .ok (.iadd, 1) := by decide +kernel
theorem d_10_17_25 : decode prog_10_method_17_code 25 = .ok (.iaload, 1) := by decide +kernel
theorem d_10_17_26 : decode prog_10_method_17_code 26 = .ok (.i2l, 1) := by decide +kernel
theorem d_10_17_27 : decode prog_10_method_17_code 27 = .ok (.iload 7, 2) := by decide +kernel
theorem d_10_17_29 : decode prog_10_method_17_code 29 = .ok (.aload_n 1, 1) := by decide +kernel
theorem d_10_17_30 : decode prog_10_method_17_code 30 = .ok (.getfield 15, 3) := by decide +kernel
theorem d_10_17_33 : decode prog_10_method_17_code 33 = .ok (.if_icmp .ge 16, 3) := by decide +kernel
theorem d_10_17_36 : decode prog_10_method_17_code 36 = .ok (.lload_n 3, 1) := by decide +kernel
theorem d_10_17_37 : decode prog_10_method_17_code 37 = .ok (.aload_n 1, 1) := by decide +kernel
theorem d_10_17_38 : decode prog_10_method_17_code 38 = .ok (.getfield 9, 3) := by decide +kernel
theorem d_10_17_41 : decode prog_10_method_17_code 41 = .ok (.iload 7, 2) := by decide +kernel
theorem d_10_17_43 : decode prog_10_method_17_code 43 = .ok (.iaload, 1) := by decide +kernel
theorem d_10_17_44 : decode prog_10_method_17_code 44 = .ok (.i2l, 1) := by decide +kernel
theorem d_10_17_45 : decode prog_10_method_17_code 45 = .ok (.lmul, 1) := by decide +kernel
theorem d_10_17_46 : decode prog_10_method_17_code 46 = .ok (.goto 4, 3) := by decide +kernel
theorem d_10_17_49 : decode prog_10_method_17_code 49 = .ok (.lconst 0, 1) := by decide +kernel
theorem d_10_17_50 : decode prog_10_method_17_code 50 = .ok (.lsub, 1) := by decide +kernel
theorem d_10_17_51 : decode prog_10_method_17_code 51 = .ok (.ladd, 1) := by decide +kernel
theorem d_10_17_52 : decode prog_10_method_17_code 52 = .ok (.lstore 5, 2) := by decide +kernel
theorem d_10_17_54 : decode prog_10_method_17_code 54 = .ok (.aload_n 0, 1) := by decide +kernel
theorem d_10_17_55 : decode prog_10_method_17_code 55 = .ok (.getfield 9, 3) := by decide +kernel
theorem d_10_17_58 : decode prog_10_method_17_code 58 = .ok (.iload_n 2, 1) := by decide +kernel
theorem d_10_17_59 : decode prog_10_method_17_code 59 = .ok (.iload 7, 2) := by decide +kernel
theorem d_10_17_61 : decode prog_10_method_17_code 61 = .ok (.iadd, 1) := by decide +kernel
theorem d_10_17_62 : decode prog_10_method_17_code 62 = .ok (.lload 5, 2) := by decide +kernel
theorem d_10_17_64 : decode prog_10_method_17_code 64 = .ok (.ldc2_w 19, 3) := by decide +kernel
theorem d_10_17_67 : decode prog_10_method_17_code 67 = .ok (.land, 1) := by decide +kernel
theorem d_10_17_68 : decode prog_10_method_17_code 68 = .ok (.l2i, 1) := by decide +kernel
theorem d_10_17_69 : decode prog_10_method_17_code 69 = .ok (.iastore, 1) := by decide +kernel
theorem d_10_17_70 : decode prog_10_method_17_code 70 = .ok (.lload 5, 2) := by decide +kernel
theorem d_10_17_72 : decode prog_10_method_17_code 72 = .ok (.bipush 30, 2) := by decide +kernel
theorem d_10_17_74 : decode prog_10_method_17_code 74 = .ok (.lshr, 1) := by decide +kernel
theorem d_10_17_75 : decode prog_10_method_17_code 75 = .ok (.lstore 5, 2) := by decide +kernel
theorem d_10_17_77 : decode prog_10_method_17_code 77 = .ok (.iinc 7 1, 3) := by decide +kernel
theorem d_10_17_80 : decode prog_10_method_17_code 80 = .ok (.goto (-74), 3) := by decide +kernel
theorem d_10_17_83 : decode prog_10_method_17_code 83 = .ok (.lload 5, 2) := by decide +kernel
theorem d_10_17_85 : decode prog_10_method_17_code 85 = .ok (.lreturn, 1) := by decide +kernel
theorem d_10_1_0 : decode prog_10_method_1_code 0 = .ok (.aload_n 0, 1) := by decide +kernel
theorem d_10_1_1 : decode prog_10_method_1_code 1 = .ok (.invokespecial 3, 3) := by decide +kernel
theorem d_10_1_4 : decode prog_10_method_1_code 4 = .ok (.aload_n 0, 1) := by decide +kernel
theorem d_10_1_5 : decode prog_10_method_1_code 5 = .ok (.bipush 13, 2) := by decide +kernel
theorem d_10_1_7 : decode prog_10_method_1_code 7 = .ok (.newarray .int, 2) := by decide +kernel
theorem d_10_1_9 : decode prog_10_method_1_code 9 = .ok (.putfield 9, 3) := by decide +kernel
theorem d_10_1_12 : decode prog_10_method_1_code 12 = .ok (.return_, 1) := by decide +kernel
theorem d_10_2_0 : decode prog_10_method_2_code 0 = .ok (.lload_n 1, 1) := by decide +kernel
theorem d_10_2_1 : decode prog_10_method_2_code 1 = .ok (.lstore_n 3, 1) := by decide +kernel
theorem d_10_2_2 : decode prog_10_method_2_code 2 = .ok (.aload_n 0, 1) := by decide +kernel
theorem d_10_2_3 : decode prog_10_method_2_code 3 = .ok (.iconst 0, 1) := by decide +kernel
theorem d_10_2_4 : decode prog_10_method_2_code 4 = .ok (.putfield 15, 3) := by decide +kernel
theorem d_10_2_7 : decode prog_10_method_2_code 7 = .ok (.iconst 0, 1) := by decide +kernel
theorem d_10_2_8 : decode prog_10_method_2_code 8 = .ok (.istore 5, 2) := by decide +kernel
theorem d_10_2_10 : decode prog_10_method_2_code 10 = .ok (.iload 5, 2) := by decide +kernel
theorem d_10_2_12 : decode prog_10_method_2_code 12 = .ok (.bipush 13, 2) := by decide +kernel
theorem d_10_2_14 : decode prog_10_method_2_code 14 = .ok (.if_icmp .ge 43, 3) := by decide +kernel
theorem d_10_2_17 : decode prog_10_method_2_code 17 = .ok (.lload_n 3, 1) := by decide +kernel
theorem d_10_2_18 : decode prog_10_method_2_code 18 = .ok (.lconst 0, 1) := by decide +kernel
theorem d_10_2_19 : decode prog_10_method_2_code 19 = .ok (.lcmp, 1) := by decide +kernel
theorem d_10_2_20 : decode prog_10_method_2_code 20 = .ok (.ifCond .le 37, 3) := by decide +kernel
theorem d_10_2_23 : decode prog_10_method_2_code 23 = .ok (.aload_n 0, 1) := by decide +kernel
theorem d_10_2_24 : decode prog_10_method_2_code 24 = .ok (.getfield 9, 3) := by decide +kernel
theorem d_10_2_27 : decode prog_10_method_2_code 27 = .ok (.iload 5, 2) := by decide +kernel
theorem d_10_2_29 : decode prog_10_method_2_code 29 = .ok (.lload_n 3, 1) := by decide +kernel
theorem d_10_2_30 : decode prog_10_method_2_code 30 = .ok (.ldc2_w 19, 3) := by decide +kernel
theorem d_10_2_33 : decode prog_10_method_2_code 33 = .ok (.land, 1) := by decide +kernel
theorem d_10_2_34 : decode prog_10_method_2_code 34 = .ok (.l2i, 1) := by decide +kernel
theorem d_10_2_35 : decode prog_10_method_2_code 35 = .ok (.iastore, 1) := by decide +kernel
theorem d_10_2_36 : decode prog_10_method_2_code 36 = .ok (.lload_n 3, 1) := by decide +kernel
theorem d_10_2_37 : decode prog_10_method_2_code 37 = .ok (.bipush 30, 2) := by decide +kernel
theorem d_10_2_39 : decode prog_10_method_2_code 39 = .ok (.lshr, 1) := by decide +kernel
theorem d_10_2_40 : decode prog_10_method_2_code 40 = .ok (.lstore_n 3, 1) := by decide +kernel
theorem d_10_2_41 : decode prog_10_method_2_code 41 = .ok (.aload_n 0, 1) := by decide +kernel
theorem d_10_2_42 : decode prog_10_method_2_code 42 = .ok (.dup, 1) := by decide +kernel
theorem d_10_2_43 : decode prog_10_method_2_code 43 = .ok (.getfield 15, 3) := by decide +kernel
theorem d_10_2_46 : decode prog_10_method_2_code 46 = .ok (.iconst 1, 1) := by decide +kernel
theorem d_10_2_47 : decode prog_10_method_2_code 47 = .ok (.iadd, 1) := by decide +kernel
theorem d_10_2_48 : decode prog_10_method_2_code 48 = .ok (.putfield 15, 3) := by decide +kernel
theorem d_10_2_51 : decode prog_10_method_2_code 51 = .ok (.iinc 5 1, 3) := by decide +kernel
theorem d_10_2_54 : decode prog_10_method_2_code 54 = .ok (.goto (-44), 3) := by decide +kernel
theorem d_10_2_57 : decode prog_10_method_2_code 57 = .ok (.return_, 1) := by decide +kernel
theorem d_10_3_0 : decode prog_10_method_3_code 0 = .ok (.aload_n 1, 1) := by decide +kernel
theorem d_10_3_1 : decode prog_10_method_3_code 1 = .ok (.getfield 9, 3) := by decide +kernel
theorem d_10_3_4 : decode prog_10_method_3_code 4 = .ok (.iconst 0, 1) := by decide +kernel
theorem d_10_3_5 : decode prog_10_method_3_code 5 = .ok (.aload_n 0, 1) := by decide +kernel
theorem d_10_3_6 : decode prog_10_method_3_code 6 = .ok (.getfield 9, 3) := by decide +kernel
theorem d_10_3_9 : decode prog_10_method_3_code 9 = .ok (.iconst 0, 1) := by decide +kernel
theorem d_10_3_10 : decode prog_10_method_3_code 10 = .ok (.aload_n 1, 1) := by decide +kernel
theorem d_10_3_11 : decode prog_10_method_3_code 11 = .ok (.getfield 15, 3) := by decide +kernel
theorem d_10_3_14 : decode prog_10_method_3_code 14 = .ok (.invokestatic 21, 3) := by decide +kernel
theorem d_10_3_17 : decode prog_10_method_3_code 17 = .ok (.aload_n 0, 1) := by decide +kernel
theorem d_10_3_18 : decode prog_10_method_3_code 18 = .ok (.aload_n 1, 1) := by decide +kernel
theorem d_10_3_19 : decode prog_10_method_3_code 19 = .ok (.getfield 15, 3) := by decide +kernel
theorem d_10_3_22 : decode prog_10_method_3_code 22 = .ok (.putfield 15, 3) := by decide +kernel
theorem d_10_3_25 : decode prog_10_method_3_code 25 = .ok (.return_, 1) := by decide +kernel
theorem d_10_4_0 : decode prog_10_method_4_code 0 = .ok (.iconst 0, 1) := by decide +kernel
theorem d_10_4_1 : decode prog_10_method_4_code 1 = .ok (.istore_n 3, 1) := by decide +kernel
theorem d_10_4_2 : decode prog_10_method_4_code 2 = .ok (.iload_n 3, 1) := by decide +kernel
theorem d_10_4_3 : decode prog_10_method_4_code 3 = .ok (.bipush 13, 2) := by decide +kernel
theorem d_10_4_5 : decode prog_10_method_4_code 5 = .ok (.if_icmp .ge 19, 3) := by decide +kernel
theorem d_10_4_8 : decode prog_10_method_4_code 8 = .ok (.aload_n 1, 1) := by decide +kernel
theorem d_10_4_9 : decode prog_10_method_4_code 9 = .ok (.iload_n 2, 1) := by decide +kernel
theorem d_10_4_10 : decode prog_10_method_4_code 10 = .ok (.iload_n 3, 1) := by decide +kernel
theorem d_10_4_11 : decode prog_10_method_4_code 11 = .ok (.iadd, 1) := by decide +kernel
theorem d_10_4_12 : decode prog_10_method_4_code 12 = .ok (.aload_n 0, 1) := by decide +kernel
theorem d_10_4_13 : decode prog_10_method_4_code 13 = .ok (.iload_n 3, 1) := by decide +kernel
theorem d_10_4_14 : decode prog_10_method_4_code 14 = .ok (.invokevirtual 27, 3) := by decide +kernel
theorem d_10_4_17 : decode prog_10_method_4_code 17 = .ok (.iastore, 1) := by decide +kernel
theorem d_10_4_18 : decode prog_10_method_4_code 18 = .ok (.iinc 3 1, 3) := by decide +kernel
theorem d_10_4_21 : decode prog_10_method_4_code 21 = .ok (.goto (-19), 3) := by decide +kernel
theorem d_10_4_24 : decode prog_10_method_4_code 24 = .ok (.return_, 1) := by decide +kernel
theorem d_10_5_0 : decode prog_10_method_5_code 0 = .ok (.aload_n 1, 1) := by decide +kernel
theorem d_10_5_1 : decode prog_10_method_5_code 1 = .ok (.iload_n 2, 1) := by decide +kernel
theorem d_10_5_2 : decode prog_10_method_5_code 2 = .ok (.aload_n 0, 1) := by decide +kernel
theorem d_10_5_3 : decode prog_10_method_5_code 3 = .ok (.getfield 9, 3) := by decide +kernel
theorem d_10_5_6 : decode prog_10_method_5_code 6 = .ok (.iconst 0, 1) := by decide +kernel
theorem d_10_5_7 : decode prog_10_method_5_code 7 = .ok (.bipush 13, 2) := by decide +kernel
theorem d_10_5_9 : decode prog_10_method_5_code 9 = .ok (.invokestatic 21, 3) := by decide +kernel
theorem d_10_5_12 : decode prog_10_method_5_code 12 = .ok (.aload_n 0, 1) := by decide +kernel
theorem d_10_5_13 : decode prog_10_method_5_code 13 = .ok (.bipush 13, 2) := by decide +kernel
theorem d_10_5_15 : decode prog_10_method_5_code 15 = .ok (.invokevirtual 31, 3) := by decide +kernel
theorem d_10_5_18 : decode prog_10_method_5_code 18 = .ok (.return_, 1) := by decide +kernel
theorem d_10_6_0 : decode prog_10_method_6_code 0 = .ok (.aload_n 0, 1) := by decide +kernel
theorem d_10_6_1 : decode prog_10_method_6_code 1 = .ok (.iload_n 1, 1) := by decide +kernel
theorem d_10_6_2 : decode prog_10_method_6_code 2 = .ok (.bipush 13, 2) := by decide +kernel
theorem d_10_6_4 : decode prog_10_method_6_code 4 = .ok (.invokestatic 35, 3) := by decide +kernel
theorem d_10_6_7 : decode prog_10_method_6_code 7 = .ok (.putfield 15, 3) := by decide +kernel
theorem d_10_6_10 : decode prog_10_method_6_code 10 = .ok (.aload_n 0, 1) := by decide +kernel
theorem d_10_6_11 : decode prog_10_method_6_code 11 = .ok (.getfield 15, 3) := by decide +kernel
theorem d_10_6_14 : decode prog_10_method_6_code 14 = .ok (.ifCond .le 30, 3) := by decide +kernel
theorem d_10_6_17 : decode prog_10_method_6_code 17 = .ok (.aload_n 0, 1) := by decide +kernel
theorem d_10_6_18 : decode prog_10_method_6_code 18 = .ok (.getfield 9, 3) := by decide +kernel
theorem d_10_6_21 : decode prog_10_method_6_code 21 = .ok (.aload_n 0, 1) := by decide +kernel
theorem d_10_6_22 : decode prog_10_method_6_code 22 = .ok (.getfield 15, 3) := by decide +kernel
theorem d_10_6_25 : decode prog_10_method_6_code 25 = .ok (.iconst 1, 1) := by decide +kernel
theorem d_10_6_26 : decode prog_10_method_6_code 26 = .ok (.isub, 1) := by decide +kernel
theorem d_10_6_27 : decode prog_10_method_6_code 27 = .ok (.iaload, 1) := by decide +kernel
theorem d_10_6_28 : decode prog_10_method_6_code 28 = .ok (.ifCond .ne 16, 3) := by decide +kernel
theorem d_10_6_31 : decode prog_10_method_6_code 31 = .ok (.aload_n 0, 1) := by decide +kernel
theorem d_10_6_32 : decode prog_10_method_6_code 32 = .ok (.dup, 1) := by decide +kernel
theorem d_10_6_33 : decode prog_10_method_6_code 33 = .ok (.getfield 15, 3) := by decide +kernel
theorem d_10_6_36 : decode prog_10_method_6_code 36 = .ok (.iconst 1, 1) := by decide +kernel
theorem d_10_6_37 : decode prog_10_method_6_code 37 = .ok (.isub, 1) := by decide +kernel
theorem d_10_6_38 : decode prog_10_method_6_code 38 = .ok (.putfield 15, 3) := by decide +kernel
theorem d_10_6_41 : decode prog_10_method_6_code 41 = .ok (.goto (-31), 3) := by decide +kernel
theorem d_10_6_44 : decode prog_10_method_6_code 44 = .ok (.return_, 1) := by decide +kernel
theorem d_10_7_0 : decode prog_10_method_7_code 0 = .ok (.iload_n 1, 1) := by decide +kernel
theorem d_10_7_1 : decode prog_10_method_7_code 1 = .ok (.aload_n 0, 1) := by decide +kernel
theorem d_10_7_2 : decode prog_10_method_7_code 2 = .ok (.getfield 15, 3) := by decide +kernel
theorem d_10_7_5 : decode prog_10_method_7_code 5 = .ok (.if_icmp .ge 12, 3) := by decide +kernel
theorem d_10_7_8 : decode prog_10_method_7_code 8 = .ok (.aload_n 0, 1) := by decide +kernel
theorem d_10_7_9 : decode prog_10_method_7_code 9 = .ok (.getfield 9, 3) := by decide +kernel
theorem d_10_7_12 : decode prog_10_method_7_code 12 = .ok (.iload_n 1, 1) := by decide +kernel
theorem d_10_7_13 : decode prog_10_method_7_code 13 = .ok (.iaload, 1) := by decide +kernel
theorem d_10_7_14 : decode prog_10_method_7_code 14 = .ok (.goto 4, 3) := by decide +kernel
theorem d_10_7_17 : decode prog_10_method_7_code 17 = .ok (.iconst 0, 1) := by decide +kernel
theorem d_10_7_18 : decode prog_10_method_7_code 18 = .ok (.ireturn, 1) := by decide +kernel
theorem d_10_8_0 : decode prog_10_method_8_code 0 = .ok (.aload_n 0, 1) := by decide +kernel
theorem d_10_8_1 : decode prog_10_method_8_code 1 = .ok (.getfield 15, 3) := by decide +kernel
theorem d_10_8_4 : decode prog_10_method_8_code 4 = .ok (.iconst 1, 1) := by decide +kernel
theorem d_10_8_5 : decode prog_10_method_8_code 5 = .ok (.if_icmp .ne 17, 3) := by decide +kernel
theorem d_10_8_8 : decode prog_10_method_8_code 8 = .ok (.aload_n 0, 1) := by decide +kernel
theorem d_10_8_9 : decode prog_10_method_8_code 9 = .ok (.getfield 9, 3) := by decide +kernel
theorem d_10_8_12 : decode prog_10_method_8_code 12 = .ok (.iconst 0, 1) := by decide +kernel
theorem d_10_8_13 : decode prog_10_method_8_code 13 = .ok (.iaload, 1) := by decide +kernel
theorem d_10_8_14 : decode prog_10_method_8_code 14 = .ok (.iconst 1, 1) := by decide +kernel
theorem d_10_8_15 : decode prog_10_method_8_code 15 = .ok (.if_icmp .ne 7, 3) := by decide +kernel
theorem d_10_8_18 : decode prog_10_method_8_code 18 = .ok (.iconst 1, 1) := by decide +kernel
theorem d_10_8_19 : decode prog_10_method_8_code 19 = .ok (.goto 4, 3) := by decide +kernel
theorem d_10_8_22 : decode prog_10_method_8_code 22 = .ok (.iconst 0, 1) := by decide +kernel
theorem d_10_8_23 : decode prog_10_method_8_code 23 = .ok (.ireturn, 1) := by decide +kernel
theorem d_10_9_0 : decode prog_10_method_9_code 0 = .ok (.aload_n 0, 1) := by decide +kernel
theorem d_10_9_1 : decode prog_10_method_9_code 1 = .ok (.getfield 15, 3) := by decide +kernel
theorem d_10_9_4 : decode prog_10_method_9_code 4 = .ok (.aload_n 1, 1) := by decide +kernel
theorem d_10_9_5 : decode prog_10_method_9_code 5 = .ok (.getfield 15, 3) := by decide +kernel
theorem d_10_9_8 : decode prog_10_method_9_code 8 = .ok (.invokestatic 41, 3) := by decide +kernel
theorem d_10_9_11 : decode prog_10_method_9_code 11 = .ok (.iconst 1, 1) := by decide +kernel
theorem d_10_9_12 : decode prog_10_method_9_code 12 = .ok (.isub, 1) := by decide +kernel
theorem d_10_9_13 : decode prog_10_method_9_code 13 = .ok (.istore_n 2, 1) := by decide +kernel
theorem d_10_9_14 : decode prog_10_method_9_code 14 = .ok (.iload_n 2, 1) := by decide +kernel
theorem d_10_9_15 : decode prog_10_method_9_code 15 = .ok (.ifCond .lt 41, 3) := by decide +kernel
theorem d_10_9_18 : decode prog_10_method_9_code 18 = .ok (.aload_n 0, 1) := by decide +kernel
theorem d_10_9_19 : decode prog_10_method_9_code 19 = .ok (.iload_n 2, 1) := by decide +kernel
theorem d_10_9_20 : decode prog_10_method_9_code 20 = .ok (.invokevirtual 27, 3) := by decide +kernel
theorem d_10_9_23 : decode prog_10_method_9_code 23 = .ok (.aload_n 1, 1) := by decide +kernel
theorem d_10_9_24 : decode prog_10_method_9_code 24 = .ok (.iload_n 2, 1) := by decide +kernel
theorem d_10_9_25 : decode prog_10_method_9_code 25 = .ok (.invokevirtual 27, 3) := by decide +kernel
theorem d_10_9_28 : decode prog_10_method_9_code 28 = .ok (.if_icmp .eq 22, 3) := by decide +kernel
theorem d_10_9_31 : decode prog_10_method_9_code 31 = .ok (.aload_n 0, 1) := by decide +kernel
theorem d_10_9_32 : decode prog_10_method_9_code 32 = .ok (.iload_n 2, 1) := by decide +kernel
theorem d_10_9_33 : decode prog_10_method_9_code 33 = .ok (.invokevirtual 27, 3) := by decide +kernel
theorem d_10_9_36 : decode prog_10_method_9_code 36 = .ok (.aload_n 1, 1) := by decide +kernel
theorem d_10_9_37 : decode prog_10_method_9_code 37 = .ok (.iload_n 2, 1) := by decide +kernel
theorem d_10_9_38 : decode prog_10_method_9_code 38 = .ok (.invokevirtual 27, 3) := by decide +kernel
theorem d_10_9_41 : decode prog_10_method_9_code 41 = .ok (.if_icmp .ge 7, 3) := by decide +kernel
theorem d_10_9_44 : decode prog_10_method_9_code 44 = .ok (.iconst (-1), 1) := by decide +kernel
theorem d_10_9_45 : decode prog_10_method_9_code 45 = .ok (.goto 4, 3) := by decide +kernel
theorem d_10_9_48 : decode prog_10_method_9_code 48 = .ok (.iconst 1, 1) := by decide +kernel
theorem d_10_9_49 : decode prog_10_method_9_code 49 = .ok (.ireturn, 1) := by decide +kernel
theorem d_10_9_50 : decode prog_10_method_9_code 50 = .ok (.iinc 2 (-1), 3) := by decide +kernel
theorem d_10_9_53 : decode prog_10_method_9_code 53 = .ok (.goto (-39), 3) := by decide +kernel
theorem d_10_9_56 : decode prog_10_method_9_code 56 = .ok (.iconst 0, 1) := by decide +kernel
theorem d_10_9_57 : decode prog_10_method_9_code 57 = .ok (.ireturn, 1) := by decide +kernel
theorem d_11_10_0 : decode prog_11_method_10_code 0 = .ok (.aload_n 0, 1) := by decide +kernel
theorem d_11_10_1 : decode prog_11_method_10_code 1 = .ok (.invokevirtual 100, 3) := by decide +kernel
theorem d_11_10_4 : decode prog_11_method_10_code 4 = .ok (.aload_n 0, 1) := by decide +kernel
theorem d_11_10_5 : decode prog_11_method_10_code 5 = .ok (.getfield 44, 3) := by decide +kernel
theorem d_11_10_8 : decode prog_11_method_10_code 8 = .ok (.istore_n 1, 1) := by decide +kernel
theorem d_11_10_9 : decode prog_11_method_10_code 9 = .ok (.iconst 1, 1) := by decide +kernel
theorem d_11_10_10 : decode prog_11_method_10_code 10 = .ok (.istore_n 2, 1) := by decide +kernel
theorem d_11_10_11 : decode prog_11_method_10_code 11 = .ok (.iload_n 2, 1) := by decide +kernel
theorem d_11_10_12 : decode prog_11_method_10_code 12 = .ok (.aload_n 0, 1) := by decide +kernel
theorem d_11_10_13 : decode prog_11_method_10_code 13 = .ok (.getfield 44, 3) := by decide +kernel
theorem d_11_10_16 : decode prog_11_method_10_code 16 = .ok (.if_icmp .ge 30, 3) := by decide +kernel
theorem d_11_10_19 : decode prog_11_method_10_code 19 = .ok (.iload_n 2, 1) := by decide +kernel
theorem d_11_10_20 : decode prog_11_method_10_code 20 = .ok (.invokestatic 103, 3) := by decide +kernel
theorem d_11_10_23 : decode prog_11_method_10_code 23 = .ok (.iload_n 1, 1) := by decide +kernel
theorem d_11_10_24 : decode prog_11_method_10_code 24 = .ok (.invokestatic 103, 3) := by decide +kernel
theorem d_11_10_27 : decode prog_11_method_10_code 27 = .ok (.if_icmp .ge 13, 3) := by decide +kernel
theorem d_11_10_30 : decode prog_11_method_10_code 30 = .ok (.aload_n 0, 1) := by decide +kernel
theorem d_11_10_31 : decode prog_11_method_10_code 31 = .ok (.iload_n 2, 1) := by decide +kernel
theorem d_11_10_32 : decode prog_11_method_10_code 32 = .ok (.invokevirtual 109, 3) := by decide +kernel
theorem d_11_10_35 : decode prog_11_method_10_code 35 = .ok (.ifCond .eq 5, 3) := by decide +kernel
theorem d_11_10_38 : decode prog_11_method_10_code 38 = .ok (.iload_n 2, 1) := by decide +kernel
theorem d_11_10_39 : decode prog_11_method_10_code 39 = .ok (.istore_n 1, 1) := by decide +kernel
theorem d_11_10_40 : decode prog_11_method_10_code 40 = .ok (.iinc 2 1, 3) := by decide +kernel
theorem d_11_10_43 : decode prog_11_method_10_code 43 = .ok (.goto (-32), 3) := by decide +kernel
theorem d_11_10_46 : decode prog_11_method_10_code 46 = .ok (.iload_n 1, 1) := by decide +kernel
theorem d_11_10_47 : decode prog_11_method_10_code 47 = .ok (.ireturn, 1) := by decide +kernel
theorem d_11_11_0 : decode prog_11_method_11_code 0 = .ok (.iconst 0, 1) := by decide +kernel
theorem d_11_11_1 : decode prog_11_method_11_code 1 = .ok (.istore_n 2, 1) := by decide +kernel
theorem d_11_11_2 : decode prog_11_method_11_code 2 = .ok (.iload_n 2, 1) := by decide +kernel
theorem d_11_11_3 : decode prog_11_method_11_code 3 = .ok (.aload_n 0, 1) := by decide +kernel
theorem d_11_11_4 : decode prog_11_method_11_code 4 = .ok (.getfield 40, 3) := by decide +kernel
theorem d_11_11_7 : decode prog_11_method_11_code 7 = .ok (.getfield 84, 3) := by decide +kernel
theorem d_11_11_10 : decode prog_11_method_11_code 10 = .ok (.if_icmp .ge 34, 3) := by decide +kernel
theorem d_11_11_13 : decode prog_11_method_11_code 13 = .ok (.iload_n 1, 1) := by decide +kernel
theorem d_11_11_14 : decode prog_11_method_11_code 14 = .ok (.iload_n 2, 1) := by decide +kernel
theorem d_11_11_15 : decode prog_11_method_11_code 15 = .ok (.invokestatic 90, 3) := by decide +kernel
theorem d_11_11_18 : decode prog_11_method_11_code 18 = .ok (.ifCond .eq 20, 3) := by decide +kernel
theorem d_11_11_21 : decode prog_11_method_11_code 21 = .ok (.aload_n 0, 1) := by decide +kernel
theorem d_11_11_22 : decode prog_11_method_11_code 22 = .ok (.getfield 24, 3) := by decide +kernel
theorem d_11_11_25 : decode prog_11_method_11_code 25 = .ok (.iload_n 2, 1) := by decide +kernel
theorem d_11_11_26 : decode prog_11_method_11_code 26 = .ok (.iaload, 1) := by decide +kernel
theorem d_11_11_27 : decode prog_11_method_11_code 27 = .ok (.iload_n 1, 1) := by decide +kernel
theorem d_11_11_28 : decode prog_11_method_11_code 28 = .ok (.ior, 1) := by decide +kernel
theorem d_11_11_29 : decode prog_11_method_11_code 29 = .ok (.aload_n 0, 1) := by decide +kernel
theorem d_11_11_30 : decode prog_11_method_11_code 30 = .ok (.getfield 44, 3) := by decide +kernel
theorem d_11_11_33 : decode prog_11_method_11_code 33 = .ok (.if_icmp .eq 5, 3) := by decide +kernel
theorem d_11_11_36 : decode prog_11_method_11_code 36 = .ok (.iconst 0, 1) := by decide +kernel
theorem d_11_11_37 : decode prog_11_method_11_code 37 = .ok (.ireturn, 1) := by decide +kernel
theorem d_11_11_38 : decode prog_11_method_11_code 38 = .ok (.iinc 2 1, 3) := by decide +kernel
theorem d_11_11_41 : decode prog_11_method_11_code 41 = .ok (.goto (-39), 3) := by decide +kernel
theorem d_11_11_44 : decode prog_11_method_11_code 44 = .ok (.iconst 1, 1) := by decide +kernel
theorem d_11_11_45 : decode prog_11_method_11_code 45 = .ok (.ireturn, 1) := by decide +kernel
theorem d_11_12_0 : decode prog_11_method_12_code 0 = .ok (.iconst 0, 1) := by decide +kernel
theorem d_11_12_1 : decode prog_11_method_12_code 1 = .ok (.istore_n 1, 1) := by decide +kernel
theorem d_11_12_2 : decode prog_11_method_12_code 2 = .ok (.iload_n 1, 1) := by decide +kernel
theorem d_11_12_3 : decode prog_11_method_12_code 3 = .ok (.aload_n 0, 1) := by decide +kernel
theorem d_11_12_4 : decode prog_11_method_12_code 4 = .ok (.getfield 40, 3) := by decide +kernel
theorem d_11_12_7 : decode prog_11_method_12_code 7 = .ok (.getfield 84, 3) := by decide +kernel
theorem d_11_12_10 : decode prog_11_method_12_code 10 = .ok (.if_icmp .ge 58, 3) := by decide +kernel
theorem d_11_12_13 : decode prog_11_method_12_code 13 = .ok (.iconst 0, 1) := by decide +kernel
theorem d_11_12_14 : decode prog_11_method_12_code 14 = .ok (.istore_n 2, 1) := by decide +kernel
theorem d_11_12_15 : decode prog_11_method_12_code 15 = .ok (.iload_n 2, 1) := by decide +kernel
theorem d_11_12_16 : decode prog_11_method_12_code 16 = .ok (.aload_n 0, 1) := by decide +kernel
theorem d_11_12_17 : decode prog_11_method_12_code 17 = .ok (.getfield 40, 3) := by decide +kernel
theorem d_11_12_20 : decode prog_11_method_12_code 20 = .ok (.getfield 84, 3) := by decide +kernel
theorem d_11_12_23 : decode prog_11_method_12_code 23 = .ok (.if_icmp .ge 39, 3) := by decide +kernel
theorem d_11_12_26 : decode prog_11_method_12_code 26 = .ok (.aload_n 0, 1) := by decide +kernel
theorem d_11_12_27 : decode prog_11_method_12_code 27 = .ok (.getfield 27, 3) := by decide +kernel
theorem d_11_12_30 : decode prog_11_method_12_code 30 = .ok (.iload_n 1, 1) := by decide +kernel
theorem d_11_12_31 : decode prog_11_method_12_code 31 = .ok (.bipush 8, 2) := by decide +kernel
theorem d_11_12_33 : decode prog_11_method_12_code 33 = .ok (.imul, 1) := by decide +kernel
theorem d_11_12_34 : decode prog_11_method_12_code 34 = .ok (.iload_n 2, 1) := by decide +kernel
theorem d_11_12_35 : decode prog_11_method_12_code 35 = .ok (.iadd, 1) := by decide +kernel
theorem d_11_12_36 : decode prog_11_method_12_code 36 = .ok (.aload_n 0, 1) := by decide +kernel
theorem d_11_12_37 : decode prog_11_method_12_code 37 = .ok (.iload_n 1, 1) := by decide +kernel
theorem d_11_12_38 : decode prog_11_method_12_code 38 = .ok (.iload_n 2, 1) := by decide +kernel
theorem d_11_12_39 : decode prog_11_method_12_code 39 = .ok (.invokevirtual 97, 3) := by decide +kernel
theorem d_11_12_42 : decode prog_11_method_12_code 42 = .ok (.ifCond .eq 12, 3) := by decide +kernel
theorem d_11_12_45 : decode prog_11_method_12_code 45 = .ok (.aload_n 0, 1) := by decide +kernel
theorem d_11_12_46 : decode prog_11_method_12_code 46 = .ok (.iload_n 1, 1) := by decide +kernel
theorem d_11_12_47 : decode prog_11_method_12_code 47 = .ok (.iload_n 2, 1) := by decide +kernel
theorem d_11_12_48 : decode prog_11_method_12_code 48 = .ok (.invokevirtual 94, 3) := by decide +kernel
theorem d_11_12_51 : decode prog_11_method_12_code 51 = .ok (.goto 4, 3) := by decide +kernel
theorem d_11_12_54 : decode prog_11_method_12_code 54 = .ok (.iconst 0, 1) := by decide +kernel
theorem d_11_12_55 : decode prog_11_method_12_code 55 = .ok (.iastore, 1) := by decide +kernel
theorem d_11_12_56 : decode prog_11_method_12_code 56 = .ok (.iinc 2 1, 3) := by decide +kernel
theorem d_11_12_59 : decode prog_11_method_12_code 59 = .ok (.goto (-44), 3) := by decide +kernel
theorem d_11_12_62 : decode prog_11_method_12_code 62 = .ok (.iinc 1 1, 3) := by decide +kernel
theorem d_11_12_65 : decode prog_11_method_12_code 65 = .ok (.goto (-63), 3) := by decide +kernel
theorem d_11_12_68 : decode prog_11_method_12_code 68 = .ok (.iconst 0, 1) := by decide +kernel
theorem d_11_12_69 : decode prog_11_method_12_code 69 = .ok (.istore_n 1, 1) := by decide +kernel
theorem d_11_12_70 : decode prog_11_method_12_code 70 = .ok (.iload_n 1, 1) := by decide +kernel
theorem d_11_12_71 : decode prog_11_method_12_code 71 = .ok (.aload_n 0, 1) := by decide +kernel
theorem d_11_12_72 : decode prog_11_method_12_code 72 = .ok (.getfield 40, 3) := by decide +kernel
theorem d_11_12_75 : decode prog_11_method_12_code 75 = .ok (.getfield 84, 3) := by decide +kernel
theorem d_11_12_78 : decode prog_11_method_12_code 78 = .ok (.if_icmp .ge 48, 3) := by decide +kernel
theorem d_11_12_81 : decode prog_11_method_12_code 81 = .ok (.iconst 0, 1) := by decide +kernel
theorem d_11_12_82 : decode prog_11_method_12_code 82 = .ok (.istore_n 2, 1) := by decide +kernel
theorem d_11_12_83 : decode prog_11_method_12_code 83 = .ok (.iload_n 2, 1) := by decide +kernel
theorem d_11_12_84 : decode prog_11_method_12_code 84 = .ok (.aload_n 0, 1) := by decide +kernel
theorem d_11_12_85 : decode prog_11_method_12_code 85 = .ok (.getfield 40, 3) := by decide +kernel
theorem d_11_12_88 : decode prog_11_method_12_code 88 = .ok (.getfield 84, 3) := by decide +kernel
theorem d_11_12_91 : decode prog_11_method_12_code 91 = .ok (.if_icmp .ge 29, 3) := by decide +kernel
theorem d_11_12_94 : decode prog_11_method_12_code 94 = .ok (.iload_n 2, 1) := by decide +kernel
theorem d_11_12_95 : decode prog_11_method_12_code 95 = .ok (.iload_n 1, 1) := by decide +kernel
theorem d_11_12_96 : decode prog_11_method_12_code 96 = .ok (.if_icmp .eq 18, 3) := by decide +kernel
theorem d_11_12_99 : decode prog_11_method_12_code 99 = .ok (.aload_n 0, 1) := by decide +kernel
theorem d_11_12_100 : decode prog_11_method_12_code 100 = .ok (.iload_n 2, 1) := by decide +kernel
theorem d_11_12_101 : decode prog_11_method_12_code 101 = .ok (.iload_n 1, 1) := by decide +kernel
theorem d_11_12_102 : decode prog_11_method_12_code 102 = .ok (.invokevirtual 113, 3) := by decide +kernel
theorem d_11_12_105 : decode prog_11_method_12_code 105 = .ok (.ifCond .le 9, 3) := by decide +kernel
theorem d_11_12_108 : decode prog_11_method_12_code 108 = .ok (.aload_n 0, 1) := by decide +kernel
theorem d_11_12_109 : decode prog_11_method_12_code 109 = .ok (.iload_n 2, 1) := by decide +kernel
theorem d_11_12_110 : decode prog_11_method_12_code 110 = .ok (.iload_n 1, 1) := by decide +kernel
theorem d_11_12_111 : decode prog_11_method_12_code 111 = .ok (.invokevirtual 116, 3) := by decide +kernel
theorem d_11_12_114 : decode prog_11_method_12_code 114 = .ok (.iinc 2 1, 3) := by decide +kernel
theorem d_11_12_117 : decode prog_11_method_12_code 117 = .ok (.goto (-34), 3) := by decide +kernel
theorem d_11_12_120 : decode prog_11_method_12_code 120 = .ok (.iinc 1 1, 3) := by decide +kernel
theorem d_11_12_123 : decode prog_11_method_12_code 123 = .ok (.goto (-53), 3) := by decide +kernel
theorem d_11_12_126 : decode prog_11_method_12_code 126 = .ok (.return_, 1) := by decide +kernel
theorem d_11_13_0 : decode prog_11_method_13_code 0 = .ok (.aload_n 0, 1) := by decide +kernel
theorem d_11_13_1 : decode prog_11_method_13_code 1 = .ok (.iload_n 1, 1) := by decide +kernel
theorem d_11_13_2 : decode prog_11_method_13_code 2 = .ok (.iload_n 2, 1) := by decide +kernel
theorem d_11_13_3 : decode prog_11_method_13_code 3 = .ok (.invokevirtual 113, 3) := by decide +kernel
theorem d_11_13_6 : decode prog_11_method_13_code 6 = .ok (.istore_n 3, 1) := by decide +kernel
theorem d_11_13_7 : decode prog_11_method_13_code 7 = .ok (.iconst 0, 1) := by decide +kernel
theorem d_11_13_8 : decode prog_11_method_13_code 8 = .ok (.istore 4, 2) := by decide +kernel
theorem d_11_13_10 : decode prog_11_method_13_code 10 = .ok (.iload 4, 2) := by decide +kernel
theorem d_11_13_12 : decode prog_11_method_13_code 12 = .ok (.aload_n 0, 1) := by decide +kernel
theorem d_11_13_13 : decode prog_11_method_13_code 13 = .ok (.getfield 40, 3) := by decide +kernel
theorem d_11_13_16 : decode prog_11_method_13_code 16 = .ok (.getfield 84, 3) := by decide +kernel
theorem d_11_13_19 : decode prog_11_method_13_code 19 = .ok (.if_icmp .ge 54, 3) := by decide +kernel
theorem d_11_13_22 : decode prog_11_method_13_code 22 = .ok (.iload_n 3, 1) := by decide +kernel
theorem d_11_13_23 : decode prog_11_method_13_code 23 = .ok (.aload_n 0, 1) := by decide +kernel
theorem d_11_13_24 : decode prog_11_method_13_code 24 = .ok (.iload_n 2, 1) := by decide +kernel
theorem d_11_13_25 : decode prog_11_method_13_code 25 = .ok (.iload 4, 2) := by decide +kernel
theorem d_11_13_27 : decode prog_11_method_13_code 27 = .ok (.invokevirtual 113, 3) := by decide +kernel
theorem d_11_13_30 : decode prog_11_method_13_code 30 = .ok (.invokestatic 119, 3) := by decide +kernel
theorem d_11_13_33 : decode prog_11_method_13_code 33 = .ok (.istore 5, 2) := by decide +kernel
theorem d_11_13_35 : decode prog_11_method_13_code 35 = .ok (.iload 4, 2) := by decide +kernel
theorem d_11_13_37 : decode prog_11_method_13_code 37 = .ok (.iload_n 1, 1) := by decide +kernel
theorem d_11_13_38 : decode prog_11_method_13_code 38 = .ok (.if_icmp .eq 29, 3) := by decide +kernel
theorem d_11_13_41 : decode prog_11_method_13_code 41 = .ok (.iload 5, 2) := by decide +kernel
theorem d_11_13_43 : decode prog_11_method_13_code 43 = .ok (.aload_n 0, 1) := by decide +kernel
theorem d_11_13_44 : decode prog_11_method_13_code 44 = .ok (.iload_n 1, 1) := by decide +kernel
theorem d_11_13_45 : decode prog_11_method_13_code 45 = .ok (.iload 4, 2) := by decide +kernel
theorem d_11_13_47 : decode prog_11_method_13_code 47 = .ok (.invokevirtual 113, 3) := by decide +kernel
theorem d_11_13_50 : decode prog_11_method_13_code 50 = .ok (.if_icmp .le 17, 3) := by decide +kernel
theorem d_11_13_53 : decode prog_11_method_13_code 53 = .ok (.aload_n 0, 1) := by decide +kernel
theorem d_11_13_54 : decode prog_11_method_13_code 54 = .ok (.getfield 27, 3) := by decide +kernel
theorem d_11_13_57 : decode prog_11_method_13_code 57 = .ok (.iload_n 1, 1) := by decide +kernel
theorem d_11_13_58 : decode prog_11_method_13_code 58 = .ok (.bipush 8, 2) := by decide +kernel
theorem d_11_13_60 : decode prog_11_method_13_code 60 = .ok (.imul, 1) := by decide +kernel
theorem d_11_13_61 : decode prog_11_method_13_code 61 = .ok (.iload 4, 2) := by decide +kernel
theorem d_11_13_63 : decode prog_11_method_13_code 63 = .ok (.iadd, 1) := by decide +kernel
theorem d_11_13_64 : decode prog_11_method_13_code 64 = .ok (.iload 5, 2) := by decide +kernel
theorem d_11_13_66 : decode prog_11_method_13_code 66 = .ok (.iastore, 1) := by decide +kernel
theorem d_11_13_67 : decode prog_11_method_13_code 67 = .ok (.iinc 4 1, 3) := by decide +kernel
theorem d_11_13_70 : decode prog_11_method_13_code 70 = .ok (.goto (-60), 3) := by decide +kernel
theorem d_11_13_73 : decode prog_11_method_13_code 73 = .ok (.return_, 1) := by decide +kernel
theorem d_11_14_0 : decode prog_11_method_14_code 0 = .ok (.aload_n 0, 1) := by decide +kernel
theorem d_11_14_1 : decode prog_11_method_14_code 1 = .ok (.invokevirtual 124, 3) := by decide +kernel
theorem d_11_14_4 : decode prog_11_method_14_code 4 = .ok (.aload_n 0, 1) := by decide +kernel
theorem d_11_14_5 : decode prog_11_method_14_code 5 = .ok (.getfield 44, 3) := by decide +kernel
theorem d_11_14_8 : decode prog_11_method_14_code 8 = .ok (.istore_n 1, 1) := by decide +kernel
theorem d_11_14_9 : decode prog_11_method_14_code 9 = .ok (.iconst 0, 1) := by decide +kernel
theorem d_11_14_10 : decode prog_11_method_14_code 10 = .ok (.istore_n 2, 1) := by decide +kernel
theorem d_11_14_11 : decode prog_11_method_14_code 11 = .ok (.iload_n 2, 1) := by decide +kernel
theorem d_11_14_12 : decode prog_11_method_14_code 12 = .ok (.aload_n 0, 1) := by decide +kernel
theorem d_11_14_13 : decode prog_11_method_14_code 13 = .ok (.getfield 40, 3) := by decide +kernel
theorem d_11_14_16 : decode prog_11_method_14_code 16 = .ok (.getfield 84, 3) := by decide +kernel
theorem d_11_14_19 : decode prog_11_method_14_code 19 = .ok (.if_icmp .ge 51, 3) := by decide +kernel
theorem d_11_14_22 : decode prog_11_method_14_code 22 = .ok (.iconst 0, 1) := by decide +kernel
theorem d_11_14_23 : decode prog_11_method_14_code 23 = .ok (.istore_n 3, 1) := by decide +kernel
theorem d_11_14_24 : decode prog_11_method_14_code 24 = .ok (.iload_n 3, 1) := by decide +kernel
theorem d_11_14_25 : decode prog_11_method_14_code 25 = .ok (.aload_n 0, 1) := by decide +kernel
theorem d_11_14_26 : decode prog_11_method_14_code 26 = .ok (.getfield 40, 3) := by decide +kernel
theorem d_11_14_29 : decode prog_11_method_14_code 29 = .ok (.getfield 84, 3) := by decide +kernel
theorem d_11_14_32 : decode prog_11_method_14_code 32 = .ok (.if_icmp .ge 32, 3) := by decide +kernel
theorem d_11_14_35 : decode prog_11_method_14_code 35 = .ok (.aload_n 0, 1) := by decide +kernel
theorem d_11_14_36 : decode prog_11_method_14_code 36 = .ok (.iload_n 3, 1) := by decide +kernel
theorem d_11_14_37 : decode prog_11_method_14_code 37 = .ok (.iload_n 2, 1) := by decide +kernel
theorem d_11_14_38 : decode prog_11_method_14_code 38 = .ok (.invokevirtual 113, 3) := by decide +kernel
theorem d_11_14_41 : decode prog_11_method_14_code 41 = .ok (.aload_n 0, 1) := by decide +kernel
theorem d_11_14_42 : decode prog_11_method_14_code 42 = .ok (.iload_n 2, 1) := by decide +kernel
theorem d_11_14_43 : decode prog_11_method_14_code 43 = .ok (.iload_n 3, 1) := by decide +kernel
theorem d_11_14_44 : decode prog_11_method_14_code 44 = .ok (.invokevirtual 113, 3) := by decide +kernel
theorem d_11_14_47 : decode prog_11_method_14_code 47 = .ok (.if_icmp .le 11, 3) := by decide +kernel
theorem d_11_14_50 : decode prog_11_method_14_code 50 = .ok (.iload_n 1, 1) := by decide +kernel
theorem d_11_14_51 : decode prog_11_method_14_code 51 = .ok (.iconst 1, 1) := by decide +kernel
theorem d_11_14_52 : decode prog_11_method_14_code 52 = .ok (.iload_n 2, 1) := by decide +kernel
theorem d_11_14_53 : decode prog_11_method_14_code 53 = .ok (.ishl, 1) := by decide +kernel
theorem d_11_14_54 : decode prog_11_method_14_code 54 = .ok (.iconst (-1), 1) := by decide +kernel
theorem d_11_14_55 : decode prog_11_method_14_code 55 = .ok (.ixor, 1) := by decide +kernel
theorem d_11_14_56 : decode prog_11_method_14_code 56 = .ok (.iand, 1) := by decide +kernel
theorem d_11_14_57 : decode prog_11_method_14_code 57 = .ok (.istore_n 1, 1) := by decide +kernel
theorem d_11_14_58 : decode prog_11_method_14_code 58 = .ok (.iinc 3 1, 3) := by decide +kernel
theorem d_11_14_61 : decode prog_11_method_14_code 61 = .ok (.goto (-37), 3) := by decide +kernel
theorem d_11_14_64 : decode prog_11_method_14_code 64 = .ok (.iinc 2 1, 3) := by decide +kernel
theorem d_11_14_67 : decode prog_11_method_14_code 67 = .ok (.goto (-56), 3) := by decide +kernel
theorem d_11_14_70 : decode prog_11_method_14_code 70 = .ok (.iload_n 1, 1) := by decide +kernel
theorem d_11_14_71 : decode prog_11_method_14_code 71 = .ok (.ireturn, 1) := by decide +kernel
theorem d_11_15_0 : decode prog_11_method_15_code 0 = .ok (.aload_n 0, 1) := by decide +kernel
theorem d_11_15_1 : decode prog_11_method_15_code 1 = .ok (.getfield 37, 3) := by decide +kernel
theorem d_11_15_4 : decode prog_11_method_15_code 4 = .ok (.iconst 0, 1) := by decide +kernel
theorem d_11_15_5 : decode prog_11_method_15_code 5 = .ok (.lconst 0, 1) := by decide +kernel
theorem d_11_15_6 : decode prog_11_method_15_code 6 = .ok (.lastore, 1) := by decide +kernel
theorem d_11_15_7 : decode prog_11_method_15_code 7 = .ok (.iconst 1, 1) := by decide +kernel
theorem d_11_15_8 : decode prog_11_method_15_code 8 = .ok (.istore_n 1, 1) := by decide +kernel
theorem d_11_15_9 : decode prog_11_method_15_code 9 = .ok (.iload_n 1, 1) := by decide +kernel
theorem d_11_15_10 : decode prog_11_method_15_code 10 = .ok (.aload_n 0, 1) := by decide +kernel
theorem d_11_15_11 : decode prog_11_method_15_code 11 = .ok (.getfield 44, 3) := by decide +kernel
theorem d_11_15_14 : decode prog_11_method_15_code 14 = .ok (.if_icmp .gt 79, 3) := by decide +kernel
theorem d_11_15_17 : decode prog_11_method_15_code 17 = .ok (.ldc2_w 127, 3) := by decide +kernel
theorem d_11_15_20 : decode prog_11_method_15_code 20 = .ok (.lstore_n 2, 1) := by decide +kernel
theorem d_11_15_21 : decode prog_11_method_15_code 21 = .ok (.iconst 0, 1) := by decide +kernel
theorem d_11_15_22 : decode prog_11_method_15_code 22 = .ok (.istore 4, 2) := by decide +kernel
theorem d_11_15_24 : decode prog_11_method_15_code 24 = .ok (.iload 4, 2) := by decide +kernel
theorem d_11_15_26 : decode prog_11_method_15_code 26 = .ok (.aload_n 0, 1) := by decide +kernel
theorem d_11_15_27 : decode prog_11_method_15_code 27 = .ok (.getfield 40, 3) := by decide +kernel
theorem d_11_15_30 : decode prog_11_method_15_code 30 = .ok (.getfield 84, 3) := by decide +kernel
theorem d_11_15_33 : decode prog_11_method_15_code 33 = .ok (.if_icmp .ge 47, 3) := by decide +kernel
theorem d_11_15_36 : decode prog_11_method_15_code 36 = .ok (.iload_n 1, 1) := by decide +kernel
theorem d_11_15_37 : decode prog_11_method_15_code 37 = .ok (.iload 4, 2) := by decide +kernel
theorem d_11_15_39 : decode prog_11_method_15_code 39 = .ok (.invokestatic 90, 3) := by decide +kernel
theorem d_11_15_42 : decode prog_11_method_15_code 42 = .ok (.ifCond .eq 32, 3) := by decide +kernel
theorem d_11_15_45 : decode prog_11_method_15_code 45 = .ok (.aload_n 0, 1) := by decide +kernel
theorem d_11_15_46 : decode prog_11_method_15_code 46 = .ok (.iload_n 1, 1) := by decide +kernel
theorem d_11_15_47 : decode prog_11_method_15_code 47 = .ok (.iload 4, 2) := by decide +kernel
theorem d_11_15_49 : decode prog_11_method_15_code 49 = .ok (.invokevirtual 129, 3) := by decide +kernel
theorem d_11_15_52 : decode prog_11_method_15_code 52 = .ok (.lstore 5, 2) := by decide +kernel
theorem d_11_15_54 : decode prog_11_method_15_code 54 = .ok (.lload_n 2, 1) := by decide +kernel
theorem d_11_15_55 : decode prog_11_method_15_code 55 = .ok (.ldc2_w 127, 3) := by decide +kernel
theorem d_11_15_58 : decode prog_11_method_15_code 58 = .ok (.lcmp, 1) := by decide +kernel
theorem d_11_15_59 : decode prog_11_method_15_code 59 = .ok (.ifCond .ne 8, 3) := by decide +kernel
theorem d_11_15_62 : decode prog_11_method_15_code 62 = .ok (.lload 5, 2) := by decide +kernel
theorem d_11_15_64 : decode prog_11_method_15_code 64 = .ok (.goto 9, 3) := by decide +kernel
theorem d_11_15_67 : decode prog_11_method_15_code 67 = .ok (.lload_n 2, 1) := by decide +kernel
theorem d_11_15_68 : decode prog_11_method_15_code 68 = .ok (.lload 5, 2) := by decide +kernel
theorem d_11_15_70 : decode prog_11_method_15_code 70 = .ok (.invokestatic 133, 3) := by decide +kernel
theorem d_11_15_73 : decode prog_11_method_15_code 73 = .ok (.lstore_n 2, 1) := by decide +kernel
theorem d_11_15_74 : decode prog_11_method_15_code 74 = .ok (.iinc 4 1, 3) := by decide +kernel
theorem d_11_15_77 : decode prog_11_method_15_code 77 = .ok (.goto (-53), 3) := by decide +kernel
theorem d_11_15_80 : decode prog_11_method_15_code 80 = .ok (.aload_n 0, 1) := by decide +kernel
theorem d_11_15_81 : decode prog_11_method_15_code 81 = .ok (.getfield 37, 3) := by decide +kernel
theorem d_11_15_84 : decode prog_11_method_15_code 84 = .ok (.iload_n 1, 1) := by decide +kernel
theorem d_11_15_85 : decode prog_11_method_15_code 85 = .ok (.lload_n 2, 1) := by decide +kernel
theorem d_11_15_86 : decode prog_11_method_15_code 86 = .ok (.lastore, 1) := by decide +kernel
theorem d_11_15_87 : decode prog_11_method_15_code 87 = .ok (.iinc 1 1, 3) := by decide +kernel
theorem d_11_15_90 : decode prog_11_method_15_code 90 = .ok (.goto (-81), 3) := by decide +kernel
theorem d_11_15_93 : decode prog_11_method_15_code 93 = .ok (.return_, 1) := by decide +kernel
theorem d_11_16_0 : decode prog_11_method_16_code 0 = .ok (.iload_n 1, 1) := by decide +kernel
theorem d_11_16_1 : decode prog_11_method_16_code 1 = .ok (.iconst 1, 1) := by decide +kernel
theorem d_11_16_2 : decode prog_11_method_16_code 2 = .ok (.iload_n 2, 1) := by decide +kernel
theorem d_11_16_3 : decode prog_11_method_16_code 3 = .ok (.ishl, 1) := by decide +kernel
theorem d_11_16_4 : decode prog_11_method_16_code 4 = .ok (.iconst (-1), 1) := by decide +kernel
theorem d_11_16_5 : decode prog_11_method_16_code 5 = .ok (.ixor, 1) := by decide +kernel
theorem d_11_16_6 : decode prog_11_method_16_code 6 = .ok (.iand, 1) := by decide +kernel
theorem d_11_16_7 : decode prog_11_method_16_code 7 = .ok (.istore_n 3, 1) := by decide +kernel
theorem d_11_16_8 : decode prog_11_method_16_code 8 = .ok (.aload_n 0, 1) := by decide +kernel
theorem d_11_16_9 : decode prog_11_method_16_code 9 = .ok (.getfield 37, 3) := by decide +kernel
theorem d_11_16_12 : decode prog_11_method_16_code 12 = .ok (.iload_n 3, 1) := by decide +kernel
theorem d_11_16_13 : decode prog_11_method_16_code 13 = .ok (.laload, 1) := by decide +kernel
theorem d_11_16_14 : decode prog_11_method_16_code 14 = .ok (.lstore 4, 2) := by decide +kernel
theorem d_11_16_16 : decode prog_11_method_16_code 16 = .ok (.iconst 0, 1) := by decide +kernel
theorem d_11_16_17 : decode prog_11_method_16_code 17 = .ok (.istore 6, 2) := by decide +kernel
theorem d_11_16_19 : decode prog_11_method_16_code 19 = .ok (.iload 6, 2) := by decide +kernel
theorem d_11_16_21 : decode prog_11_method_16_code 21 = .ok (.aload_n 0, 1) := by decide +kernel
theorem d_11_16_22 : decode prog_11_method_16_code 22 = .ok (.getfield 40, 3) := by decide +kernel
