theorem d_law_0 : decode code 0 = .ok (.iconst 1, 1) := by decide +kernel
theorem d_law_1 : decode code 1 = .ok (.newarray .int, 2) := by decide +kernel
theorem d_law_3 : decode code 3 = .ok (.dup, 1) := by decide +kernel
theorem d_law_4 : decode code 4 = .ok (.iconst 0, 1) := by decide +kernel
theorem d_law_5 : decode code 5 = .ok (.bipush 13, 2) := by decide +kernel
theorem d_law_7 : decode code 7 = .ok (.iastore, 1) := by decide +kernel
theorem d_law_8 : decode code 8 = .ok (.astore_n 1, 1) := by decide +kernel
theorem d_law_9 : decode code 9 = .ok (.iconst 0, 1) := by decide +kernel
theorem d_law_10 : decode code 10 = .ok (.istore_n 2, 1) := by decide +kernel
theorem d_law_11 : decode code 11 = .ok (.iload_n 2, 1) := by decide +kernel
theorem d_law_12 : decode code 12 = .ok (.aload_n 0, 1) := by decide +kernel
theorem d_law_13 : decode code 13 = .ok (.arraylength, 1) := by decide +kernel
theorem d_law_14 : decode code 14 = .ok (.if_icmp .ge 38, 3) := by decide +kernel
theorem d_law_17 : decode code 17 = .ok (.aload_n 1, 1) := by decide +kernel
theorem d_law_18 : decode code 18 = .ok (.iconst 0, 1) := by decide +kernel
theorem d_law_19 : decode code 19 = .ok (.aload_n 1, 1) := by decide +kernel
theorem d_law_20 : decode code 20 = .ok (.iconst 0, 1) := by decide +kernel
theorem d_law_21 : decode code 21 = .ok (.iaload, 1) := by decide +kernel
theorem d_law_22 : decode code 22 = .ok (.aload_n 0, 1) := by decide +kernel
theorem d_law_23 : decode code 23 = .ok (.iload_n 2, 1) := by decide +kernel
theorem d_law_24 : decode code 24 = .ok (.iaload, 1) := by decide +kernel
theorem d_law_25 : decode code 25 = .ok (.ixor, 1) := by decide +kernel
theorem d_law_26 : decode code 26 = .ok (.ldc 7, 2) := by decide +kernel
theorem d_law_28 : decode code 28 = .ok (.imul, 1) := by decide +kernel
theorem d_law_29 : decode code 29 = .ok (.sipush 12345, 3) := by decide +kernel
theorem d_law_32 : decode code 32 = .ok (.iadd, 1) := by decide +kernel
theorem d_law_33 : decode code 33 = .ok (.iastore, 1) := by decide +kernel
theorem d_law_34 : decode code 34 = .ok (.aload_n 1, 1) := by decide +kernel
theorem d_law_35 : decode code 35 = .ok (.iconst 0, 1) := by decide +kernel
theorem d_law_36 : decode code 36 = .ok (.dup2, 1) := by decide +kernel
theorem d_law_37 : decode code 37 = .ok (.iaload, 1) := by decide +kernel
theorem d_law_38 : decode code 38 = .ok (.aload_n 1, 1) := by decide +kernel
theorem d_law_39 : decode code 39 = .ok (.iconst 0, 1) := by decide +kernel
theorem d_law_40 : decode code 40 = .ok (.iaload, 1) := by decide +kernel
theorem d_law_41 : decode code 41 = .ok (.bipush 15, 2) := by decide +kernel
theorem d_law_43 : decode code 43 = .ok (.iushr, 1) := by decide +kernel
theorem d_law_44 : decode code 44 = .ok (.ixor, 1) := by decide +kernel
theorem d_law_45 : decode code 45 = .ok (.iastore, 1) := by decide +kernel
theorem d_law_46 : decode code 46 = .ok (.iinc 2 1, 3) := by decide +kernel
theorem d_law_49 : decode code 49 = .ok (.goto (-38), 3) := by decide +kernel
theorem d_law_52 : decode code 52 = .ok (.new 19, 3) := by decide +kernel
theorem d_law_55 : decode code 55 = .ok (.dup, 1) := by decide +kernel
theorem d_law_56 : decode code 56 = .ok (.invokespecial 173, 3) := by decide +kernel
theorem d_law_59 : decode code 59 = .ok (.astore_n 2, 1) := by decide +kernel
theorem d_law_60 : decode code 60 = .ok (.new 25, 3) := by decide +kernel
theorem d_law_63 : decode code 63 = .ok (.dup, 1) := by decide +kernel
theorem d_law_64 : decode code 64 = .ok (.iconst 2, 1) := by decide +kernel
theorem d_law_65 : decode code 65 = .ok (.aload_n 1, 1) := by decide +kernel
theorem d_law_66 : decode code 66 = .ok (.iconst 4, 1) := by decide +kernel
theorem d_law_67 : decode code 67 = .ok (.invokestatic 30, 3) := by decide +kernel
theorem d_law_70 : decode code 70 = .ok (.iadd, 1) := by decide +kernel
theorem d_law_71 : decode code 71 = .ok (.invokespecial 229, 3) := by decide +kernel
theorem d_law_74 : decode code 74 = .ok (.astore_n 3, 1) := by decide +kernel
theorem d_law_75 : decode code 75 = .ok (.iconst 0, 1) := by decide +kernel
theorem d_law_76 : decode code 76 = .ok (.istore 4, 2) := by decide +kernel
theorem d_law_78 : decode code 78 = .ok (.iload 4, 2) := by decide +kernel
theorem d_law_80 : decode code 80 = .ok (.aload_n 3, 1) := by decide +kernel
theorem d_law_81 : decode code 81 = .ok (.getfield 24, 3) := by decide +kernel
theorem d_law_84 : decode code 84 = .ok (.if_icmp .ge 15, 3) := by decide +kernel
theorem d_law_87 : decode code 87 = .ok (.aload_n 2, 1) := by decide +kernel
theorem d_law_88 : decode code 88 = .ok (.invokevirtual 232, 3) := by decide +kernel
theorem d_law_91 : decode code 91 = .ok (.istore 5, 2) := by decide +kernel
theorem d_law_93 : decode code 93 = .ok (.iinc 4 1, 3) := by decide +kernel
theorem d_law_96 : decode code 96 = .ok (.goto (-18), 3) := by decide +kernel
theorem d_law_99 : decode code 99 = .ok (.iconst 1, 1) := by decide +kernel
theorem d_law_100 : decode code 100 = .ok (.istore 4, 2) := by decide +kernel
theorem d_law_102 : decode code 102 = .ok (.iconst 2, 1) := by decide +kernel
theorem d_law_103 : decode code 103 = .ok (.aload_n 1, 1) := by decide +kernel
theorem d_law_104 : decode code 104 = .ok (.bipush 8, 2) := by decide +kernel
theorem d_law_106 : decode code 106 = .ok (.invokestatic 30, 3) := by decide +kernel
theorem d_law_109 : decode code 109 = .ok (.iadd, 1) := by decide +kernel
theorem d_law_110 : decode code 110 = .ok (.istore 5, 2) := by decide +kernel
theorem d_law_112 : decode code 112 = .ok (.iload 5, 2) := by decide +kernel
theorem d_law_114 : decode code 114 = .ok (.ifCond .le 22, 3) := by decide +kernel
theorem d_law_117 : decode code 117 = .ok (.iload 4, 2) := by decide +kernel
theorem d_law_119 : decode code 119 = .ok (.ifCond .eq 17, 3) := by decide +kernel
theorem d_law_122 : decode code 122 = .ok (.aload_n 2, 1) := by decide +kernel
theorem d_law_123 : decode code 123 = .ok (.aload_n 3, 1) := by decide +kernel
theorem d_law_124 : decode code 124 = .ok (.aload_n 1, 1) := by decide +kernel
theorem d_law_125 : decode code 125 = .ok (.invokestatic 235, 3) := by decide +kernel
theorem d_law_128 : decode code 128 = .ok (.istore 4, 2) := by decide +kernel
theorem d_law_130 : decode code 130 = .ok (.iinc 5 (-1), 3) := by decide +kernel
theorem d_law_133 : decode code 133 = .ok (.goto (-21), 3) := by decide +kernel
theorem d_law_136 : decode code 136 = .ok (.aload_n 2, 1) := by decide +kernel
theorem d_law_137 : decode code 137 = .ok (.iconst 0, 1) := by decide +kernel
theorem d_law_138 : decode code 138 = .ok (.aload_n 1, 1) := by decide +kernel
theorem d_law_139 : decode code 139 = .ok (.aload_n 3, 1) := by decide +kernel
theorem d_law_140 : decode code 140 = .ok (.getfield 24, 3) := by decide +kernel
theorem d_law_143 : decode code 143 = .ok (.invokestatic 30, 3) := by decide +kernel
theorem d_law_146 : decode code 146 = .ok (.aload_n 1, 1) := by decide +kernel
theorem d_law_147 : decode code 147 = .ok (.bipush 100, 2) := by decide +kernel
theorem d_law_149 : decode code 149 = .ok (.invokestatic 30, 3) := by decide +kernel
theorem d_law_152 : decode code 152 = .ok (.invokevirtual 178, 3) := by decide +kernel
theorem d_law_155 : decode code 155 = .ok (.istore 5, 2) := by decide +kernel
theorem d_law_157 : decode code 157 = .ok (.iload 4, 2) := by decide +kernel
theorem d_law_159 : decode code 159 = .ok (.ifCond .eq 51, 3) := by decide +kernel
theorem d_law_162 : decode code 162 = .ok (.aload_n 2, 1) := by decide +kernel
theorem d_law_163 : decode code 163 = .ok (.invokevirtual 238, 3) := by decide +kernel
theorem d_law_166 : decode code 166 = .ok (.aload_n 3, 1) := by decide +kernel
theorem d_law_167 : decode code 167 = .ok (.invokevirtual 78, 3) := by decide +kernel
theorem d_law_170 : decode code 170 = .ok (.if_icmp .ne 40, 3) := by decide +kernel
theorem d_law_173 : decode code 173 = .ok (.aload_n 2, 1) := by decide +kernel
theorem d_law_174 : decode code 174 = .ok (.aload_n 3, 1) := by decide +kernel
theorem d_law_175 : decode code 175 = .ok (.aload_n 1, 1) := by decide +kernel
theorem d_law_176 : decode code 176 = .ok (.invokestatic 241, 3) := by decide +kernel
theorem d_law_179 : decode code 179 = .ok (.ifCond .eq 31, 3) := by decide +kernel
theorem d_law_182 : decode code 182 = .ok (.aload_n 2, 1) := by decide +kernel
theorem d_law_183 : decode code 183 = .ok (.aload_n 3, 1) := by decide +kernel
theorem d_law_184 : decode code 184 = .ok (.invokestatic 243, 3) := by decide +kernel
theorem d_law_187 : decode code 187 = .ok (.ifCond .eq 23, 3) := by decide +kernel
theorem d_law_190 : decode code 190 = .ok (.aload_n 2, 1) := by decide +kernel
theorem d_law_191 : decode code 191 = .ok (.aload_n 3, 1) := by decide +kernel
theorem d_law_192 : decode code 192 = .ok (.aload_n 1, 1) := by decide +kernel
theorem d_law_193 : decode code 193 = .ok (.invokestatic 247, 3) := by decide +kernel
theorem d_law_196 : decode code 196 = .ok (.ifCond .eq 14, 3) := by decide +kernel
theorem d_law_199 : decode code 199 = .ok (.aload_n 2, 1) := by decide +kernel
theorem d_law_200 : decode code 200 = .ok (.invokevirtual 198, 3) := by decide +kernel
theorem d_law_203 : decode code 203 = .ok (.ifCond .ne 7, 3) := by decide +kernel
theorem d_law_206 : decode code 206 = .ok (.iconst 1, 1) := by decide +kernel
theorem d_law_207 : decode code 207 = .ok (.goto 4, 3) := by decide +kernel
theorem d_law_210 : decode code 210 = .ok (.iconst 0, 1) := by decide +kernel
theorem d_law_211 : decode code 211 = .ok (.istore 4, 2) := by decide +kernel
theorem d_law_213 : decode code 213 = .ok (.iload 4, 2) := by decide +kernel
theorem d_law_215 : decode code 215 = .ok (.ifCond .eq 28, 3) := by decide +kernel
theorem d_law_218 : decode code 218 = .ok (.aload_n 1, 1) := by decide +kernel
theorem d_law_219 : decode code 219 = .ok (.invokestatic 250, 3) := by decide +kernel
theorem d_law_222 : decode code 222 = .ok (.ifCond .eq 21, 3) := by decide +kernel
theorem d_law_225 : decode code 225 = .ok (.aload_n 1, 1) := by decide +kernel
theorem d_law_226 : decode code 226 = .ok (.invokestatic 253, 3) := by decide +kernel
theorem d_law_229 : decode code 229 = .ok (.ifCond .eq 14, 3) := by decide +kernel
theorem d_law_232 : decode code 232 = .ok (.aload_n 1, 1) := by decide +kernel
theorem d_law_233 : decode code 233 = .ok (.invokestatic 256, 3) := by decide +kernel
theorem d_law_236 : decode code 236 = .ok (.ifCond .eq 7, 3) := by decide +kernel
theorem d_law_239 : decode code 239 = .ok (.iconst 1, 1) := by decide +kernel
theorem d_law_240 : decode code 240 = .ok (.goto 4, 3) := by decide +kernel
theorem d_law_243 : decode code 243 = .ok (.iconst 0, 1) := by decide +kernel
theorem d_law_244 : decode code 244 = .ok (.ireturn, 1) := by decide +kernel
theorem d_L10_0 : decode method_10_code 0 = .ok (.iload_n 0, 1) := by decide +kernel
theorem d_L10_1 : decode method_10_code 1 = .ok (.ifCond .ne 11, 3) := by decide +kernel
theorem d_L10_4 : decode method_10_code 4 = .ok (.iconst 5, 1) := by decide +kernel
theorem d_L10_5 : decode method_10_code 5 = .ok (.iload_n 1, 1) := by decide +kernel
theorem d_L10_6 : decode method_10_code 6 = .ok (.imul, 1) := by decide +kernel
theorem d_L10_7 : decode method_10_code 7 = .ok (.iconst 5, 1) := by decide +kernel
theorem d_L10_8 : decode method_10_code 8 = .ok (.iadd, 1) := by decide +kernel
theorem d_L10_9 : decode method_10_code 9 = .ok (.goto 56, 3) := by decide +kernel
theorem d_L10_12 : decode method_10_code 12 = .ok (.iload_n 0, 1) := by decide +kernel
theorem d_L10_13 : decode method_10_code 13 = .ok (.iconst 1, 1) := by decide +kernel
theorem d_L10_14 : decode method_10_code 14 = .ok (.if_icmp .eq 12, 3) := by decide +kernel
theorem d_L10_17 : decode method_10_code 17 = .ok (.iload_n 0, 1) := by decide +kernel
theorem d_L10_18 : decode method_10_code 18 = .ok (.iconst 2, 1) := by decide +kernel
theorem d_L10_19 : decode method_10_code 19 = .ok (.if_icmp .ne 16, 3) := by decide +kernel
theorem d_L10_22 : decode method_10_code 22 = .ok (.iload_n 1, 1) := by decide +kernel
theorem d_L10_23 : decode method_10_code 23 = .ok (.ifCond .le 12, 3) := by decide +kernel
theorem d_L10_26 : decode method_10_code 26 = .ok (.bipush 10, 2) := by decide +kernel
theorem d_L10_28 : decode method_10_code 28 = .ok (.iload_n 1, 1) := by decide +kernel
theorem d_L10_29 : decode method_10_code 29 = .ok (.imul, 1) := by decide +kernel
theorem d_L10_30 : decode method_10_code 30 = .ok (.iconst 5, 1) := by decide +kernel
theorem d_L10_31 : decode method_10_code 31 = .ok (.iadd, 1) := by decide +kernel
theorem d_L10_32 : decode method_10_code 32 = .ok (.goto 33, 3) := by decide +kernel
theorem d_L10_35 : decode method_10_code 35 = .ok (.iload_n 0, 1) := by decide +kernel
theorem d_L10_36 : decode method_10_code 36 = .ok (.iconst 2, 1) := by decide +kernel
theorem d_L10_37 : decode method_10_code 37 = .ok (.if_icmp .ne 8, 3) := by decide +kernel
theorem d_L10_40 : decode method_10_code 40 = .ok (.bipush 7, 2) := by decide +kernel
theorem d_L10_42 : decode method_10_code 42 = .ok (.goto 23, 3) := by decide +kernel
theorem d_L10_45 : decode method_10_code 45 = .ok (.iload_n 0, 1) := by decide +kernel
theorem d_L10_46 : decode method_10_code 46 = .ok (.iconst 3, 1) := by decide +kernel
theorem d_L10_47 : decode method_10_code 47 = .ok (.if_icmp .ne 12, 3) := by decide +kernel
theorem d_L10_50 : decode method_10_code 50 = .ok (.bipush 15, 2) := by decide +kernel
theorem d_L10_52 : decode method_10_code 52 = .ok (.iload_n 1, 1) := by decide +kernel
theorem d_L10_53 : decode method_10_code 53 = .ok (.imul, 1) := by decide +kernel
theorem d_L10_54 : decode method_10_code 54 = .ok (.iconst 5, 1) := by decide +kernel
theorem d_L10_55 : decode method_10_code 55 = .ok (.iadd, 1) := by decide +kernel
theorem d_L10_56 : decode method_10_code 56 = .ok (.goto 9, 3) := by decide +kernel
theorem d_L10_59 : decode method_10_code 59 = .ok (.iconst 5, 1) := by decide +kernel
theorem d_L10_60 : decode method_10_code 60 = .ok (.iload_n 1, 1) := by decide +kernel
theorem d_L10_61 : decode method_10_code 61 = .ok (.imul, 1) := by decide +kernel
theorem d_L10_62 : decode method_10_code 62 = .ok (.bipush 10, 2) := by decide +kernel
theorem d_L10_64 : decode method_10_code 64 = .ok (.iadd, 1) := by decide +kernel
theorem d_L10_65 : decode method_10_code 65 = .ok (.ireturn, 1) := by decide +kernel
theorem d_L11_0 : decode method_11_code 0 = .ok (.new 19, 3) := by decide +kernel
theorem d_L11_3 : decode method_11_code 3 = .ok (.dup, 1) := by decide +kernel
theorem d_L11_4 : decode method_11_code 4 = .ok (.invokespecial 173, 3) := by decide +kernel
theorem d_L11_7 : decode method_11_code 7 = .ok (.astore_n 1, 1) := by decide +kernel
theorem d_L11_8 : decode method_11_code 8 = .ok (.iconst 1, 1) := by decide +kernel
theorem d_L11_9 : decode method_11_code 9 = .ok (.aload_n 0, 1) := by decide +kernel
theorem d_L11_10 : decode method_11_code 10 = .ok (.bipush 8, 2) := by decide +kernel
theorem d_L11_12 : decode method_11_code 12 = .ok (.invokestatic 30, 3) := by decide +kernel
theorem d_L11_15 : decode method_11_code 15 = .ok (.iadd, 1) := by decide +kernel
theorem d_L11_16 : decode method_11_code 16 = .ok (.istore_n 2, 1) := by decide +kernel
theorem d_L11_17 : decode method_11_code 17 = .ok (.iload_n 2, 1) := by decide +kernel
theorem d_L11_18 : decode method_11_code 18 = .ok (.newarray .int, 2) := by decide +kernel
theorem d_L11_20 : decode method_11_code 20 = .ok (.astore_n 3, 1) := by decide +kernel
theorem d_L11_21 : decode method_11_code 21 = .ok (.lconst 0, 1) := by decide +kernel
theorem d_L11_22 : decode method_11_code 22 = .ok (.lstore 4, 2) := by decide +kernel
theorem d_L11_24 : decode method_11_code 24 = .ok (.iconst 0, 1) := by decide +kernel
theorem d_L11_25 : decode method_11_code 25 = .ok (.istore 6, 2) := by decide +kernel
theorem d_L11_27 : decode method_11_code 27 = .ok (.iload 6, 2) := by decide +kernel
theorem d_L11_29 : decode method_11_code 29 = .ok (.iload_n 2, 1) := by decide +kernel
theorem d_L11_30 : decode method_11_code 30 = .ok (.if_icmp .ge 83, 3) := by decide +kernel
theorem d_L11_33 : decode method_11_code 33 = .ok (.aload_n 3, 1) := by decide +kernel
theorem d_L11_34 : decode method_11_code 34 = .ok (.iload 6, 2) := by decide +kernel
theorem d_L11_36 : decode method_11_code 36 = .ok (.aload_n 0, 1) := by decide +kernel
theorem d_L11_37 : decode method_11_code 37 = .ok (.iconst 3, 1) := by decide +kernel
theorem d_L11_38 : decode method_11_code 38 = .ok (.invokestatic 30, 3) := by decide +kernel
theorem d_L11_41 : decode method_11_code 41 = .ok (.ifCond .ne 12, 3) := by decide +kernel
theorem d_L11_44 : decode method_11_code 44 = .ok (.aload_n 0, 1) := by decide +kernel
theorem d_L11_45 : decode method_11_code 45 = .ok (.bipush 20, 2) := by decide +kernel
theorem d_L11_47 : decode method_11_code 47 = .ok (.invokestatic 30, 3) := by decide +kernel
theorem d_L11_50 : decode method_11_code 50 = .ok (.goto 9, 3) := by decide +kernel
theorem d_L11_53 : decode method_11_code 53 = .ok (.aload_n 0, 1) := by decide +kernel
theorem d_L11_54 : decode method_11_code 54 = .ok (.ldc 174, 2) := by decide +kernel
theorem d_L11_56 : decode method_11_code 56 = .ok (.invokestatic 30, 3) := by decide +kernel
theorem d_L11_59 : decode method_11_code 59 = .ok (.iastore, 1) := by decide +kernel
theorem d_L11_60 : decode method_11_code 60 = .ok (.lload 4, 2) := by decide +kernel
theorem d_L11_62 : decode method_11_code 62 = .ok (.aload_n 3, 1) := by decide +kernel
theorem d_L11_63 : decode method_11_code 63 = .ok (.iload 6, 2) := by decide +kernel
theorem d_L11_65 : decode method_11_code 65 = .ok (.iaload, 1) := by decide +kernel
theorem d_L11_66 : decode method_11_code 66 = .ok (.i2l, 1) := by decide +kernel
theorem d_L11_67 : decode method_11_code 67 = .ok (.ladd, 1) := by decide +kernel
theorem d_L11_68 : decode method_11_code 68 = .ok (.lstore 4, 2) := by decide +kernel
theorem d_L11_70 : decode method_11_code 70 = .ok (.aload_n 1, 1) := by decide +kernel
theorem d_L11_71 : decode method_11_code 71 = .ok (.aload_n 3, 1) := by decide +kernel
theorem d_L11_72 : decode method_11_code 72 = .ok (.iload 6, 2) := by decide +kernel
theorem d_L11_74 : decode method_11_code 74 = .ok (.iaload, 1) := by decide +kernel
theorem d_L11_75 : decode method_11_code 75 = .ok (.invokevirtual 175, 3) := by decide +kernel
theorem d_L11_78 : decode method_11_code 78 = .ok (.istore 7, 2) := by decide +kernel
theorem d_L11_80 : decode method_11_code 80 = .ok (.aload_n 0, 1) := by decide +kernel
theorem d_L11_81 : decode method_11_code 81 = .ok (.iconst 3, 1) := by decide +kernel
theorem d_L11_82 : decode method_11_code 82 = .ok (.invokestatic 30, 3) := by decide +kernel
theorem d_L11_85 : decode method_11_code 85 = .ok (.ifCond .ne 19, 3) := by decide +kernel
theorem d_L11_88 : decode method_11_code 88 = .ok (.aload_n 1, 1) := by decide +kernel
theorem d_L11_89 : decode method_11_code 89 = .ok (.iconst 1, 1) := by decide +kernel
theorem d_L11_90 : decode method_11_code 90 = .ok (.iload 6, 2) := by decide +kernel
theorem d_L11_92 : decode method_11_code 92 = .ok (.aload_n 0, 1) := by decide +kernel
theorem d_L11_93 : decode method_11_code 93 = .ok (.bipush 100, 2) := by decide +kernel
theorem d_L11_95 : decode method_11_code 95 = .ok (.invokestatic 30, 3) := by decide +kernel
theorem d_L11_98 : decode method_11_code 98 = .ok (.invokevirtual 178, 3) := by decide +kernel
theorem d_L11_101 : decode method_11_code 101 = .ok (.goto 4, 3) := by decide +kernel
theorem d_L11_104 : decode method_11_code 104 = .ok (.iconst 0, 1) := by decide +kernel
theorem d_L11_105 : decode method_11_code 105 = .ok (.istore 8, 2) := by decide +kernel
theorem d_L11_107 : decode method_11_code 107 = .ok (.iinc 6 1, 3) := by decide +kernel
theorem d_L11_110 : decode method_11_code 110 = .ok (.goto (-83), 3) := by decide +kernel
theorem d_L11_113 : decode method_11_code 113 = .ok (.aload_n 0, 1) := by decide +kernel
theorem d_L11_114 : decode method_11_code 114 = .ok (.bipush 6, 2) := by decide +kernel
theorem d_L11_116 : decode method_11_code 116 = .ok (.invokestatic 30, 3) := by decide +kernel
theorem d_L11_119 : decode method_11_code 119 = .ok (.istore 6, 2) := by decide +kernel
theorem d_L11_121 : decode method_11_code 121 = .ok (.iconst 1, 1) := by decide +kernel
theorem d_L11_122 : decode method_11_code 122 = .ok (.aload_n 0, 1) := by decide +kernel
theorem d_L11_123 : decode method_11_code 123 = .ok (.bipush 60, 2) := by decide +kernel
theorem d_L11_125 : decode method_11_code 125 = .ok (.invokestatic 30, 3) := by decide +kernel
theorem d_L11_128 : decode method_11_code 128 = .ok (.iadd, 1) := by decide +kernel
theorem d_L11_129 : decode method_11_code 129 = .ok (.istore 7, 2) := by decide +kernel
theorem d_L11_131 : decode method_11_code 131 = .ok (.aload_n 1, 1) := by decide +kernel
theorem d_L11_132 : decode method_11_code 132 = .ok (.iload 6, 2) := by decide +kernel
theorem d_L11_134 : decode method_11_code 134 = .ok (.iload 7, 2) := by decide +kernel
theorem d_L11_136 : decode method_11_code 136 = .ok (.iconst 0, 1) := by decide +kernel
theorem d_L11_137 : decode method_11_code 137 = .ok (.invokevirtual 182, 3) := by decide +kernel
theorem d_L11_140 : decode method_11_code 140 = .ok (.istore 8, 2) := by decide +kernel
theorem d_L11_142 : decode method_11_code 142 = .ok (.lconst 0, 1) := by decide +kernel
theorem d_L11_143 : decode method_11_code 143 = .ok (.lstore 9, 2) := by decide +kernel
theorem d_L11_145 : decode method_11_code 145 = .ok (.iconst 1, 1) := by decide +kernel
theorem d_L11_146 : decode method_11_code 146 = .ok (.istore 11, 2) := by decide +kernel
theorem d_L11_148 : decode method_11_code 148 = .ok (.iconst 0, 1) := by decide +kernel
theorem d_L11_149 : decode method_11_code 149 = .ok (.istore 12, 2) := by decide +kernel
theorem d_L11_151 : decode method_11_code 151 = .ok (.iload 12, 2) := by decide +kernel
theorem d_L11_153 : decode method_11_code 153 = .ok (.iload_n 2, 1) := by decide +kernel
theorem d_L11_154 : decode method_11_code 154 = .ok (.if_icmp .ge 218, 3) := by decide +kernel
theorem d_L11_157 : decode method_11_code 157 = .ok (.aload_n 1, 1) := by decide +kernel
theorem d_L11_158 : decode method_11_code 158 = .ok (.iload 12, 2) := by decide +kernel
theorem d_L11_160 : decode method_11_code 160 = .ok (.invokevirtual 186, 3) := by decide +kernel
theorem d_L11_163 : decode method_11_code 163 = .ok (.istore 13, 2) := by decide +kernel
theorem d_L11_165 : decode method_11_code 165 = .ok (.lload 9, 2) := by decide +kernel
theorem d_L11_167 : decode method_11_code 167 = .ok (.iload 13, 2) := by decide +kernel
theorem d_L11_169 : decode method_11_code 169 = .ok (.i2l, 1) := by decide +kernel
theorem d_L11_170 : decode method_11_code 170 = .ok (.ladd, 1) := by decide +kernel
theorem d_L11_171 : decode method_11_code 171 = .ok (.lstore 9, 2) := by decide +kernel
theorem d_L11_173 : decode method_11_code 173 = .ok (.iload 11, 2) := by decide +kernel
theorem d_L11_175 : decode method_11_code 175 = .ok (.ifCond .eq 19, 3) := by decide +kernel
theorem d_L11_178 : decode method_11_code 178 = .ok (.aload_n 3, 1) := by decide +kernel
theorem d_L11_179 : decode method_11_code 179 = .ok (.iload 12, 2) := by decide +kernel
theorem d_L11_181 : decode method_11_code 181 = .ok (.iaload, 1) := by decide +kernel
theorem d_L11_182 : decode method_11_code 182 = .ok (.ifCond .gt 8, 3) := by decide +kernel
theorem d_L11_185 : decode method_11_code 185 = .ok (.iload 13, 2) := by decide +kernel
theorem d_L11_187 : decode method_11_code 187 = .ok (.ifCond .ne 7, 3) := by decide +kernel
theorem d_L11_190 : decode method_11_code 190 = .ok (.iconst 1, 1) := by decide +kernel
theorem d_L11_191 : decode method_11_code 191 = .ok (.goto 4, 3) := by decide +kernel
theorem d_L11_194 : decode method_11_code 194 = .ok (.iconst 0, 1) := by decide +kernel
theorem d_L11_195 : decode method_11_code 195 = .ok (.istore 11, 2) := by decide +kernel
theorem d_L11_197 : decode method_11_code 197 = .ok (.iconst 0, 1) := by decide +kernel
theorem d_L11_198 : decode method_11_code 198 = .ok (.istore 14, 2) := by decide +kernel
theorem d_L11_200 : decode method_11_code 200 = .ok (.iload 14, 2) := by decide +kernel
theorem d_L11_202 : decode method_11_code 202 = .ok (.iload_n 2, 1) := by decide +kernel
theorem d_L11_203 : decode method_11_code 203 = .ok (.if_icmp .ge 104, 3) := by decide +kernel
theorem d_L11_206 : decode method_11_code 206 = .ok (.iload 11, 2) := by decide +kernel
theorem d_L11_208 : decode method_11_code 208 = .ok (.ifCond .eq 29, 3) := by decide +kernel
theorem d_L11_211 : decode method_11_code 211 = .ok (.aload_n 3, 1) := by decide +kernel
theorem d_L11_212 : decode method_11_code 212 = .ok (.iload 12, 2) := by decide +kernel
theorem d_L11_214 : decode method_11_code 214 = .ok (.iaload, 1) := by decide +kernel
theorem d_L11_215 : decode method_11_code 215 = .ok (.aload_n 3, 1) := by decide +kernel
theorem d_L11_216 : decode method_11_code 216 = .ok (.iload 14, 2) := by decide +kernel
theorem d_L11_218 : decode method_11_code 218 = .ok (.iaload, 1) := by decide +kernel
theorem d_L11_219 : decode method_11_code 219 = .ok (.if_icmp .le 14, 3) := by decide +kernel
theorem d_L11_222 : decode method_11_code 222 = .ok (.iload 13, 2) := by decide +kernel
theorem d_L11_224 : decode method_11_code 224 = .ok (.aload_n 1, 1) := by decide +kernel
theorem d_L11_225 : decode method_11_code 225 = .ok (.iload 14, 2) := by decide +kernel
theorem d_L11_227 : decode method_11_code 227 = .ok (.invokevirtual 186, 3) := by decide +kernel
theorem d_L11_230 : decode method_11_code 230 = .ok (.if_icmp .lt 7, 3) := by decide +kernel
theorem d_L11_233 : decode method_11_code 233 = .ok (.iconst 1, 1) := by decide +kernel
theorem d_L11_234 : decode method_11_code 234 = .ok (.goto 4, 3) := by decide +kernel
theorem d_L11_237 : decode method_11_code 237 = .ok (.iconst 0, 1) := by decide +kernel
theorem d_L11_238 : decode method_11_code 238 = .ok (.istore 11, 2) := by decide +kernel
theorem d_L11_240 : decode method_11_code 240 = .ok (.iload 11, 2) := by decide +kernel
theorem d_L11_242 : decode method_11_code 242 = .ok (.ifCond .eq 56, 3) := by decide +kernel
theorem d_L11_245 : decode method_11_code 245 = .ok (.iload 6, 2) := by decide +kernel
theorem d_L11_247 : decode method_11_code 247 = .ok (.iconst 5, 1) := by decide +kernel
theorem d_L11_248 : decode method_11_code 248 = .ok (.if_icmp .eq 46, 3) := by decide +kernel
theorem d_L11_251 : decode method_11_code 251 = .ok (.iload 13, 2) := by decide +kernel
theorem d_L11_253 : decode method_11_code 253 = .ok (.ifCond .eq 41, 3) := by decide +kernel
theorem d_L11_256 : decode method_11_code 256 = .ok (.aload_n 3, 1) := by decide +kernel
theorem d_L11_257 : decode method_11_code 257 = .ok (.iload 12, 2) := by decide +kernel
theorem d_L11_259 : decode method_11_code 259 = .ok (.iaload, 1) := by decide +kernel
theorem d_L11_260 : decode method_11_code 260 = .ok (.i2l, 1) := by decide +kernel
theorem d_L11_261 : decode method_11_code 261 = .ok (.iload 6, 2) := by decide +kernel
theorem d_L11_263 : decode method_11_code 263 = .ok (.aload_n 1, 1) := by decide +kernel
theorem d_L11_264 : decode method_11_code 264 = .ok (.iload 14, 2) := by decide +kernel
theorem d_L11_266 : decode method_11_code 266 = .ok (.invokevirtual 186, 3) := by decide +kernel
theorem d_L11_269 : decode method_11_code 269 = .ok (.invokestatic 189, 3) := by decide +kernel
theorem d_L11_272 : decode method_11_code 272 = .ok (.i2l, 1) := by decide +kernel
theorem d_L11_273 : decode method_11_code 273 = .ok (.lmul, 1) := by decide +kernel
theorem d_L11_274 : decode method_11_code 274 = .ok (.aload_n 3, 1) := by decide +kernel
theorem d_L11_275 : decode method_11_code 275 = .ok (.iload 14, 2) := by decide +kernel
theorem d_L11_277 : decode method_11_code 277 = .ok (.iaload, 1) := by decide +kernel
theorem d_L11_278 : decode method_11_code 278 = .ok (.i2l, 1) := by decide +kernel
theorem d_L11_279 : decode method_11_code 279 = .ok (.iload 6, 2) := by decide +kernel
theorem d_L11_281 : decode method_11_code 281 = .ok (.iload 13, 2) := by decide +kernel
theorem d_L11_283 : decode method_11_code 283 = .ok (.iconst 1, 1) := by decide +kernel
theorem d_L11_284 : decode method_11_code 284 = .ok (.isub, 1) := by decide +kernel
theorem d_L11_285 : decode method_11_code 285 = .ok (.invokestatic 189, 3) := by decide +kernel
theorem d_L11_288 : decode method_11_code 288 = .ok (.i2l, 1) := by decide +kernel
theorem d_L11_289 : decode method_11_code 289 = .ok (.lmul, 1) := by decide +kernel
theorem d_L11_290 : decode method_11_code 290 = .ok (.lcmp, 1) := by decide +kernel
theorem d_L11_291 : decode method_11_code 291 = .ok (.ifCond .lt 7, 3) := by decide +kernel
theorem d_L11_294 : decode method_11_code 294 = .ok (.iconst 1, 1) := by decide +kernel
theorem d_L11_295 : decode method_11_code 295 = .ok (.goto 4, 3) := by decide +kernel
theorem d_L11_298 : decode method_11_code 298 = .ok (.iconst 0, 1) := by decide +kernel
theorem d_L11_299 : decode method_11_code 299 = .ok (.istore 11, 2) := by decide +kernel
theorem d_L11_301 : decode method_11_code 301 = .ok (.iinc 14 1, 3) := by decide +kernel
theorem d_L11_304 : decode method_11_code 304 = .ok (.goto (-104), 3) := by decide +kernel
theorem d_L11_307 : decode method_11_code 307 = .ok (.iload 6, 2) := by decide +kernel
theorem d_L11_309 : decode method_11_code 309 = .ok (.iconst 5, 1) := by decide +kernel
theorem d_L11_310 : decode method_11_code 310 = .ok (.if_icmp .ne 56, 3) := by decide +kernel
theorem d_L11_313 : decode method_11_code 313 = .ok (.lload 4, 2) := by decide +kernel
theorem d_L11_315 : decode method_11_code 315 = .ok (.lconst 0, 1) := by decide +kernel
theorem d_L11_316 : decode method_11_code 316 = .ok (.lcmp, 1) := by decide +kernel
theorem d_L11_317 : decode method_11_code 317 = .ok (.ifCond .le 49, 3) := by decide +kernel
theorem d_L11_320 : decode method_11_code 320 = .ok (.aload_n 3, 1) := by decide +kernel
theorem d_L11_321 : decode method_11_code 321 = .ok (.iload 12, 2) := by decide +kernel
theorem d_L11_323 : decode method_11_code 323 = .ok (.iaload, 1) := by decide +kernel
theorem d_L11_324 : decode method_11_code 324 = .ok (.i2l, 1) := by decide +kernel
theorem d_L11_325 : decode method_11_code 325 = .ok (.iload 7, 2) := by decide +kernel
theorem d_L11_327 : decode method_11_code 327 = .ok (.i2l, 1) := by decide +kernel
theorem d_L11_328 : decode method_11_code 328 = .ok (.lmul, 1) := by decide +kernel
theorem d_L11_329 : decode method_11_code 329 = .ok (.lload 4, 2) := by decide +kernel
theorem d_L11_331 : decode method_11_code 331 = .ok (.ldiv, 1) := by decide +kernel
theorem d_L11_332 : decode method_11_code 332 = .ok (.lstore 14, 2) := by decide +kernel
theorem d_L11_334 : decode method_11_code 334 = .ok (.iload 11, 2) := by decide +kernel
theorem d_L11_336 : decode method_11_code 336 = .ok (.ifCond .eq 27, 3) := by decide +kernel
theorem d_L11_339 : decode method_11_code 339 = .ok (.iload 13, 2) := by decide +kernel
theorem d_L11_341 : decode method_11_code 341 = .ok (.i2l, 1) := by decide +kernel
theorem d_L11_342 : decode method_11_code 342 = .ok (.lload 14, 2) := by decide +kernel
theorem d_L11_344 : decode method_11_code 344 = .ok (.lcmp, 1) := by decide +kernel
theorem d_L11_345 : decode method_11_code 345 = .ok (.ifCond .eq 14, 3) := by decide +kernel
theorem d_L11_348 : decode method_11_code 348 = .ok (.iload 13, 2) := by decide +kernel
theorem d_L11_350 : decode method_11_code 350 = .ok (.i2l, 1) := by decide +kernel
theorem d_L11_351 : decode method_11_code 351 = .ok (.lload 14, 2) := by decide +kernel
theorem d_L11_353 : decode method_11_code 353 = .ok (.lconst 1, 1) := by decide +kernel
theorem d_L11_354 : decode method_11_code 354 = .ok (.ladd, 1) := by decide +kernel
theorem d_L11_355 : decode method_11_code 355 = .ok (.lcmp, 1) := by decide +kernel
theorem d_L11_356 : decode method_11_code 356 = .ok (.ifCond .ne 7, 3) := by decide +kernel
theorem d_L11_359 : decode method_11_code 359 = .ok (.iconst 1, 1) := by decide +kernel
theorem d_L11_360 : decode method_11_code 360 = .ok (.goto 4, 3) := by decide +kernel
theorem d_L11_363 : decode method_11_code 363 = .ok (.iconst 0, 1) := by decide +kernel
theorem d_L11_364 : decode method_11_code 364 = .ok (.istore 11, 2) := by decide +kernel
theorem d_L11_366 : decode method_11_code 366 = .ok (.iinc 12 1, 3) := by decide +kernel
theorem d_L11_369 : decode method_11_code 369 = .ok (.goto (-218), 3) := by decide +kernel
theorem d_L11_372 : decode method_11_code 372 = .ok (.iload 11, 2) := by decide +kernel
theorem d_L11_374 : decode method_11_code 374 = .ok (.ifCond .eq 25, 3) := by decide +kernel
theorem d_L11_377 : decode method_11_code 377 = .ok (.lload 9, 2) := by decide +kernel
theorem d_L11_379 : decode method_11_code 379 = .ok (.iload 8, 2) := by decide +kernel
theorem d_L11_381 : decode method_11_code 381 = .ok (.ifCond .ne 7, 3) := by decide +kernel
theorem d_L11_384 : decode method_11_code 384 = .ok (.iconst 0, 1) := by decide +kernel
theorem d_L11_385 : decode method_11_code 385 = .ok (.goto 5, 3) := by decide +kernel
theorem d_L11_388 : decode method_11_code 388 = .ok (.iload 7, 2) := by decide +kernel
theorem d_L11_390 : decode method_11_code 390 = .ok (.i2l, 1) := by decide +kernel
theorem d_L11_391 : decode method_11_code 391 = .ok (.lcmp, 1) := by decide +kernel
theorem d_L11_392 : decode method_11_code 392 = .ok (.ifCond .ne 7, 3) := by decide +kernel
theorem d_L11_395 : decode method_11_code 395 = .ok (.iconst 1, 1) := by decide +kernel
theorem d_L11_396 : decode method_11_code 396 = .ok (.goto 4, 3) := by decide +kernel
theorem d_L11_399 : decode method_11_code 399 = .ok (.iconst 0, 1) := by decide +kernel
theorem d_L11_400 : decode method_11_code 400 = .ok (.istore 11, 2) := by decide +kernel
theorem d_L11_402 : decode method_11_code 402 = .ok (.iload_n 2, 1) := by decide +kernel
theorem d_L11_403 : decode method_11_code 403 = .ok (.newarray .int, 2) := by decide +kernel
theorem d_L11_405 : decode method_11_code 405 = .ok (.astore 12, 2) := by decide +kernel
theorem d_L11_407 : decode method_11_code 407 = .ok (.iconst 0, 1) := by decide +kernel
theorem d_L11_408 : decode method_11_code 408 = .ok (.istore 13, 2) := by decide +kernel
theorem d_L11_410 : decode method_11_code 410 = .ok (.iload 13, 2) := by decide +kernel
theorem d_L11_412 : decode method_11_code 412 = .ok (.i2l, 1) := by decide +kernel
theorem d_L11_413 : decode method_11_code 413 = .ok (.lload 9, 2) := by decide +kernel
theorem d_L11_415 : decode method_11_code 415 = .ok (.lcmp, 1) := by decide +kernel
theorem d_L11_416 : decode method_11_code 416 = .ok (.ifCond .ge 22, 3) := by decide +kernel
theorem d_L11_419 : decode method_11_code 419 = .ok (.aload 12, 2) := by decide +kernel
theorem d_L11_421 : decode method_11_code 421 = .ok (.aload_n 1, 1) := by decide +kernel
theorem d_L11_422 : decode method_11_code 422 = .ok (.iload 13, 2) := by decide +kernel
theorem d_L11_424 : decode method_11_code 424 = .ok (.invokevirtual 192, 3) := by decide +kernel
theorem d_L11_427 : decode method_11_code 427 = .ok (.dup2, 1) := by decide +kernel
theorem d_L11_428 : decode method_11_code 428 = .ok (.iaload, 1) := by decide +kernel
theorem d_L11_429 : decode method_11_code 429 = .ok (.iconst 1, 1) := by decide +kernel
theorem d_L11_430 : decode method_11_code 430 = .ok (.iadd, 1) := by decide +kernel
theorem d_L11_431 : decode method_11_code 431 = .ok (.iastore, 1) := by decide +kernel
theorem d_L11_432 : decode method_11_code 432 = .ok (.iinc 13 1, 3) := by decide +kernel
theorem d_L11_435 : decode method_11_code 435 = .ok (.goto (-25), 3) := by decide +kernel
theorem d_L11_438 : decode method_11_code 438 = .ok (.iconst 0, 1) := by decide +kernel
theorem d_L11_439 : decode method_11_code 439 = .ok (.istore 13, 2) := by decide +kernel
theorem d_L11_441 : decode method_11_code 441 = .ok (.iload 13, 2) := by decide +kernel
theorem d_L11_443 : decode method_11_code 443 = .ok (.iload_n 2, 1) := by decide +kernel
theorem d_L11_444 : decode method_11_code 444 = .ok (.if_icmp .ge 35, 3) := by decide +kernel
theorem d_L11_447 : decode method_11_code 447 = .ok (.iload 11, 2) := by decide +kernel
theorem d_L11_449 : decode method_11_code 449 = .ok (.ifCond .eq 21, 3) := by decide +kernel
theorem d_L11_452 : decode method_11_code 452 = .ok (.aload 12, 2) := by decide +kernel
theorem d_L11_454 : decode method_11_code 454 = .ok (.iload 13, 2) := by decide +kernel
theorem d_L11_456 : decode method_11_code 456 = .ok (.iaload, 1) := by decide +kernel
theorem d_L11_457 : decode method_11_code 457 = .ok (.aload_n 1, 1) := by decide +kernel
theorem d_L11_458 : decode method_11_code 458 = .ok (.iload 13, 2) := by decide +kernel
theorem d_L11_460 : decode method_11_code 460 = .ok (.invokevirtual 186, 3) := by decide +kernel
theorem d_L11_463 : decode method_11_code 463 = .ok (.if_icmp .ne 7, 3) := by decide +kernel
theorem d_L11_466 : decode method_11_code 466 = .ok (.iconst 1, 1) := by decide +kernel
theorem d_L11_467 : decode method_11_code 467 = .ok (.goto 4, 3) := by decide +kernel
theorem d_L11_470 : decode method_11_code 470 = .ok (.iconst 0, 1) := by decide +kernel
theorem d_L11_471 : decode method_11_code 471 = .ok (.istore 11, 2) := by decide +kernel
theorem d_L11_473 : decode method_11_code 473 = .ok (.iinc 13 1, 3) := by decide +kernel
theorem d_L11_476 : decode method_11_code 476 = .ok (.goto (-35), 3) := by decide +kernel
theorem d_L11_479 : decode method_11_code 479 = .ok (.aload_n 0, 1) := by decide +kernel
theorem d_L11_480 : decode method_11_code 480 = .ok (.iload_n 2, 1) := by decide +kernel
theorem d_L11_481 : decode method_11_code 481 = .ok (.invokestatic 30, 3) := by decide +kernel
theorem d_L11_484 : decode method_11_code 484 = .ok (.istore 13, 2) := by decide +kernel
theorem d_L11_486 : decode method_11_code 486 = .ok (.aload_n 0, 1) := by decide +kernel
theorem d_L11_487 : decode method_11_code 487 = .ok (.iload_n 2, 1) := by decide +kernel
theorem d_L11_488 : decode method_11_code 488 = .ok (.invokestatic 30, 3) := by decide +kernel
theorem d_L11_491 : decode method_11_code 491 = .ok (.istore 14, 2) := by decide +kernel
theorem d_L11_493 : decode method_11_code 493 = .ok (.aload_n 1, 1) := by decide +kernel
theorem d_L11_494 : decode method_11_code 494 = .ok (.iload 13, 2) := by decide +kernel
theorem d_L11_496 : decode method_11_code 496 = .ok (.iconst 1, 1) := by decide +kernel
theorem d_L11_497 : decode method_11_code 497 = .ok (.invokevirtual 195, 3) := by decide +kernel
theorem d_L11_500 : decode method_11_code 500 = .ok (.aload_n 1, 1) := by decide +kernel
theorem d_L11_501 : decode method_11_code 501 = .ok (.iload 14, 2) := by decide +kernel
theorem d_L11_503 : decode method_11_code 503 = .ok (.iconst 1, 1) := by decide +kernel
theorem d_L11_504 : decode method_11_code 504 = .ok (.invokevirtual 195, 3) := by decide +kernel
theorem d_L11_507 : decode method_11_code 507 = .ok (.iadd, 1) := by decide +kernel
theorem d_L11_508 : decode method_11_code 508 = .ok (.istore 15, 2) := by decide +kernel
theorem d_L11_510 : decode method_11_code 510 = .ok (.aload_n 1, 1) := by decide +kernel
theorem d_L11_511 : decode method_11_code 511 = .ok (.iload 6, 2) := by decide +kernel
theorem d_L11_513 : decode method_11_code 513 = .ok (.iload 7, 2) := by decide +kernel
theorem d_L11_515 : decode method_11_code 515 = .ok (.iconst 0, 1) := by decide +kernel
theorem d_L11_516 : decode method_11_code 516 = .ok (.invokevirtual 182, 3) := by decide +kernel
theorem d_L11_519 : decode method_11_code 519 = .ok (.istore 16, 2) := by decide +kernel
theorem d_L11_521 : decode method_11_code 521 = .ok (.lconst 0, 1) := by decide +kernel
theorem d_L11_522 : decode method_11_code 522 = .ok (.lstore 17, 2) := by decide +kernel
theorem d_L11_524 : decode method_11_code 524 = .ok (.iconst 0, 1) := by decide +kernel
theorem d_L11_525 : decode method_11_code 525 = .ok (.istore 19, 2) := by decide +kernel
theorem d_L11_527 : decode method_11_code 527 = .ok (.iload 19, 2) := by decide +kernel
theorem d_L11_529 : decode method_11_code 529 = .ok (.iload_n 2, 1) := by decide +kernel
theorem d_L11_530 : decode method_11_code 530 = .ok (.if_icmp .ge 21, 3) := by decide +kernel
theorem d_L11_533 : decode method_11_code 533 = .ok (.lload 17, 2) := by decide +kernel
theorem d_L11_535 : decode method_11_code 535 = .ok (.aload_n 1, 1) := by decide +kernel
theorem d_L11_536 : decode method_11_code 536 = .ok (.iload 19, 2) := by decide +kernel
theorem d_L11_538 : decode method_11_code 538 = .ok (.invokevirtual 186, 3) := by decide +kernel
theorem d_L11_541 : decode method_11_code 541 = .ok (.i2l, 1) := by decide +kernel
theorem d_L11_542 : decode method_11_code 542 = .ok (.ladd, 1) := by decide +kernel
theorem d_L11_543 : decode method_11_code 543 = .ok (.lstore 17, 2) := by decide +kernel
theorem d_L11_545 : decode method_11_code 545 = .ok (.iinc 19 1, 3) := by decide +kernel
theorem d_L11_548 : decode method_11_code 548 = .ok (.goto (-21), 3) := by decide +kernel
theorem d_L11_551 : decode method_11_code 551 = .ok (.iload 11, 2) := by decide +kernel
theorem d_L11_553 : decode method_11_code 553 = .ok (.ifCond .eq 22, 3) := by decide +kernel
theorem d_L11_556 : decode method_11_code 556 = .ok (.lload 17, 2) := by decide +kernel
theorem d_L11_558 : decode method_11_code 558 = .ok (.lload 9, 2) := by decide +kernel
theorem d_L11_560 : decode method_11_code 560 = .ok (.lcmp, 1) := by decide +kernel
theorem d_L11_561 : decode method_11_code 561 = .ok (.ifCond .ne 14, 3) := by decide +kernel
theorem d_L11_564 : decode method_11_code 564 = .ok (.aload_n 1, 1) := by decide +kernel
theorem d_L11_565 : decode method_11_code 565 = .ok (.invokevirtual 198, 3) := by decide +kernel
theorem d_L11_568 : decode method_11_code 568 = .ok (.ifCond .ne 7, 3) := by decide +kernel
theorem d_L11_571 : decode method_11_code 571 = .ok (.iconst 1, 1) := by decide +kernel
theorem d_L11_572 : decode method_11_code 572 = .ok (.goto 4, 3) := by decide +kernel
theorem d_L11_575 : decode method_11_code 575 = .ok (.iconst 0, 1) := by decide +kernel
theorem d_L11_576 : decode method_11_code 576 = .ok (.ireturn, 1) := by decide +kernel
theorem d_L12_0 : decode method_12_code 0 = .ok (.new 19, 3) := by decide +kernel
theorem d_L12_3 : decode method_12_code 3 = .ok (.dup, 1) := by decide +kernel
theorem d_L12_4 : decode method_12_code 4 = .ok (.invokespecial 173, 3) := by decide +kernel
theorem d_L12_7 : decode method_12_code 7 = .ok (.astore_n 1, 1) := by decide +kernel
theorem d_L12_8 : decode method_12_code 8 = .ok (.iconst 1, 1) := by decide +kernel
theorem d_L12_9 : decode method_12_code 9 = .ok (.aload_n 0, 1) := by decide +kernel
theorem d_L12_10 : decode method_12_code 10 = .ok (.bipush 8, 2) := by decide +kernel
theorem d_L12_12 : decode method_12_code 12 = .ok (.invokestatic 30, 3) := by decide +kernel
theorem d_L12_15 : decode method_12_code 15 = .ok (.iadd, 1) := by decide +kernel
theorem d_L12_16 : decode method_12_code 16 = .ok (.istore_n 2, 1) := by decide +kernel
theorem d_L12_17 : decode method_12_code 17 = .ok (.iload_n 2, 1) := by decide +kernel
theorem d_L12_18 : decode method_12_code 18 = .ok (.newarray .int, 2) := by decide +kernel
theorem d_L12_20 : decode method_12_code 20 = .ok (.astore_n 3, 1) := by decide +kernel
theorem d_L12_21 : decode method_12_code 21 = .ok (.iconst 0, 1) := by decide +kernel
theorem d_L12_22 : decode method_12_code 22 = .ok (.istore 4, 2) := by decide +kernel
theorem d_L12_24 : decode method_12_code 24 = .ok (.iload 4, 2) := by decide +kernel
theorem d_L12_26 : decode method_12_code 26 = .ok (.iload_n 2, 1) := by decide +kernel
theorem d_L12_27 : decode method_12_code 27 = .ok (.if_icmp .ge 43, 3) := by decide +kernel
theorem d_L12_30 : decode method_12_code 30 = .ok (.aload_n 3, 1) := by decide +kernel
theorem d_L12_31 : decode method_12_code 31 = .ok (.iload 4, 2) := by decide +kernel
theorem d_L12_33 : decode method_12_code 33 = .ok (.iconst 1, 1) := by decide +kernel
theorem d_L12_34 : decode method_12_code 34 = .ok (.aload_n 0, 1) := by decide +kernel
theorem d_L12_35 : decode method_12_code 35 = .ok (.bipush 50, 2) := by decide +kernel
theorem d_L12_37 : decode method_12_code 37 = .ok (.invokestatic 30, 3) := by decide +kernel
theorem d_L12_40 : decode method_12_code 40 = .ok (.iadd, 1) := by decide +kernel
theorem d_L12_41 : decode method_12_code 41 = .ok (.iastore, 1) := by decide +kernel
theorem d_L12_42 : decode method_12_code 42 = .ok (.aload_n 1, 1) := by decide +kernel
theorem d_L12_43 : decode method_12_code 43 = .ok (.aload_n 3, 1) := by decide +kernel
theorem d_L12_44 : decode method_12_code 44 = .ok (.iload 4, 2) := by decide +kernel
theorem d_L12_46 : decode method_12_code 46 = .ok (.iaload, 1) := by decide +kernel
theorem d_L12_47 : decode method_12_code 47 = .ok (.aload_n 0, 1) := by decide +kernel
theorem d_L12_48 : decode method_12_code 48 = .ok (.bipush 30, 2) := by decide +kernel
theorem d_L12_50 : decode method_12_code 50 = .ok (.invokestatic 30, 3) := by decide +kernel
theorem d_L12_53 : decode method_12_code 53 = .ok (.aload_n 0, 1) := by decide +kernel
theorem d_L12_54 : decode method_12_code 54 = .ok (.bipush 30, 2) := by decide +kernel
theorem d_L12_56 : decode method_12_code 56 = .ok (.invokestatic 30, 3) := by decide +kernel
theorem d_L12_59 : decode method_12_code 59 = .ok (.invokevirtual 201, 3) := by decide +kernel
theorem d_L12_62 : decode method_12_code 62 = .ok (.istore 5, 2) := by decide +kernel
theorem d_L12_64 : decode method_12_code 64 = .ok (.iinc 4 1, 3) := by decide +kernel
theorem d_L12_67 : decode method_12_code 67 = .ok (.goto (-43), 3) := by decide +kernel
theorem d_L12_70 : decode method_12_code 70 = .ok (.iconst 1, 1) := by decide +kernel
theorem d_L12_71 : decode method_12_code 71 = .ok (.aload_n 0, 1) := by decide +kernel
theorem d_L12_72 : decode method_12_code 72 = .ok (.iload_n 2, 1) := by decide +kernel
theorem d_L12_73 : decode method_12_code 73 = .ok (.invokestatic 30, 3) := by decide +kernel
theorem d_L12_76 : decode method_12_code 76 = .ok (.iadd, 1) := by decide +kernel
theorem d_L12_77 : decode method_12_code 77 = .ok (.istore 4, 2) := by decide +kernel
theorem d_L12_79 : decode method_12_code 79 = .ok (.sipush 1000, 3) := by decide +kernel
theorem d_L12_82 : decode method_12_code 82 = .ok (.istore 5, 2) := by decide +kernel
theorem d_L12_84 : decode method_12_code 84 = .ok (.iload 4, 2) := by decide +kernel
theorem d_L12_86 : decode method_12_code 86 = .ok (.newarray .int, 2) := by decide +kernel
theorem d_L12_88 : decode method_12_code 88 = .ok (.astore 6, 2) := by decide +kernel
theorem d_L12_90 : decode method_12_code 90 = .ok (.iconst 0, 1) := by decide +kernel
theorem d_L12_91 : decode method_12_code 91 = .ok (.istore 7, 2) := by decide +kernel
theorem d_L12_93 : decode method_12_code 93 = .ok (.iload 7, 2) := by decide +kernel
theorem d_L12_95 : decode method_12_code 95 = .ok (.iconst 1, 1) := by decide +kernel
theorem d_L12_96 : decode method_12_code 96 = .ok (.iload_n 2, 1) := by decide +kernel
theorem d_L12_97 : decode method_12_code 97 = .ok (.iconst 1, 1) := by decide +kernel
theorem d_L12_98 : decode method_12_code 98 = .ok (.isub, 1) := by decide +kernel
theorem d_L12_99 : decode method_12_code 99 = .ok (.ishl, 1) := by decide +kernel
theorem d_L12_100 : decode method_12_code 100 = .ok (.if_icmp .ge 170, 3) := by decide +kernel
theorem d_L12_103 : decode method_12_code 103 = .ok (.iload 7, 2) := by decide +kernel
theorem d_L12_105 : decode method_12_code 105 = .ok (.invokestatic 90, 3) := by decide +kernel
theorem d_L12_108 : decode method_12_code 108 = .ok (.iload 4, 2) := by decide +kernel
theorem d_L12_110 : decode method_12_code 110 = .ok (.iconst 1, 1) := by decide +kernel
theorem d_L12_111 : decode method_12_code 111 = .ok (.isub, 1) := by decide +kernel
theorem d_L12_112 : decode method_12_code 112 = .ok (.if_icmp .eq 6, 3) := by decide +kernel
theorem d_L12_115 : decode method_12_code 115 = .ok (.goto 149, 3) := by decide +kernel
theorem d_L12_118 : decode method_12_code 118 = .ok (.iconst 0, 1) := by decide +kernel
theorem d_L12_119 : decode method_12_code 119 = .ok (.istore 8, 2) := by decide +kernel
theorem d_L12_121 : decode method_12_code 121 = .ok (.iconst 0, 1) := by decide +kernel
theorem d_L12_122 : decode method_12_code 122 = .ok (.istore 9, 2) := by decide +kernel
theorem d_L12_124 : decode method_12_code 124 = .ok (.iload 4, 2) := by decide +kernel
theorem d_L12_126 : decode method_12_code 126 = .ok (.newarray .int, 2) := by decide +kernel
theorem d_L12_128 : decode method_12_code 128 = .ok (.astore 10, 2) := by decide +kernel
theorem d_L12_130 : decode method_12_code 130 = .ok (.iconst 0, 1) := by decide +kernel
theorem d_L12_131 : decode method_12_code 131 = .ok (.istore 11, 2) := by decide +kernel
theorem d_L12_133 : decode method_12_code 133 = .ok (.iconst 0, 1) := by decide +kernel
theorem d_L12_134 : decode method_12_code 134 = .ok (.istore 12, 2) := by decide +kernel
theorem d_L12_136 : decode method_12_code 136 = .ok (.iload 12, 2) := by decide +kernel
theorem d_L12_138 : decode method_12_code 138 = .ok (.iload_n 2, 1) := by decide +kernel
theorem d_L12_139 : decode method_12_code 139 = .ok (.if_icmp .ge 59, 3) := by decide +kernel
theorem d_L12_142 : decode method_12_code 142 = .ok (.iload 9, 2) := by decide +kernel
theorem d_L12_144 : decode method_12_code 144 = .ok (.aload_n 3, 1) := by decide +kernel
theorem d_L12_145 : decode method_12_code 145 = .ok (.iload 12, 2) := by decide +kernel
theorem d_L12_147 : decode method_12_code 147 = .ok (.iaload, 1) := by decide +kernel
theorem d_L12_148 : decode method_12_code 148 = .ok (.iadd, 1) := by decide +kernel
theorem d_L12_149 : decode method_12_code 149 = .ok (.istore 9, 2) := by decide +kernel
theorem d_L12_151 : decode method_12_code 151 = .ok (.iload 12, 2) := by decide +kernel
theorem d_L12_153 : decode method_12_code 153 = .ok (.iload_n 2, 1) := by decide +kernel
theorem d_L12_154 : decode method_12_code 154 = .ok (.iconst 1, 1) := by decide +kernel
theorem d_L12_155 : decode method_12_code 155 = .ok (.isub, 1) := by decide +kernel
theorem d_L12_156 : decode method_12_code 156 = .ok (.if_icmp .eq 14, 3) := by decide +kernel
theorem d_L12_159 : decode method_12_code 159 = .ok (.iload 7, 2) := by decide +kernel
theorem d_L12_161 : decode method_12_code 161 = .ok (.iload 12, 2) := by decide +kernel
theorem d_L12_163 : decode method_12_code 163 = .ok (.ishr, 1) := by decide +kernel
theorem d_L12_164 : decode method_12_code 164 = .ok (.iconst 1, 1) := by decide +kernel
theorem d_L12_165 : decode method_12_code 165 = .ok (.iand, 1) := by decide +kernel
theorem d_L12_166 : decode method_12_code 166 = .ok (.iconst 1, 1) := by decide +kernel
theorem d_L12_167 : decode method_12_code 167 = .ok (.if_icmp .ne 25, 3) := by decide +kernel
theorem d_L12_170 : decode method_12_code 170 = .ok (.iload 8, 2) := by decide +kernel
theorem d_L12_172 : decode method_12_code 172 = .ok (.iload 9, 2) := by decide +kernel
theorem d_L12_174 : decode method_12_code 174 = .ok (.invokestatic 148, 3) := by decide +kernel
theorem d_L12_177 : decode method_12_code 177 = .ok (.istore 8, 2) := by decide +kernel
theorem d_L12_179 : decode method_12_code 179 = .ok (.iconst 0, 1) := by decide +kernel
theorem d_L12_180 : decode method_12_code 180 = .ok (.istore 9, 2) := by decide +kernel
theorem d_L12_182 : decode method_12_code 182 = .ok (.aload 10, 2) := by decide +kernel
theorem d_L12_184 : decode method_12_code 184 = .ok (.iload 11, 2) := by decide +kernel
theorem d_L12_186 : decode method_12_code 186 = .ok (.iload 12, 2) := by decide +kernel
theorem d_L12_188 : decode method_12_code 188 = .ok (.iastore, 1) := by decide +kernel
theorem d_L12_189 : decode method_12_code 189 = .ok (.iinc 11 1, 3) := by decide +kernel
theorem d_L12_192 : decode method_12_code 192 = .ok (.iinc 12 1, 3) := by decide +kernel
theorem d_L12_195 : decode method_12_code 195 = .ok (.goto (-59), 3) := by decide +kernel
theorem d_L12_198 : decode method_12_code 198 = .ok (.iconst 0, 1) := by decide +kernel
theorem d_L12_199 : decode method_12_code 199 = .ok (.istore 12, 2) := by decide +kernel
theorem d_L12_201 : decode method_12_code 201 = .ok (.iload 12, 2) := by decide +kernel
theorem d_L12_203 : decode method_12_code 203 = .ok (.iload 4, 2) := by decide +kernel
theorem d_L12_205 : decode method_12_code 205 = .ok (.iconst 1, 1) := by decide +kernel
theorem d_L12_206 : decode method_12_code 206 = .ok (.isub, 1) := by decide +kernel
theorem d_L12_207 : decode method_12_code 207 = .ok (.if_icmp .ge 22, 3) := by decide +kernel
theorem d_L12_210 : decode method_12_code 210 = .ok (.aload 10, 2) := by decide +kernel
theorem d_L12_212 : decode method_12_code 212 = .ok (.iload 12, 2) := by decide +kernel
theorem d_L12_214 : decode method_12_code 214 = .ok (.iaload, 1) := by decide +kernel
theorem d_L12_215 : decode method_12_code 215 = .ok (.aload 6, 2) := by decide +kernel
theorem d_L12_217 : decode method_12_code 217 = .ok (.iload 12, 2) := by decide +kernel
theorem d_L12_219 : decode method_12_code 219 = .ok (.iaload, 1) := by decide +kernel
theorem d_L12_220 : decode method_12_code 220 = .ok (.if_icmp .ne 9, 3) := by decide +kernel
theorem d_L12_223 : decode method_12_code 223 = .ok (.iinc 12 1, 3) := by decide +kernel
theorem d_L12_226 : decode method_12_code 226 = .ok (.goto (-25), 3) := by decide +kernel
theorem d_L12_229 : decode method_12_code 229 = .ok (.iload 8, 2) := by decide +kernel
theorem d_L12_231 : decode method_12_code 231 = .ok (.iload 5, 2) := by decide +kernel
theorem d_L12_233 : decode method_12_code 233 = .ok (.if_icmp .lt 23, 3) := by decide +kernel
theorem d_L12_236 : decode method_12_code 236 = .ok (.iload 8, 2) := by decide +kernel
theorem d_L12_238 : decode method_12_code 238 = .ok (.iload 5, 2) := by decide +kernel
theorem d_L12_240 : decode method_12_code 240 = .ok (.if_icmp .ne 24, 3) := by decide +kernel
theorem d_L12_243 : decode method_12_code 243 = .ok (.aload 10, 2) := by decide +kernel
theorem d_L12_245 : decode method_12_code 245 = .ok (.iload 12, 2) := by decide +kernel
theorem d_L12_247 : decode method_12_code 247 = .ok (.iaload, 1) := by decide +kernel
theorem d_L12_248 : decode method_12_code 248 = .ok (.aload 6, 2) := by decide +kernel
theorem d_L12_250 : decode method_12_code 250 = .ok (.iload 12, 2) := by decide +kernel
theorem d_L12_252 : decode method_12_code 252 = .ok (.iaload, 1) := by decide +kernel
theorem d_L12_253 : decode method_12_code 253 = .ok (.if_icmp .ge 11, 3) := by decide +kernel
theorem d_L12_256 : decode method_12_code 256 = .ok (.iload 8, 2) := by decide +kernel
theorem d_L12_258 : decode method_12_code 258 = .ok (.istore 5, 2) := by decide +kernel
theorem d_L12_260 : decode method_12_code 260 = .ok (.aload 10, 2) := by decide +kernel
theorem d_L12_262 : decode method_12_code 262 = .ok (.astore 6, 2) := by decide +kernel
theorem d_L12_264 : decode method_12_code 264 = .ok (.iinc 7 1, 3) := by decide +kernel
theorem d_L12_267 : decode method_12_code 267 = .ok (.goto (-174), 3) := by decide +kernel
theorem d_L12_270 : decode method_12_code 270 = .ok (.aload_n 1, 1) := by decide +kernel
theorem d_L12_271 : decode method_12_code 271 = .ok (.iload 4, 2) := by decide +kernel
theorem d_L12_273 : decode method_12_code 273 = .ok (.invokevirtual 204, 3) := by decide +kernel
theorem d_L12_276 : decode method_12_code 276 = .ok (.iload 5, 2) := by decide +kernel
theorem d_L12_278 : decode method_12_code 278 = .ok (.if_icmp .ne 7, 3) := by decide +kernel
theorem d_L12_281 : decode method_12_code 281 = .ok (.iconst 1, 1) := by decide +kernel
theorem d_L12_282 : decode method_12_code 282 = .ok (.goto 4, 3) := by decide +kernel
theorem d_L12_285 : decode method_12_code 285 = .ok (.iconst 0, 1) := by decide +kernel
theorem d_L12_286 : decode method_12_code 286 = .ok (.istore 7, 2) := by decide +kernel
theorem d_L12_288 : decode method_12_code 288 = .ok (.iconst 0, 1) := by decide +kernel
theorem d_L12_289 : decode method_12_code 289 = .ok (.istore 8, 2) := by decide +kernel
theorem d_L12_291 : decode method_12_code 291 = .ok (.iload 8, 2) := by decide +kernel
theorem d_L12_293 : decode method_12_code 293 = .ok (.iload 4, 2) := by decide +kernel
theorem d_L12_295 : decode method_12_code 295 = .ok (.if_icmp .ge 37, 3) := by decide +kernel
theorem d_L12_298 : decode method_12_code 298 = .ok (.iload 7, 2) := by decide +kernel
theorem d_L12_300 : decode method_12_code 300 = .ok (.ifCond .eq 23, 3) := by decide +kernel
theorem d_L12_303 : decode method_12_code 303 = .ok (.aload_n 1, 1) := by decide +kernel
theorem d_L12_304 : decode method_12_code 304 = .ok (.iload 4, 2) := by decide +kernel
theorem d_L12_306 : decode method_12_code 306 = .ok (.iload 8, 2) := by decide +kernel
theorem d_L12_308 : decode method_12_code 308 = .ok (.invokevirtual 207, 3) := by decide +kernel
theorem d_L12_311 : decode method_12_code 311 = .ok (.aload 6, 2) := by decide +kernel
theorem d_L12_313 : decode method_12_code 313 = .ok (.iload 8, 2) := by decide +kernel
theorem d_L12_315 : decode method_12_code 315 = .ok (.iaload, 1) := by decide +kernel
theorem d_L12_316 : decode method_12_code 316 = .ok (.if_icmp .ne 7, 3) := by decide +kernel
theorem d_L12_319 : decode method_12_code 319 = .ok (.iconst 1, 1) := by decide +kernel
theorem d_L12_320 : decode method_12_code 320 = .ok (.goto 4, 3) := by decide +kernel
theorem d_L12_323 : decode method_12_code 323 = .ok (.iconst 0, 1) := by decide +kernel
theorem d_L12_324 : decode method_12_code 324 = .ok (.istore 7, 2) := by decide +kernel
theorem d_L12_326 : decode method_12_code 326 = .ok (.iinc 8 1, 3) := by decide +kernel
theorem d_L12_329 : decode method_12_code 329 = .ok (.goto (-38), 3) := by decide +kernel
theorem d_L12_332 : decode method_12_code 332 = .ok (.iload 7, 2) := by decide +kernel
theorem d_L12_334 : decode method_12_code 334 = .ok (.ifCond .eq 47, 3) := by decide +kernel
theorem d_L12_337 : decode method_12_code 337 = .ok (.aload_n 1, 1) := by decide +kernel
theorem d_L12_338 : decode method_12_code 338 = .ok (.iload 4, 2) := by decide +kernel
theorem d_L12_340 : decode method_12_code 340 = .ok (.iconst 0, 1) := by decide +kernel
theorem d_L12_341 : decode method_12_code 341 = .ok (.invokevirtual 210, 3) := by decide +kernel
theorem d_L12_344 : decode method_12_code 344 = .ok (.aload_n 1, 1) := by decide +kernel
theorem d_L12_345 : decode method_12_code 345 = .ok (.iload 4, 2) := by decide +kernel
theorem d_L12_347 : decode method_12_code 347 = .ok (.iconst 1, 1) := by decide +kernel
theorem d_L12_348 : decode method_12_code 348 = .ok (.invokevirtual 210, 3) := by decide +kernel
theorem d_L12_351 : decode method_12_code 351 = .ok (.iadd, 1) := by decide +kernel
theorem d_L12_352 : decode method_12_code 352 = .ok (.iload 4, 2) := by decide +kernel
theorem d_L12_354 : decode method_12_code 354 = .ok (.if_icmp .gt 27, 3) := by decide +kernel
theorem d_L12_357 : decode method_12_code 357 = .ok (.aload_n 1, 1) := by decide +kernel
theorem d_L12_358 : decode method_12_code 358 = .ok (.iload 4, 2) := by decide +kernel
theorem d_L12_360 : decode method_12_code 360 = .ok (.iconst 0, 1) := by decide +kernel
theorem d_L12_361 : decode method_12_code 361 = .ok (.invokevirtual 213, 3) := by decide +kernel
theorem d_L12_364 : decode method_12_code 364 = .ok (.ifCond .lt 17, 3) := by decide +kernel
theorem d_L12_367 : decode method_12_code 367 = .ok (.aload_n 1, 1) := by decide +kernel
theorem d_L12_368 : decode method_12_code 368 = .ok (.iload 4, 2) := by decide +kernel
theorem d_L12_370 : decode method_12_code 370 = .ok (.iconst 1, 1) := by decide +kernel
theorem d_L12_371 : decode method_12_code 371 = .ok (.invokevirtual 213, 3) := by decide +kernel
theorem d_L12_374 : decode method_12_code 374 = .ok (.ifCond .lt 7, 3) := by decide +kernel
theorem d_L12_377 : decode method_12_code 377 = .ok (.iconst 1, 1) := by decide +kernel
theorem d_L12_378 : decode method_12_code 378 = .ok (.goto 4, 3) := by decide +kernel
theorem d_L12_381 : decode method_12_code 381 = .ok (.iconst 0, 1) := by decide +kernel
theorem d_L12_382 : decode method_12_code 382 = .ok (.ireturn, 1) := by decide +kernel
theorem d_L13_0 : decode method_13_code 0 = .ok (.new 19, 3) := by decide +kernel
theorem d_L13_3 : decode method_13_code 3 = .ok (.dup, 1) := by decide +kernel
