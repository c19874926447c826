theorem d_L13_4 : decode method_13_code 4 = .ok (.invokespecial 173, 3) := by decide +kernel
theorem d_L13_7 : decode method_13_code 7 = .ok (.astore_n 1, 1) := by decide +kernel
theorem d_L13_8 : decode method_13_code 8 = .ok (.iconst 1, 1) := by decide +kernel
theorem d_L13_9 : decode method_13_code 9 = .ok (.aload_n 0, 1) := by decide +kernel
theorem d_L13_10 : decode method_13_code 10 = .ok (.bipush 7, 2) := by decide +kernel
theorem d_L13_12 : decode method_13_code 12 = .ok (.invokestatic 30, 3) := by decide +kernel
theorem d_L13_15 : decode method_13_code 15 = .ok (.iadd, 1) := by decide +kernel
theorem d_L13_16 : decode method_13_code 16 = .ok (.istore_n 2, 1) := by decide +kernel
theorem d_L13_17 : decode method_13_code 17 = .ok (.iconst 0, 1) := by decide +kernel
theorem d_L13_18 : decode method_13_code 18 = .ok (.istore_n 3, 1) := by decide +kernel
theorem d_L13_19 : decode method_13_code 19 = .ok (.iload_n 2, 1) := by decide +kernel
theorem d_L13_20 : decode method_13_code 20 = .ok (.newarray .int, 2) := by decide +kernel
theorem d_L13_22 : decode method_13_code 22 = .ok (.astore 4, 2) := by decide +kernel
theorem d_L13_24 : decode method_13_code 24 = .ok (.lconst 1, 1) := by decide +kernel
theorem d_L13_25 : decode method_13_code 25 = .ok (.lstore 5, 2) := by decide +kernel
theorem d_L13_27 : decode method_13_code 27 = .ok (.iconst 0, 1) := by decide +kernel
theorem d_L13_28 : decode method_13_code 28 = .ok (.istore 7, 2) := by decide +kernel
theorem d_L13_30 : decode method_13_code 30 = .ok (.iload 7, 2) := by decide +kernel
theorem d_L13_32 : decode method_13_code 32 = .ok (.iload_n 2, 1) := by decide +kernel
theorem d_L13_33 : decode method_13_code 33 = .ok (.if_icmp .ge 49, 3) := by decide +kernel
theorem d_L13_36 : decode method_13_code 36 = .ok (.aload 4, 2) := by decide +kernel
theorem d_L13_38 : decode method_13_code 38 = .ok (.iload 7, 2) := by decide +kernel
theorem d_L13_40 : decode method_13_code 40 = .ok (.aload_n 0, 1) := by decide +kernel
theorem d_L13_41 : decode method_13_code 41 = .ok (.bipush 12, 2) := by decide +kernel
theorem d_L13_43 : decode method_13_code 43 = .ok (.invokestatic 30, 3) := by decide +kernel
theorem d_L13_46 : decode method_13_code 46 = .ok (.iastore, 1) := by decide +kernel
theorem d_L13_47 : decode method_13_code 47 = .ok (.iload_n 3, 1) := by decide +kernel
theorem d_L13_48 : decode method_13_code 48 = .ok (.aload 4, 2) := by decide +kernel
theorem d_L13_50 : decode method_13_code 50 = .ok (.iload 7, 2) := by decide +kernel
theorem d_L13_52 : decode method_13_code 52 = .ok (.iaload, 1) := by decide +kernel
theorem d_L13_53 : decode method_13_code 53 = .ok (.iadd, 1) := by decide +kernel
theorem d_L13_54 : decode method_13_code 54 = .ok (.istore_n 3, 1) := by decide +kernel
theorem d_L13_55 : decode method_13_code 55 = .ok (.aload_n 1, 1) := by decide +kernel
theorem d_L13_56 : decode method_13_code 56 = .ok (.aload 4, 2) := by decide +kernel
theorem d_L13_58 : decode method_13_code 58 = .ok (.iload 7, 2) := by decide +kernel
theorem d_L13_60 : decode method_13_code 60 = .ok (.iaload, 1) := by decide +kernel
theorem d_L13_61 : decode method_13_code 61 = .ok (.invokevirtual 216, 3) := by decide +kernel
theorem d_L13_64 : decode method_13_code 64 = .ok (.istore 8, 2) := by decide +kernel
theorem d_L13_66 : decode method_13_code 66 = .ok (.lload 5, 2) := by decide +kernel
theorem d_L13_68 : decode method_13_code 68 = .ok (.iload 7, 2) := by decide +kernel
theorem d_L13_70 : decode method_13_code 70 = .ok (.iconst 1, 1) := by decide +kernel
theorem d_L13_71 : decode method_13_code 71 = .ok (.iadd, 1) := by decide +kernel
theorem d_L13_72 : decode method_13_code 72 = .ok (.i2l, 1) := by decide +kernel
theorem d_L13_73 : decode method_13_code 73 = .ok (.lmul, 1) := by decide +kernel
theorem d_L13_74 : decode method_13_code 74 = .ok (.lstore 5, 2) := by decide +kernel
theorem d_L13_76 : decode method_13_code 76 = .ok (.iinc 7 1, 3) := by decide +kernel
theorem d_L13_79 : decode method_13_code 79 = .ok (.goto (-49), 3) := by decide +kernel
theorem d_L13_82 : decode method_13_code 82 = .ok (.iconst 1, 1) := by decide +kernel
theorem d_L13_83 : decode method_13_code 83 = .ok (.aload_n 0, 1) := by decide +kernel
theorem d_L13_84 : decode method_13_code 84 = .ok (.iload_n 3, 1) := by decide +kernel
theorem d_L13_85 : decode method_13_code 85 = .ok (.iconst 3, 1) := by decide +kernel
theorem d_L13_86 : decode method_13_code 86 = .ok (.iadd, 1) := by decide +kernel
theorem d_L13_87 : decode method_13_code 87 = .ok (.invokestatic 30, 3) := by decide +kernel
theorem d_L13_90 : decode method_13_code 90 = .ok (.iadd, 1) := by decide +kernel
theorem d_L13_91 : decode method_13_code 91 = .ok (.istore 7, 2) := by decide +kernel
theorem d_L13_93 : decode method_13_code 93 = .ok (.aload_n 1, 1) := by decide +kernel
theorem d_L13_94 : decode method_13_code 94 = .ok (.iload 7, 2) := by decide +kernel
theorem d_L13_96 : decode method_13_code 96 = .ok (.invokevirtual 219, 3) := by decide +kernel
theorem d_L13_99 : decode method_13_code 99 = .ok (.istore 8, 2) := by decide +kernel
theorem d_L13_101 : decode method_13_code 101 = .ok (.lconst 0, 1) := by decide +kernel
theorem d_L13_102 : decode method_13_code 102 = .ok (.lstore 9, 2) := by decide +kernel
theorem d_L13_104 : decode method_13_code 104 = .ok (.iconst 1, 1) := by decide +kernel
theorem d_L13_105 : decode method_13_code 105 = .ok (.istore 11, 2) := by decide +kernel
theorem d_L13_107 : decode method_13_code 107 = .ok (.iconst 0, 1) := by decide +kernel
theorem d_L13_108 : decode method_13_code 108 = .ok (.istore 12, 2) := by decide +kernel
theorem d_L13_110 : decode method_13_code 110 = .ok (.iload 12, 2) := by decide +kernel
theorem d_L13_112 : decode method_13_code 112 = .ok (.iload_n 2, 1) := by decide +kernel
theorem d_L13_113 : decode method_13_code 113 = .ok (.if_icmp .ge 168, 3) := by decide +kernel
theorem d_L13_116 : decode method_13_code 116 = .ok (.iconst 0, 1) := by decide +kernel
theorem d_L13_117 : decode method_13_code 117 = .ok (.istore 13, 2) := by decide +kernel
theorem d_L13_119 : decode method_13_code 119 = .ok (.iconst 0, 1) := by decide +kernel
theorem d_L13_120 : decode method_13_code 120 = .ok (.istore 14, 2) := by decide +kernel
theorem d_L13_122 : decode method_13_code 122 = .ok (.iload 14, 2) := by decide +kernel
theorem d_L13_124 : decode method_13_code 124 = .ok (.iconst 1, 1) := by decide +kernel
theorem d_L13_125 : decode method_13_code 125 = .ok (.iload_n 2, 1) := by decide +kernel
theorem d_L13_126 : decode method_13_code 126 = .ok (.ishl, 1) := by decide +kernel
theorem d_L13_127 : decode method_13_code 127 = .ok (.if_icmp .ge 85, 3) := by decide +kernel
theorem d_L13_130 : decode method_13_code 130 = .ok (.iconst 0, 1) := by decide +kernel
theorem d_L13_131 : decode method_13_code 131 = .ok (.istore 15, 2) := by decide +kernel
theorem d_L13_133 : decode method_13_code 133 = .ok (.iconst 0, 1) := by decide +kernel
theorem d_L13_134 : decode method_13_code 134 = .ok (.istore 16, 2) := by decide +kernel
theorem d_L13_136 : decode method_13_code 136 = .ok (.iload 16, 2) := by decide +kernel
theorem d_L13_138 : decode method_13_code 138 = .ok (.iload_n 2, 1) := by decide +kernel
theorem d_L13_139 : decode method_13_code 139 = .ok (.if_icmp .ge 27, 3) := by decide +kernel
theorem d_L13_142 : decode method_13_code 142 = .ok (.iload 15, 2) := by decide +kernel
theorem d_L13_144 : decode method_13_code 144 = .ok (.iload 14, 2) := by decide +kernel
theorem d_L13_146 : decode method_13_code 146 = .ok (.iload 16, 2) := by decide +kernel
theorem d_L13_148 : decode method_13_code 148 = .ok (.ishr, 1) := by decide +kernel
theorem d_L13_149 : decode method_13_code 149 = .ok (.iconst 1, 1) := by decide +kernel
theorem d_L13_150 : decode method_13_code 150 = .ok (.iand, 1) := by decide +kernel
theorem d_L13_151 : decode method_13_code 151 = .ok (.aload 4, 2) := by decide +kernel
theorem d_L13_153 : decode method_13_code 153 = .ok (.iload 16, 2) := by decide +kernel
theorem d_L13_155 : decode method_13_code 155 = .ok (.iaload, 1) := by decide +kernel
theorem d_L13_156 : decode method_13_code 156 = .ok (.imul, 1) := by decide +kernel
theorem d_L13_157 : decode method_13_code 157 = .ok (.iadd, 1) := by decide +kernel
theorem d_L13_158 : decode method_13_code 158 = .ok (.istore 15, 2) := by decide +kernel
theorem d_L13_160 : decode method_13_code 160 = .ok (.iinc 16 1, 3) := by decide +kernel
theorem d_L13_163 : decode method_13_code 163 = .ok (.goto (-27), 3) := by decide +kernel
theorem d_L13_166 : decode method_13_code 166 = .ok (.iload 13, 2) := by decide +kernel
theorem d_L13_168 : decode method_13_code 168 = .ok (.iload 14, 2) := by decide +kernel
theorem d_L13_170 : decode method_13_code 170 = .ok (.iload 12, 2) := by decide +kernel
theorem d_L13_172 : decode method_13_code 172 = .ok (.ishr, 1) := by decide +kernel
theorem d_L13_173 : decode method_13_code 173 = .ok (.iconst 1, 1) := by decide +kernel
theorem d_L13_174 : decode method_13_code 174 = .ok (.iand, 1) := by decide +kernel
theorem d_L13_175 : decode method_13_code 175 = .ok (.ifCond .ne 27, 3) := by decide +kernel
theorem d_L13_178 : decode method_13_code 178 = .ok (.iload 15, 2) := by decide +kernel
theorem d_L13_180 : decode method_13_code 180 = .ok (.iload 7, 2) := by decide +kernel
theorem d_L13_182 : decode method_13_code 182 = .ok (.if_icmp .ge 20, 3) := by decide +kernel
theorem d_L13_185 : decode method_13_code 185 = .ok (.iload 15, 2) := by decide +kernel
theorem d_L13_187 : decode method_13_code 187 = .ok (.aload 4, 2) := by decide +kernel
theorem d_L13_189 : decode method_13_code 189 = .ok (.iload 12, 2) := by decide +kernel
theorem d_L13_191 : decode method_13_code 191 = .ok (.iaload, 1) := by decide +kernel
theorem d_L13_192 : decode method_13_code 192 = .ok (.iadd, 1) := by decide +kernel
theorem d_L13_193 : decode method_13_code 193 = .ok (.iload 7, 2) := by decide +kernel
theorem d_L13_195 : decode method_13_code 195 = .ok (.if_icmp .lt 7, 3) := by decide +kernel
theorem d_L13_198 : decode method_13_code 198 = .ok (.iconst 1, 1) := by decide +kernel
theorem d_L13_199 : decode method_13_code 199 = .ok (.goto 4, 3) := by decide +kernel
theorem d_L13_202 : decode method_13_code 202 = .ok (.iconst 0, 1) := by decide +kernel
theorem d_L13_203 : decode method_13_code 203 = .ok (.iadd, 1) := by decide +kernel
theorem d_L13_204 : decode method_13_code 204 = .ok (.istore 13, 2) := by decide +kernel
theorem d_L13_206 : decode method_13_code 206 = .ok (.iinc 14 1, 3) := by decide +kernel
theorem d_L13_209 : decode method_13_code 209 = .ok (.goto (-87), 3) := by decide +kernel
theorem d_L13_212 : decode method_13_code 212 = .ok (.lload 9, 2) := by decide +kernel
theorem d_L13_214 : decode method_13_code 214 = .ok (.aload_n 1, 1) := by decide +kernel
theorem d_L13_215 : decode method_13_code 215 = .ok (.iload 12, 2) := by decide +kernel
theorem d_L13_217 : decode method_13_code 217 = .ok (.invokevirtual 222, 3) := by decide +kernel
theorem d_L13_220 : decode method_13_code 220 = .ok (.ladd, 1) := by decide +kernel
theorem d_L13_221 : decode method_13_code 221 = .ok (.lstore 9, 2) := by decide +kernel
theorem d_L13_223 : decode method_13_code 223 = .ok (.iload 11, 2) := by decide +kernel
theorem d_L13_225 : decode method_13_code 225 = .ok (.ifCond .eq 47, 3) := by decide +kernel
theorem d_L13_228 : decode method_13_code 228 = .ok (.aload_n 1, 1) := by decide +kernel
theorem d_L13_229 : decode method_13_code 229 = .ok (.iload 12, 2) := by decide +kernel
theorem d_L13_231 : decode method_13_code 231 = .ok (.invokevirtual 226, 3) := by decide +kernel
theorem d_L13_234 : decode method_13_code 234 = .ok (.iload 13, 2) := by decide +kernel
theorem d_L13_236 : decode method_13_code 236 = .ok (.if_icmp .ne 36, 3) := by decide +kernel
theorem d_L13_239 : decode method_13_code 239 = .ok (.aload_n 1, 1) := by decide +kernel
theorem d_L13_240 : decode method_13_code 240 = .ok (.iload 12, 2) := by decide +kernel
theorem d_L13_242 : decode method_13_code 242 = .ok (.invokevirtual 222, 3) := by decide +kernel
theorem d_L13_245 : decode method_13_code 245 = .ok (.lconst 0, 1) := by decide +kernel
theorem d_L13_246 : decode method_13_code 246 = .ok (.lcmp, 1) := by decide +kernel
theorem d_L13_247 : decode method_13_code 247 = .ok (.ifCond .le 7, 3) := by decide +kernel
theorem d_L13_250 : decode method_13_code 250 = .ok (.iconst 1, 1) := by decide +kernel
theorem d_L13_251 : decode method_13_code 251 = .ok (.goto 4, 3) := by decide +kernel
theorem d_L13_254 : decode method_13_code 254 = .ok (.iconst 0, 1) := by decide +kernel
theorem d_L13_255 : decode method_13_code 255 = .ok (.iload 13, 2) := by decide +kernel
theorem d_L13_257 : decode method_13_code 257 = .ok (.ifCond .le 7, 3) := by decide +kernel
theorem d_L13_260 : decode method_13_code 260 = .ok (.iconst 1, 1) := by decide +kernel
theorem d_L13_261 : decode method_13_code 261 = .ok (.goto 4, 3) := by decide +kernel
theorem d_L13_264 : decode method_13_code 264 = .ok (.iconst 0, 1) := by decide +kernel
theorem d_L13_265 : decode method_13_code 265 = .ok (.if_icmp .ne 7, 3) := by decide +kernel
theorem d_L13_268 : decode method_13_code 268 = .ok (.iconst 1, 1) := by decide +kernel
theorem d_L13_269 : decode method_13_code 269 = .ok (.goto 4, 3) := by decide +kernel
theorem d_L13_272 : decode method_13_code 272 = .ok (.iconst 0, 1) := by decide +kernel
theorem d_L13_273 : decode method_13_code 273 = .ok (.istore 11, 2) := by decide +kernel
theorem d_L13_275 : decode method_13_code 275 = .ok (.iinc 12 1, 3) := by decide +kernel
theorem d_L13_278 : decode method_13_code 278 = .ok (.goto (-168), 3) := by decide +kernel
theorem d_L13_281 : decode method_13_code 281 = .ok (.iload 11, 2) := by decide +kernel
theorem d_L13_283 : decode method_13_code 283 = .ok (.ifCond .eq 25, 3) := by decide +kernel
theorem d_L13_286 : decode method_13_code 286 = .ok (.lload 9, 2) := by decide +kernel
theorem d_L13_288 : decode method_13_code 288 = .ok (.iload 7, 2) := by decide +kernel
theorem d_L13_290 : decode method_13_code 290 = .ok (.iload_n 3, 1) := by decide +kernel
theorem d_L13_291 : decode method_13_code 291 = .ok (.if_icmp .gt 8, 3) := by decide +kernel
theorem d_L13_294 : decode method_13_code 294 = .ok (.lload 5, 2) := by decide +kernel
theorem d_L13_296 : decode method_13_code 296 = .ok (.goto 4, 3) := by decide +kernel
theorem d_L13_299 : decode method_13_code 299 = .ok (.lconst 0, 1) := by decide +kernel
theorem d_L13_300 : decode method_13_code 300 = .ok (.lcmp, 1) := by decide +kernel
theorem d_L13_301 : decode method_13_code 301 = .ok (.ifCond .ne 7, 3) := by decide +kernel
theorem d_L13_304 : decode method_13_code 304 = .ok (.iconst 1, 1) := by decide +kernel
theorem d_L13_305 : decode method_13_code 305 = .ok (.goto 4, 3) := by decide +kernel
theorem d_L13_308 : decode method_13_code 308 = .ok (.iconst 0, 1) := by decide +kernel
theorem d_L13_309 : decode method_13_code 309 = .ok (.ireturn, 1) := by decide +kernel
theorem d_L2_0 : decode method_2_code 0 = .ok (.aload_n 0, 1) := by decide +kernel
theorem d_L2_1 : decode method_2_code 1 = .ok (.iconst 0, 1) := by decide +kernel
theorem d_L2_2 : decode method_2_code 2 = .ok (.aload_n 0, 1) := by decide +kernel
theorem d_L2_3 : decode method_2_code 3 = .ok (.iconst 0, 1) := by decide +kernel
theorem d_L2_4 : decode method_2_code 4 = .ok (.iaload, 1) := by decide +kernel
theorem d_L2_5 : decode method_2_code 5 = .ok (.ldc 7, 2) := by decide +kernel
theorem d_L2_7 : decode method_2_code 7 = .ok (.imul, 1) := by decide +kernel
theorem d_L2_8 : decode method_2_code 8 = .ok (.sipush 12345, 3) := by decide +kernel
theorem d_L2_11 : decode method_2_code 11 = .ok (.iadd, 1) := by decide +kernel
theorem d_L2_12 : decode method_2_code 12 = .ok (.iastore, 1) := by decide +kernel
theorem d_L2_13 : decode method_2_code 13 = .ok (.aload_n 0, 1) := by decide +kernel
theorem d_L2_14 : decode method_2_code 14 = .ok (.iconst 0, 1) := by decide +kernel
theorem d_L2_15 : decode method_2_code 15 = .ok (.iaload, 1) := by decide +kernel
theorem d_L2_16 : decode method_2_code 16 = .ok (.bipush 8, 2) := by decide +kernel
theorem d_L2_18 : decode method_2_code 18 = .ok (.iushr, 1) := by decide +kernel
theorem d_L2_19 : decode method_2_code 19 = .ok (.iload_n 1, 1) := by decide +kernel
theorem d_L2_20 : decode method_2_code 20 = .ok (.irem, 1) := by decide +kernel
theorem d_L2_21 : decode method_2_code 21 = .ok (.ireturn, 1) := by decide +kernel
theorem d_L3_0 : decode method_3_code 0 = .ok (.iconst 0, 1) := by decide +kernel
theorem d_L3_1 : decode method_3_code 1 = .ok (.istore_n 2, 1) := by decide +kernel
theorem d_L3_2 : decode method_3_code 2 = .ok (.iload_n 2, 1) := by decide +kernel
theorem d_L3_3 : decode method_3_code 3 = .ok (.aload_n 1, 1) := by decide +kernel
theorem d_L3_4 : decode method_3_code 4 = .ok (.invokevirtual 8, 3) := by decide +kernel
theorem d_L3_7 : decode method_3_code 7 = .ok (.if_icmp .ge 58, 3) := by decide +kernel
theorem d_L3_10 : decode method_3_code 10 = .ok (.lconst 0, 1) := by decide +kernel
theorem d_L3_11 : decode method_3_code 11 = .ok (.lstore_n 3, 1) := by decide +kernel
theorem d_L3_12 : decode method_3_code 12 = .ok (.iload_n 2, 1) := by decide +kernel
theorem d_L3_13 : decode method_3_code 13 = .ok (.istore 5, 2) := by decide +kernel
theorem d_L3_15 : decode method_3_code 15 = .ok (.iload 5, 2) := by decide +kernel
theorem d_L3_17 : decode method_3_code 17 = .ok (.iload_n 2, 1) := by decide +kernel
theorem d_L3_18 : decode method_3_code 18 = .ok (.bipush 8, 2) := by decide +kernel
theorem d_L3_20 : decode method_3_code 20 = .ok (.iadd, 1) := by decide +kernel
theorem d_L3_21 : decode method_3_code 21 = .ok (.if_icmp .ge 31, 3) := by decide +kernel
theorem d_L3_24 : decode method_3_code 24 = .ok (.iload 5, 2) := by decide +kernel
theorem d_L3_26 : decode method_3_code 26 = .ok (.aload_n 1, 1) := by decide +kernel
theorem d_L3_27 : decode method_3_code 27 = .ok (.invokevirtual 8, 3) := by decide +kernel
theorem d_L3_30 : decode method_3_code 30 = .ok (.if_icmp .ge 22, 3) := by decide +kernel
theorem d_L3_33 : decode method_3_code 33 = .ok (.lload_n 3, 1) := by decide +kernel
theorem d_L3_34 : decode method_3_code 34 = .ok (.bipush 8, 2) := by decide +kernel
theorem d_L3_36 : decode method_3_code 36 = .ok (.lshl, 1) := by decide +kernel
theorem d_L3_37 : decode method_3_code 37 = .ok (.aload_n 1, 1) := by decide +kernel
theorem d_L3_38 : decode method_3_code 38 = .ok (.iload 5, 2) := by decide +kernel
theorem d_L3_40 : decode method_3_code 40 = .ok (.invokevirtual 14, 3) := by decide +kernel
theorem d_L3_43 : decode method_3_code 43 = .ok (.i2l, 1) := by decide +kernel
theorem d_L3_44 : decode method_3_code 44 = .ok (.lor, 1) := by decide +kernel
theorem d_L3_45 : decode method_3_code 45 = .ok (.lstore_n 3, 1) := by decide +kernel
theorem d_L3_46 : decode method_3_code 46 = .ok (.iinc 5 1, 3) := by decide +kernel
theorem d_L3_49 : decode method_3_code 49 = .ok (.goto (-34), 3) := by decide +kernel
theorem d_L3_52 : decode method_3_code 52 = .ok (.aload_n 0, 1) := by decide +kernel
theorem d_L3_53 : decode method_3_code 53 = .ok (.lload_n 3, 1) := by decide +kernel
theorem d_L3_54 : decode method_3_code 54 = .ok (.invokevirtual 18, 3) := by decide +kernel
theorem d_L3_57 : decode method_3_code 57 = .ok (.istore 5, 2) := by decide +kernel
theorem d_L3_59 : decode method_3_code 59 = .ok (.iinc 2 8, 3) := by decide +kernel
theorem d_L3_62 : decode method_3_code 62 = .ok (.goto (-60), 3) := by decide +kernel
theorem d_L3_65 : decode method_3_code 65 = .ok (.return_, 1) := by decide +kernel
theorem d_L4_0 : decode method_4_code 0 = .ok (.aload_n 1, 1) := by decide +kernel
theorem d_L4_1 : decode method_4_code 1 = .ok (.getfield 24, 3) := by decide +kernel
theorem d_L4_4 : decode method_4_code 4 = .ok (.newarray .int, 2) := by decide +kernel
theorem d_L4_6 : decode method_4_code 6 = .ok (.astore_n 3, 1) := by decide +kernel
theorem d_L4_7 : decode method_4_code 7 = .ok (.aload_n 1, 1) := by decide +kernel
theorem d_L4_8 : decode method_4_code 8 = .ok (.getfield 24, 3) := by decide +kernel
theorem d_L4_11 : decode method_4_code 11 = .ok (.newarray .int, 2) := by decide +kernel
theorem d_L4_13 : decode method_4_code 13 = .ok (.astore 4, 2) := by decide +kernel
theorem d_L4_15 : decode method_4_code 15 = .ok (.iconst 0, 1) := by decide +kernel
theorem d_L4_16 : decode method_4_code 16 = .ok (.istore 5, 2) := by decide +kernel
theorem d_L4_18 : decode method_4_code 18 = .ok (.iload 5, 2) := by decide +kernel
theorem d_L4_20 : decode method_4_code 20 = .ok (.aload_n 1, 1) := by decide +kernel
theorem d_L4_21 : decode method_4_code 21 = .ok (.getfield 24, 3) := by decide +kernel
theorem d_L4_24 : decode method_4_code 24 = .ok (.if_icmp .ge 42, 3) := by decide +kernel
theorem d_L4_27 : decode method_4_code 27 = .ok (.aload_n 2, 1) := by decide +kernel
theorem d_L4_28 : decode method_4_code 28 = .ok (.iload 5, 2) := by decide +kernel
theorem d_L4_30 : decode method_4_code 30 = .ok (.iconst 1, 1) := by decide +kernel
theorem d_L4_31 : decode method_4_code 31 = .ok (.iadd, 1) := by decide +kernel
theorem d_L4_32 : decode method_4_code 32 = .ok (.invokestatic 30, 3) := by decide +kernel
theorem d_L4_35 : decode method_4_code 35 = .ok (.istore 6, 2) := by decide +kernel
theorem d_L4_37 : decode method_4_code 37 = .ok (.aload 4, 2) := by decide +kernel
theorem d_L4_39 : decode method_4_code 39 = .ok (.iload 5, 2) := by decide +kernel
theorem d_L4_41 : decode method_4_code 41 = .ok (.aload 4, 2) := by decide +kernel
theorem d_L4_43 : decode method_4_code 43 = .ok (.iload 6, 2) := by decide +kernel
theorem d_L4_45 : decode method_4_code 45 = .ok (.iaload, 1) := by decide +kernel
theorem d_L4_46 : decode method_4_code 46 = .ok (.iastore, 1) := by decide +kernel
theorem d_L4_47 : decode method_4_code 47 = .ok (.aload 4, 2) := by decide +kernel
theorem d_L4_49 : decode method_4_code 49 = .ok (.iload 6, 2) := by decide +kernel
theorem d_L4_51 : decode method_4_code 51 = .ok (.iload 5, 2) := by decide +kernel
theorem d_L4_53 : decode method_4_code 53 = .ok (.iastore, 1) := by decide +kernel
theorem d_L4_54 : decode method_4_code 54 = .ok (.aload_n 3, 1) := by decide +kernel
theorem d_L4_55 : decode method_4_code 55 = .ok (.iload 5, 2) := by decide +kernel
theorem d_L4_57 : decode method_4_code 57 = .ok (.bipush 9, 2) := by decide +kernel
theorem d_L4_59 : decode method_4_code 59 = .ok (.iastore, 1) := by decide +kernel
theorem d_L4_60 : decode method_4_code 60 = .ok (.iinc 5 1, 3) := by decide +kernel
theorem d_L4_63 : decode method_4_code 63 = .ok (.goto (-45), 3) := by decide +kernel
theorem d_L4_66 : decode method_4_code 66 = .ok (.aload_n 2, 1) := by decide +kernel
theorem d_L4_67 : decode method_4_code 67 = .ok (.bipush 9, 2) := by decide +kernel
theorem d_L4_69 : decode method_4_code 69 = .ok (.invokestatic 30, 3) := by decide +kernel
theorem d_L4_72 : decode method_4_code 72 = .ok (.ifCond .ne 7, 3) := by decide +kernel
theorem d_L4_75 : decode method_4_code 75 = .ok (.iconst 0, 1) := by decide +kernel
theorem d_L4_76 : decode method_4_code 76 = .ok (.goto 13, 3) := by decide +kernel
theorem d_L4_79 : decode method_4_code 79 = .ok (.iconst 1, 1) := by decide +kernel
theorem d_L4_80 : decode method_4_code 80 = .ok (.aload_n 2, 1) := by decide +kernel
theorem d_L4_81 : decode method_4_code 81 = .ok (.aload_n 1, 1) := by decide +kernel
theorem d_L4_82 : decode method_4_code 82 = .ok (.getfield 24, 3) := by decide +kernel
theorem d_L4_85 : decode method_4_code 85 = .ok (.invokestatic 30, 3) := by decide +kernel
theorem d_L4_88 : decode method_4_code 88 = .ok (.iadd, 1) := by decide +kernel
theorem d_L4_89 : decode method_4_code 89 = .ok (.istore 5, 2) := by decide +kernel
theorem d_L4_91 : decode method_4_code 91 = .ok (.new 36, 3) := by decide +kernel
theorem d_L4_94 : decode method_4_code 94 = .ok (.dup, 1) := by decide +kernel
theorem d_L4_95 : decode method_4_code 95 = .ok (.invokespecial 38, 3) := by decide +kernel
theorem d_L4_98 : decode method_4_code 98 = .ok (.astore 6, 2) := by decide +kernel
theorem d_L4_100 : decode method_4_code 100 = .ok (.iconst 0, 1) := by decide +kernel
theorem d_L4_101 : decode method_4_code 101 = .ok (.istore 7, 2) := by decide +kernel
theorem d_L4_103 : decode method_4_code 103 = .ok (.iconst 0, 1) := by decide +kernel
theorem d_L4_104 : decode method_4_code 104 = .ok (.istore 8, 2) := by decide +kernel
theorem d_L4_106 : decode method_4_code 106 = .ok (.iconst 0, 1) := by decide +kernel
theorem d_L4_107 : decode method_4_code 107 = .ok (.istore 9, 2) := by decide +kernel
theorem d_L4_109 : decode method_4_code 109 = .ok (.iload 9, 2) := by decide +kernel
theorem d_L4_111 : decode method_4_code 111 = .ok (.iload 5, 2) := by decide +kernel
theorem d_L4_113 : decode method_4_code 113 = .ok (.if_icmp .ge 125, 3) := by decide +kernel
theorem d_L4_116 : decode method_4_code 116 = .ok (.iload 9, 2) := by decide +kernel
theorem d_L4_118 : decode method_4_code 118 = .ok (.ifCond .le 89, 3) := by decide +kernel
theorem d_L4_121 : decode method_4_code 121 = .ok (.aload_n 2, 1) := by decide +kernel
theorem d_L4_122 : decode method_4_code 122 = .ok (.iconst 4, 1) := by decide +kernel
theorem d_L4_123 : decode method_4_code 123 = .ok (.invokestatic 30, 3) := by decide +kernel
theorem d_L4_126 : decode method_4_code 126 = .ok (.istore 10, 2) := by decide +kernel
theorem d_L4_128 : decode method_4_code 128 = .ok (.iload 7, 2) := by decide +kernel
theorem d_L4_130 : decode method_4_code 130 = .ok (.iload 10, 2) := by decide +kernel
theorem d_L4_132 : decode method_4_code 132 = .ok (.ifCond .ne 7, 3) := by decide +kernel
theorem d_L4_135 : decode method_4_code 135 = .ok (.iconst 0, 1) := by decide +kernel
theorem d_L4_136 : decode method_4_code 136 = .ok (.goto 4, 3) := by decide +kernel
theorem d_L4_139 : decode method_4_code 139 = .ok (.iconst 1, 1) := by decide +kernel
theorem d_L4_140 : decode method_4_code 140 = .ok (.iadd, 1) := by decide +kernel
theorem d_L4_141 : decode method_4_code 141 = .ok (.istore 7, 2) := by decide +kernel
theorem d_L4_143 : decode method_4_code 143 = .ok (.iload 10, 2) := by decide +kernel
theorem d_L4_145 : decode method_4_code 145 = .ok (.iconst 1, 1) := by decide +kernel
theorem d_L4_146 : decode method_4_code 146 = .ok (.if_icmp .ne 12, 3) := by decide +kernel
theorem d_L4_149 : decode method_4_code 149 = .ok (.iload 8, 2) := by decide +kernel
theorem d_L4_151 : decode method_4_code 151 = .ok (.ifCond .ne 7, 3) := by decide +kernel
theorem d_L4_154 : decode method_4_code 154 = .ok (.iconst 1, 1) := by decide +kernel
theorem d_L4_155 : decode method_4_code 155 = .ok (.goto 4, 3) := by decide +kernel
theorem d_L4_158 : decode method_4_code 158 = .ok (.iconst 0, 1) := by decide +kernel
theorem d_L4_159 : decode method_4_code 159 = .ok (.istore 11, 2) := by decide +kernel
theorem d_L4_161 : decode method_4_code 161 = .ok (.iload 8, 2) := by decide +kernel
theorem d_L4_163 : decode method_4_code 163 = .ok (.ifCond .ne 8, 3) := by decide +kernel
theorem d_L4_166 : decode method_4_code 166 = .ok (.iload 11, 2) := by decide +kernel
theorem d_L4_168 : decode method_4_code 168 = .ok (.ifCond .eq 7, 3) := by decide +kernel
theorem d_L4_171 : decode method_4_code 171 = .ok (.iconst 1, 1) := by decide +kernel
theorem d_L4_172 : decode method_4_code 172 = .ok (.goto 4, 3) := by decide +kernel
theorem d_L4_175 : decode method_4_code 175 = .ok (.iconst 0, 1) := by decide +kernel
theorem d_L4_176 : decode method_4_code 176 = .ok (.istore 8, 2) := by decide +kernel
theorem d_L4_178 : decode method_4_code 178 = .ok (.aload 6, 2) := by decide +kernel
theorem d_L4_180 : decode method_4_code 180 = .ok (.iload 10, 2) := by decide +kernel
theorem d_L4_182 : decode method_4_code 182 = .ok (.ifCond .ne 8, 3) := by decide +kernel
theorem d_L4_185 : decode method_4_code 185 = .ok (.bipush 61, 2) := by decide +kernel
theorem d_L4_187 : decode method_4_code 187 = .ok (.goto 15, 3) := by decide +kernel
theorem d_L4_190 : decode method_4_code 190 = .ok (.iload 11, 2) := by decide +kernel
theorem d_L4_192 : decode method_4_code 192 = .ok (.ifCond .eq 8, 3) := by decide +kernel
theorem d_L4_195 : decode method_4_code 195 = .ok (.bipush 124, 2) := by decide +kernel
theorem d_L4_197 : decode method_4_code 197 = .ok (.goto 5, 3) := by decide +kernel
theorem d_L4_200 : decode method_4_code 200 = .ok (.bipush 62, 2) := by decide +kernel
theorem d_L4_202 : decode method_4_code 202 = .ok (.invokevirtual 39, 3) := by decide +kernel
theorem d_L4_205 : decode method_4_code 205 = .ok (.astore 12, 2) := by decide +kernel
theorem d_L4_207 : decode method_4_code 207 = .ok (.aload_n 3, 1) := by decide +kernel
theorem d_L4_208 : decode method_4_code 208 = .ok (.aload 4, 2) := by decide +kernel
theorem d_L4_210 : decode method_4_code 210 = .ok (.iload 9, 2) := by decide +kernel
theorem d_L4_212 : decode method_4_code 212 = .ok (.iaload, 1) := by decide +kernel
theorem d_L4_213 : decode method_4_code 213 = .ok (.iload 7, 2) := by decide +kernel
theorem d_L4_215 : decode method_4_code 215 = .ok (.iastore, 1) := by decide +kernel
theorem d_L4_216 : decode method_4_code 216 = .ok (.aload 6, 2) := by decide +kernel
theorem d_L4_218 : decode method_4_code 218 = .ok (.bipush 65, 2) := by decide +kernel
theorem d_L4_220 : decode method_4_code 220 = .ok (.aload 4, 2) := by decide +kernel
theorem d_L4_222 : decode method_4_code 222 = .ok (.iload 9, 2) := by decide +kernel
theorem d_L4_224 : decode method_4_code 224 = .ok (.iaload, 1) := by decide +kernel
theorem d_L4_225 : decode method_4_code 225 = .ok (.iadd, 1) := by decide +kernel
theorem d_L4_226 : decode method_4_code 226 = .ok (.i2c, 1) := by decide +kernel
theorem d_L4_227 : decode method_4_code 227 = .ok (.invokevirtual 39, 3) := by decide +kernel
theorem d_L4_230 : decode method_4_code 230 = .ok (.astore 10, 2) := by decide +kernel
theorem d_L4_232 : decode method_4_code 232 = .ok (.iinc 9 1, 3) := by decide +kernel
theorem d_L4_235 : decode method_4_code 235 = .ok (.goto (-126), 3) := by decide +kernel
theorem d_L4_238 : decode method_4_code 238 = .ok (.aload_n 0, 1) := by decide +kernel
theorem d_L4_239 : decode method_4_code 239 = .ok (.aload 6, 2) := by decide +kernel
theorem d_L4_241 : decode method_4_code 241 = .ok (.invokevirtual 43, 3) := by decide +kernel
theorem d_L4_244 : decode method_4_code 244 = .ok (.invokestatic 47, 3) := by decide +kernel
theorem d_L4_247 : decode method_4_code 247 = .ok (.iconst 1, 1) := by decide +kernel
theorem d_L4_248 : decode method_4_code 248 = .ok (.aload_n 2, 1) := by decide +kernel
theorem d_L4_249 : decode method_4_code 249 = .ok (.aload_n 2, 1) := by decide +kernel
theorem d_L4_250 : decode method_4_code 250 = .ok (.iconst 3, 1) := by decide +kernel
theorem d_L4_251 : decode method_4_code 251 = .ok (.invokestatic 30, 3) := by decide +kernel
theorem d_L4_254 : decode method_4_code 254 = .ok (.ifCond .ne 9, 3) := by decide +kernel
theorem d_L4_257 : decode method_4_code 257 = .ok (.sipush 900, 3) := by decide +kernel
theorem d_L4_260 : decode method_4_code 260 = .ok (.goto 5, 3) := by decide +kernel
theorem d_L4_263 : decode method_4_code 263 = .ok (.bipush 12, 2) := by decide +kernel
theorem d_L4_265 : decode method_4_code 265 = .ok (.invokestatic 30, 3) := by decide +kernel
theorem d_L4_268 : decode method_4_code 268 = .ok (.iadd, 1) := by decide +kernel
theorem d_L4_269 : decode method_4_code 269 = .ok (.istore 9, 2) := by decide +kernel
theorem d_L4_271 : decode method_4_code 271 = .ok (.aload_n 0, 1) := by decide +kernel
theorem d_L4_272 : decode method_4_code 272 = .ok (.iload 9, 2) := by decide +kernel
theorem d_L4_274 : decode method_4_code 274 = .ok (.invokevirtual 50, 3) := by decide +kernel
theorem d_L4_277 : decode method_4_code 277 = .ok (.istore 10, 2) := by decide +kernel
theorem d_L4_279 : decode method_4_code 279 = .ok (.iload 10, 2) := by decide +kernel
theorem d_L4_281 : decode method_4_code 281 = .ok (.ifCond .lt 12, 3) := by decide +kernel
theorem d_L4_284 : decode method_4_code 284 = .ok (.iload 10, 2) := by decide +kernel
theorem d_L4_286 : decode method_4_code 286 = .ok (.aload_n 1, 1) := by decide +kernel
theorem d_L4_287 : decode method_4_code 287 = .ok (.getfield 54, 3) := by decide +kernel
theorem d_L4_290 : decode method_4_code 290 = .ok (.if_icmp .le 5, 3) := by decide +kernel
theorem d_L4_293 : decode method_4_code 293 = .ok (.iconst 0, 1) := by decide +kernel
theorem d_L4_294 : decode method_4_code 294 = .ok (.ireturn, 1) := by decide +kernel
theorem d_L4_295 : decode method_4_code 295 = .ok (.iload 10, 2) := by decide +kernel
theorem d_L4_297 : decode method_4_code 297 = .ok (.aload_n 1, 1) := by decide +kernel
theorem d_L4_298 : decode method_4_code 298 = .ok (.getfield 54, 3) := by decide +kernel
theorem d_L4_301 : decode method_4_code 301 = .ok (.if_icmp .ne 21, 3) := by decide +kernel
theorem d_L4_304 : decode method_4_code 304 = .ok (.aload_n 1, 1) := by decide +kernel
theorem d_L4_305 : decode method_4_code 305 = .ok (.getfield 57, 3) := by decide +kernel
theorem d_L4_308 : decode method_4_code 308 = .ok (.iload 10, 2) := by decide +kernel
theorem d_L4_310 : decode method_4_code 310 = .ok (.aload_n 3, 1) := by decide +kernel
theorem d_L4_311 : decode method_4_code 311 = .ok (.aastore, 1) := by decide +kernel
theorem d_L4_312 : decode method_4_code 312 = .ok (.aload_n 1, 1) := by decide +kernel
theorem d_L4_313 : decode method_4_code 313 = .ok (.dup, 1) := by decide +kernel
theorem d_L4_314 : decode method_4_code 314 = .ok (.getfield 54, 3) := by decide +kernel
theorem d_L4_317 : decode method_4_code 317 = .ok (.iconst 1, 1) := by decide +kernel
theorem d_L4_318 : decode method_4_code 318 = .ok (.iadd, 1) := by decide +kernel
theorem d_L4_319 : decode method_4_code 319 = .ok (.putfield 54, 3) := by decide +kernel
theorem d_L4_322 : decode method_4_code 322 = .ok (.aload_n 1, 1) := by decide +kernel
theorem d_L4_323 : decode method_4_code 323 = .ok (.getfield 61, 3) := by decide +kernel
theorem d_L4_326 : decode method_4_code 326 = .ok (.iload 10, 2) := by decide +kernel
theorem d_L4_328 : decode method_4_code 328 = .ok (.dup2, 1) := by decide +kernel
theorem d_L4_329 : decode method_4_code 329 = .ok (.iaload, 1) := by decide +kernel
theorem d_L4_330 : decode method_4_code 330 = .ok (.iload 9, 2) := by decide +kernel
theorem d_L4_332 : decode method_4_code 332 = .ok (.iadd, 1) := by decide +kernel
theorem d_L4_333 : decode method_4_code 333 = .ok (.iastore, 1) := by decide +kernel
theorem d_L4_334 : decode method_4_code 334 = .ok (.aload_n 0, 1) := by decide +kernel
theorem d_L4_335 : decode method_4_code 335 = .ok (.iload 10, 2) := by decide +kernel
theorem d_L4_337 : decode method_4_code 337 = .ok (.invokevirtual 65, 3) := by decide +kernel
theorem d_L4_340 : decode method_4_code 340 = .ok (.aload_n 1, 1) := by decide +kernel
theorem d_L4_341 : decode method_4_code 341 = .ok (.getfield 61, 3) := by decide +kernel
theorem d_L4_344 : decode method_4_code 344 = .ok (.iload 10, 2) := by decide +kernel
theorem d_L4_346 : decode method_4_code 346 = .ok (.iaload, 1) := by decide +kernel
theorem d_L4_347 : decode method_4_code 347 = .ok (.if_icmp .ne 7, 3) := by decide +kernel
theorem d_L4_350 : decode method_4_code 350 = .ok (.iconst 1, 1) := by decide +kernel
theorem d_L4_351 : decode method_4_code 351 = .ok (.goto 4, 3) := by decide +kernel
theorem d_L4_354 : decode method_4_code 354 = .ok (.iconst 0, 1) := by decide +kernel
theorem d_L4_355 : decode method_4_code 355 = .ok (.istore 11, 2) := by decide +kernel
theorem d_L4_357 : decode method_4_code 357 = .ok (.iconst 0, 1) := by decide +kernel
theorem d_L4_358 : decode method_4_code 358 = .ok (.istore 12, 2) := by decide +kernel
theorem d_L4_360 : decode method_4_code 360 = .ok (.iload 12, 2) := by decide +kernel
theorem d_L4_362 : decode method_4_code 362 = .ok (.aload_n 1, 1) := by decide +kernel
theorem d_L4_363 : decode method_4_code 363 = .ok (.getfield 24, 3) := by decide +kernel
theorem d_L4_366 : decode method_4_code 366 = .ok (.if_icmp .ge 88, 3) := by decide +kernel
theorem d_L4_369 : decode method_4_code 369 = .ok (.aload_n 0, 1) := by decide +kernel
theorem d_L4_370 : decode method_4_code 370 = .ok (.iload 10, 2) := by decide +kernel
theorem d_L4_372 : decode method_4_code 372 = .ok (.iload 12, 2) := by decide +kernel
theorem d_L4_374 : decode method_4_code 374 = .ok (.iconst 1, 1) := by decide +kernel
theorem d_L4_375 : decode method_4_code 375 = .ok (.invokevirtual 68, 3) := by decide +kernel
theorem d_L4_378 : decode method_4_code 378 = .ok (.istore 13, 2) := by decide +kernel
theorem d_L4_380 : decode method_4_code 380 = .ok (.iload 11, 2) := by decide +kernel
theorem d_L4_382 : decode method_4_code 382 = .ok (.ifCond .eq 63, 3) := by decide +kernel
theorem d_L4_385 : decode method_4_code 385 = .ok (.aload_n 1, 1) := by decide +kernel
theorem d_L4_386 : decode method_4_code 386 = .ok (.getfield 57, 3) := by decide +kernel
theorem d_L4_389 : decode method_4_code 389 = .ok (.iload 10, 2) := by decide +kernel
theorem d_L4_391 : decode method_4_code 391 = .ok (.aaload, 1) := by decide +kernel
theorem d_L4_392 : decode method_4_code 392 = .ok (.iload 12, 2) := by decide +kernel
theorem d_L4_394 : decode method_4_code 394 = .ok (.iaload, 1) := by decide +kernel
theorem d_L4_395 : decode method_4_code 395 = .ok (.aload_n 3, 1) := by decide +kernel
theorem d_L4_396 : decode method_4_code 396 = .ok (.iload 12, 2) := by decide +kernel
theorem d_L4_398 : decode method_4_code 398 = .ok (.iaload, 1) := by decide +kernel
theorem d_L4_399 : decode method_4_code 399 = .ok (.if_icmp .ne 46, 3) := by decide +kernel
theorem d_L4_402 : decode method_4_code 402 = .ok (.aload_n 3, 1) := by decide +kernel
theorem d_L4_403 : decode method_4_code 403 = .ok (.iload 12, 2) := by decide +kernel
theorem d_L4_405 : decode method_4_code 405 = .ok (.iaload, 1) := by decide +kernel
theorem d_L4_406 : decode method_4_code 406 = .ok (.bipush 9, 2) := by decide +kernel
theorem d_L4_408 : decode method_4_code 408 = .ok (.if_icmp .ge 15, 3) := by decide +kernel
theorem d_L4_411 : decode method_4_code 411 = .ok (.iload 13, 2) := by decide +kernel
theorem d_L4_413 : decode method_4_code 413 = .ok (.aload_n 3, 1) := by decide +kernel
theorem d_L4_414 : decode method_4_code 414 = .ok (.iload 12, 2) := by decide +kernel
theorem d_L4_416 : decode method_4_code 416 = .ok (.iaload, 1) := by decide +kernel
theorem d_L4_417 : decode method_4_code 417 = .ok (.if_icmp .ne 28, 3) := by decide +kernel
theorem d_L4_420 : decode method_4_code 420 = .ok (.goto 21, 3) := by decide +kernel
theorem d_L4_423 : decode method_4_code 423 = .ok (.iload 13, 2) := by decide +kernel
theorem d_L4_425 : decode method_4_code 425 = .ok (.iload 5, 2) := by decide +kernel
theorem d_L4_427 : decode method_4_code 427 = .ok (.ifCond .ne 7, 3) := by decide +kernel
theorem d_L4_430 : decode method_4_code 430 = .ok (.iconst 0, 1) := by decide +kernel
theorem d_L4_431 : decode method_4_code 431 = .ok (.goto 7, 3) := by decide +kernel
theorem d_L4_434 : decode method_4_code 434 = .ok (.iload 7, 2) := by decide +kernel
theorem d_L4_436 : decode method_4_code 436 = .ok (.iconst 1, 1) := by decide +kernel
theorem d_L4_437 : decode method_4_code 437 = .ok (.iadd, 1) := by decide +kernel
theorem d_L4_438 : decode method_4_code 438 = .ok (.if_icmp .ne 7, 3) := by decide +kernel
theorem d_L4_441 : decode method_4_code 441 = .ok (.iconst 1, 1) := by decide +kernel
theorem d_L4_442 : decode method_4_code 442 = .ok (.goto 4, 3) := by decide +kernel
theorem d_L4_445 : decode method_4_code 445 = .ok (.iconst 0, 1) := by decide +kernel
theorem d_L4_446 : decode method_4_code 446 = .ok (.istore 11, 2) := by decide +kernel
theorem d_L4_448 : decode method_4_code 448 = .ok (.iinc 12 1, 3) := by decide +kernel
theorem d_L4_451 : decode method_4_code 451 = .ok (.goto (-91), 3) := by decide +kernel
theorem d_L4_454 : decode method_4_code 454 = .ok (.iload 11, 2) := by decide +kernel
theorem d_L4_456 : decode method_4_code 456 = .ok (.ireturn, 1) := by decide +kernel
theorem d_L5_0 : decode method_5_code 0 = .ok (.iconst 1, 1) := by decide +kernel
theorem d_L5_1 : decode method_5_code 1 = .ok (.aload_n 2, 1) := by decide +kernel
theorem d_L5_2 : decode method_5_code 2 = .ok (.iconst 3, 1) := by decide +kernel
theorem d_L5_3 : decode method_5_code 3 = .ok (.invokestatic 30, 3) := by decide +kernel
theorem d_L5_6 : decode method_5_code 6 = .ok (.iadd, 1) := by decide +kernel
theorem d_L5_7 : decode method_5_code 7 = .ok (.istore_n 3, 1) := by decide +kernel
theorem d_L5_8 : decode method_5_code 8 = .ok (.aload_n 0, 1) := by decide +kernel
theorem d_L5_9 : decode method_5_code 9 = .ok (.iload_n 3, 1) := by decide +kernel
theorem d_L5_10 : decode method_5_code 10 = .ok (.invokevirtual 72, 3) := by decide +kernel
theorem d_L5_13 : decode method_5_code 13 = .ok (.istore 4, 2) := by decide +kernel
theorem d_L5_15 : decode method_5_code 15 = .ok (.iconst 0, 1) := by decide +kernel
theorem d_L5_16 : decode method_5_code 16 = .ok (.istore 5, 2) := by decide +kernel
theorem d_L5_18 : decode method_5_code 18 = .ok (.iconst 0, 1) := by decide +kernel
theorem d_L5_19 : decode method_5_code 19 = .ok (.istore 6, 2) := by decide +kernel
theorem d_L5_21 : decode method_5_code 21 = .ok (.iload 6, 2) := by decide +kernel
theorem d_L5_23 : decode method_5_code 23 = .ok (.iload 4, 2) := by decide +kernel
theorem d_L5_25 : decode method_5_code 25 = .ok (.if_icmp .ge 22, 3) := by decide +kernel
theorem d_L5_28 : decode method_5_code 28 = .ok (.iload 5, 2) := by decide +kernel
theorem d_L5_30 : decode method_5_code 30 = .ok (.iconst 1, 1) := by decide +kernel
theorem d_L5_31 : decode method_5_code 31 = .ok (.aload_n 0, 1) := by decide +kernel
theorem d_L5_32 : decode method_5_code 32 = .ok (.iload 6, 2) := by decide +kernel
theorem d_L5_34 : decode method_5_code 34 = .ok (.invokevirtual 75, 3) := by decide +kernel
theorem d_L5_37 : decode method_5_code 37 = .ok (.ishl, 1) := by decide +kernel
theorem d_L5_38 : decode method_5_code 38 = .ok (.ior, 1) := by decide +kernel
theorem d_L5_39 : decode method_5_code 39 = .ok (.istore 5, 2) := by decide +kernel
theorem d_L5_41 : decode method_5_code 41 = .ok (.iinc 6 1, 3) := by decide +kernel
theorem d_L5_44 : decode method_5_code 44 = .ok (.goto (-23), 3) := by decide +kernel
theorem d_L5_47 : decode method_5_code 47 = .ok (.aload_n 1, 1) := by decide +kernel
theorem d_L5_48 : decode method_5_code 48 = .ok (.invokevirtual 78, 3) := by decide +kernel
theorem d_L5_51 : decode method_5_code 51 = .ok (.istore 6, 2) := by decide +kernel
theorem d_L5_53 : decode method_5_code 53 = .ok (.aload_n 0, 1) := by decide +kernel
theorem d_L5_54 : decode method_5_code 54 = .ok (.invokevirtual 81, 3) := by decide +kernel
theorem d_L5_57 : decode method_5_code 57 = .ok (.iload 6, 2) := by decide +kernel
theorem d_L5_59 : decode method_5_code 59 = .ok (.iload_n 3, 1) := by decide +kernel
theorem d_L5_60 : decode method_5_code 60 = .ok (.iconst 1, 1) := by decide +kernel
theorem d_L5_61 : decode method_5_code 61 = .ok (.iadd, 1) := by decide +kernel
theorem d_L5_62 : decode method_5_code 62 = .ok (.idiv, 1) := by decide +kernel
theorem d_L5_63 : decode method_5_code 63 = .ok (.iconst 1, 1) := by decide +kernel
theorem d_L5_64 : decode method_5_code 64 = .ok (.iadd, 1) := by decide +kernel
theorem d_L5_65 : decode method_5_code 65 = .ok (.if_icmp .ne 30, 3) := by decide +kernel
theorem d_L5_68 : decode method_5_code 68 = .ok (.iload 4, 2) := by decide +kernel
theorem d_L5_70 : decode method_5_code 70 = .ok (.iload_n 3, 1) := by decide +kernel
theorem d_L5_71 : decode method_5_code 71 = .ok (.aload_n 1, 1) := by decide +kernel
theorem d_L5_72 : decode method_5_code 72 = .ok (.getfield 24, 3) := by decide +kernel
theorem d_L5_75 : decode method_5_code 75 = .ok (.invokestatic 84, 3) := by decide +kernel
theorem d_L5_78 : decode method_5_code 78 = .ok (.if_icmp .ne 17, 3) := by decide +kernel
theorem d_L5_81 : decode method_5_code 81 = .ok (.iload 5, 2) := by decide +kernel
theorem d_L5_83 : decode method_5_code 83 = .ok (.invokestatic 90, 3) := by decide +kernel
theorem d_L5_86 : decode method_5_code 86 = .ok (.iload 4, 2) := by decide +kernel
theorem d_L5_88 : decode method_5_code 88 = .ok (.if_icmp .ne 7, 3) := by decide +kernel
theorem d_L5_91 : decode method_5_code 91 = .ok (.iconst 1, 1) := by decide +kernel
theorem d_L5_92 : decode method_5_code 92 = .ok (.goto 4, 3) := by decide +kernel
theorem d_L5_95 : decode method_5_code 95 = .ok (.iconst 0, 1) := by decide +kernel
theorem d_L5_96 : decode method_5_code 96 = .ok (.istore 7, 2) := by decide +kernel
theorem d_L5_98 : decode method_5_code 98 = .ok (.iconst 1, 1) := by decide +kernel
theorem d_L5_99 : decode method_5_code 99 = .ok (.istore 8, 2) := by decide +kernel
theorem d_L5_101 : decode method_5_code 101 = .ok (.iload 8, 2) := by decide +kernel
theorem d_L5_103 : decode method_5_code 103 = .ok (.iconst 1, 1) := by decide +kernel
theorem d_L5_104 : decode method_5_code 104 = .ok (.aload_n 1, 1) := by decide +kernel
theorem d_L5_105 : decode method_5_code 105 = .ok (.getfield 24, 3) := by decide +kernel
theorem d_L5_108 : decode method_5_code 108 = .ok (.ishl, 1) := by decide +kernel
theorem d_L5_109 : decode method_5_code 109 = .ok (.if_icmp .ge 76, 3) := by decide +kernel
theorem d_L5_112 : decode method_5_code 112 = .ok (.aload_n 1, 1) := by decide +kernel
theorem d_L5_113 : decode method_5_code 113 = .ok (.iload 8, 2) := by decide +kernel
theorem d_L5_115 : decode method_5_code 115 = .ok (.invokevirtual 95, 3) := by decide +kernel
theorem d_L5_118 : decode method_5_code 118 = .ok (.aload_n 0, 1) := by decide +kernel
theorem d_L5_119 : decode method_5_code 119 = .ok (.invokevirtual 81, 3) := by decide +kernel
theorem d_L5_122 : decode method_5_code 122 = .ok (.idiv, 1) := by decide +kernel
theorem d_L5_123 : decode method_5_code 123 = .ok (.istore 9, 2) := by decide +kernel
theorem d_L5_125 : decode method_5_code 125 = .ok (.iload 7, 2) := by decide +kernel
theorem d_L5_127 : decode method_5_code 127 = .ok (.ifCond .eq 49, 3) := by decide +kernel
theorem d_L5_130 : decode method_5_code 130 = .ok (.iload 8, 2) := by decide +kernel
theorem d_L5_132 : decode method_5_code 132 = .ok (.iload 5, 2) := by decide +kernel
theorem d_L5_134 : decode method_5_code 134 = .ok (.iand, 1) := by decide +kernel
theorem d_L5_135 : decode method_5_code 135 = .ok (.invokestatic 90, 3) := by decide +kernel
theorem d_L5_138 : decode method_5_code 138 = .ok (.iload 9, 2) := by decide +kernel
theorem d_L5_140 : decode method_5_code 140 = .ok (.if_icmp .ge 13, 3) := by decide +kernel
theorem d_L5_143 : decode method_5_code 143 = .ok (.iload 8, 2) := by decide +kernel
theorem d_L5_145 : decode method_5_code 145 = .ok (.iload 5, 2) := by decide +kernel
theorem d_L5_147 : decode method_5_code 147 = .ok (.iand, 1) := by decide +kernel
theorem d_L5_148 : decode method_5_code 148 = .ok (.iload 8, 2) := by decide +kernel
theorem d_L5_150 : decode method_5_code 150 = .ok (.if_icmp .ne 26, 3) := by decide +kernel
theorem d_L5_153 : decode method_5_code 153 = .ok (.aload_n 0, 1) := by decide +kernel
theorem d_L5_154 : decode method_5_code 154 = .ok (.iload 8, 2) := by decide +kernel
theorem d_L5_156 : decode method_5_code 156 = .ok (.invokevirtual 98, 3) := by decide +kernel
theorem d_L5_159 : decode method_5_code 159 = .ok (.iload 9, 2) := by decide +kernel
theorem d_L5_161 : decode method_5_code 161 = .ok (.iload 8, 2) := by decide +kernel
theorem d_L5_163 : decode method_5_code 163 = .ok (.invokestatic 90, 3) := by decide +kernel
theorem d_L5_166 : decode method_5_code 166 = .ok (.invokestatic 84, 3) := by decide +kernel
theorem d_L5_169 : decode method_5_code 169 = .ok (.if_icmp .ne 7, 3) := by decide +kernel
theorem d_L5_172 : decode method_5_code 172 = .ok (.iconst 1, 1) := by decide +kernel
theorem d_L5_173 : decode method_5_code 173 = .ok (.goto 4, 3) := by decide +kernel
theorem d_L5_176 : decode method_5_code 176 = .ok (.iconst 0, 1) := by decide +kernel
theorem d_L5_177 : decode method_5_code 177 = .ok (.istore 7, 2) := by decide +kernel
theorem d_L5_179 : decode method_5_code 179 = .ok (.iinc 8 1, 3) := by decide +kernel
theorem d_L5_182 : decode method_5_code 182 = .ok (.goto (-81), 3) := by decide +kernel
theorem d_L5_185 : decode method_5_code 185 = .ok (.iconst 0, 1) := by decide +kernel
theorem d_L5_186 : decode method_5_code 186 = .ok (.istore 8, 2) := by decide +kernel
theorem d_L5_188 : decode method_5_code 188 = .ok (.iload 8, 2) := by decide +kernel
theorem d_L5_190 : decode method_5_code 190 = .ok (.aload_n 1, 1) := by decide +kernel
theorem d_L5_191 : decode method_5_code 191 = .ok (.getfield 24, 3) := by decide +kernel
theorem d_L5_194 : decode method_5_code 194 = .ok (.if_icmp .ge 141, 3) := by decide +kernel
theorem d_L5_197 : decode method_5_code 197 = .ok (.iload 7, 2) := by decide +kernel
theorem d_L5_199 : decode method_5_code 199 = .ok (.ifCond .eq 136, 3) := by decide +kernel
theorem d_L5_202 : decode method_5_code 202 = .ok (.lconst 0, 1) := by decide +kernel
theorem d_L5_203 : decode method_5_code 203 = .ok (.lstore 9, 2) := by decide +kernel
theorem d_L5_205 : decode method_5_code 205 = .ok (.iconst 0, 1) := by decide +kernel
theorem d_L5_206 : decode method_5_code 206 = .ok (.istore 11, 2) := by decide +kernel
theorem d_L5_208 : decode method_5_code 208 = .ok (.iload 11, 2) := by decide +kernel
theorem d_L5_210 : decode method_5_code 210 = .ok (.aload_n 1, 1) := by decide +kernel
theorem d_L5_211 : decode method_5_code 211 = .ok (.getfield 54, 3) := by decide +kernel
theorem d_L5_214 : decode method_5_code 214 = .ok (.if_icmp .ge 91, 3) := by decide +kernel
theorem d_L5_217 : decode method_5_code 217 = .ok (.iconst 0, 1) := by decide +kernel
theorem d_L5_218 : decode method_5_code 218 = .ok (.istore 12, 2) := by decide +kernel
theorem d_L5_220 : decode method_5_code 220 = .ok (.iconst 0, 1) := by decide +kernel
theorem d_L5_221 : decode method_5_code 221 = .ok (.istore 13, 2) := by decide +kernel
theorem d_L5_223 : decode method_5_code 223 = .ok (.iload 13, 2) := by decide +kernel
theorem d_L5_225 : decode method_5_code 225 = .ok (.aload_n 1, 1) := by decide +kernel
theorem d_L5_226 : decode method_5_code 226 = .ok (.getfield 24, 3) := by decide +kernel
theorem d_L5_229 : decode method_5_code 229 = .ok (.if_icmp .ge 32, 3) := by decide +kernel
theorem d_L5_232 : decode method_5_code 232 = .ok (.iload 12, 2) := by decide +kernel
theorem d_L5_234 : decode method_5_code 234 = .ok (.aload_n 1, 1) := by decide +kernel
theorem d_L5_235 : decode method_5_code 235 = .ok (.getfield 57, 3) := by decide +kernel
theorem d_L5_238 : decode method_5_code 238 = .ok (.iload 11, 2) := by decide +kernel
theorem d_L5_240 : decode method_5_code 240 = .ok (.aaload, 1) := by decide +kernel
theorem d_L5_241 : decode method_5_code 241 = .ok (.iload 13, 2) := by decide +kernel
theorem d_L5_243 : decode method_5_code 243 = .ok (.iaload, 1) := by decide +kernel
theorem d_L5_244 : decode method_5_code 244 = .ok (.ifCond .ne 7, 3) := by decide +kernel
theorem d_L5_247 : decode method_5_code 247 = .ok (.iconst 1, 1) := by decide +kernel
theorem d_L5_248 : decode method_5_code 248 = .ok (.goto 4, 3) := by decide +kernel
theorem d_L5_251 : decode method_5_code 251 = .ok (.iconst 0, 1) := by decide +kernel
theorem d_L5_252 : decode method_5_code 252 = .ok (.iadd, 1) := by decide +kernel
theorem d_L5_253 : decode method_5_code 253 = .ok (.istore 12, 2) := by decide +kernel
theorem d_L5_255 : decode method_5_code 255 = .ok (.iinc 13 1, 3) := by decide +kernel
theorem d_L5_258 : decode method_5_code 258 = .ok (.goto (-35), 3) := by decide +kernel
theorem d_L5_261 : decode method_5_code 261 = .ok (.lload 9, 2) := by decide +kernel
theorem d_L5_263 : decode method_5_code 263 = .ok (.aload_n 1, 1) := by decide +kernel
theorem d_L5_264 : decode method_5_code 264 = .ok (.getfield 57, 3) := by decide +kernel
theorem d_L5_267 : decode method_5_code 267 = .ok (.iload 11, 2) := by decide +kernel
theorem d_L5_269 : decode method_5_code 269 = .ok (.aaload, 1) := by decide +kernel
theorem d_L5_270 : decode method_5_code 270 = .ok (.iload 8, 2) := by decide +kernel
theorem d_L5_272 : decode method_5_code 272 = .ok (.iaload, 1) := by decide +kernel
theorem d_L5_273 : decode method_5_code 273 = .ok (.ifCond .ne 22, 3) := by decide +kernel
theorem d_L5_276 : decode method_5_code 276 = .ok (.aload_n 1, 1) := by decide +kernel
theorem d_L5_277 : decode method_5_code 277 = .ok (.getfield 61, 3) := by decide +kernel
theorem d_L5_280 : decode method_5_code 280 = .ok (.iload 11, 2) := by decide +kernel
theorem d_L5_282 : decode method_5_code 282 = .ok (.iaload, 1) := by decide +kernel
theorem d_L5_283 : decode method_5_code 283 = .ok (.i2l, 1) := by decide +kernel
theorem d_L5_284 : decode method_5_code 284 = .ok (.sipush 840, 3) := by decide +kernel
theorem d_L5_287 : decode method_5_code 287 = .ok (.iload 12, 2) := by decide +kernel
theorem d_L5_289 : decode method_5_code 289 = .ok (.idiv, 1) := by decide +kernel
theorem d_L5_290 : decode method_5_code 290 = .ok (.i2l, 1) := by decide +kernel
theorem d_L5_291 : decode method_5_code 291 = .ok (.lmul, 1) := by decide +kernel
theorem d_L5_292 : decode method_5_code 292 = .ok (.goto 4, 3) := by decide +kernel
theorem d_L5_295 : decode method_5_code 295 = .ok (.lconst 0, 1) := by decide +kernel
theorem d_L5_296 : decode method_5_code 296 = .ok (.ladd, 1) := by decide +kernel
theorem d_L5_297 : decode method_5_code 297 = .ok (.lstore 9, 2) := by decide +kernel
theorem d_L5_299 : decode method_5_code 299 = .ok (.iinc 11 1, 3) := by decide +kernel
theorem d_L5_302 : decode method_5_code 302 = .ok (.goto (-94), 3) := by decide +kernel
theorem d_L5_305 : decode method_5_code 305 = .ok (.aload_n 0, 1) := by decide +kernel
theorem d_L5_306 : decode method_5_code 306 = .ok (.aload_n 0, 1) := by decide +kernel
theorem d_L5_307 : decode method_5_code 307 = .ok (.iconst 0, 1) := by decide +kernel
theorem d_L5_308 : decode method_5_code 308 = .ok (.iload 8, 2) := by decide +kernel
theorem d_L5_310 : decode method_5_code 310 = .ok (.invokevirtual 101, 3) := by decide +kernel
theorem d_L5_313 : decode method_5_code 313 = .ok (.invokestatic 104, 3) := by decide +kernel
theorem d_L5_316 : decode method_5_code 316 = .ok (.lload 9, 2) := by decide +kernel
theorem d_L5_318 : decode method_5_code 318 = .ok (.lcmp, 1) := by decide +kernel
theorem d_L5_319 : decode method_5_code 319 = .ok (.ifCond .ne 7, 3) := by decide +kernel
theorem d_L5_322 : decode method_5_code 322 = .ok (.iconst 1, 1) := by decide +kernel
theorem d_L5_323 : decode method_5_code 323 = .ok (.goto 4, 3) := by decide +kernel
theorem d_L5_326 : decode method_5_code 326 = .ok (.iconst 0, 1) := by decide +kernel
theorem d_L5_327 : decode method_5_code 327 = .ok (.istore 7, 2) := by decide +kernel
theorem d_L5_329 : decode method_5_code 329 = .ok (.iinc 8 1, 3) := by decide +kernel
theorem d_L5_332 : decode method_5_code 332 = .ok (.goto (-144), 3) := by decide +kernel
theorem d_L5_335 : decode method_5_code 335 = .ok (.iload 7, 2) := by decide +kernel
theorem d_L5_337 : decode method_5_code 337 = .ok (.ifCond .eq 25, 3) := by decide +kernel
theorem d_L5_340 : decode method_5_code 340 = .ok (.aload_n 0, 1) := by decide +kernel
theorem d_L5_341 : decode method_5_code 341 = .ok (.aload_n 0, 1) := by decide +kernel
theorem d_L5_342 : decode method_5_code 342 = .ok (.aload_n 0, 1) := by decide +kernel
theorem d_L5_343 : decode method_5_code 343 = .ok (.invokevirtual 108, 3) := by decide +kernel
theorem d_L5_346 : decode method_5_code 346 = .ok (.iconst (-1), 1) := by decide +kernel
theorem d_L5_347 : decode method_5_code 347 = .ok (.invokevirtual 101, 3) := by decide +kernel
theorem d_L5_350 : decode method_5_code 350 = .ok (.invokestatic 104, 3) := by decide +kernel
theorem d_L5_353 : decode method_5_code 353 = .ok (.lconst 0, 1) := by decide +kernel
theorem d_L5_354 : decode method_5_code 354 = .ok (.lcmp, 1) := by decide +kernel
theorem d_L5_355 : decode method_5_code 355 = .ok (.ifCond .lt 7, 3) := by decide +kernel
theorem d_L5_358 : decode method_5_code 358 = .ok (.iconst 1, 1) := by decide +kernel
theorem d_L5_359 : decode method_5_code 359 = .ok (.goto 4, 3) := by decide +kernel
theorem d_L5_362 : decode method_5_code 362 = .ok (.iconst 0, 1) := by decide +kernel
theorem d_L5_363 : decode method_5_code 363 = .ok (.ireturn, 1) := by decide +kernel
theorem d_L6_0 : decode method_6_code 0 = .ok (.lconst 0, 1) := by decide +kernel
theorem d_L6_1 : decode method_6_code 1 = .ok (.lstore_n 2, 1) := by decide +kernel
theorem d_L6_2 : decode method_6_code 2 = .ok (.lconst 0, 1) := by decide +kernel
theorem d_L6_3 : decode method_6_code 3 = .ok (.lstore 4, 2) := by decide +kernel
theorem d_L6_5 : decode method_6_code 5 = .ok (.iconst 0, 1) := by decide +kernel
theorem d_L6_6 : decode method_6_code 6 = .ok (.istore 6, 2) := by decide +kernel
theorem d_L6_8 : decode method_6_code 8 = .ok (.iload_n 1, 1) := by decide +kernel
theorem d_L6_9 : decode method_6_code 9 = .ok (.bipush 16, 2) := by decide +kernel
theorem d_L6_11 : decode method_6_code 11 = .ok (.if_icmp .le 5, 3) := by decide +kernel
theorem d_L6_14 : decode method_6_code 14 = .ok (.lconst 0, 1) := by decide +kernel
theorem d_L6_15 : decode method_6_code 15 = .ok (.lreturn, 1) := by decide +kernel
theorem d_L6_16 : decode method_6_code 16 = .ok (.iconst 0, 1) := by decide +kernel
theorem d_L6_17 : decode method_6_code 17 = .ok (.istore 7, 2) := by decide +kernel
theorem d_L6_19 : decode method_6_code 19 = .ok (.iload 7, 2) := by decide +kernel
theorem d_L6_21 : decode method_6_code 21 = .ok (.iload_n 1, 1) := by decide +kernel
theorem d_L6_22 : decode method_6_code 22 = .ok (.if_icmp .ge 68, 3) := by decide +kernel
theorem d_L6_25 : decode method_6_code 25 = .ok (.aload_n 0, 1) := by decide +kernel
theorem d_L6_26 : decode method_6_code 26 = .ok (.iload 7, 2) := by decide +kernel
theorem d_L6_28 : decode method_6_code 28 = .ok (.invokevirtual 111, 3) := by decide +kernel
theorem d_L6_31 : decode method_6_code 31 = .ok (.istore 8, 2) := by decide +kernel
theorem d_L6_33 : decode method_6_code 33 = .ok (.iload 8, 2) := by decide +kernel
theorem d_L6_35 : decode method_6_code 35 = .ok (.bipush 47, 2) := by decide +kernel
theorem d_L6_37 : decode method_6_code 37 = .ok (.if_icmp .ne 9, 3) := by decide +kernel
theorem d_L6_40 : decode method_6_code 40 = .ok (.iconst 1, 1) := by decide +kernel
theorem d_L6_41 : decode method_6_code 41 = .ok (.istore 6, 2) := by decide +kernel
theorem d_L6_43 : decode method_6_code 43 = .ok (.goto 41, 3) := by decide +kernel
theorem d_L6_46 : decode method_6_code 46 = .ok (.iload 6, 2) := by decide +kernel
theorem d_L6_48 : decode method_6_code 48 = .ok (.ifCond .eq 22, 3) := by decide +kernel
theorem d_L6_51 : decode method_6_code 51 = .ok (.ldc2_w 114, 3) := by decide +kernel
theorem d_L6_54 : decode method_6_code 54 = .ok (.lload 4, 2) := by decide +kernel
theorem d_L6_56 : decode method_6_code 56 = .ok (.lmul, 1) := by decide +kernel
theorem d_L6_57 : decode method_6_code 57 = .ok (.iload 8, 2) := by decide +kernel
theorem d_L6_59 : decode method_6_code 59 = .ok (.i2l, 1) := by decide +kernel
theorem d_L6_60 : decode method_6_code 60 = .ok (.ladd, 1) := by decide +kernel
theorem d_L6_61 : decode method_6_code 61 = .ok (.ldc2_w 116, 3) := by decide +kernel
theorem d_L6_64 : decode method_6_code 64 = .ok (.lsub, 1) := by decide +kernel
theorem d_L6_65 : decode method_6_code 65 = .ok (.lstore 4, 2) := by decide +kernel
theorem d_L6_67 : decode method_6_code 67 = .ok (.goto 17, 3) := by decide +kernel
theorem d_L6_70 : decode method_6_code 70 = .ok (.ldc2_w 114, 3) := by decide +kernel
theorem d_L6_73 : decode method_6_code 73 = .ok (.lload_n 2, 1) := by decide +kernel
theorem d_L6_74 : decode method_6_code 74 = .ok (.lmul, 1) := by decide +kernel
theorem d_L6_75 : decode method_6_code 75 = .ok (.iload 8, 2) := by decide +kernel
theorem d_L6_77 : decode method_6_code 77 = .ok (.i2l, 1) := by decide +kernel
theorem d_L6_78 : decode method_6_code 78 = .ok (.ladd, 1) := by decide +kernel
theorem d_L6_79 : decode method_6_code 79 = .ok (.ldc2_w 116, 3) := by decide +kernel
theorem d_L6_82 : decode method_6_code 82 = .ok (.lsub, 1) := by decide +kernel
theorem d_L6_83 : decode method_6_code 83 = .ok (.lstore_n 2, 1) := by decide +kernel
