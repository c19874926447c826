theorem d_L6_84 : decode method_6_code 84 = .ok (.iinc 7 1, 3) := by decide +kernel
theorem d_L6_87 : decode method_6_code 87 = .ok (.goto (-68), 3) := by decide +kernel
theorem d_L6_90 : decode method_6_code 90 = .ok (.iload 6, 2) := by decide +kernel
theorem d_L6_92 : decode method_6_code 92 = .ok (.ifCond .eq 29, 3) := by decide +kernel
theorem d_L6_95 : decode method_6_code 95 = .ok (.ldc2_w 118, 3) := by decide +kernel
theorem d_L6_98 : decode method_6_code 98 = .ok (.lload 4, 2) := by decide +kernel
theorem d_L6_100 : decode method_6_code 100 = .ok (.lrem, 1) := by decide +kernel
theorem d_L6_101 : decode method_6_code 101 = .ok (.lconst 0, 1) := by decide +kernel
theorem d_L6_102 : decode method_6_code 102 = .ok (.lcmp, 1) := by decide +kernel
theorem d_L6_103 : decode method_6_code 103 = .ok (.ifCond .ne 14, 3) := by decide +kernel
theorem d_L6_106 : decode method_6_code 106 = .ok (.lload_n 2, 1) := by decide +kernel
theorem d_L6_107 : decode method_6_code 107 = .ok (.ldc2_w 118, 3) := by decide +kernel
theorem d_L6_110 : decode method_6_code 110 = .ok (.lload 4, 2) := by decide +kernel
theorem d_L6_112 : decode method_6_code 112 = .ok (.ldiv, 1) := by decide +kernel
theorem d_L6_113 : decode method_6_code 113 = .ok (.lmul, 1) := by decide +kernel
theorem d_L6_114 : decode method_6_code 114 = .ok (.goto 12, 3) := by decide +kernel
theorem d_L6_117 : decode method_6_code 117 = .ok (.lconst 0, 1) := by decide +kernel
theorem d_L6_118 : decode method_6_code 118 = .ok (.goto 8, 3) := by decide +kernel
theorem d_L6_121 : decode method_6_code 121 = .ok (.lload_n 2, 1) := by decide +kernel
theorem d_L6_122 : decode method_6_code 122 = .ok (.ldc2_w 118, 3) := by decide +kernel
theorem d_L6_125 : decode method_6_code 125 = .ok (.lmul, 1) := by decide +kernel
theorem d_L6_126 : decode method_6_code 126 = .ok (.lreturn, 1) := by decide +kernel
theorem d_L7_0 : decode method_7_code 0 = .ok (.aload_n 1, 1) := by decide +kernel
theorem d_L7_1 : decode method_7_code 1 = .ok (.getfield 24, 3) := by decide +kernel
theorem d_L7_4 : decode method_7_code 4 = .ok (.aload_n 1, 1) := by decide +kernel
theorem d_L7_5 : decode method_7_code 5 = .ok (.getfield 24, 3) := by decide +kernel
theorem d_L7_8 : decode method_7_code 8 = .ok (.multianewarray 120 2, 4) := by decide +kernel
theorem d_L7_12 : decode method_7_code 12 = .ok (.astore_n 2, 1) := by decide +kernel
theorem d_L7_13 : decode method_7_code 13 = .ok (.iconst 1, 1) := by decide +kernel
theorem d_L7_14 : decode method_7_code 14 = .ok (.istore_n 3, 1) := by decide +kernel
theorem d_L7_15 : decode method_7_code 15 = .ok (.iconst 0, 1) := by decide +kernel
theorem d_L7_16 : decode method_7_code 16 = .ok (.istore 4, 2) := by decide +kernel
theorem d_L7_18 : decode method_7_code 18 = .ok (.iload 4, 2) := by decide +kernel
theorem d_L7_20 : decode method_7_code 20 = .ok (.aload_n 1, 1) := by decide +kernel
theorem d_L7_21 : decode method_7_code 21 = .ok (.getfield 24, 3) := by decide +kernel
theorem d_L7_24 : decode method_7_code 24 = .ok (.if_icmp .ge 81, 3) := by decide +kernel
theorem d_L7_27 : decode method_7_code 27 = .ok (.iconst 0, 1) := by decide +kernel
theorem d_L7_28 : decode method_7_code 28 = .ok (.istore 5, 2) := by decide +kernel
theorem d_L7_30 : decode method_7_code 30 = .ok (.iload 5, 2) := by decide +kernel
theorem d_L7_32 : decode method_7_code 32 = .ok (.aload_n 1, 1) := by decide +kernel
theorem d_L7_33 : decode method_7_code 33 = .ok (.getfield 24, 3) := by decide +kernel
theorem d_L7_36 : decode method_7_code 36 = .ok (.if_icmp .ge 63, 3) := by decide +kernel
theorem d_L7_39 : decode method_7_code 39 = .ok (.aload_n 2, 1) := by decide +kernel
theorem d_L7_40 : decode method_7_code 40 = .ok (.iload 4, 2) := by decide +kernel
theorem d_L7_42 : decode method_7_code 42 = .ok (.aaload, 1) := by decide +kernel
theorem d_L7_43 : decode method_7_code 43 = .ok (.iload 5, 2) := by decide +kernel
theorem d_L7_45 : decode method_7_code 45 = .ok (.iload 4, 2) := by decide +kernel
theorem d_L7_47 : decode method_7_code 47 = .ok (.iload 5, 2) := by decide +kernel
theorem d_L7_49 : decode method_7_code 49 = .ok (.if_icmp .ne 7, 3) := by decide +kernel
theorem d_L7_52 : decode method_7_code 52 = .ok (.iconst 0, 1) := by decide +kernel
theorem d_L7_53 : decode method_7_code 53 = .ok (.goto 11, 3) := by decide +kernel
theorem d_L7_56 : decode method_7_code 56 = .ok (.aload_n 1, 1) := by decide +kernel
theorem d_L7_57 : decode method_7_code 57 = .ok (.iload 4, 2) := by decide +kernel
theorem d_L7_59 : decode method_7_code 59 = .ok (.iload 5, 2) := by decide +kernel
theorem d_L7_61 : decode method_7_code 61 = .ok (.invokevirtual 121, 3) := by decide +kernel
theorem d_L7_64 : decode method_7_code 64 = .ok (.iastore, 1) := by decide +kernel
theorem d_L7_65 : decode method_7_code 65 = .ok (.iload_n 3, 1) := by decide +kernel
theorem d_L7_66 : decode method_7_code 66 = .ok (.ifCond .eq 25, 3) := by decide +kernel
theorem d_L7_69 : decode method_7_code 69 = .ok (.aload_n 0, 1) := by decide +kernel
theorem d_L7_70 : decode method_7_code 70 = .ok (.iload 4, 2) := by decide +kernel
theorem d_L7_72 : decode method_7_code 72 = .ok (.iload 5, 2) := by decide +kernel
theorem d_L7_74 : decode method_7_code 74 = .ok (.invokevirtual 124, 3) := by decide +kernel
theorem d_L7_77 : decode method_7_code 77 = .ok (.aload_n 2, 1) := by decide +kernel
theorem d_L7_78 : decode method_7_code 78 = .ok (.iload 4, 2) := by decide +kernel
theorem d_L7_80 : decode method_7_code 80 = .ok (.aaload, 1) := by decide +kernel
theorem d_L7_81 : decode method_7_code 81 = .ok (.iload 5, 2) := by decide +kernel
theorem d_L7_83 : decode method_7_code 83 = .ok (.iaload, 1) := by decide +kernel
theorem d_L7_84 : decode method_7_code 84 = .ok (.if_icmp .ne 7, 3) := by decide +kernel
theorem d_L7_87 : decode method_7_code 87 = .ok (.iconst 1, 1) := by decide +kernel
theorem d_L7_88 : decode method_7_code 88 = .ok (.goto 4, 3) := by decide +kernel
theorem d_L7_91 : decode method_7_code 91 = .ok (.iconst 0, 1) := by decide +kernel
theorem d_L7_92 : decode method_7_code 92 = .ok (.istore_n 3, 1) := by decide +kernel
theorem d_L7_93 : decode method_7_code 93 = .ok (.iinc 5 1, 3) := by decide +kernel
theorem d_L7_96 : decode method_7_code 96 = .ok (.goto (-66), 3) := by decide +kernel
theorem d_L7_99 : decode method_7_code 99 = .ok (.iinc 4 1, 3) := by decide +kernel
theorem d_L7_102 : decode method_7_code 102 = .ok (.goto (-84), 3) := by decide +kernel
theorem d_L7_105 : decode method_7_code 105 = .ok (.aload_n 0, 1) := by decide +kernel
theorem d_L7_106 : decode method_7_code 106 = .ok (.invokevirtual 125, 3) := by decide +kernel
theorem d_L7_109 : decode method_7_code 109 = .ok (.istore 4, 2) := by decide +kernel
theorem d_L7_111 : decode method_7_code 111 = .ok (.iconst 0, 1) := by decide +kernel
theorem d_L7_112 : decode method_7_code 112 = .ok (.istore 5, 2) := by decide +kernel
theorem d_L7_114 : decode method_7_code 114 = .ok (.iconst 0, 1) := by decide +kernel
theorem d_L7_115 : decode method_7_code 115 = .ok (.istore 6, 2) := by decide +kernel
theorem d_L7_117 : decode method_7_code 117 = .ok (.iload 6, 2) := by decide +kernel
theorem d_L7_119 : decode method_7_code 119 = .ok (.aload_n 1, 1) := by decide +kernel
theorem d_L7_120 : decode method_7_code 120 = .ok (.getfield 24, 3) := by decide +kernel
theorem d_L7_123 : decode method_7_code 123 = .ok (.if_icmp .ge 261, 3) := by decide +kernel
theorem d_L7_126 : decode method_7_code 126 = .ok (.iconst 1, 1) := by decide +kernel
theorem d_L7_127 : decode method_7_code 127 = .ok (.istore 7, 2) := by decide +kernel
theorem d_L7_129 : decode method_7_code 129 = .ok (.iconst 1, 1) := by decide +kernel
theorem d_L7_130 : decode method_7_code 130 = .ok (.istore 8, 2) := by decide +kernel
theorem d_L7_132 : decode method_7_code 132 = .ok (.iconst 0, 1) := by decide +kernel
theorem d_L7_133 : decode method_7_code 133 = .ok (.istore 9, 2) := by decide +kernel
theorem d_L7_135 : decode method_7_code 135 = .ok (.iload 9, 2) := by decide +kernel
theorem d_L7_137 : decode method_7_code 137 = .ok (.aload_n 1, 1) := by decide +kernel
theorem d_L7_138 : decode method_7_code 138 = .ok (.getfield 24, 3) := by decide +kernel
theorem d_L7_141 : decode method_7_code 141 = .ok (.if_icmp .ge 166, 3) := by decide +kernel
theorem d_L7_144 : decode method_7_code 144 = .ok (.iload_n 3, 1) := by decide +kernel
theorem d_L7_145 : decode method_7_code 145 = .ok (.ifCond .eq 162, 3) := by decide +kernel
theorem d_L7_148 : decode method_7_code 148 = .ok (.iload 6, 2) := by decide +kernel
theorem d_L7_150 : decode method_7_code 150 = .ok (.iload 9, 2) := by decide +kernel
theorem d_L7_152 : decode method_7_code 152 = .ok (.if_icmp .ne 6, 3) := by decide +kernel
theorem d_L7_155 : decode method_7_code 155 = .ok (.goto 146, 3) := by decide +kernel
theorem d_L7_158 : decode method_7_code 158 = .ok (.aload_n 2, 1) := by decide +kernel
theorem d_L7_159 : decode method_7_code 159 = .ok (.iload 6, 2) := by decide +kernel
theorem d_L7_161 : decode method_7_code 161 = .ok (.iload 9, 2) := by decide +kernel
theorem d_L7_163 : decode method_7_code 163 = .ok (.iconst 1, 1) := by decide +kernel
theorem d_L7_164 : decode method_7_code 164 = .ok (.iload 6, 2) := by decide +kernel
theorem d_L7_166 : decode method_7_code 166 = .ok (.ishl, 1) := by decide +kernel
theorem d_L7_167 : decode method_7_code 167 = .ok (.invokestatic 128, 3) := by decide +kernel
theorem d_L7_170 : decode method_7_code 170 = .ok (.istore 10, 2) := by decide +kernel
theorem d_L7_172 : decode method_7_code 172 = .ok (.aload_n 2, 1) := by decide +kernel
theorem d_L7_173 : decode method_7_code 173 = .ok (.iload 9, 2) := by decide +kernel
theorem d_L7_175 : decode method_7_code 175 = .ok (.iload 6, 2) := by decide +kernel
theorem d_L7_177 : decode method_7_code 177 = .ok (.iconst 1, 1) := by decide +kernel
theorem d_L7_178 : decode method_7_code 178 = .ok (.iload 9, 2) := by decide +kernel
theorem d_L7_180 : decode method_7_code 180 = .ok (.ishl, 1) := by decide +kernel
theorem d_L7_181 : decode method_7_code 181 = .ok (.invokestatic 128, 3) := by decide +kernel
theorem d_L7_184 : decode method_7_code 184 = .ok (.istore 11, 2) := by decide +kernel
theorem d_L7_186 : decode method_7_code 186 = .ok (.aload_n 0, 1) := by decide +kernel
theorem d_L7_187 : decode method_7_code 187 = .ok (.iload 6, 2) := by decide +kernel
theorem d_L7_189 : decode method_7_code 189 = .ok (.iload 9, 2) := by decide +kernel
theorem d_L7_191 : decode method_7_code 191 = .ok (.invokevirtual 132, 3) := by decide +kernel
theorem d_L7_194 : decode method_7_code 194 = .ok (.iload 10, 2) := by decide +kernel
theorem d_L7_196 : decode method_7_code 196 = .ok (.if_icmp .ne 7, 3) := by decide +kernel
theorem d_L7_199 : decode method_7_code 199 = .ok (.iconst 1, 1) := by decide +kernel
theorem d_L7_200 : decode method_7_code 200 = .ok (.goto 4, 3) := by decide +kernel
theorem d_L7_203 : decode method_7_code 203 = .ok (.iconst 0, 1) := by decide +kernel
theorem d_L7_204 : decode method_7_code 204 = .ok (.istore_n 3, 1) := by decide +kernel
theorem d_L7_205 : decode method_7_code 205 = .ok (.iload 7, 2) := by decide +kernel
theorem d_L7_207 : decode method_7_code 207 = .ok (.ifCond .eq 14, 3) := by decide +kernel
theorem d_L7_210 : decode method_7_code 210 = .ok (.iload 10, 2) := by decide +kernel
theorem d_L7_212 : decode method_7_code 212 = .ok (.iload 11, 2) := by decide +kernel
theorem d_L7_214 : decode method_7_code 214 = .ok (.if_icmp .lt 7, 3) := by decide +kernel
theorem d_L7_217 : decode method_7_code 217 = .ok (.iconst 1, 1) := by decide +kernel
theorem d_L7_218 : decode method_7_code 218 = .ok (.goto 4, 3) := by decide +kernel
theorem d_L7_221 : decode method_7_code 221 = .ok (.iconst 0, 1) := by decide +kernel
theorem d_L7_222 : decode method_7_code 222 = .ok (.istore 7, 2) := by decide +kernel
theorem d_L7_224 : decode method_7_code 224 = .ok (.iload 8, 2) := by decide +kernel
theorem d_L7_226 : decode method_7_code 226 = .ok (.ifCond .eq 24, 3) := by decide +kernel
theorem d_L7_229 : decode method_7_code 229 = .ok (.aload_n 2, 1) := by decide +kernel
theorem d_L7_230 : decode method_7_code 230 = .ok (.iload 6, 2) := by decide +kernel
theorem d_L7_232 : decode method_7_code 232 = .ok (.aaload, 1) := by decide +kernel
theorem d_L7_233 : decode method_7_code 233 = .ok (.iload 9, 2) := by decide +kernel
theorem d_L7_235 : decode method_7_code 235 = .ok (.iaload, 1) := by decide +kernel
theorem d_L7_236 : decode method_7_code 236 = .ok (.aload_n 2, 1) := by decide +kernel
theorem d_L7_237 : decode method_7_code 237 = .ok (.iload 9, 2) := by decide +kernel
theorem d_L7_239 : decode method_7_code 239 = .ok (.aaload, 1) := by decide +kernel
theorem d_L7_240 : decode method_7_code 240 = .ok (.iload 6, 2) := by decide +kernel
theorem d_L7_242 : decode method_7_code 242 = .ok (.iaload, 1) := by decide +kernel
theorem d_L7_243 : decode method_7_code 243 = .ok (.if_icmp .le 7, 3) := by decide +kernel
theorem d_L7_246 : decode method_7_code 246 = .ok (.iconst 1, 1) := by decide +kernel
theorem d_L7_247 : decode method_7_code 247 = .ok (.goto 4, 3) := by decide +kernel
theorem d_L7_250 : decode method_7_code 250 = .ok (.iconst 0, 1) := by decide +kernel
theorem d_L7_251 : decode method_7_code 251 = .ok (.istore 8, 2) := by decide +kernel
theorem d_L7_253 : decode method_7_code 253 = .ok (.iload_n 3, 1) := by decide +kernel
theorem d_L7_254 : decode method_7_code 254 = .ok (.ifCond .eq 45, 3) := by decide +kernel
theorem d_L7_257 : decode method_7_code 257 = .ok (.iload 4, 2) := by decide +kernel
theorem d_L7_259 : decode method_7_code 259 = .ok (.iload 6, 2) := by decide +kernel
theorem d_L7_261 : decode method_7_code 261 = .ok (.ishr, 1) := by decide +kernel
theorem d_L7_262 : decode method_7_code 262 = .ok (.iconst 1, 1) := by decide +kernel
theorem d_L7_263 : decode method_7_code 263 = .ok (.iand, 1) := by decide +kernel
theorem d_L7_264 : decode method_7_code 264 = .ok (.ifCond .eq 31, 3) := by decide +kernel
theorem d_L7_267 : decode method_7_code 267 = .ok (.iload 4, 2) := by decide +kernel
theorem d_L7_269 : decode method_7_code 269 = .ok (.iload 9, 2) := by decide +kernel
theorem d_L7_271 : decode method_7_code 271 = .ok (.ishr, 1) := by decide +kernel
theorem d_L7_272 : decode method_7_code 272 = .ok (.iconst 1, 1) := by decide +kernel
theorem d_L7_273 : decode method_7_code 273 = .ok (.iand, 1) := by decide +kernel
theorem d_L7_274 : decode method_7_code 274 = .ok (.iconst 1, 1) := by decide +kernel
theorem d_L7_275 : decode method_7_code 275 = .ok (.if_icmp .eq 20, 3) := by decide +kernel
theorem d_L7_278 : decode method_7_code 278 = .ok (.aload_n 2, 1) := by decide +kernel
theorem d_L7_279 : decode method_7_code 279 = .ok (.iload 6, 2) := by decide +kernel
theorem d_L7_281 : decode method_7_code 281 = .ok (.aaload, 1) := by decide +kernel
theorem d_L7_282 : decode method_7_code 282 = .ok (.iload 9, 2) := by decide +kernel
theorem d_L7_284 : decode method_7_code 284 = .ok (.iaload, 1) := by decide +kernel
theorem d_L7_285 : decode method_7_code 285 = .ok (.aload_n 2, 1) := by decide +kernel
theorem d_L7_286 : decode method_7_code 286 = .ok (.iload 9, 2) := by decide +kernel
theorem d_L7_288 : decode method_7_code 288 = .ok (.aaload, 1) := by decide +kernel
theorem d_L7_289 : decode method_7_code 289 = .ok (.iload 6, 2) := by decide +kernel
theorem d_L7_291 : decode method_7_code 291 = .ok (.iaload, 1) := by decide +kernel
theorem d_L7_292 : decode method_7_code 292 = .ok (.if_icmp .le 7, 3) := by decide +kernel
theorem d_L7_295 : decode method_7_code 295 = .ok (.iconst 1, 1) := by decide +kernel
theorem d_L7_296 : decode method_7_code 296 = .ok (.goto 4, 3) := by decide +kernel
theorem d_L7_299 : decode method_7_code 299 = .ok (.iconst 0, 1) := by decide +kernel
theorem d_L7_300 : decode method_7_code 300 = .ok (.istore_n 3, 1) := by decide +kernel
theorem d_L7_301 : decode method_7_code 301 = .ok (.iinc 9 1, 3) := by decide +kernel
theorem d_L7_304 : decode method_7_code 304 = .ok (.goto (-169), 3) := by decide +kernel
theorem d_L7_307 : decode method_7_code 307 = .ok (.iload 5, 2) := by decide +kernel
theorem d_L7_309 : decode method_7_code 309 = .ok (.iload 7, 2) := by decide +kernel
theorem d_L7_311 : decode method_7_code 311 = .ok (.ifCond .eq 10, 3) := by decide +kernel
theorem d_L7_314 : decode method_7_code 314 = .ok (.iconst 1, 1) := by decide +kernel
theorem d_L7_315 : decode method_7_code 315 = .ok (.iload 6, 2) := by decide +kernel
theorem d_L7_317 : decode method_7_code 317 = .ok (.ishl, 1) := by decide +kernel
theorem d_L7_318 : decode method_7_code 318 = .ok (.goto 4, 3) := by decide +kernel
theorem d_L7_321 : decode method_7_code 321 = .ok (.iconst 0, 1) := by decide +kernel
theorem d_L7_322 : decode method_7_code 322 = .ok (.ior, 1) := by decide +kernel
theorem d_L7_323 : decode method_7_code 323 = .ok (.istore 5, 2) := by decide +kernel
theorem d_L7_325 : decode method_7_code 325 = .ok (.iload_n 3, 1) := by decide +kernel
theorem d_L7_326 : decode method_7_code 326 = .ok (.ifCond .eq 50, 3) := by decide +kernel
theorem d_L7_329 : decode method_7_code 329 = .ok (.iload 8, 2) := by decide +kernel
theorem d_L7_331 : decode method_7_code 331 = .ok (.aload_n 0, 1) := by decide +kernel
theorem d_L7_332 : decode method_7_code 332 = .ok (.invokevirtual 135, 3) := by decide +kernel
theorem d_L7_335 : decode method_7_code 335 = .ok (.iload 6, 2) := by decide +kernel
theorem d_L7_337 : decode method_7_code 337 = .ok (.if_icmp .ne 7, 3) := by decide +kernel
theorem d_L7_340 : decode method_7_code 340 = .ok (.iconst 1, 1) := by decide +kernel
theorem d_L7_341 : decode method_7_code 341 = .ok (.goto 4, 3) := by decide +kernel
theorem d_L7_344 : decode method_7_code 344 = .ok (.iconst 0, 1) := by decide +kernel
theorem d_L7_345 : decode method_7_code 345 = .ok (.if_icmp .ne 31, 3) := by decide +kernel
theorem d_L7_348 : decode method_7_code 348 = .ok (.iload 8, 2) := by decide +kernel
theorem d_L7_350 : decode method_7_code 350 = .ok (.ifCond .eq 22, 3) := by decide +kernel
theorem d_L7_353 : decode method_7_code 353 = .ok (.iload 4, 2) := by decide +kernel
theorem d_L7_355 : decode method_7_code 355 = .ok (.iconst 1, 1) := by decide +kernel
theorem d_L7_356 : decode method_7_code 356 = .ok (.iload 6, 2) := by decide +kernel
theorem d_L7_358 : decode method_7_code 358 = .ok (.ishl, 1) := by decide +kernel
theorem d_L7_359 : decode method_7_code 359 = .ok (.if_icmp .ne 17, 3) := by decide +kernel
theorem d_L7_362 : decode method_7_code 362 = .ok (.aload_n 0, 1) := by decide +kernel
theorem d_L7_363 : decode method_7_code 363 = .ok (.iconst 0, 1) := by decide +kernel
theorem d_L7_364 : decode method_7_code 364 = .ok (.invokevirtual 138, 3) := by decide +kernel
theorem d_L7_367 : decode method_7_code 367 = .ok (.iload 6, 2) := by decide +kernel
theorem d_L7_369 : decode method_7_code 369 = .ok (.if_icmp .ne 7, 3) := by decide +kernel
theorem d_L7_372 : decode method_7_code 372 = .ok (.iconst 1, 1) := by decide +kernel
theorem d_L7_373 : decode method_7_code 373 = .ok (.goto 4, 3) := by decide +kernel
theorem d_L7_376 : decode method_7_code 376 = .ok (.iconst 0, 1) := by decide +kernel
theorem d_L7_377 : decode method_7_code 377 = .ok (.istore_n 3, 1) := by decide +kernel
theorem d_L7_378 : decode method_7_code 378 = .ok (.iinc 6 1, 3) := by decide +kernel
theorem d_L7_381 : decode method_7_code 381 = .ok (.goto (-264), 3) := by decide +kernel
theorem d_L7_384 : decode method_7_code 384 = .ok (.iload_n 3, 1) := by decide +kernel
theorem d_L7_385 : decode method_7_code 385 = .ok (.ifCond .eq 24, 3) := by decide +kernel
theorem d_L7_388 : decode method_7_code 388 = .ok (.aload_n 0, 1) := by decide +kernel
theorem d_L7_389 : decode method_7_code 389 = .ok (.invokevirtual 141, 3) := by decide +kernel
theorem d_L7_392 : decode method_7_code 392 = .ok (.iload 5, 2) := by decide +kernel
theorem d_L7_394 : decode method_7_code 394 = .ok (.if_icmp .ne 15, 3) := by decide +kernel
theorem d_L7_397 : decode method_7_code 397 = .ok (.iload 5, 2) := by decide +kernel
theorem d_L7_399 : decode method_7_code 399 = .ok (.iload 4, 2) := by decide +kernel
theorem d_L7_401 : decode method_7_code 401 = .ok (.iand, 1) := by decide +kernel
theorem d_L7_402 : decode method_7_code 402 = .ok (.ifCond .eq 7, 3) := by decide +kernel
theorem d_L7_405 : decode method_7_code 405 = .ok (.iconst 1, 1) := by decide +kernel
theorem d_L7_406 : decode method_7_code 406 = .ok (.goto 4, 3) := by decide +kernel
theorem d_L7_409 : decode method_7_code 409 = .ok (.iconst 0, 1) := by decide +kernel
theorem d_L7_410 : decode method_7_code 410 = .ok (.istore_n 3, 1) := by decide +kernel
theorem d_L7_411 : decode method_7_code 411 = .ok (.lconst 0, 1) := by decide +kernel
theorem d_L7_412 : decode method_7_code 412 = .ok (.lstore 6, 2) := by decide +kernel
theorem d_L7_414 : decode method_7_code 414 = .ok (.iconst 0, 1) := by decide +kernel
theorem d_L7_415 : decode method_7_code 415 = .ok (.istore 8, 2) := by decide +kernel
theorem d_L7_417 : decode method_7_code 417 = .ok (.iload 8, 2) := by decide +kernel
theorem d_L7_419 : decode method_7_code 419 = .ok (.aload_n 1, 1) := by decide +kernel
theorem d_L7_420 : decode method_7_code 420 = .ok (.getfield 24, 3) := by decide +kernel
theorem d_L7_423 : decode method_7_code 423 = .ok (.if_icmp .ge 105, 3) := by decide +kernel
theorem d_L7_426 : decode method_7_code 426 = .ok (.iload_n 3, 1) := by decide +kernel
theorem d_L7_427 : decode method_7_code 427 = .ok (.ifCond .eq 101, 3) := by decide +kernel
theorem d_L7_430 : decode method_7_code 430 = .ok (.aload_n 0, 1) := by decide +kernel
theorem d_L7_431 : decode method_7_code 431 = .ok (.iload 8, 2) := by decide +kernel
theorem d_L7_433 : decode method_7_code 433 = .ok (.invokevirtual 138, 3) := by decide +kernel
theorem d_L7_436 : decode method_7_code 436 = .ok (.istore 9, 2) := by decide +kernel
theorem d_L7_438 : decode method_7_code 438 = .ok (.iload 8, 2) := by decide +kernel
theorem d_L7_440 : decode method_7_code 440 = .ok (.iconst 1, 1) := by decide +kernel
theorem d_L7_441 : decode method_7_code 441 = .ok (.iadd, 1) := by decide +kernel
theorem d_L7_442 : decode method_7_code 442 = .ok (.istore 10, 2) := by decide +kernel
theorem d_L7_444 : decode method_7_code 444 = .ok (.iload 10, 2) := by decide +kernel
theorem d_L7_446 : decode method_7_code 446 = .ok (.aload_n 1, 1) := by decide +kernel
theorem d_L7_447 : decode method_7_code 447 = .ok (.getfield 24, 3) := by decide +kernel
theorem d_L7_450 : decode method_7_code 450 = .ok (.if_icmp .ge 26, 3) := by decide +kernel
theorem d_L7_453 : decode method_7_code 453 = .ok (.lload 6, 2) := by decide +kernel
theorem d_L7_455 : decode method_7_code 455 = .ok (.aload_n 2, 1) := by decide +kernel
theorem d_L7_456 : decode method_7_code 456 = .ok (.aload_n 0, 1) := by decide +kernel
theorem d_L7_457 : decode method_7_code 457 = .ok (.iload 10, 2) := by decide +kernel
theorem d_L7_459 : decode method_7_code 459 = .ok (.invokevirtual 138, 3) := by decide +kernel
theorem d_L7_462 : decode method_7_code 462 = .ok (.aaload, 1) := by decide +kernel
theorem d_L7_463 : decode method_7_code 463 = .ok (.iload 9, 2) := by decide +kernel
theorem d_L7_465 : decode method_7_code 465 = .ok (.iaload, 1) := by decide +kernel
theorem d_L7_466 : decode method_7_code 466 = .ok (.i2l, 1) := by decide +kernel
theorem d_L7_467 : decode method_7_code 467 = .ok (.ladd, 1) := by decide +kernel
theorem d_L7_468 : decode method_7_code 468 = .ok (.lstore 6, 2) := by decide +kernel
theorem d_L7_470 : decode method_7_code 470 = .ok (.iinc 10 1, 3) := by decide +kernel
theorem d_L7_473 : decode method_7_code 473 = .ok (.goto (-29), 3) := by decide +kernel
theorem d_L7_476 : decode method_7_code 476 = .ok (.iload 8, 2) := by decide +kernel
theorem d_L7_478 : decode method_7_code 478 = .ok (.iconst 1, 1) := by decide +kernel
theorem d_L7_479 : decode method_7_code 479 = .ok (.iadd, 1) := by decide +kernel
theorem d_L7_480 : decode method_7_code 480 = .ok (.aload_n 1, 1) := by decide +kernel
theorem d_L7_481 : decode method_7_code 481 = .ok (.getfield 24, 3) := by decide +kernel
theorem d_L7_484 : decode method_7_code 484 = .ok (.if_icmp .eq 32, 3) := by decide +kernel
theorem d_L7_487 : decode method_7_code 487 = .ok (.aload_n 2, 1) := by decide +kernel
theorem d_L7_488 : decode method_7_code 488 = .ok (.iload 9, 2) := by decide +kernel
theorem d_L7_490 : decode method_7_code 490 = .ok (.aaload, 1) := by decide +kernel
theorem d_L7_491 : decode method_7_code 491 = .ok (.aload_n 0, 1) := by decide +kernel
theorem d_L7_492 : decode method_7_code 492 = .ok (.iload 8, 2) := by decide +kernel
theorem d_L7_494 : decode method_7_code 494 = .ok (.iconst 1, 1) := by decide +kernel
theorem d_L7_495 : decode method_7_code 495 = .ok (.iadd, 1) := by decide +kernel
theorem d_L7_496 : decode method_7_code 496 = .ok (.invokevirtual 138, 3) := by decide +kernel
theorem d_L7_499 : decode method_7_code 499 = .ok (.iaload, 1) := by decide +kernel
theorem d_L7_500 : decode method_7_code 500 = .ok (.aload_n 2, 1) := by decide +kernel
theorem d_L7_501 : decode method_7_code 501 = .ok (.aload_n 0, 1) := by decide +kernel
theorem d_L7_502 : decode method_7_code 502 = .ok (.iload 8, 2) := by decide +kernel
theorem d_L7_504 : decode method_7_code 504 = .ok (.iconst 1, 1) := by decide +kernel
theorem d_L7_505 : decode method_7_code 505 = .ok (.iadd, 1) := by decide +kernel
theorem d_L7_506 : decode method_7_code 506 = .ok (.invokevirtual 138, 3) := by decide +kernel
theorem d_L7_509 : decode method_7_code 509 = .ok (.aaload, 1) := by decide +kernel
theorem d_L7_510 : decode method_7_code 510 = .ok (.iload 9, 2) := by decide +kernel
theorem d_L7_512 : decode method_7_code 512 = .ok (.iaload, 1) := by decide +kernel
theorem d_L7_513 : decode method_7_code 513 = .ok (.if_icmp .lt 7, 3) := by decide +kernel
theorem d_L7_516 : decode method_7_code 516 = .ok (.iconst 1, 1) := by decide +kernel
theorem d_L7_517 : decode method_7_code 517 = .ok (.goto 4, 3) := by decide +kernel
theorem d_L7_520 : decode method_7_code 520 = .ok (.iconst 0, 1) := by decide +kernel
theorem d_L7_521 : decode method_7_code 521 = .ok (.istore_n 3, 1) := by decide +kernel
theorem d_L7_522 : decode method_7_code 522 = .ok (.iinc 8 1, 3) := by decide +kernel
theorem d_L7_525 : decode method_7_code 525 = .ok (.goto (-108), 3) := by decide +kernel
theorem d_L7_528 : decode method_7_code 528 = .ok (.iload_n 3, 1) := by decide +kernel
theorem d_L7_529 : decode method_7_code 529 = .ok (.ifCond .eq 17, 3) := by decide +kernel
theorem d_L7_532 : decode method_7_code 532 = .ok (.lload 6, 2) := by decide +kernel
theorem d_L7_534 : decode method_7_code 534 = .ok (.aload_n 0, 1) := by decide +kernel
theorem d_L7_535 : decode method_7_code 535 = .ok (.invokevirtual 144, 3) := by decide +kernel
theorem d_L7_538 : decode method_7_code 538 = .ok (.lcmp, 1) := by decide +kernel
theorem d_L7_539 : decode method_7_code 539 = .ok (.ifCond .ne 7, 3) := by decide +kernel
theorem d_L7_542 : decode method_7_code 542 = .ok (.iconst 1, 1) := by decide +kernel
theorem d_L7_543 : decode method_7_code 543 = .ok (.goto 4, 3) := by decide +kernel
theorem d_L7_546 : decode method_7_code 546 = .ok (.iconst 0, 1) := by decide +kernel
theorem d_L7_547 : decode method_7_code 547 = .ok (.ireturn, 1) := by decide +kernel
theorem d_L8_0 : decode method_8_code 0 = .ok (.iconst 0, 1) := by decide +kernel
theorem d_L8_1 : decode method_8_code 1 = .ok (.istore 4, 2) := by decide +kernel
theorem d_L8_3 : decode method_8_code 3 = .ok (.iconst 0, 1) := by decide +kernel
theorem d_L8_4 : decode method_8_code 4 = .ok (.istore 5, 2) := by decide +kernel
theorem d_L8_6 : decode method_8_code 6 = .ok (.iload 5, 2) := by decide +kernel
theorem d_L8_8 : decode method_8_code 8 = .ok (.aload_n 0, 1) := by decide +kernel
theorem d_L8_9 : decode method_8_code 9 = .ok (.arraylength, 1) := by decide +kernel
theorem d_L8_10 : decode method_8_code 10 = .ok (.if_icmp .ge 85, 3) := by decide +kernel
theorem d_L8_13 : decode method_8_code 13 = .ok (.iload_n 3, 1) := by decide +kernel
theorem d_L8_14 : decode method_8_code 14 = .ok (.iload 5, 2) := by decide +kernel
theorem d_L8_16 : decode method_8_code 16 = .ok (.ishr, 1) := by decide +kernel
theorem d_L8_17 : decode method_8_code 17 = .ok (.iconst 1, 1) := by decide +kernel
theorem d_L8_18 : decode method_8_code 18 = .ok (.iand, 1) := by decide +kernel
theorem d_L8_19 : decode method_8_code 19 = .ok (.iconst 1, 1) := by decide +kernel
theorem d_L8_20 : decode method_8_code 20 = .ok (.if_icmp .eq 69, 3) := by decide +kernel
theorem d_L8_23 : decode method_8_code 23 = .ok (.aload_n 0, 1) := by decide +kernel
theorem d_L8_24 : decode method_8_code 24 = .ok (.iload_n 1, 1) := by decide +kernel
theorem d_L8_25 : decode method_8_code 25 = .ok (.aaload, 1) := by decide +kernel
theorem d_L8_26 : decode method_8_code 26 = .ok (.iload 5, 2) := by decide +kernel
theorem d_L8_28 : decode method_8_code 28 = .ok (.iaload, 1) := by decide +kernel
theorem d_L8_29 : decode method_8_code 29 = .ok (.aload_n 0, 1) := by decide +kernel
theorem d_L8_30 : decode method_8_code 30 = .ok (.iload 5, 2) := by decide +kernel
theorem d_L8_32 : decode method_8_code 32 = .ok (.aaload, 1) := by decide +kernel
theorem d_L8_33 : decode method_8_code 33 = .ok (.iload_n 1, 1) := by decide +kernel
theorem d_L8_34 : decode method_8_code 34 = .ok (.iaload, 1) := by decide +kernel
theorem d_L8_35 : decode method_8_code 35 = .ok (.if_icmp .gt 6, 3) := by decide +kernel
theorem d_L8_38 : decode method_8_code 38 = .ok (.goto 51, 3) := by decide +kernel
theorem d_L8_41 : decode method_8_code 41 = .ok (.iload 5, 2) := by decide +kernel
theorem d_L8_43 : decode method_8_code 43 = .ok (.iload_n 2, 1) := by decide +kernel
theorem d_L8_44 : decode method_8_code 44 = .ok (.if_icmp .ne 12, 3) := by decide +kernel
theorem d_L8_47 : decode method_8_code 47 = .ok (.aload_n 0, 1) := by decide +kernel
theorem d_L8_48 : decode method_8_code 48 = .ok (.iload_n 1, 1) := by decide +kernel
theorem d_L8_49 : decode method_8_code 49 = .ok (.aaload, 1) := by decide +kernel
theorem d_L8_50 : decode method_8_code 50 = .ok (.iload 5, 2) := by decide +kernel
theorem d_L8_52 : decode method_8_code 52 = .ok (.iaload, 1) := by decide +kernel
theorem d_L8_53 : decode method_8_code 53 = .ok (.goto 25, 3) := by decide +kernel
theorem d_L8_56 : decode method_8_code 56 = .ok (.aload_n 0, 1) := by decide +kernel
theorem d_L8_57 : decode method_8_code 57 = .ok (.iload_n 1, 1) := by decide +kernel
theorem d_L8_58 : decode method_8_code 58 = .ok (.aaload, 1) := by decide +kernel
theorem d_L8_59 : decode method_8_code 59 = .ok (.iload 5, 2) := by decide +kernel
theorem d_L8_61 : decode method_8_code 61 = .ok (.iaload, 1) := by decide +kernel
theorem d_L8_62 : decode method_8_code 62 = .ok (.aload_n 0, 1) := by decide +kernel
theorem d_L8_63 : decode method_8_code 63 = .ok (.iload 5, 2) := by decide +kernel
theorem d_L8_65 : decode method_8_code 65 = .ok (.iload_n 2, 1) := by decide +kernel
theorem d_L8_66 : decode method_8_code 66 = .ok (.iload_n 3, 1) := by decide +kernel
theorem d_L8_67 : decode method_8_code 67 = .ok (.iconst 1, 1) := by decide +kernel
theorem d_L8_68 : decode method_8_code 68 = .ok (.iload 5, 2) := by decide +kernel
theorem d_L8_70 : decode method_8_code 70 = .ok (.ishl, 1) := by decide +kernel
theorem d_L8_71 : decode method_8_code 71 = .ok (.ior, 1) := by decide +kernel
theorem d_L8_72 : decode method_8_code 72 = .ok (.invokestatic 128, 3) := by decide +kernel
theorem d_L8_75 : decode method_8_code 75 = .ok (.invokestatic 84, 3) := by decide +kernel
theorem d_L8_78 : decode method_8_code 78 = .ok (.istore 6, 2) := by decide +kernel
theorem d_L8_80 : decode method_8_code 80 = .ok (.iload 4, 2) := by decide +kernel
theorem d_L8_82 : decode method_8_code 82 = .ok (.iload 6, 2) := by decide +kernel
theorem d_L8_84 : decode method_8_code 84 = .ok (.invokestatic 148, 3) := by decide +kernel
theorem d_L8_87 : decode method_8_code 87 = .ok (.istore 4, 2) := by decide +kernel
theorem d_L8_89 : decode method_8_code 89 = .ok (.iinc 5 1, 3) := by decide +kernel
theorem d_L8_92 : decode method_8_code 92 = .ok (.goto (-86), 3) := by decide +kernel
theorem d_L8_95 : decode method_8_code 95 = .ok (.iload 4, 2) := by decide +kernel
theorem d_L8_97 : decode method_8_code 97 = .ok (.ireturn, 1) := by decide +kernel
theorem d_L9_0 : decode method_9_code 0 = .ok (.aload_n 2, 1) := by decide +kernel
theorem d_L9_1 : decode method_9_code 1 = .ok (.iconst 5, 1) := by decide +kernel
theorem d_L9_2 : decode method_9_code 2 = .ok (.invokestatic 30, 3) := by decide +kernel
theorem d_L9_5 : decode method_9_code 5 = .ok (.istore_n 3, 1) := by decide +kernel
theorem d_L9_6 : decode method_9_code 6 = .ok (.aload_n 0, 1) := by decide +kernel
theorem d_L9_7 : decode method_9_code 7 = .ok (.iload_n 3, 1) := by decide +kernel
theorem d_L9_8 : decode method_9_code 8 = .ok (.invokevirtual 151, 3) := by decide +kernel
theorem d_L9_11 : decode method_9_code 11 = .ok (.istore 4, 2) := by decide +kernel
theorem d_L9_13 : decode method_9_code 13 = .ok (.iload 4, 2) := by decide +kernel
theorem d_L9_15 : decode method_9_code 15 = .ok (.iconst (-1), 1) := by decide +kernel
theorem d_L9_16 : decode method_9_code 16 = .ok (.if_icmp .ne 5, 3) := by decide +kernel
theorem d_L9_19 : decode method_9_code 19 = .ok (.iconst 1, 1) := by decide +kernel
theorem d_L9_20 : decode method_9_code 20 = .ok (.ireturn, 1) := by decide +kernel
theorem d_L9_21 : decode method_9_code 21 = .ok (.aload_n 0, 1) := by decide +kernel
theorem d_L9_22 : decode method_9_code 22 = .ok (.iload_n 3, 1) := by decide +kernel
theorem d_L9_23 : decode method_9_code 23 = .ok (.invokevirtual 154, 3) := by decide +kernel
theorem d_L9_26 : decode method_9_code 26 = .ok (.istore 5, 2) := by decide +kernel
theorem d_L9_28 : decode method_9_code 28 = .ok (.new 36, 3) := by decide +kernel
theorem d_L9_31 : decode method_9_code 31 = .ok (.dup, 1) := by decide +kernel
theorem d_L9_32 : decode method_9_code 32 = .ok (.invokespecial 38, 3) := by decide +kernel
theorem d_L9_35 : decode method_9_code 35 = .ok (.astore 6, 2) := by decide +kernel
theorem d_L9_37 : decode method_9_code 37 = .ok (.iconst 0, 1) := by decide +kernel
theorem d_L9_38 : decode method_9_code 38 = .ok (.istore 7, 2) := by decide +kernel
theorem d_L9_40 : decode method_9_code 40 = .ok (.iload 7, 2) := by decide +kernel
theorem d_L9_42 : decode method_9_code 42 = .ok (.aload_n 1, 1) := by decide +kernel
theorem d_L9_43 : decode method_9_code 43 = .ok (.getfield 24, 3) := by decide +kernel
theorem d_L9_46 : decode method_9_code 46 = .ok (.if_icmp .ge 42, 3) := by decide +kernel
theorem d_L9_49 : decode method_9_code 49 = .ok (.aload 6, 2) := by decide +kernel
theorem d_L9_51 : decode method_9_code 51 = .ok (.iload 7, 2) := by decide +kernel
theorem d_L9_53 : decode method_9_code 53 = .ok (.ifCond .ne 8, 3) := by decide +kernel
theorem d_L9_56 : decode method_9_code 56 = .ok (.ldc 157, 2) := by decide +kernel
theorem d_L9_58 : decode method_9_code 58 = .ok (.goto 5, 3) := by decide +kernel
theorem d_L9_61 : decode method_9_code 61 = .ok (.ldc 159, 2) := by decide +kernel
theorem d_L9_63 : decode method_9_code 63 = .ok (.invokevirtual 161, 3) := by decide +kernel
theorem d_L9_66 : decode method_9_code 66 = .ok (.bipush 65, 2) := by decide +kernel
theorem d_L9_68 : decode method_9_code 68 = .ok (.aload_n 0, 1) := by decide +kernel
theorem d_L9_69 : decode method_9_code 69 = .ok (.iload_n 3, 1) := by decide +kernel
theorem d_L9_70 : decode method_9_code 70 = .ok (.iload 7, 2) := by decide +kernel
theorem d_L9_72 : decode method_9_code 72 = .ok (.invokevirtual 164, 3) := by decide +kernel
theorem d_L9_75 : decode method_9_code 75 = .ok (.iadd, 1) := by decide +kernel
theorem d_L9_76 : decode method_9_code 76 = .ok (.i2c, 1) := by decide +kernel
theorem d_L9_77 : decode method_9_code 77 = .ok (.invokevirtual 39, 3) := by decide +kernel
theorem d_L9_80 : decode method_9_code 80 = .ok (.astore 8, 2) := by decide +kernel
theorem d_L9_82 : decode method_9_code 82 = .ok (.iinc 7 1, 3) := by decide +kernel
theorem d_L9_85 : decode method_9_code 85 = .ok (.goto (-45), 3) := by decide +kernel
theorem d_L9_88 : decode method_9_code 88 = .ok (.aload_n 0, 1) := by decide +kernel
theorem d_L9_89 : decode method_9_code 89 = .ok (.iload 4, 2) := by decide +kernel
theorem d_L9_91 : decode method_9_code 91 = .ok (.iconst 1, 1) := by decide +kernel
theorem d_L9_92 : decode method_9_code 92 = .ok (.invokevirtual 167, 3) := by decide +kernel
theorem d_L9_95 : decode method_9_code 95 = .ok (.istore 7, 2) := by decide +kernel
theorem d_L9_97 : decode method_9_code 97 = .ok (.aload_n 0, 1) := by decide +kernel
theorem d_L9_98 : decode method_9_code 98 = .ok (.aload 6, 2) := by decide +kernel
theorem d_L9_100 : decode method_9_code 100 = .ok (.invokevirtual 43, 3) := by decide +kernel
theorem d_L9_103 : decode method_9_code 103 = .ok (.invokestatic 47, 3) := by decide +kernel
theorem d_L9_106 : decode method_9_code 106 = .ok (.aload_n 0, 1) := by decide +kernel
theorem d_L9_107 : decode method_9_code 107 = .ok (.iconst 1, 1) := by decide +kernel
theorem d_L9_108 : decode method_9_code 108 = .ok (.invokevirtual 50, 3) := by decide +kernel
theorem d_L9_111 : decode method_9_code 111 = .ok (.istore 8, 2) := by decide +kernel
theorem d_L9_113 : decode method_9_code 113 = .ok (.aload_n 0, 1) := by decide +kernel
theorem d_L9_114 : decode method_9_code 114 = .ok (.iload_n 3, 1) := by decide +kernel
theorem d_L9_115 : decode method_9_code 115 = .ok (.invokevirtual 154, 3) := by decide +kernel
theorem d_L9_118 : decode method_9_code 118 = .ok (.istore 9, 2) := by decide +kernel
theorem d_L9_120 : decode method_9_code 120 = .ok (.aload_n 0, 1) := by decide +kernel
theorem d_L9_121 : decode method_9_code 121 = .ok (.invokevirtual 170, 3) := by decide +kernel
theorem d_L9_124 : decode method_9_code 124 = .ok (.aload_n 0, 1) := by decide +kernel
theorem d_L9_125 : decode method_9_code 125 = .ok (.invokevirtual 170, 3) := by decide +kernel
theorem d_L9_128 : decode method_9_code 128 = .ok (.iadd, 1) := by decide +kernel
theorem d_L9_129 : decode method_9_code 129 = .ok (.istore 10, 2) := by decide +kernel
theorem d_L9_131 : decode method_9_code 131 = .ok (.iload 8, 2) := by decide +kernel
theorem d_L9_133 : decode method_9_code 133 = .ok (.ifCond .lt 38, 3) := by decide +kernel
theorem d_L9_136 : decode method_9_code 136 = .ok (.aload_n 0, 1) := by decide +kernel
theorem d_L9_137 : decode method_9_code 137 = .ok (.iload 4, 2) := by decide +kernel
theorem d_L9_139 : decode method_9_code 139 = .ok (.iload 9, 2) := by decide +kernel
theorem d_L9_141 : decode method_9_code 141 = .ok (.iconst 1, 1) := by decide +kernel
theorem d_L9_142 : decode method_9_code 142 = .ok (.invokevirtual 68, 3) := by decide +kernel
theorem d_L9_145 : decode method_9_code 145 = .ok (.aload_n 0, 1) := by decide +kernel
theorem d_L9_146 : decode method_9_code 146 = .ok (.iload 4, 2) := by decide +kernel
theorem d_L9_148 : decode method_9_code 148 = .ok (.iload 5, 2) := by decide +kernel
theorem d_L9_150 : decode method_9_code 150 = .ok (.iconst 1, 1) := by decide +kernel
theorem d_L9_151 : decode method_9_code 151 = .ok (.invokevirtual 68, 3) := by decide +kernel
theorem d_L9_154 : decode method_9_code 154 = .ok (.if_icmp .ge 17, 3) := by decide +kernel
theorem d_L9_157 : decode method_9_code 157 = .ok (.aload_n 0, 1) := by decide +kernel
theorem d_L9_158 : decode method_9_code 158 = .ok (.iload_n 3, 1) := by decide +kernel
theorem d_L9_159 : decode method_9_code 159 = .ok (.invokevirtual 154, 3) := by decide +kernel
theorem d_L9_162 : decode method_9_code 162 = .ok (.iload 5, 2) := by decide +kernel
theorem d_L9_164 : decode method_9_code 164 = .ok (.if_icmp .ne 7, 3) := by decide +kernel
theorem d_L9_167 : decode method_9_code 167 = .ok (.iconst 1, 1) := by decide +kernel
theorem d_L9_168 : decode method_9_code 168 = .ok (.goto 4, 3) := by decide +kernel
theorem d_L9_171 : decode method_9_code 171 = .ok (.iconst 0, 1) := by decide +kernel
theorem d_L9_172 : decode method_9_code 172 = .ok (.ireturn, 1) := by decide +kernel
theorem d_10_10_0 : decode prog_10_method_10_code 0 = .ok (.aload_n 0, 1) := by decide +kernel
theorem d_10_10_1 : decode prog_10_method_10_code 1 = .ok (.getfield 15, 3) := by decide +kernel
theorem d_10_10_4 : decode prog_10_method_10_code 4 = .ok (.aload_n 1, 1) := by decide +kernel
theorem d_10_10_5 : decode prog_10_method_10_code 5 = .ok (.getfield 15, 3) := by decide +kernel
theorem d_10_10_8 : decode prog_10_method_10_code 8 = .ok (.invokestatic 41, 3) := by decide +kernel
theorem d_10_10_11 : decode prog_10_method_10_code 11 = .ok (.iconst 1, 1) := by decide +kernel
theorem d_10_10_12 : decode prog_10_method_10_code 12 = .ok (.iadd, 1) := by decide +kernel
theorem d_10_10_13 : decode prog_10_method_10_code 13 = .ok (.bipush 13, 2) := by decide +kernel
theorem d_10_10_15 : decode prog_10_method_10_code 15 = .ok (.invokestatic 35, 3) := by decide +kernel
theorem d_10_10_18 : decode prog_10_method_10_code 18 = .ok (.istore_n 2, 1) := by decide +kernel
theorem d_10_10_19 : decode prog_10_method_10_code 19 = .ok (.iconst 0, 1) := by decide +kernel
theorem d_10_10_20 : decode prog_10_method_10_code 20 = .ok (.istore_n 3, 1) := by decide +kernel
theorem d_10_10_21 : decode prog_10_method_10_code 21 = .ok (.iconst 0, 1) := by decide +kernel
theorem d_10_10_22 : decode prog_10_method_10_code 22 = .ok (.istore 4, 2) := by decide +kernel
theorem d_10_10_24 : decode prog_10_method_10_code 24 = .ok (.iload 4, 2) := by decide +kernel
theorem d_10_10_26 : decode prog_10_method_10_code 26 = .ok (.iload_n 2, 1) := by decide +kernel
theorem d_10_10_27 : decode prog_10_method_10_code 27 = .ok (.if_icmp .ge 44, 3) := by decide +kernel
theorem d_10_10_30 : decode prog_10_method_10_code 30 = .ok (.aload_n 0, 1) := by decide +kernel
theorem d_10_10_31 : decode prog_10_method_10_code 31 = .ok (.iload 4, 2) := by decide +kernel
theorem d_10_10_33 : decode prog_10_method_10_code 33 = .ok (.invokevirtual 27, 3) := by decide +kernel
theorem d_10_10_36 : decode prog_10_method_10_code 36 = .ok (.aload_n 1, 1) := by decide +kernel
theorem d_10_10_37 : decode prog_10_method_10_code 37 = .ok (.iload 4, 2) := by decide +kernel
theorem d_10_10_39 : decode prog_10_method_10_code 39 = .ok (.invokevirtual 27, 3) := by decide +kernel
theorem d_10_10_42 : decode prog_10_method_10_code 42 = .ok (.iadd, 1) := by decide +kernel
theorem d_10_10_43 : decode prog_10_method_10_code 43 = .ok (.iload_n 3, 1) := by decide +kernel
theorem d_10_10_44 : decode prog_10_method_10_code 44 = .ok (.iadd, 1) := by decide +kernel
theorem d_10_10_45 : decode prog_10_method_10_code 45 = .ok (.istore 5, 2) := by decide +kernel
theorem d_10_10_47 : decode prog_10_method_10_code 47 = .ok (.aload_n 0, 1) := by decide +kernel
theorem d_10_10_48 : decode prog_10_method_10_code 48 = .ok (.getfield 9, 3) := by decide +kernel
theorem d_10_10_51 : decode prog_10_method_10_code 51 = .ok (.iload 4, 2) := by decide +kernel
theorem d_10_10_53 : decode prog_10_method_10_code 53 = .ok (.iload 5, 2) := by decide +kernel
theorem d_10_10_55 : decode prog_10_method_10_code 55 = .ok (.ldc 44, 2) := by decide +kernel
theorem d_10_10_57 : decode prog_10_method_10_code 57 = .ok (.iand, 1) := by decide +kernel
theorem d_10_10_58 : decode prog_10_method_10_code 58 = .ok (.iastore, 1) := by decide +kernel
theorem d_10_10_59 : decode prog_10_method_10_code 59 = .ok (.iload 5, 2) := by decide +kernel
theorem d_10_10_61 : decode prog_10_method_10_code 61 = .ok (.bipush 30, 2) := by decide +kernel
theorem d_10_10_63 : decode prog_10_method_10_code 63 = .ok (.ishr, 1) := by decide +kernel
theorem d_10_10_64 : decode prog_10_method_10_code 64 = .ok (.istore_n 3, 1) := by decide +kernel
theorem d_10_10_65 : decode prog_10_method_10_code 65 = .ok (.iinc 4 1, 3) := by decide +kernel
theorem d_10_10_68 : decode prog_10_method_10_code 68 = .ok (.goto (-44), 3) := by decide +kernel
theorem d_10_10_71 : decode prog_10_method_10_code 71 = .ok (.aload_n 0, 1) := by decide +kernel
theorem d_10_10_72 : decode prog_10_method_10_code 72 = .ok (.iload_n 2, 1) := by decide +kernel
theorem d_10_10_73 : decode prog_10_method_10_code 73 = .ok (.invokevirtual 31, 3) := by decide +kernel
theorem d_10_10_76 : decode prog_10_method_10_code 76 = .ok (.return_, 1) := by decide +kernel
theorem d_10_11_0 : decode prog_10_method_11_code 0 = .ok (.iconst 0, 1) := by decide +kernel
theorem d_10_11_1 : decode prog_10_method_11_code 1 = .ok (.istore_n 2, 1) := by decide +kernel
theorem d_10_11_2 : decode prog_10_method_11_code 2 = .ok (.iconst 0, 1) := by decide +kernel
theorem d_10_11_3 : decode prog_10_method_11_code 3 = .ok (.istore_n 3, 1) := by decide +kernel
theorem d_10_11_4 : decode prog_10_method_11_code 4 = .ok (.iload_n 3, 1) := by decide +kernel
theorem d_10_11_5 : decode prog_10_method_11_code 5 = .ok (.aload_n 0, 1) := by decide +kernel
theorem d_10_11_6 : decode prog_10_method_11_code 6 = .ok (.getfield 15, 3) := by decide +kernel
theorem d_10_11_9 : decode prog_10_method_11_code 9 = .ok (.if_icmp .ge 42, 3) := by decide +kernel
theorem d_10_11_12 : decode prog_10_method_11_code 12 = .ok (.aload_n 0, 1) := by decide +kernel
theorem d_10_11_13 : decode prog_10_method_11_code 13 = .ok (.getfield 9, 3) := by decide +kernel
theorem d_10_11_16 : decode prog_10_method_11_code 16 = .ok (.iload_n 3, 1) := by decide +kernel
theorem d_10_11_17 : decode prog_10_method_11_code 17 = .ok (.iaload, 1) := by decide +kernel
theorem d_10_11_18 : decode prog_10_method_11_code 18 = .ok (.aload_n 1, 1) := by decide +kernel
theorem d_10_11_19 : decode prog_10_method_11_code 19 = .ok (.iload_n 3, 1) := by decide +kernel
theorem d_10_11_20 : decode prog_10_method_11_code 20 = .ok (.invokevirtual 27, 3) := by decide +kernel
theorem d_10_11_23 : decode prog_10_method_11_code 23 = .ok (.isub, 1) := by decide +kernel
theorem d_10_11_24 : decode prog_10_method_11_code 24 = .ok (.iload_n 2, 1) := by decide +kernel
theorem d_10_11_25 : decode prog_10_method_11_code 25 = .ok (.iadd, 1) := by decide +kernel
theorem d_10_11_26 : decode prog_10_method_11_code 26 = .ok (.istore 4, 2) := by decide +kernel
theorem d_10_11_28 : decode prog_10_method_11_code 28 = .ok (.aload_n 0, 1) := by decide +kernel
theorem d_10_11_29 : decode prog_10_method_11_code 29 = .ok (.getfield 9, 3) := by decide +kernel
theorem d_10_11_32 : decode prog_10_method_11_code 32 = .ok (.iload_n 3, 1) := by decide +kernel
theorem d_10_11_33 : decode prog_10_method_11_code 33 = .ok (.iload 4, 2) := by decide +kernel
theorem d_10_11_35 : decode prog_10_method_11_code 35 = .ok (.ldc 44, 2) := by decide +kernel
theorem d_10_11_37 : decode prog_10_method_11_code 37 = .ok (.iand, 1) := by decide +kernel
theorem d_10_11_38 : decode prog_10_method_11_code 38 = .ok (.iastore, 1) := by decide +kernel
theorem d_10_11_39 : decode prog_10_method_11_code 39 = .ok (.iload 4, 2) := by decide +kernel
theorem d_10_11_41 : decode prog_10_method_11_code 41 = .ok (.bipush 30, 2) := by decide +kernel
theorem d_10_11_43 : decode prog_10_method_11_code 43 = .ok (.ishr, 1) := by decide +kernel
theorem d_10_11_44 : decode prog_10_method_11_code 44 = .ok (.istore_n 2, 1) := by decide +kernel
theorem d_10_11_45 : decode prog_10_method_11_code 45 = .ok (.iinc 3 1, 3) := by decide +kernel
theorem d_10_11_48 : decode prog_10_method_11_code 48 = .ok (.goto (-44), 3) := by decide +kernel
theorem d_10_11_51 : decode prog_10_method_11_code 51 = .ok (.aload_n 0, 1) := by decide +kernel
theorem d_10_11_52 : decode prog_10_method_11_code 52 = .ok (.aload_n 0, 1) := by decide +kernel
theorem d_10_11_53 : decode prog_10_method_11_code 53 = .ok (.getfield 15, 3) := by decide +kernel
theorem d_10_11_56 : decode prog_10_method_11_code 56 = .ok (.invokevirtual 31, 3) := by decide +kernel
theorem d_10_11_59 : decode prog_10_method_11_code 59 = .ok (.return_, 1) := by decide +kernel
theorem d_10_12_0 : decode prog_10_method_12_code 0 = .ok (.aload_n 0, 1) := by decide +kernel
theorem d_10_12_1 : decode prog_10_method_12_code 1 = .ok (.getfield 15, 3) := by decide +kernel
theorem d_10_12_4 : decode prog_10_method_12_code 4 = .ok (.iconst 2, 1) := by decide +kernel
theorem d_10_12_5 : decode prog_10_method_12_code 5 = .ok (.iadd, 1) := by decide +kernel
theorem d_10_12_6 : decode prog_10_method_12_code 6 = .ok (.bipush 13, 2) := by decide +kernel
theorem d_10_12_8 : decode prog_10_method_12_code 8 = .ok (.invokestatic 35, 3) := by decide +kernel
theorem d_10_12_11 : decode prog_10_method_12_code 11 = .ok (.istore_n 2, 1) := by decide +kernel
theorem d_10_12_12 : decode prog_10_method_12_code 12 = .ok (.lconst 0, 1) := by decide +kernel
theorem d_10_12_13 : decode prog_10_method_12_code 13 = .ok (.lstore_n 3, 1) := by decide +kernel
theorem d_10_12_14 : decode prog_10_method_12_code 14 = .ok (.iconst 0, 1) := by decide +kernel
theorem d_10_12_15 : decode prog_10_method_12_code 15 = .ok (.istore 5, 2) := by decide +kernel
theorem d_10_12_17 : decode prog_10_method_12_code 17 = .ok (.iload 5, 2) := by decide +kernel
theorem d_10_12_19 : decode prog_10_method_12_code 19 = .ok (.iload_n 2, 1) := by decide +kernel
theorem d_10_12_20 : decode prog_10_method_12_code 20 = .ok (.if_icmp .ge 40, 3) := by decide +kernel
theorem d_10_12_23 : decode prog_10_method_12_code 23 = .ok (.lload_n 3, 1) := by decide +kernel
theorem d_10_12_24 : decode prog_10_method_12_code 24 = .ok (.aload_n 0, 1) := by decide +kernel
theorem d_10_12_25 : decode prog_10_method_12_code 25 = .ok (.iload 5, 2) := by decide +kernel
theorem d_10_12_27 : decode prog_10_method_12_code 27 = .ok (.invokevirtual 27, 3) := by decide +kernel
theorem d_10_12_30 : decode prog_10_method_12_code 30 = .ok (.i2l, 1) := by decide +kernel
theorem d_10_12_31 : decode prog_10_method_12_code 31 = .ok (.iload_n 1, 1) := by decide +kernel
theorem d_10_12_32 : decode prog_10_method_12_code 32 = .ok (.i2l, 1) := by decide +kernel
theorem d_10_12_33 : decode prog_10_method_12_code 33 = .ok (.lmul, 1) := by decide +kernel
theorem d_10_12_34 : decode prog_10_method_12_code 34 = .ok (.ladd, 1) := by decide +kernel
theorem d_10_12_35 : decode prog_10_method_12_code 35 = .ok (.lstore_n 3, 1) := by decide +kernel
theorem d_10_12_36 : decode prog_10_method_12_code 36 = .ok (.aload_n 0, 1) := by decide +kernel
theorem d_10_12_37 : decode prog_10_method_12_code 37 = .ok (.getfield 9, 3) := by decide +kernel
theorem d_10_12_40 : decode prog_10_method_12_code 40 = .ok (.iload 5, 2) := by decide +kernel
theorem d_10_12_42 : decode prog_10_method_12_code 42 = .ok (.lload_n 3, 1) := by decide +kernel
theorem d_10_12_43 : decode prog_10_method_12_code 43 = .ok (.ldc2_w 19, 3) := by decide +kernel
theorem d_10_12_46 : decode prog_10_method_12_code 46 = .ok (.land, 1) := by decide +kernel
theorem d_10_12_47 : decode prog_10_method_12_code 47 = .ok (.l2i, 1) := by decide +kernel
theorem d_10_12_48 : decode prog_10_method_12_code 48 = .ok (.iastore, 1) := by decide +kernel
theorem d_10_12_49 : decode prog_10_method_12_code 49 = .ok (.lload_n 3, 1) := by decide +kernel
theorem d_10_12_50 : decode prog_10_method_12_code 50 = .ok (.bipush 30, 2) := by decide +kernel
theorem d_10_12_52 : decode prog_10_method_12_code 52 = .ok (.lshr, 1) := by decide +kernel
theorem d_10_12_53 : decode prog_10_method_12_code 53 = .ok (.lstore_n 3, 1) := by decide +kernel
theorem d_10_12_54 : decode prog_10_method_12_code 54 = .ok (.iinc 5 1, 3) := by decide +kernel
theorem d_10_12_57 : decode prog_10_method_12_code 57 = .ok (.goto (-40), 3) := by decide +kernel
theorem d_10_12_60 : decode prog_10_method_12_code 60 = .ok (.aload_n 0, 1) := by decide +kernel
theorem d_10_12_61 : decode prog_10_method_12_code 61 = .ok (.iload_n 2, 1) := by decide +kernel
theorem d_10_12_62 : decode prog_10_method_12_code 62 = .ok (.invokevirtual 31, 3) := by decide +kernel
theorem d_10_12_65 : decode prog_10_method_12_code 65 = .ok (.return_, 1) := by decide +kernel
theorem d_10_13_0 : decode prog_10_method_13_code 0 = .ok (.iload_n 1, 1) := by decide +kernel
theorem d_10_13_1 : decode prog_10_method_13_code 1 = .ok (.ifCond .gt 5, 3) := by decide +kernel
theorem d_10_13_4 : decode prog_10_method_13_code 4 = .ok (.iconst 0, 1) := by decide +kernel
theorem d_10_13_5 : decode prog_10_method_13_code 5 = .ok (.ireturn, 1) := by decide +kernel
theorem d_10_13_6 : decode prog_10_method_13_code 6 = .ok (.lconst 0, 1) := by decide +kernel
theorem d_10_13_7 : decode prog_10_method_13_code 7 = .ok (.lstore_n 2, 1) := by decide +kernel
theorem d_10_13_8 : decode prog_10_method_13_code 8 = .ok (.aload_n 0, 1) := by decide +kernel
theorem d_10_13_9 : decode prog_10_method_13_code 9 = .ok (.getfield 15, 3) := by decide +kernel
theorem d_10_13_12 : decode prog_10_method_13_code 12 = .ok (.iconst 1, 1) := by decide +kernel
theorem d_10_13_13 : decode prog_10_method_13_code 13 = .ok (.isub, 1) := by decide +kernel
theorem d_10_13_14 : decode prog_10_method_13_code 14 = .ok (.istore 4, 2) := by decide +kernel
theorem d_10_13_16 : decode prog_10_method_13_code 16 = .ok (.iload 4, 2) := by decide +kernel
theorem d_10_13_18 : decode prog_10_method_13_code 18 = .ok (.ifCond .lt 43, 3) := by decide +kernel
theorem d_10_13_21 : decode prog_10_method_13_code 21 = .ok (.lload_n 2, 1) := by decide +kernel
theorem d_10_13_22 : decode prog_10_method_13_code 22 = .ok (.bipush 30, 2) := by decide +kernel
theorem d_10_13_24 : decode prog_10_method_13_code 24 = .ok (.lshl, 1) := by decide +kernel
theorem d_10_13_25 : decode prog_10_method_13_code 25 = .ok (.aload_n 0, 1) := by decide +kernel
theorem d_10_13_26 : decode prog_10_method_13_code 26 = .ok (.getfield 9, 3) := by decide +kernel
theorem d_10_13_29 : decode prog_10_method_13_code 29 = .ok (.iload 4, 2) := by decide +kernel
theorem d_10_13_31 : decode prog_10_method_13_code 31 = .ok (.iaload, 1) := by decide +kernel
theorem d_10_13_32 : decode prog_10_method_13_code 32 = .ok (.i2l, 1) := by decide +kernel
theorem d_10_13_33 : decode prog_10_method_13_code 33 = .ok (.ladd, 1) := by decide +kernel
theorem d_10_13_34 : decode prog_10_method_13_code 34 = .ok (.lstore 5, 2) := by decide +kernel
theorem d_10_13_36 : decode prog_10_method_13_code 36 = .ok (.aload_n 0, 1) := by decide +kernel
theorem d_10_13_37 : decode prog_10_method_13_code 37 = .ok (.getfield 9, 3) := by decide +kernel
theorem d_10_13_40 : decode prog_10_method_13_code 40 = .ok (.iload 4, 2) := by decide +kernel
theorem d_10_13_42 : decode prog_10_method_13_code 42 = .ok (.lload 5, 2) := by decide +kernel
theorem d_10_13_44 : decode prog_10_method_13_code 44 = .ok (.iload_n 1, 1) := by decide +kernel
theorem d_10_13_45 : decode prog_10_method_13_code 45 = .ok (.i2l, 1) := by decide +kernel
theorem d_10_13_46 : decode prog_10_method_13_code 46 = .ok (.ldiv, 1) := by decide +kernel
theorem d_10_13_47 : decode prog_10_method_13_code 47 = .ok (.l2i, 1) := by decide +kernel
theorem d_10_13_48 : decode prog_10_method_13_code 48 = .ok (.iastore, 1) := by decide +kernel
theorem d_10_13_49 : decode prog_10_method_13_code 49 = .ok (.lload 5, 2) := by decide +kernel
theorem d_10_13_51 : decode prog_10_method_13_code 51 = .ok (.iload_n 1, 1) := by decide +kernel
theorem d_10_13_52 : decode prog_10_method_13_code 52 = .ok (.i2l, 1) := by decide +kernel
theorem d_10_13_53 : decode prog_10_method_13_code 53 = .ok (.lrem, 1) := by decide +kernel
theorem d_10_13_54 : decode prog_10_method_13_code 54 = .ok (.lstore_n 2, 1) := by decide +kernel
theorem d_10_13_55 : decode prog_10_method_13_code 55 = .ok (.iinc 4 (-1), 3) := by decide +kernel
theorem d_10_13_58 : decode prog_10_method_13_code 58 = .ok (.goto (-42), 3) := by decide +kernel
theorem d_10_13_61 : decode prog_10_method_13_code 61 = .ok (.aload_n 0, 1) := by decide +kernel
theorem d_10_13_62 : decode prog_10_method_13_code 62 = .ok (.aload_n 0, 1) := by decide +kernel
theorem d_10_13_63 : decode prog_10_method_13_code 63 = .ok (.getfield 15, 3) := by decide +kernel
theorem d_10_13_66 : decode prog_10_method_13_code 66 = .ok (.invokevirtual 31, 3) := by decide +kernel
theorem d_10_13_69 : decode prog_10_method_13_code 69 = .ok (.lload_n 2, 1) := by decide +kernel
theorem d_10_13_70 : decode prog_10_method_13_code 70 = .ok (.l2i, 1) := by decide +kernel
theorem d_10_13_71 : decode prog_10_method_13_code 71 = .ok (.ireturn, 1) := by decide +kernel
theorem d_10_14_0 : decode prog_10_method_14_code 0 = .ok (.aload_n 0, 1) := by decide +kernel
theorem d_10_14_1 : decode prog_10_method_14_code 1 = .ok (.getfield 9, 3) := by decide +kernel
theorem d_10_14_4 : decode prog_10_method_14_code 4 = .ok (.iconst 0, 1) := by decide +kernel
theorem d_10_14_5 : decode prog_10_method_14_code 5 = .ok (.invokestatic 45, 3) := by decide +kernel
theorem d_10_14_8 : decode prog_10_method_14_code 8 = .ok (.iconst 0, 1) := by decide +kernel
theorem d_10_14_9 : decode prog_10_method_14_code 9 = .ok (.istore_n 3, 1) := by decide +kernel
theorem d_10_14_10 : decode prog_10_method_14_code 10 = .ok (.iload_n 3, 1) := by decide +kernel
theorem d_10_14_11 : decode prog_10_method_14_code 11 = .ok (.aload_n 1, 1) := by decide +kernel
theorem d_10_14_12 : decode prog_10_method_14_code 12 = .ok (.getfield 15, 3) := by decide +kernel
theorem d_10_14_15 : decode prog_10_method_14_code 15 = .ok (.if_icmp .ge 93, 3) := by decide +kernel
theorem d_10_14_18 : decode prog_10_method_14_code 18 = .ok (.lconst 0, 1) := by decide +kernel
theorem d_10_14_19 : decode prog_10_method_14_code 19 = .ok (.lstore 4, 2) := by decide +kernel
theorem d_10_14_21 : decode prog_10_method_14_code 21 = .ok (.iconst 0, 1) := by decide +kernel
theorem d_10_14_22 : decode prog_10_method_14_code 22 = .ok (.istore 6, 2) := by decide +kernel
theorem d_10_14_24 : decode prog_10_method_14_code 24 = .ok (.iload 6, 2) := by decide +kernel
theorem d_10_14_26 : decode prog_10_method_14_code 26 = .ok (.aload_n 2, 1) := by decide +kernel
theorem d_10_14_27 : decode prog_10_method_14_code 27 = .ok (.getfield 15, 3) := by decide +kernel
theorem d_10_14_30 : decode prog_10_method_14_code 30 = .ok (.if_icmp .gt 72, 3) := by decide +kernel
theorem d_10_14_33 : decode prog_10_method_14_code 33 = .ok (.iload_n 3, 1) := by decide +kernel
theorem d_10_14_34 : decode prog_10_method_14_code 34 = .ok (.iload 6, 2) := by decide +kernel
theorem d_10_14_36 : decode prog_10_method_14_code 36 = .ok (.iadd, 1) := by decide +kernel
theorem d_10_14_37 : decode prog_10_method_14_code 37 = .ok (.bipush 13, 2) := by decide +kernel
theorem d_10_14_39 : decode prog_10_method_14_code 39 = .ok (.if_icmp .ge 63, 3) := by decide +kernel
theorem d_10_14_42 : decode prog_10_method_14_code 42 = .ok (.lload 4, 2) := by decide +kernel
theorem d_10_14_44 : decode prog_10_method_14_code 44 = .ok (.aload_n 1, 1) := by decide +kernel
theorem d_10_14_45 : decode prog_10_method_14_code 45 = .ok (.getfield 9, 3) := by decide +kernel
theorem d_10_14_48 : decode prog_10_method_14_code 48 = .ok (.iload_n 3, 1) := by decide +kernel
theorem d_10_14_49 : decode prog_10_method_14_code 49 = .ok (.iaload, 1) := by decide +kernel
theorem d_10_14_50 : decode prog_10_method_14_code 50 = .ok (.i2l, 1) := by decide +kernel
theorem d_10_14_51 : decode prog_10_method_14_code 51 = .ok (.aload_n 2, 1) := by decide +kernel
theorem d_10_14_52 : decode prog_10_method_14_code 52 = .ok (.iload 6, 2) := by decide +kernel
theorem d_10_14_54 : decode prog_10_method_14_code 54 = .ok (.invokevirtual 27, 3) := by decide +kernel
theorem d_10_14_57 : decode prog_10_method_14_code 57 = .ok (.i2l, 1) := by decide +kernel
theorem d_10_14_58 : decode prog_10_method_14_code 58 = .ok (.lmul, 1) := by decide +kernel
theorem d_10_14_59 : decode prog_10_method_14_code 59 = .ok (.aload_n 0, 1) := by decide +kernel
theorem d_10_14_60 : decode prog_10_method_14_code 60 = .ok (.getfield 9, 3) := by decide +kernel
theorem d_10_14_63 : decode prog_10_method_14_code 63 = .ok (.iload_n 3, 1) := by decide +kernel
theorem d_10_14_64 : decode prog_10_method_14_code 64 = .ok (.iload 6, 2) := by decide +kernel
theorem d_10_14_66 : decode prog_10_method_14_code 66 = .ok (.iadd, 1) := by decide +kernel
theorem d_10_14_67 : decode prog_10_method_14_code 67 = .ok (.iaload, 1) := by decide +kernel
theorem d_10_14_68 : decode prog_10_method_14_code 68 = .ok (.i2l, 1) := by decide +kernel
theorem d_10_14_69 : decode prog_10_method_14_code 69 = .ok (.ladd, 1) := by decide +kernel
theorem d_10_14_70 : decode prog_10_method_14_code 70 = .ok (.ladd, 1) := by decide +kernel
theorem d_10_14_71 : decode prog_10_method_14_code 71 = .ok (.lstore 4, 2) := by decide +kernel
theorem d_10_14_73 : decode prog_10_method_14_code 73 = .ok (.aload_n 0, 1) := by decide +kernel
theorem d_10_14_74 : decode prog_10_method_14_code 74 = .ok (.getfield 9, 3) := by decide +kernel
theorem d_10_14_77 : decode prog_10_method_14_code 77 = .ok (.iload_n 3, 1) := by decide +kernel
theorem d_10_14_78 : decode prog_10_method_14_code 78 = .ok (.iload 6, 2) := by decide +kernel
theorem d_10_14_80 : decode prog_10_method_14_code 80 = .ok (.iadd, 1) := by decide +kernel
theorem d_10_14_81 : decode prog_10_method_14_code 81 = .ok (.lload 4, 2) := by decide +kernel
theorem d_10_14_83 : decode prog_10_method_14_code 83 = .ok (.ldc2_w 19, 3) := by decide +kernel
theorem d_10_14_86 : decode prog_10_method_14_code 86 = .ok (.land, 1) := by decide +kernel
theorem d_10_14_87 : decode prog_10_method_14_code 87 = .ok (.l2i, 1) := by decide +kernel
theorem d_10_14_88 : decode prog_10_method_14_code 88 = .ok (.iastore, 1) := by decide +kernel
theorem d_10_14_89 : decode prog_10_method_14_code 89 = .ok (.lload 4, 2) := by decide +kernel
theorem d_10_14_91 : decode prog_10_method_14_code 91 = .ok (.bipush 30, 2) := by decide +kernel
theorem d_10_14_93 : decode prog_10_method_14_code 93 = .ok (.lshr, 1) := by decide +kernel
theorem d_10_14_94 : decode prog_10_method_14_code 94 = .ok (.lstore 4, 2) := by decide +kernel
theorem d_10_14_96 : decode prog_10_method_14_code 96 = .ok (.iinc 6 1, 3) := by decide +kernel
theorem d_10_14_99 : decode prog_10_method_14_code 99 = .ok (.goto (-75), 3) := by decide +kernel
theorem d_10_14_102 : decode prog_10_method_14_code 102 = .ok (.iinc 3 1, 3) := by decide +kernel
theorem d_10_14_105 : decode prog_10_method_14_code 105 = .ok (.goto (-95), 3) := by decide +kernel
theorem d_10_14_108 : decode prog_10_method_14_code 108 = .ok (.aload_n 0, 1) := by decide +kernel
theorem d_10_14_109 : decode prog_10_method_14_code 109 = .ok (.bipush 13, 2) := by decide +kernel
