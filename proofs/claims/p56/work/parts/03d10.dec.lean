theorem d_5_6_149 : decode prog_5_method_6_code 149 = .ok (.aload_n 0, 1) := by decide +kernel
theorem d_5_6_150 : decode prog_5_method_6_code 150 = .ok (.getfield 55, 3) := by decide +kernel
theorem d_5_6_153 : decode prog_5_method_6_code 153 = .ok (.getfield 96, 3) := by decide +kernel
theorem d_5_6_156 : decode prog_5_method_6_code 156 = .ok (.if_icmp .ge 68, 3) := by decide +kernel
theorem d_5_6_159 : decode prog_5_method_6_code 159 = .ok (.iconst 0, 1) := by decide +kernel
theorem d_5_6_160 : decode prog_5_method_6_code 160 = .ok (.istore 6, 2) := by decide +kernel
theorem d_5_6_162 : decode prog_5_method_6_code 162 = .ok (.iload 6, 2) := by decide +kernel
theorem d_5_6_164 : decode prog_5_method_6_code 164 = .ok (.aload_n 0, 1) := by decide +kernel
theorem d_5_6_165 : decode prog_5_method_6_code 165 = .ok (.getfield 55, 3) := by decide +kernel
theorem d_5_6_168 : decode prog_5_method_6_code 168 = .ok (.getfield 72, 3) := by decide +kernel
theorem d_5_6_171 : decode prog_5_method_6_code 171 = .ok (.if_icmp .ge 21, 3) := by decide +kernel
theorem d_5_6_174 : decode prog_5_method_6_code 174 = .ok (.aload_n 0, 1) := by decide +kernel
theorem d_5_6_175 : decode prog_5_method_6_code 175 = .ok (.iload 5, 2) := by decide +kernel
theorem d_5_6_177 : decode prog_5_method_6_code 177 = .ok (.iload 6, 2) := by decide +kernel
theorem d_5_6_179 : decode prog_5_method_6_code 179 = .ok (.invokevirtual 137, 3) := by decide +kernel
theorem d_5_6_182 : decode prog_5_method_6_code 182 = .ok (.lconst 0, 1) := by decide +kernel
theorem d_5_6_183 : decode prog_5_method_6_code 183 = .ok (.invokevirtual 129, 3) := by decide +kernel
theorem d_5_6_186 : decode prog_5_method_6_code 186 = .ok (.iinc 6 1, 3) := by decide +kernel
theorem d_5_6_189 : decode prog_5_method_6_code 189 = .ok (.goto (-27), 3) := by decide +kernel
theorem d_5_6_192 : decode prog_5_method_6_code 192 = .ok (.aload_n 0, 1) := by decide +kernel
theorem d_5_6_193 : decode prog_5_method_6_code 193 = .ok (.getfield 31, 3) := by decide +kernel
theorem d_5_6_196 : decode prog_5_method_6_code 196 = .ok (.aload_n 0, 1) := by decide +kernel
theorem d_5_6_197 : decode prog_5_method_6_code 197 = .ok (.getfield 55, 3) := by decide +kernel
theorem d_5_6_200 : decode prog_5_method_6_code 200 = .ok (.getfield 100, 3) := by decide +kernel
theorem d_5_6_203 : decode prog_5_method_6_code 203 = .ok (.iload 5, 2) := by decide +kernel
theorem d_5_6_205 : decode prog_5_method_6_code 205 = .ok (.iaload, 1) := by decide +kernel
theorem d_5_6_206 : decode prog_5_method_6_code 206 = .ok (.i2l, 1) := by decide +kernel
theorem d_5_6_207 : decode prog_5_method_6_code 207 = .ok (.lload_n 3, 1) := by decide +kernel
theorem d_5_6_208 : decode prog_5_method_6_code 208 = .ok (.lmul, 1) := by decide +kernel
theorem d_5_6_209 : decode prog_5_method_6_code 209 = .ok (.invokevirtual 129, 3) := by decide +kernel
theorem d_5_6_212 : decode prog_5_method_6_code 212 = .ok (.aload_n 0, 1) := by decide +kernel
theorem d_5_6_213 : decode prog_5_method_6_code 213 = .ok (.iload 5, 2) := by decide +kernel
theorem d_5_6_215 : decode prog_5_method_6_code 215 = .ok (.invokevirtual 141, 3) := by decide +kernel
theorem d_5_6_218 : decode prog_5_method_6_code 218 = .ok (.iinc 5 1, 3) := by decide +kernel
theorem d_5_6_221 : decode prog_5_method_6_code 221 = .ok (.goto (-74), 3) := by decide +kernel
theorem d_5_6_224 : decode prog_5_method_6_code 224 = .ok (.return_, 1) := by decide +kernel
theorem d_5_7_0 : decode prog_5_method_7_code 0 = .ok (.aload_n 0, 1) := by decide +kernel
theorem d_5_7_1 : decode prog_5_method_7_code 1 = .ok (.getfield 55, 3) := by decide +kernel
theorem d_5_7_4 : decode prog_5_method_7_code 4 = .ok (.iload_n 1, 1) := by decide +kernel
theorem d_5_7_5 : decode prog_5_method_7_code 5 = .ok (.aload_n 0, 1) := by decide +kernel
theorem d_5_7_6 : decode prog_5_method_7_code 6 = .ok (.getfield 80, 3) := by decide +kernel
theorem d_5_7_9 : decode prog_5_method_7_code 9 = .ok (.invokevirtual 144, 3) := by decide +kernel
theorem d_5_7_12 : decode prog_5_method_7_code 12 = .ok (.istore_n 2, 1) := by decide +kernel
theorem d_5_7_13 : decode prog_5_method_7_code 13 = .ok (.iload_n 2, 1) := by decide +kernel
theorem d_5_7_14 : decode prog_5_method_7_code 14 = .ok (.ifCond .ne 18, 3) := by decide +kernel
theorem d_5_7_17 : decode prog_5_method_7_code 17 = .ok (.aload_n 0, 1) := by decide +kernel
theorem d_5_7_18 : decode prog_5_method_7_code 18 = .ok (.getfield 23, 3) := by decide +kernel
theorem d_5_7_21 : decode prog_5_method_7_code 21 = .ok (.bipush 8, 2) := by decide +kernel
theorem d_5_7_23 : decode prog_5_method_7_code 23 = .ok (.aaload, 1) := by decide +kernel
theorem d_5_7_24 : decode prog_5_method_7_code 24 = .ok (.aload_n 0, 1) := by decide +kernel
theorem d_5_7_25 : decode prog_5_method_7_code 25 = .ok (.getfield 31, 3) := by decide +kernel
theorem d_5_7_28 : decode prog_5_method_7_code 28 = .ok (.invokevirtual 148, 3) := by decide +kernel
theorem d_5_7_31 : decode prog_5_method_7_code 31 = .ok (.return_, 1) := by decide +kernel
theorem d_5_7_32 : decode prog_5_method_7_code 32 = .ok (.aload_n 0, 1) := by decide +kernel
theorem d_5_7_33 : decode prog_5_method_7_code 33 = .ok (.getfield 31, 3) := by decide +kernel
theorem d_5_7_36 : decode prog_5_method_7_code 36 = .ok (.iload_n 2, 1) := by decide +kernel
theorem d_5_7_37 : decode prog_5_method_7_code 37 = .ok (.invokestatic 152, 3) := by decide +kernel
theorem d_5_7_40 : decode prog_5_method_7_code 40 = .ok (.invokevirtual 158, 3) := by decide +kernel
theorem d_5_7_43 : decode prog_5_method_7_code 43 = .ok (.pop, 1) := by decide +kernel
theorem d_5_7_44 : decode prog_5_method_7_code 44 = .ok (.iconst 0, 1) := by decide +kernel
theorem d_5_7_45 : decode prog_5_method_7_code 45 = .ok (.istore_n 3, 1) := by decide +kernel
theorem d_5_7_46 : decode prog_5_method_7_code 46 = .ok (.iload_n 3, 1) := by decide +kernel
theorem d_5_7_47 : decode prog_5_method_7_code 47 = .ok (.aload_n 0, 1) := by decide +kernel
theorem d_5_7_48 : decode prog_5_method_7_code 48 = .ok (.getfield 55, 3) := by decide +kernel
theorem d_5_7_51 : decode prog_5_method_7_code 51 = .ok (.getfield 72, 3) := by decide +kernel
theorem d_5_7_54 : decode prog_5_method_7_code 54 = .ok (.if_icmp .ge 43, 3) := by decide +kernel
theorem d_5_7_57 : decode prog_5_method_7_code 57 = .ok (.iload_n 2, 1) := by decide +kernel
theorem d_5_7_58 : decode prog_5_method_7_code 58 = .ok (.iload_n 3, 1) := by decide +kernel
theorem d_5_7_59 : decode prog_5_method_7_code 59 = .ok (.invokestatic 161, 3) := by decide +kernel
theorem d_5_7_62 : decode prog_5_method_7_code 62 = .ok (.ifCond .eq 29, 3) := by decide +kernel
theorem d_5_7_65 : decode prog_5_method_7_code 65 = .ok (.aload_n 0, 1) := by decide +kernel
theorem d_5_7_66 : decode prog_5_method_7_code 66 = .ok (.iload_n 1, 1) := by decide +kernel
theorem d_5_7_67 : decode prog_5_method_7_code 67 = .ok (.iload_n 3, 1) := by decide +kernel
theorem d_5_7_68 : decode prog_5_method_7_code 68 = .ok (.invokevirtual 137, 3) := by decide +kernel
theorem d_5_7_71 : decode prog_5_method_7_code 71 = .ok (.aload_n 0, 1) := by decide +kernel
theorem d_5_7_72 : decode prog_5_method_7_code 72 = .ok (.getfield 31, 3) := by decide +kernel
theorem d_5_7_75 : decode prog_5_method_7_code 75 = .ok (.invokevirtual 148, 3) := by decide +kernel
theorem d_5_7_78 : decode prog_5_method_7_code 78 = .ok (.aload_n 0, 1) := by decide +kernel
theorem d_5_7_79 : decode prog_5_method_7_code 79 = .ok (.getfield 23, 3) := by decide +kernel
theorem d_5_7_82 : decode prog_5_method_7_code 82 = .ok (.iload_n 3, 1) := by decide +kernel
theorem d_5_7_83 : decode prog_5_method_7_code 83 = .ok (.aaload, 1) := by decide +kernel
theorem d_5_7_84 : decode prog_5_method_7_code 84 = .ok (.aload_n 0, 1) := by decide +kernel
theorem d_5_7_85 : decode prog_5_method_7_code 85 = .ok (.getfield 31, 3) := by decide +kernel
theorem d_5_7_88 : decode prog_5_method_7_code 88 = .ok (.invokevirtual 148, 3) := by decide +kernel
theorem d_5_7_91 : decode prog_5_method_7_code 91 = .ok (.iinc 3 1, 3) := by decide +kernel
theorem d_5_7_94 : decode prog_5_method_7_code 94 = .ok (.goto (-48), 3) := by decide +kernel
theorem d_5_7_97 : decode prog_5_method_7_code 97 = .ok (.return_, 1) := by decide +kernel
theorem d_5_8_0 : decode prog_5_method_8_code 0 = .ok (.aload_n 1, 1) := by decide +kernel
theorem d_5_8_1 : decode prog_5_method_8_code 1 = .ok (.getfield 77, 3) := by decide +kernel
theorem d_5_8_4 : decode prog_5_method_8_code 4 = .ok (.aload_n 1, 1) := by decide +kernel
theorem d_5_8_5 : decode prog_5_method_8_code 5 = .ok (.getfield 114, 3) := by decide +kernel
theorem d_5_8_8 : decode prog_5_method_8_code 8 = .ok (.iadd, 1) := by decide +kernel
theorem d_5_8_9 : decode prog_5_method_8_code 9 = .ok (.istore_n 2, 1) := by decide +kernel
theorem d_5_8_10 : decode prog_5_method_8_code 10 = .ok (.iconst 0, 1) := by decide +kernel
theorem d_5_8_11 : decode prog_5_method_8_code 11 = .ok (.istore_n 3, 1) := by decide +kernel
theorem d_5_8_12 : decode prog_5_method_8_code 12 = .ok (.iload_n 3, 1) := by decide +kernel
theorem d_5_8_13 : decode prog_5_method_8_code 13 = .ok (.bipush 9, 2) := by decide +kernel
theorem d_5_8_15 : decode prog_5_method_8_code 15 = .ok (.if_icmp .ge 28, 3) := by decide +kernel
theorem d_5_8_18 : decode prog_5_method_8_code 18 = .ok (.aload_n 0, 1) := by decide +kernel
theorem d_5_8_19 : decode prog_5_method_8_code 19 = .ok (.getfield 23, 3) := by decide +kernel
theorem d_5_8_22 : decode prog_5_method_8_code 22 = .ok (.iload_n 3, 1) := by decide +kernel
theorem d_5_8_23 : decode prog_5_method_8_code 23 = .ok (.aaload, 1) := by decide +kernel
theorem d_5_8_24 : decode prog_5_method_8_code 24 = .ok (.aload_n 1, 1) := by decide +kernel
theorem d_5_8_25 : decode prog_5_method_8_code 25 = .ok (.getfield 165, 3) := by decide +kernel
theorem d_5_8_28 : decode prog_5_method_8_code 28 = .ok (.aload_n 1, 1) := by decide +kernel
theorem d_5_8_29 : decode prog_5_method_8_code 29 = .ok (.iload_n 2, 1) := by decide +kernel
theorem d_5_8_30 : decode prog_5_method_8_code 30 = .ok (.iload_n 3, 1) := by decide +kernel
theorem d_5_8_31 : decode prog_5_method_8_code 31 = .ok (.invokevirtual 168, 3) := by decide +kernel
theorem d_5_8_34 : decode prog_5_method_8_code 34 = .ok (.invokevirtual 171, 3) := by decide +kernel
theorem d_5_8_37 : decode prog_5_method_8_code 37 = .ok (.iinc 3 1, 3) := by decide +kernel
theorem d_5_8_40 : decode prog_5_method_8_code 40 = .ok (.goto (-28), 3) := by decide +kernel
theorem d_5_8_43 : decode prog_5_method_8_code 43 = .ok (.aload_n 0, 1) := by decide +kernel
theorem d_5_8_44 : decode prog_5_method_8_code 44 = .ok (.getfield 27, 3) := by decide +kernel
theorem d_5_8_47 : decode prog_5_method_8_code 47 = .ok (.aload_n 1, 1) := by decide +kernel
theorem d_5_8_48 : decode prog_5_method_8_code 48 = .ok (.getfield 165, 3) := by decide +kernel
theorem d_5_8_51 : decode prog_5_method_8_code 51 = .ok (.aload_n 1, 1) := by decide +kernel
theorem d_5_8_52 : decode prog_5_method_8_code 52 = .ok (.iload_n 2, 1) := by decide +kernel
theorem d_5_8_53 : decode prog_5_method_8_code 53 = .ok (.bipush 9, 2) := by decide +kernel
theorem d_5_8_55 : decode prog_5_method_8_code 55 = .ok (.invokevirtual 168, 3) := by decide +kernel
theorem d_5_8_58 : decode prog_5_method_8_code 58 = .ok (.invokevirtual 171, 3) := by decide +kernel
theorem d_5_8_61 : decode prog_5_method_8_code 61 = .ok (.return_, 1) := by decide +kernel
theorem d_5_9_0 : decode prog_5_method_9_code 0 = .ok (.aload_n 0, 1) := by decide +kernel
theorem d_5_9_1 : decode prog_5_method_9_code 1 = .ok (.getfield 80, 3) := by decide +kernel
theorem d_5_9_4 : decode prog_5_method_9_code 4 = .ok (.invokestatic 152, 3) := by decide +kernel
theorem d_5_9_7 : decode prog_5_method_9_code 7 = .ok (.iload_n 3, 1) := by decide +kernel
theorem d_5_9_8 : decode prog_5_method_9_code 8 = .ok (.if_icmp .gt 11, 3) := by decide +kernel
theorem d_5_9_11 : decode prog_5_method_9_code 11 = .ok (.aload_n 0, 1) := by decide +kernel
theorem d_5_9_12 : decode prog_5_method_9_code 12 = .ok (.aload_n 1, 1) := by decide +kernel
theorem d_5_9_13 : decode prog_5_method_9_code 13 = .ok (.iload_n 2, 1) := by decide +kernel
theorem d_5_9_14 : decode prog_5_method_9_code 14 = .ok (.invokevirtual 175, 3) := by decide +kernel
theorem d_5_9_17 : decode prog_5_method_9_code 17 = .ok (.iconst 0, 1) := by decide +kernel
theorem d_5_9_18 : decode prog_5_method_9_code 18 = .ok (.ireturn, 1) := by decide +kernel
theorem d_5_9_19 : decode prog_5_method_9_code 19 = .ok (.aload_n 0, 1) := by decide +kernel
theorem d_5_9_20 : decode prog_5_method_9_code 20 = .ok (.getfield 34, 3) := by decide +kernel
theorem d_5_9_23 : decode prog_5_method_9_code 23 = .ok (.aload_n 0, 1) := by decide +kernel
theorem d_5_9_24 : decode prog_5_method_9_code 24 = .ok (.getfield 27, 3) := by decide +kernel
theorem d_5_9_27 : decode prog_5_method_9_code 27 = .ok (.invokevirtual 178, 3) := by decide +kernel
theorem d_5_9_30 : decode prog_5_method_9_code 30 = .ok (.aload_n 0, 1) := by decide +kernel
theorem d_5_9_31 : decode prog_5_method_9_code 31 = .ok (.getfield 34, 3) := by decide +kernel
theorem d_5_9_34 : decode prog_5_method_9_code 34 = .ok (.aload_n 1, 1) := by decide +kernel
theorem d_5_9_35 : decode prog_5_method_9_code 35 = .ok (.getfield 111, 3) := by decide +kernel
theorem d_5_9_38 : decode prog_5_method_9_code 38 = .ok (.invokevirtual 181, 3) := by decide +kernel
theorem d_5_9_41 : decode prog_5_method_9_code 41 = .ok (.aload_n 0, 1) := by decide +kernel
theorem d_5_9_42 : decode prog_5_method_9_code 42 = .ok (.getfield 23, 3) := by decide +kernel
theorem d_5_9_45 : decode prog_5_method_9_code 45 = .ok (.iload_n 2, 1) := by decide +kernel
theorem d_5_9_46 : decode prog_5_method_9_code 46 = .ok (.aaload, 1) := by decide +kernel
theorem d_5_9_47 : decode prog_5_method_9_code 47 = .ok (.aload_n 0, 1) := by decide +kernel
theorem d_5_9_48 : decode prog_5_method_9_code 48 = .ok (.getfield 34, 3) := by decide +kernel
theorem d_5_9_51 : decode prog_5_method_9_code 51 = .ok (.invokevirtual 184, 3) := by decide +kernel
theorem d_5_9_54 : decode prog_5_method_9_code 54 = .ok (.istore 4, 2) := by decide +kernel
theorem d_5_9_56 : decode prog_5_method_9_code 56 = .ok (.iload 4, 2) := by decide +kernel
theorem d_5_9_58 : decode prog_5_method_9_code 58 = .ok (.ifCond .lt 12, 3) := by decide +kernel
theorem d_5_9_61 : decode prog_5_method_9_code 61 = .ok (.aload_n 0, 1) := by decide +kernel
theorem d_5_9_62 : decode prog_5_method_9_code 62 = .ok (.aload_n 1, 1) := by decide +kernel
theorem d_5_9_63 : decode prog_5_method_9_code 63 = .ok (.iload_n 2, 1) := by decide +kernel
theorem d_5_9_64 : decode prog_5_method_9_code 64 = .ok (.invokevirtual 175, 3) := by decide +kernel
theorem d_5_9_67 : decode prog_5_method_9_code 67 = .ok (.goto 12, 3) := by decide +kernel
theorem d_5_9_70 : decode prog_5_method_9_code 70 = .ok (.aload_n 0, 1) := by decide +kernel
theorem d_5_9_71 : decode prog_5_method_9_code 71 = .ok (.aload_n 1, 1) := by decide +kernel
theorem d_5_9_72 : decode prog_5_method_9_code 72 = .ok (.aload_n 0, 1) := by decide +kernel
theorem d_5_9_73 : decode prog_5_method_9_code 73 = .ok (.invokevirtual 188, 3) := by decide +kernel
theorem d_5_9_76 : decode prog_5_method_9_code 76 = .ok (.invokevirtual 191, 3) := by decide +kernel
theorem d_5_9_79 : decode prog_5_method_9_code 79 = .ok (.iload 4, 2) := by decide +kernel
theorem d_5_9_81 : decode prog_5_method_9_code 81 = .ok (.ifCond .le 7, 3) := by decide +kernel
theorem d_5_9_84 : decode prog_5_method_9_code 84 = .ok (.iconst 1, 1) := by decide +kernel
theorem d_5_9_85 : decode prog_5_method_9_code 85 = .ok (.goto 4, 3) := by decide +kernel
theorem d_5_9_88 : decode prog_5_method_9_code 88 = .ok (.iconst 0, 1) := by decide +kernel
theorem d_5_9_89 : decode prog_5_method_9_code 89 = .ok (.ireturn, 1) := by decide +kernel
theorem d_6_10_0 : decode prog_6_method_10_code 0 = .ok (.iconst 0, 1) := by decide +kernel
theorem d_6_10_1 : decode prog_6_method_10_code 1 = .ok (.istore_n 1, 1) := by decide +kernel
theorem d_6_10_2 : decode prog_6_method_10_code 2 = .ok (.iconst 1, 1) := by decide +kernel
theorem d_6_10_3 : decode prog_6_method_10_code 3 = .ok (.istore_n 2, 1) := by decide +kernel
theorem d_6_10_4 : decode prog_6_method_10_code 4 = .ok (.iload_n 2, 1) := by decide +kernel
theorem d_6_10_5 : decode prog_6_method_10_code 5 = .ok (.aload_n 0, 1) := by decide +kernel
theorem d_6_10_6 : decode prog_6_method_10_code 6 = .ok (.getfield 31, 3) := by decide +kernel
theorem d_6_10_9 : decode prog_6_method_10_code 9 = .ok (.if_icmp .ge 52, 3) := by decide +kernel
theorem d_6_10_12 : decode prog_6_method_10_code 12 = .ok (.aload_n 0, 1) := by decide +kernel
theorem d_6_10_13 : decode prog_6_method_10_code 13 = .ok (.getfield 25, 3) := by decide +kernel
theorem d_6_10_16 : decode prog_6_method_10_code 16 = .ok (.iload_n 2, 1) := by decide +kernel
theorem d_6_10_17 : decode prog_6_method_10_code 17 = .ok (.laload, 1) := by decide +kernel
theorem d_6_10_18 : decode prog_6_method_10_code 18 = .ok (.aload_n 0, 1) := by decide +kernel
theorem d_6_10_19 : decode prog_6_method_10_code 19 = .ok (.getfield 25, 3) := by decide +kernel
theorem d_6_10_22 : decode prog_6_method_10_code 22 = .ok (.iload_n 1, 1) := by decide +kernel
theorem d_6_10_23 : decode prog_6_method_10_code 23 = .ok (.laload, 1) := by decide +kernel
theorem d_6_10_24 : decode prog_6_method_10_code 24 = .ok (.lcmp, 1) := by decide +kernel
theorem d_6_10_25 : decode prog_6_method_10_code 25 = .ok (.ifCond .gt 28, 3) := by decide +kernel
theorem d_6_10_28 : decode prog_6_method_10_code 28 = .ok (.aload_n 0, 1) := by decide +kernel
theorem d_6_10_29 : decode prog_6_method_10_code 29 = .ok (.getfield 25, 3) := by decide +kernel
theorem d_6_10_32 : decode prog_6_method_10_code 32 = .ok (.iload_n 2, 1) := by decide +kernel
theorem d_6_10_33 : decode prog_6_method_10_code 33 = .ok (.laload, 1) := by decide +kernel
theorem d_6_10_34 : decode prog_6_method_10_code 34 = .ok (.aload_n 0, 1) := by decide +kernel
theorem d_6_10_35 : decode prog_6_method_10_code 35 = .ok (.getfield 25, 3) := by decide +kernel
theorem d_6_10_38 : decode prog_6_method_10_code 38 = .ok (.iload_n 1, 1) := by decide +kernel
theorem d_6_10_39 : decode prog_6_method_10_code 39 = .ok (.laload, 1) := by decide +kernel
theorem d_6_10_40 : decode prog_6_method_10_code 40 = .ok (.lcmp, 1) := by decide +kernel
theorem d_6_10_41 : decode prog_6_method_10_code 41 = .ok (.ifCond .ne 14, 3) := by decide +kernel
theorem d_6_10_44 : decode prog_6_method_10_code 44 = .ok (.aload_n 0, 1) := by decide +kernel
theorem d_6_10_45 : decode prog_6_method_10_code 45 = .ok (.iload_n 2, 1) := by decide +kernel
theorem d_6_10_46 : decode prog_6_method_10_code 46 = .ok (.iload_n 1, 1) := by decide +kernel
theorem d_6_10_47 : decode prog_6_method_10_code 47 = .ok (.invokevirtual 53, 3) := by decide +kernel
theorem d_6_10_50 : decode prog_6_method_10_code 50 = .ok (.ifCond .eq 5, 3) := by decide +kernel
theorem d_6_10_53 : decode prog_6_method_10_code 53 = .ok (.iload_n 2, 1) := by decide +kernel
theorem d_6_10_54 : decode prog_6_method_10_code 54 = .ok (.istore_n 1, 1) := by decide +kernel
theorem d_6_10_55 : decode prog_6_method_10_code 55 = .ok (.iinc 2 1, 3) := by decide +kernel
theorem d_6_10_58 : decode prog_6_method_10_code 58 = .ok (.goto (-54), 3) := by decide +kernel
theorem d_6_10_61 : decode prog_6_method_10_code 61 = .ok (.aload_n 0, 1) := by decide +kernel
theorem d_6_10_62 : decode prog_6_method_10_code 62 = .ok (.iload_n 1, 1) := by decide +kernel
theorem d_6_10_63 : decode prog_6_method_10_code 63 = .ok (.invokevirtual 46, 3) := by decide +kernel
theorem d_6_10_66 : decode prog_6_method_10_code 66 = .ok (.aload_n 0, 1) := by decide +kernel
theorem d_6_10_67 : decode prog_6_method_10_code 67 = .ok (.getfield 25, 3) := by decide +kernel
theorem d_6_10_70 : decode prog_6_method_10_code 70 = .ok (.iload_n 1, 1) := by decide +kernel
theorem d_6_10_71 : decode prog_6_method_10_code 71 = .ok (.ldc2_w 62, 3) := by decide +kernel
theorem d_6_10_74 : decode prog_6_method_10_code 74 = .ok (.lastore, 1) := by decide +kernel
theorem d_6_10_75 : decode prog_6_method_10_code 75 = .ok (.return_, 1) := by decide +kernel
theorem d_6_1_0 : decode prog_6_method_1_code 0 = .ok (.aload_n 0, 1) := by decide +kernel
theorem d_6_1_1 : decode prog_6_method_1_code 1 = .ok (.invokespecial 3, 3) := by decide +kernel
theorem d_6_1_4 : decode prog_6_method_1_code 4 = .ok (.aload_n 0, 1) := by decide +kernel
theorem d_6_1_5 : decode prog_6_method_1_code 5 = .ok (.bipush 8, 2) := by decide +kernel
theorem d_6_1_7 : decode prog_6_method_1_code 7 = .ok (.newarray .int, 2) := by decide +kernel
theorem d_6_1_9 : decode prog_6_method_1_code 9 = .ok (.putfield 9, 3) := by decide +kernel
theorem d_6_1_12 : decode prog_6_method_1_code 12 = .ok (.aload_n 0, 1) := by decide +kernel
theorem d_6_1_13 : decode prog_6_method_1_code 13 = .ok (.bipush 8, 2) := by decide +kernel
theorem d_6_1_15 : decode prog_6_method_1_code 15 = .ok (.newarray .long, 2) := by decide +kernel
theorem d_6_1_17 : decode prog_6_method_1_code 17 = .ok (.putfield 15, 3) := by decide +kernel
theorem d_6_1_20 : decode prog_6_method_1_code 20 = .ok (.aload_n 0, 1) := by decide +kernel
theorem d_6_1_21 : decode prog_6_method_1_code 21 = .ok (.bipush 8, 2) := by decide +kernel
theorem d_6_1_23 : decode prog_6_method_1_code 23 = .ok (.newarray .int, 2) := by decide +kernel
theorem d_6_1_25 : decode prog_6_method_1_code 25 = .ok (.putfield 19, 3) := by decide +kernel
theorem d_6_1_28 : decode prog_6_method_1_code 28 = .ok (.aload_n 0, 1) := by decide +kernel
theorem d_6_1_29 : decode prog_6_method_1_code 29 = .ok (.bipush 8, 2) := by decide +kernel
theorem d_6_1_31 : decode prog_6_method_1_code 31 = .ok (.newarray .int, 2) := by decide +kernel
theorem d_6_1_33 : decode prog_6_method_1_code 33 = .ok (.putfield 22, 3) := by decide +kernel
theorem d_6_1_36 : decode prog_6_method_1_code 36 = .ok (.aload_n 0, 1) := by decide +kernel
theorem d_6_1_37 : decode prog_6_method_1_code 37 = .ok (.bipush 8, 2) := by decide +kernel
theorem d_6_1_39 : decode prog_6_method_1_code 39 = .ok (.newarray .long, 2) := by decide +kernel
theorem d_6_1_41 : decode prog_6_method_1_code 41 = .ok (.putfield 25, 3) := by decide +kernel
theorem d_6_1_44 : decode prog_6_method_1_code 44 = .ok (.aload_n 0, 1) := by decide +kernel
theorem d_6_1_45 : decode prog_6_method_1_code 45 = .ok (.bipush 61, 2) := by decide +kernel
theorem d_6_1_47 : decode prog_6_method_1_code 47 = .ok (.newarray .int, 2) := by decide +kernel
theorem d_6_1_49 : decode prog_6_method_1_code 49 = .ok (.putfield 28, 3) := by decide +kernel
theorem d_6_1_52 : decode prog_6_method_1_code 52 = .ok (.return_, 1) := by decide +kernel
theorem d_6_2_0 : decode prog_6_method_2_code 0 = .ok (.aload_n 0, 1) := by decide +kernel
theorem d_6_2_1 : decode prog_6_method_2_code 1 = .ok (.iconst 0, 1) := by decide +kernel
theorem d_6_2_2 : decode prog_6_method_2_code 2 = .ok (.putfield 31, 3) := by decide +kernel
theorem d_6_2_5 : decode prog_6_method_2_code 5 = .ok (.aload_n 0, 1) := by decide +kernel
theorem d_6_2_6 : decode prog_6_method_2_code 6 = .ok (.iconst 0, 1) := by decide +kernel
theorem d_6_2_7 : decode prog_6_method_2_code 7 = .ok (.putfield 35, 3) := by decide +kernel
theorem d_6_2_10 : decode prog_6_method_2_code 10 = .ok (.return_, 1) := by decide +kernel
theorem d_6_3_0 : decode prog_6_method_3_code 0 = .ok (.aload_n 0, 1) := by decide +kernel
theorem d_6_3_1 : decode prog_6_method_3_code 1 = .ok (.getfield 31, 3) := by decide +kernel
theorem d_6_3_4 : decode prog_6_method_3_code 4 = .ok (.bipush 8, 2) := by decide +kernel
theorem d_6_3_6 : decode prog_6_method_3_code 6 = .ok (.if_icmp .ge 54, 3) := by decide +kernel
theorem d_6_3_9 : decode prog_6_method_3_code 9 = .ok (.aload_n 0, 1) := by decide +kernel
theorem d_6_3_10 : decode prog_6_method_3_code 10 = .ok (.getfield 9, 3) := by decide +kernel
theorem d_6_3_13 : decode prog_6_method_3_code 13 = .ok (.aload_n 0, 1) := by decide +kernel
theorem d_6_3_14 : decode prog_6_method_3_code 14 = .ok (.getfield 31, 3) := by decide +kernel
theorem d_6_3_17 : decode prog_6_method_3_code 17 = .ok (.iload_n 1, 1) := by decide +kernel
theorem d_6_3_18 : decode prog_6_method_3_code 18 = .ok (.iastore, 1) := by decide +kernel
theorem d_6_3_19 : decode prog_6_method_3_code 19 = .ok (.aload_n 0, 1) := by decide +kernel
theorem d_6_3_20 : decode prog_6_method_3_code 20 = .ok (.getfield 15, 3) := by decide +kernel
theorem d_6_3_23 : decode prog_6_method_3_code 23 = .ok (.aload_n 0, 1) := by decide +kernel
theorem d_6_3_24 : decode prog_6_method_3_code 24 = .ok (.getfield 31, 3) := by decide +kernel
theorem d_6_3_27 : decode prog_6_method_3_code 27 = .ok (.lload_n 2, 1) := by decide +kernel
theorem d_6_3_28 : decode prog_6_method_3_code 28 = .ok (.lastore, 1) := by decide +kernel
theorem d_6_3_29 : decode prog_6_method_3_code 29 = .ok (.aload_n 0, 1) := by decide +kernel
theorem d_6_3_30 : decode prog_6_method_3_code 30 = .ok (.getfield 19, 3) := by decide +kernel
theorem d_6_3_33 : decode prog_6_method_3_code 33 = .ok (.aload_n 0, 1) := by decide +kernel
theorem d_6_3_34 : decode prog_6_method_3_code 34 = .ok (.getfield 31, 3) := by decide +kernel
theorem d_6_3_37 : decode prog_6_method_3_code 37 = .ok (.iload 4, 2) := by decide +kernel
theorem d_6_3_39 : decode prog_6_method_3_code 39 = .ok (.iastore, 1) := by decide +kernel
theorem d_6_3_40 : decode prog_6_method_3_code 40 = .ok (.aload_n 0, 1) := by decide +kernel
theorem d_6_3_41 : decode prog_6_method_3_code 41 = .ok (.getfield 22, 3) := by decide +kernel
theorem d_6_3_44 : decode prog_6_method_3_code 44 = .ok (.aload_n 0, 1) := by decide +kernel
theorem d_6_3_45 : decode prog_6_method_3_code 45 = .ok (.getfield 31, 3) := by decide +kernel
theorem d_6_3_48 : decode prog_6_method_3_code 48 = .ok (.iconst 0, 1) := by decide +kernel
theorem d_6_3_49 : decode prog_6_method_3_code 49 = .ok (.iastore, 1) := by decide +kernel
theorem d_6_3_50 : decode prog_6_method_3_code 50 = .ok (.aload_n 0, 1) := by decide +kernel
theorem d_6_3_51 : decode prog_6_method_3_code 51 = .ok (.dup, 1) := by decide +kernel
theorem d_6_3_52 : decode prog_6_method_3_code 52 = .ok (.getfield 31, 3) := by decide +kernel
theorem d_6_3_55 : decode prog_6_method_3_code 55 = .ok (.iconst 1, 1) := by decide +kernel
theorem d_6_3_56 : decode prog_6_method_3_code 56 = .ok (.iadd, 1) := by decide +kernel
theorem d_6_3_57 : decode prog_6_method_3_code 57 = .ok (.putfield 31, 3) := by decide +kernel
theorem d_6_3_60 : decode prog_6_method_3_code 60 = .ok (.return_, 1) := by decide +kernel
theorem d_6_4_0 : decode prog_6_method_4_code 0 = .ok (.aload_n 0, 1) := by decide +kernel
theorem d_6_4_1 : decode prog_6_method_4_code 1 = .ok (.getfield 22, 3) := by decide +kernel
theorem d_6_4_4 : decode prog_6_method_4_code 4 = .ok (.iload_n 1, 1) := by decide +kernel
theorem d_6_4_5 : decode prog_6_method_4_code 5 = .ok (.dup2, 1) := by decide +kernel
theorem d_6_4_6 : decode prog_6_method_4_code 6 = .ok (.iaload, 1) := by decide +kernel
theorem d_6_4_7 : decode prog_6_method_4_code 7 = .ok (.iconst 1, 1) := by decide +kernel
theorem d_6_4_8 : decode prog_6_method_4_code 8 = .ok (.iadd, 1) := by decide +kernel
theorem d_6_4_9 : decode prog_6_method_4_code 9 = .ok (.iastore, 1) := by decide +kernel
theorem d_6_4_10 : decode prog_6_method_4_code 10 = .ok (.aload_n 0, 1) := by decide +kernel
theorem d_6_4_11 : decode prog_6_method_4_code 11 = .ok (.getfield 35, 3) := by decide +kernel
theorem d_6_4_14 : decode prog_6_method_4_code 14 = .ok (.aload_n 0, 1) := by decide +kernel
theorem d_6_4_15 : decode prog_6_method_4_code 15 = .ok (.getfield 28, 3) := by decide +kernel
theorem d_6_4_18 : decode prog_6_method_4_code 18 = .ok (.arraylength, 1) := by decide +kernel
theorem d_6_4_19 : decode prog_6_method_4_code 19 = .ok (.if_icmp .ge 28, 3) := by decide +kernel
theorem d_6_4_22 : decode prog_6_method_4_code 22 = .ok (.aload_n 0, 1) := by decide +kernel
theorem d_6_4_23 : decode prog_6_method_4_code 23 = .ok (.getfield 28, 3) := by decide +kernel
theorem d_6_4_26 : decode prog_6_method_4_code 26 = .ok (.aload_n 0, 1) := by decide +kernel
theorem d_6_4_27 : decode prog_6_method_4_code 27 = .ok (.getfield 35, 3) := by decide +kernel
theorem d_6_4_30 : decode prog_6_method_4_code 30 = .ok (.aload_n 0, 1) := by decide +kernel
theorem d_6_4_31 : decode prog_6_method_4_code 31 = .ok (.getfield 9, 3) := by decide +kernel
theorem d_6_4_34 : decode prog_6_method_4_code 34 = .ok (.iload_n 1, 1) := by decide +kernel
theorem d_6_4_35 : decode prog_6_method_4_code 35 = .ok (.iaload, 1) := by decide +kernel
theorem d_6_4_36 : decode prog_6_method_4_code 36 = .ok (.iastore, 1) := by decide +kernel
theorem d_6_4_37 : decode prog_6_method_4_code 37 = .ok (.aload_n 0, 1) := by decide +kernel
theorem d_6_4_38 : decode prog_6_method_4_code 38 = .ok (.dup, 1) := by decide +kernel
theorem d_6_4_39 : decode prog_6_method_4_code 39 = .ok (.getfield 35, 3) := by decide +kernel
theorem d_6_4_42 : decode prog_6_method_4_code 42 = .ok (.iconst 1, 1) := by decide +kernel
theorem d_6_4_43 : decode prog_6_method_4_code 43 = .ok (.iadd, 1) := by decide +kernel
theorem d_6_4_44 : decode prog_6_method_4_code 44 = .ok (.putfield 35, 3) := by decide +kernel
theorem d_6_4_47 : decode prog_6_method_4_code 47 = .ok (.return_, 1) := by decide +kernel
theorem d_6_5_0 : decode prog_6_method_5_code 0 = .ok (.aload_n 0, 1) := by decide +kernel
theorem d_6_5_1 : decode prog_6_method_5_code 1 = .ok (.getfield 31, 3) := by decide +kernel
theorem d_6_5_4 : decode prog_6_method_5_code 4 = .ok (.ifCond .ne 4, 3) := by decide +kernel
theorem d_6_5_7 : decode prog_6_method_5_code 7 = .ok (.return_, 1) := by decide +kernel
theorem d_6_5_8 : decode prog_6_method_5_code 8 = .ok (.iload_n 1, 1) := by decide +kernel
theorem d_6_5_9 : decode prog_6_method_5_code 9 = .ok (.iconst 5, 1) := by decide +kernel
theorem d_6_5_10 : decode prog_6_method_5_code 10 = .ok (.if_icmp .ne 9, 3) := by decide +kernel
theorem d_6_5_13 : decode prog_6_method_5_code 13 = .ok (.aload_n 0, 1) := by decide +kernel
theorem d_6_5_14 : decode prog_6_method_5_code 14 = .ok (.iload_n 2, 1) := by decide +kernel
theorem d_6_5_15 : decode prog_6_method_5_code 15 = .ok (.invokevirtual 38, 3) := by decide +kernel
theorem d_6_5_18 : decode prog_6_method_5_code 18 = .ok (.return_, 1) := by decide +kernel
theorem d_6_5_19 : decode prog_6_method_5_code 19 = .ok (.iconst 0, 1) := by decide +kernel
theorem d_6_5_20 : decode prog_6_method_5_code 20 = .ok (.istore_n 3, 1) := by decide +kernel
theorem d_6_5_21 : decode prog_6_method_5_code 21 = .ok (.iload_n 3, 1) := by decide +kernel
theorem d_6_5_22 : decode prog_6_method_5_code 22 = .ok (.iload_n 2, 1) := by decide +kernel
theorem d_6_5_23 : decode prog_6_method_5_code 23 = .ok (.if_icmp .ge 52, 3) := by decide +kernel
theorem d_6_5_26 : decode prog_6_method_5_code 26 = .ok (.iconst 0, 1) := by decide +kernel
theorem d_6_5_27 : decode prog_6_method_5_code 27 = .ok (.istore 4, 2) := by decide +kernel
theorem d_6_5_29 : decode prog_6_method_5_code 29 = .ok (.iconst 1, 1) := by decide +kernel
theorem d_6_5_30 : decode prog_6_method_5_code 30 = .ok (.istore 5, 2) := by decide +kernel
theorem d_6_5_32 : decode prog_6_method_5_code 32 = .ok (.iload 5, 2) := by decide +kernel
theorem d_6_5_34 : decode prog_6_method_5_code 34 = .ok (.aload_n 0, 1) := by decide +kernel
theorem d_6_5_35 : decode prog_6_method_5_code 35 = .ok (.getfield 31, 3) := by decide +kernel
theorem d_6_5_38 : decode prog_6_method_5_code 38 = .ok (.if_icmp .ge 25, 3) := by decide +kernel
theorem d_6_5_41 : decode prog_6_method_5_code 41 = .ok (.aload_n 0, 1) := by decide +kernel
theorem d_6_5_42 : decode prog_6_method_5_code 42 = .ok (.iload 5, 2) := by decide +kernel
theorem d_6_5_44 : decode prog_6_method_5_code 44 = .ok (.iload 4, 2) := by decide +kernel
theorem d_6_5_46 : decode prog_6_method_5_code 46 = .ok (.iload_n 1, 1) := by decide +kernel
theorem d_6_5_47 : decode prog_6_method_5_code 47 = .ok (.invokevirtual 42, 3) := by decide +kernel
theorem d_6_5_50 : decode prog_6_method_5_code 50 = .ok (.ifCond .eq 7, 3) := by decide +kernel
theorem d_6_5_53 : decode prog_6_method_5_code 53 = .ok (.iload 5, 2) := by decide +kernel
theorem d_6_5_55 : decode prog_6_method_5_code 55 = .ok (.istore 4, 2) := by decide +kernel
theorem d_6_5_57 : decode prog_6_method_5_code 57 = .ok (.iinc 5 1, 3) := by decide +kernel
theorem d_6_5_60 : decode prog_6_method_5_code 60 = .ok (.goto (-28), 3) := by decide +kernel
theorem d_6_5_63 : decode prog_6_method_5_code 63 = .ok (.aload_n 0, 1) := by decide +kernel
theorem d_6_5_64 : decode prog_6_method_5_code 64 = .ok (.iload 4, 2) := by decide +kernel
theorem d_6_5_66 : decode prog_6_method_5_code 66 = .ok (.invokevirtual 46, 3) := by decide +kernel
theorem d_6_5_69 : decode prog_6_method_5_code 69 = .ok (.iinc 3 1, 3) := by decide +kernel
theorem d_6_5_72 : decode prog_6_method_5_code 72 = .ok (.goto (-51), 3) := by decide +kernel
theorem d_6_5_75 : decode prog_6_method_5_code 75 = .ok (.return_, 1) := by decide +kernel
theorem d_6_6_0 : decode prog_6_method_6_code 0 = .ok (.aload_n 0, 1) := by decide +kernel
theorem d_6_6_1 : decode prog_6_method_6_code 1 = .ok (.getfield 15, 3) := by decide +kernel
theorem d_6_6_4 : decode prog_6_method_6_code 4 = .ok (.iload_n 1, 1) := by decide +kernel
theorem d_6_6_5 : decode prog_6_method_6_code 5 = .ok (.laload, 1) := by decide +kernel
theorem d_6_6_6 : decode prog_6_method_6_code 6 = .ok (.aload_n 0, 1) := by decide +kernel
theorem d_6_6_7 : decode prog_6_method_6_code 7 = .ok (.iload_n 3, 1) := by decide +kernel
theorem d_6_6_8 : decode prog_6_method_6_code 8 = .ok (.aload_n 0, 1) := by decide +kernel
theorem d_6_6_9 : decode prog_6_method_6_code 9 = .ok (.getfield 22, 3) := by decide +kernel
theorem d_6_6_12 : decode prog_6_method_6_code 12 = .ok (.iload_n 2, 1) := by decide +kernel
theorem d_6_6_13 : decode prog_6_method_6_code 13 = .ok (.iaload, 1) := by decide +kernel
theorem d_6_6_14 : decode prog_6_method_6_code 14 = .ok (.invokevirtual 49, 3) := by decide +kernel
theorem d_6_6_17 : decode prog_6_method_6_code 17 = .ok (.lmul, 1) := by decide +kernel
theorem d_6_6_18 : decode prog_6_method_6_code 18 = .ok (.lstore 4, 2) := by decide +kernel
theorem d_6_6_20 : decode prog_6_method_6_code 20 = .ok (.aload_n 0, 1) := by decide +kernel
theorem d_6_6_21 : decode prog_6_method_6_code 21 = .ok (.getfield 15, 3) := by decide +kernel
theorem d_6_6_24 : decode prog_6_method_6_code 24 = .ok (.iload_n 2, 1) := by decide +kernel
theorem d_6_6_25 : decode prog_6_method_6_code 25 = .ok (.laload, 1) := by decide +kernel
theorem d_6_6_26 : decode prog_6_method_6_code 26 = .ok (.aload_n 0, 1) := by decide +kernel
theorem d_6_6_27 : decode prog_6_method_6_code 27 = .ok (.iload_n 3, 1) := by decide +kernel
theorem d_6_6_28 : decode prog_6_method_6_code 28 = .ok (.aload_n 0, 1) := by decide +kernel
theorem d_6_6_29 : decode prog_6_method_6_code 29 = .ok (.getfield 22, 3) := by decide +kernel
theorem d_6_6_32 : decode prog_6_method_6_code 32 = .ok (.iload_n 1, 1) := by decide +kernel
theorem d_6_6_33 : decode prog_6_method_6_code 33 = .ok (.iaload, 1) := by decide +kernel
theorem d_6_6_34 : decode prog_6_method_6_code 34 = .ok (.invokevirtual 49, 3) := by decide +kernel
theorem d_6_6_37 : decode prog_6_method_6_code 37 = .ok (.lmul, 1) := by decide +kernel
theorem d_6_6_38 : decode prog_6_method_6_code 38 = .ok (.lstore 6, 2) := by decide +kernel
theorem d_6_6_40 : decode prog_6_method_6_code 40 = .ok (.lload 4, 2) := by decide +kernel
theorem d_6_6_42 : decode prog_6_method_6_code 42 = .ok (.lload 6, 2) := by decide +kernel
theorem d_6_6_44 : decode prog_6_method_6_code 44 = .ok (.lcmp, 1) := by decide +kernel
theorem d_6_6_45 : decode prog_6_method_6_code 45 = .ok (.ifCond .gt 20, 3) := by decide +kernel
theorem d_6_6_48 : decode prog_6_method_6_code 48 = .ok (.lload 4, 2) := by decide +kernel
theorem d_6_6_50 : decode prog_6_method_6_code 50 = .ok (.lload 6, 2) := by decide +kernel
theorem d_6_6_52 : decode prog_6_method_6_code 52 = .ok (.lcmp, 1) := by decide +kernel
theorem d_6_6_53 : decode prog_6_method_6_code 53 = .ok (.ifCond .ne 16, 3) := by decide +kernel
theorem d_6_6_56 : decode prog_6_method_6_code 56 = .ok (.aload_n 0, 1) := by decide +kernel
theorem d_6_6_57 : decode prog_6_method_6_code 57 = .ok (.iload_n 1, 1) := by decide +kernel
theorem d_6_6_58 : decode prog_6_method_6_code 58 = .ok (.iload_n 2, 1) := by decide +kernel
theorem d_6_6_59 : decode prog_6_method_6_code 59 = .ok (.invokevirtual 53, 3) := by decide +kernel
theorem d_6_6_62 : decode prog_6_method_6_code 62 = .ok (.ifCond .eq 7, 3) := by decide +kernel
theorem d_6_6_65 : decode prog_6_method_6_code 65 = .ok (.iconst 1, 1) := by decide +kernel
theorem d_6_6_66 : decode prog_6_method_6_code 66 = .ok (.goto 4, 3) := by decide +kernel
theorem d_6_6_69 : decode prog_6_method_6_code 69 = .ok (.iconst 0, 1) := by decide +kernel
theorem d_6_6_70 : decode prog_6_method_6_code 70 = .ok (.ireturn, 1) := by decide +kernel
theorem d_6_7_0 : decode prog_6_method_7_code 0 = .ok (.aload_n 0, 1) := by decide +kernel
theorem d_6_7_1 : decode prog_6_method_7_code 1 = .ok (.getfield 15, 3) := by decide +kernel
theorem d_6_7_4 : decode prog_6_method_7_code 4 = .ok (.iload_n 1, 1) := by decide +kernel
theorem d_6_7_5 : decode prog_6_method_7_code 5 = .ok (.laload, 1) := by decide +kernel
theorem d_6_7_6 : decode prog_6_method_7_code 6 = .ok (.aload_n 0, 1) := by decide +kernel
theorem d_6_7_7 : decode prog_6_method_7_code 7 = .ok (.getfield 15, 3) := by decide +kernel
theorem d_6_7_10 : decode prog_6_method_7_code 10 = .ok (.iload_n 2, 1) := by decide +kernel
theorem d_6_7_11 : decode prog_6_method_7_code 11 = .ok (.laload, 1) := by decide +kernel
theorem d_6_7_12 : decode prog_6_method_7_code 12 = .ok (.lcmp, 1) := by decide +kernel
theorem d_6_7_13 : decode prog_6_method_7_code 13 = .ok (.ifCond .eq 25, 3) := by decide +kernel
theorem d_6_7_16 : decode prog_6_method_7_code 16 = .ok (.aload_n 0, 1) := by decide +kernel
theorem d_6_7_17 : decode prog_6_method_7_code 17 = .ok (.getfield 15, 3) := by decide +kernel
theorem d_6_7_20 : decode prog_6_method_7_code 20 = .ok (.iload_n 1, 1) := by decide +kernel
theorem d_6_7_21 : decode prog_6_method_7_code 21 = .ok (.laload, 1) := by decide +kernel
theorem d_6_7_22 : decode prog_6_method_7_code 22 = .ok (.aload_n 0, 1) := by decide +kernel
theorem d_6_7_23 : decode prog_6_method_7_code 23 = .ok (.getfield 15, 3) := by decide +kernel
theorem d_6_7_26 : decode prog_6_method_7_code 26 = .ok (.iload_n 2, 1) := by decide +kernel
theorem d_6_7_27 : decode prog_6_method_7_code 27 = .ok (.laload, 1) := by decide +kernel
theorem d_6_7_28 : decode prog_6_method_7_code 28 = .ok (.lcmp, 1) := by decide +kernel
theorem d_6_7_29 : decode prog_6_method_7_code 29 = .ok (.ifCond .le 7, 3) := by decide +kernel
theorem d_6_7_32 : decode prog_6_method_7_code 32 = .ok (.iconst 1, 1) := by decide +kernel
theorem d_6_7_33 : decode prog_6_method_7_code 33 = .ok (.goto 4, 3) := by decide +kernel
theorem d_6_7_36 : decode prog_6_method_7_code 36 = .ok (.iconst 0, 1) := by decide +kernel
theorem d_6_7_37 : decode prog_6_method_7_code 37 = .ok (.ireturn, 1) := by decide +kernel
theorem d_6_7_38 : decode prog_6_method_7_code 38 = .ok (.aload_n 0, 1) := by decide +kernel
theorem d_6_7_39 : decode prog_6_method_7_code 39 = .ok (.getfield 19, 3) := by decide +kernel
theorem d_6_7_42 : decode prog_6_method_7_code 42 = .ok (.iload_n 1, 1) := by decide +kernel
theorem d_6_7_43 : decode prog_6_method_7_code 43 = .ok (.iaload, 1) := by decide +kernel
theorem d_6_7_44 : decode prog_6_method_7_code 44 = .ok (.aload_n 0, 1) := by decide +kernel
theorem d_6_7_45 : decode prog_6_method_7_code 45 = .ok (.getfield 19, 3) := by decide +kernel
theorem d_6_7_48 : decode prog_6_method_7_code 48 = .ok (.iload_n 2, 1) := by decide +kernel
theorem d_6_7_49 : decode prog_6_method_7_code 49 = .ok (.iaload, 1) := by decide +kernel
theorem d_6_7_50 : decode prog_6_method_7_code 50 = .ok (.if_icmp .lt 33, 3) := by decide +kernel
theorem d_6_7_53 : decode prog_6_method_7_code 53 = .ok (.aload_n 0, 1) := by decide +kernel
theorem d_6_7_54 : decode prog_6_method_7_code 54 = .ok (.getfield 19, 3) := by decide +kernel
theorem d_6_7_57 : decode prog_6_method_7_code 57 = .ok (.iload_n 1, 1) := by decide +kernel
theorem d_6_7_58 : decode prog_6_method_7_code 58 = .ok (.iaload, 1) := by decide +kernel
theorem d_6_7_59 : decode prog_6_method_7_code 59 = .ok (.aload_n 0, 1) := by decide +kernel
theorem d_6_7_60 : decode prog_6_method_7_code 60 = .ok (.getfield 19, 3) := by decide +kernel
theorem d_6_7_63 : decode prog_6_method_7_code 63 = .ok (.iload_n 2, 1) := by decide +kernel
theorem d_6_7_64 : decode prog_6_method_7_code 64 = .ok (.iaload, 1) := by decide +kernel
theorem d_6_7_65 : decode prog_6_method_7_code 65 = .ok (.if_icmp .ne 22, 3) := by decide +kernel
theorem d_6_7_68 : decode prog_6_method_7_code 68 = .ok (.aload_n 0, 1) := by decide +kernel
theorem d_6_7_69 : decode prog_6_method_7_code 69 = .ok (.getfield 9, 3) := by decide +kernel
theorem d_6_7_72 : decode prog_6_method_7_code 72 = .ok (.iload_n 1, 1) := by decide +kernel
theorem d_6_7_73 : decode prog_6_method_7_code 73 = .ok (.iaload, 1) := by decide +kernel
theorem d_6_7_74 : decode prog_6_method_7_code 74 = .ok (.aload_n 0, 1) := by decide +kernel
theorem d_6_7_75 : decode prog_6_method_7_code 75 = .ok (.getfield 9, 3) := by decide +kernel
theorem d_6_7_78 : decode prog_6_method_7_code 78 = .ok (.iload_n 2, 1) := by decide +kernel
theorem d_6_7_79 : decode prog_6_method_7_code 79 = .ok (.iaload, 1) := by decide +kernel
theorem d_6_7_80 : decode prog_6_method_7_code 80 = .ok (.if_icmp .ge 7, 3) := by decide +kernel
theorem d_6_7_83 : decode prog_6_method_7_code 83 = .ok (.iconst 1, 1) := by decide +kernel
theorem d_6_7_84 : decode prog_6_method_7_code 84 = .ok (.goto 4, 3) := by decide +kernel
theorem d_6_7_87 : decode prog_6_method_7_code 87 = .ok (.iconst 0, 1) := by decide +kernel
theorem d_6_7_88 : decode prog_6_method_7_code 88 = .ok (.ireturn, 1) := by decide +kernel
theorem d_6_8_0 : decode prog_6_method_8_code 0 = .ok (.iload_n 1, 1) := by decide +kernel
theorem d_6_8_1 : decode prog_6_method_8_code 1 = .ok (.tableswitch 69 0 3 #[31, 36, 43, 62], 31) := by decide +kernel
theorem d_6_8_32 : decode prog_6_method_8_code 32 = .ok (.iload_n 2, 1) := by decide +kernel
theorem d_6_8_33 : decode prog_6_method_8_code 33 = .ok (.iconst 1, 1) := by decide +kernel
theorem d_6_8_34 : decode prog_6_method_8_code 34 = .ok (.iadd, 1) := by decide +kernel
theorem d_6_8_35 : decode prog_6_method_8_code 35 = .ok (.i2l, 1) := by decide +kernel
theorem d_6_8_36 : decode prog_6_method_8_code 36 = .ok (.lreturn, 1) := by decide +kernel
theorem d_6_8_37 : decode prog_6_method_8_code 37 = .ok (.iconst 2, 1) := by decide +kernel
theorem d_6_8_38 : decode prog_6_method_8_code 38 = .ok (.iload_n 2, 1) := by decide +kernel
theorem d_6_8_39 : decode prog_6_method_8_code 39 = .ok (.imul, 1) := by decide +kernel
theorem d_6_8_40 : decode prog_6_method_8_code 40 = .ok (.iconst 1, 1) := by decide +kernel
theorem d_6_8_41 : decode prog_6_method_8_code 41 = .ok (.iadd, 1) := by decide +kernel
theorem d_6_8_42 : decode prog_6_method_8_code 42 = .ok (.i2l, 1) := by decide +kernel
theorem d_6_8_43 : decode prog_6_method_8_code 43 = .ok (.lreturn, 1) := by decide +kernel
theorem d_6_8_44 : decode prog_6_method_8_code 44 = .ok (.iload_n 2, 1) := by decide +kernel
theorem d_6_8_45 : decode prog_6_method_8_code 45 = .ok (.ifCond .ne 9, 3) := by decide +kernel
theorem d_6_8_48 : decode prog_6_method_8_code 48 = .ok (.ldc2_w 57, 3) := by decide +kernel
theorem d_6_8_51 : decode prog_6_method_8_code 51 = .ok (.goto 11, 3) := by decide +kernel
theorem d_6_8_54 : decode prog_6_method_8_code 54 = .ok (.bipush 20, 2) := by decide +kernel
theorem d_6_8_56 : decode prog_6_method_8_code 56 = .ok (.iload_n 2, 1) := by decide +kernel
theorem d_6_8_57 : decode prog_6_method_8_code 57 = .ok (.imul, 1) := by decide +kernel
theorem d_6_8_58 : decode prog_6_method_8_code 58 = .ok (.bipush 10, 2) := by decide +kernel
theorem d_6_8_60 : decode prog_6_method_8_code 60 = .ok (.iadd, 1) := by decide +kernel
theorem d_6_8_61 : decode prog_6_method_8_code 61 = .ok (.i2l, 1) := by decide +kernel
theorem d_6_8_62 : decode prog_6_method_8_code 62 = .ok (.lreturn, 1) := by decide +kernel
theorem d_6_8_63 : decode prog_6_method_8_code 63 = .ok (.iconst 3, 1) := by decide +kernel
theorem d_6_8_64 : decode prog_6_method_8_code 64 = .ok (.iload_n 2, 1) := by decide +kernel
theorem d_6_8_65 : decode prog_6_method_8_code 65 = .ok (.imul, 1) := by decide +kernel
theorem d_6_8_66 : decode prog_6_method_8_code 66 = .ok (.iconst 1, 1) := by decide +kernel
theorem d_6_8_67 : decode prog_6_method_8_code 67 = .ok (.iadd, 1) := by decide +kernel
theorem d_6_8_68 : decode prog_6_method_8_code 68 = .ok (.i2l, 1) := by decide +kernel
theorem d_6_8_69 : decode prog_6_method_8_code 69 = .ok (.lreturn, 1) := by decide +kernel
theorem d_6_8_70 : decode prog_6_method_8_code 70 = .ok (.iload_n 2, 1) := by decide +kernel
theorem d_6_8_71 : decode prog_6_method_8_code 71 = .ok (.iconst 2, 1) := by decide +kernel
theorem d_6_8_72 : decode prog_6_method_8_code 72 = .ok (.iadd, 1) := by decide +kernel
theorem d_6_8_73 : decode prog_6_method_8_code 73 = .ok (.i2l, 1) := by decide +kernel
theorem d_6_8_74 : decode prog_6_method_8_code 74 = .ok (.lreturn, 1) := by decide +kernel
theorem d_6_9_0 : decode prog_6_method_9_code 0 = .ok (.lconst 0, 1) := by decide +kernel
theorem d_6_9_1 : decode prog_6_method_9_code 1 = .ok (.lstore_n 2, 1) := by decide +kernel
theorem d_6_9_2 : decode prog_6_method_9_code 2 = .ok (.iconst 0, 1) := by decide +kernel
theorem d_6_9_3 : decode prog_6_method_9_code 3 = .ok (.istore 4, 2) := by decide +kernel
theorem d_6_9_5 : decode prog_6_method_9_code 5 = .ok (.iload 4, 2) := by decide +kernel
theorem d_6_9_7 : decode prog_6_method_9_code 7 = .ok (.aload_n 0, 1) := by decide +kernel
theorem d_6_9_8 : decode prog_6_method_9_code 8 = .ok (.getfield 31, 3) := by decide +kernel
theorem d_6_9_11 : decode prog_6_method_9_code 11 = .ok (.if_icmp .ge 19, 3) := by decide +kernel
theorem d_6_9_14 : decode prog_6_method_9_code 14 = .ok (.lload_n 2, 1) := by decide +kernel
theorem d_6_9_15 : decode prog_6_method_9_code 15 = .ok (.aload_n 0, 1) := by decide +kernel
theorem d_6_9_16 : decode prog_6_method_9_code 16 = .ok (.getfield 15, 3) := by decide +kernel
theorem d_6_9_19 : decode prog_6_method_9_code 19 = .ok (.iload 4, 2) := by decide +kernel
theorem d_6_9_21 : decode prog_6_method_9_code 21 = .ok (.laload, 1) := by decide +kernel
theorem d_6_9_22 : decode prog_6_method_9_code 22 = .ok (.ladd, 1) := by decide +kernel
theorem d_6_9_23 : decode prog_6_method_9_code 23 = .ok (.lstore_n 2, 1) := by decide +kernel
theorem d_6_9_24 : decode prog_6_method_9_code 24 = .ok (.iinc 4 1, 3) := by decide +kernel
theorem d_6_9_27 : decode prog_6_method_9_code 27 = .ok (.goto (-22), 3) := by decide +kernel
theorem d_6_9_30 : decode prog_6_method_9_code 30 = .ok (.lload_n 2, 1) := by decide +kernel
theorem d_6_9_31 : decode prog_6_method_9_code 31 = .ok (.lconst 0, 1) := by decide +kernel
theorem d_6_9_32 : decode prog_6_method_9_code 32 = .ok (.lcmp, 1) := by decide +kernel
theorem d_6_9_33 : decode prog_6_method_9_code 33 = .ok (.ifCond .ne 4, 3) := by decide +kernel
theorem d_6_9_36 : decode prog_6_method_9_code 36 = .ok (.return_, 1) := by decide +kernel
theorem d_6_9_37 : decode prog_6_method_9_code 37 = .ok (.iconst 0, 1) := by decide +kernel
theorem d_6_9_38 : decode prog_6_method_9_code 38 = .ok (.istore 4, 2) := by decide +kernel
theorem d_6_9_40 : decode prog_6_method_9_code 40 = .ok (.iconst 0, 1) := by decide +kernel
theorem d_6_9_41 : decode prog_6_method_9_code 41 = .ok (.istore 5, 2) := by decide +kernel
theorem d_6_9_43 : decode prog_6_method_9_code 43 = .ok (.iload 5, 2) := by decide +kernel
theorem d_6_9_45 : decode prog_6_method_9_code 45 = .ok (.aload_n 0, 1) := by decide +kernel
theorem d_6_9_46 : decode prog_6_method_9_code 46 = .ok (.getfield 31, 3) := by decide +kernel
theorem d_6_9_49 : decode prog_6_method_9_code 49 = .ok (.if_icmp .ge 72, 3) := by decide +kernel
theorem d_6_9_52 : decode prog_6_method_9_code 52 = .ok (.aload_n 0, 1) := by decide +kernel
theorem d_6_9_53 : decode prog_6_method_9_code 53 = .ok (.getfield 15, 3) := by decide +kernel
theorem d_6_9_56 : decode prog_6_method_9_code 56 = .ok (.iload 5, 2) := by decide +kernel
theorem d_6_9_58 : decode prog_6_method_9_code 58 = .ok (.laload, 1) := by decide +kernel
theorem d_6_9_59 : decode prog_6_method_9_code 59 = .ok (.iload_n 1, 1) := by decide +kernel
theorem d_6_9_60 : decode prog_6_method_9_code 60 = .ok (.i2l, 1) := by decide +kernel
theorem d_6_9_61 : decode prog_6_method_9_code 61 = .ok (.lmul, 1) := by decide +kernel
theorem d_6_9_62 : decode prog_6_method_9_code 62 = .ok (.lload_n 2, 1) := by decide +kernel
theorem d_6_9_63 : decode prog_6_method_9_code 63 = .ok (.ldiv, 1) := by decide +kernel
theorem d_6_9_64 : decode prog_6_method_9_code 64 = .ok (.l2i, 1) := by decide +kernel
theorem d_6_9_65 : decode prog_6_method_9_code 65 = .ok (.istore 6, 2) := by decide +kernel
theorem d_6_9_67 : decode prog_6_method_9_code 67 = .ok (.aload_n 0, 1) := by decide +kernel
theorem d_6_9_68 : decode prog_6_method_9_code 68 = .ok (.getfield 25, 3) := by decide +kernel
theorem d_6_9_71 : decode prog_6_method_9_code 71 = .ok (.iload 5, 2) := by decide +kernel
theorem d_6_9_73 : decode prog_6_method_9_code 73 = .ok (.aload_n 0, 1) := by decide +kernel
theorem d_6_9_74 : decode prog_6_method_9_code 74 = .ok (.getfield 15, 3) := by decide +kernel
theorem d_6_9_77 : decode prog_6_method_9_code 77 = .ok (.iload 5, 2) := by decide +kernel
theorem d_6_9_79 : decode prog_6_method_9_code 79 = .ok (.laload, 1) := by decide +kernel
theorem d_6_9_80 : decode prog_6_method_9_code 80 = .ok (.iload_n 1, 1) := by decide +kernel
theorem d_6_9_81 : decode prog_6_method_9_code 81 = .ok (.i2l, 1) := by decide +kernel
theorem d_6_9_82 : decode prog_6_method_9_code 82 = .ok (.lmul, 1) := by decide +kernel
theorem d_6_9_83 : decode prog_6_method_9_code 83 = .ok (.lload_n 2, 1) := by decide +kernel
theorem d_6_9_84 : decode prog_6_method_9_code 84 = .ok (.lrem, 1) := by decide +kernel
theorem d_6_9_85 : decode prog_6_method_9_code 85 = .ok (.lastore, 1) := by decide +kernel
theorem d_6_9_86 : decode prog_6_method_9_code 86 = .ok (.iconst 0, 1) := by decide +kernel
theorem d_6_9_87 : decode prog_6_method_9_code 87 = .ok (.istore 7, 2) := by decide +kernel
theorem d_6_9_89 : decode prog_6_method_9_code 89 = .ok (.iload 7, 2) := by decide +kernel
theorem d_6_9_91 : decode prog_6_method_9_code 91 = .ok (.iload 6, 2) := by decide +kernel
theorem d_6_9_93 : decode prog_6_method_9_code 93 = .ok (.if_icmp .ge 15, 3) := by decide +kernel
theorem d_6_9_96 : decode prog_6_method_9_code 96 = .ok (.aload_n 0, 1) := by decide +kernel
theorem d_6_9_97 : decode prog_6_method_9_code 97 = .ok (.iload 5, 2) := by decide +kernel
theorem d_6_9_99 : decode prog_6_method_9_code 99 = .ok (.invokevirtual 46, 3) := by decide +kernel
theorem d_6_9_102 : decode prog_6_method_9_code 102 = .ok (.iinc 7 1, 3) := by decide +kernel
theorem d_6_9_105 : decode prog_6_method_9_code 105 = .ok (.goto (-16), 3) := by decide +kernel
theorem d_6_9_108 : decode prog_6_method_9_code 108 = .ok (.iload 4, 2) := by decide +kernel
theorem d_6_9_110 : decode prog_6_method_9_code 110 = .ok (.iload 6, 2) := by decide +kernel
theorem d_6_9_112 : decode prog_6_method_9_code 112 = .ok (.iadd, 1) := by decide +kernel
theorem d_6_9_113 : decode prog_6_method_9_code 113 = .ok (.istore 4, 2) := by decide +kernel
theorem d_6_9_115 : decode prog_6_method_9_code 115 = .ok (.iinc 5 1, 3) := by decide +kernel
theorem d_6_9_118 : decode prog_6_method_9_code 118 = .ok (.goto (-75), 3) := by decide +kernel
theorem d_6_9_121 : decode prog_6_method_9_code 121 = .ok (.iload 4, 2) := by decide +kernel
theorem d_6_9_123 : decode prog_6_method_9_code 123 = .ok (.istore 5, 2) := by decide +kernel
theorem d_6_9_125 : decode prog_6_method_9_code 125 = .ok (.iload 5, 2) := by decide +kernel
theorem d_6_9_127 : decode prog_6_method_9_code 127 = .ok (.iload_n 1, 1) := by decide +kernel
theorem d_6_9_128 : decode prog_6_method_9_code 128 = .ok (.if_icmp .ge 13, 3) := by decide +kernel
theorem d_6_9_131 : decode prog_6_method_9_code 131 = .ok (.aload_n 0, 1) := by decide +kernel
theorem d_6_9_132 : decode prog_6_method_9_code 132 = .ok (.invokevirtual 59, 3) := by decide +kernel
theorem d_6_9_135 : decode prog_6_method_9_code 135 = .ok (.iinc 5 1, 3) := by decide +kernel
theorem d_6_9_138 : decode prog_6_method_9_code 138 = .ok (.goto (-13), 3) := by decide +kernel
theorem d_6_9_141 : decode prog_6_method_9_code 141 = .ok (.return_, 1) := by decide +kernel
theorem d_7_1_0 : decode prog_7_method_1_code 0 = .ok (.aload_n 0, 1) := by decide +kernel
theorem d_7_1_1 : decode prog_7_method_1_code 1 = .ok (.invokespecial 3, 3) := by decide +kernel
theorem d_7_1_4 : decode prog_7_method_1_code 4 = .ok (.aload_n 0, 1) := by decide +kernel
theorem d_7_1_5 : decode prog_7_method_1_code 5 = .ok (.iconst 5, 1) := by decide +kernel
theorem d_7_1_6 : decode prog_7_method_1_code 6 = .ok (.newarray .int, 2) := by decide +kernel
theorem d_7_1_8 : decode prog_7_method_1_code 8 = .ok (.putfield 9, 3) := by decide +kernel
theorem d_7_1_11 : decode prog_7_method_1_code 11 = .ok (.aload_n 0, 1) := by decide +kernel
theorem d_7_1_12 : decode prog_7_method_1_code 12 = .ok (.aload_n 1, 1) := by decide +kernel
theorem d_7_1_13 : decode prog_7_method_1_code 13 = .ok (.putfield 15, 3) := by decide +kernel
theorem d_7_1_16 : decode prog_7_method_1_code 16 = .ok (.aload_n 0, 1) := by decide +kernel
theorem d_7_1_17 : decode prog_7_method_1_code 17 = .ok (.aload_n 2, 1) := by decide +kernel
theorem d_7_1_18 : decode prog_7_method_1_code 18 = .ok (.putfield 19, 3) := by decide +kernel
theorem d_7_1_21 : decode prog_7_method_1_code 21 = .ok (.return_, 1) := by decide +kernel
theorem d_7_2_0 : decode prog_7_method_2_code 0 = .ok (.aload_n 0, 1) := by decide +kernel
theorem d_7_2_1 : decode prog_7_method_2_code 1 = .ok (.getfield 19, 3) := by decide +kernel
theorem d_7_2_4 : decode prog_7_method_2_code 4 = .ok (.aload_n 0, 1) := by decide +kernel
theorem d_7_2_5 : decode prog_7_method_2_code 5 = .ok (.getfield 15, 3) := by decide +kernel
theorem d_7_2_8 : decode prog_7_method_2_code 8 = .ok (.invokevirtual 23, 3) := by decide +kernel
theorem d_7_2_11 : decode prog_7_method_2_code 11 = .ok (.invokevirtual 29, 3) := by decide +kernel
theorem d_7_2_14 : decode prog_7_method_2_code 14 = .ok (.aload_n 0, 1) := by decide +kernel
theorem d_7_2_15 : decode prog_7_method_2_code 15 = .ok (.getfield 19, 3) := by decide +kernel
theorem d_7_2_18 : decode prog_7_method_2_code 18 = .ok (.iload_n 1, 1) := by decide +kernel
theorem d_7_2_19 : decode prog_7_method_2_code 19 = .ok (.invokevirtual 35, 3) := by decide +kernel
theorem d_7_2_22 : decode prog_7_method_2_code 22 = .ok (.istore_n 2, 1) := by decide +kernel
theorem d_7_2_23 : decode prog_7_method_2_code 23 = .ok (.iload_n 2, 1) := by decide +kernel
theorem d_7_2_24 : decode prog_7_method_2_code 24 = .ok (.iconst (-1), 1) := by decide +kernel
theorem d_7_2_25 : decode prog_7_method_2_code 25 = .ok (.if_icmp .ne 5, 3) := by decide +kernel
theorem d_7_2_28 : decode prog_7_method_2_code 28 = .ok (.iconst (-1), 1) := by decide +kernel
theorem d_7_2_29 : decode prog_7_method_2_code 29 = .ok (.ireturn, 1) := by decide +kernel
theorem d_7_2_30 : decode prog_7_method_2_code 30 = .ok (.iconst 0, 1) := by decide +kernel
theorem d_7_2_31 : decode prog_7_method_2_code 31 = .ok (.istore_n 3, 1) := by decide +kernel
theorem d_7_2_32 : decode prog_7_method_2_code 32 = .ok (.iload_n 3, 1) := by decide +kernel
theorem d_7_2_33 : decode prog_7_method_2_code 33 = .ok (.aload_n 0, 1) := by decide +kernel
theorem d_7_2_34 : decode prog_7_method_2_code 34 = .ok (.getfield 15, 3) := by decide +kernel
theorem d_7_2_37 : decode prog_7_method_2_code 37 = .ok (.getfield 39, 3) := by decide +kernel
theorem d_7_2_40 : decode prog_7_method_2_code 40 = .ok (.if_icmp .ge 68, 3) := by decide +kernel
theorem d_7_2_43 : decode prog_7_method_2_code 43 = .ok (.aload_n 0, 1) := by decide +kernel
theorem d_7_2_44 : decode prog_7_method_2_code 44 = .ok (.getfield 15, 3) := by decide +kernel
theorem d_7_2_47 : decode prog_7_method_2_code 47 = .ok (.getfield 43, 3) := by decide +kernel
theorem d_7_2_50 : decode prog_7_method_2_code 50 = .ok (.iload_n 3, 1) := by decide +kernel
theorem d_7_2_51 : decode prog_7_method_2_code 51 = .ok (.iaload, 1) := by decide +kernel
theorem d_7_2_52 : decode prog_7_method_2_code 52 = .ok (.ifCond .le 12, 3) := by decide +kernel
theorem d_7_2_55 : decode prog_7_method_2_code 55 = .ok (.aload_n 0, 1) := by decide +kernel
theorem d_7_2_56 : decode prog_7_method_2_code 56 = .ok (.iload_n 3, 1) := by decide +kernel
theorem d_7_2_57 : decode prog_7_method_2_code 57 = .ok (.iload_n 2, 1) := by decide +kernel
theorem d_7_2_58 : decode prog_7_method_2_code 58 = .ok (.invokevirtual 46, 3) := by decide +kernel
theorem d_7_2_61 : decode prog_7_method_2_code 61 = .ok (.goto 4, 3) := by decide +kernel
theorem d_7_2_64 : decode prog_7_method_2_code 64 = .ok (.iconst 0, 1) := by decide +kernel
theorem d_7_2_65 : decode prog_7_method_2_code 65 = .ok (.istore 4, 2) := by decide +kernel
theorem d_7_2_67 : decode prog_7_method_2_code 67 = .ok (.iload 4, 2) := by decide +kernel
theorem d_7_2_69 : decode prog_7_method_2_code 69 = .ok (.ifCond .eq 33, 3) := by decide +kernel
theorem d_7_2_72 : decode prog_7_method_2_code 72 = .ok (.aload_n 0, 1) := by decide +kernel
theorem d_7_2_73 : decode prog_7_method_2_code 73 = .ok (.getfield 19, 3) := by decide +kernel
theorem d_7_2_76 : decode prog_7_method_2_code 76 = .ok (.iload_n 3, 1) := by decide +kernel
theorem d_7_2_77 : decode prog_7_method_2_code 77 = .ok (.iconst (-1), 1) := by decide +kernel
theorem d_7_2_78 : decode prog_7_method_2_code 78 = .ok (.invokevirtual 50, 3) := by decide +kernel
theorem d_7_2_81 : decode prog_7_method_2_code 81 = .ok (.aload_n 0, 1) := by decide +kernel
theorem d_7_2_82 : decode prog_7_method_2_code 82 = .ok (.iload_n 1, 1) := by decide +kernel
theorem d_7_2_83 : decode prog_7_method_2_code 83 = .ok (.iload 4, 2) := by decide +kernel
theorem d_7_2_85 : decode prog_7_method_2_code 85 = .ok (.invokevirtual 54, 3) := by decide +kernel
theorem d_7_2_88 : decode prog_7_method_2_code 88 = .ok (.ifCond .eq 5, 3) := by decide +kernel
theorem d_7_2_91 : decode prog_7_method_2_code 91 = .ok (.iload_n 3, 1) := by decide +kernel
theorem d_7_2_92 : decode prog_7_method_2_code 92 = .ok (.ireturn, 1) := by decide +kernel
theorem d_7_2_93 : decode prog_7_method_2_code 93 = .ok (.aload_n 0, 1) := by decide +kernel
theorem d_7_2_94 : decode prog_7_method_2_code 94 = .ok (.getfield 19, 3) := by decide +kernel
theorem d_7_2_97 : decode prog_7_method_2_code 97 = .ok (.iload_n 3, 1) := by decide +kernel
theorem d_7_2_98 : decode prog_7_method_2_code 98 = .ok (.iconst 1, 1) := by decide +kernel
theorem d_7_2_99 : decode prog_7_method_2_code 99 = .ok (.invokevirtual 50, 3) := by decide +kernel
theorem d_7_2_102 : decode prog_7_method_2_code 102 = .ok (.iinc 3 1, 3) := by decide +kernel
theorem d_7_2_105 : decode prog_7_method_2_code 105 = .ok (.goto (-73), 3) := by decide +kernel
theorem d_7_2_108 : decode prog_7_method_2_code 108 = .ok (.iconst (-1), 1) := by decide +kernel
theorem d_7_2_109 : decode prog_7_method_2_code 109 = .ok (.ireturn, 1) := by decide +kernel
theorem d_7_3_0 : decode prog_7_method_3_code 0 = .ok (.iconst 0, 1) := by decide +kernel
theorem d_7_3_1 : decode prog_7_method_3_code 1 = .ok (.istore_n 3, 1) := by decide +kernel
theorem d_7_3_2 : decode prog_7_method_3_code 2 = .ok (.aload_n 0, 1) := by decide +kernel
theorem d_7_3_3 : decode prog_7_method_3_code 3 = .ok (.getfield 15, 3) := by decide +kernel
theorem d_7_3_6 : decode prog_7_method_3_code 6 = .ok (.iload_n 1, 1) := by decide +kernel
theorem d_7_3_7 : decode prog_7_method_3_code 7 = .ok (.iload_n 2, 1) := by decide +kernel
theorem d_7_3_8 : decode prog_7_method_3_code 8 = .ok (.invokevirtual 58, 3) := by decide +kernel
theorem d_7_3_11 : decode prog_7_method_3_code 11 = .ok (.istore 4, 2) := by decide +kernel
theorem d_7_3_13 : decode prog_7_method_3_code 13 = .ok (.iconst 0, 1) := by decide +kernel
theorem d_7_3_14 : decode prog_7_method_3_code 14 = .ok (.istore 5, 2) := by decide +kernel
theorem d_7_3_16 : decode prog_7_method_3_code 16 = .ok (.iload 5, 2) := by decide +kernel
theorem d_7_3_18 : decode prog_7_method_3_code 18 = .ok (.iload 4, 2) := by decide +kernel
theorem d_7_3_20 : decode prog_7_method_3_code 20 = .ok (.if_icmp .ge 24, 3) := by decide +kernel
theorem d_7_3_23 : decode prog_7_method_3_code 23 = .ok (.iload_n 3, 1) := by decide +kernel
theorem d_7_3_24 : decode prog_7_method_3_code 24 = .ok (.aload_n 0, 1) := by decide +kernel
theorem d_7_3_25 : decode prog_7_method_3_code 25 = .ok (.getfield 15, 3) := by decide +kernel
theorem d_7_3_28 : decode prog_7_method_3_code 28 = .ok (.getfield 61, 3) := by decide +kernel
theorem d_7_3_31 : decode prog_7_method_3_code 31 = .ok (.iload_n 1, 1) := by decide +kernel
theorem d_7_3_32 : decode prog_7_method_3_code 32 = .ok (.aaload, 1) := by decide +kernel
theorem d_7_3_33 : decode prog_7_method_3_code 33 = .ok (.iload 5, 2) := by decide +kernel
theorem d_7_3_35 : decode prog_7_method_3_code 35 = .ok (.iaload, 1) := by decide +kernel
theorem d_7_3_36 : decode prog_7_method_3_code 36 = .ok (.ior, 1) := by decide +kernel
theorem d_7_3_37 : decode prog_7_method_3_code 37 = .ok (.istore_n 3, 1) := by decide +kernel
theorem d_7_3_38 : decode prog_7_method_3_code 38 = .ok (.iinc 5 1, 3) := by decide +kernel
theorem d_7_3_41 : decode prog_7_method_3_code 41 = .ok (.goto (-25), 3) := by decide +kernel
theorem d_7_3_44 : decode prog_7_method_3_code 44 = .ok (.iload_n 3, 1) := by decide +kernel
theorem d_7_3_45 : decode prog_7_method_3_code 45 = .ok (.ireturn, 1) := by decide +kernel
theorem d_7_4_0 : decode prog_7_method_4_code 0 = .ok (.iconst 0, 1) := by decide +kernel
theorem d_7_4_1 : decode prog_7_method_4_code 1 = .ok (.istore_n 3, 1) := by decide +kernel
theorem d_7_4_2 : decode prog_7_method_4_code 2 = .ok (.iload_n 3, 1) := by decide +kernel
theorem d_7_4_3 : decode prog_7_method_4_code 3 = .ok (.iconst 5, 1) := by decide +kernel
theorem d_7_4_4 : decode prog_7_method_4_code 4 = .ok (.if_icmp .ge 16, 3) := by decide +kernel
theorem d_7_4_7 : decode prog_7_method_4_code 7 = .ok (.aload_n 0, 1) := by decide +kernel
theorem d_7_4_8 : decode prog_7_method_4_code 8 = .ok (.getfield 9, 3) := by decide +kernel
theorem d_7_4_11 : decode prog_7_method_4_code 11 = .ok (.iload_n 3, 1) := by decide +kernel
theorem d_7_4_12 : decode prog_7_method_4_code 12 = .ok (.iload_n 3, 1) := by decide +kernel
theorem d_7_4_13 : decode prog_7_method_4_code 13 = .ok (.iastore, 1) := by decide +kernel
theorem d_7_4_14 : decode prog_7_method_4_code 14 = .ok (.iinc 3 1, 3) := by decide +kernel
theorem d_7_4_17 : decode prog_7_method_4_code 17 = .ok (.goto (-15), 3) := by decide +kernel
theorem d_7_4_20 : decode prog_7_method_4_code 20 = .ok (.getstatic 65, 3) := by decide +kernel
theorem d_7_4_23 : decode prog_7_method_4_code 23 = .ok (.aload_n 0, 1) := by decide +kernel
theorem d_7_4_24 : decode prog_7_method_4_code 24 = .ok (.getfield 15, 3) := by decide +kernel
theorem d_7_4_27 : decode prog_7_method_4_code 27 = .ok (.getfield 69, 3) := by decide +kernel
theorem d_7_4_30 : decode prog_7_method_4_code 30 = .ok (.laload, 1) := by decide +kernel
theorem d_7_4_31 : decode prog_7_method_4_code 31 = .ok (.lstore_n 3, 1) := by decide +kernel
theorem d_7_4_32 : decode prog_7_method_4_code 32 = .ok (.iconst 0, 1) := by decide +kernel
theorem d_7_4_33 : decode prog_7_method_4_code 33 = .ok (.istore 5, 2) := by decide +kernel
theorem d_7_4_35 : decode prog_7_method_4_code 35 = .ok (.iload 5, 2) := by decide +kernel
theorem d_7_4_37 : decode prog_7_method_4_code 37 = .ok (.i2l, 1) := by decide +kernel
theorem d_7_4_38 : decode prog_7_method_4_code 38 = .ok (.lload_n 3, 1) := by decide +kernel
theorem d_7_4_39 : decode prog_7_method_4_code 39 = .ok (.lcmp, 1) := by decide +kernel
theorem d_7_4_40 : decode prog_7_method_4_code 40 = .ok (.ifCond .ge 64, 3) := by decide +kernel
theorem d_7_4_43 : decode prog_7_method_4_code 43 = .ok (.aload_n 0, 1) := by decide +kernel
theorem d_7_4_44 : decode prog_7_method_4_code 44 = .ok (.invokevirtual 72, 3) := by decide +kernel
theorem d_7_4_47 : decode prog_7_method_4_code 47 = .ok (.aload_n 0, 1) := by decide +kernel
theorem d_7_4_48 : decode prog_7_method_4_code 48 = .ok (.getfield 19, 3) := by decide +kernel
theorem d_7_4_51 : decode prog_7_method_4_code 51 = .ok (.bipush 30, 2) := by decide +kernel
theorem d_7_4_53 : decode prog_7_method_4_code 53 = .ok (.iconst 1, 1) := by decide +kernel
theorem d_7_4_54 : decode prog_7_method_4_code 54 = .ok (.invokevirtual 50, 3) := by decide +kernel
theorem d_7_4_57 : decode prog_7_method_4_code 57 = .ok (.aload_n 0, 1) := by decide +kernel
