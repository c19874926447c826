theorem d_2_6_195 : decode prog_2_method_6_code 195 = .ok (.goto 4, 3) := by decide +kernel
theorem d_2_6_198 : decode prog_2_method_6_code 198 = .ok (.iload_n 2, 1) := by decide +kernel
theorem d_2_6_199 : decode prog_2_method_6_code 199 = .ok (.iastore, 1) := by decide +kernel
theorem d_2_6_200 : decode prog_2_method_6_code 200 = .ok (.iconst (-1), 1) := by decide +kernel
theorem d_2_6_201 : decode prog_2_method_6_code 201 = .ok (.ireturn, 1) := by decide +kernel
theorem d_2_7_0 : decode prog_2_method_7_code 0 = .ok (.aload_n 0, 1) := by decide +kernel
theorem d_2_7_1 : decode prog_2_method_7_code 1 = .ok (.getfield 24, 3) := by decide +kernel
theorem d_2_7_4 : decode prog_2_method_7_code 4 = .ok (.bipush 30, 2) := by decide +kernel
theorem d_2_7_6 : decode prog_2_method_7_code 6 = .ok (.iconst 0, 1) := by decide +kernel
theorem d_2_7_7 : decode prog_2_method_7_code 7 = .ok (.iastore, 1) := by decide +kernel
theorem d_2_7_8 : decode prog_2_method_7_code 8 = .ok (.aload_n 0, 1) := by decide +kernel
theorem d_2_7_9 : decode prog_2_method_7_code 9 = .ok (.getfield 21, 3) := by decide +kernel
theorem d_2_7_12 : decode prog_2_method_7_code 12 = .ok (.bipush 30, 2) := by decide +kernel
theorem d_2_7_14 : decode prog_2_method_7_code 14 = .ok (.iconst 0, 1) := by decide +kernel
theorem d_2_7_15 : decode prog_2_method_7_code 15 = .ok (.iastore, 1) := by decide +kernel
theorem d_2_7_16 : decode prog_2_method_7_code 16 = .ok (.aload_n 0, 1) := by decide +kernel
theorem d_2_7_17 : decode prog_2_method_7_code 17 = .ok (.getfield 29, 3) := by decide +kernel
theorem d_2_7_20 : decode prog_2_method_7_code 20 = .ok (.bipush 30, 2) := by decide +kernel
theorem d_2_7_22 : decode prog_2_method_7_code 22 = .ok (.aaload, 1) := by decide +kernel
theorem d_2_7_23 : decode prog_2_method_7_code 23 = .ok (.iconst 0, 1) := by decide +kernel
theorem d_2_7_24 : decode prog_2_method_7_code 24 = .ok (.invokestatic 53, 3) := by decide +kernel
theorem d_2_7_27 : decode prog_2_method_7_code 27 = .ok (.return_, 1) := by decide +kernel
theorem d_2_8_0 : decode prog_2_method_8_code 0 = .ok (.iload_n 2, 1) := by decide +kernel
theorem d_2_8_1 : decode prog_2_method_8_code 1 = .ok (.ifCond .eq 26, 3) := by decide +kernel
theorem d_2_8_4 : decode prog_2_method_8_code 4 = .ok (.aload_n 0, 1) := by decide +kernel
theorem d_2_8_5 : decode prog_2_method_8_code 5 = .ok (.getfield 24, 3) := by decide +kernel
theorem d_2_8_8 : decode prog_2_method_8_code 8 = .ok (.bipush 30, 2) := by decide +kernel
theorem d_2_8_10 : decode prog_2_method_8_code 10 = .ok (.iaload, 1) := by decide +kernel
theorem d_2_8_11 : decode prog_2_method_8_code 11 = .ok (.bipush 8, 2) := by decide +kernel
theorem d_2_8_13 : decode prog_2_method_8_code 13 = .ok (.if_icmp .ge 14, 3) := by decide +kernel
theorem d_2_8_16 : decode prog_2_method_8_code 16 = .ok (.aload_n 0, 1) := by decide +kernel
theorem d_2_8_17 : decode prog_2_method_8_code 17 = .ok (.getfield 24, 3) := by decide +kernel
theorem d_2_8_20 : decode prog_2_method_8_code 20 = .ok (.bipush 30, 2) := by decide +kernel
theorem d_2_8_22 : decode prog_2_method_8_code 22 = .ok (.dup2, 1) := by decide +kernel
theorem d_2_8_23 : decode prog_2_method_8_code 23 = .ok (.iaload, 1) := by decide +kernel
theorem d_2_8_24 : decode prog_2_method_8_code 24 = .ok (.iconst 1, 1) := by decide +kernel
theorem d_2_8_25 : decode prog_2_method_8_code 25 = .ok (.iadd, 1) := by decide +kernel
theorem d_2_8_26 : decode prog_2_method_8_code 26 = .ok (.iastore, 1) := by decide +kernel
theorem d_2_8_27 : decode prog_2_method_8_code 27 = .ok (.aload_n 0, 1) := by decide +kernel
theorem d_2_8_28 : decode prog_2_method_8_code 28 = .ok (.getfield 24, 3) := by decide +kernel
theorem d_2_8_31 : decode prog_2_method_8_code 31 = .ok (.bipush 30, 2) := by decide +kernel
theorem d_2_8_33 : decode prog_2_method_8_code 33 = .ok (.iaload, 1) := by decide +kernel
theorem d_2_8_34 : decode prog_2_method_8_code 34 = .ok (.iconst 1, 1) := by decide +kernel
theorem d_2_8_35 : decode prog_2_method_8_code 35 = .ok (.isub, 1) := by decide +kernel
theorem d_2_8_36 : decode prog_2_method_8_code 36 = .ok (.iconst 0, 1) := by decide +kernel
theorem d_2_8_37 : decode prog_2_method_8_code 37 = .ok (.invokestatic 59, 3) := by decide +kernel
theorem d_2_8_40 : decode prog_2_method_8_code 40 = .ok (.istore_n 3, 1) := by decide +kernel
theorem d_2_8_41 : decode prog_2_method_8_code 41 = .ok (.aload_n 0, 1) := by decide +kernel
theorem d_2_8_42 : decode prog_2_method_8_code 42 = .ok (.getfield 29, 3) := by decide +kernel
theorem d_2_8_45 : decode prog_2_method_8_code 45 = .ok (.bipush 30, 2) := by decide +kernel
theorem d_2_8_47 : decode prog_2_method_8_code 47 = .ok (.aaload, 1) := by decide +kernel
theorem d_2_8_48 : decode prog_2_method_8_code 48 = .ok (.iload_n 3, 1) := by decide +kernel
theorem d_2_8_49 : decode prog_2_method_8_code 49 = .ok (.dup2, 1) := by decide +kernel
theorem d_2_8_50 : decode prog_2_method_8_code 50 = .ok (.iaload, 1) := by decide +kernel
theorem d_2_8_51 : decode prog_2_method_8_code 51 = .ok (.iconst 1, 1) := by decide +kernel
theorem d_2_8_52 : decode prog_2_method_8_code 52 = .ok (.iload_n 1, 1) := by decide +kernel
theorem d_2_8_53 : decode prog_2_method_8_code 53 = .ok (.ishl, 1) := by decide +kernel
theorem d_2_8_54 : decode prog_2_method_8_code 54 = .ok (.ior, 1) := by decide +kernel
theorem d_2_8_55 : decode prog_2_method_8_code 55 = .ok (.iastore, 1) := by decide +kernel
theorem d_2_8_56 : decode prog_2_method_8_code 56 = .ok (.return_, 1) := by decide +kernel
theorem d_2_9_0 : decode prog_2_method_9_code 0 = .ok (.iconst 0, 1) := by decide +kernel
theorem d_2_9_1 : decode prog_2_method_9_code 1 = .ok (.istore_n 1, 1) := by decide +kernel
theorem d_2_9_2 : decode prog_2_method_9_code 2 = .ok (.iload_n 1, 1) := by decide +kernel
theorem d_2_9_3 : decode prog_2_method_9_code 3 = .ok (.aload_n 0, 1) := by decide +kernel
theorem d_2_9_4 : decode prog_2_method_9_code 4 = .ok (.getfield 65, 3) := by decide +kernel
theorem d_2_9_7 : decode prog_2_method_9_code 7 = .ok (.if_icmp .ge 19, 3) := by decide +kernel
theorem d_2_9_10 : decode prog_2_method_9_code 10 = .ok (.aload_n 0, 1) := by decide +kernel
theorem d_2_9_11 : decode prog_2_method_9_code 11 = .ok (.iload_n 1, 1) := by decide +kernel
theorem d_2_9_12 : decode prog_2_method_9_code 12 = .ok (.invokevirtual 68, 3) := by decide +kernel
theorem d_2_9_15 : decode prog_2_method_9_code 15 = .ok (.ifCond .eq 5, 3) := by decide +kernel
theorem d_2_9_18 : decode prog_2_method_9_code 18 = .ok (.iload_n 1, 1) := by decide +kernel
theorem d_2_9_19 : decode prog_2_method_9_code 19 = .ok (.ireturn, 1) := by decide +kernel
theorem d_2_9_20 : decode prog_2_method_9_code 20 = .ok (.iinc 1 1, 3) := by decide +kernel
theorem d_2_9_23 : decode prog_2_method_9_code 23 = .ok (.goto (-21), 3) := by decide +kernel
theorem d_2_9_26 : decode prog_2_method_9_code 26 = .ok (.iconst (-1), 1) := by decide +kernel
theorem d_2_9_27 : decode prog_2_method_9_code 27 = .ok (.ireturn, 1) := by decide +kernel
theorem d_32_49_0 : decode prog_32_method_49_code 0 = .ok (.iload_n 0, 1) := by decide +kernel
theorem d_32_49_1 : decode prog_32_method_49_code 1 = .ok (.iload_n 0, 1) := by decide +kernel
theorem d_32_49_2 : decode prog_32_method_49_code 2 = .ok (.iconst 1, 1) := by decide +kernel
theorem d_32_49_3 : decode prog_32_method_49_code 3 = .ok (.iushr, 1) := by decide +kernel
theorem d_32_49_4 : decode prog_32_method_49_code 4 = .ok (.ldc_w 265, 3) := by decide +kernel
theorem d_32_49_7 : decode prog_32_method_49_code 7 = .ok (.iand, 1) := by decide +kernel
theorem d_32_49_8 : decode prog_32_method_49_code 8 = .ok (.isub, 1) := by decide +kernel
theorem d_32_49_9 : decode prog_32_method_49_code 9 = .ok (.istore_n 0, 1) := by decide +kernel
theorem d_32_49_10 : decode prog_32_method_49_code 10 = .ok (.iload_n 0, 1) := by decide +kernel
theorem d_32_49_11 : decode prog_32_method_49_code 11 = .ok (.ldc_w 266, 3) := by decide +kernel
theorem d_32_49_14 : decode prog_32_method_49_code 14 = .ok (.iand, 1) := by decide +kernel
theorem d_32_49_15 : decode prog_32_method_49_code 15 = .ok (.iload_n 0, 1) := by decide +kernel
theorem d_32_49_16 : decode prog_32_method_49_code 16 = .ok (.iconst 2, 1) := by decide +kernel
theorem d_32_49_17 : decode prog_32_method_49_code 17 = .ok (.iushr, 1) := by decide +kernel
theorem d_32_49_18 : decode prog_32_method_49_code 18 = .ok (.ldc_w 266, 3) := by decide +kernel
theorem d_32_49_21 : decode prog_32_method_49_code 21 = .ok (.iand, 1) := by decide +kernel
theorem d_32_49_22 : decode prog_32_method_49_code 22 = .ok (.iadd, 1) := by decide +kernel
theorem d_32_49_23 : decode prog_32_method_49_code 23 = .ok (.istore_n 0, 1) := by decide +kernel
theorem d_32_49_24 : decode prog_32_method_49_code 24 = .ok (.iload_n 0, 1) := by decide +kernel
theorem d_32_49_25 : decode prog_32_method_49_code 25 = .ok (.iload_n 0, 1) := by decide +kernel
theorem d_32_49_26 : decode prog_32_method_49_code 26 = .ok (.iconst 4, 1) := by decide +kernel
theorem d_32_49_27 : decode prog_32_method_49_code 27 = .ok (.iushr, 1) := by decide +kernel
theorem d_32_49_28 : decode prog_32_method_49_code 28 = .ok (.iadd, 1) := by decide +kernel
theorem d_32_49_29 : decode prog_32_method_49_code 29 = .ok (.ldc_w 267, 3) := by decide +kernel
theorem d_32_49_32 : decode prog_32_method_49_code 32 = .ok (.iand, 1) := by decide +kernel
theorem d_32_49_33 : decode prog_32_method_49_code 33 = .ok (.istore_n 0, 1) := by decide +kernel
theorem d_32_49_34 : decode prog_32_method_49_code 34 = .ok (.iload_n 0, 1) := by decide +kernel
theorem d_32_49_35 : decode prog_32_method_49_code 35 = .ok (.iload_n 0, 1) := by decide +kernel
theorem d_32_49_36 : decode prog_32_method_49_code 36 = .ok (.bipush 8, 2) := by decide +kernel
theorem d_32_49_38 : decode prog_32_method_49_code 38 = .ok (.iushr, 1) := by decide +kernel
theorem d_32_49_39 : decode prog_32_method_49_code 39 = .ok (.iadd, 1) := by decide +kernel
theorem d_32_49_40 : decode prog_32_method_49_code 40 = .ok (.istore_n 0, 1) := by decide +kernel
theorem d_32_49_41 : decode prog_32_method_49_code 41 = .ok (.iload_n 0, 1) := by decide +kernel
theorem d_32_49_42 : decode prog_32_method_49_code 42 = .ok (.iload_n 0, 1) := by decide +kernel
theorem d_32_49_43 : decode prog_32_method_49_code 43 = .ok (.bipush 16, 2) := by decide +kernel
theorem d_32_49_45 : decode prog_32_method_49_code 45 = .ok (.iushr, 1) := by decide +kernel
theorem d_32_49_46 : decode prog_32_method_49_code 46 = .ok (.iadd, 1) := by decide +kernel
theorem d_32_49_47 : decode prog_32_method_49_code 47 = .ok (.istore_n 0, 1) := by decide +kernel
theorem d_32_49_48 : decode prog_32_method_49_code 48 = .ok (.iload_n 0, 1) := by decide +kernel
theorem d_32_49_49 : decode prog_32_method_49_code 49 = .ok (.bipush 63, 2) := by decide +kernel
theorem d_32_49_51 : decode prog_32_method_49_code 51 = .ok (.iand, 1) := by decide +kernel
theorem d_32_49_52 : decode prog_32_method_49_code 52 = .ok (.ireturn, 1) := by decide +kernel
theorem d_3_2_0 : decode prog_3_method_2_code 0 = .ok (.aload_n 0, 1) := by decide +kernel
theorem d_3_2_1 : decode prog_3_method_2_code 1 = .ok (.getfield 22, 3) := by decide +kernel
theorem d_3_2_4 : decode prog_3_method_2_code 4 = .ok (.istore_n 2, 1) := by decide +kernel
theorem d_3_2_5 : decode prog_3_method_2_code 5 = .ok (.aload_n 0, 1) := by decide +kernel
theorem d_3_2_6 : decode prog_3_method_2_code 6 = .ok (.getfield 15, 3) := by decide +kernel
theorem d_3_2_9 : decode prog_3_method_2_code 9 = .ok (.iload_n 2, 1) := by decide +kernel
theorem d_3_2_10 : decode prog_3_method_2_code 10 = .ok (.iload_n 1, 1) := by decide +kernel
theorem d_3_2_11 : decode prog_3_method_2_code 11 = .ok (.iastore, 1) := by decide +kernel
theorem d_3_2_12 : decode prog_3_method_2_code 12 = .ok (.aload_n 0, 1) := by decide +kernel
theorem d_3_2_13 : decode prog_3_method_2_code 13 = .ok (.dup, 1) := by decide +kernel
theorem d_3_2_14 : decode prog_3_method_2_code 14 = .ok (.getfield 22, 3) := by decide +kernel
theorem d_3_2_17 : decode prog_3_method_2_code 17 = .ok (.iconst 1, 1) := by decide +kernel
theorem d_3_2_18 : decode prog_3_method_2_code 18 = .ok (.iadd, 1) := by decide +kernel
theorem d_3_2_19 : decode prog_3_method_2_code 19 = .ok (.putfield 22, 3) := by decide +kernel
theorem d_3_2_22 : decode prog_3_method_2_code 22 = .ok (.iload_n 2, 1) := by decide +kernel
theorem d_3_2_23 : decode prog_3_method_2_code 23 = .ok (.ireturn, 1) := by decide +kernel
theorem d_3_3_0 : decode prog_3_method_3_code 0 = .ok (.iconst 0, 1) := by decide +kernel
theorem d_3_3_1 : decode prog_3_method_3_code 1 = .ok (.istore_n 1, 1) := by decide +kernel
theorem d_3_3_2 : decode prog_3_method_3_code 2 = .ok (.iload_n 1, 1) := by decide +kernel
theorem d_3_3_3 : decode prog_3_method_3_code 3 = .ok (.aload_n 0, 1) := by decide +kernel
theorem d_3_3_4 : decode prog_3_method_3_code 4 = .ok (.getfield 22, 3) := by decide +kernel
theorem d_3_3_7 : decode prog_3_method_3_code 7 = .ok (.if_icmp .ge 47, 3) := by decide +kernel
theorem d_3_3_10 : decode prog_3_method_3_code 10 = .ok (.iconst 0, 1) := by decide +kernel
theorem d_3_3_11 : decode prog_3_method_3_code 11 = .ok (.istore_n 2, 1) := by decide +kernel
theorem d_3_3_12 : decode prog_3_method_3_code 12 = .ok (.iload_n 2, 1) := by decide +kernel
theorem d_3_3_13 : decode prog_3_method_3_code 13 = .ok (.iconst 1, 1) := by decide +kernel
theorem d_3_3_14 : decode prog_3_method_3_code 14 = .ok (.iload_n 1, 1) := by decide +kernel
theorem d_3_3_15 : decode prog_3_method_3_code 15 = .ok (.ishl, 1) := by decide +kernel
theorem d_3_3_16 : decode prog_3_method_3_code 16 = .ok (.if_icmp .ge 32, 3) := by decide +kernel
theorem d_3_3_19 : decode prog_3_method_3_code 19 = .ok (.aload_n 0, 1) := by decide +kernel
theorem d_3_3_20 : decode prog_3_method_3_code 20 = .ok (.getfield 19, 3) := by decide +kernel
theorem d_3_3_23 : decode prog_3_method_3_code 23 = .ok (.iload_n 2, 1) := by decide +kernel
theorem d_3_3_24 : decode prog_3_method_3_code 24 = .ok (.iconst 1, 1) := by decide +kernel
theorem d_3_3_25 : decode prog_3_method_3_code 25 = .ok (.iload_n 1, 1) := by decide +kernel
theorem d_3_3_26 : decode prog_3_method_3_code 26 = .ok (.ishl, 1) := by decide +kernel
theorem d_3_3_27 : decode prog_3_method_3_code 27 = .ok (.ior, 1) := by decide +kernel
theorem d_3_3_28 : decode prog_3_method_3_code 28 = .ok (.aload_n 0, 1) := by decide +kernel
theorem d_3_3_29 : decode prog_3_method_3_code 29 = .ok (.getfield 19, 3) := by decide +kernel
theorem d_3_3_32 : decode prog_3_method_3_code 32 = .ok (.iload_n 2, 1) := by decide +kernel
theorem d_3_3_33 : decode prog_3_method_3_code 33 = .ok (.iaload, 1) := by decide +kernel
theorem d_3_3_34 : decode prog_3_method_3_code 34 = .ok (.aload_n 0, 1) := by decide +kernel
theorem d_3_3_35 : decode prog_3_method_3_code 35 = .ok (.getfield 15, 3) := by decide +kernel
theorem d_3_3_38 : decode prog_3_method_3_code 38 = .ok (.iload_n 1, 1) := by decide +kernel
theorem d_3_3_39 : decode prog_3_method_3_code 39 = .ok (.iaload, 1) := by decide +kernel
theorem d_3_3_40 : decode prog_3_method_3_code 40 = .ok (.iadd, 1) := by decide +kernel
theorem d_3_3_41 : decode prog_3_method_3_code 41 = .ok (.iastore, 1) := by decide +kernel
theorem d_3_3_42 : decode prog_3_method_3_code 42 = .ok (.iinc 2 1, 3) := by decide +kernel
theorem d_3_3_45 : decode prog_3_method_3_code 45 = .ok (.goto (-33), 3) := by decide +kernel
theorem d_3_3_48 : decode prog_3_method_3_code 48 = .ok (.iinc 1 1, 3) := by decide +kernel
theorem d_3_3_51 : decode prog_3_method_3_code 51 = .ok (.goto (-49), 3) := by decide +kernel
theorem d_3_3_54 : decode prog_3_method_3_code 54 = .ok (.return_, 1) := by decide +kernel
theorem d_3_4_0 : decode prog_3_method_4_code 0 = .ok (.aload_n 0, 1) := by decide +kernel
theorem d_3_4_1 : decode prog_3_method_4_code 1 = .ok (.getfield 19, 3) := by decide +kernel
theorem d_3_4_4 : decode prog_3_method_4_code 4 = .ok (.iload_n 1, 1) := by decide +kernel
theorem d_3_4_5 : decode prog_3_method_4_code 5 = .ok (.iaload, 1) := by decide +kernel
theorem d_3_4_6 : decode prog_3_method_4_code 6 = .ok (.aload_n 0, 1) := by decide +kernel
theorem d_3_4_7 : decode prog_3_method_4_code 7 = .ok (.getfield 9, 3) := by decide +kernel
theorem d_3_4_10 : decode prog_3_method_4_code 10 = .ok (.if_icmp .ge 35, 3) := by decide +kernel
theorem d_3_4_13 : decode prog_3_method_4_code 13 = .ok (.aload_n 0, 1) := by decide +kernel
theorem d_3_4_14 : decode prog_3_method_4_code 14 = .ok (.getfield 19, 3) := by decide +kernel
theorem d_3_4_17 : decode prog_3_method_4_code 17 = .ok (.iload_n 1, 1) := by decide +kernel
theorem d_3_4_18 : decode prog_3_method_4_code 18 = .ok (.iaload, 1) := by decide +kernel
theorem d_3_4_19 : decode prog_3_method_4_code 19 = .ok (.aload_n 0, 1) := by decide +kernel
theorem d_3_4_20 : decode prog_3_method_4_code 20 = .ok (.getfield 15, 3) := by decide +kernel
theorem d_3_4_23 : decode prog_3_method_4_code 23 = .ok (.iload_n 2, 1) := by decide +kernel
theorem d_3_4_24 : decode prog_3_method_4_code 24 = .ok (.iaload, 1) := by decide +kernel
theorem d_3_4_25 : decode prog_3_method_4_code 25 = .ok (.iadd, 1) := by decide +kernel
theorem d_3_4_26 : decode prog_3_method_4_code 26 = .ok (.aload_n 0, 1) := by decide +kernel
theorem d_3_4_27 : decode prog_3_method_4_code 27 = .ok (.getfield 9, 3) := by decide +kernel
theorem d_3_4_30 : decode prog_3_method_4_code 30 = .ok (.if_icmp .lt 15, 3) := by decide +kernel
theorem d_3_4_33 : decode prog_3_method_4_code 33 = .ok (.iload_n 1, 1) := by decide +kernel
theorem d_3_4_34 : decode prog_3_method_4_code 34 = .ok (.iload_n 2, 1) := by decide +kernel
theorem d_3_4_35 : decode prog_3_method_4_code 35 = .ok (.invokestatic 25, 3) := by decide +kernel
theorem d_3_4_38 : decode prog_3_method_4_code 38 = .ok (.ifCond .ne 7, 3) := by decide +kernel
theorem d_3_4_41 : decode prog_3_method_4_code 41 = .ok (.iconst 1, 1) := by decide +kernel
theorem d_3_4_42 : decode prog_3_method_4_code 42 = .ok (.goto 4, 3) := by decide +kernel
theorem d_3_4_45 : decode prog_3_method_4_code 45 = .ok (.iconst 0, 1) := by decide +kernel
theorem d_3_4_46 : decode prog_3_method_4_code 46 = .ok (.ireturn, 1) := by decide +kernel
theorem d_3_5_0 : decode prog_3_method_5_code 0 = .ok (.iconst 0, 1) := by decide +kernel
theorem d_3_5_1 : decode prog_3_method_5_code 1 = .ok (.istore_n 2, 1) := by decide +kernel
theorem d_3_5_2 : decode prog_3_method_5_code 2 = .ok (.iconst 0, 1) := by decide +kernel
theorem d_3_5_3 : decode prog_3_method_5_code 3 = .ok (.istore_n 3, 1) := by decide +kernel
theorem d_3_5_4 : decode prog_3_method_5_code 4 = .ok (.iload_n 3, 1) := by decide +kernel
theorem d_3_5_5 : decode prog_3_method_5_code 5 = .ok (.iconst 1, 1) := by decide +kernel
theorem d_3_5_6 : decode prog_3_method_5_code 6 = .ok (.aload_n 0, 1) := by decide +kernel
theorem d_3_5_7 : decode prog_3_method_5_code 7 = .ok (.getfield 22, 3) := by decide +kernel
theorem d_3_5_10 : decode prog_3_method_5_code 10 = .ok (.ishl, 1) := by decide +kernel
theorem d_3_5_11 : decode prog_3_method_5_code 11 = .ok (.if_icmp .ge 21, 3) := by decide +kernel
theorem d_3_5_14 : decode prog_3_method_5_code 14 = .ok (.aload_n 0, 1) := by decide +kernel
theorem d_3_5_15 : decode prog_3_method_5_code 15 = .ok (.iload_n 3, 1) := by decide +kernel
theorem d_3_5_16 : decode prog_3_method_5_code 16 = .ok (.iload_n 1, 1) := by decide +kernel
theorem d_3_5_17 : decode prog_3_method_5_code 17 = .ok (.invokevirtual 29, 3) := by decide +kernel
theorem d_3_5_20 : decode prog_3_method_5_code 20 = .ok (.ifCond .eq 6, 3) := by decide +kernel
theorem d_3_5_23 : decode prog_3_method_5_code 23 = .ok (.iinc 2 1, 3) := by decide +kernel
theorem d_3_5_26 : decode prog_3_method_5_code 26 = .ok (.iinc 3 1, 3) := by decide +kernel
theorem d_3_5_29 : decode prog_3_method_5_code 29 = .ok (.goto (-25), 3) := by decide +kernel
theorem d_3_5_32 : decode prog_3_method_5_code 32 = .ok (.iload_n 2, 1) := by decide +kernel
theorem d_3_5_33 : decode prog_3_method_5_code 33 = .ok (.ireturn, 1) := by decide +kernel
theorem d_3_6_0 : decode prog_3_method_6_code 0 = .ok (.lconst 0, 1) := by decide +kernel
theorem d_3_6_1 : decode prog_3_method_6_code 1 = .ok (.lstore_n 2, 1) := by decide +kernel
theorem d_3_6_2 : decode prog_3_method_6_code 2 = .ok (.iconst 0, 1) := by decide +kernel
theorem d_3_6_3 : decode prog_3_method_6_code 3 = .ok (.istore 4, 2) := by decide +kernel
theorem d_3_6_5 : decode prog_3_method_6_code 5 = .ok (.iload 4, 2) := by decide +kernel
theorem d_3_6_7 : decode prog_3_method_6_code 7 = .ok (.iconst 1, 1) := by decide +kernel
theorem d_3_6_8 : decode prog_3_method_6_code 8 = .ok (.aload_n 0, 1) := by decide +kernel
theorem d_3_6_9 : decode prog_3_method_6_code 9 = .ok (.getfield 22, 3) := by decide +kernel
theorem d_3_6_12 : decode prog_3_method_6_code 12 = .ok (.ishl, 1) := by decide +kernel
theorem d_3_6_13 : decode prog_3_method_6_code 13 = .ok (.if_icmp .ge 49, 3) := by decide +kernel
theorem d_3_6_16 : decode prog_3_method_6_code 16 = .ok (.aload_n 0, 1) := by decide +kernel
theorem d_3_6_17 : decode prog_3_method_6_code 17 = .ok (.iload 4, 2) := by decide +kernel
theorem d_3_6_19 : decode prog_3_method_6_code 19 = .ok (.iload_n 1, 1) := by decide +kernel
theorem d_3_6_20 : decode prog_3_method_6_code 20 = .ok (.invokevirtual 29, 3) := by decide +kernel
theorem d_3_6_23 : decode prog_3_method_6_code 23 = .ok (.ifCond .eq 33, 3) := by decide +kernel
theorem d_3_6_26 : decode prog_3_method_6_code 26 = .ok (.iload 4, 2) := by decide +kernel
theorem d_3_6_28 : decode prog_3_method_6_code 28 = .ok (.invokestatic 32, 3) := by decide +kernel
theorem d_3_6_31 : decode prog_3_method_6_code 31 = .ok (.istore 5, 2) := by decide +kernel
theorem d_3_6_33 : decode prog_3_method_6_code 33 = .ok (.lload_n 2, 1) := by decide +kernel
theorem d_3_6_34 : decode prog_3_method_6_code 34 = .ok (.getstatic 38, 3) := by decide +kernel
theorem d_3_6_37 : decode prog_3_method_6_code 37 = .ok (.iload 5, 2) := by decide +kernel
theorem d_3_6_39 : decode prog_3_method_6_code 39 = .ok (.laload, 1) := by decide +kernel
theorem d_3_6_40 : decode prog_3_method_6_code 40 = .ok (.getstatic 38, 3) := by decide +kernel
theorem d_3_6_43 : decode prog_3_method_6_code 43 = .ok (.aload_n 0, 1) := by decide +kernel
theorem d_3_6_44 : decode prog_3_method_6_code 44 = .ok (.getfield 22, 3) := by decide +kernel
theorem d_3_6_47 : decode prog_3_method_6_code 47 = .ok (.iconst 1, 1) := by decide +kernel
theorem d_3_6_48 : decode prog_3_method_6_code 48 = .ok (.isub, 1) := by decide +kernel
theorem d_3_6_49 : decode prog_3_method_6_code 49 = .ok (.iload 5, 2) := by decide +kernel
theorem d_3_6_51 : decode prog_3_method_6_code 51 = .ok (.isub, 1) := by decide +kernel
theorem d_3_6_52 : decode prog_3_method_6_code 52 = .ok (.laload, 1) := by decide +kernel
theorem d_3_6_53 : decode prog_3_method_6_code 53 = .ok (.lmul, 1) := by decide +kernel
theorem d_3_6_54 : decode prog_3_method_6_code 54 = .ok (.ladd, 1) := by decide +kernel
theorem d_3_6_55 : decode prog_3_method_6_code 55 = .ok (.lstore_n 2, 1) := by decide +kernel
theorem d_3_6_56 : decode prog_3_method_6_code 56 = .ok (.iinc 4 1, 3) := by decide +kernel
theorem d_3_6_59 : decode prog_3_method_6_code 59 = .ok (.goto (-54), 3) := by decide +kernel
theorem d_3_6_62 : decode prog_3_method_6_code 62 = .ok (.lload_n 2, 1) := by decide +kernel
theorem d_3_6_63 : decode prog_3_method_6_code 63 = .ok (.lreturn, 1) := by decide +kernel
theorem d_3_7_0 : decode prog_3_method_7_code 0 = .ok (.aload_n 0, 1) := by decide +kernel
theorem d_3_7_1 : decode prog_3_method_7_code 1 = .ok (.invokevirtual 42, 3) := by decide +kernel
theorem d_3_7_4 : decode prog_3_method_7_code 4 = .ok (.lconst 0, 1) := by decide +kernel
theorem d_3_7_5 : decode prog_3_method_7_code 5 = .ok (.lstore_n 1, 1) := by decide +kernel
theorem d_3_7_6 : decode prog_3_method_7_code 6 = .ok (.iconst 0, 1) := by decide +kernel
theorem d_3_7_7 : decode prog_3_method_7_code 7 = .ok (.istore_n 3, 1) := by decide +kernel
theorem d_3_7_8 : decode prog_3_method_7_code 8 = .ok (.iload_n 3, 1) := by decide +kernel
theorem d_3_7_9 : decode prog_3_method_7_code 9 = .ok (.aload_n 0, 1) := by decide +kernel
theorem d_3_7_10 : decode prog_3_method_7_code 10 = .ok (.getfield 22, 3) := by decide +kernel
theorem d_3_7_13 : decode prog_3_method_7_code 13 = .ok (.if_icmp .ge 17, 3) := by decide +kernel
theorem d_3_7_16 : decode prog_3_method_7_code 16 = .ok (.lload_n 1, 1) := by decide +kernel
theorem d_3_7_17 : decode prog_3_method_7_code 17 = .ok (.aload_n 0, 1) := by decide +kernel
theorem d_3_7_18 : decode prog_3_method_7_code 18 = .ok (.iload_n 3, 1) := by decide +kernel
theorem d_3_7_19 : decode prog_3_method_7_code 19 = .ok (.invokevirtual 45, 3) := by decide +kernel
theorem d_3_7_22 : decode prog_3_method_7_code 22 = .ok (.ladd, 1) := by decide +kernel
theorem d_3_7_23 : decode prog_3_method_7_code 23 = .ok (.lstore_n 1, 1) := by decide +kernel
theorem d_3_7_24 : decode prog_3_method_7_code 24 = .ok (.iinc 3 1, 3) := by decide +kernel
theorem d_3_7_27 : decode prog_3_method_7_code 27 = .ok (.goto (-19), 3) := by decide +kernel
theorem d_3_7_30 : decode prog_3_method_7_code 30 = .ok (.lload_n 1, 1) := by decide +kernel
theorem d_3_7_31 : decode prog_3_method_7_code 31 = .ok (.lconst 0, 1) := by decide +kernel
theorem d_3_7_32 : decode prog_3_method_7_code 32 = .ok (.lcmp, 1) := by decide +kernel
theorem d_3_7_33 : decode prog_3_method_7_code 33 = .ok (.ifCond .eq 20, 3) := by decide +kernel
theorem d_3_7_36 : decode prog_3_method_7_code 36 = .ok (.lload_n 1, 1) := by decide +kernel
theorem d_3_7_37 : decode prog_3_method_7_code 37 = .ok (.getstatic 38, 3) := by decide +kernel
theorem d_3_7_40 : decode prog_3_method_7_code 40 = .ok (.aload_n 0, 1) := by decide +kernel
theorem d_3_7_41 : decode prog_3_method_7_code 41 = .ok (.getfield 22, 3) := by decide +kernel
theorem d_3_7_44 : decode prog_3_method_7_code 44 = .ok (.laload, 1) := by decide +kernel
theorem d_3_7_45 : decode prog_3_method_7_code 45 = .ok (.lcmp, 1) := by decide +kernel
theorem d_3_7_46 : decode prog_3_method_7_code 46 = .ok (.ifCond .eq 7, 3) := by decide +kernel
theorem d_3_7_49 : decode prog_3_method_7_code 49 = .ok (.iconst 1, 1) := by decide +kernel
theorem d_3_7_50 : decode prog_3_method_7_code 50 = .ok (.goto 4, 3) := by decide +kernel
theorem d_3_7_53 : decode prog_3_method_7_code 53 = .ok (.iconst 0, 1) := by decide +kernel
theorem d_3_7_54 : decode prog_3_method_7_code 54 = .ok (.ireturn, 1) := by decide +kernel
theorem d_43_101_0 : decode prog_43_method_101_code 0 = .ok (.iconst 0, 1) := by decide +kernel
theorem d_43_101_1 : decode prog_43_method_101_code 1 = .ok (.istore_n 3, 1) := by decide +kernel
theorem d_43_101_2 : decode prog_43_method_101_code 2 = .ok (.aload_n 0, 1) := by decide +kernel
theorem d_43_101_3 : decode prog_43_method_101_code 3 = .ok (.arraylength, 1) := by decide +kernel
theorem d_43_101_4 : decode prog_43_method_101_code 4 = .ok (.istore 4, 2) := by decide +kernel
theorem d_43_101_6 : decode prog_43_method_101_code 6 = .ok (.iload_n 3, 1) := by decide +kernel
theorem d_43_101_7 : decode prog_43_method_101_code 7 = .ok (.iload 4, 2) := by decide +kernel
theorem d_43_101_9 : decode prog_43_method_101_code 9 = .ok (.if_icmp .ge 13, 3) := by decide +kernel
theorem d_43_101_12 : decode prog_43_method_101_code 12 = .ok (.aload_n 0, 1) := by decide +kernel
theorem d_43_101_13 : decode prog_43_method_101_code 13 = .ok (.iload_n 3, 1) := by decide +kernel
theorem d_43_101_14 : decode prog_43_method_101_code 14 = .ok (.lload_n 1, 1) := by decide +kernel
theorem d_43_101_15 : decode prog_43_method_101_code 15 = .ok (.lastore, 1) := by decide +kernel
theorem d_43_101_16 : decode prog_43_method_101_code 16 = .ok (.iinc 3 1, 3) := by decide +kernel
theorem d_43_101_19 : decode prog_43_method_101_code 19 = .ok (.goto (-13), 3) := by decide +kernel
theorem d_43_101_22 : decode prog_43_method_101_code 22 = .ok (.return_, 1) := by decide +kernel
theorem d_43_103_0 : decode prog_43_method_103_code 0 = .ok (.iconst 0, 1) := by decide +kernel
theorem d_43_103_1 : decode prog_43_method_103_code 1 = .ok (.istore_n 2, 1) := by decide +kernel
theorem d_43_103_2 : decode prog_43_method_103_code 2 = .ok (.aload_n 0, 1) := by decide +kernel
theorem d_43_103_3 : decode prog_43_method_103_code 3 = .ok (.arraylength, 1) := by decide +kernel
theorem d_43_103_4 : decode prog_43_method_103_code 4 = .ok (.istore_n 3, 1) := by decide +kernel
theorem d_43_103_5 : decode prog_43_method_103_code 5 = .ok (.iload_n 2, 1) := by decide +kernel
theorem d_43_103_6 : decode prog_43_method_103_code 6 = .ok (.iload_n 3, 1) := by decide +kernel
theorem d_43_103_7 : decode prog_43_method_103_code 7 = .ok (.if_icmp .ge 13, 3) := by decide +kernel
theorem d_43_103_10 : decode prog_43_method_103_code 10 = .ok (.aload_n 0, 1) := by decide +kernel
theorem d_43_103_11 : decode prog_43_method_103_code 11 = .ok (.iload_n 2, 1) := by decide +kernel
theorem d_43_103_12 : decode prog_43_method_103_code 12 = .ok (.iload_n 1, 1) := by decide +kernel
theorem d_43_103_13 : decode prog_43_method_103_code 13 = .ok (.iastore, 1) := by decide +kernel
theorem d_43_103_14 : decode prog_43_method_103_code 14 = .ok (.iinc 2 1, 3) := by decide +kernel
theorem d_43_103_17 : decode prog_43_method_103_code 17 = .ok (.goto (-12), 3) := by decide +kernel
theorem d_43_103_20 : decode prog_43_method_103_code 20 = .ok (.return_, 1) := by decide +kernel
theorem d_4_2_0 : decode prog_4_method_2_code 0 = .ok (.iload_n 1, 1) := by decide +kernel
theorem d_4_2_1 : decode prog_4_method_2_code 1 = .ok (.bipush 10, 2) := by decide +kernel
theorem d_4_2_3 : decode prog_4_method_2_code 3 = .ok (.imul, 1) := by decide +kernel
theorem d_4_2_4 : decode prog_4_method_2_code 4 = .ok (.iload_n 2, 1) := by decide +kernel
theorem d_4_2_5 : decode prog_4_method_2_code 5 = .ok (.iadd, 1) := by decide +kernel
theorem d_4_2_6 : decode prog_4_method_2_code 6 = .ok (.bipush 13, 2) := by decide +kernel
theorem d_4_2_8 : decode prog_4_method_2_code 8 = .ok (.imul, 1) := by decide +kernel
theorem d_4_2_9 : decode prog_4_method_2_code 9 = .ok (.ireturn, 1) := by decide +kernel
theorem d_5_10_0 : decode prog_5_method_10_code 0 = .ok (.iconst (-1), 1) := by decide +kernel
theorem d_5_10_1 : decode prog_5_method_10_code 1 = .ok (.istore_n 1, 1) := by decide +kernel
theorem d_5_10_2 : decode prog_5_method_10_code 2 = .ok (.iconst 0, 1) := by decide +kernel
theorem d_5_10_3 : decode prog_5_method_10_code 3 = .ok (.istore_n 2, 1) := by decide +kernel
theorem d_5_10_4 : decode prog_5_method_10_code 4 = .ok (.iload_n 2, 1) := by decide +kernel
theorem d_5_10_5 : decode prog_5_method_10_code 5 = .ok (.aload_n 0, 1) := by decide +kernel
theorem d_5_10_6 : decode prog_5_method_10_code 6 = .ok (.getfield 55, 3) := by decide +kernel
theorem d_5_10_9 : decode prog_5_method_10_code 9 = .ok (.getfield 72, 3) := by decide +kernel
theorem d_5_10_12 : decode prog_5_method_10_code 12 = .ok (.if_icmp .ge 36, 3) := by decide +kernel
theorem d_5_10_15 : decode prog_5_method_10_code 15 = .ok (.aload_n 0, 1) := by decide +kernel
theorem d_5_10_16 : decode prog_5_method_10_code 16 = .ok (.getfield 80, 3) := by decide +kernel
theorem d_5_10_19 : decode prog_5_method_10_code 19 = .ok (.iload_n 2, 1) := by decide +kernel
theorem d_5_10_20 : decode prog_5_method_10_code 20 = .ok (.invokestatic 161, 3) := by decide +kernel
theorem d_5_10_23 : decode prog_5_method_10_code 23 = .ok (.ifCond .eq 19, 3) := by decide +kernel
theorem d_5_10_26 : decode prog_5_method_10_code 26 = .ok (.iload_n 1, 1) := by decide +kernel
theorem d_5_10_27 : decode prog_5_method_10_code 27 = .ok (.iconst (-1), 1) := by decide +kernel
theorem d_5_10_28 : decode prog_5_method_10_code 28 = .ok (.if_icmp .eq 12, 3) := by decide +kernel
theorem d_5_10_31 : decode prog_5_method_10_code 31 = .ok (.aload_n 0, 1) := by decide +kernel
theorem d_5_10_32 : decode prog_5_method_10_code 32 = .ok (.iload_n 2, 1) := by decide +kernel
theorem d_5_10_33 : decode prog_5_method_10_code 33 = .ok (.iload_n 1, 1) := by decide +kernel
theorem d_5_10_34 : decode prog_5_method_10_code 34 = .ok (.invokevirtual 194, 3) := by decide +kernel
theorem d_5_10_37 : decode prog_5_method_10_code 37 = .ok (.ifCond .eq 5, 3) := by decide +kernel
theorem d_5_10_40 : decode prog_5_method_10_code 40 = .ok (.iload_n 2, 1) := by decide +kernel
theorem d_5_10_41 : decode prog_5_method_10_code 41 = .ok (.istore_n 1, 1) := by decide +kernel
theorem d_5_10_42 : decode prog_5_method_10_code 42 = .ok (.iinc 2 1, 3) := by decide +kernel
theorem d_5_10_45 : decode prog_5_method_10_code 45 = .ok (.goto (-41), 3) := by decide +kernel
theorem d_5_10_48 : decode prog_5_method_10_code 48 = .ok (.iload_n 1, 1) := by decide +kernel
theorem d_5_10_49 : decode prog_5_method_10_code 49 = .ok (.ireturn, 1) := by decide +kernel
theorem d_5_11_0 : decode prog_5_method_11_code 0 = .ok (.iconst (-1), 1) := by decide +kernel
theorem d_5_11_1 : decode prog_5_method_11_code 1 = .ok (.istore_n 1, 1) := by decide +kernel
theorem d_5_11_2 : decode prog_5_method_11_code 2 = .ok (.iconst 0, 1) := by decide +kernel
theorem d_5_11_3 : decode prog_5_method_11_code 3 = .ok (.istore_n 2, 1) := by decide +kernel
theorem d_5_11_4 : decode prog_5_method_11_code 4 = .ok (.iload_n 2, 1) := by decide +kernel
theorem d_5_11_5 : decode prog_5_method_11_code 5 = .ok (.aload_n 0, 1) := by decide +kernel
theorem d_5_11_6 : decode prog_5_method_11_code 6 = .ok (.getfield 55, 3) := by decide +kernel
theorem d_5_11_9 : decode prog_5_method_11_code 9 = .ok (.getfield 72, 3) := by decide +kernel
theorem d_5_11_12 : decode prog_5_method_11_code 12 = .ok (.if_icmp .ge 36, 3) := by decide +kernel
theorem d_5_11_15 : decode prog_5_method_11_code 15 = .ok (.aload_n 0, 1) := by decide +kernel
theorem d_5_11_16 : decode prog_5_method_11_code 16 = .ok (.getfield 80, 3) := by decide +kernel
theorem d_5_11_19 : decode prog_5_method_11_code 19 = .ok (.iload_n 2, 1) := by decide +kernel
theorem d_5_11_20 : decode prog_5_method_11_code 20 = .ok (.invokestatic 161, 3) := by decide +kernel
theorem d_5_11_23 : decode prog_5_method_11_code 23 = .ok (.ifCond .eq 19, 3) := by decide +kernel
theorem d_5_11_26 : decode prog_5_method_11_code 26 = .ok (.iload_n 1, 1) := by decide +kernel
theorem d_5_11_27 : decode prog_5_method_11_code 27 = .ok (.iconst (-1), 1) := by decide +kernel
theorem d_5_11_28 : decode prog_5_method_11_code 28 = .ok (.if_icmp .eq 12, 3) := by decide +kernel
theorem d_5_11_31 : decode prog_5_method_11_code 31 = .ok (.aload_n 0, 1) := by decide +kernel
theorem d_5_11_32 : decode prog_5_method_11_code 32 = .ok (.iload_n 1, 1) := by decide +kernel
theorem d_5_11_33 : decode prog_5_method_11_code 33 = .ok (.iload_n 2, 1) := by decide +kernel
theorem d_5_11_34 : decode prog_5_method_11_code 34 = .ok (.invokevirtual 194, 3) := by decide +kernel
theorem d_5_11_37 : decode prog_5_method_11_code 37 = .ok (.ifCond .eq 5, 3) := by decide +kernel
theorem d_5_11_40 : decode prog_5_method_11_code 40 = .ok (.iload_n 2, 1) := by decide +kernel
theorem d_5_11_41 : decode prog_5_method_11_code 41 = .ok (.istore_n 1, 1) := by decide +kernel
theorem d_5_11_42 : decode prog_5_method_11_code 42 = .ok (.iinc 2 1, 3) := by decide +kernel
theorem d_5_11_45 : decode prog_5_method_11_code 45 = .ok (.goto (-41), 3) := by decide +kernel
theorem d_5_11_48 : decode prog_5_method_11_code 48 = .ok (.iload_n 1, 1) := by decide +kernel
theorem d_5_11_49 : decode prog_5_method_11_code 49 = .ok (.ireturn, 1) := by decide +kernel
theorem d_5_12_0 : decode prog_5_method_12_code 0 = .ok (.aload_n 0, 1) := by decide +kernel
theorem d_5_12_1 : decode prog_5_method_12_code 1 = .ok (.getfield 23, 3) := by decide +kernel
theorem d_5_12_4 : decode prog_5_method_12_code 4 = .ok (.iload_n 1, 1) := by decide +kernel
theorem d_5_12_5 : decode prog_5_method_12_code 5 = .ok (.aaload, 1) := by decide +kernel
theorem d_5_12_6 : decode prog_5_method_12_code 6 = .ok (.aload_n 0, 1) := by decide +kernel
theorem d_5_12_7 : decode prog_5_method_12_code 7 = .ok (.getfield 23, 3) := by decide +kernel
theorem d_5_12_10 : decode prog_5_method_12_code 10 = .ok (.iload_n 2, 1) := by decide +kernel
theorem d_5_12_11 : decode prog_5_method_12_code 11 = .ok (.aaload, 1) := by decide +kernel
theorem d_5_12_12 : decode prog_5_method_12_code 12 = .ok (.invokevirtual 184, 3) := by decide +kernel
theorem d_5_12_15 : decode prog_5_method_12_code 15 = .ok (.istore_n 3, 1) := by decide +kernel
theorem d_5_12_16 : decode prog_5_method_12_code 16 = .ok (.iload_n 3, 1) := by decide +kernel
theorem d_5_12_17 : decode prog_5_method_12_code 17 = .ok (.ifCond .gt 19, 3) := by decide +kernel
theorem d_5_12_20 : decode prog_5_method_12_code 20 = .ok (.iload_n 3, 1) := by decide +kernel
theorem d_5_12_21 : decode prog_5_method_12_code 21 = .ok (.ifCond .ne 19, 3) := by decide +kernel
theorem d_5_12_24 : decode prog_5_method_12_code 24 = .ok (.aload_n 0, 1) := by decide +kernel
theorem d_5_12_25 : decode prog_5_method_12_code 25 = .ok (.getfield 55, 3) := by decide +kernel
theorem d_5_12_28 : decode prog_5_method_12_code 28 = .ok (.iload_n 1, 1) := by decide +kernel
theorem d_5_12_29 : decode prog_5_method_12_code 29 = .ok (.iload_n 2, 1) := by decide +kernel
theorem d_5_12_30 : decode prog_5_method_12_code 30 = .ok (.invokevirtual 197, 3) := by decide +kernel
theorem d_5_12_33 : decode prog_5_method_12_code 33 = .ok (.ifCond .eq 7, 3) := by decide +kernel
theorem d_5_12_36 : decode prog_5_method_12_code 36 = .ok (.iconst 1, 1) := by decide +kernel
theorem d_5_12_37 : decode prog_5_method_12_code 37 = .ok (.goto 4, 3) := by decide +kernel
theorem d_5_12_40 : decode prog_5_method_12_code 40 = .ok (.iconst 0, 1) := by decide +kernel
theorem d_5_12_41 : decode prog_5_method_12_code 41 = .ok (.ireturn, 1) := by decide +kernel
theorem d_5_13_0 : decode prog_5_method_13_code 0 = .ok (.aload_n 0, 1) := by decide +kernel
theorem d_5_13_1 : decode prog_5_method_13_code 1 = .ok (.dup, 1) := by decide +kernel
theorem d_5_13_2 : decode prog_5_method_13_code 2 = .ok (.getfield 80, 3) := by decide +kernel
theorem d_5_13_5 : decode prog_5_method_13_code 5 = .ok (.iconst 1, 1) := by decide +kernel
theorem d_5_13_6 : decode prog_5_method_13_code 6 = .ok (.iload_n 2, 1) := by decide +kernel
theorem d_5_13_7 : decode prog_5_method_13_code 7 = .ok (.ishl, 1) := by decide +kernel
theorem d_5_13_8 : decode prog_5_method_13_code 8 = .ok (.iconst (-1), 1) := by decide +kernel
theorem d_5_13_9 : decode prog_5_method_13_code 9 = .ok (.ixor, 1) := by decide +kernel
theorem d_5_13_10 : decode prog_5_method_13_code 10 = .ok (.iand, 1) := by decide +kernel
theorem d_5_13_11 : decode prog_5_method_13_code 11 = .ok (.putfield 80, 3) := by decide +kernel
theorem d_5_13_14 : decode prog_5_method_13_code 14 = .ok (.aload_n 1, 1) := by decide +kernel
theorem d_5_13_15 : decode prog_5_method_13_code 15 = .ok (.getfield 77, 3) := by decide +kernel
theorem d_5_13_18 : decode prog_5_method_13_code 18 = .ok (.iconst 3, 1) := by decide +kernel
theorem d_5_13_19 : decode prog_5_method_13_code 19 = .ok (.if_icmp .ge 23, 3) := by decide +kernel
theorem d_5_13_22 : decode prog_5_method_13_code 22 = .ok (.aload_n 1, 1) := by decide +kernel
theorem d_5_13_23 : decode prog_5_method_13_code 23 = .ok (.getfield 200, 3) := by decide +kernel
theorem d_5_13_26 : decode prog_5_method_13_code 26 = .ok (.aload_n 1, 1) := by decide +kernel
theorem d_5_13_27 : decode prog_5_method_13_code 27 = .ok (.getfield 77, 3) := by decide +kernel
theorem d_5_13_30 : decode prog_5_method_13_code 30 = .ok (.iload_n 2, 1) := by decide +kernel
theorem d_5_13_31 : decode prog_5_method_13_code 31 = .ok (.iastore, 1) := by decide +kernel
theorem d_5_13_32 : decode prog_5_method_13_code 32 = .ok (.aload_n 1, 1) := by decide +kernel
theorem d_5_13_33 : decode prog_5_method_13_code 33 = .ok (.dup, 1) := by decide +kernel
theorem d_5_13_34 : decode prog_5_method_13_code 34 = .ok (.getfield 77, 3) := by decide +kernel
theorem d_5_13_37 : decode prog_5_method_13_code 37 = .ok (.iconst 1, 1) := by decide +kernel
theorem d_5_13_38 : decode prog_5_method_13_code 38 = .ok (.iadd, 1) := by decide +kernel
theorem d_5_13_39 : decode prog_5_method_13_code 39 = .ok (.putfield 77, 3) := by decide +kernel
theorem d_5_13_42 : decode prog_5_method_13_code 42 = .ok (.return_, 1) := by decide +kernel
theorem d_5_14_0 : decode prog_5_method_14_code 0 = .ok (.aload_n 0, 1) := by decide +kernel
theorem d_5_14_1 : decode prog_5_method_14_code 1 = .ok (.dup, 1) := by decide +kernel
theorem d_5_14_2 : decode prog_5_method_14_code 2 = .ok (.getfield 80, 3) := by decide +kernel
theorem d_5_14_5 : decode prog_5_method_14_code 5 = .ok (.iconst 1, 1) := by decide +kernel
theorem d_5_14_6 : decode prog_5_method_14_code 6 = .ok (.iload_n 2, 1) := by decide +kernel
theorem d_5_14_7 : decode prog_5_method_14_code 7 = .ok (.ishl, 1) := by decide +kernel
theorem d_5_14_8 : decode prog_5_method_14_code 8 = .ok (.iconst (-1), 1) := by decide +kernel
theorem d_5_14_9 : decode prog_5_method_14_code 9 = .ok (.ixor, 1) := by decide +kernel
theorem d_5_14_10 : decode prog_5_method_14_code 10 = .ok (.iand, 1) := by decide +kernel
theorem d_5_14_11 : decode prog_5_method_14_code 11 = .ok (.putfield 80, 3) := by decide +kernel
theorem d_5_14_14 : decode prog_5_method_14_code 14 = .ok (.aload_n 1, 1) := by decide +kernel
theorem d_5_14_15 : decode prog_5_method_14_code 15 = .ok (.getfield 114, 3) := by decide +kernel
theorem d_5_14_18 : decode prog_5_method_14_code 18 = .ok (.bipush 8, 2) := by decide +kernel
theorem d_5_14_20 : decode prog_5_method_14_code 20 = .ok (.if_icmp .ge 23, 3) := by decide +kernel
theorem d_5_14_23 : decode prog_5_method_14_code 23 = .ok (.aload_n 1, 1) := by decide +kernel
theorem d_5_14_24 : decode prog_5_method_14_code 24 = .ok (.getfield 203, 3) := by decide +kernel
theorem d_5_14_27 : decode prog_5_method_14_code 27 = .ok (.aload_n 1, 1) := by decide +kernel
theorem d_5_14_28 : decode prog_5_method_14_code 28 = .ok (.getfield 114, 3) := by decide +kernel
theorem d_5_14_31 : decode prog_5_method_14_code 31 = .ok (.iload_n 2, 1) := by decide +kernel
theorem d_5_14_32 : decode prog_5_method_14_code 32 = .ok (.iastore, 1) := by decide +kernel
theorem d_5_14_33 : decode prog_5_method_14_code 33 = .ok (.aload_n 1, 1) := by decide +kernel
theorem d_5_14_34 : decode prog_5_method_14_code 34 = .ok (.dup, 1) := by decide +kernel
theorem d_5_14_35 : decode prog_5_method_14_code 35 = .ok (.getfield 114, 3) := by decide +kernel
theorem d_5_14_38 : decode prog_5_method_14_code 38 = .ok (.iconst 1, 1) := by decide +kernel
theorem d_5_14_39 : decode prog_5_method_14_code 39 = .ok (.iadd, 1) := by decide +kernel
theorem d_5_14_40 : decode prog_5_method_14_code 40 = .ok (.putfield 114, 3) := by decide +kernel
theorem d_5_14_43 : decode prog_5_method_14_code 43 = .ok (.aload_n 0, 1) := by decide +kernel
theorem d_5_14_44 : decode prog_5_method_14_code 44 = .ok (.getfield 23, 3) := by decide +kernel
theorem d_5_14_47 : decode prog_5_method_14_code 47 = .ok (.iload_n 2, 1) := by decide +kernel
theorem d_5_14_48 : decode prog_5_method_14_code 48 = .ok (.aaload, 1) := by decide +kernel
theorem d_5_14_49 : decode prog_5_method_14_code 49 = .ok (.lconst 0, 1) := by decide +kernel
theorem d_5_14_50 : decode prog_5_method_14_code 50 = .ok (.invokevirtual 129, 3) := by decide +kernel
theorem d_5_14_53 : decode prog_5_method_14_code 53 = .ok (.iconst 0, 1) := by decide +kernel
theorem d_5_14_54 : decode prog_5_method_14_code 54 = .ok (.istore_n 3, 1) := by decide +kernel
theorem d_5_14_55 : decode prog_5_method_14_code 55 = .ok (.iload_n 3, 1) := by decide +kernel
theorem d_5_14_56 : decode prog_5_method_14_code 56 = .ok (.aload_n 1, 1) := by decide +kernel
theorem d_5_14_57 : decode prog_5_method_14_code 57 = .ok (.getfield 99, 3) := by decide +kernel
theorem d_5_14_60 : decode prog_5_method_14_code 60 = .ok (.if_icmp .ge 27, 3) := by decide +kernel
theorem d_5_14_63 : decode prog_5_method_14_code 63 = .ok (.aload_n 0, 1) := by decide +kernel
theorem d_5_14_64 : decode prog_5_method_14_code 64 = .ok (.getfield 31, 3) := by decide +kernel
theorem d_5_14_67 : decode prog_5_method_14_code 67 = .ok (.aload_n 0, 1) := by decide +kernel
theorem d_5_14_68 : decode prog_5_method_14_code 68 = .ok (.iload_n 3, 1) := by decide +kernel
theorem d_5_14_69 : decode prog_5_method_14_code 69 = .ok (.iload_n 2, 1) := by decide +kernel
theorem d_5_14_70 : decode prog_5_method_14_code 70 = .ok (.invokevirtual 137, 3) := by decide +kernel
theorem d_5_14_73 : decode prog_5_method_14_code 73 = .ok (.invokevirtual 178, 3) := by decide +kernel
theorem d_5_14_76 : decode prog_5_method_14_code 76 = .ok (.aload_n 0, 1) := by decide +kernel
theorem d_5_14_77 : decode prog_5_method_14_code 77 = .ok (.iload_n 3, 1) := by decide +kernel
theorem d_5_14_78 : decode prog_5_method_14_code 78 = .ok (.invokevirtual 141, 3) := by decide +kernel
theorem d_5_14_81 : decode prog_5_method_14_code 81 = .ok (.iinc 3 1, 3) := by decide +kernel
theorem d_5_14_84 : decode prog_5_method_14_code 84 = .ok (.goto (-29), 3) := by decide +kernel
theorem d_5_14_87 : decode prog_5_method_14_code 87 = .ok (.return_, 1) := by decide +kernel
theorem d_5_15_0 : decode prog_5_method_15_code 0 = .ok (.aload_n 0, 1) := by decide +kernel
theorem d_5_15_1 : decode prog_5_method_15_code 1 = .ok (.getfield 37, 3) := by decide +kernel
theorem d_5_15_4 : decode prog_5_method_15_code 4 = .ok (.aload_n 0, 1) := by decide +kernel
theorem d_5_15_5 : decode prog_5_method_15_code 5 = .ok (.getfield 23, 3) := by decide +kernel
theorem d_5_15_8 : decode prog_5_method_15_code 8 = .ok (.iload_n 1, 1) := by decide +kernel
theorem d_5_15_9 : decode prog_5_method_15_code 9 = .ok (.aaload, 1) := by decide +kernel
theorem d_5_15_10 : decode prog_5_method_15_code 10 = .ok (.invokevirtual 178, 3) := by decide +kernel
theorem d_5_15_13 : decode prog_5_method_15_code 13 = .ok (.aload_n 0, 1) := by decide +kernel
theorem d_5_15_14 : decode prog_5_method_15_code 14 = .ok (.getfield 37, 3) := by decide +kernel
theorem d_5_15_17 : decode prog_5_method_15_code 17 = .ok (.aload_n 0, 1) := by decide +kernel
theorem d_5_15_18 : decode prog_5_method_15_code 18 = .ok (.getfield 34, 3) := by decide +kernel
theorem d_5_15_21 : decode prog_5_method_15_code 21 = .ok (.invokevirtual 206, 3) := by decide +kernel
theorem d_5_15_24 : decode prog_5_method_15_code 24 = .ok (.aload_n 0, 1) := by decide +kernel
theorem d_5_15_25 : decode prog_5_method_15_code 25 = .ok (.getfield 40, 3) := by decide +kernel
theorem d_5_15_28 : decode prog_5_method_15_code 28 = .ok (.aload_n 0, 1) := by decide +kernel
theorem d_5_15_29 : decode prog_5_method_15_code 29 = .ok (.getfield 23, 3) := by decide +kernel
theorem d_5_15_32 : decode prog_5_method_15_code 32 = .ok (.iload_n 1, 1) := by decide +kernel
theorem d_5_15_33 : decode prog_5_method_15_code 33 = .ok (.aaload, 1) := by decide +kernel
theorem d_5_15_34 : decode prog_5_method_15_code 34 = .ok (.invokevirtual 178, 3) := by decide +kernel
theorem d_5_15_37 : decode prog_5_method_15_code 37 = .ok (.aload_n 0, 1) := by decide +kernel
theorem d_5_15_38 : decode prog_5_method_15_code 38 = .ok (.invokevirtual 209, 3) := by decide +kernel
theorem d_5_15_41 : decode prog_5_method_15_code 41 = .ok (.aload_n 0, 1) := by decide +kernel
theorem d_5_15_42 : decode prog_5_method_15_code 42 = .ok (.getfield 23, 3) := by decide +kernel
theorem d_5_15_45 : decode prog_5_method_15_code 45 = .ok (.iload_n 1, 1) := by decide +kernel
theorem d_5_15_46 : decode prog_5_method_15_code 46 = .ok (.aaload, 1) := by decide +kernel
theorem d_5_15_47 : decode prog_5_method_15_code 47 = .ok (.aload_n 0, 1) := by decide +kernel
theorem d_5_15_48 : decode prog_5_method_15_code 48 = .ok (.getfield 34, 3) := by decide +kernel
theorem d_5_15_51 : decode prog_5_method_15_code 51 = .ok (.invokevirtual 178, 3) := by decide +kernel
theorem d_5_15_54 : decode prog_5_method_15_code 54 = .ok (.aload_n 0, 1) := by decide +kernel
theorem d_5_15_55 : decode prog_5_method_15_code 55 = .ok (.aload_n 0, 1) := by decide +kernel
theorem d_5_15_56 : decode prog_5_method_15_code 56 = .ok (.getfield 40, 3) := by decide +kernel
theorem d_5_15_59 : decode prog_5_method_15_code 59 = .ok (.invokevirtual 212, 3) := by decide +kernel
theorem d_5_15_62 : decode prog_5_method_15_code 62 = .ok (.iconst 0, 1) := by decide +kernel
theorem d_5_15_63 : decode prog_5_method_15_code 63 = .ok (.istore_n 2, 1) := by decide +kernel
theorem d_5_15_64 : decode prog_5_method_15_code 64 = .ok (.iload_n 2, 1) := by decide +kernel
theorem d_5_15_65 : decode prog_5_method_15_code 65 = .ok (.aload_n 0, 1) := by decide +kernel
theorem d_5_15_66 : decode prog_5_method_15_code 66 = .ok (.getfield 55, 3) := by decide +kernel
theorem d_5_15_69 : decode prog_5_method_15_code 69 = .ok (.getfield 96, 3) := by decide +kernel
theorem d_5_15_72 : decode prog_5_method_15_code 72 = .ok (.if_icmp .ge 31, 3) := by decide +kernel
theorem d_5_15_75 : decode prog_5_method_15_code 75 = .ok (.aload_n 0, 1) := by decide +kernel
theorem d_5_15_76 : decode prog_5_method_15_code 76 = .ok (.getfield 31, 3) := by decide +kernel
theorem d_5_15_79 : decode prog_5_method_15_code 79 = .ok (.aload_n 0, 1) := by decide +kernel
theorem d_5_15_80 : decode prog_5_method_15_code 80 = .ok (.iload_n 2, 1) := by decide +kernel
theorem d_5_15_81 : decode prog_5_method_15_code 81 = .ok (.iload_n 1, 1) := by decide +kernel
theorem d_5_15_82 : decode prog_5_method_15_code 82 = .ok (.invokevirtual 137, 3) := by decide +kernel
theorem d_5_15_85 : decode prog_5_method_15_code 85 = .ok (.aload_n 0, 1) := by decide +kernel
theorem d_5_15_86 : decode prog_5_method_15_code 86 = .ok (.getfield 37, 3) := by decide +kernel
theorem d_5_15_89 : decode prog_5_method_15_code 89 = .ok (.invokevirtual 215, 3) := by decide +kernel
theorem d_5_15_92 : decode prog_5_method_15_code 92 = .ok (.aload_n 0, 1) := by decide +kernel
theorem d_5_15_93 : decode prog_5_method_15_code 93 = .ok (.iload_n 2, 1) := by decide +kernel
theorem d_5_15_94 : decode prog_5_method_15_code 94 = .ok (.invokevirtual 141, 3) := by decide +kernel
theorem d_5_15_97 : decode prog_5_method_15_code 97 = .ok (.iinc 2 1, 3) := by decide +kernel
theorem d_5_15_100 : decode prog_5_method_15_code 100 = .ok (.goto (-36), 3) := by decide +kernel
theorem d_5_15_103 : decode prog_5_method_15_code 103 = .ok (.return_, 1) := by decide +kernel
theorem d_5_16_0 : decode prog_5_method_16_code 0 = .ok (.aload_n 0, 1) := by decide +kernel
theorem d_5_16_1 : decode prog_5_method_16_code 1 = .ok (.aload_n 0, 1) := by decide +kernel
theorem d_5_16_2 : decode prog_5_method_16_code 2 = .ok (.getfield 27, 3) := by decide +kernel
theorem d_5_16_5 : decode prog_5_method_16_code 5 = .ok (.aload_n 1, 1) := by decide +kernel
theorem d_5_16_6 : decode prog_5_method_16_code 6 = .ok (.invokevirtual 219, 3) := by decide +kernel
theorem d_5_16_9 : decode prog_5_method_16_code 9 = .ok (.iconst 0, 1) := by decide +kernel
theorem d_5_16_10 : decode prog_5_method_16_code 10 = .ok (.istore_n 2, 1) := by decide +kernel
theorem d_5_16_11 : decode prog_5_method_16_code 11 = .ok (.iload_n 2, 1) := by decide +kernel
theorem d_5_16_12 : decode prog_5_method_16_code 12 = .ok (.bipush 9, 2) := by decide +kernel
theorem d_5_16_14 : decode prog_5_method_16_code 14 = .ok (.if_icmp .ge 20, 3) := by decide +kernel
theorem d_5_16_17 : decode prog_5_method_16_code 17 = .ok (.aload_n 0, 1) := by decide +kernel
theorem d_5_16_18 : decode prog_5_method_16_code 18 = .ok (.aload_n 0, 1) := by decide +kernel
theorem d_5_16_19 : decode prog_5_method_16_code 19 = .ok (.getfield 23, 3) := by decide +kernel
theorem d_5_16_22 : decode prog_5_method_16_code 22 = .ok (.iload_n 2, 1) := by decide +kernel
theorem d_5_16_23 : decode prog_5_method_16_code 23 = .ok (.aaload, 1) := by decide +kernel
theorem d_5_16_24 : decode prog_5_method_16_code 24 = .ok (.aload_n 1, 1) := by decide +kernel
theorem d_5_16_25 : decode prog_5_method_16_code 25 = .ok (.invokevirtual 219, 3) := by decide +kernel
theorem d_5_16_28 : decode prog_5_method_16_code 28 = .ok (.iinc 2 1, 3) := by decide +kernel
theorem d_5_16_31 : decode prog_5_method_16_code 31 = .ok (.goto (-20), 3) := by decide +kernel
theorem d_5_16_34 : decode prog_5_method_16_code 34 = .ok (.iconst 0, 1) := by decide +kernel
theorem d_5_16_35 : decode prog_5_method_16_code 35 = .ok (.istore_n 2, 1) := by decide +kernel
theorem d_5_16_36 : decode prog_5_method_16_code 36 = .ok (.iload_n 2, 1) := by decide +kernel
theorem d_5_16_37 : decode prog_5_method_16_code 37 = .ok (.aload_n 0, 1) := by decide +kernel
theorem d_5_16_38 : decode prog_5_method_16_code 38 = .ok (.getfield 55, 3) := by decide +kernel
theorem d_5_16_41 : decode prog_5_method_16_code 41 = .ok (.getfield 96, 3) := by decide +kernel
theorem d_5_16_44 : decode prog_5_method_16_code 44 = .ok (.if_icmp .ge 50, 3) := by decide +kernel
theorem d_5_16_47 : decode prog_5_method_16_code 47 = .ok (.iconst 0, 1) := by decide +kernel
theorem d_5_16_48 : decode prog_5_method_16_code 48 = .ok (.istore_n 3, 1) := by decide +kernel
theorem d_5_16_49 : decode prog_5_method_16_code 49 = .ok (.iload_n 3, 1) := by decide +kernel
theorem d_5_16_50 : decode prog_5_method_16_code 50 = .ok (.aload_n 0, 1) := by decide +kernel
theorem d_5_16_51 : decode prog_5_method_16_code 51 = .ok (.getfield 55, 3) := by decide +kernel
theorem d_5_16_54 : decode prog_5_method_16_code 54 = .ok (.getfield 72, 3) := by decide +kernel
theorem d_5_16_57 : decode prog_5_method_16_code 57 = .ok (.if_icmp .ge 31, 3) := by decide +kernel
theorem d_5_16_60 : decode prog_5_method_16_code 60 = .ok (.aload_n 0, 1) := by decide +kernel
theorem d_5_16_61 : decode prog_5_method_16_code 61 = .ok (.getfield 80, 3) := by decide +kernel
theorem d_5_16_64 : decode prog_5_method_16_code 64 = .ok (.iload_n 3, 1) := by decide +kernel
theorem d_5_16_65 : decode prog_5_method_16_code 65 = .ok (.invokestatic 161, 3) := by decide +kernel
theorem d_5_16_68 : decode prog_5_method_16_code 68 = .ok (.ifCond .eq 14, 3) := by decide +kernel
theorem d_5_16_71 : decode prog_5_method_16_code 71 = .ok (.aload_n 0, 1) := by decide +kernel
theorem d_5_16_72 : decode prog_5_method_16_code 72 = .ok (.aload_n 0, 1) := by decide +kernel
theorem d_5_16_73 : decode prog_5_method_16_code 73 = .ok (.iload_n 2, 1) := by decide +kernel
theorem d_5_16_74 : decode prog_5_method_16_code 74 = .ok (.iload_n 3, 1) := by decide +kernel
theorem d_5_16_75 : decode prog_5_method_16_code 75 = .ok (.invokevirtual 137, 3) := by decide +kernel
theorem d_5_16_78 : decode prog_5_method_16_code 78 = .ok (.aload_n 1, 1) := by decide +kernel
theorem d_5_16_79 : decode prog_5_method_16_code 79 = .ok (.invokevirtual 219, 3) := by decide +kernel
theorem d_5_16_82 : decode prog_5_method_16_code 82 = .ok (.iinc 3 1, 3) := by decide +kernel
theorem d_5_16_85 : decode prog_5_method_16_code 85 = .ok (.goto (-36), 3) := by decide +kernel
theorem d_5_16_88 : decode prog_5_method_16_code 88 = .ok (.iinc 2 1, 3) := by decide +kernel
theorem d_5_16_91 : decode prog_5_method_16_code 91 = .ok (.goto (-55), 3) := by decide +kernel
theorem d_5_16_94 : decode prog_5_method_16_code 94 = .ok (.return_, 1) := by decide +kernel
theorem d_5_17_0 : decode prog_5_method_17_code 0 = .ok (.aload_n 1, 1) := by decide +kernel
theorem d_5_17_1 : decode prog_5_method_17_code 1 = .ok (.getfield 220, 3) := by decide +kernel
theorem d_5_17_4 : decode prog_5_method_17_code 4 = .ok (.ifCond .le 20, 3) := by decide +kernel
theorem d_5_17_7 : decode prog_5_method_17_code 7 = .ok (.aload_n 0, 1) := by decide +kernel
theorem d_5_17_8 : decode prog_5_method_17_code 8 = .ok (.getfield 52, 3) := by decide +kernel
theorem d_5_17_11 : decode prog_5_method_17_code 11 = .ok (.aload_n 1, 1) := by decide +kernel
theorem d_5_17_12 : decode prog_5_method_17_code 12 = .ok (.aload_n 2, 1) := by decide +kernel
theorem d_5_17_13 : decode prog_5_method_17_code 13 = .ok (.invokevirtual 215, 3) := by decide +kernel
theorem d_5_17_16 : decode prog_5_method_17_code 16 = .ok (.aload_n 1, 1) := by decide +kernel
theorem d_5_17_17 : decode prog_5_method_17_code 17 = .ok (.aload_n 0, 1) := by decide +kernel
theorem d_5_17_18 : decode prog_5_method_17_code 18 = .ok (.getfield 52, 3) := by decide +kernel
theorem d_5_17_21 : decode prog_5_method_17_code 21 = .ok (.invokevirtual 178, 3) := by decide +kernel
theorem d_5_17_24 : decode prog_5_method_17_code 24 = .ok (.return_, 1) := by decide +kernel
theorem d_5_18_0 : decode prog_5_method_18_code 0 = .ok (.aload_n 0, 1) := by decide +kernel
theorem d_5_18_1 : decode prog_5_method_18_code 1 = .ok (.getfield 37, 3) := by decide +kernel
theorem d_5_18_4 : decode prog_5_method_18_code 4 = .ok (.aload_n 1, 1) := by decide +kernel
theorem d_5_18_5 : decode prog_5_method_18_code 5 = .ok (.getfield 165, 3) := by decide +kernel
theorem d_5_18_8 : decode prog_5_method_18_code 8 = .ok (.aload_n 1, 1) := by decide +kernel
theorem d_5_18_9 : decode prog_5_method_18_code 9 = .ok (.iload_n 2, 1) := by decide +kernel
theorem d_5_18_10 : decode prog_5_method_18_code 10 = .ok (.iload_n 3, 1) := by decide +kernel
theorem d_5_18_11 : decode prog_5_method_18_code 11 = .ok (.invokevirtual 168, 3) := by decide +kernel
theorem d_5_18_14 : decode prog_5_method_18_code 14 = .ok (.invokevirtual 223, 3) := by decide +kernel
theorem d_5_18_17 : decode prog_5_method_18_code 17 = .ok (.aload_n 0, 1) := by decide +kernel
theorem d_5_18_18 : decode prog_5_method_18_code 18 = .ok (.getfield 40, 3) := by decide +kernel
theorem d_5_18_21 : decode prog_5_method_18_code 21 = .ok (.aload_n 1, 1) := by decide +kernel
theorem d_5_18_22 : decode prog_5_method_18_code 22 = .ok (.getfield 165, 3) := by decide +kernel
theorem d_5_18_25 : decode prog_5_method_18_code 25 = .ok (.aload_n 1, 1) := by decide +kernel
theorem d_5_18_26 : decode prog_5_method_18_code 26 = .ok (.iload_n 2, 1) := by decide +kernel
theorem d_5_18_27 : decode prog_5_method_18_code 27 = .ok (.bipush 9, 2) := by decide +kernel
theorem d_5_18_29 : decode prog_5_method_18_code 29 = .ok (.invokevirtual 168, 3) := by decide +kernel
theorem d_5_18_32 : decode prog_5_method_18_code 32 = .ok (.invokevirtual 223, 3) := by decide +kernel
theorem d_5_18_35 : decode prog_5_method_18_code 35 = .ok (.return_, 1) := by decide +kernel
theorem d_5_19_0 : decode prog_5_method_19_code 0 = .ok (.aload_n 0, 1) := by decide +kernel
theorem d_5_19_1 : decode prog_5_method_19_code 1 = .ok (.getfield 43, 3) := by decide +kernel
theorem d_5_19_4 : decode prog_5_method_19_code 4 = .ok (.astore_n 1, 1) := by decide +kernel
theorem d_5_19_5 : decode prog_5_method_19_code 5 = .ok (.aload_n 0, 1) := by decide +kernel
theorem d_5_19_6 : decode prog_5_method_19_code 6 = .ok (.getfield 46, 3) := by decide +kernel
theorem d_5_19_9 : decode prog_5_method_19_code 9 = .ok (.astore_n 2, 1) := by decide +kernel
theorem d_5_19_10 : decode prog_5_method_19_code 10 = .ok (.aload_n 1, 1) := by decide +kernel
theorem d_5_19_11 : decode prog_5_method_19_code 11 = .ok (.aload_n 0, 1) := by decide +kernel
theorem d_5_19_12 : decode prog_5_method_19_code 12 = .ok (.getfield 40, 3) := by decide +kernel
theorem d_5_19_15 : decode prog_5_method_19_code 15 = .ok (.invokevirtual 178, 3) := by decide +kernel
theorem d_5_19_18 : decode prog_5_method_19_code 18 = .ok (.aload_n 2, 1) := by decide +kernel
theorem d_5_19_19 : decode prog_5_method_19_code 19 = .ok (.aload_n 0, 1) := by decide +kernel
theorem d_5_19_20 : decode prog_5_method_19_code 20 = .ok (.getfield 37, 3) := by decide +kernel
theorem d_5_19_23 : decode prog_5_method_19_code 23 = .ok (.invokevirtual 178, 3) := by decide +kernel
theorem d_5_19_26 : decode prog_5_method_19_code 26 = .ok (.iconst 0, 1) := by decide +kernel
theorem d_5_19_27 : decode prog_5_method_19_code 27 = .ok (.istore_n 3, 1) := by decide +kernel
theorem d_5_19_28 : decode prog_5_method_19_code 28 = .ok (.iload_n 3, 1) := by decide +kernel
theorem d_5_19_29 : decode prog_5_method_19_code 29 = .ok (.sipush 1000, 3) := by decide +kernel
theorem d_5_19_32 : decode prog_5_method_19_code 32 = .ok (.if_icmp .ge 37, 3) := by decide +kernel
theorem d_5_19_35 : decode prog_5_method_19_code 35 = .ok (.aload_n 2, 1) := by decide +kernel
theorem d_5_19_36 : decode prog_5_method_19_code 36 = .ok (.getfield 220, 3) := by decide +kernel
theorem d_5_19_39 : decode prog_5_method_19_code 39 = .ok (.ifCond .le 30, 3) := by decide +kernel
theorem d_5_19_42 : decode prog_5_method_19_code 42 = .ok (.aload_n 1, 1) := by decide +kernel
theorem d_5_19_43 : decode prog_5_method_19_code 43 = .ok (.aload_n 2, 1) := by decide +kernel
theorem d_5_19_44 : decode prog_5_method_19_code 44 = .ok (.aload_n 0, 1) := by decide +kernel
theorem d_5_19_45 : decode prog_5_method_19_code 45 = .ok (.getfield 49, 3) := by decide +kernel
theorem d_5_19_48 : decode prog_5_method_19_code 48 = .ok (.aload_n 0, 1) := by decide +kernel
theorem d_5_19_49 : decode prog_5_method_19_code 49 = .ok (.getfield 52, 3) := by decide +kernel
theorem d_5_19_52 : decode prog_5_method_19_code 52 = .ok (.invokevirtual 226, 3) := by decide +kernel
theorem d_5_19_55 : decode prog_5_method_19_code 55 = .ok (.aload_n 1, 1) := by decide +kernel
theorem d_5_19_56 : decode prog_5_method_19_code 56 = .ok (.astore 4, 2) := by decide +kernel
theorem d_5_19_58 : decode prog_5_method_19_code 58 = .ok (.aload_n 2, 1) := by decide +kernel
theorem d_5_19_59 : decode prog_5_method_19_code 59 = .ok (.astore_n 1, 1) := by decide +kernel
theorem d_5_19_60 : decode prog_5_method_19_code 60 = .ok (.aload 4, 2) := by decide +kernel
theorem d_5_19_62 : decode prog_5_method_19_code 62 = .ok (.astore_n 2, 1) := by decide +kernel
theorem d_5_19_63 : decode prog_5_method_19_code 63 = .ok (.iinc 3 1, 3) := by decide +kernel
theorem d_5_19_66 : decode prog_5_method_19_code 66 = .ok (.goto (-38), 3) := by decide +kernel
theorem d_5_19_69 : decode prog_5_method_19_code 69 = .ok (.aload_n 1, 1) := by decide +kernel
theorem d_5_19_70 : decode prog_5_method_19_code 70 = .ok (.invokevirtual 230, 3) := by decide +kernel
theorem d_5_19_73 : decode prog_5_method_19_code 73 = .ok (.ifCond .ne 57, 3) := by decide +kernel
theorem d_5_19_76 : decode prog_5_method_19_code 76 = .ok (.aload_n 0, 1) := by decide +kernel
theorem d_5_19_77 : decode prog_5_method_19_code 77 = .ok (.getfield 37, 3) := by decide +kernel
theorem d_5_19_80 : decode prog_5_method_19_code 80 = .ok (.aload_n 1, 1) := by decide +kernel
theorem d_5_19_81 : decode prog_5_method_19_code 81 = .ok (.aload_n 0, 1) := by decide +kernel
theorem d_5_19_82 : decode prog_5_method_19_code 82 = .ok (.getfield 49, 3) := by decide +kernel
theorem d_5_19_85 : decode prog_5_method_19_code 85 = .ok (.aload_n 0, 1) := by decide +kernel
theorem d_5_19_86 : decode prog_5_method_19_code 86 = .ok (.getfield 52, 3) := by decide +kernel
theorem d_5_19_89 : decode prog_5_method_19_code 89 = .ok (.invokevirtual 226, 3) := by decide +kernel
theorem d_5_19_92 : decode prog_5_method_19_code 92 = .ok (.aload_n 0, 1) := by decide +kernel
theorem d_5_19_93 : decode prog_5_method_19_code 93 = .ok (.getfield 37, 3) := by decide +kernel
theorem d_5_19_96 : decode prog_5_method_19_code 96 = .ok (.aload_n 0, 1) := by decide +kernel
theorem d_5_19_97 : decode prog_5_method_19_code 97 = .ok (.getfield 49, 3) := by decide +kernel
theorem d_5_19_100 : decode prog_5_method_19_code 100 = .ok (.invokevirtual 178, 3) := by decide +kernel
theorem d_5_19_103 : decode prog_5_method_19_code 103 = .ok (.aload_n 0, 1) := by decide +kernel
theorem d_5_19_104 : decode prog_5_method_19_code 104 = .ok (.getfield 40, 3) := by decide +kernel
theorem d_5_19_107 : decode prog_5_method_19_code 107 = .ok (.aload_n 1, 1) := by decide +kernel
theorem d_5_19_108 : decode prog_5_method_19_code 108 = .ok (.aload_n 0, 1) := by decide +kernel
theorem d_5_19_109 : decode prog_5_method_19_code 109 = .ok (.getfield 49, 3) := by decide +kernel
theorem d_5_19_112 : decode prog_5_method_19_code 112 = .ok (.aload_n 0, 1) := by decide +kernel
theorem d_5_19_113 : decode prog_5_method_19_code 113 = .ok (.getfield 52, 3) := by decide +kernel
theorem d_5_19_116 : decode prog_5_method_19_code 116 = .ok (.invokevirtual 226, 3) := by decide +kernel
theorem d_5_19_119 : decode prog_5_method_19_code 119 = .ok (.aload_n 0, 1) := by decide +kernel
theorem d_5_19_120 : decode prog_5_method_19_code 120 = .ok (.getfield 40, 3) := by decide +kernel
theorem d_5_19_123 : decode prog_5_method_19_code 123 = .ok (.aload_n 0, 1) := by decide +kernel
theorem d_5_19_124 : decode prog_5_method_19_code 124 = .ok (.getfield 49, 3) := by decide +kernel
theorem d_5_19_127 : decode prog_5_method_19_code 127 = .ok (.invokevirtual 178, 3) := by decide +kernel
theorem d_5_19_130 : decode prog_5_method_19_code 130 = .ok (.return_, 1) := by decide +kernel
theorem d_5_20_0 : decode prog_5_method_20_code 0 = .ok (.iconst 0, 1) := by decide +kernel
theorem d_5_20_1 : decode prog_5_method_20_code 1 = .ok (.istore_n 2, 1) := by decide +kernel
theorem d_5_20_2 : decode prog_5_method_20_code 2 = .ok (.iconst 1, 1) := by decide +kernel
theorem d_5_20_3 : decode prog_5_method_20_code 3 = .ok (.istore_n 3, 1) := by decide +kernel
theorem d_5_20_4 : decode prog_5_method_20_code 4 = .ok (.iload_n 3, 1) := by decide +kernel
theorem d_5_20_5 : decode prog_5_method_20_code 5 = .ok (.aload_n 1, 1) := by decide +kernel
theorem d_5_20_6 : decode prog_5_method_20_code 6 = .ok (.getfield 77, 3) := by decide +kernel
theorem d_5_20_9 : decode prog_5_method_20_code 9 = .ok (.aload_n 1, 1) := by decide +kernel
theorem d_5_20_10 : decode prog_5_method_20_code 10 = .ok (.getfield 114, 3) := by decide +kernel
theorem d_5_20_13 : decode prog_5_method_20_code 13 = .ok (.iadd, 1) := by decide +kernel
theorem d_5_20_14 : decode prog_5_method_20_code 14 = .ok (.if_icmp .gt 80, 3) := by decide +kernel
theorem d_5_20_17 : decode prog_5_method_20_code 17 = .ok (.aload_n 0, 1) := by decide +kernel
theorem d_5_20_18 : decode prog_5_method_20_code 18 = .ok (.getfield 31, 3) := by decide +kernel
theorem d_5_20_21 : decode prog_5_method_20_code 21 = .ok (.lconst 0, 1) := by decide +kernel
theorem d_5_20_22 : decode prog_5_method_20_code 22 = .ok (.invokevirtual 129, 3) := by decide +kernel
