theorem d_1_24_78 : decode prog_1_method_24_code 78 = .ok (.iaload, 1) := by decide +kernel
theorem d_1_24_79 : decode prog_1_method_24_code 79 = .ok (.aload_n 2, 1) := by decide +kernel
theorem d_1_24_80 : decode prog_1_method_24_code 80 = .ok (.getfield 194, 3) := by decide +kernel
theorem d_1_24_83 : decode prog_1_method_24_code 83 = .ok (.idiv, 1) := by decide +kernel
theorem d_1_24_84 : decode prog_1_method_24_code 84 = .ok (.iload_n 1, 1) := by decide +kernel
theorem d_1_24_85 : decode prog_1_method_24_code 85 = .ok (.invokestatic 262, 3) := by decide +kernel
theorem d_1_24_88 : decode prog_1_method_24_code 88 = .ok (.invokestatic 267, 3) := by decide +kernel
theorem d_1_24_91 : decode prog_1_method_24_code 91 = .ok (.ireturn, 1) := by decide +kernel
theorem d_1_25_0 : decode prog_1_method_25_code 0 = .ok (.iload_n 1, 1) := by decide +kernel
theorem d_1_25_1 : decode prog_1_method_25_code 1 = .ok (.aload_n 0, 1) := by decide +kernel
theorem d_1_25_2 : decode prog_1_method_25_code 2 = .ok (.getfield 12, 3) := by decide +kernel
theorem d_1_25_5 : decode prog_1_method_25_code 5 = .ok (.getfield 75, 3) := by decide +kernel
theorem d_1_25_8 : decode prog_1_method_25_code 8 = .ok (.invokestatic 93, 3) := by decide +kernel
theorem d_1_25_11 : decode prog_1_method_25_code 11 = .ok (.iload_n 2, 1) := by decide +kernel
theorem d_1_25_12 : decode prog_1_method_25_code 12 = .ok (.aload_n 0, 1) := by decide +kernel
theorem d_1_25_13 : decode prog_1_method_25_code 13 = .ok (.getfield 12, 3) := by decide +kernel
theorem d_1_25_16 : decode prog_1_method_25_code 16 = .ok (.getfield 75, 3) := by decide +kernel
theorem d_1_25_19 : decode prog_1_method_25_code 19 = .ok (.invokestatic 93, 3) := by decide +kernel
theorem d_1_25_22 : decode prog_1_method_25_code 22 = .ok (.aload_n 0, 1) := by decide +kernel
theorem d_1_25_23 : decode prog_1_method_25_code 23 = .ok (.getfield 21, 3) := by decide +kernel
theorem d_1_25_26 : decode prog_1_method_25_code 26 = .ok (.aload_n 0, 1) := by decide +kernel
theorem d_1_25_27 : decode prog_1_method_25_code 27 = .ok (.getfield 12, 3) := by decide +kernel
theorem d_1_25_30 : decode prog_1_method_25_code 30 = .ok (.invokevirtual 250, 3) := by decide +kernel
theorem d_1_25_33 : decode prog_1_method_25_code 33 = .ok (.invokevirtual 272, 3) := by decide +kernel
theorem d_1_25_36 : decode prog_1_method_25_code 36 = .ok (.aload_n 0, 1) := by decide +kernel
theorem d_1_25_37 : decode prog_1_method_25_code 37 = .ok (.getfield 21, 3) := by decide +kernel
theorem d_1_25_40 : decode prog_1_method_25_code 40 = .ok (.iload_n 1, 1) := by decide +kernel
theorem d_1_25_41 : decode prog_1_method_25_code 41 = .ok (.iload_n 2, 1) := by decide +kernel
theorem d_1_25_42 : decode prog_1_method_25_code 42 = .ok (.invokevirtual 275, 3) := by decide +kernel
theorem d_1_25_45 : decode prog_1_method_25_code 45 = .ok (.ireturn, 1) := by decide +kernel
theorem d_1_26_0 : decode prog_1_method_26_code 0 = .ok (.aload_n 0, 1) := by decide +kernel
theorem d_1_26_1 : decode prog_1_method_26_code 1 = .ok (.getfield 21, 3) := by decide +kernel
theorem d_1_26_4 : decode prog_1_method_26_code 4 = .ok (.aload_n 0, 1) := by decide +kernel
theorem d_1_26_5 : decode prog_1_method_26_code 5 = .ok (.getfield 12, 3) := by decide +kernel
theorem d_1_26_8 : decode prog_1_method_26_code 8 = .ok (.invokevirtual 250, 3) := by decide +kernel
theorem d_1_26_11 : decode prog_1_method_26_code 11 = .ok (.invokevirtual 272, 3) := by decide +kernel
theorem d_1_26_14 : decode prog_1_method_26_code 14 = .ok (.aload_n 0, 1) := by decide +kernel
theorem d_1_26_15 : decode prog_1_method_26_code 15 = .ok (.getfield 21, 3) := by decide +kernel
theorem d_1_26_18 : decode prog_1_method_26_code 18 = .ok (.invokevirtual 278, 3) := by decide +kernel
theorem d_1_26_21 : decode prog_1_method_26_code 21 = .ok (.ireturn, 1) := by decide +kernel
theorem d_1_27_0 : decode prog_1_method_27_code 0 = .ok (.iload_n 1, 1) := by decide +kernel
theorem d_1_27_1 : decode prog_1_method_27_code 1 = .ok (.aload_n 0, 1) := by decide +kernel
theorem d_1_27_2 : decode prog_1_method_27_code 2 = .ok (.getfield 12, 3) := by decide +kernel
theorem d_1_27_5 : decode prog_1_method_27_code 5 = .ok (.getfield 75, 3) := by decide +kernel
theorem d_1_27_8 : decode prog_1_method_27_code 8 = .ok (.invokestatic 93, 3) := by decide +kernel
theorem d_1_27_11 : decode prog_1_method_27_code 11 = .ok (.iload_n 2, 1) := by decide +kernel
theorem d_1_27_12 : decode prog_1_method_27_code 12 = .ok (.aload_n 0, 1) := by decide +kernel
theorem d_1_27_13 : decode prog_1_method_27_code 13 = .ok (.getfield 12, 3) := by decide +kernel
theorem d_1_27_16 : decode prog_1_method_27_code 16 = .ok (.getfield 75, 3) := by decide +kernel
theorem d_1_27_19 : decode prog_1_method_27_code 19 = .ok (.invokestatic 93, 3) := by decide +kernel
theorem d_1_27_22 : decode prog_1_method_27_code 22 = .ok (.aload_n 0, 1) := by decide +kernel
theorem d_1_27_23 : decode prog_1_method_27_code 23 = .ok (.getfield 21, 3) := by decide +kernel
theorem d_1_27_26 : decode prog_1_method_27_code 26 = .ok (.aload_n 0, 1) := by decide +kernel
theorem d_1_27_27 : decode prog_1_method_27_code 27 = .ok (.getfield 12, 3) := by decide +kernel
theorem d_1_27_30 : decode prog_1_method_27_code 30 = .ok (.invokevirtual 250, 3) := by decide +kernel
theorem d_1_27_33 : decode prog_1_method_27_code 33 = .ok (.invokevirtual 272, 3) := by decide +kernel
theorem d_1_27_36 : decode prog_1_method_27_code 36 = .ok (.aload_n 0, 1) := by decide +kernel
theorem d_1_27_37 : decode prog_1_method_27_code 37 = .ok (.getfield 21, 3) := by decide +kernel
theorem d_1_27_40 : decode prog_1_method_27_code 40 = .ok (.invokevirtual 281, 3) := by decide +kernel
theorem d_1_27_43 : decode prog_1_method_27_code 43 = .ok (.aload_n 0, 1) := by decide +kernel
theorem d_1_27_44 : decode prog_1_method_27_code 44 = .ok (.getfield 21, 3) := by decide +kernel
theorem d_1_27_47 : decode prog_1_method_27_code 47 = .ok (.iload_n 1, 1) := by decide +kernel
theorem d_1_27_48 : decode prog_1_method_27_code 48 = .ok (.iload_n 2, 1) := by decide +kernel
theorem d_1_27_49 : decode prog_1_method_27_code 49 = .ok (.invokevirtual 284, 3) := by decide +kernel
theorem d_1_27_52 : decode prog_1_method_27_code 52 = .ok (.ireturn, 1) := by decide +kernel
theorem d_1_28_0 : decode prog_1_method_28_code 0 = .ok (.aload_n 0, 1) := by decide +kernel
theorem d_1_28_1 : decode prog_1_method_28_code 1 = .ok (.getfield 21, 3) := by decide +kernel
theorem d_1_28_4 : decode prog_1_method_28_code 4 = .ok (.aload_n 0, 1) := by decide +kernel
theorem d_1_28_5 : decode prog_1_method_28_code 5 = .ok (.getfield 12, 3) := by decide +kernel
theorem d_1_28_8 : decode prog_1_method_28_code 8 = .ok (.invokevirtual 250, 3) := by decide +kernel
theorem d_1_28_11 : decode prog_1_method_28_code 11 = .ok (.invokevirtual 272, 3) := by decide +kernel
theorem d_1_28_14 : decode prog_1_method_28_code 14 = .ok (.aload_n 0, 1) := by decide +kernel
theorem d_1_28_15 : decode prog_1_method_28_code 15 = .ok (.getfield 21, 3) := by decide +kernel
theorem d_1_28_18 : decode prog_1_method_28_code 18 = .ok (.invokevirtual 287, 3) := by decide +kernel
theorem d_1_28_21 : decode prog_1_method_28_code 21 = .ok (.ireturn, 1) := by decide +kernel
theorem d_1_29_0 : decode prog_1_method_29_code 0 = .ok (.aload_n 0, 1) := by decide +kernel
theorem d_1_29_1 : decode prog_1_method_29_code 1 = .ok (.getfield 21, 3) := by decide +kernel
theorem d_1_29_4 : decode prog_1_method_29_code 4 = .ok (.aload_n 0, 1) := by decide +kernel
theorem d_1_29_5 : decode prog_1_method_29_code 5 = .ok (.getfield 12, 3) := by decide +kernel
theorem d_1_29_8 : decode prog_1_method_29_code 8 = .ok (.invokevirtual 250, 3) := by decide +kernel
theorem d_1_29_11 : decode prog_1_method_29_code 11 = .ok (.invokevirtual 272, 3) := by decide +kernel
theorem d_1_29_14 : decode prog_1_method_29_code 14 = .ok (.aload_n 0, 1) := by decide +kernel
theorem d_1_29_15 : decode prog_1_method_29_code 15 = .ok (.getfield 21, 3) := by decide +kernel
theorem d_1_29_18 : decode prog_1_method_29_code 18 = .ok (.invokevirtual 290, 3) := by decide +kernel
theorem d_1_29_21 : decode prog_1_method_29_code 21 = .ok (.ireturn, 1) := by decide +kernel
theorem d_1_2_0 : decode prog_1_method_2_code 0 = .ok (.aload_n 0, 1) := by decide +kernel
theorem d_1_2_1 : decode prog_1_method_2_code 1 = .ok (.getfield 12, 3) := by decide +kernel
theorem d_1_2_4 : decode prog_1_method_2_code 4 = .ok (.getfield 75, 3) := by decide +kernel
theorem d_1_2_7 : decode prog_1_method_2_code 7 = .ok (.iconst 1, 1) := by decide +kernel
theorem d_1_2_8 : decode prog_1_method_2_code 8 = .ok (.iadd, 1) := by decide +kernel
theorem d_1_2_9 : decode prog_1_method_2_code 9 = .ok (.bipush 8, 2) := by decide +kernel
theorem d_1_2_11 : decode prog_1_method_2_code 11 = .ok (.invokestatic 79, 3) := by decide +kernel
theorem d_1_2_14 : decode prog_1_method_2_code 14 = .ok (.aload_n 0, 1) := by decide +kernel
theorem d_1_2_15 : decode prog_1_method_2_code 15 = .ok (.getfield 12, 3) := by decide +kernel
theorem d_1_2_18 : decode prog_1_method_2_code 18 = .ok (.getfield 75, 3) := by decide +kernel
theorem d_1_2_21 : decode prog_1_method_2_code 21 = .ok (.istore_n 1, 1) := by decide +kernel
theorem d_1_2_22 : decode prog_1_method_2_code 22 = .ok (.aload_n 0, 1) := by decide +kernel
theorem d_1_2_23 : decode prog_1_method_2_code 23 = .ok (.getfield 12, 3) := by decide +kernel
theorem d_1_2_26 : decode prog_1_method_2_code 26 = .ok (.getfield 83, 3) := by decide +kernel
theorem d_1_2_29 : decode prog_1_method_2_code 29 = .ok (.iload_n 1, 1) := by decide +kernel
theorem d_1_2_30 : decode prog_1_method_2_code 30 = .ok (.iload_n 1, 1) := by decide +kernel
theorem d_1_2_31 : decode prog_1_method_2_code 31 = .ok (.iastore, 1) := by decide +kernel
theorem d_1_2_32 : decode prog_1_method_2_code 32 = .ok (.aload_n 0, 1) := by decide +kernel
theorem d_1_2_33 : decode prog_1_method_2_code 33 = .ok (.getfield 12, 3) := by decide +kernel
theorem d_1_2_36 : decode prog_1_method_2_code 36 = .ok (.dup, 1) := by decide +kernel
theorem d_1_2_37 : decode prog_1_method_2_code 37 = .ok (.getfield 75, 3) := by decide +kernel
theorem d_1_2_40 : decode prog_1_method_2_code 40 = .ok (.iconst 1, 1) := by decide +kernel
theorem d_1_2_41 : decode prog_1_method_2_code 41 = .ok (.iadd, 1) := by decide +kernel
theorem d_1_2_42 : decode prog_1_method_2_code 42 = .ok (.putfield 75, 3) := by decide +kernel
theorem d_1_2_45 : decode prog_1_method_2_code 45 = .ok (.aload_n 0, 1) := by decide +kernel
theorem d_1_2_46 : decode prog_1_method_2_code 46 = .ok (.iconst 0, 1) := by decide +kernel
theorem d_1_2_47 : decode prog_1_method_2_code 47 = .ok (.iload_n 1, 1) := by decide +kernel
theorem d_1_2_48 : decode prog_1_method_2_code 48 = .ok (.iconst 0, 1) := by decide +kernel
theorem d_1_2_49 : decode prog_1_method_2_code 49 = .ok (.invokevirtual 86, 3) := by decide +kernel
theorem d_1_2_52 : decode prog_1_method_2_code 52 = .ok (.iload_n 1, 1) := by decide +kernel
theorem d_1_2_53 : decode prog_1_method_2_code 53 = .ok (.ireturn, 1) := by decide +kernel
theorem d_1_30_0 : decode prog_1_method_30_code 0 = .ok (.iload_n 1, 1) := by decide +kernel
theorem d_1_30_1 : decode prog_1_method_30_code 1 = .ok (.aload_n 0, 1) := by decide +kernel
theorem d_1_30_2 : decode prog_1_method_30_code 2 = .ok (.getfield 12, 3) := by decide +kernel
theorem d_1_30_5 : decode prog_1_method_30_code 5 = .ok (.getfield 75, 3) := by decide +kernel
theorem d_1_30_8 : decode prog_1_method_30_code 8 = .ok (.invokestatic 172, 3) := by decide +kernel
theorem d_1_30_11 : decode prog_1_method_30_code 11 = .ok (.aload_n 0, 1) := by decide +kernel
theorem d_1_30_12 : decode prog_1_method_30_code 12 = .ok (.getfield 21, 3) := by decide +kernel
theorem d_1_30_15 : decode prog_1_method_30_code 15 = .ok (.aload_n 0, 1) := by decide +kernel
theorem d_1_30_16 : decode prog_1_method_30_code 16 = .ok (.getfield 12, 3) := by decide +kernel
theorem d_1_30_19 : decode prog_1_method_30_code 19 = .ok (.invokevirtual 250, 3) := by decide +kernel
theorem d_1_30_22 : decode prog_1_method_30_code 22 = .ok (.invokevirtual 272, 3) := by decide +kernel
theorem d_1_30_25 : decode prog_1_method_30_code 25 = .ok (.aload_n 0, 1) := by decide +kernel
theorem d_1_30_26 : decode prog_1_method_30_code 26 = .ok (.getfield 21, 3) := by decide +kernel
theorem d_1_30_29 : decode prog_1_method_30_code 29 = .ok (.invokevirtual 293, 3) := by decide +kernel
theorem d_1_30_32 : decode prog_1_method_30_code 32 = .ok (.aload_n 0, 1) := by decide +kernel
theorem d_1_30_33 : decode prog_1_method_30_code 33 = .ok (.getfield 21, 3) := by decide +kernel
theorem d_1_30_36 : decode prog_1_method_30_code 36 = .ok (.iload_n 1, 1) := by decide +kernel
theorem d_1_30_37 : decode prog_1_method_30_code 37 = .ok (.invokevirtual 296, 3) := by decide +kernel
theorem d_1_30_40 : decode prog_1_method_30_code 40 = .ok (.ireturn, 1) := by decide +kernel
theorem d_1_31_0 : decode prog_1_method_31_code 0 = .ok (.aload_n 0, 1) := by decide +kernel
theorem d_1_31_1 : decode prog_1_method_31_code 1 = .ok (.getfield 21, 3) := by decide +kernel
theorem d_1_31_4 : decode prog_1_method_31_code 4 = .ok (.aload_n 0, 1) := by decide +kernel
theorem d_1_31_5 : decode prog_1_method_31_code 5 = .ok (.getfield 12, 3) := by decide +kernel
theorem d_1_31_8 : decode prog_1_method_31_code 8 = .ok (.invokevirtual 250, 3) := by decide +kernel
theorem d_1_31_11 : decode prog_1_method_31_code 11 = .ok (.invokevirtual 272, 3) := by decide +kernel
theorem d_1_31_14 : decode prog_1_method_31_code 14 = .ok (.aload_n 0, 1) := by decide +kernel
theorem d_1_31_15 : decode prog_1_method_31_code 15 = .ok (.getfield 21, 3) := by decide +kernel
theorem d_1_31_18 : decode prog_1_method_31_code 18 = .ok (.invokevirtual 293, 3) := by decide +kernel
theorem d_1_31_21 : decode prog_1_method_31_code 21 = .ok (.aload_n 0, 1) := by decide +kernel
theorem d_1_31_22 : decode prog_1_method_31_code 22 = .ok (.getfield 21, 3) := by decide +kernel
theorem d_1_31_25 : decode prog_1_method_31_code 25 = .ok (.getfield 299, 3) := by decide +kernel
theorem d_1_31_28 : decode prog_1_method_31_code 28 = .ok (.aload_n 0, 1) := by decide +kernel
theorem d_1_31_29 : decode prog_1_method_31_code 29 = .ok (.getfield 12, 3) := by decide +kernel
theorem d_1_31_32 : decode prog_1_method_31_code 32 = .ok (.invokevirtual 250, 3) := by decide +kernel
theorem d_1_31_35 : decode prog_1_method_31_code 35 = .ok (.laload, 1) := by decide +kernel
theorem d_1_31_36 : decode prog_1_method_31_code 36 = .ok (.lreturn, 1) := by decide +kernel
theorem d_1_32_0 : decode prog_1_method_32_code 0 = .ok (.iload_n 1, 1) := by decide +kernel
theorem d_1_32_1 : decode prog_1_method_32_code 1 = .ok (.iconst 0, 1) := by decide +kernel
theorem d_1_32_2 : decode prog_1_method_32_code 2 = .ok (.iconst 4, 1) := by decide +kernel
theorem d_1_32_3 : decode prog_1_method_32_code 3 = .ok (.invokestatic 96, 3) := by decide +kernel
theorem d_1_32_6 : decode prog_1_method_32_code 6 = .ok (.aload_n 0, 1) := by decide +kernel
theorem d_1_32_7 : decode prog_1_method_32_code 7 = .ok (.getfield 21, 3) := by decide +kernel
theorem d_1_32_10 : decode prog_1_method_32_code 10 = .ok (.aload_n 0, 1) := by decide +kernel
theorem d_1_32_11 : decode prog_1_method_32_code 11 = .ok (.getfield 12, 3) := by decide +kernel
theorem d_1_32_14 : decode prog_1_method_32_code 14 = .ok (.invokevirtual 250, 3) := by decide +kernel
theorem d_1_32_17 : decode prog_1_method_32_code 17 = .ok (.invokevirtual 272, 3) := by decide +kernel
theorem d_1_32_20 : decode prog_1_method_32_code 20 = .ok (.aload_n 0, 1) := by decide +kernel
theorem d_1_32_21 : decode prog_1_method_32_code 21 = .ok (.getfield 21, 3) := by decide +kernel
theorem d_1_32_24 : decode prog_1_method_32_code 24 = .ok (.iload_n 1, 1) := by decide +kernel
theorem d_1_32_25 : decode prog_1_method_32_code 25 = .ok (.invokevirtual 303, 3) := by decide +kernel
theorem d_1_32_28 : decode prog_1_method_32_code 28 = .ok (.ireturn, 1) := by decide +kernel
theorem d_1_36_0 : decode prog_1_method_36_code 0 = .ok (.iload_n 1, 1) := by decide +kernel
theorem d_1_36_1 : decode prog_1_method_36_code 1 = .ok (.iconst 0, 1) := by decide +kernel
theorem d_1_36_2 : decode prog_1_method_36_code 2 = .ok (.iconst 4, 1) := by decide +kernel
theorem d_1_36_3 : decode prog_1_method_36_code 3 = .ok (.invokestatic 96, 3) := by decide +kernel
theorem d_1_36_6 : decode prog_1_method_36_code 6 = .ok (.aload_n 0, 1) := by decide +kernel
theorem d_1_36_7 : decode prog_1_method_36_code 7 = .ok (.invokevirtual 324, 3) := by decide +kernel
theorem d_1_36_10 : decode prog_1_method_36_code 10 = .ok (.aload_n 0, 1) := by decide +kernel
theorem d_1_36_11 : decode prog_1_method_36_code 11 = .ok (.getfield 30, 3) := by decide +kernel
theorem d_1_36_14 : decode prog_1_method_36_code 14 = .ok (.iload_n 1, 1) := by decide +kernel
theorem d_1_36_15 : decode prog_1_method_36_code 15 = .ok (.invokevirtual 327, 3) := by decide +kernel
theorem d_1_36_18 : decode prog_1_method_36_code 18 = .ok (.ireturn, 1) := by decide +kernel
theorem d_1_37_0 : decode prog_1_method_37_code 0 = .ok (.iload_n 1, 1) := by decide +kernel
theorem d_1_37_1 : decode prog_1_method_37_code 1 = .ok (.iconst 0, 1) := by decide +kernel
theorem d_1_37_2 : decode prog_1_method_37_code 2 = .ok (.iconst 4, 1) := by decide +kernel
theorem d_1_37_3 : decode prog_1_method_37_code 3 = .ok (.invokestatic 96, 3) := by decide +kernel
theorem d_1_37_6 : decode prog_1_method_37_code 6 = .ok (.aload_n 0, 1) := by decide +kernel
theorem d_1_37_7 : decode prog_1_method_37_code 7 = .ok (.invokevirtual 324, 3) := by decide +kernel
theorem d_1_37_10 : decode prog_1_method_37_code 10 = .ok (.iload_n 2, 1) := by decide +kernel
theorem d_1_37_11 : decode prog_1_method_37_code 11 = .ok (.aload_n 0, 1) := by decide +kernel
theorem d_1_37_12 : decode prog_1_method_37_code 12 = .ok (.getfield 30, 3) := by decide +kernel
theorem d_1_37_15 : decode prog_1_method_37_code 15 = .ok (.iload_n 1, 1) := by decide +kernel
theorem d_1_37_16 : decode prog_1_method_37_code 16 = .ok (.invokevirtual 327, 3) := by decide +kernel
theorem d_1_37_19 : decode prog_1_method_37_code 19 = .ok (.iconst (-1), 1) := by decide +kernel
theorem d_1_37_20 : decode prog_1_method_37_code 20 = .ok (.if_icmp .ne 7, 3) := by decide +kernel
theorem d_1_37_23 : decode prog_1_method_37_code 23 = .ok (.iconst 0, 1) := by decide +kernel
theorem d_1_37_24 : decode prog_1_method_37_code 24 = .ok (.goto 10, 3) := by decide +kernel
theorem d_1_37_27 : decode prog_1_method_37_code 27 = .ok (.aload_n 0, 1) := by decide +kernel
theorem d_1_37_28 : decode prog_1_method_37_code 28 = .ok (.getfield 12, 3) := by decide +kernel
theorem d_1_37_31 : decode prog_1_method_37_code 31 = .ok (.getfield 75, 3) := by decide +kernel
theorem d_1_37_34 : decode prog_1_method_37_code 34 = .ok (.invokestatic 172, 3) := by decide +kernel
theorem d_1_37_37 : decode prog_1_method_37_code 37 = .ok (.aload_n 0, 1) := by decide +kernel
theorem d_1_37_38 : decode prog_1_method_37_code 38 = .ok (.getfield 30, 3) := by decide +kernel
theorem d_1_37_41 : decode prog_1_method_37_code 41 = .ok (.getfield 330, 3) := by decide +kernel
theorem d_1_37_44 : decode prog_1_method_37_code 44 = .ok (.iload_n 2, 1) := by decide +kernel
theorem d_1_37_45 : decode prog_1_method_37_code 45 = .ok (.iaload, 1) := by decide +kernel
theorem d_1_37_46 : decode prog_1_method_37_code 46 = .ok (.ireturn, 1) := by decide +kernel
theorem d_1_3_0 : decode prog_1_method_3_code 0 = .ok (.iload_n 2, 1) := by decide +kernel
theorem d_1_3_1 : decode prog_1_method_3_code 1 = .ok (.iload_n 1, 1) := by decide +kernel
theorem d_1_3_2 : decode prog_1_method_3_code 2 = .ok (.ifCond .eq 13, 3) := by decide +kernel
theorem d_1_3_5 : decode prog_1_method_3_code 5 = .ok (.aload_n 0, 1) := by decide +kernel
theorem d_1_3_6 : decode prog_1_method_3_code 6 = .ok (.getfield 37, 3) := by decide +kernel
theorem d_1_3_9 : decode prog_1_method_3_code 9 = .ok (.getfield 90, 3) := by decide +kernel
theorem d_1_3_12 : decode prog_1_method_3_code 12 = .ok (.goto 10, 3) := by decide +kernel
theorem d_1_3_15 : decode prog_1_method_3_code 15 = .ok (.aload_n 0, 1) := by decide +kernel
theorem d_1_3_16 : decode prog_1_method_3_code 16 = .ok (.getfield 12, 3) := by decide +kernel
theorem d_1_3_19 : decode prog_1_method_3_code 19 = .ok (.getfield 75, 3) := by decide +kernel
theorem d_1_3_22 : decode prog_1_method_3_code 22 = .ok (.invokestatic 93, 3) := by decide +kernel
theorem d_1_3_25 : decode prog_1_method_3_code 25 = .ok (.iload_n 3, 1) := by decide +kernel
theorem d_1_3_26 : decode prog_1_method_3_code 26 = .ok (.iconst 0, 1) := by decide +kernel
theorem d_1_3_27 : decode prog_1_method_3_code 27 = .ok (.bipush 99, 2) := by decide +kernel
theorem d_1_3_29 : decode prog_1_method_3_code 29 = .ok (.invokestatic 96, 3) := by decide +kernel
theorem d_1_3_32 : decode prog_1_method_3_code 32 = .ok (.iload_n 1, 1) := by decide +kernel
theorem d_1_3_33 : decode prog_1_method_3_code 33 = .ok (.ifCond .eq 13, 3) := by decide +kernel
theorem d_1_3_36 : decode prog_1_method_3_code 36 = .ok (.aload_n 0, 1) := by decide +kernel
theorem d_1_3_37 : decode prog_1_method_3_code 37 = .ok (.getfield 37, 3) := by decide +kernel
theorem d_1_3_40 : decode prog_1_method_3_code 40 = .ok (.getfield 99, 3) := by decide +kernel
theorem d_1_3_43 : decode prog_1_method_3_code 43 = .ok (.goto 10, 3) := by decide +kernel
theorem d_1_3_46 : decode prog_1_method_3_code 46 = .ok (.aload_n 0, 1) := by decide +kernel
theorem d_1_3_47 : decode prog_1_method_3_code 47 = .ok (.getfield 12, 3) := by decide +kernel
theorem d_1_3_50 : decode prog_1_method_3_code 50 = .ok (.getfield 83, 3) := by decide +kernel
theorem d_1_3_53 : decode prog_1_method_3_code 53 = .ok (.astore 4, 2) := by decide +kernel
theorem d_1_3_55 : decode prog_1_method_3_code 55 = .ok (.aload 4, 2) := by decide +kernel
theorem d_1_3_57 : decode prog_1_method_3_code 57 = .ok (.iload_n 2, 1) := by decide +kernel
theorem d_1_3_58 : decode prog_1_method_3_code 58 = .ok (.iaload, 1) := by decide +kernel
theorem d_1_3_59 : decode prog_1_method_3_code 59 = .ok (.istore 5, 2) := by decide +kernel
theorem d_1_3_61 : decode prog_1_method_3_code 61 = .ok (.aload 4, 2) := by decide +kernel
theorem d_1_3_63 : decode prog_1_method_3_code 63 = .ok (.iload_n 2, 1) := by decide +kernel
theorem d_1_3_64 : decode prog_1_method_3_code 64 = .ok (.iload_n 3, 1) := by decide +kernel
theorem d_1_3_65 : decode prog_1_method_3_code 65 = .ok (.iastore, 1) := by decide +kernel
theorem d_1_3_66 : decode prog_1_method_3_code 66 = .ok (.aload_n 0, 1) := by decide +kernel
theorem d_1_3_67 : decode prog_1_method_3_code 67 = .ok (.iload_n 1, 1) := by decide +kernel
theorem d_1_3_68 : decode prog_1_method_3_code 68 = .ok (.ifCond .eq 7, 3) := by decide +kernel
theorem d_1_3_71 : decode prog_1_method_3_code 71 = .ok (.iconst 2, 1) := by decide +kernel
theorem d_1_3_72 : decode prog_1_method_3_code 72 = .ok (.goto 4, 3) := by decide +kernel
theorem d_1_3_75 : decode prog_1_method_3_code 75 = .ok (.iconst 1, 1) := by decide +kernel
theorem d_1_3_76 : decode prog_1_method_3_code 76 = .ok (.iload_n 2, 1) := by decide +kernel
theorem d_1_3_77 : decode prog_1_method_3_code 77 = .ok (.iload 5, 2) := by decide +kernel
theorem d_1_3_79 : decode prog_1_method_3_code 79 = .ok (.invokevirtual 86, 3) := by decide +kernel
theorem d_1_3_82 : decode prog_1_method_3_code 82 = .ok (.iload 5, 2) := by decide +kernel
theorem d_1_3_84 : decode prog_1_method_3_code 84 = .ok (.ireturn, 1) := by decide +kernel
theorem d_1_41_0 : decode prog_1_method_41_code 0 = .ok (.iload_n 1, 1) := by decide +kernel
theorem d_1_41_1 : decode prog_1_method_41_code 1 = .ok (.iconst 1, 1) := by decide +kernel
theorem d_1_41_2 : decode prog_1_method_41_code 2 = .ok (.ldc 109, 2) := by decide +kernel
theorem d_1_41_4 : decode prog_1_method_41_code 4 = .ok (.invokestatic 96, 3) := by decide +kernel
theorem d_1_41_7 : decode prog_1_method_41_code 7 = .ok (.iload_n 2, 1) := by decide +kernel
theorem d_1_41_8 : decode prog_1_method_41_code 8 = .ok (.iconst 0, 1) := by decide +kernel
theorem d_1_41_9 : decode prog_1_method_41_code 9 = .ok (.ldc 109, 2) := by decide +kernel
theorem d_1_41_11 : decode prog_1_method_41_code 11 = .ok (.invokestatic 96, 3) := by decide +kernel
theorem d_1_41_14 : decode prog_1_method_41_code 14 = .ok (.iload_n 3, 1) := by decide +kernel
theorem d_1_41_15 : decode prog_1_method_41_code 15 = .ok (.iconst 0, 1) := by decide +kernel
theorem d_1_41_16 : decode prog_1_method_41_code 16 = .ok (.ldc 109, 2) := by decide +kernel
theorem d_1_41_18 : decode prog_1_method_41_code 18 = .ok (.invokestatic 96, 3) := by decide +kernel
theorem d_1_41_21 : decode prog_1_method_41_code 21 = .ok (.aload_n 0, 1) := by decide +kernel
theorem d_1_41_22 : decode prog_1_method_41_code 22 = .ok (.getfield 51, 3) := by decide +kernel
theorem d_1_41_25 : decode prog_1_method_41_code 25 = .ok (.getfield 340, 3) := by decide +kernel
theorem d_1_41_28 : decode prog_1_method_41_code 28 = .ok (.iconst 1, 1) := by decide +kernel
theorem d_1_41_29 : decode prog_1_method_41_code 29 = .ok (.iadd, 1) := by decide +kernel
theorem d_1_41_30 : decode prog_1_method_41_code 30 = .ok (.bipush 16, 2) := by decide +kernel
theorem d_1_41_32 : decode prog_1_method_41_code 32 = .ok (.invokestatic 79, 3) := by decide +kernel
theorem d_1_41_35 : decode prog_1_method_41_code 35 = .ok (.aload_n 0, 1) := by decide +kernel
theorem d_1_41_36 : decode prog_1_method_41_code 36 = .ok (.getfield 51, 3) := by decide +kernel
theorem d_1_41_39 : decode prog_1_method_41_code 39 = .ok (.iload_n 1, 1) := by decide +kernel
theorem d_1_41_40 : decode prog_1_method_41_code 40 = .ok (.iload_n 2, 1) := by decide +kernel
theorem d_1_41_41 : decode prog_1_method_41_code 41 = .ok (.iload_n 3, 1) := by decide +kernel
theorem d_1_41_42 : decode prog_1_method_41_code 42 = .ok (.invokevirtual 341, 3) := by decide +kernel
theorem d_1_41_45 : decode prog_1_method_41_code 45 = .ok (.istore 4, 2) := by decide +kernel
theorem d_1_41_47 : decode prog_1_method_41_code 47 = .ok (.aload_n 0, 1) := by decide +kernel
theorem d_1_41_48 : decode prog_1_method_41_code 48 = .ok (.bipush 10, 2) := by decide +kernel
theorem d_1_41_50 : decode prog_1_method_41_code 50 = .ok (.iload 4, 2) := by decide +kernel
theorem d_1_41_52 : decode prog_1_method_41_code 52 = .ok (.iconst 0, 1) := by decide +kernel
theorem d_1_41_53 : decode prog_1_method_41_code 53 = .ok (.invokevirtual 86, 3) := by decide +kernel
theorem d_1_41_56 : decode prog_1_method_41_code 56 = .ok (.iload 4, 2) := by decide +kernel
theorem d_1_41_58 : decode prog_1_method_41_code 58 = .ok (.ireturn, 1) := by decide +kernel
theorem d_1_42_0 : decode prog_1_method_42_code 0 = .ok (.iload_n 1, 1) := by decide +kernel
theorem d_1_42_1 : decode prog_1_method_42_code 1 = .ok (.iconst 1, 1) := by decide +kernel
theorem d_1_42_2 : decode prog_1_method_42_code 2 = .ok (.aload_n 0, 1) := by decide +kernel
theorem d_1_42_3 : decode prog_1_method_42_code 3 = .ok (.getfield 51, 3) := by decide +kernel
theorem d_1_42_6 : decode prog_1_method_42_code 6 = .ok (.getfield 340, 3) := by decide +kernel
theorem d_1_42_9 : decode prog_1_method_42_code 9 = .ok (.invokestatic 96, 3) := by decide +kernel
theorem d_1_42_12 : decode prog_1_method_42_code 12 = .ok (.aload_n 0, 1) := by decide +kernel
theorem d_1_42_13 : decode prog_1_method_42_code 13 = .ok (.getfield 51, 3) := by decide +kernel
theorem d_1_42_16 : decode prog_1_method_42_code 16 = .ok (.iload_n 1, 1) := by decide +kernel
theorem d_1_42_17 : decode prog_1_method_42_code 17 = .ok (.invokevirtual 343, 3) := by decide +kernel
theorem d_1_42_20 : decode prog_1_method_42_code 20 = .ok (.ireturn, 1) := by decide +kernel
theorem d_1_43_0 : decode prog_1_method_43_code 0 = .ok (.iload_n 1, 1) := by decide +kernel
theorem d_1_43_1 : decode prog_1_method_43_code 1 = .ok (.iconst 1, 1) := by decide +kernel
theorem d_1_43_2 : decode prog_1_method_43_code 2 = .ok (.aload_n 0, 1) := by decide +kernel
theorem d_1_43_3 : decode prog_1_method_43_code 3 = .ok (.getfield 51, 3) := by decide +kernel
theorem d_1_43_6 : decode prog_1_method_43_code 6 = .ok (.getfield 340, 3) := by decide +kernel
theorem d_1_43_9 : decode prog_1_method_43_code 9 = .ok (.invokestatic 96, 3) := by decide +kernel
theorem d_1_43_12 : decode prog_1_method_43_code 12 = .ok (.iload_n 2, 1) := by decide +kernel
theorem d_1_43_13 : decode prog_1_method_43_code 13 = .ok (.iload_n 1, 1) := by decide +kernel
theorem d_1_43_14 : decode prog_1_method_43_code 14 = .ok (.invokestatic 172, 3) := by decide +kernel
theorem d_1_43_17 : decode prog_1_method_43_code 17 = .ok (.aload_n 0, 1) := by decide +kernel
theorem d_1_43_18 : decode prog_1_method_43_code 18 = .ok (.getfield 51, 3) := by decide +kernel
theorem d_1_43_21 : decode prog_1_method_43_code 21 = .ok (.iload_n 1, 1) := by decide +kernel
theorem d_1_43_22 : decode prog_1_method_43_code 22 = .ok (.invokevirtual 343, 3) := by decide +kernel
theorem d_1_43_25 : decode prog_1_method_43_code 25 = .ok (.pop, 1) := by decide +kernel
theorem d_1_43_26 : decode prog_1_method_43_code 26 = .ok (.aload_n 0, 1) := by decide +kernel
theorem d_1_43_27 : decode prog_1_method_43_code 27 = .ok (.getfield 51, 3) := by decide +kernel
theorem d_1_43_30 : decode prog_1_method_43_code 30 = .ok (.getfield 346, 3) := by decide +kernel
theorem d_1_43_33 : decode prog_1_method_43_code 33 = .ok (.iload_n 2, 1) := by decide +kernel
theorem d_1_43_34 : decode prog_1_method_43_code 34 = .ok (.iaload, 1) := by decide +kernel
theorem d_1_43_35 : decode prog_1_method_43_code 35 = .ok (.ireturn, 1) := by decide +kernel
theorem d_1_44_0 : decode prog_1_method_44_code 0 = .ok (.iload_n 1, 1) := by decide +kernel
theorem d_1_44_1 : decode prog_1_method_44_code 1 = .ok (.iconst 1, 1) := by decide +kernel
theorem d_1_44_2 : decode prog_1_method_44_code 2 = .ok (.aload_n 0, 1) := by decide +kernel
theorem d_1_44_3 : decode prog_1_method_44_code 3 = .ok (.getfield 51, 3) := by decide +kernel
theorem d_1_44_6 : decode prog_1_method_44_code 6 = .ok (.getfield 340, 3) := by decide +kernel
theorem d_1_44_9 : decode prog_1_method_44_code 9 = .ok (.invokestatic 96, 3) := by decide +kernel
theorem d_1_44_12 : decode prog_1_method_44_code 12 = .ok (.iload_n 2, 1) := by decide +kernel
theorem d_1_44_13 : decode prog_1_method_44_code 13 = .ok (.iconst 0, 1) := by decide +kernel
theorem d_1_44_14 : decode prog_1_method_44_code 14 = .ok (.iconst 1, 1) := by decide +kernel
theorem d_1_44_15 : decode prog_1_method_44_code 15 = .ok (.invokestatic 96, 3) := by decide +kernel
theorem d_1_44_18 : decode prog_1_method_44_code 18 = .ok (.aload_n 0, 1) := by decide +kernel
theorem d_1_44_19 : decode prog_1_method_44_code 19 = .ok (.getfield 51, 3) := by decide +kernel
theorem d_1_44_22 : decode prog_1_method_44_code 22 = .ok (.iload_n 1, 1) := by decide +kernel
theorem d_1_44_23 : decode prog_1_method_44_code 23 = .ok (.invokevirtual 343, 3) := by decide +kernel
theorem d_1_44_26 : decode prog_1_method_44_code 26 = .ok (.pop, 1) := by decide +kernel
theorem d_1_44_27 : decode prog_1_method_44_code 27 = .ok (.iconst 0, 1) := by decide +kernel
theorem d_1_44_28 : decode prog_1_method_44_code 28 = .ok (.istore_n 3, 1) := by decide +kernel
theorem d_1_44_29 : decode prog_1_method_44_code 29 = .ok (.iconst 0, 1) := by decide +kernel
theorem d_1_44_30 : decode prog_1_method_44_code 30 = .ok (.istore 4, 2) := by decide +kernel
theorem d_1_44_32 : decode prog_1_method_44_code 32 = .ok (.iload 4, 2) := by decide +kernel
theorem d_1_44_34 : decode prog_1_method_44_code 34 = .ok (.iload_n 1, 1) := by decide +kernel
theorem d_1_44_35 : decode prog_1_method_44_code 35 = .ok (.if_icmp .ge 37, 3) := by decide +kernel
theorem d_1_44_38 : decode prog_1_method_44_code 38 = .ok (.aload_n 0, 1) := by decide +kernel
theorem d_1_44_39 : decode prog_1_method_44_code 39 = .ok (.getfield 51, 3) := by decide +kernel
theorem d_1_44_42 : decode prog_1_method_44_code 42 = .ok (.iload 4, 2) := by decide +kernel
theorem d_1_44_44 : decode prog_1_method_44_code 44 = .ok (.iload_n 2, 1) := by decide +kernel
theorem d_1_44_45 : decode prog_1_method_44_code 45 = .ok (.invokevirtual 349, 3) := by decide +kernel
theorem d_1_44_48 : decode prog_1_method_44_code 48 = .ok (.aload_n 0, 1) := by decide +kernel
theorem d_1_44_49 : decode prog_1_method_44_code 49 = .ok (.getfield 51, 3) := by decide +kernel
theorem d_1_44_52 : decode prog_1_method_44_code 52 = .ok (.iload 4, 2) := by decide +kernel
theorem d_1_44_54 : decode prog_1_method_44_code 54 = .ok (.iconst 1, 1) := by decide +kernel
theorem d_1_44_55 : decode prog_1_method_44_code 55 = .ok (.iload_n 2, 1) := by decide +kernel
theorem d_1_44_56 : decode prog_1_method_44_code 56 = .ok (.isub, 1) := by decide +kernel
theorem d_1_44_57 : decode prog_1_method_44_code 57 = .ok (.invokevirtual 349, 3) := by decide +kernel
theorem d_1_44_60 : decode prog_1_method_44_code 60 = .ok (.if_icmp .le 6, 3) := by decide +kernel
theorem d_1_44_63 : decode prog_1_method_44_code 63 = .ok (.iinc 3 1, 3) := by decide +kernel
theorem d_1_44_66 : decode prog_1_method_44_code 66 = .ok (.iinc 4 1, 3) := by decide +kernel
theorem d_1_44_69 : decode prog_1_method_44_code 69 = .ok (.goto (-37), 3) := by decide +kernel
theorem d_1_44_72 : decode prog_1_method_44_code 72 = .ok (.iload_n 3, 1) := by decide +kernel
theorem d_1_44_73 : decode prog_1_method_44_code 73 = .ok (.ireturn, 1) := by decide +kernel
theorem d_1_45_0 : decode prog_1_method_45_code 0 = .ok (.iload_n 1, 1) := by decide +kernel
theorem d_1_45_1 : decode prog_1_method_45_code 1 = .ok (.iconst 1, 1) := by decide +kernel
theorem d_1_45_2 : decode prog_1_method_45_code 2 = .ok (.aload_n 0, 1) := by decide +kernel
theorem d_1_45_3 : decode prog_1_method_45_code 3 = .ok (.getfield 51, 3) := by decide +kernel
theorem d_1_45_6 : decode prog_1_method_45_code 6 = .ok (.getfield 340, 3) := by decide +kernel
theorem d_1_45_9 : decode prog_1_method_45_code 9 = .ok (.invokestatic 96, 3) := by decide +kernel
theorem d_1_45_12 : decode prog_1_method_45_code 12 = .ok (.iload_n 2, 1) := by decide +kernel
theorem d_1_45_13 : decode prog_1_method_45_code 13 = .ok (.iconst 0, 1) := by decide +kernel
theorem d_1_45_14 : decode prog_1_method_45_code 14 = .ok (.iconst 1, 1) := by decide +kernel
theorem d_1_45_15 : decode prog_1_method_45_code 15 = .ok (.invokestatic 96, 3) := by decide +kernel
theorem d_1_45_18 : decode prog_1_method_45_code 18 = .ok (.aload_n 0, 1) := by decide +kernel
theorem d_1_45_19 : decode prog_1_method_45_code 19 = .ok (.getfield 51, 3) := by decide +kernel
theorem d_1_45_22 : decode prog_1_method_45_code 22 = .ok (.iload_n 1, 1) := by decide +kernel
theorem d_1_45_23 : decode prog_1_method_45_code 23 = .ok (.invokevirtual 343, 3) := by decide +kernel
theorem d_1_45_26 : decode prog_1_method_45_code 26 = .ok (.pop, 1) := by decide +kernel
theorem d_1_45_27 : decode prog_1_method_45_code 27 = .ok (.iconst 0, 1) := by decide +kernel
theorem d_1_45_28 : decode prog_1_method_45_code 28 = .ok (.istore_n 3, 1) := by decide +kernel
theorem d_1_45_29 : decode prog_1_method_45_code 29 = .ok (.iconst 0, 1) := by decide +kernel
theorem d_1_45_30 : decode prog_1_method_45_code 30 = .ok (.istore 4, 2) := by decide +kernel
theorem d_1_45_32 : decode prog_1_method_45_code 32 = .ok (.iload 4, 2) := by decide +kernel
theorem d_1_45_34 : decode prog_1_method_45_code 34 = .ok (.iload_n 1, 1) := by decide +kernel
theorem d_1_45_35 : decode prog_1_method_45_code 35 = .ok (.if_icmp .ge 62, 3) := by decide +kernel
theorem d_1_45_38 : decode prog_1_method_45_code 38 = .ok (.aload_n 0, 1) := by decide +kernel
theorem d_1_45_39 : decode prog_1_method_45_code 39 = .ok (.getfield 51, 3) := by decide +kernel
theorem d_1_45_42 : decode prog_1_method_45_code 42 = .ok (.iload 4, 2) := by decide +kernel
theorem d_1_45_44 : decode prog_1_method_45_code 44 = .ok (.iload_n 2, 1) := by decide +kernel
theorem d_1_45_45 : decode prog_1_method_45_code 45 = .ok (.invokevirtual 349, 3) := by decide +kernel
theorem d_1_45_48 : decode prog_1_method_45_code 48 = .ok (.istore 5, 2) := by decide +kernel
theorem d_1_45_50 : decode prog_1_method_45_code 50 = .ok (.aload_n 0, 1) := by decide +kernel
theorem d_1_45_51 : decode prog_1_method_45_code 51 = .ok (.getfield 51, 3) := by decide +kernel
theorem d_1_45_54 : decode prog_1_method_45_code 54 = .ok (.iload 4, 2) := by decide +kernel
theorem d_1_45_56 : decode prog_1_method_45_code 56 = .ok (.iconst 1, 1) := by decide +kernel
theorem d_1_45_57 : decode prog_1_method_45_code 57 = .ok (.iload_n 2, 1) := by decide +kernel
theorem d_1_45_58 : decode prog_1_method_45_code 58 = .ok (.isub, 1) := by decide +kernel
theorem d_1_45_59 : decode prog_1_method_45_code 59 = .ok (.invokevirtual 349, 3) := by decide +kernel
theorem d_1_45_62 : decode prog_1_method_45_code 62 = .ok (.istore 6, 2) := by decide +kernel
theorem d_1_45_64 : decode prog_1_method_45_code 64 = .ok (.iload_n 3, 1) := by decide +kernel
theorem d_1_45_65 : decode prog_1_method_45_code 65 = .ok (.iload 5, 2) := by decide +kernel
theorem d_1_45_67 : decode prog_1_method_45_code 67 = .ok (.iload 6, 2) := by decide +kernel
theorem d_1_45_69 : decode prog_1_method_45_code 69 = .ok (.if_icmp .le 18, 3) := by decide +kernel
theorem d_1_45_72 : decode prog_1_method_45_code 72 = .ok (.iload 5, 2) := by decide +kernel
theorem d_1_45_74 : decode prog_1_method_45_code 74 = .ok (.iload 5, 2) := by decide +kernel
theorem d_1_45_76 : decode prog_1_method_45_code 76 = .ok (.iload 6, 2) := by decide +kernel
theorem d_1_45_78 : decode prog_1_method_45_code 78 = .ok (.iadd, 1) := by decide +kernel
theorem d_1_45_79 : decode prog_1_method_45_code 79 = .ok (.iconst 2, 1) := by decide +kernel
theorem d_1_45_80 : decode prog_1_method_45_code 80 = .ok (.idiv, 1) := by decide +kernel
theorem d_1_45_81 : decode prog_1_method_45_code 81 = .ok (.isub, 1) := by decide +kernel
theorem d_1_45_82 : decode prog_1_method_45_code 82 = .ok (.iconst 1, 1) := by decide +kernel
theorem d_1_45_83 : decode prog_1_method_45_code 83 = .ok (.isub, 1) := by decide +kernel
theorem d_1_45_84 : decode prog_1_method_45_code 84 = .ok (.goto 5, 3) := by decide +kernel
theorem d_1_45_87 : decode prog_1_method_45_code 87 = .ok (.iload 5, 2) := by decide +kernel
theorem d_1_45_89 : decode prog_1_method_45_code 89 = .ok (.iadd, 1) := by decide +kernel
theorem d_1_45_90 : decode prog_1_method_45_code 90 = .ok (.istore_n 3, 1) := by decide +kernel
theorem d_1_45_91 : decode prog_1_method_45_code 91 = .ok (.iinc 4 1, 3) := by decide +kernel
theorem d_1_45_94 : decode prog_1_method_45_code 94 = .ok (.goto (-62), 3) := by decide +kernel
theorem d_1_45_97 : decode prog_1_method_45_code 97 = .ok (.iload_n 3, 1) := by decide +kernel
theorem d_1_45_98 : decode prog_1_method_45_code 98 = .ok (.ireturn, 1) := by decide +kernel
theorem d_1_46_0 : decode prog_1_method_46_code 0 = .ok (.iload_n 1, 1) := by decide +kernel
theorem d_1_46_1 : decode prog_1_method_46_code 1 = .ok (.iconst 0, 1) := by decide +kernel
theorem d_1_46_2 : decode prog_1_method_46_code 2 = .ok (.sipush 1000, 3) := by decide +kernel
theorem d_1_46_5 : decode prog_1_method_46_code 5 = .ok (.invokestatic 96, 3) := by decide +kernel
theorem d_1_46_8 : decode prog_1_method_46_code 8 = .ok (.aload_n 0, 1) := by decide +kernel
theorem d_1_46_9 : decode prog_1_method_46_code 9 = .ok (.getfield 58, 3) := by decide +kernel
theorem d_1_46_12 : decode prog_1_method_46_code 12 = .ok (.getfield 352, 3) := by decide +kernel
theorem d_1_46_15 : decode prog_1_method_46_code 15 = .ok (.iconst 1, 1) := by decide +kernel
theorem d_1_46_16 : decode prog_1_method_46_code 16 = .ok (.iadd, 1) := by decide +kernel
theorem d_1_46_17 : decode prog_1_method_46_code 17 = .ok (.bipush 12, 2) := by decide +kernel
theorem d_1_46_19 : decode prog_1_method_46_code 19 = .ok (.invokestatic 79, 3) := by decide +kernel
theorem d_1_46_22 : decode prog_1_method_46_code 22 = .ok (.aload_n 0, 1) := by decide +kernel
theorem d_1_46_23 : decode prog_1_method_46_code 23 = .ok (.getfield 58, 3) := by decide +kernel
theorem d_1_46_26 : decode prog_1_method_46_code 26 = .ok (.iload_n 1, 1) := by decide +kernel
theorem d_1_46_27 : decode prog_1_method_46_code 27 = .ok (.invokevirtual 353, 3) := by decide +kernel
theorem d_1_46_30 : decode prog_1_method_46_code 30 = .ok (.istore_n 2, 1) := by decide +kernel
theorem d_1_46_31 : decode prog_1_method_46_code 31 = .ok (.aload_n 0, 1) := by decide +kernel
theorem d_1_46_32 : decode prog_1_method_46_code 32 = .ok (.bipush 11, 2) := by decide +kernel
theorem d_1_46_34 : decode prog_1_method_46_code 34 = .ok (.iload_n 2, 1) := by decide +kernel
theorem d_1_46_35 : decode prog_1_method_46_code 35 = .ok (.iconst 0, 1) := by decide +kernel
theorem d_1_46_36 : decode prog_1_method_46_code 36 = .ok (.invokevirtual 86, 3) := by decide +kernel
theorem d_1_46_39 : decode prog_1_method_46_code 39 = .ok (.iload_n 2, 1) := by decide +kernel
theorem d_1_46_40 : decode prog_1_method_46_code 40 = .ok (.ireturn, 1) := by decide +kernel
theorem d_1_47_0 : decode prog_1_method_47_code 0 = .ok (.iload_n 1, 1) := by decide +kernel
theorem d_1_47_1 : decode prog_1_method_47_code 1 = .ok (.iconst 1, 1) := by decide +kernel
theorem d_1_47_2 : decode prog_1_method_47_code 2 = .ok (.sipush 12000, 3) := by decide +kernel
theorem d_1_47_5 : decode prog_1_method_47_code 5 = .ok (.invokestatic 96, 3) := by decide +kernel
theorem d_1_47_8 : decode prog_1_method_47_code 8 = .ok (.aload_n 0, 1) := by decide +kernel
theorem d_1_47_9 : decode prog_1_method_47_code 9 = .ok (.getfield 58, 3) := by decide +kernel
theorem d_1_47_12 : decode prog_1_method_47_code 12 = .ok (.getfield 354, 3) := by decide +kernel
theorem d_1_47_15 : decode prog_1_method_47_code 15 = .ok (.istore_n 2, 1) := by decide +kernel
theorem d_1_47_16 : decode prog_1_method_47_code 16 = .ok (.aload_n 0, 1) := by decide +kernel
theorem d_1_47_17 : decode prog_1_method_47_code 17 = .ok (.getfield 58, 3) := by decide +kernel
theorem d_1_47_20 : decode prog_1_method_47_code 20 = .ok (.iload_n 1, 1) := by decide +kernel
theorem d_1_47_21 : decode prog_1_method_47_code 21 = .ok (.putfield 354, 3) := by decide +kernel
theorem d_1_47_24 : decode prog_1_method_47_code 24 = .ok (.aload_n 0, 1) := by decide +kernel
theorem d_1_47_25 : decode prog_1_method_47_code 25 = .ok (.bipush 12, 2) := by decide +kernel
theorem d_1_47_27 : decode prog_1_method_47_code 27 = .ok (.iconst 0, 1) := by decide +kernel
theorem d_1_47_28 : decode prog_1_method_47_code 28 = .ok (.iload_n 2, 1) := by decide +kernel
theorem d_1_47_29 : decode prog_1_method_47_code 29 = .ok (.invokevirtual 86, 3) := by decide +kernel
theorem d_1_47_32 : decode prog_1_method_47_code 32 = .ok (.iload_n 2, 1) := by decide +kernel
theorem d_1_47_33 : decode prog_1_method_47_code 33 = .ok (.ireturn, 1) := by decide +kernel
theorem d_1_48_0 : decode prog_1_method_48_code 0 = .ok (.iload_n 1, 1) := by decide +kernel
theorem d_1_48_1 : decode prog_1_method_48_code 1 = .ok (.aload_n 0, 1) := by decide +kernel
theorem d_1_48_2 : decode prog_1_method_48_code 2 = .ok (.getfield 58, 3) := by decide +kernel
theorem d_1_48_5 : decode prog_1_method_48_code 5 = .ok (.getfield 352, 3) := by decide +kernel
theorem d_1_48_8 : decode prog_1_method_48_code 8 = .ok (.invokestatic 93, 3) := by decide +kernel
theorem d_1_48_11 : decode prog_1_method_48_code 11 = .ok (.aload_n 0, 1) := by decide +kernel
theorem d_1_48_12 : decode prog_1_method_48_code 12 = .ok (.getfield 58, 3) := by decide +kernel
theorem d_1_48_15 : decode prog_1_method_48_code 15 = .ok (.invokevirtual 355, 3) := by decide +kernel
theorem d_1_48_18 : decode prog_1_method_48_code 18 = .ok (.aload_n 0, 1) := by decide +kernel
theorem d_1_48_19 : decode prog_1_method_48_code 19 = .ok (.getfield 58, 3) := by decide +kernel
theorem d_1_48_22 : decode prog_1_method_48_code 22 = .ok (.iload_n 1, 1) := by decide +kernel
theorem d_1_48_23 : decode prog_1_method_48_code 23 = .ok (.invokevirtual 358, 3) := by decide +kernel
theorem d_1_48_26 : decode prog_1_method_48_code 26 = .ok (.ireturn, 1) := by decide +kernel
theorem d_1_49_0 : decode prog_1_method_49_code 0 = .ok (.iload_n 1, 1) := by decide +kernel
theorem d_1_49_1 : decode prog_1_method_49_code 1 = .ok (.aload_n 0, 1) := by decide +kernel
theorem d_1_49_2 : decode prog_1_method_49_code 2 = .ok (.getfield 58, 3) := by decide +kernel
theorem d_1_49_5 : decode prog_1_method_49_code 5 = .ok (.getfield 352, 3) := by decide +kernel
theorem d_1_49_8 : decode prog_1_method_49_code 8 = .ok (.invokestatic 93, 3) := by decide +kernel
theorem d_1_49_11 : decode prog_1_method_49_code 11 = .ok (.aload_n 0, 1) := by decide +kernel
theorem d_1_49_12 : decode prog_1_method_49_code 12 = .ok (.getfield 58, 3) := by decide +kernel
theorem d_1_49_15 : decode prog_1_method_49_code 15 = .ok (.invokevirtual 355, 3) := by decide +kernel
theorem d_1_49_18 : decode prog_1_method_49_code 18 = .ok (.aload_n 0, 1) := by decide +kernel
theorem d_1_49_19 : decode prog_1_method_49_code 19 = .ok (.getfield 58, 3) := by decide +kernel
theorem d_1_49_22 : decode prog_1_method_49_code 22 = .ok (.iload_n 1, 1) := by decide +kernel
theorem d_1_49_23 : decode prog_1_method_49_code 23 = .ok (.invokevirtual 361, 3) := by decide +kernel
theorem d_1_49_26 : decode prog_1_method_49_code 26 = .ok (.lreturn, 1) := by decide +kernel
theorem d_1_4_0 : decode prog_1_method_4_code 0 = .ok (.iconst 0, 1) := by decide +kernel
theorem d_1_4_1 : decode prog_1_method_4_code 1 = .ok (.istore_n 3, 1) := by decide +kernel
theorem d_1_4_2 : decode prog_1_method_4_code 2 = .ok (.bipush 56, 2) := by decide +kernel
theorem d_1_4_4 : decode prog_1_method_4_code 4 = .ok (.istore 4, 2) := by decide +kernel
theorem d_1_4_6 : decode prog_1_method_4_code 6 = .ok (.iload 4, 2) := by decide +kernel
theorem d_1_4_8 : decode prog_1_method_4_code 8 = .ok (.ifCond .lt 25, 3) := by decide +kernel
theorem d_1_4_11 : decode prog_1_method_4_code 11 = .ok (.lload_n 1, 1) := by decide +kernel
theorem d_1_4_12 : decode prog_1_method_4_code 12 = .ok (.iload 4, 2) := by decide +kernel
theorem d_1_4_14 : decode prog_1_method_4_code 14 = .ok (.lshr, 1) := by decide +kernel
theorem d_1_4_15 : decode prog_1_method_4_code 15 = .ok (.ldc2_w 100, 3) := by decide +kernel
theorem d_1_4_18 : decode prog_1_method_4_code 18 = .ok (.land, 1) := by decide +kernel
theorem d_1_4_19 : decode prog_1_method_4_code 19 = .ok (.lconst 0, 1) := by decide +kernel
theorem d_1_4_20 : decode prog_1_method_4_code 20 = .ok (.lcmp, 1) := by decide +kernel
theorem d_1_4_21 : decode prog_1_method_4_code 21 = .ok (.ifCond .eq 6, 3) := by decide +kernel
theorem d_1_4_24 : decode prog_1_method_4_code 24 = .ok (.iinc 3 1, 3) := by decide +kernel
theorem d_1_4_27 : decode prog_1_method_4_code 27 = .ok (.iinc 4 (-8), 3) := by decide +kernel
theorem d_1_4_30 : decode prog_1_method_4_code 30 = .ok (.goto (-24), 3) := by decide +kernel
theorem d_1_4_33 : decode prog_1_method_4_code 33 = .ok (.aload_n 0, 1) := by decide +kernel
theorem d_1_4_34 : decode prog_1_method_4_code 34 = .ok (.getfield 12, 3) := by decide +kernel
theorem d_1_4_37 : decode prog_1_method_4_code 37 = .ok (.getfield 102, 3) := by decide +kernel
theorem d_1_4_40 : decode prog_1_method_4_code 40 = .ok (.iload_n 3, 1) := by decide +kernel
theorem d_1_4_41 : decode prog_1_method_4_code 41 = .ok (.iadd, 1) := by decide +kernel
theorem d_1_4_42 : decode prog_1_method_4_code 42 = .ok (.bipush 30, 2) := by decide +kernel
theorem d_1_4_44 : decode prog_1_method_4_code 44 = .ok (.invokestatic 79, 3) := by decide +kernel
theorem d_1_4_47 : decode prog_1_method_4_code 47 = .ok (.bipush 56, 2) := by decide +kernel
theorem d_1_4_49 : decode prog_1_method_4_code 49 = .ok (.istore 4, 2) := by decide +kernel
theorem d_1_4_51 : decode prog_1_method_4_code 51 = .ok (.iload 4, 2) := by decide +kernel
theorem d_1_4_53 : decode prog_1_method_4_code 53 = .ok (.ifCond .lt 25, 3) := by decide +kernel
theorem d_1_4_56 : decode prog_1_method_4_code 56 = .ok (.aload_n 0, 1) := by decide +kernel
theorem d_1_4_57 : decode prog_1_method_4_code 57 = .ok (.getfield 12, 3) := by decide +kernel
theorem d_1_4_60 : decode prog_1_method_4_code 60 = .ok (.lload_n 1, 1) := by decide +kernel
theorem d_1_4_61 : decode prog_1_method_4_code 61 = .ok (.iload 4, 2) := by decide +kernel
theorem d_1_4_63 : decode prog_1_method_4_code 63 = .ok (.lshr, 1) := by decide +kernel
theorem d_1_4_64 : decode prog_1_method_4_code 64 = .ok (.ldc2_w 100, 3) := by decide +kernel
theorem d_1_4_67 : decode prog_1_method_4_code 67 = .ok (.land, 1) := by decide +kernel
theorem d_1_4_68 : decode prog_1_method_4_code 68 = .ok (.l2i, 1) := by decide +kernel
theorem d_1_4_69 : decode prog_1_method_4_code 69 = .ok (.invokevirtual 105, 3) := by decide +kernel
theorem d_1_4_72 : decode prog_1_method_4_code 72 = .ok (.iinc 4 (-8), 3) := by decide +kernel
theorem d_1_4_75 : decode prog_1_method_4_code 75 = .ok (.goto (-24), 3) := by decide +kernel
theorem d_1_4_78 : decode prog_1_method_4_code 78 = .ok (.aload_n 0, 1) := by decide +kernel
theorem d_1_4_79 : decode prog_1_method_4_code 79 = .ok (.getfield 12, 3) := by decide +kernel
theorem d_1_4_82 : decode prog_1_method_4_code 82 = .ok (.getfield 102, 3) := by decide +kernel
theorem d_1_4_85 : decode prog_1_method_4_code 85 = .ok (.ireturn, 1) := by decide +kernel
theorem d_1_50_0 : decode prog_1_method_50_code 0 = .ok (.aload_n 0, 1) := by decide +kernel
theorem d_1_50_1 : decode prog_1_method_50_code 1 = .ok (.getfield 365, 3) := by decide +kernel
theorem d_1_50_4 : decode prog_1_method_50_code 4 = .ok (.ifCond .ne 5, 3) := by decide +kernel
theorem d_1_50_7 : decode prog_1_method_50_code 7 = .ok (.iconst (-1), 1) := by decide +kernel
theorem d_1_50_8 : decode prog_1_method_50_code 8 = .ok (.ireturn, 1) := by decide +kernel
theorem d_1_50_9 : decode prog_1_method_50_code 9 = .ok (.aload_n 0, 1) := by decide +kernel
theorem d_1_50_10 : decode prog_1_method_50_code 10 = .ok (.aload_n 0, 1) := by decide +kernel
theorem d_1_50_11 : decode prog_1_method_50_code 11 = .ok (.getfield 62, 3) := by decide +kernel
theorem d_1_50_14 : decode prog_1_method_50_code 14 = .ok (.aload_n 0, 1) := by decide +kernel
theorem d_1_50_15 : decode prog_1_method_50_code 15 = .ok (.getfield 368, 3) := by decide +kernel
theorem d_1_50_18 : decode prog_1_method_50_code 18 = .ok (.iaload, 1) := by decide +kernel
theorem d_1_50_19 : decode prog_1_method_50_code 19 = .ok (.aload_n 0, 1) := by decide +kernel
theorem d_1_50_20 : decode prog_1_method_50_code 20 = .ok (.getfield 66, 3) := by decide +kernel
theorem d_1_50_23 : decode prog_1_method_50_code 23 = .ok (.aload_n 0, 1) := by decide +kernel
theorem d_1_50_24 : decode prog_1_method_50_code 24 = .ok (.getfield 368, 3) := by decide +kernel
theorem d_1_50_27 : decode prog_1_method_50_code 27 = .ok (.iaload, 1) := by decide +kernel
theorem d_1_50_28 : decode prog_1_method_50_code 28 = .ok (.aload_n 0, 1) := by decide +kernel
theorem d_1_50_29 : decode prog_1_method_50_code 29 = .ok (.getfield 69, 3) := by decide +kernel
theorem d_1_50_32 : decode prog_1_method_50_code 32 = .ok (.aload_n 0, 1) := by decide +kernel
theorem d_1_50_33 : decode prog_1_method_50_code 33 = .ok (.getfield 368, 3) := by decide +kernel
theorem d_1_50_36 : decode prog_1_method_50_code 36 = .ok (.iaload, 1) := by decide +kernel
theorem d_1_50_37 : decode prog_1_method_50_code 37 = .ok (.invokevirtual 371, 3) := by decide +kernel
theorem d_1_50_40 : decode prog_1_method_50_code 40 = .ok (.aload_n 0, 1) := by decide +kernel
theorem d_1_50_41 : decode prog_1_method_50_code 41 = .ok (.aload_n 0, 1) := by decide +kernel
theorem d_1_50_42 : decode prog_1_method_50_code 42 = .ok (.getfield 368, 3) := by decide +kernel
theorem d_1_50_45 : decode prog_1_method_50_code 45 = .ok (.bipush 20, 2) := by decide +kernel
theorem d_1_50_47 : decode prog_1_method_50_code 47 = .ok (.iadd, 1) := by decide +kernel
theorem d_1_50_48 : decode prog_1_method_50_code 48 = .ok (.iconst 1, 1) := by decide +kernel
theorem d_1_50_49 : decode prog_1_method_50_code 49 = .ok (.isub, 1) := by decide +kernel
theorem d_1_50_50 : decode prog_1_method_50_code 50 = .ok (.bipush 20, 2) := by decide +kernel
theorem d_1_50_52 : decode prog_1_method_50_code 52 = .ok (.irem, 1) := by decide +kernel
theorem d_1_50_53 : decode prog_1_method_50_code 53 = .ok (.putfield 368, 3) := by decide +kernel
theorem d_1_50_56 : decode prog_1_method_50_code 56 = .ok (.aload_n 0, 1) := by decide +kernel
theorem d_1_50_57 : decode prog_1_method_50_code 57 = .ok (.dup, 1) := by decide +kernel
theorem d_1_50_58 : decode prog_1_method_50_code 58 = .ok (.getfield 365, 3) := by decide +kernel
theorem d_1_50_61 : decode prog_1_method_50_code 61 = .ok (.iconst 1, 1) := by decide +kernel
theorem d_1_50_62 : decode prog_1_method_50_code 62 = .ok (.isub, 1) := by decide +kernel
theorem d_1_50_63 : decode prog_1_method_50_code 63 = .ok (.putfield 365, 3) := by decide +kernel
theorem d_1_50_66 : decode prog_1_method_50_code 66 = .ok (.aload_n 0, 1) := by decide +kernel
theorem d_1_50_67 : decode prog_1_method_50_code 67 = .ok (.getfield 365, 3) := by decide +kernel
theorem d_1_50_70 : decode prog_1_method_50_code 70 = .ok (.ireturn, 1) := by decide +kernel
theorem d_1_54_0 : decode prog_1_method_54_code 0 = .ok (.aload_n 0, 1) := by decide +kernel
theorem d_1_54_1 : decode prog_1_method_54_code 1 = .ok (.getfield 37, 3) := by decide +kernel
theorem d_1_54_4 : decode prog_1_method_54_code 4 = .ok (.invokevirtual 379, 3) := by decide +kernel
theorem d_1_54_7 : decode prog_1_method_54_code 7 = .ok (.ifCond .eq 7, 3) := by decide +kernel
theorem d_1_54_10 : decode prog_1_method_54_code 10 = .ok (.iconst 1, 1) := by decide +kernel
theorem d_1_54_11 : decode prog_1_method_54_code 11 = .ok (.goto 4, 3) := by decide +kernel
theorem d_1_54_14 : decode prog_1_method_54_code 14 = .ok (.iconst 0, 1) := by decide +kernel
theorem d_1_54_15 : decode prog_1_method_54_code 15 = .ok (.aload_n 0, 1) := by decide +kernel
theorem d_1_54_16 : decode prog_1_method_54_code 16 = .ok (.invokevirtual 382, 3) := by decide +kernel
theorem d_1_54_19 : decode prog_1_method_54_code 19 = .ok (.iadd, 1) := by decide +kernel
theorem d_1_54_20 : decode prog_1_method_54_code 20 = .ok (.aload_n 0, 1) := by decide +kernel
theorem d_1_54_21 : decode prog_1_method_54_code 21 = .ok (.invokevirtual 385, 3) := by decide +kernel
theorem d_1_54_24 : decode prog_1_method_54_code 24 = .ok (.ifCond .eq 7, 3) := by decide +kernel
theorem d_1_54_27 : decode prog_1_method_54_code 27 = .ok (.iconst 1, 1) := by decide +kernel
theorem d_1_54_28 : decode prog_1_method_54_code 28 = .ok (.goto 4, 3) := by decide +kernel
theorem d_1_54_31 : decode prog_1_method_54_code 31 = .ok (.iconst 0, 1) := by decide +kernel
theorem d_1_54_32 : decode prog_1_method_54_code 32 = .ok (.iadd, 1) := by decide +kernel
theorem d_1_54_33 : decode prog_1_method_54_code 33 = .ok (.aload_n 0, 1) := by decide +kernel
theorem d_1_54_34 : decode prog_1_method_54_code 34 = .ok (.getfield 58, 3) := by decide +kernel
theorem d_1_54_37 : decode prog_1_method_54_code 37 = .ok (.invokevirtual 388, 3) := by decide +kernel
theorem d_1_54_40 : decode prog_1_method_54_code 40 = .ok (.ifCond .eq 7, 3) := by decide +kernel
theorem d_1_54_43 : decode prog_1_method_54_code 43 = .ok (.iconst 1, 1) := by decide +kernel
theorem d_1_54_44 : decode prog_1_method_54_code 44 = .ok (.goto 4, 3) := by decide +kernel
theorem d_1_54_47 : decode prog_1_method_54_code 47 = .ok (.iconst 0, 1) := by decide +kernel
theorem d_1_54_48 : decode prog_1_method_54_code 48 = .ok (.iadd, 1) := by decide +kernel
theorem d_1_54_49 : decode prog_1_method_54_code 49 = .ok (.ireturn, 1) := by decide +kernel
theorem d_1_55_0 : decode prog_1_method_55_code 0 = .ok (.iload_n 0, 1) := by decide +kernel
theorem d_1_55_1 : decode prog_1_method_55_code 1 = .ok (.iload_n 1, 1) := by decide +kernel
theorem d_1_55_2 : decode prog_1_method_55_code 2 = .ok (.ishr, 1) := by decide +kernel
theorem d_1_55_3 : decode prog_1_method_55_code 3 = .ok (.iconst 1, 1) := by decide +kernel
theorem d_1_55_4 : decode prog_1_method_55_code 4 = .ok (.iand, 1) := by decide +kernel
theorem d_1_55_5 : decode prog_1_method_55_code 5 = .ok (.ifCond .eq 7, 3) := by decide +kernel
theorem d_1_55_8 : decode prog_1_method_55_code 8 = .ok (.iconst 1, 1) := by decide +kernel
theorem d_1_55_9 : decode prog_1_method_55_code 9 = .ok (.goto 4, 3) := by decide +kernel
theorem d_1_55_12 : decode prog_1_method_55_code 12 = .ok (.iconst 0, 1) := by decide +kernel
theorem d_1_55_13 : decode prog_1_method_55_code 13 = .ok (.ireturn, 1) := by decide +kernel
theorem d_1_56_0 : decode prog_1_method_56_code 0 = .ok (.iload_n 0, 1) := by decide +kernel
theorem d_1_56_1 : decode prog_1_method_56_code 1 = .ok (.ifCond .lt 8, 3) := by decide +kernel
theorem d_1_56_4 : decode prog_1_method_56_code 4 = .ok (.iload_n 0, 1) := by decide +kernel
theorem d_1_56_5 : decode prog_1_method_56_code 5 = .ok (.iload_n 1, 1) := by decide +kernel
theorem d_1_56_6 : decode prog_1_method_56_code 6 = .ok (.if_icmp .lt 14, 3) := by decide +kernel
theorem d_1_56_20 : decode prog_1_method_56_code 20 = .ok (.return_, 1) := by decide +kernel
theorem d_1_57_0 : decode prog_1_method_57_code 0 = .ok (.iload_n 0, 1) := by decide +kernel
theorem d_1_57_1 : decode prog_1_method_57_code 1 = .ok (.iload_n 1, 1) := by decide +kernel
theorem d_1_57_2 : decode prog_1_method_57_code 2 = .ok (.if_icmp .lt 8, 3) := by decide +kernel
theorem d_1_57_5 : decode prog_1_method_57_code 5 = .ok (.iload_n 0, 1) := by decide +kernel
theorem d_1_57_6 : decode prog_1_method_57_code 6 = .ok (.iload_n 2, 1) := by decide +kernel
theorem d_1_57_7 : decode prog_1_method_57_code 7 = .ok (.if_icmp .le 14, 3) := by decide +kernel
theorem d_1_57_21 : decode prog_1_method_57_code 21 = .ok (.return_, 1) := by decide +kernel
theorem d_1_58_0 : decode prog_1_method_58_code 0 = .ok (.iload_n 0, 1) := by decide +kernel
theorem d_1_58_1 : decode prog_1_method_58_code 1 = .ok (.iload_n 1, 1) := by decide +kernel
theorem d_1_58_2 : decode prog_1_method_58_code 2 = .ok (.if_icmp .le 14, 3) := by decide +kernel
theorem d_1_58_16 : decode prog_1_method_58_code 16 = .ok (.return_, 1) := by decide +kernel
theorem d_1_59_0 : decode prog_1_method_59_code 0 = .ok (.iload_n 0, 1) := by decide +kernel
theorem d_1_59_1 : decode prog_1_method_59_code 1 = .ok (.ifCond .lt 8, 3) := by decide +kernel
theorem d_1_59_4 : decode prog_1_method_59_code 4 = .ok (.iload_n 0, 1) := by decide +kernel
theorem d_1_59_5 : decode prog_1_method_59_code 5 = .ok (.iload_n 1, 1) := by decide +kernel
theorem d_1_59_6 : decode prog_1_method_59_code 6 = .ok (.if_icmp .lt 14, 3) := by decide +kernel
theorem d_1_59_20 : decode prog_1_method_59_code 20 = .ok (.return_, 1) := by decide +kernel
theorem d_1_5_0 : decode prog_1_method_5_code 0 = .ok (.iload_n 1, 1) := by decide +kernel
theorem d_1_5_1 : decode prog_1_method_5_code 1 = .ok (.iconst 1, 1) := by decide +kernel
theorem d_1_5_2 : decode prog_1_method_5_code 2 = .ok (.ldc 109, 2) := by decide +kernel
theorem d_1_5_4 : decode prog_1_method_5_code 4 = .ok (.invokestatic 96, 3) := by decide +kernel
theorem d_1_5_7 : decode prog_1_method_5_code 7 = .ok (.aload_n 0, 1) := by decide +kernel
theorem d_1_5_8 : decode prog_1_method_5_code 8 = .ok (.getfield 12, 3) := by decide +kernel
theorem d_1_5_11 : decode prog_1_method_5_code 11 = .ok (.invokevirtual 110, 3) := by decide +kernel
theorem d_1_5_14 : decode prog_1_method_5_code 14 = .ok (.istore_n 2, 1) := by decide +kernel
theorem d_1_5_15 : decode prog_1_method_5_code 15 = .ok (.iload_n 2, 1) := by decide +kernel
theorem d_1_5_16 : decode prog_1_method_5_code 16 = .ok (.iconst (-1), 1) := by decide +kernel
theorem d_1_5_17 : decode prog_1_method_5_code 17 = .ok (.if_icmp .eq 16, 3) := by decide +kernel
theorem d_1_5_20 : decode prog_1_method_5_code 20 = .ok (.aload_n 0, 1) := by decide +kernel
theorem d_1_5_21 : decode prog_1_method_5_code 21 = .ok (.getfield 12, 3) := by decide +kernel
theorem d_1_5_24 : decode prog_1_method_5_code 24 = .ok (.iconst 0, 1) := by decide +kernel
theorem d_1_5_25 : decode prog_1_method_5_code 25 = .ok (.putfield 102, 3) := by decide +kernel
theorem d_1_5_28 : decode prog_1_method_5_code 28 = .ok (.bipush (-3), 2) := by decide +kernel
theorem d_1_5_30 : decode prog_1_method_5_code 30 = .ok (.iload_n 2, 1) := by decide +kernel
theorem d_1_5_31 : decode prog_1_method_5_code 31 = .ok (.isub, 1) := by decide +kernel
theorem d_1_5_32 : decode prog_1_method_5_code 32 = .ok (.ireturn, 1) := by decide +kernel
theorem d_1_5_33 : decode prog_1_method_5_code 33 = .ok (.aload_n 0, 1) := by decide +kernel
theorem d_1_5_34 : decode prog_1_method_5_code 34 = .ok (.getfield 12, 3) := by decide +kernel
theorem d_1_5_37 : decode prog_1_method_5_code 37 = .ok (.invokevirtual 114, 3) := by decide +kernel
theorem d_1_5_40 : decode prog_1_method_5_code 40 = .ok (.istore_n 3, 1) := by decide +kernel
theorem d_1_5_41 : decode prog_1_method_5_code 41 = .ok (.iload_n 3, 1) := by decide +kernel
theorem d_1_5_42 : decode prog_1_method_5_code 42 = .ok (.iconst (-1), 1) := by decide +kernel
theorem d_1_5_43 : decode prog_1_method_5_code 43 = .ok (.if_icmp .ne 35, 3) := by decide +kernel
theorem d_1_5_46 : decode prog_1_method_5_code 46 = .ok (.aload_n 0, 1) := by decide +kernel
theorem d_1_5_47 : decode prog_1_method_5_code 47 = .ok (.getfield 12, 3) := by decide +kernel
theorem d_1_5_50 : decode prog_1_method_5_code 50 = .ok (.getfield 117, 3) := by decide +kernel
theorem d_1_5_53 : decode prog_1_method_5_code 53 = .ok (.iconst 1, 1) := by decide +kernel
theorem d_1_5_54 : decode prog_1_method_5_code 54 = .ok (.iadd, 1) := by decide +kernel
theorem d_1_5_55 : decode prog_1_method_5_code 55 = .ok (.bipush 30, 2) := by decide +kernel
theorem d_1_5_57 : decode prog_1_method_5_code 57 = .ok (.invokestatic 79, 3) := by decide +kernel
theorem d_1_5_60 : decode prog_1_method_5_code 60 = .ok (.aload_n 0, 1) := by decide +kernel
theorem d_1_5_61 : decode prog_1_method_5_code 61 = .ok (.getfield 12, 3) := by decide +kernel
theorem d_1_5_64 : decode prog_1_method_5_code 64 = .ok (.invokevirtual 120, 3) := by decide +kernel
theorem d_1_5_67 : decode prog_1_method_5_code 67 = .ok (.istore_n 3, 1) := by decide +kernel
theorem d_1_5_68 : decode prog_1_method_5_code 68 = .ok (.aload_n 0, 1) := by decide +kernel
theorem d_1_5_69 : decode prog_1_method_5_code 69 = .ok (.iconst 3, 1) := by decide +kernel
theorem d_1_5_70 : decode prog_1_method_5_code 70 = .ok (.iload_n 3, 1) := by decide +kernel
theorem d_1_5_71 : decode prog_1_method_5_code 71 = .ok (.iconst 0, 1) := by decide +kernel
theorem d_1_5_72 : decode prog_1_method_5_code 72 = .ok (.invokevirtual 86, 3) := by decide +kernel
theorem d_1_5_75 : decode prog_1_method_5_code 75 = .ok (.goto 34, 3) := by decide +kernel
theorem d_1_5_78 : decode prog_1_method_5_code 78 = .ok (.aload_n 0, 1) := by decide +kernel
theorem d_1_5_79 : decode prog_1_method_5_code 79 = .ok (.getfield 12, 3) := by decide +kernel
theorem d_1_5_82 : decode prog_1_method_5_code 82 = .ok (.getfield 123, 3) := by decide +kernel
theorem d_1_5_85 : decode prog_1_method_5_code 85 = .ok (.iload_n 3, 1) := by decide +kernel
theorem d_1_5_86 : decode prog_1_method_5_code 86 = .ok (.iaload, 1) := by decide +kernel
theorem d_1_5_87 : decode prog_1_method_5_code 87 = .ok (.iload_n 1, 1) := by decide +kernel
theorem d_1_5_88 : decode prog_1_method_5_code 88 = .ok (.iadd, 1) := by decide +kernel
theorem d_1_5_89 : decode prog_1_method_5_code 89 = .ok (.ldc 126, 2) := by decide +kernel
theorem d_1_5_91 : decode prog_1_method_5_code 91 = .ok (.invokestatic 79, 3) := by decide +kernel
theorem d_1_5_94 : decode prog_1_method_5_code 94 = .ok (.aload_n 0, 1) := by decide +kernel
theorem d_1_5_95 : decode prog_1_method_5_code 95 = .ok (.iconst 4, 1) := by decide +kernel
theorem d_1_5_96 : decode prog_1_method_5_code 96 = .ok (.iload_n 3, 1) := by decide +kernel
theorem d_1_5_97 : decode prog_1_method_5_code 97 = .ok (.aload_n 0, 1) := by decide +kernel
theorem d_1_5_98 : decode prog_1_method_5_code 98 = .ok (.getfield 12, 3) := by decide +kernel
theorem d_1_5_101 : decode prog_1_method_5_code 101 = .ok (.getfield 123, 3) := by decide +kernel
theorem d_1_5_104 : decode prog_1_method_5_code 104 = .ok (.iload_n 3, 1) := by decide +kernel
theorem d_1_5_105 : decode prog_1_method_5_code 105 = .ok (.iaload, 1) := by decide +kernel
theorem d_1_5_106 : decode prog_1_method_5_code 106 = .ok (.invokevirtual 86, 3) := by decide +kernel
theorem d_1_5_109 : decode prog_1_method_5_code 109 = .ok (.aload_n 0, 1) := by decide +kernel
theorem d_1_5_110 : decode prog_1_method_5_code 110 = .ok (.getfield 12, 3) := by decide +kernel
theorem d_1_5_113 : decode prog_1_method_5_code 113 = .ok (.iconst 0, 1) := by decide +kernel
theorem d_1_5_114 : decode prog_1_method_5_code 114 = .ok (.putfield 102, 3) := by decide +kernel
theorem d_1_5_117 : decode prog_1_method_5_code 117 = .ok (.aload_n 0, 1) := by decide +kernel
theorem d_1_5_118 : decode prog_1_method_5_code 118 = .ok (.getfield 12, 3) := by decide +kernel
theorem d_1_5_121 : decode prog_1_method_5_code 121 = .ok (.getfield 123, 3) := by decide +kernel
theorem d_1_5_124 : decode prog_1_method_5_code 124 = .ok (.iload_n 3, 1) := by decide +kernel
theorem d_1_5_125 : decode prog_1_method_5_code 125 = .ok (.dup2, 1) := by decide +kernel
theorem d_1_5_126 : decode prog_1_method_5_code 126 = .ok (.iaload, 1) := by decide +kernel
theorem d_1_5_127 : decode prog_1_method_5_code 127 = .ok (.iload_n 1, 1) := by decide +kernel
theorem d_1_5_128 : decode prog_1_method_5_code 128 = .ok (.iadd, 1) := by decide +kernel
theorem d_1_5_129 : decode prog_1_method_5_code 129 = .ok (.iastore, 1) := by decide +kernel
theorem d_1_5_130 : decode prog_1_method_5_code 130 = .ok (.iload_n 3, 1) := by decide +kernel
theorem d_1_5_131 : decode prog_1_method_5_code 131 = .ok (.ireturn, 1) := by decide +kernel
theorem d_1_60_0 : decode prog_1_method_60_code 0 = .ok (.aload_n 0, 1) := by decide +kernel
theorem d_1_60_1 : decode prog_1_method_60_code 1 = .ok (.getfield 12, 3) := by decide +kernel
theorem d_1_60_4 : decode prog_1_method_60_code 4 = .ok (.getfield 75, 3) := by decide +kernel
theorem d_1_60_7 : decode prog_1_method_60_code 7 = .ok (.iconst 5, 1) := by decide +kernel
theorem d_1_60_8 : decode prog_1_method_60_code 8 = .ok (.if_icmp .le 14, 3) := by decide +kernel
