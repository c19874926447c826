theorem d_12_1_4 : decode prog_12_method_1_code 4 = .ok (.aload_n 0, 1) := by decide +kernel
theorem d_12_1_5 : decode prog_12_method_1_code 5 = .ok (.bipush 16, 2) := by decide +kernel
theorem d_12_1_7 : decode prog_12_method_1_code 7 = .ok (.newarray .int, 2) := by decide +kernel
theorem d_12_1_9 : decode prog_12_method_1_code 9 = .ok (.putfield 9, 3) := by decide +kernel
theorem d_12_1_12 : decode prog_12_method_1_code 12 = .ok (.aload_n 0, 1) := by decide +kernel
theorem d_12_1_13 : decode prog_12_method_1_code 13 = .ok (.iconst 2, 1) := by decide +kernel
theorem d_12_1_14 : decode prog_12_method_1_code 14 = .ok (.bipush 16, 2) := by decide +kernel
theorem d_12_1_16 : decode prog_12_method_1_code 16 = .ok (.multianewarray 15 2, 4) := by decide +kernel
theorem d_12_1_20 : decode prog_12_method_1_code 20 = .ok (.putfield 17, 3) := by decide +kernel
theorem d_12_1_23 : decode prog_12_method_1_code 23 = .ok (.aload_n 0, 1) := by decide +kernel
theorem d_12_1_24 : decode prog_12_method_1_code 24 = .ok (.bipush 17, 2) := by decide +kernel
theorem d_12_1_26 : decode prog_12_method_1_code 26 = .ok (.bipush 16, 2) := by decide +kernel
theorem d_12_1_28 : decode prog_12_method_1_code 28 = .ok (.multianewarray 15 2, 4) := by decide +kernel
theorem d_12_1_32 : decode prog_12_method_1_code 32 = .ok (.putfield 20, 3) := by decide +kernel
theorem d_12_1_35 : decode prog_12_method_1_code 35 = .ok (.aload_n 0, 1) := by decide +kernel
theorem d_12_1_36 : decode prog_12_method_1_code 36 = .ok (.bipush 16, 2) := by decide +kernel
theorem d_12_1_38 : decode prog_12_method_1_code 38 = .ok (.newarray .int, 2) := by decide +kernel
theorem d_12_1_40 : decode prog_12_method_1_code 40 = .ok (.putfield 23, 3) := by decide +kernel
theorem d_12_1_43 : decode prog_12_method_1_code 43 = .ok (.return_, 1) := by decide +kernel
theorem d_12_2_0 : decode prog_12_method_2_code 0 = .ok (.aload_n 0, 1) := by decide +kernel
theorem d_12_2_1 : decode prog_12_method_2_code 1 = .ok (.getfield 26, 3) := by decide +kernel
theorem d_12_2_4 : decode prog_12_method_2_code 4 = .ok (.istore 4, 2) := by decide +kernel
theorem d_12_2_6 : decode prog_12_method_2_code 6 = .ok (.aload_n 0, 1) := by decide +kernel
theorem d_12_2_7 : decode prog_12_method_2_code 7 = .ok (.getfield 9, 3) := by decide +kernel
theorem d_12_2_10 : decode prog_12_method_2_code 10 = .ok (.iload 4, 2) := by decide +kernel
theorem d_12_2_12 : decode prog_12_method_2_code 12 = .ok (.iload_n 1, 1) := by decide +kernel
theorem d_12_2_13 : decode prog_12_method_2_code 13 = .ok (.iastore, 1) := by decide +kernel
theorem d_12_2_14 : decode prog_12_method_2_code 14 = .ok (.aload_n 0, 1) := by decide +kernel
theorem d_12_2_15 : decode prog_12_method_2_code 15 = .ok (.getfield 17, 3) := by decide +kernel
theorem d_12_2_18 : decode prog_12_method_2_code 18 = .ok (.iconst 0, 1) := by decide +kernel
theorem d_12_2_19 : decode prog_12_method_2_code 19 = .ok (.aaload, 1) := by decide +kernel
theorem d_12_2_20 : decode prog_12_method_2_code 20 = .ok (.iload 4, 2) := by decide +kernel
theorem d_12_2_22 : decode prog_12_method_2_code 22 = .ok (.iload_n 2, 1) := by decide +kernel
theorem d_12_2_23 : decode prog_12_method_2_code 23 = .ok (.iastore, 1) := by decide +kernel
theorem d_12_2_24 : decode prog_12_method_2_code 24 = .ok (.aload_n 0, 1) := by decide +kernel
theorem d_12_2_25 : decode prog_12_method_2_code 25 = .ok (.getfield 17, 3) := by decide +kernel
theorem d_12_2_28 : decode prog_12_method_2_code 28 = .ok (.iconst 1, 1) := by decide +kernel
theorem d_12_2_29 : decode prog_12_method_2_code 29 = .ok (.aaload, 1) := by decide +kernel
theorem d_12_2_30 : decode prog_12_method_2_code 30 = .ok (.iload 4, 2) := by decide +kernel
theorem d_12_2_32 : decode prog_12_method_2_code 32 = .ok (.iload_n 3, 1) := by decide +kernel
theorem d_12_2_33 : decode prog_12_method_2_code 33 = .ok (.iastore, 1) := by decide +kernel
theorem d_12_2_34 : decode prog_12_method_2_code 34 = .ok (.aload_n 0, 1) := by decide +kernel
theorem d_12_2_35 : decode prog_12_method_2_code 35 = .ok (.dup, 1) := by decide +kernel
theorem d_12_2_36 : decode prog_12_method_2_code 36 = .ok (.getfield 26, 3) := by decide +kernel
theorem d_12_2_39 : decode prog_12_method_2_code 39 = .ok (.iconst 1, 1) := by decide +kernel
theorem d_12_2_40 : decode prog_12_method_2_code 40 = .ok (.iadd, 1) := by decide +kernel
theorem d_12_2_41 : decode prog_12_method_2_code 41 = .ok (.putfield 26, 3) := by decide +kernel
theorem d_12_2_44 : decode prog_12_method_2_code 44 = .ok (.iload 4, 2) := by decide +kernel
theorem d_12_2_46 : decode prog_12_method_2_code 46 = .ok (.ireturn, 1) := by decide +kernel
theorem d_12_3_0 : decode prog_12_method_3_code 0 = .ok (.iconst 1, 1) := by decide +kernel
theorem d_12_3_1 : decode prog_12_method_3_code 1 = .ok (.istore_n 2, 1) := by decide +kernel
theorem d_12_3_2 : decode prog_12_method_3_code 2 = .ok (.iload_n 2, 1) := by decide +kernel
theorem d_12_3_3 : decode prog_12_method_3_code 3 = .ok (.iload_n 1, 1) := by decide +kernel
theorem d_12_3_4 : decode prog_12_method_3_code 4 = .ok (.if_icmp .gt 41, 3) := by decide +kernel
theorem d_12_3_7 : decode prog_12_method_3_code 7 = .ok (.iconst 0, 1) := by decide +kernel
theorem d_12_3_8 : decode prog_12_method_3_code 8 = .ok (.istore_n 3, 1) := by decide +kernel
theorem d_12_3_9 : decode prog_12_method_3_code 9 = .ok (.iload_n 3, 1) := by decide +kernel
theorem d_12_3_10 : decode prog_12_method_3_code 10 = .ok (.aload_n 0, 1) := by decide +kernel
theorem d_12_3_11 : decode prog_12_method_3_code 11 = .ok (.getfield 26, 3) := by decide +kernel
theorem d_12_3_14 : decode prog_12_method_3_code 14 = .ok (.iload_n 2, 1) := by decide +kernel
theorem d_12_3_15 : decode prog_12_method_3_code 15 = .ok (.isub, 1) := by decide +kernel
theorem d_12_3_16 : decode prog_12_method_3_code 16 = .ok (.if_icmp .gt 23, 3) := by decide +kernel
theorem d_12_3_19 : decode prog_12_method_3_code 19 = .ok (.aload_n 0, 1) := by decide +kernel
theorem d_12_3_20 : decode prog_12_method_3_code 20 = .ok (.getfield 20, 3) := by decide +kernel
theorem d_12_3_23 : decode prog_12_method_3_code 23 = .ok (.iload_n 2, 1) := by decide +kernel
theorem d_12_3_24 : decode prog_12_method_3_code 24 = .ok (.aaload, 1) := by decide +kernel
theorem d_12_3_25 : decode prog_12_method_3_code 25 = .ok (.iload_n 3, 1) := by decide +kernel
theorem d_12_3_26 : decode prog_12_method_3_code 26 = .ok (.aload_n 0, 1) := by decide +kernel
theorem d_12_3_27 : decode prog_12_method_3_code 27 = .ok (.iload_n 2, 1) := by decide +kernel
theorem d_12_3_28 : decode prog_12_method_3_code 28 = .ok (.iload_n 3, 1) := by decide +kernel
theorem d_12_3_29 : decode prog_12_method_3_code 29 = .ok (.invokevirtual 30, 3) := by decide +kernel
theorem d_12_3_32 : decode prog_12_method_3_code 32 = .ok (.iastore, 1) := by decide +kernel
theorem d_12_3_33 : decode prog_12_method_3_code 33 = .ok (.iinc 3 1, 3) := by decide +kernel
theorem d_12_3_36 : decode prog_12_method_3_code 36 = .ok (.goto (-27), 3) := by decide +kernel
theorem d_12_3_39 : decode prog_12_method_3_code 39 = .ok (.iinc 2 1, 3) := by decide +kernel
theorem d_12_3_42 : decode prog_12_method_3_code 42 = .ok (.goto (-40), 3) := by decide +kernel
theorem d_12_3_45 : decode prog_12_method_3_code 45 = .ok (.aload_n 0, 1) := by decide +kernel
theorem d_12_3_46 : decode prog_12_method_3_code 46 = .ok (.getfield 20, 3) := by decide +kernel
theorem d_12_3_49 : decode prog_12_method_3_code 49 = .ok (.iload_n 1, 1) := by decide +kernel
theorem d_12_3_50 : decode prog_12_method_3_code 50 = .ok (.aaload, 1) := by decide +kernel
theorem d_12_3_51 : decode prog_12_method_3_code 51 = .ok (.iconst 0, 1) := by decide +kernel
theorem d_12_3_52 : decode prog_12_method_3_code 52 = .ok (.iaload, 1) := by decide +kernel
theorem d_12_3_53 : decode prog_12_method_3_code 53 = .ok (.istore_n 2, 1) := by decide +kernel
theorem d_12_3_54 : decode prog_12_method_3_code 54 = .ok (.iconst 0, 1) := by decide +kernel
theorem d_12_3_55 : decode prog_12_method_3_code 55 = .ok (.istore_n 3, 1) := by decide +kernel
theorem d_12_3_56 : decode prog_12_method_3_code 56 = .ok (.iconst 0, 1) := by decide +kernel
theorem d_12_3_57 : decode prog_12_method_3_code 57 = .ok (.istore 4, 2) := by decide +kernel
theorem d_12_3_59 : decode prog_12_method_3_code 59 = .ok (.iload 4, 2) := by decide +kernel
theorem d_12_3_61 : decode prog_12_method_3_code 61 = .ok (.iload_n 1, 1) := by decide +kernel
theorem d_12_3_62 : decode prog_12_method_3_code 62 = .ok (.if_icmp .ge 36, 3) := by decide +kernel
theorem d_12_3_65 : decode prog_12_method_3_code 65 = .ok (.aload_n 0, 1) := by decide +kernel
theorem d_12_3_66 : decode prog_12_method_3_code 66 = .ok (.getfield 23, 3) := by decide +kernel
theorem d_12_3_69 : decode prog_12_method_3_code 69 = .ok (.iload 4, 2) := by decide +kernel
theorem d_12_3_71 : decode prog_12_method_3_code 71 = .ok (.aload_n 0, 1) := by decide +kernel
theorem d_12_3_72 : decode prog_12_method_3_code 72 = .ok (.iload_n 3, 1) := by decide +kernel
theorem d_12_3_73 : decode prog_12_method_3_code 73 = .ok (.iload_n 1, 1) := by decide +kernel
theorem d_12_3_74 : decode prog_12_method_3_code 74 = .ok (.iload 4, 2) := by decide +kernel
theorem d_12_3_76 : decode prog_12_method_3_code 76 = .ok (.isub, 1) := by decide +kernel
theorem d_12_3_77 : decode prog_12_method_3_code 77 = .ok (.iload_n 2, 1) := by decide +kernel
theorem d_12_3_78 : decode prog_12_method_3_code 78 = .ok (.invokevirtual 34, 3) := by decide +kernel
theorem d_12_3_81 : decode prog_12_method_3_code 81 = .ok (.iastore, 1) := by decide +kernel
theorem d_12_3_82 : decode prog_12_method_3_code 82 = .ok (.aload_n 0, 1) := by decide +kernel
theorem d_12_3_83 : decode prog_12_method_3_code 83 = .ok (.getfield 23, 3) := by decide +kernel
theorem d_12_3_86 : decode prog_12_method_3_code 86 = .ok (.iload 4, 2) := by decide +kernel
theorem d_12_3_88 : decode prog_12_method_3_code 88 = .ok (.iaload, 1) := by decide +kernel
theorem d_12_3_89 : decode prog_12_method_3_code 89 = .ok (.iconst 1, 1) := by decide +kernel
theorem d_12_3_90 : decode prog_12_method_3_code 90 = .ok (.iadd, 1) := by decide +kernel
theorem d_12_3_91 : decode prog_12_method_3_code 91 = .ok (.istore_n 3, 1) := by decide +kernel
theorem d_12_3_92 : decode prog_12_method_3_code 92 = .ok (.iinc 4 1, 3) := by decide +kernel
theorem d_12_3_95 : decode prog_12_method_3_code 95 = .ok (.goto (-36), 3) := by decide +kernel
theorem d_12_3_98 : decode prog_12_method_3_code 98 = .ok (.iload_n 2, 1) := by decide +kernel
theorem d_12_3_99 : decode prog_12_method_3_code 99 = .ok (.ireturn, 1) := by decide +kernel
theorem d_12_4_0 : decode prog_12_method_4_code 0 = .ok (.ldc 38, 2) := by decide +kernel
theorem d_12_4_2 : decode prog_12_method_4_code 2 = .ok (.istore_n 3, 1) := by decide +kernel
theorem d_12_4_3 : decode prog_12_method_4_code 3 = .ok (.iconst 0, 1) := by decide +kernel
theorem d_12_4_4 : decode prog_12_method_4_code 4 = .ok (.istore 4, 2) := by decide +kernel
theorem d_12_4_6 : decode prog_12_method_4_code 6 = .ok (.iload_n 2, 1) := by decide +kernel
theorem d_12_4_7 : decode prog_12_method_4_code 7 = .ok (.istore 5, 2) := by decide +kernel
theorem d_12_4_9 : decode prog_12_method_4_code 9 = .ok (.iload 5, 2) := by decide +kernel
theorem d_12_4_11 : decode prog_12_method_4_code 11 = .ok (.aload_n 0, 1) := by decide +kernel
theorem d_12_4_12 : decode prog_12_method_4_code 12 = .ok (.getfield 26, 3) := by decide +kernel
theorem d_12_4_15 : decode prog_12_method_4_code 15 = .ok (.iload_n 1, 1) := by decide +kernel
theorem d_12_4_16 : decode prog_12_method_4_code 16 = .ok (.isub, 1) := by decide +kernel
theorem d_12_4_17 : decode prog_12_method_4_code 17 = .ok (.if_icmp .gt 38, 3) := by decide +kernel
theorem d_12_4_20 : decode prog_12_method_4_code 20 = .ok (.iload 4, 2) := by decide +kernel
theorem d_12_4_22 : decode prog_12_method_4_code 22 = .ok (.aload_n 0, 1) := by decide +kernel
theorem d_12_4_23 : decode prog_12_method_4_code 23 = .ok (.getfield 9, 3) := by decide +kernel
theorem d_12_4_26 : decode prog_12_method_4_code 26 = .ok (.iload 5, 2) := by decide +kernel
theorem d_12_4_28 : decode prog_12_method_4_code 28 = .ok (.iaload, 1) := by decide +kernel
theorem d_12_4_29 : decode prog_12_method_4_code 29 = .ok (.iadd, 1) := by decide +kernel
theorem d_12_4_30 : decode prog_12_method_4_code 30 = .ok (.istore 4, 2) := by decide +kernel
theorem d_12_4_32 : decode prog_12_method_4_code 32 = .ok (.iload_n 3, 1) := by decide +kernel
theorem d_12_4_33 : decode prog_12_method_4_code 33 = .ok (.iload 4, 2) := by decide +kernel
theorem d_12_4_35 : decode prog_12_method_4_code 35 = .ok (.aload_n 0, 1) := by decide +kernel
theorem d_12_4_36 : decode prog_12_method_4_code 36 = .ok (.iload 5, 2) := by decide +kernel
theorem d_12_4_38 : decode prog_12_method_4_code 38 = .ok (.iload_n 1, 1) := by decide +kernel
theorem d_12_4_39 : decode prog_12_method_4_code 39 = .ok (.invokevirtual 39, 3) := by decide +kernel
theorem d_12_4_42 : decode prog_12_method_4_code 42 = .ok (.invokestatic 42, 3) := by decide +kernel
theorem d_12_4_45 : decode prog_12_method_4_code 45 = .ok (.invokestatic 47, 3) := by decide +kernel
theorem d_12_4_48 : decode prog_12_method_4_code 48 = .ok (.istore_n 3, 1) := by decide +kernel
theorem d_12_4_49 : decode prog_12_method_4_code 49 = .ok (.iinc 5 1, 3) := by decide +kernel
theorem d_12_4_52 : decode prog_12_method_4_code 52 = .ok (.goto (-43), 3) := by decide +kernel
theorem d_12_4_55 : decode prog_12_method_4_code 55 = .ok (.iload_n 3, 1) := by decide +kernel
theorem d_12_4_56 : decode prog_12_method_4_code 56 = .ok (.ireturn, 1) := by decide +kernel
theorem d_12_5_0 : decode prog_12_method_5_code 0 = .ok (.iload_n 1, 1) := by decide +kernel
theorem d_12_5_1 : decode prog_12_method_5_code 1 = .ok (.iconst 1, 1) := by decide +kernel
theorem d_12_5_2 : decode prog_12_method_5_code 2 = .ok (.iadd, 1) := by decide +kernel
theorem d_12_5_3 : decode prog_12_method_5_code 3 = .ok (.aload_n 0, 1) := by decide +kernel
theorem d_12_5_4 : decode prog_12_method_5_code 4 = .ok (.getfield 26, 3) := by decide +kernel
theorem d_12_5_7 : decode prog_12_method_5_code 7 = .ok (.if_icmp .ge 26, 3) := by decide +kernel
theorem d_12_5_10 : decode prog_12_method_5_code 10 = .ok (.iload_n 2, 1) := by decide +kernel
theorem d_12_5_11 : decode prog_12_method_5_code 11 = .ok (.iconst 1, 1) := by decide +kernel
theorem d_12_5_12 : decode prog_12_method_5_code 12 = .ok (.if_icmp .le 18, 3) := by decide +kernel
theorem d_12_5_15 : decode prog_12_method_5_code 15 = .ok (.aload_n 0, 1) := by decide +kernel
theorem d_12_5_16 : decode prog_12_method_5_code 16 = .ok (.getfield 20, 3) := by decide +kernel
theorem d_12_5_19 : decode prog_12_method_5_code 19 = .ok (.iload_n 2, 1) := by decide +kernel
theorem d_12_5_20 : decode prog_12_method_5_code 20 = .ok (.iconst 1, 1) := by decide +kernel
theorem d_12_5_21 : decode prog_12_method_5_code 21 = .ok (.isub, 1) := by decide +kernel
theorem d_12_5_22 : decode prog_12_method_5_code 22 = .ok (.aaload, 1) := by decide +kernel
theorem d_12_5_23 : decode prog_12_method_5_code 23 = .ok (.iload_n 1, 1) := by decide +kernel
theorem d_12_5_24 : decode prog_12_method_5_code 24 = .ok (.iconst 1, 1) := by decide +kernel
theorem d_12_5_25 : decode prog_12_method_5_code 25 = .ok (.iadd, 1) := by decide +kernel
theorem d_12_5_26 : decode prog_12_method_5_code 26 = .ok (.iaload, 1) := by decide +kernel
theorem d_12_5_27 : decode prog_12_method_5_code 27 = .ok (.goto 5, 3) := by decide +kernel
theorem d_12_5_30 : decode prog_12_method_5_code 30 = .ok (.ldc 38, 2) := by decide +kernel
theorem d_12_5_32 : decode prog_12_method_5_code 32 = .ok (.ireturn, 1) := by decide +kernel
theorem d_12_5_33 : decode prog_12_method_5_code 33 = .ok (.iconst 0, 1) := by decide +kernel
theorem d_12_5_34 : decode prog_12_method_5_code 34 = .ok (.ireturn, 1) := by decide +kernel
theorem d_12_6_0 : decode prog_12_method_6_code 0 = .ok (.iload_n 1, 1) := by decide +kernel
theorem d_12_6_1 : decode prog_12_method_6_code 1 = .ok (.istore 4, 2) := by decide +kernel
theorem d_12_6_3 : decode prog_12_method_6_code 3 = .ok (.iload 4, 2) := by decide +kernel
theorem d_12_6_5 : decode prog_12_method_6_code 5 = .ok (.aload_n 0, 1) := by decide +kernel
theorem d_12_6_6 : decode prog_12_method_6_code 6 = .ok (.getfield 26, 3) := by decide +kernel
theorem d_12_6_9 : decode prog_12_method_6_code 9 = .ok (.iload_n 2, 1) := by decide +kernel
theorem d_12_6_10 : decode prog_12_method_6_code 10 = .ok (.isub, 1) := by decide +kernel
theorem d_12_6_11 : decode prog_12_method_6_code 11 = .ok (.if_icmp .ge 20, 3) := by decide +kernel
theorem d_12_6_14 : decode prog_12_method_6_code 14 = .ok (.aload_n 0, 1) := by decide +kernel
theorem d_12_6_15 : decode prog_12_method_6_code 15 = .ok (.iload 4, 2) := by decide +kernel
theorem d_12_6_17 : decode prog_12_method_6_code 17 = .ok (.iload_n 2, 1) := by decide +kernel
theorem d_12_6_18 : decode prog_12_method_6_code 18 = .ok (.invokevirtual 39, 3) := by decide +kernel
theorem d_12_6_21 : decode prog_12_method_6_code 21 = .ok (.iload_n 3, 1) := by decide +kernel
theorem d_12_6_22 : decode prog_12_method_6_code 22 = .ok (.if_icmp .le 9, 3) := by decide +kernel
theorem d_12_6_25 : decode prog_12_method_6_code 25 = .ok (.iinc 4 1, 3) := by decide +kernel
theorem d_12_6_28 : decode prog_12_method_6_code 28 = .ok (.goto (-25), 3) := by decide +kernel
theorem d_12_6_31 : decode prog_12_method_6_code 31 = .ok (.iload 4, 2) := by decide +kernel
theorem d_12_6_33 : decode prog_12_method_6_code 33 = .ok (.ireturn, 1) := by decide +kernel
theorem d_12_7_0 : decode prog_12_method_7_code 0 = .ok (.iconst 0, 1) := by decide +kernel
theorem d_12_7_1 : decode prog_12_method_7_code 1 = .ok (.istore_n 3, 1) := by decide +kernel
theorem d_12_7_2 : decode prog_12_method_7_code 2 = .ok (.iload_n 1, 1) := by decide +kernel
theorem d_12_7_3 : decode prog_12_method_7_code 3 = .ok (.ifCond .ne 7, 3) := by decide +kernel
theorem d_12_7_6 : decode prog_12_method_7_code 6 = .ok (.iconst 0, 1) := by decide +kernel
theorem d_12_7_7 : decode prog_12_method_7_code 7 = .ok (.goto 13, 3) := by decide +kernel
theorem d_12_7_10 : decode prog_12_method_7_code 10 = .ok (.aload_n 0, 1) := by decide +kernel
theorem d_12_7_11 : decode prog_12_method_7_code 11 = .ok (.getfield 23, 3) := by decide +kernel
theorem d_12_7_14 : decode prog_12_method_7_code 14 = .ok (.iload_n 1, 1) := by decide +kernel
theorem d_12_7_15 : decode prog_12_method_7_code 15 = .ok (.iconst 1, 1) := by decide +kernel
theorem d_12_7_16 : decode prog_12_method_7_code 16 = .ok (.isub, 1) := by decide +kernel
theorem d_12_7_17 : decode prog_12_method_7_code 17 = .ok (.iaload, 1) := by decide +kernel
theorem d_12_7_18 : decode prog_12_method_7_code 18 = .ok (.iconst 1, 1) := by decide +kernel
theorem d_12_7_19 : decode prog_12_method_7_code 19 = .ok (.iadd, 1) := by decide +kernel
theorem d_12_7_20 : decode prog_12_method_7_code 20 = .ok (.istore 4, 2) := by decide +kernel
theorem d_12_7_22 : decode prog_12_method_7_code 22 = .ok (.iload 4, 2) := by decide +kernel
theorem d_12_7_24 : decode prog_12_method_7_code 24 = .ok (.aload_n 0, 1) := by decide +kernel
theorem d_12_7_25 : decode prog_12_method_7_code 25 = .ok (.getfield 23, 3) := by decide +kernel
theorem d_12_7_28 : decode prog_12_method_7_code 28 = .ok (.iload_n 1, 1) := by decide +kernel
theorem d_12_7_29 : decode prog_12_method_7_code 29 = .ok (.iaload, 1) := by decide +kernel
theorem d_12_7_30 : decode prog_12_method_7_code 30 = .ok (.if_icmp .gt 21, 3) := by decide +kernel
theorem d_12_7_33 : decode prog_12_method_7_code 33 = .ok (.iload_n 3, 1) := by decide +kernel
theorem d_12_7_34 : decode prog_12_method_7_code 34 = .ok (.aload_n 0, 1) := by decide +kernel
theorem d_12_7_35 : decode prog_12_method_7_code 35 = .ok (.getfield 17, 3) := by decide +kernel
theorem d_12_7_38 : decode prog_12_method_7_code 38 = .ok (.iload_n 2, 1) := by decide +kernel
theorem d_12_7_39 : decode prog_12_method_7_code 39 = .ok (.aaload, 1) := by decide +kernel
theorem d_12_7_40 : decode prog_12_method_7_code 40 = .ok (.iload 4, 2) := by decide +kernel
theorem d_12_7_42 : decode prog_12_method_7_code 42 = .ok (.iaload, 1) := by decide +kernel
theorem d_12_7_43 : decode prog_12_method_7_code 43 = .ok (.iadd, 1) := by decide +kernel
theorem d_12_7_44 : decode prog_12_method_7_code 44 = .ok (.istore_n 3, 1) := by decide +kernel
theorem d_12_7_45 : decode prog_12_method_7_code 45 = .ok (.iinc 4 1, 3) := by decide +kernel
theorem d_12_7_48 : decode prog_12_method_7_code 48 = .ok (.goto (-26), 3) := by decide +kernel
theorem d_12_7_51 : decode prog_12_method_7_code 51 = .ok (.iload_n 3, 1) := by decide +kernel
theorem d_12_7_52 : decode prog_12_method_7_code 52 = .ok (.ireturn, 1) := by decide +kernel
theorem d_14_1_0 : decode prog_14_method_1_code 0 = .ok (.aload_n 0, 1) := by decide +kernel
theorem d_14_1_1 : decode prog_14_method_1_code 1 = .ok (.invokespecial 1, 3) := by decide +kernel
theorem d_14_1_4 : decode prog_14_method_1_code 4 = .ok (.aload_n 0, 1) := by decide +kernel
theorem d_14_1_5 : decode prog_14_method_1_code 5 = .ok (.bipush 12, 2) := by decide +kernel
theorem d_14_1_7 : decode prog_14_method_1_code 7 = .ok (.anewarray 7, 3) := by decide +kernel
theorem d_14_1_10 : decode prog_14_method_1_code 10 = .ok (.putfield 9, 3) := by decide +kernel
theorem d_14_1_13 : decode prog_14_method_1_code 13 = .ok (.aload_n 0, 1) := by decide +kernel
theorem d_14_1_14 : decode prog_14_method_1_code 14 = .ok (.bipush 12, 2) := by decide +kernel
theorem d_14_1_16 : decode prog_14_method_1_code 16 = .ok (.newarray .int, 2) := by decide +kernel
theorem d_14_1_18 : decode prog_14_method_1_code 18 = .ok (.putfield 15, 3) := by decide +kernel
theorem d_14_1_21 : decode prog_14_method_1_code 21 = .ok (.aload_n 0, 1) := by decide +kernel
theorem d_14_1_22 : decode prog_14_method_1_code 22 = .ok (.iload_n 1, 1) := by decide +kernel
theorem d_14_1_23 : decode prog_14_method_1_code 23 = .ok (.putfield 18, 3) := by decide +kernel
theorem d_14_1_26 : decode prog_14_method_1_code 26 = .ok (.return_, 1) := by decide +kernel
theorem d_14_2_0 : decode prog_14_method_2_code 0 = .ok (.iconst 0, 1) := by decide +kernel
theorem d_14_2_1 : decode prog_14_method_2_code 1 = .ok (.istore_n 3, 1) := by decide +kernel
theorem d_14_2_2 : decode prog_14_method_2_code 2 = .ok (.iconst 0, 1) := by decide +kernel
theorem d_14_2_3 : decode prog_14_method_2_code 3 = .ok (.istore 4, 2) := by decide +kernel
theorem d_14_2_5 : decode prog_14_method_2_code 5 = .ok (.iload 4, 2) := by decide +kernel
theorem d_14_2_7 : decode prog_14_method_2_code 7 = .ok (.aload_n 0, 1) := by decide +kernel
theorem d_14_2_8 : decode prog_14_method_2_code 8 = .ok (.getfield 22, 3) := by decide +kernel
theorem d_14_2_11 : decode prog_14_method_2_code 11 = .ok (.if_icmp .ge 44, 3) := by decide +kernel
theorem d_14_2_14 : decode prog_14_method_2_code 14 = .ok (.iload_n 3, 1) := by decide +kernel
theorem d_14_2_15 : decode prog_14_method_2_code 15 = .ok (.aload_n 0, 1) := by decide +kernel
theorem d_14_2_16 : decode prog_14_method_2_code 16 = .ok (.getfield 9, 3) := by decide +kernel
theorem d_14_2_19 : decode prog_14_method_2_code 19 = .ok (.iload 4, 2) := by decide +kernel
theorem d_14_2_21 : decode prog_14_method_2_code 21 = .ok (.aaload, 1) := by decide +kernel
theorem d_14_2_22 : decode prog_14_method_2_code 22 = .ok (.iload_n 1, 1) := by decide +kernel
theorem d_14_2_23 : decode prog_14_method_2_code 23 = .ok (.iaload, 1) := by decide +kernel
theorem d_14_2_24 : decode prog_14_method_2_code 24 = .ok (.aload_n 0, 1) := by decide +kernel
theorem d_14_2_25 : decode prog_14_method_2_code 25 = .ok (.getfield 9, 3) := by decide +kernel
theorem d_14_2_28 : decode prog_14_method_2_code 28 = .ok (.iload 4, 2) := by decide +kernel
theorem d_14_2_30 : decode prog_14_method_2_code 30 = .ok (.aaload, 1) := by decide +kernel
theorem d_14_2_31 : decode prog_14_method_2_code 31 = .ok (.iload_n 2, 1) := by decide +kernel
theorem d_14_2_32 : decode prog_14_method_2_code 32 = .ok (.iaload, 1) := by decide +kernel
theorem d_14_2_33 : decode prog_14_method_2_code 33 = .ok (.if_icmp .ge 13, 3) := by decide +kernel
theorem d_14_2_36 : decode prog_14_method_2_code 36 = .ok (.aload_n 0, 1) := by decide +kernel
theorem d_14_2_37 : decode prog_14_method_2_code 37 = .ok (.getfield 15, 3) := by decide +kernel
theorem d_14_2_40 : decode prog_14_method_2_code 40 = .ok (.iload 4, 2) := by decide +kernel
theorem d_14_2_42 : decode prog_14_method_2_code 42 = .ok (.iaload, 1) := by decide +kernel
theorem d_14_2_43 : decode prog_14_method_2_code 43 = .ok (.goto 4, 3) := by decide +kernel
theorem d_14_2_46 : decode prog_14_method_2_code 46 = .ok (.iconst 0, 1) := by decide +kernel
theorem d_14_2_47 : decode prog_14_method_2_code 47 = .ok (.iadd, 1) := by decide +kernel
theorem d_14_2_48 : decode prog_14_method_2_code 48 = .ok (.istore_n 3, 1) := by decide +kernel
theorem d_14_2_49 : decode prog_14_method_2_code 49 = .ok (.iinc 4 1, 3) := by decide +kernel
theorem d_14_2_52 : decode prog_14_method_2_code 52 = .ok (.goto (-47), 3) := by decide +kernel
theorem d_14_2_55 : decode prog_14_method_2_code 55 = .ok (.iload_n 3, 1) := by decide +kernel
theorem d_14_2_56 : decode prog_14_method_2_code 56 = .ok (.ireturn, 1) := by decide +kernel
theorem d_14_3_0 : decode prog_14_method_3_code 0 = .ok (.iconst 0, 1) := by decide +kernel
theorem d_14_3_1 : decode prog_14_method_3_code 1 = .ok (.istore_n 1, 1) := by decide +kernel
theorem d_14_3_2 : decode prog_14_method_3_code 2 = .ok (.iconst 0, 1) := by decide +kernel
theorem d_14_3_3 : decode prog_14_method_3_code 3 = .ok (.istore_n 2, 1) := by decide +kernel
theorem d_14_3_4 : decode prog_14_method_3_code 4 = .ok (.iload_n 2, 1) := by decide +kernel
theorem d_14_3_5 : decode prog_14_method_3_code 5 = .ok (.aload_n 0, 1) := by decide +kernel
theorem d_14_3_6 : decode prog_14_method_3_code 6 = .ok (.getfield 22, 3) := by decide +kernel
theorem d_14_3_9 : decode prog_14_method_3_code 9 = .ok (.if_icmp .ge 18, 3) := by decide +kernel
theorem d_14_3_12 : decode prog_14_method_3_code 12 = .ok (.iload_n 1, 1) := by decide +kernel
theorem d_14_3_13 : decode prog_14_method_3_code 13 = .ok (.aload_n 0, 1) := by decide +kernel
theorem d_14_3_14 : decode prog_14_method_3_code 14 = .ok (.getfield 15, 3) := by decide +kernel
theorem d_14_3_17 : decode prog_14_method_3_code 17 = .ok (.iload_n 2, 1) := by decide +kernel
theorem d_14_3_18 : decode prog_14_method_3_code 18 = .ok (.iaload, 1) := by decide +kernel
theorem d_14_3_19 : decode prog_14_method_3_code 19 = .ok (.iadd, 1) := by decide +kernel
theorem d_14_3_20 : decode prog_14_method_3_code 20 = .ok (.istore_n 1, 1) := by decide +kernel
theorem d_14_3_21 : decode prog_14_method_3_code 21 = .ok (.iinc 2 1, 3) := by decide +kernel
theorem d_14_3_24 : decode prog_14_method_3_code 24 = .ok (.goto (-20), 3) := by decide +kernel
theorem d_14_3_27 : decode prog_14_method_3_code 27 = .ok (.iload_n 1, 1) := by decide +kernel
theorem d_14_3_28 : decode prog_14_method_3_code 28 = .ok (.ireturn, 1) := by decide +kernel
theorem d_14_4_0 : decode prog_14_method_4_code 0 = .ok (.iconst 0, 1) := by decide +kernel
theorem d_14_4_1 : decode prog_14_method_4_code 1 = .ok (.istore_n 2, 1) := by decide +kernel
theorem d_14_4_2 : decode prog_14_method_4_code 2 = .ok (.iconst 0, 1) := by decide +kernel
theorem d_14_4_3 : decode prog_14_method_4_code 3 = .ok (.istore_n 3, 1) := by decide +kernel
theorem d_14_4_4 : decode prog_14_method_4_code 4 = .ok (.iload_n 3, 1) := by decide +kernel
theorem d_14_4_5 : decode prog_14_method_4_code 5 = .ok (.aload_n 0, 1) := by decide +kernel
theorem d_14_4_6 : decode prog_14_method_4_code 6 = .ok (.getfield 22, 3) := by decide +kernel
theorem d_14_4_9 : decode prog_14_method_4_code 9 = .ok (.if_icmp .ge 118, 3) := by decide +kernel
theorem d_14_4_12 : decode prog_14_method_4_code 12 = .ok (.iconst 1, 1) := by decide +kernel
theorem d_14_4_13 : decode prog_14_method_4_code 13 = .ok (.istore 4, 2) := by decide +kernel
theorem d_14_4_15 : decode prog_14_method_4_code 15 = .ok (.iconst 0, 1) := by decide +kernel
theorem d_14_4_16 : decode prog_14_method_4_code 16 = .ok (.istore 5, 2) := by decide +kernel
theorem d_14_4_18 : decode prog_14_method_4_code 18 = .ok (.iload 5, 2) := by decide +kernel
theorem d_14_4_20 : decode prog_14_method_4_code 20 = .ok (.aload_n 0, 1) := by decide +kernel
theorem d_14_4_21 : decode prog_14_method_4_code 21 = .ok (.getfield 18, 3) := by decide +kernel
theorem d_14_4_24 : decode prog_14_method_4_code 24 = .ok (.if_icmp .ge 79, 3) := by decide +kernel
theorem d_14_4_27 : decode prog_14_method_4_code 27 = .ok (.iconst 0, 1) := by decide +kernel
theorem d_14_4_28 : decode prog_14_method_4_code 28 = .ok (.istore 6, 2) := by decide +kernel
theorem d_14_4_30 : decode prog_14_method_4_code 30 = .ok (.iload 6, 2) := by decide +kernel
theorem d_14_4_32 : decode prog_14_method_4_code 32 = .ok (.aload_n 0, 1) := by decide +kernel
theorem d_14_4_33 : decode prog_14_method_4_code 33 = .ok (.getfield 18, 3) := by decide +kernel
theorem d_14_4_36 : decode prog_14_method_4_code 36 = .ok (.if_icmp .ge 61, 3) := by decide +kernel
theorem d_14_4_39 : decode prog_14_method_4_code 39 = .ok (.iload 4, 2) := by decide +kernel
theorem d_14_4_41 : decode prog_14_method_4_code 41 = .ok (.ifCond .eq 47, 3) := by decide +kernel
theorem d_14_4_44 : decode prog_14_method_4_code 44 = .ok (.iload_n 1, 1) := by decide +kernel
theorem d_14_4_45 : decode prog_14_method_4_code 45 = .ok (.iload 5, 2) := by decide +kernel
theorem d_14_4_47 : decode prog_14_method_4_code 47 = .ok (.ishr, 1) := by decide +kernel
theorem d_14_4_48 : decode prog_14_method_4_code 48 = .ok (.iconst 1, 1) := by decide +kernel
theorem d_14_4_49 : decode prog_14_method_4_code 49 = .ok (.iand, 1) := by decide +kernel
theorem d_14_4_50 : decode prog_14_method_4_code 50 = .ok (.ifCond .eq 34, 3) := by decide +kernel
theorem d_14_4_53 : decode prog_14_method_4_code 53 = .ok (.iload_n 1, 1) := by decide +kernel
theorem d_14_4_54 : decode prog_14_method_4_code 54 = .ok (.iload 6, 2) := by decide +kernel
theorem d_14_4_56 : decode prog_14_method_4_code 56 = .ok (.ishr, 1) := by decide +kernel
theorem d_14_4_57 : decode prog_14_method_4_code 57 = .ok (.iconst 1, 1) := by decide +kernel
theorem d_14_4_58 : decode prog_14_method_4_code 58 = .ok (.iand, 1) := by decide +kernel
theorem d_14_4_59 : decode prog_14_method_4_code 59 = .ok (.iconst 1, 1) := by decide +kernel
theorem d_14_4_60 : decode prog_14_method_4_code 60 = .ok (.if_icmp .eq 24, 3) := by decide +kernel
theorem d_14_4_63 : decode prog_14_method_4_code 63 = .ok (.aload_n 0, 1) := by decide +kernel
theorem d_14_4_64 : decode prog_14_method_4_code 64 = .ok (.getfield 9, 3) := by decide +kernel
theorem d_14_4_67 : decode prog_14_method_4_code 67 = .ok (.iload_n 3, 1) := by decide +kernel
theorem d_14_4_68 : decode prog_14_method_4_code 68 = .ok (.aaload, 1) := by decide +kernel
theorem d_14_4_69 : decode prog_14_method_4_code 69 = .ok (.iload 5, 2) := by decide +kernel
theorem d_14_4_71 : decode prog_14_method_4_code 71 = .ok (.iaload, 1) := by decide +kernel
theorem d_14_4_72 : decode prog_14_method_4_code 72 = .ok (.aload_n 0, 1) := by decide +kernel
theorem d_14_4_73 : decode prog_14_method_4_code 73 = .ok (.getfield 9, 3) := by decide +kernel
theorem d_14_4_76 : decode prog_14_method_4_code 76 = .ok (.iload_n 3, 1) := by decide +kernel
theorem d_14_4_77 : decode prog_14_method_4_code 77 = .ok (.aaload, 1) := by decide +kernel
theorem d_14_4_78 : decode prog_14_method_4_code 78 = .ok (.iload 6, 2) := by decide +kernel
theorem d_14_4_80 : decode prog_14_method_4_code 80 = .ok (.iaload, 1) := by decide +kernel
theorem d_14_4_81 : decode prog_14_method_4_code 81 = .ok (.if_icmp .ge 7, 3) := by decide +kernel
theorem d_14_4_84 : decode prog_14_method_4_code 84 = .ok (.iconst 1, 1) := by decide +kernel
theorem d_14_4_85 : decode prog_14_method_4_code 85 = .ok (.goto 4, 3) := by decide +kernel
theorem d_14_4_88 : decode prog_14_method_4_code 88 = .ok (.iconst 0, 1) := by decide +kernel
theorem d_14_4_89 : decode prog_14_method_4_code 89 = .ok (.istore 4, 2) := by decide +kernel
theorem d_14_4_91 : decode prog_14_method_4_code 91 = .ok (.iinc 6 1, 3) := by decide +kernel
theorem d_14_4_94 : decode prog_14_method_4_code 94 = .ok (.goto (-64), 3) := by decide +kernel
theorem d_14_4_97 : decode prog_14_method_4_code 97 = .ok (.iinc 5 1, 3) := by decide +kernel
theorem d_14_4_100 : decode prog_14_method_4_code 100 = .ok (.goto (-82), 3) := by decide +kernel
theorem d_14_4_103 : decode prog_14_method_4_code 103 = .ok (.iload_n 2, 1) := by decide +kernel
theorem d_14_4_104 : decode prog_14_method_4_code 104 = .ok (.iload 4, 2) := by decide +kernel
theorem d_14_4_106 : decode prog_14_method_4_code 106 = .ok (.ifCond .eq 12, 3) := by decide +kernel
theorem d_14_4_109 : decode prog_14_method_4_code 109 = .ok (.aload_n 0, 1) := by decide +kernel
theorem d_14_4_110 : decode prog_14_method_4_code 110 = .ok (.getfield 15, 3) := by decide +kernel
theorem d_14_4_113 : decode prog_14_method_4_code 113 = .ok (.iload_n 3, 1) := by decide +kernel
theorem d_14_4_114 : decode prog_14_method_4_code 114 = .ok (.iaload, 1) := by decide +kernel
theorem d_14_4_115 : decode prog_14_method_4_code 115 = .ok (.goto 4, 3) := by decide +kernel
theorem d_14_4_118 : decode prog_14_method_4_code 118 = .ok (.iconst 0, 1) := by decide +kernel
theorem d_14_4_119 : decode prog_14_method_4_code 119 = .ok (.iadd, 1) := by decide +kernel
theorem d_14_4_120 : decode prog_14_method_4_code 120 = .ok (.istore_n 2, 1) := by decide +kernel
theorem d_14_4_121 : decode prog_14_method_4_code 121 = .ok (.iinc 3 1, 3) := by decide +kernel
theorem d_14_4_124 : decode prog_14_method_4_code 124 = .ok (.goto (-120), 3) := by decide +kernel
theorem d_14_4_127 : decode prog_14_method_4_code 127 = .ok (.iload_n 2, 1) := by decide +kernel
theorem d_14_4_128 : decode prog_14_method_4_code 128 = .ok (.ireturn, 1) := by decide +kernel
theorem d_1_10_0 : decode prog_1_method_10_code 0 = .ok (.iload_n 1, 1) := by decide +kernel
theorem d_1_10_1 : decode prog_1_method_10_code 1 = .ok (.iconst 0, 1) := by decide +kernel
theorem d_1_10_2 : decode prog_1_method_10_code 2 = .ok (.ldc 138, 2) := by decide +kernel
theorem d_1_10_4 : decode prog_1_method_10_code 4 = .ok (.invokestatic 96, 3) := by decide +kernel
theorem d_1_10_7 : decode prog_1_method_10_code 7 = .ok (.aload_n 0, 1) := by decide +kernel
theorem d_1_10_8 : decode prog_1_method_10_code 8 = .ok (.getfield 37, 3) := by decide +kernel
theorem d_1_10_11 : decode prog_1_method_10_code 11 = .ok (.getfield 90, 3) := by decide +kernel
theorem d_1_10_14 : decode prog_1_method_10_code 14 = .ok (.iconst 1, 1) := by decide +kernel
theorem d_1_10_15 : decode prog_1_method_10_code 15 = .ok (.iadd, 1) := by decide +kernel
theorem d_1_10_16 : decode prog_1_method_10_code 16 = .ok (.bipush 8, 2) := by decide +kernel
theorem d_1_10_18 : decode prog_1_method_10_code 18 = .ok (.invokestatic 79, 3) := by decide +kernel
theorem d_1_10_21 : decode prog_1_method_10_code 21 = .ok (.aload_n 0, 1) := by decide +kernel
theorem d_1_10_22 : decode prog_1_method_10_code 22 = .ok (.getfield 37, 3) := by decide +kernel
theorem d_1_10_25 : decode prog_1_method_10_code 25 = .ok (.iload_n 1, 1) := by decide +kernel
theorem d_1_10_26 : decode prog_1_method_10_code 26 = .ok (.invokevirtual 139, 3) := by decide +kernel
theorem d_1_10_29 : decode prog_1_method_10_code 29 = .ok (.istore_n 2, 1) := by decide +kernel
theorem d_1_10_30 : decode prog_1_method_10_code 30 = .ok (.aload_n 0, 1) := by decide +kernel
theorem d_1_10_31 : decode prog_1_method_10_code 31 = .ok (.iconst 5, 1) := by decide +kernel
theorem d_1_10_32 : decode prog_1_method_10_code 32 = .ok (.iload_n 2, 1) := by decide +kernel
theorem d_1_10_33 : decode prog_1_method_10_code 33 = .ok (.iconst 0, 1) := by decide +kernel
theorem d_1_10_34 : decode prog_1_method_10_code 34 = .ok (.invokevirtual 86, 3) := by decide +kernel
theorem d_1_10_37 : decode prog_1_method_10_code 37 = .ok (.iload_n 2, 1) := by decide +kernel
theorem d_1_10_38 : decode prog_1_method_10_code 38 = .ok (.ireturn, 1) := by decide +kernel
theorem d_1_12_0 : decode prog_1_method_12_code 0 = .ok (.iload_n 1, 1) := by decide +kernel
theorem d_1_12_1 : decode prog_1_method_12_code 1 = .ok (.aload_n 0, 1) := by decide +kernel
theorem d_1_12_2 : decode prog_1_method_12_code 2 = .ok (.getfield 37, 3) := by decide +kernel
theorem d_1_12_5 : decode prog_1_method_12_code 5 = .ok (.getfield 90, 3) := by decide +kernel
theorem d_1_12_8 : decode prog_1_method_12_code 8 = .ok (.invokestatic 93, 3) := by decide +kernel
theorem d_1_12_11 : decode prog_1_method_12_code 11 = .ok (.iload_n 2, 1) := by decide +kernel
theorem d_1_12_12 : decode prog_1_method_12_code 12 = .ok (.iconst 0, 1) := by decide +kernel
theorem d_1_12_13 : decode prog_1_method_12_code 13 = .ok (.iconst 4, 1) := by decide +kernel
theorem d_1_12_14 : decode prog_1_method_12_code 14 = .ok (.invokestatic 96, 3) := by decide +kernel
theorem d_1_12_17 : decode prog_1_method_12_code 17 = .ok (.aload_n 0, 1) := by decide +kernel
theorem d_1_12_18 : decode prog_1_method_12_code 18 = .ok (.getfield 37, 3) := by decide +kernel
theorem d_1_12_21 : decode prog_1_method_12_code 21 = .ok (.getfield 146, 3) := by decide +kernel
theorem d_1_12_24 : decode prog_1_method_12_code 24 = .ok (.iload_n 1, 1) := by decide +kernel
theorem d_1_12_25 : decode prog_1_method_12_code 25 = .ok (.iaload, 1) := by decide +kernel
theorem d_1_12_26 : decode prog_1_method_12_code 26 = .ok (.istore_n 3, 1) := by decide +kernel
theorem d_1_12_27 : decode prog_1_method_12_code 27 = .ok (.aload_n 0, 1) := by decide +kernel
theorem d_1_12_28 : decode prog_1_method_12_code 28 = .ok (.getfield 37, 3) := by decide +kernel
theorem d_1_12_31 : decode prog_1_method_12_code 31 = .ok (.getfield 146, 3) := by decide +kernel
theorem d_1_12_34 : decode prog_1_method_12_code 34 = .ok (.iload_n 1, 1) := by decide +kernel
theorem d_1_12_35 : decode prog_1_method_12_code 35 = .ok (.iload_n 2, 1) := by decide +kernel
theorem d_1_12_36 : decode prog_1_method_12_code 36 = .ok (.iastore, 1) := by decide +kernel
theorem d_1_12_37 : decode prog_1_method_12_code 37 = .ok (.aload_n 0, 1) := by decide +kernel
theorem d_1_12_38 : decode prog_1_method_12_code 38 = .ok (.bipush 7, 2) := by decide +kernel
theorem d_1_12_40 : decode prog_1_method_12_code 40 = .ok (.iload_n 1, 1) := by decide +kernel
theorem d_1_12_41 : decode prog_1_method_12_code 41 = .ok (.iload_n 3, 1) := by decide +kernel
theorem d_1_12_42 : decode prog_1_method_12_code 42 = .ok (.invokevirtual 86, 3) := by decide +kernel
theorem d_1_12_45 : decode prog_1_method_12_code 45 = .ok (.iload_n 3, 1) := by decide +kernel
theorem d_1_12_46 : decode prog_1_method_12_code 46 = .ok (.ireturn, 1) := by decide +kernel
theorem d_1_13_0 : decode prog_1_method_13_code 0 = .ok (.iload_n 1, 1) := by decide +kernel
theorem d_1_13_1 : decode prog_1_method_13_code 1 = .ok (.iconst 0, 1) := by decide +kernel
theorem d_1_13_2 : decode prog_1_method_13_code 2 = .ok (.iconst 5, 1) := by decide +kernel
theorem d_1_13_3 : decode prog_1_method_13_code 3 = .ok (.invokestatic 96, 3) := by decide +kernel
theorem d_1_13_6 : decode prog_1_method_13_code 6 = .ok (.iload_n 2, 1) := by decide +kernel
theorem d_1_13_7 : decode prog_1_method_13_code 7 = .ok (.iconst 1, 1) := by decide +kernel
theorem d_1_13_8 : decode prog_1_method_13_code 8 = .ok (.bipush 60, 2) := by decide +kernel
theorem d_1_13_10 : decode prog_1_method_13_code 10 = .ok (.invokestatic 96, 3) := by decide +kernel
theorem d_1_13_13 : decode prog_1_method_13_code 13 = .ok (.iload_n 3, 1) := by decide +kernel
theorem d_1_13_14 : decode prog_1_method_13_code 14 = .ok (.iconst 0, 1) := by decide +kernel
theorem d_1_13_15 : decode prog_1_method_13_code 15 = .ok (.bipush 20, 2) := by decide +kernel
theorem d_1_13_17 : decode prog_1_method_13_code 17 = .ok (.invokestatic 96, 3) := by decide +kernel
theorem d_1_13_20 : decode prog_1_method_13_code 20 = .ok (.aload_n 0, 1) := by decide +kernel
theorem d_1_13_21 : decode prog_1_method_13_code 21 = .ok (.getfield 37, 3) := by decide +kernel
theorem d_1_13_24 : decode prog_1_method_13_code 24 = .ok (.iload_n 1, 1) := by decide +kernel
theorem d_1_13_25 : decode prog_1_method_13_code 25 = .ok (.iload_n 2, 1) := by decide +kernel
theorem d_1_13_26 : decode prog_1_method_13_code 26 = .ok (.iload_n 3, 1) := by decide +kernel
theorem d_1_13_27 : decode prog_1_method_13_code 27 = .ok (.invokevirtual 149, 3) := by decide +kernel
theorem d_1_13_30 : decode prog_1_method_13_code 30 = .ok (.istore 4, 2) := by decide +kernel
theorem d_1_13_32 : decode prog_1_method_13_code 32 = .ok (.aload_n 0, 1) := by decide +kernel
theorem d_1_13_33 : decode prog_1_method_13_code 33 = .ok (.getfield 37, 3) := by decide +kernel
theorem d_1_13_36 : decode prog_1_method_13_code 36 = .ok (.invokevirtual 153, 3) := by decide +kernel
theorem d_1_13_39 : decode prog_1_method_13_code 39 = .ok (.aload_n 0, 1) := by decide +kernel
theorem d_1_13_40 : decode prog_1_method_13_code 40 = .ok (.bipush 8, 2) := by decide +kernel
theorem d_1_13_42 : decode prog_1_method_13_code 42 = .ok (.iconst 0, 1) := by decide +kernel
theorem d_1_13_43 : decode prog_1_method_13_code 43 = .ok (.iconst 0, 1) := by decide +kernel
theorem d_1_13_44 : decode prog_1_method_13_code 44 = .ok (.invokevirtual 86, 3) := by decide +kernel
theorem d_1_13_47 : decode prog_1_method_13_code 47 = .ok (.iload 4, 2) := by decide +kernel
theorem d_1_13_49 : decode prog_1_method_13_code 49 = .ok (.ireturn, 1) := by decide +kernel
theorem d_1_14_0 : decode prog_1_method_14_code 0 = .ok (.iload_n 1, 1) := by decide +kernel
theorem d_1_14_1 : decode prog_1_method_14_code 1 = .ok (.aload_n 0, 1) := by decide +kernel
theorem d_1_14_2 : decode prog_1_method_14_code 2 = .ok (.getfield 37, 3) := by decide +kernel
theorem d_1_14_5 : decode prog_1_method_14_code 5 = .ok (.getfield 90, 3) := by decide +kernel
theorem d_1_14_8 : decode prog_1_method_14_code 8 = .ok (.invokestatic 93, 3) := by decide +kernel
theorem d_1_14_11 : decode prog_1_method_14_code 11 = .ok (.aload_n 0, 1) := by decide +kernel
theorem d_1_14_12 : decode prog_1_method_14_code 12 = .ok (.getfield 37, 3) := by decide +kernel
theorem d_1_14_15 : decode prog_1_method_14_code 15 = .ok (.invokevirtual 156, 3) := by decide +kernel
theorem d_1_14_18 : decode prog_1_method_14_code 18 = .ok (.getfield 160, 3) := by decide +kernel
theorem d_1_14_21 : decode prog_1_method_14_code 21 = .ok (.iload_n 1, 1) := by decide +kernel
theorem d_1_14_22 : decode prog_1_method_14_code 22 = .ok (.iaload, 1) := by decide +kernel
theorem d_1_14_23 : decode prog_1_method_14_code 23 = .ok (.ireturn, 1) := by decide +kernel
theorem d_1_15_0 : decode prog_1_method_15_code 0 = .ok (.aload_n 0, 1) := by decide +kernel
theorem d_1_15_1 : decode prog_1_method_15_code 1 = .ok (.getfield 37, 3) := by decide +kernel
theorem d_1_15_4 : decode prog_1_method_15_code 4 = .ok (.invokevirtual 156, 3) := by decide +kernel
theorem d_1_15_7 : decode prog_1_method_15_code 7 = .ok (.astore_n 2, 1) := by decide +kernel
theorem d_1_15_8 : decode prog_1_method_15_code 8 = .ok (.iload_n 1, 1) := by decide +kernel
theorem d_1_15_9 : decode prog_1_method_15_code 9 = .ok (.aload_n 2, 1) := by decide +kernel
theorem d_1_15_10 : decode prog_1_method_15_code 10 = .ok (.getfield 165, 3) := by decide +kernel
theorem d_1_15_13 : decode prog_1_method_15_code 13 = .ok (.ifCond .eq 7, 3) := by decide +kernel
theorem d_1_15_16 : decode prog_1_method_15_code 16 = .ok (.iconst 0, 1) := by decide +kernel
theorem d_1_15_17 : decode prog_1_method_15_code 17 = .ok (.goto 7, 3) := by decide +kernel
theorem d_1_15_20 : decode prog_1_method_15_code 20 = .ok (.aload_n 2, 1) := by decide +kernel
theorem d_1_15_21 : decode prog_1_method_15_code 21 = .ok (.getfield 169, 3) := by decide +kernel
theorem d_1_15_24 : decode prog_1_method_15_code 24 = .ok (.invokestatic 172, 3) := by decide +kernel
theorem d_1_15_27 : decode prog_1_method_15_code 27 = .ok (.aload_n 2, 1) := by decide +kernel
theorem d_1_15_28 : decode prog_1_method_15_code 28 = .ok (.getfield 175, 3) := by decide +kernel
theorem d_1_15_31 : decode prog_1_method_15_code 31 = .ok (.iload_n 1, 1) := by decide +kernel
theorem d_1_15_32 : decode prog_1_method_15_code 32 = .ok (.iaload, 1) := by decide +kernel
theorem d_1_15_33 : decode prog_1_method_15_code 33 = .ok (.ireturn, 1) := by decide +kernel
theorem d_1_17_0 : decode prog_1_method_17_code 0 = .ok (.iload_n 1, 1) := by decide +kernel
theorem d_1_17_1 : decode prog_1_method_17_code 1 = .ok (.iconst 1, 1) := by decide +kernel
theorem d_1_17_2 : decode prog_1_method_17_code 2 = .ok (.iconst 3, 1) := by decide +kernel
theorem d_1_17_3 : decode prog_1_method_17_code 3 = .ok (.invokestatic 96, 3) := by decide +kernel
theorem d_1_17_6 : decode prog_1_method_17_code 6 = .ok (.aload_n 0, 1) := by decide +kernel
theorem d_1_17_7 : decode prog_1_method_17_code 7 = .ok (.getfield 12, 3) := by decide +kernel
theorem d_1_17_10 : decode prog_1_method_17_code 10 = .ok (.getfield 75, 3) := by decide +kernel
theorem d_1_17_13 : decode prog_1_method_17_code 13 = .ok (.ifCond .ne 13, 3) := by decide +kernel
theorem d_1_17_26 : decode prog_1_method_17_code 26 = .ok (.aload_n 0, 1) := by decide +kernel
theorem d_1_17_27 : decode prog_1_method_17_code 27 = .ok (.getfield 44, 3) := by decide +kernel
theorem d_1_17_30 : decode prog_1_method_17_code 30 = .ok (.iload_n 1, 1) := by decide +kernel
theorem d_1_17_31 : decode prog_1_method_17_code 31 = .ok (.invokevirtual 188, 3) := by decide +kernel
theorem d_1_17_34 : decode prog_1_method_17_code 34 = .ok (.istore_n 2, 1) := by decide +kernel
theorem d_1_17_35 : decode prog_1_method_17_code 35 = .ok (.aload_n 0, 1) := by decide +kernel
theorem d_1_17_36 : decode prog_1_method_17_code 36 = .ok (.bipush 9, 2) := by decide +kernel
theorem d_1_17_38 : decode prog_1_method_17_code 38 = .ok (.iconst 0, 1) := by decide +kernel
theorem d_1_17_39 : decode prog_1_method_17_code 39 = .ok (.iconst 0, 1) := by decide +kernel
theorem d_1_17_40 : decode prog_1_method_17_code 40 = .ok (.invokevirtual 86, 3) := by decide +kernel
theorem d_1_17_43 : decode prog_1_method_17_code 43 = .ok (.iload_n 2, 1) := by decide +kernel
theorem d_1_17_44 : decode prog_1_method_17_code 44 = .ok (.ireturn, 1) := by decide +kernel
theorem d_1_18_0 : decode prog_1_method_18_code 0 = .ok (.aload_n 0, 1) := by decide +kernel
theorem d_1_18_1 : decode prog_1_method_18_code 1 = .ok (.getfield 44, 3) := by decide +kernel
theorem d_1_18_4 : decode prog_1_method_18_code 4 = .ok (.invokevirtual 191, 3) := by decide +kernel
theorem d_1_18_7 : decode prog_1_method_18_code 7 = .ok (.astore_n 1, 1) := by decide +kernel
theorem d_1_18_8 : decode prog_1_method_18_code 8 = .ok (.aload_n 1, 1) := by decide +kernel
theorem d_1_18_9 : decode prog_1_method_18_code 9 = .ok (.ifnonnull 7, 3) := by decide +kernel
theorem d_1_18_12 : decode prog_1_method_18_code 12 = .ok (.iconst (-1), 1) := by decide +kernel
theorem d_1_18_13 : decode prog_1_method_18_code 13 = .ok (.goto 7, 3) := by decide +kernel
theorem d_1_18_16 : decode prog_1_method_18_code 16 = .ok (.aload_n 1, 1) := by decide +kernel
theorem d_1_18_17 : decode prog_1_method_18_code 17 = .ok (.getfield 194, 3) := by decide +kernel
theorem d_1_18_20 : decode prog_1_method_18_code 20 = .ok (.ireturn, 1) := by decide +kernel
theorem d_1_19_0 : decode prog_1_method_19_code 0 = .ok (.aload_n 0, 1) := by decide +kernel
theorem d_1_19_1 : decode prog_1_method_19_code 1 = .ok (.getfield 44, 3) := by decide +kernel
theorem d_1_19_4 : decode prog_1_method_19_code 4 = .ok (.invokevirtual 191, 3) := by decide +kernel
theorem d_1_19_7 : decode prog_1_method_19_code 7 = .ok (.astore_n 2, 1) := by decide +kernel
theorem d_1_19_8 : decode prog_1_method_19_code 8 = .ok (.aload_n 2, 1) := by decide +kernel
theorem d_1_19_9 : decode prog_1_method_19_code 9 = .ok (.ifnull 15, 3) := by decide +kernel
theorem d_1_19_12 : decode prog_1_method_19_code 12 = .ok (.iload_n 1, 1) := by decide +kernel
theorem d_1_19_13 : decode prog_1_method_19_code 13 = .ok (.ifCond .lt 11, 3) := by decide +kernel
theorem d_1_19_16 : decode prog_1_method_19_code 16 = .ok (.iload_n 1, 1) := by decide +kernel
theorem d_1_19_17 : decode prog_1_method_19_code 17 = .ok (.aload_n 2, 1) := by decide +kernel
theorem d_1_19_18 : decode prog_1_method_19_code 18 = .ok (.getfield 199, 3) := by decide +kernel
theorem d_1_19_21 : decode prog_1_method_19_code 21 = .ok (.if_icmp .lt 13, 3) := by decide +kernel
theorem d_1_19_34 : decode prog_1_method_19_code 34 = .ok (.aload_n 2, 1) := by decide +kernel
theorem d_1_19_35 : decode prog_1_method_19_code 35 = .ok (.getfield 207, 3) := by decide +kernel
theorem d_1_19_38 : decode prog_1_method_19_code 38 = .ok (.iload_n 1, 1) := by decide +kernel
theorem d_1_19_39 : decode prog_1_method_19_code 39 = .ok (.iaload, 1) := by decide +kernel
theorem d_1_19_40 : decode prog_1_method_19_code 40 = .ok (.ireturn, 1) := by decide +kernel
theorem d_1_1_0 : decode prog_1_method_1_code 0 = .ok (.aload_n 0, 1) := by decide +kernel
theorem d_1_1_1 : decode prog_1_method_1_code 1 = .ok (.invokespecial 3, 3) := by decide +kernel
theorem d_1_1_4 : decode prog_1_method_1_code 4 = .ok (.aload_n 0, 1) := by decide +kernel
theorem d_1_1_5 : decode prog_1_method_1_code 5 = .ok (.new 9, 3) := by decide +kernel
theorem d_1_1_8 : decode prog_1_method_1_code 8 = .ok (.dup, 1) := by decide +kernel
theorem d_1_1_9 : decode prog_1_method_1_code 9 = .ok (.invokespecial 11, 3) := by decide +kernel
theorem d_1_1_12 : decode prog_1_method_1_code 12 = .ok (.putfield 12, 3) := by decide +kernel
theorem d_1_1_15 : decode prog_1_method_1_code 15 = .ok (.aload_n 0, 1) := by decide +kernel
theorem d_1_1_16 : decode prog_1_method_1_code 16 = .ok (.new 16, 3) := by decide +kernel
theorem d_1_1_19 : decode prog_1_method_1_code 19 = .ok (.dup, 1) := by decide +kernel
theorem d_1_1_20 : decode prog_1_method_1_code 20 = .ok (.aload_n 0, 1) := by decide +kernel
theorem d_1_1_21 : decode prog_1_method_1_code 21 = .ok (.getfield 12, 3) := by decide +kernel
theorem d_1_1_24 : decode prog_1_method_1_code 24 = .ok (.invokespecial 18, 3) := by decide +kernel
theorem d_1_1_27 : decode prog_1_method_1_code 27 = .ok (.putfield 21, 3) := by decide +kernel
theorem d_1_1_30 : decode prog_1_method_1_code 30 = .ok (.aload_n 0, 1) := by decide +kernel
theorem d_1_1_31 : decode prog_1_method_1_code 31 = .ok (.new 25, 3) := by decide +kernel
theorem d_1_1_34 : decode prog_1_method_1_code 34 = .ok (.dup, 1) := by decide +kernel
theorem d_1_1_35 : decode prog_1_method_1_code 35 = .ok (.aload_n 0, 1) := by decide +kernel
theorem d_1_1_36 : decode prog_1_method_1_code 36 = .ok (.getfield 12, 3) := by decide +kernel
theorem d_1_1_39 : decode prog_1_method_1_code 39 = .ok (.aload_n 0, 1) := by decide +kernel
theorem d_1_1_40 : decode prog_1_method_1_code 40 = .ok (.getfield 21, 3) := by decide +kernel
theorem d_1_1_43 : decode prog_1_method_1_code 43 = .ok (.invokespecial 27, 3) := by decide +kernel
theorem d_1_1_46 : decode prog_1_method_1_code 46 = .ok (.putfield 30, 3) := by decide +kernel
theorem d_1_1_49 : decode prog_1_method_1_code 49 = .ok (.aload_n 0, 1) := by decide +kernel
theorem d_1_1_50 : decode prog_1_method_1_code 50 = .ok (.new 34, 3) := by decide +kernel
theorem d_1_1_53 : decode prog_1_method_1_code 53 = .ok (.dup, 1) := by decide +kernel
theorem d_1_1_54 : decode prog_1_method_1_code 54 = .ok (.invokespecial 36, 3) := by decide +kernel
theorem d_1_1_57 : decode prog_1_method_1_code 57 = .ok (.putfield 37, 3) := by decide +kernel
theorem d_1_1_60 : decode prog_1_method_1_code 60 = .ok (.aload_n 0, 1) := by decide +kernel
theorem d_1_1_61 : decode prog_1_method_1_code 61 = .ok (.new 41, 3) := by decide +kernel
theorem d_1_1_64 : decode prog_1_method_1_code 64 = .ok (.dup, 1) := by decide +kernel
theorem d_1_1_65 : decode prog_1_method_1_code 65 = .ok (.aload_n 0, 1) := by decide +kernel
theorem d_1_1_66 : decode prog_1_method_1_code 66 = .ok (.getfield 12, 3) := by decide +kernel
theorem d_1_1_69 : decode prog_1_method_1_code 69 = .ok (.invokespecial 43, 3) := by decide +kernel
theorem d_1_1_72 : decode prog_1_method_1_code 72 = .ok (.putfield 44, 3) := by decide +kernel
theorem d_1_1_75 : decode prog_1_method_1_code 75 = .ok (.aload_n 0, 1) := by decide +kernel
theorem d_1_1_76 : decode prog_1_method_1_code 76 = .ok (.new 48, 3) := by decide +kernel
theorem d_1_1_79 : decode prog_1_method_1_code 79 = .ok (.dup, 1) := by decide +kernel
theorem d_1_1_80 : decode prog_1_method_1_code 80 = .ok (.invokespecial 50, 3) := by decide +kernel
theorem d_1_1_83 : decode prog_1_method_1_code 83 = .ok (.putfield 51, 3) := by decide +kernel
theorem d_1_1_86 : decode prog_1_method_1_code 86 = .ok (.aload_n 0, 1) := by decide +kernel
theorem d_1_1_87 : decode prog_1_method_1_code 87 = .ok (.new 55, 3) := by decide +kernel
theorem d_1_1_90 : decode prog_1_method_1_code 90 = .ok (.dup, 1) := by decide +kernel
theorem d_1_1_91 : decode prog_1_method_1_code 91 = .ok (.invokespecial 57, 3) := by decide +kernel
theorem d_1_1_94 : decode prog_1_method_1_code 94 = .ok (.putfield 58, 3) := by decide +kernel
theorem d_1_1_97 : decode prog_1_method_1_code 97 = .ok (.aload_n 0, 1) := by decide +kernel
theorem d_1_1_98 : decode prog_1_method_1_code 98 = .ok (.bipush 20, 2) := by decide +kernel
theorem d_1_1_100 : decode prog_1_method_1_code 100 = .ok (.newarray .int, 2) := by decide +kernel
theorem d_1_1_102 : decode prog_1_method_1_code 102 = .ok (.putfield 62, 3) := by decide +kernel
theorem d_1_1_105 : decode prog_1_method_1_code 105 = .ok (.aload_n 0, 1) := by decide +kernel
theorem d_1_1_106 : decode prog_1_method_1_code 106 = .ok (.bipush 20, 2) := by decide +kernel
theorem d_1_1_108 : decode prog_1_method_1_code 108 = .ok (.newarray .int, 2) := by decide +kernel
theorem d_1_1_110 : decode prog_1_method_1_code 110 = .ok (.putfield 66, 3) := by decide +kernel
theorem d_1_1_113 : decode prog_1_method_1_code 113 = .ok (.aload_n 0, 1) := by decide +kernel
theorem d_1_1_114 : decode prog_1_method_1_code 114 = .ok (.bipush 20, 2) := by decide +kernel
theorem d_1_1_116 : decode prog_1_method_1_code 116 = .ok (.newarray .int, 2) := by decide +kernel
theorem d_1_1_118 : decode prog_1_method_1_code 118 = .ok (.putfield 69, 3) := by decide +kernel
theorem d_1_1_121 : decode prog_1_method_1_code 121 = .ok (.aload_n 0, 1) := by decide +kernel
theorem d_1_1_122 : decode prog_1_method_1_code 122 = .ok (.sipush 240, 3) := by decide +kernel
theorem d_1_1_125 : decode prog_1_method_1_code 125 = .ok (.newarray .int, 2) := by decide +kernel
theorem d_1_1_127 : decode prog_1_method_1_code 127 = .ok (.putfield 72, 3) := by decide +kernel
theorem d_1_1_130 : decode prog_1_method_1_code 130 = .ok (.return_, 1) := by decide +kernel
theorem d_1_21_0 : decode prog_1_method_21_code 0 = .ok (.aload_n 0, 1) := by decide +kernel
theorem d_1_21_1 : decode prog_1_method_21_code 1 = .ok (.getfield 44, 3) := by decide +kernel
theorem d_1_21_4 : decode prog_1_method_21_code 4 = .ok (.invokevirtual 191, 3) := by decide +kernel
theorem d_1_21_7 : decode prog_1_method_21_code 7 = .ok (.astore_n 1, 1) := by decide +kernel
theorem d_1_21_8 : decode prog_1_method_21_code 8 = .ok (.aload_n 1, 1) := by decide +kernel
theorem d_1_21_9 : decode prog_1_method_21_code 9 = .ok (.ifnonnull 7, 3) := by decide +kernel
theorem d_1_21_12 : decode prog_1_method_21_code 12 = .ok (.iconst 0, 1) := by decide +kernel
theorem d_1_21_13 : decode prog_1_method_21_code 13 = .ok (.goto 12, 3) := by decide +kernel
theorem d_1_21_16 : decode prog_1_method_21_code 16 = .ok (.aload_n 1, 1) := by decide +kernel
theorem d_1_21_17 : decode prog_1_method_21_code 17 = .ok (.getfield 199, 3) := by decide +kernel
theorem d_1_21_20 : decode prog_1_method_21_code 20 = .ok (.aload_n 1, 1) := by decide +kernel
theorem d_1_21_21 : decode prog_1_method_21_code 21 = .ok (.getfield 210, 3) := by decide +kernel
theorem d_1_21_24 : decode prog_1_method_21_code 24 = .ok (.iadd, 1) := by decide +kernel
theorem d_1_21_25 : decode prog_1_method_21_code 25 = .ok (.ireturn, 1) := by decide +kernel
theorem d_1_22_0 : decode prog_1_method_22_code 0 = .ok (.iload_n 2, 1) := by decide +kernel
theorem d_1_22_1 : decode prog_1_method_22_code 1 = .ok (.iconst (-1), 1) := by decide +kernel
theorem d_1_22_2 : decode prog_1_method_22_code 2 = .ok (.if_icmp .eq 14, 3) := by decide +kernel
theorem d_1_22_5 : decode prog_1_method_22_code 5 = .ok (.iload_n 2, 1) := by decide +kernel
theorem d_1_22_6 : decode prog_1_method_22_code 6 = .ok (.aload_n 0, 1) := by decide +kernel
theorem d_1_22_7 : decode prog_1_method_22_code 7 = .ok (.getfield 12, 3) := by decide +kernel
theorem d_1_22_10 : decode prog_1_method_22_code 10 = .ok (.getfield 75, 3) := by decide +kernel
theorem d_1_22_13 : decode prog_1_method_22_code 13 = .ok (.invokestatic 93, 3) := by decide +kernel
theorem d_1_22_16 : decode prog_1_method_22_code 16 = .ok (.aload_n 0, 1) := by decide +kernel
theorem d_1_22_17 : decode prog_1_method_22_code 17 = .ok (.getfield 44, 3) := by decide +kernel
theorem d_1_22_20 : decode prog_1_method_22_code 20 = .ok (.invokevirtual 191, 3) := by decide +kernel
theorem d_1_22_23 : decode prog_1_method_22_code 23 = .ok (.astore_n 3, 1) := by decide +kernel
theorem d_1_22_24 : decode prog_1_method_22_code 24 = .ok (.aload_n 3, 1) := by decide +kernel
theorem d_1_22_25 : decode prog_1_method_22_code 25 = .ok (.ifnull 20, 3) := by decide +kernel
theorem d_1_22_28 : decode prog_1_method_22_code 28 = .ok (.iload_n 1, 1) := by decide +kernel
theorem d_1_22_29 : decode prog_1_method_22_code 29 = .ok (.ifCond .lt 16, 3) := by decide +kernel
theorem d_1_22_32 : decode prog_1_method_22_code 32 = .ok (.iload_n 1, 1) := by decide +kernel
theorem d_1_22_33 : decode prog_1_method_22_code 33 = .ok (.aload_n 3, 1) := by decide +kernel
theorem d_1_22_34 : decode prog_1_method_22_code 34 = .ok (.getfield 199, 3) := by decide +kernel
theorem d_1_22_37 : decode prog_1_method_22_code 37 = .ok (.aload_n 3, 1) := by decide +kernel
theorem d_1_22_38 : decode prog_1_method_22_code 38 = .ok (.getfield 210, 3) := by decide +kernel
theorem d_1_22_41 : decode prog_1_method_22_code 41 = .ok (.iadd, 1) := by decide +kernel
theorem d_1_22_42 : decode prog_1_method_22_code 42 = .ok (.if_icmp .le 13, 3) := by decide +kernel
theorem d_1_22_55 : decode prog_1_method_22_code 55 = .ok (.aload_n 0, 1) := by decide +kernel
theorem d_1_22_56 : decode prog_1_method_22_code 56 = .ok (.getfield 44, 3) := by decide +kernel
theorem d_1_22_59 : decode prog_1_method_22_code 59 = .ok (.aload_n 3, 1) := by decide +kernel
theorem d_1_22_60 : decode prog_1_method_22_code 60 = .ok (.iload_n 1, 1) := by decide +kernel
theorem d_1_22_61 : decode prog_1_method_22_code 61 = .ok (.iload_n 2, 1) := by decide +kernel
theorem d_1_22_62 : decode prog_1_method_22_code 62 = .ok (.iconst (-1), 1) := by decide +kernel
theorem d_1_22_63 : decode prog_1_method_22_code 63 = .ok (.if_icmp .ne 8, 3) := by decide +kernel
theorem d_1_22_66 : decode prog_1_method_22_code 66 = .ok (.bipush 8, 2) := by decide +kernel
theorem d_1_22_68 : decode prog_1_method_22_code 68 = .ok (.goto 4, 3) := by decide +kernel
theorem d_1_22_71 : decode prog_1_method_22_code 71 = .ok (.iload_n 2, 1) := by decide +kernel
theorem d_1_22_72 : decode prog_1_method_22_code 72 = .ok (.invokevirtual 220, 3) := by decide +kernel
theorem d_1_22_75 : decode prog_1_method_22_code 75 = .ok (.aload_n 0, 1) := by decide +kernel
theorem d_1_22_76 : decode prog_1_method_22_code 76 = .ok (.getfield 44, 3) := by decide +kernel
theorem d_1_22_79 : decode prog_1_method_22_code 79 = .ok (.invokevirtual 224, 3) := by decide +kernel
theorem d_1_22_82 : decode prog_1_method_22_code 82 = .ok (.aload_n 0, 1) := by decide +kernel
theorem d_1_22_83 : decode prog_1_method_22_code 83 = .ok (.iconst 0, 1) := by decide +kernel
theorem d_1_22_84 : decode prog_1_method_22_code 84 = .ok (.putfield 227, 3) := by decide +kernel
theorem d_1_22_87 : decode prog_1_method_22_code 87 = .ok (.aload_n 0, 1) := by decide +kernel
theorem d_1_22_88 : decode prog_1_method_22_code 88 = .ok (.aload_n 0, 1) := by decide +kernel
theorem d_1_22_89 : decode prog_1_method_22_code 89 = .ok (.getfield 44, 3) := by decide +kernel
theorem d_1_22_92 : decode prog_1_method_22_code 92 = .ok (.getfield 230, 3) := by decide +kernel
theorem d_1_22_95 : decode prog_1_method_22_code 95 = .ok (.invokevirtual 234, 3) := by decide +kernel
theorem d_1_22_98 : decode prog_1_method_22_code 98 = .ok (.aload_n 0, 1) := by decide +kernel
theorem d_1_22_99 : decode prog_1_method_22_code 99 = .ok (.getfield 44, 3) := by decide +kernel
theorem d_1_22_102 : decode prog_1_method_22_code 102 = .ok (.getfield 238, 3) := by decide +kernel
theorem d_1_22_105 : decode prog_1_method_22_code 105 = .ok (.invokevirtual 241, 3) := by decide +kernel
theorem d_1_22_108 : decode prog_1_method_22_code 108 = .ok (.ifCond .ne 20, 3) := by decide +kernel
theorem d_1_22_111 : decode prog_1_method_22_code 111 = .ok (.aload_n 0, 1) := by decide +kernel
theorem d_1_22_112 : decode prog_1_method_22_code 112 = .ok (.bipush 47, 2) := by decide +kernel
theorem d_1_22_114 : decode prog_1_method_22_code 114 = .ok (.invokevirtual 247, 3) := by decide +kernel
theorem d_1_22_117 : decode prog_1_method_22_code 117 = .ok (.aload_n 0, 1) := by decide +kernel
theorem d_1_22_118 : decode prog_1_method_22_code 118 = .ok (.aload_n 0, 1) := by decide +kernel
theorem d_1_22_119 : decode prog_1_method_22_code 119 = .ok (.getfield 44, 3) := by decide +kernel
theorem d_1_22_122 : decode prog_1_method_22_code 122 = .ok (.getfield 238, 3) := by decide +kernel
theorem d_1_22_125 : decode prog_1_method_22_code 125 = .ok (.invokevirtual 234, 3) := by decide +kernel
theorem d_1_22_128 : decode prog_1_method_22_code 128 = .ok (.aload_n 0, 1) := by decide +kernel
theorem d_1_22_129 : decode prog_1_method_22_code 129 = .ok (.getfield 227, 3) := by decide +kernel
theorem d_1_22_132 : decode prog_1_method_22_code 132 = .ok (.ireturn, 1) := by decide +kernel
theorem d_1_23_0 : decode prog_1_method_23_code 0 = .ok (.iload_n 1, 1) := by decide +kernel
theorem d_1_23_1 : decode prog_1_method_23_code 1 = .ok (.ifCond .lt 11, 3) := by decide +kernel
theorem d_1_23_4 : decode prog_1_method_23_code 4 = .ok (.iload_n 1, 1) := by decide +kernel
theorem d_1_23_5 : decode prog_1_method_23_code 5 = .ok (.aload_n 0, 1) := by decide +kernel
theorem d_1_23_6 : decode prog_1_method_23_code 6 = .ok (.getfield 227, 3) := by decide +kernel
theorem d_1_23_9 : decode prog_1_method_23_code 9 = .ok (.if_icmp .lt 7, 3) := by decide +kernel
theorem d_1_23_12 : decode prog_1_method_23_code 12 = .ok (.iconst (-1), 1) := by decide +kernel
theorem d_1_23_13 : decode prog_1_method_23_code 13 = .ok (.goto 9, 3) := by decide +kernel
theorem d_1_23_16 : decode prog_1_method_23_code 16 = .ok (.aload_n 0, 1) := by decide +kernel
theorem d_1_23_17 : decode prog_1_method_23_code 17 = .ok (.getfield 72, 3) := by decide +kernel
theorem d_1_23_20 : decode prog_1_method_23_code 20 = .ok (.iload_n 1, 1) := by decide +kernel
theorem d_1_23_21 : decode prog_1_method_23_code 21 = .ok (.iaload, 1) := by decide +kernel
theorem d_1_23_22 : decode prog_1_method_23_code 22 = .ok (.ireturn, 1) := by decide +kernel
theorem d_1_24_0 : decode prog_1_method_24_code 0 = .ok (.iload_n 1, 1) := by decide +kernel
theorem d_1_24_1 : decode prog_1_method_24_code 1 = .ok (.iconst 1, 1) := by decide +kernel
theorem d_1_24_2 : decode prog_1_method_24_code 2 = .ok (.aload_n 0, 1) := by decide +kernel
theorem d_1_24_3 : decode prog_1_method_24_code 3 = .ok (.getfield 12, 3) := by decide +kernel
theorem d_1_24_6 : decode prog_1_method_24_code 6 = .ok (.invokevirtual 250, 3) := by decide +kernel
theorem d_1_24_9 : decode prog_1_method_24_code 9 = .ok (.invokestatic 96, 3) := by decide +kernel
theorem d_1_24_12 : decode prog_1_method_24_code 12 = .ok (.aload_n 0, 1) := by decide +kernel
theorem d_1_24_13 : decode prog_1_method_24_code 13 = .ok (.getfield 44, 3) := by decide +kernel
theorem d_1_24_16 : decode prog_1_method_24_code 16 = .ok (.invokevirtual 191, 3) := by decide +kernel
theorem d_1_24_19 : decode prog_1_method_24_code 19 = .ok (.astore_n 2, 1) := by decide +kernel
theorem d_1_24_20 : decode prog_1_method_24_code 20 = .ok (.aload_n 2, 1) := by decide +kernel
theorem d_1_24_21 : decode prog_1_method_24_code 21 = .ok (.ifnull 11, 3) := by decide +kernel
theorem d_1_24_24 : decode prog_1_method_24_code 24 = .ok (.aload_n 2, 1) := by decide +kernel
theorem d_1_24_25 : decode prog_1_method_24_code 25 = .ok (.getfield 194, 3) := by decide +kernel
theorem d_1_24_28 : decode prog_1_method_24_code 28 = .ok (.iconst 1, 1) := by decide +kernel
theorem d_1_24_29 : decode prog_1_method_24_code 29 = .ok (.if_icmp .ge 13, 3) := by decide +kernel
theorem d_1_24_42 : decode prog_1_method_24_code 42 = .ok (.aload_n 0, 1) := by decide +kernel
theorem d_1_24_43 : decode prog_1_method_24_code 43 = .ok (.getfield 12, 3) := by decide +kernel
theorem d_1_24_46 : decode prog_1_method_24_code 46 = .ok (.aload_n 0, 1) := by decide +kernel
theorem d_1_24_47 : decode prog_1_method_24_code 47 = .ok (.getfield 12, 3) := by decide +kernel
theorem d_1_24_50 : decode prog_1_method_24_code 50 = .ok (.getfield 123, 3) := by decide +kernel
theorem d_1_24_53 : decode prog_1_method_24_code 53 = .ok (.aload_n 0, 1) := by decide +kernel
theorem d_1_24_54 : decode prog_1_method_24_code 54 = .ok (.getfield 12, 3) := by decide +kernel
theorem d_1_24_57 : decode prog_1_method_24_code 57 = .ok (.getfield 117, 3) := by decide +kernel
theorem d_1_24_60 : decode prog_1_method_24_code 60 = .ok (.aload_n 0, 1) := by decide +kernel
theorem d_1_24_61 : decode prog_1_method_24_code 61 = .ok (.getfield 12, 3) := by decide +kernel
theorem d_1_24_64 : decode prog_1_method_24_code 64 = .ok (.invokevirtual 250, 3) := by decide +kernel
theorem d_1_24_67 : decode prog_1_method_24_code 67 = .ok (.invokevirtual 255, 3) := by decide +kernel
theorem d_1_24_70 : decode prog_1_method_24_code 70 = .ok (.aload_n 0, 1) := by decide +kernel
theorem d_1_24_71 : decode prog_1_method_24_code 71 = .ok (.getfield 12, 3) := by decide +kernel
theorem d_1_24_74 : decode prog_1_method_24_code 74 = .ok (.getfield 259, 3) := by decide +kernel
theorem d_1_24_77 : decode prog_1_method_24_code 77 = .ok (.iload_n 1, 1) := by decide +kernel
