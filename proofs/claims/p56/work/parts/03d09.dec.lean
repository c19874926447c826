theorem d_4_1_4 : decode prog_4_method_1_code 4 = .ok (.aload_n 0, 1) := by decide +kernel
theorem d_4_1_5 : decode prog_4_method_1_code 5 = .ok (.bipush 30, 2) := by decide +kernel
theorem d_4_1_7 : decode prog_4_method_1_code 7 = .ok (.newarray .int, 2) := by decide +kernel
theorem d_4_1_9 : decode prog_4_method_1_code 9 = .ok (.putfield 9, 3) := by decide +kernel
theorem d_4_1_12 : decode prog_4_method_1_code 12 = .ok (.aload_n 0, 1) := by decide +kernel
theorem d_4_1_13 : decode prog_4_method_1_code 13 = .ok (.iconst 3, 1) := by decide +kernel
theorem d_4_1_14 : decode prog_4_method_1_code 14 = .ok (.newarray .int, 2) := by decide +kernel
theorem d_4_1_16 : decode prog_4_method_1_code 16 = .ok (.putfield 15, 3) := by decide +kernel
theorem d_4_1_19 : decode prog_4_method_1_code 19 = .ok (.aload_n 0, 1) := by decide +kernel
theorem d_4_1_20 : decode prog_4_method_1_code 20 = .ok (.bipush 8, 2) := by decide +kernel
theorem d_4_1_22 : decode prog_4_method_1_code 22 = .ok (.newarray .int, 2) := by decide +kernel
theorem d_4_1_24 : decode prog_4_method_1_code 24 = .ok (.putfield 18, 3) := by decide +kernel
theorem d_4_1_27 : decode prog_4_method_1_code 27 = .ok (.aload_n 0, 1) := by decide +kernel
theorem d_4_1_28 : decode prog_4_method_1_code 28 = .ok (.sipush 1170, 3) := by decide +kernel
theorem d_4_1_31 : decode prog_4_method_1_code 31 = .ok (.newarray .int, 2) := by decide +kernel
theorem d_4_1_33 : decode prog_4_method_1_code 33 = .ok (.putfield 21, 3) := by decide +kernel
theorem d_4_1_36 : decode prog_4_method_1_code 36 = .ok (.return_, 1) := by decide +kernel
theorem d_4_2_0 : decode prog_4_method_2_code 0 = .ok (.iload_n 1, 1) := by decide +kernel
theorem d_4_2_1 : decode prog_4_method_2_code 1 = .ok (.bipush 10, 2) := by decide +kernel
theorem d_4_2_3 : decode prog_4_method_2_code 3 = .ok (.imul, 1) := by decide +kernel
theorem d_4_2_4 : decode prog_4_method_2_code 4 = .ok (.iload_n 2, 1) := by decide +kernel
theorem d_4_2_5 : decode prog_4_method_2_code 5 = .ok (.iadd, 1) := by decide +kernel
theorem d_4_2_6 : decode prog_4_method_2_code 6 = .ok (.bipush 13, 2) := by decide +kernel
theorem d_4_2_8 : decode prog_4_method_2_code 8 = .ok (.imul, 1) := by decide +kernel
theorem d_4_2_9 : decode prog_4_method_2_code 9 = .ok (.ireturn, 1) := by decide +kernel
theorem d_5_10_0 : decode prog_5_method_10_code 0 = .ok (.iconst (-1), 1) := by decide +kernel
theorem d_5_10_1 : decode prog_5_method_10_code 1 = .ok (.istore_n 1, 1) := by decide +kernel
theorem d_5_10_2 : decode prog_5_method_10_code 2 = .ok (.iconst 0, 1) := by decide +kernel
theorem d_5_10_3 : decode prog_5_method_10_code 3 = .ok (.istore_n 2, 1) := by decide +kernel
theorem d_5_10_4 : decode prog_5_method_10_code 4 = .ok (.iload_n 2, 1) := by decide +kernel
theorem d_5_10_5 : decode prog_5_method_10_code 5 = .ok (.aload_n 0, 1) := by decide +kernel
theorem d_5_10_6 : decode prog_5_method_10_code 6 = .ok (.getfield 55, 3) := by decide +kernel
theorem d_5_10_9 : decode prog_5_method_10_code 9 = .ok (.getfield 72, 3) := by decide +kernel
theorem d_5_10_12 : decode prog_5_method_10_code 12 = .ok (.if_icmp .ge 36, 3) := by decide +kernel
theorem d_5_10_15 : decode prog_5_method_10_code 15 = .ok (.aload_n 0, 1) := by decide +kernel
theorem d_5_10_16 : decode prog_5_method_10_code 16 = .ok (.getfield 80, 3) := by decide +kernel
theorem d_5_10_19 : decode prog_5_method_10_code 19 = .ok (.iload_n 2, 1) := by decide +kernel
theorem d_5_10_20 : decode prog_5_method_10_code 20 = .ok (.invokestatic 161, 3) := by decide +kernel
theorem d_5_10_23 : decode prog_5_method_10_code 23 = .ok (.ifCond .eq 19, 3) := by decide +kernel
theorem d_5_10_26 : decode prog_5_method_10_code 26 = .ok (.iload_n 1, 1) := by decide +kernel
theorem d_5_10_27 : decode prog_5_method_10_code 27 = .ok (.iconst (-1), 1) := by decide +kernel
theorem d_5_10_28 : decode prog_5_method_10_code 28 = .ok (.if_icmp .eq 12, 3) := by decide +kernel
theorem d_5_10_31 : decode prog_5_method_10_code 31 = .ok (.aload_n 0, 1) := by decide +kernel
theorem d_5_10_32 : decode prog_5_method_10_code 32 = .ok (.iload_n 2, 1) := by decide +kernel
theorem d_5_10_33 : decode prog_5_method_10_code 33 = .ok (.iload_n 1, 1) := by decide +kernel
theorem d_5_10_34 : decode prog_5_method_10_code 34 = .ok (.invokevirtual 194, 3) := by decide +kernel
theorem d_5_10_37 : decode prog_5_method_10_code 37 = .ok (.ifCond .eq 5, 3) := by decide +kernel
theorem d_5_10_40 : decode prog_5_method_10_code 40 = .ok (.iload_n 2, 1) := by decide +kernel
theorem d_5_10_41 : decode prog_5_method_10_code 41 = .ok (.istore_n 1, 1) := by decide +kernel
theorem d_5_10_42 : decode prog_5_method_10_code 42 = .ok (.iinc 2 1, 3) := by decide +kernel
theorem d_5_10_45 : decode prog_5_method_10_code 45 = .ok (.goto (-41), 3) := by decide +kernel
theorem d_5_10_48 : decode prog_5_method_10_code 48 = .ok (.iload_n 1, 1) := by decide +kernel
theorem d_5_10_49 : decode prog_5_method_10_code 49 = .ok (.ireturn, 1) := by decide +kernel
theorem d_5_11_0 : decode prog_5_method_11_code 0 = .ok (.iconst (-1), 1) := by decide +kernel
theorem d_5_11_1 : decode prog_5_method_11_code 1 = .ok (.istore_n 1, 1) := by decide +kernel
theorem d_5_11_2 : decode prog_5_method_11_code 2 = .ok (.iconst 0, 1) := by decide +kernel
theorem d_5_11_3 : decode prog_5_method_11_code 3 = .ok (.istore_n 2, 1) := by decide +kernel
theorem d_5_11_4 : decode prog_5_method_11_code 4 = .ok (.iload_n 2, 1) := by decide +kernel
theorem d_5_11_5 : decode prog_5_method_11_code 5 = .ok (.aload_n 0, 1) := by decide +kernel
theorem d_5_11_6 : decode prog_5_method_11_code 6 = .ok (.getfield 55, 3) := by decide +kernel
theorem d_5_11_9 : decode prog_5_method_11_code 9 = .ok (.getfield 72, 3) := by decide +kernel
theorem d_5_11_12 : decode prog_5_method_11_code 12 = .ok (.if_icmp .ge 36, 3) := by decide +kernel
theorem d_5_11_15 : decode prog_5_method_11_code 15 = .ok (.aload_n 0, 1) := by decide +kernel
theorem d_5_11_16 : decode prog_5_method_11_code 16 = .ok (.getfield 80, 3) := by decide +kernel
theorem d_5_11_19 : decode prog_5_method_11_code 19 = .ok (.iload_n 2, 1) := by decide +kernel
theorem d_5_11_20 : decode prog_5_method_11_code 20 = .ok (.invokestatic 161, 3) := by decide +kernel
theorem d_5_11_23 : decode prog_5_method_11_code 23 = .ok (.ifCond .eq 19, 3) := by decide +kernel
theorem d_5_11_26 : decode prog_5_method_11_code 26 = .ok (.iload_n 1, 1) := by decide +kernel
theorem d_5_11_27 : decode prog_5_method_11_code 27 = .ok (.iconst (-1), 1) := by decide +kernel
theorem d_5_11_28 : decode prog_5_method_11_code 28 = .ok (.if_icmp .eq 12, 3) := by decide +kernel
theorem d_5_11_31 : decode prog_5_method_11_code 31 = .ok (.aload_n 0, 1) := by decide +kernel
theorem d_5_11_32 : decode prog_5_method_11_code 32 = .ok (.iload_n 1, 1) := by decide +kernel
theorem d_5_11_33 : decode prog_5_method_11_code 33 = .ok (.iload_n 2, 1) := by decide +kernel
theorem d_5_11_34 : decode prog_5_method_11_code 34 = .ok (.invokevirtual 194, 3) := by decide +kernel
theorem d_5_11_37 : decode prog_5_method_11_code 37 = .ok (.ifCond .eq 5, 3) := by decide +kernel
theorem d_5_11_40 : decode prog_5_method_11_code 40 = .ok (.iload_n 2, 1) := by decide +kernel
theorem d_5_11_41 : decode prog_5_method_11_code 41 = .ok (.istore_n 1, 1) := by decide +kernel
theorem d_5_11_42 : decode prog_5_method_11_code 42 = .ok (.iinc 2 1, 3) := by decide +kernel
theorem d_5_11_45 : decode prog_5_method_11_code 45 = .ok (.goto (-41), 3) := by decide +kernel
theorem d_5_11_48 : decode prog_5_method_11_code 48 = .ok (.iload_n 1, 1) := by decide +kernel
theorem d_5_11_49 : decode prog_5_method_11_code 49 = .ok (.ireturn, 1) := by decide +kernel
theorem d_5_12_0 : decode prog_5_method_12_code 0 = .ok (.aload_n 0, 1) := by decide +kernel
theorem d_5_12_1 : decode prog_5_method_12_code 1 = .ok (.getfield 23, 3) := by decide +kernel
theorem d_5_12_4 : decode prog_5_method_12_code 4 = .ok (.iload_n 1, 1) := by decide +kernel
theorem d_5_12_5 : decode prog_5_method_12_code 5 = .ok (.aaload, 1) := by decide +kernel
theorem d_5_12_6 : decode prog_5_method_12_code 6 = .ok (.aload_n 0, 1) := by decide +kernel
theorem d_5_12_7 : decode prog_5_method_12_code 7 = .ok (.getfield 23, 3) := by decide +kernel
theorem d_5_12_10 : decode prog_5_method_12_code 10 = .ok (.iload_n 2, 1) := by decide +kernel
theorem d_5_12_11 : decode prog_5_method_12_code 11 = .ok (.aaload, 1) := by decide +kernel
theorem d_5_12_12 : decode prog_5_method_12_code 12 = .ok (.invokevirtual 184, 3) := by decide +kernel
theorem d_5_12_15 : decode prog_5_method_12_code 15 = .ok (.istore_n 3, 1) := by decide +kernel
theorem d_5_12_16 : decode prog_5_method_12_code 16 = .ok (.iload_n 3, 1) := by decide +kernel
theorem d_5_12_17 : decode prog_5_method_12_code 17 = .ok (.ifCond .gt 19, 3) := by decide +kernel
theorem d_5_12_20 : decode prog_5_method_12_code 20 = .ok (.iload_n 3, 1) := by decide +kernel
theorem d_5_12_21 : decode prog_5_method_12_code 21 = .ok (.ifCond .ne 19, 3) := by decide +kernel
theorem d_5_12_24 : decode prog_5_method_12_code 24 = .ok (.aload_n 0, 1) := by decide +kernel
theorem d_5_12_25 : decode prog_5_method_12_code 25 = .ok (.getfield 55, 3) := by decide +kernel
theorem d_5_12_28 : decode prog_5_method_12_code 28 = .ok (.iload_n 1, 1) := by decide +kernel
theorem d_5_12_29 : decode prog_5_method_12_code 29 = .ok (.iload_n 2, 1) := by decide +kernel
theorem d_5_12_30 : decode prog_5_method_12_code 30 = .ok (.invokevirtual 197, 3) := by decide +kernel
theorem d_5_12_33 : decode prog_5_method_12_code 33 = .ok (.ifCond .eq 7, 3) := by decide +kernel
theorem d_5_12_36 : decode prog_5_method_12_code 36 = .ok (.iconst 1, 1) := by decide +kernel
theorem d_5_12_37 : decode prog_5_method_12_code 37 = .ok (.goto 4, 3) := by decide +kernel
theorem d_5_12_40 : decode prog_5_method_12_code 40 = .ok (.iconst 0, 1) := by decide +kernel
theorem d_5_12_41 : decode prog_5_method_12_code 41 = .ok (.ireturn, 1) := by decide +kernel
theorem d_5_13_0 : decode prog_5_method_13_code 0 = .ok (.aload_n 0, 1) := by decide +kernel
theorem d_5_13_1 : decode prog_5_method_13_code 1 = .ok (.dup, 1) := by decide +kernel
theorem d_5_13_2 : decode prog_5_method_13_code 2 = .ok (.getfield 80, 3) := by decide +kernel
theorem d_5_13_5 : decode prog_5_method_13_code 5 = .ok (.iconst 1, 1) := by decide +kernel
theorem d_5_13_6 : decode prog_5_method_13_code 6 = .ok (.iload_n 2, 1) := by decide +kernel
theorem d_5_13_7 : decode prog_5_method_13_code 7 = .ok (.ishl, 1) := by decide +kernel
theorem d_5_13_8 : decode prog_5_method_13_code 8 = .ok (.iconst (-1), 1) := by decide +kernel
theorem d_5_13_9 : decode prog_5_method_13_code 9 = .ok (.ixor, 1) := by decide +kernel
theorem d_5_13_10 : decode prog_5_method_13_code 10 = .ok (.iand, 1) := by decide +kernel
theorem d_5_13_11 : decode prog_5_method_13_code 11 = .ok (.putfield 80, 3) := by decide +kernel
theorem d_5_13_14 : decode prog_5_method_13_code 14 = .ok (.aload_n 1, 1) := by decide +kernel
theorem d_5_13_15 : decode prog_5_method_13_code 15 = .ok (.getfield 77, 3) := by decide +kernel
theorem d_5_13_18 : decode prog_5_method_13_code 18 = .ok (.iconst 3, 1) := by decide +kernel
theorem d_5_13_19 : decode prog_5_method_13_code 19 = .ok (.if_icmp .ge 23, 3) := by decide +kernel
theorem d_5_13_22 : decode prog_5_method_13_code 22 = .ok (.aload_n 1, 1) := by decide +kernel
theorem d_5_13_23 : decode prog_5_method_13_code 23 = .ok (.getfield 200, 3) := by decide +kernel
theorem d_5_13_26 : decode prog_5_method_13_code 26 = .ok (.aload_n 1, 1) := by decide +kernel
theorem d_5_13_27 : decode prog_5_method_13_code 27 = .ok (.getfield 77, 3) := by decide +kernel
theorem d_5_13_30 : decode prog_5_method_13_code 30 = .ok (.iload_n 2, 1) := by decide +kernel
theorem d_5_13_31 : decode prog_5_method_13_code 31 = .ok (.iastore, 1) := by decide +kernel
theorem d_5_13_32 : decode prog_5_method_13_code 32 = .ok (.aload_n 1, 1) := by decide +kernel
theorem d_5_13_33 : decode prog_5_method_13_code 33 = .ok (.dup, 1) := by decide +kernel
theorem d_5_13_34 : decode prog_5_method_13_code 34 = .ok (.getfield 77, 3) := by decide +kernel
theorem d_5_13_37 : decode prog_5_method_13_code 37 = .ok (.iconst 1, 1) := by decide +kernel
theorem d_5_13_38 : decode prog_5_method_13_code 38 = .ok (.iadd, 1) := by decide +kernel
theorem d_5_13_39 : decode prog_5_method_13_code 39 = .ok (.putfield 77, 3) := by decide +kernel
theorem d_5_13_42 : decode prog_5_method_13_code 42 = .ok (.return_, 1) := by decide +kernel
theorem d_5_14_0 : decode prog_5_method_14_code 0 = .ok (.aload_n 0, 1) := by decide +kernel
theorem d_5_14_1 : decode prog_5_method_14_code 1 = .ok (.dup, 1) := by decide +kernel
theorem d_5_14_2 : decode prog_5_method_14_code 2 = .ok (.getfield 80, 3) := by decide +kernel
theorem d_5_14_5 : decode prog_5_method_14_code 5 = .ok (.iconst 1, 1) := by decide +kernel
theorem d_5_14_6 : decode prog_5_method_14_code 6 = .ok (.iload_n 2, 1) := by decide +kernel
theorem d_5_14_7 : decode prog_5_method_14_code 7 = .ok (.ishl, 1) := by decide +kernel
theorem d_5_14_8 : decode prog_5_method_14_code 8 = .ok (.iconst (-1), 1) := by decide +kernel
theorem d_5_14_9 : decode prog_5_method_14_code 9 = .ok (.ixor, 1) := by decide +kernel
theorem d_5_14_10 : decode prog_5_method_14_code 10 = .ok (.iand, 1) := by decide +kernel
theorem d_5_14_11 : decode prog_5_method_14_code 11 = .ok (.putfield 80, 3) := by decide +kernel
theorem d_5_14_14 : decode prog_5_method_14_code 14 = .ok (.aload_n 1, 1) := by decide +kernel
theorem d_5_14_15 : decode prog_5_method_14_code 15 = .ok (.getfield 114, 3) := by decide +kernel
theorem d_5_14_18 : decode prog_5_method_14_code 18 = .ok (.bipush 8, 2) := by decide +kernel
theorem d_5_14_20 : decode prog_5_method_14_code 20 = .ok (.if_icmp .ge 23, 3) := by decide +kernel
theorem d_5_14_23 : decode prog_5_method_14_code 23 = .ok (.aload_n 1, 1) := by decide +kernel
theorem d_5_14_24 : decode prog_5_method_14_code 24 = .ok (.getfield 203, 3) := by decide +kernel
theorem d_5_14_27 : decode prog_5_method_14_code 27 = .ok (.aload_n 1, 1) := by decide +kernel
theorem d_5_14_28 : decode prog_5_method_14_code 28 = .ok (.getfield 114, 3) := by decide +kernel
theorem d_5_14_31 : decode prog_5_method_14_code 31 = .ok (.iload_n 2, 1) := by decide +kernel
theorem d_5_14_32 : decode prog_5_method_14_code 32 = .ok (.iastore, 1) := by decide +kernel
theorem d_5_14_33 : decode prog_5_method_14_code 33 = .ok (.aload_n 1, 1) := by decide +kernel
theorem d_5_14_34 : decode prog_5_method_14_code 34 = .ok (.dup, 1) := by decide +kernel
theorem d_5_14_35 : decode prog_5_method_14_code 35 = .ok (.getfield 114, 3) := by decide +kernel
theorem d_5_14_38 : decode prog_5_method_14_code 38 = .ok (.iconst 1, 1) := by decide +kernel
theorem d_5_14_39 : decode prog_5_method_14_code 39 = .ok (.iadd, 1) := by decide +kernel
theorem d_5_14_40 : decode prog_5_method_14_code 40 = .ok (.putfield 114, 3) := by decide +kernel
theorem d_5_14_43 : decode prog_5_method_14_code 43 = .ok (.aload_n 0, 1) := by decide +kernel
theorem d_5_14_44 : decode prog_5_method_14_code 44 = .ok (.getfield 23, 3) := by decide +kernel
theorem d_5_14_47 : decode prog_5_method_14_code 47 = .ok (.iload_n 2, 1) := by decide +kernel
theorem d_5_14_48 : decode prog_5_method_14_code 48 = .ok (.aaload, 1) := by decide +kernel
theorem d_5_14_49 : decode prog_5_method_14_code 49 = .ok (.lconst 0, 1) := by decide +kernel
theorem d_5_14_50 : decode prog_5_method_14_code 50 = .ok (.invokevirtual 129, 3) := by decide +kernel
theorem d_5_14_53 : decode prog_5_method_14_code 53 = .ok (.iconst 0, 1) := by decide +kernel
theorem d_5_14_54 : decode prog_5_method_14_code 54 = .ok (.istore_n 3, 1) := by decide +kernel
theorem d_5_14_55 : decode prog_5_method_14_code 55 = .ok (.iload_n 3, 1) := by decide +kernel
theorem d_5_14_56 : decode prog_5_method_14_code 56 = .ok (.aload_n 1, 1) := by decide +kernel
theorem d_5_14_57 : decode prog_5_method_14_code 57 = .ok (.getfield 99, 3) := by decide +kernel
theorem d_5_14_60 : decode prog_5_method_14_code 60 = .ok (.if_icmp .ge 27, 3) := by decide +kernel
theorem d_5_14_63 : decode prog_5_method_14_code 63 = .ok (.aload_n 0, 1) := by decide +kernel
theorem d_5_14_64 : decode prog_5_method_14_code 64 = .ok (.getfield 31, 3) := by decide +kernel
theorem d_5_14_67 : decode prog_5_method_14_code 67 = .ok (.aload_n 0, 1) := by decide +kernel
theorem d_5_14_68 : decode prog_5_method_14_code 68 = .ok (.iload_n 3, 1) := by decide +kernel
theorem d_5_14_69 : decode prog_5_method_14_code 69 = .ok (.iload_n 2, 1) := by decide +kernel
theorem d_5_14_70 : decode prog_5_method_14_code 70 = .ok (.invokevirtual 137, 3) := by decide +kernel
theorem d_5_14_73 : decode prog_5_method_14_code 73 = .ok (.invokevirtual 178, 3) := by decide +kernel
theorem d_5_14_76 : decode prog_5_method_14_code 76 = .ok (.aload_n 0, 1) := by decide +kernel
theorem d_5_14_77 : decode prog_5_method_14_code 77 = .ok (.iload_n 3, 1) := by decide +kernel
theorem d_5_14_78 : decode prog_5_method_14_code 78 = .ok (.invokevirtual 141, 3) := by decide +kernel
theorem d_5_14_81 : decode prog_5_method_14_code 81 = .ok (.iinc 3 1, 3) := by decide +kernel
theorem d_5_14_84 : decode prog_5_method_14_code 84 = .ok (.goto (-29), 3) := by decide +kernel
theorem d_5_14_87 : decode prog_5_method_14_code 87 = .ok (.return_, 1) := by decide +kernel
theorem d_5_15_0 : decode prog_5_method_15_code 0 = .ok (.aload_n 0, 1) := by decide +kernel
theorem d_5_15_1 : decode prog_5_method_15_code 1 = .ok (.getfield 37, 3) := by decide +kernel
theorem d_5_15_4 : decode prog_5_method_15_code 4 = .ok (.aload_n 0, 1) := by decide +kernel
theorem d_5_15_5 : decode prog_5_method_15_code 5 = .ok (.getfield 23, 3) := by decide +kernel
theorem d_5_15_8 : decode prog_5_method_15_code 8 = .ok (.iload_n 1, 1) := by decide +kernel
theorem d_5_15_9 : decode prog_5_method_15_code 9 = .ok (.aaload, 1) := by decide +kernel
theorem d_5_15_10 : decode prog_5_method_15_code 10 = .ok (.invokevirtual 178, 3) := by decide +kernel
theorem d_5_15_13 : decode prog_5_method_15_code 13 = .ok (.aload_n 0, 1) := by decide +kernel
theorem d_5_15_14 : decode prog_5_method_15_code 14 = .ok (.getfield 37, 3) := by decide +kernel
theorem d_5_15_17 : decode prog_5_method_15_code 17 = .ok (.aload_n 0, 1) := by decide +kernel
theorem d_5_15_18 : decode prog_5_method_15_code 18 = .ok (.getfield 34, 3) := by decide +kernel
theorem d_5_15_21 : decode prog_5_method_15_code 21 = .ok (.invokevirtual 206, 3) := by decide +kernel
theorem d_5_15_24 : decode prog_5_method_15_code 24 = .ok (.aload_n 0, 1) := by decide +kernel
theorem d_5_15_25 : decode prog_5_method_15_code 25 = .ok (.getfield 40, 3) := by decide +kernel
theorem d_5_15_28 : decode prog_5_method_15_code 28 = .ok (.aload_n 0, 1) := by decide +kernel
theorem d_5_15_29 : decode prog_5_method_15_code 29 = .ok (.getfield 23, 3) := by decide +kernel
theorem d_5_15_32 : decode prog_5_method_15_code 32 = .ok (.iload_n 1, 1) := by decide +kernel
theorem d_5_15_33 : decode prog_5_method_15_code 33 = .ok (.aaload, 1) := by decide +kernel
theorem d_5_15_34 : decode prog_5_method_15_code 34 = .ok (.invokevirtual 178, 3) := by decide +kernel
theorem d_5_15_37 : decode prog_5_method_15_code 37 = .ok (.aload_n 0, 1) := by decide +kernel
theorem d_5_15_38 : decode prog_5_method_15_code 38 = .ok (.invokevirtual 209, 3) := by decide +kernel
theorem d_5_15_41 : decode prog_5_method_15_code 41 = .ok (.aload_n 0, 1) := by decide +kernel
theorem d_5_15_42 : decode prog_5_method_15_code 42 = .ok (.getfield 23, 3) := by decide +kernel
theorem d_5_15_45 : decode prog_5_method_15_code 45 = .ok (.iload_n 1, 1) := by decide +kernel
theorem d_5_15_46 : decode prog_5_method_15_code 46 = .ok (.aaload, 1) := by decide +kernel
theorem d_5_15_47 : decode prog_5_method_15_code 47 = .ok (.aload_n 0, 1) := by decide +kernel
theorem d_5_15_48 : decode prog_5_method_15_code 48 = .ok (.getfield 34, 3) := by decide +kernel
theorem d_5_15_51 : decode prog_5_method_15_code 51 = .ok (.invokevirtual 178, 3) := by decide +kernel
theorem d_5_15_54 : decode prog_5_method_15_code 54 = .ok (.aload_n 0, 1) := by decide +kernel
theorem d_5_15_55 : decode prog_5_method_15_code 55 = .ok (.aload_n 0, 1) := by decide +kernel
theorem d_5_15_56 : decode prog_5_method_15_code 56 = .ok (.getfield 40, 3) := by decide +kernel
theorem d_5_15_59 : decode prog_5_method_15_code 59 = .ok (.invokevirtual 212, 3) := by decide +kernel
theorem d_5_15_62 : decode prog_5_method_15_code 62 = .ok (.iconst 0, 1) := by decide +kernel
theorem d_5_15_63 : decode prog_5_method_15_code 63 = .ok (.istore_n 2, 1) := by decide +kernel
theorem d_5_15_64 : decode prog_5_method_15_code 64 = .ok (.iload_n 2, 1) := by decide +kernel
theorem d_5_15_65 : decode prog_5_method_15_code 65 = .ok (.aload_n 0, 1) := by decide +kernel
theorem d_5_15_66 : decode prog_5_method_15_code 66 = .ok (.getfield 55, 3) := by decide +kernel
theorem d_5_15_69 : decode prog_5_method_15_code 69 = .ok (.getfield 96, 3) := by decide +kernel
theorem d_5_15_72 : decode prog_5_method_15_code 72 = .ok (.if_icmp .ge 31, 3) := by decide +kernel
theorem d_5_15_75 : decode prog_5_method_15_code 75 = .ok (.aload_n 0, 1) := by decide +kernel
theorem d_5_15_76 : decode prog_5_method_15_code 76 = .ok (.getfield 31, 3) := by decide +kernel
theorem d_5_15_79 : decode prog_5_method_15_code 79 = .ok (.aload_n 0, 1) := by decide +kernel
theorem d_5_15_80 : decode prog_5_method_15_code 80 = .ok (.iload_n 2, 1) := by decide +kernel
theorem d_5_15_81 : decode prog_5_method_15_code 81 = .ok (.iload_n 1, 1) := by decide +kernel
theorem d_5_15_82 : decode prog_5_method_15_code 82 = .ok (.invokevirtual 137, 3) := by decide +kernel
theorem d_5_15_85 : decode prog_5_method_15_code 85 = .ok (.aload_n 0, 1) := by decide +kernel
theorem d_5_15_86 : decode prog_5_method_15_code 86 = .ok (.getfield 37, 3) := by decide +kernel
theorem d_5_15_89 : decode prog_5_method_15_code 89 = .ok (.invokevirtual 215, 3) := by decide +kernel
theorem d_5_15_92 : decode prog_5_method_15_code 92 = .ok (.aload_n 0, 1) := by decide +kernel
theorem d_5_15_93 : decode prog_5_method_15_code 93 = .ok (.iload_n 2, 1) := by decide +kernel
theorem d_5_15_94 : decode prog_5_method_15_code 94 = .ok (.invokevirtual 141, 3) := by decide +kernel
theorem d_5_15_97 : decode prog_5_method_15_code 97 = .ok (.iinc 2 1, 3) := by decide +kernel
theorem d_5_15_100 : decode prog_5_method_15_code 100 = .ok (.goto (-36), 3) := by decide +kernel
theorem d_5_15_103 : decode prog_5_method_15_code 103 = .ok (.return_, 1) := by decide +kernel
theorem d_5_16_0 : decode prog_5_method_16_code 0 = .ok (.aload_n 0, 1) := by decide +kernel
theorem d_5_16_1 : decode prog_5_method_16_code 1 = .ok (.aload_n 0, 1) := by decide +kernel
theorem d_5_16_2 : decode prog_5_method_16_code 2 = .ok (.getfield 27, 3) := by decide +kernel
theorem d_5_16_5 : decode prog_5_method_16_code 5 = .ok (.aload_n 1, 1) := by decide +kernel
theorem d_5_16_6 : decode prog_5_method_16_code 6 = .ok (.invokevirtual 219, 3) := by decide +kernel
theorem d_5_16_9 : decode prog_5_method_16_code 9 = .ok (.iconst 0, 1) := by decide +kernel
theorem d_5_16_10 : decode prog_5_method_16_code 10 = .ok (.istore_n 2, 1) := by decide +kernel
theorem d_5_16_11 : decode prog_5_method_16_code 11 = .ok (.iload_n 2, 1) := by decide +kernel
theorem d_5_16_12 : decode prog_5_method_16_code 12 = .ok (.bipush 9, 2) := by decide +kernel
theorem d_5_16_14 : decode prog_5_method_16_code 14 = .ok (.if_icmp .ge 20, 3) := by decide +kernel
theorem d_5_16_17 : decode prog_5_method_16_code 17 = .ok (.aload_n 0, 1) := by decide +kernel
theorem d_5_16_18 : decode prog_5_method_16_code 18 = .ok (.aload_n 0, 1) := by decide +kernel
theorem d_5_16_19 : decode prog_5_method_16_code 19 = .ok (.getfield 23, 3) := by decide +kernel
theorem d_5_16_22 : decode prog_5_method_16_code 22 = .ok (.iload_n 2, 1) := by decide +kernel
theorem d_5_16_23 : decode prog_5_method_16_code 23 = .ok (.aaload, 1) := by decide +kernel
theorem d_5_16_24 : decode prog_5_method_16_code 24 = .ok (.aload_n 1, 1) := by decide +kernel
theorem d_5_16_25 : decode prog_5_method_16_code 25 = .ok (.invokevirtual 219, 3) := by decide +kernel
theorem d_5_16_28 : decode prog_5_method_16_code 28 = .ok (.iinc 2 1, 3) := by decide +kernel
theorem d_5_16_31 : decode prog_5_method_16_code 31 = .ok (.goto (-20), 3) := by decide +kernel
theorem d_5_16_34 : decode prog_5_method_16_code 34 = .ok (.iconst 0, 1) := by decide +kernel
theorem d_5_16_35 : decode prog_5_method_16_code 35 = .ok (.istore_n 2, 1) := by decide +kernel
theorem d_5_16_36 : decode prog_5_method_16_code 36 = .ok (.iload_n 2, 1) := by decide +kernel
theorem d_5_16_37 : decode prog_5_method_16_code 37 = .ok (.aload_n 0, 1) := by decide +kernel
theorem d_5_16_38 : decode prog_5_method_16_code 38 = .ok (.getfield 55, 3) := by decide +kernel
theorem d_5_16_41 : decode prog_5_method_16_code 41 = .ok (.getfield 96, 3) := by decide +kernel
theorem d_5_16_44 : decode prog_5_method_16_code 44 = .ok (.if_icmp .ge 50, 3) := by decide +kernel
theorem d_5_16_47 : decode prog_5_method_16_code 47 = .ok (.iconst 0, 1) := by decide +kernel
theorem d_5_16_48 : decode prog_5_method_16_code 48 = .ok (.istore_n 3, 1) := by decide +kernel
theorem d_5_16_49 : decode prog_5_method_16_code 49 = .ok (.iload_n 3, 1) := by decide +kernel
theorem d_5_16_50 : decode prog_5_method_16_code 50 = .ok (.aload_n 0, 1) := by decide +kernel
theorem d_5_16_51 : decode prog_5_method_16_code 51 = .ok (.getfield 55, 3) := by decide +kernel
theorem d_5_16_54 : decode prog_5_method_16_code 54 = .ok (.getfield 72, 3) := by decide +kernel
theorem d_5_16_57 : decode prog_5_method_16_code 57 = .ok (.if_icmp .ge 31, 3) := by decide +kernel
theorem d_5_16_60 : decode prog_5_method_16_code 60 = .ok (.aload_n 0, 1) := by decide +kernel
theorem d_5_16_61 : decode prog_5_method_16_code 61 = .ok (.getfield 80, 3) := by decide +kernel
theorem d_5_16_64 : decode prog_5_method_16_code 64 = .ok (.iload_n 3, 1) := by decide +kernel
theorem d_5_16_65 : decode prog_5_method_16_code 65 = .ok (.invokestatic 161, 3) := by decide +kernel
theorem d_5_16_68 : decode prog_5_method_16_code 68 = .ok (.ifCond .eq 14, 3) := by decide +kernel
theorem d_5_16_71 : decode prog_5_method_16_code 71 = .ok (.aload_n 0, 1) := by decide +kernel
theorem d_5_16_72 : decode prog_5_method_16_code 72 = .ok (.aload_n 0, 1) := by decide +kernel
theorem d_5_16_73 : decode prog_5_method_16_code 73 = .ok (.iload_n 2, 1) := by decide +kernel
theorem d_5_16_74 : decode prog_5_method_16_code 74 = .ok (.iload_n 3, 1) := by decide +kernel
theorem d_5_16_75 : decode prog_5_method_16_code 75 = .ok (.invokevirtual 137, 3) := by decide +kernel
theorem d_5_16_78 : decode prog_5_method_16_code 78 = .ok (.aload_n 1, 1) := by decide +kernel
theorem d_5_16_79 : decode prog_5_method_16_code 79 = .ok (.invokevirtual 219, 3) := by decide +kernel
theorem d_5_16_82 : decode prog_5_method_16_code 82 = .ok (.iinc 3 1, 3) := by decide +kernel
theorem d_5_16_85 : decode prog_5_method_16_code 85 = .ok (.goto (-36), 3) := by decide +kernel
theorem d_5_16_88 : decode prog_5_method_16_code 88 = .ok (.iinc 2 1, 3) := by decide +kernel
theorem d_5_16_91 : decode prog_5_method_16_code 91 = .ok (.goto (-55), 3) := by decide +kernel
theorem d_5_16_94 : decode prog_5_method_16_code 94 = .ok (.return_, 1) := by decide +kernel
theorem d_5_17_0 : decode prog_5_method_17_code 0 = .ok (.aload_n 1, 1) := by decide +kernel
theorem d_5_17_1 : decode prog_5_method_17_code 1 = .ok (.getfield 220, 3) := by decide +kernel
theorem d_5_17_4 : decode prog_5_method_17_code 4 = .ok (.ifCond .le 20, 3) := by decide +kernel
theorem d_5_17_7 : decode prog_5_method_17_code 7 = .ok (.aload_n 0, 1) := by decide +kernel
theorem d_5_17_8 : decode prog_5_method_17_code 8 = .ok (.getfield 52, 3) := by decide +kernel
theorem d_5_17_11 : decode prog_5_method_17_code 11 = .ok (.aload_n 1, 1) := by decide +kernel
theorem d_5_17_12 : decode prog_5_method_17_code 12 = .ok (.aload_n 2, 1) := by decide +kernel
theorem d_5_17_13 : decode prog_5_method_17_code 13 = .ok (.invokevirtual 215, 3) := by decide +kernel
theorem d_5_17_16 : decode prog_5_method_17_code 16 = .ok (.aload_n 1, 1) := by decide +kernel
theorem d_5_17_17 : decode prog_5_method_17_code 17 = .ok (.aload_n 0, 1) := by decide +kernel
theorem d_5_17_18 : decode prog_5_method_17_code 18 = .ok (.getfield 52, 3) := by decide +kernel
theorem d_5_17_21 : decode prog_5_method_17_code 21 = .ok (.invokevirtual 178, 3) := by decide +kernel
theorem d_5_17_24 : decode prog_5_method_17_code 24 = .ok (.return_, 1) := by decide +kernel
theorem d_5_18_0 : decode prog_5_method_18_code 0 = .ok (.aload_n 0, 1) := by decide +kernel
theorem d_5_18_1 : decode prog_5_method_18_code 1 = .ok (.getfield 37, 3) := by decide +kernel
theorem d_5_18_4 : decode prog_5_method_18_code 4 = .ok (.aload_n 1, 1) := by decide +kernel
theorem d_5_18_5 : decode prog_5_method_18_code 5 = .ok (.getfield 165, 3) := by decide +kernel
theorem d_5_18_8 : decode prog_5_method_18_code 8 = .ok (.aload_n 1, 1) := by decide +kernel
theorem d_5_18_9 : decode prog_5_method_18_code 9 = .ok (.iload_n 2, 1) := by decide +kernel
theorem d_5_18_10 : decode prog_5_method_18_code 10 = .ok (.iload_n 3, 1) := by decide +kernel
theorem d_5_18_11 : decode prog_5_method_18_code 11 = .ok (.invokevirtual 168, 3) := by decide +kernel
theorem d_5_18_14 : decode prog_5_method_18_code 14 = .ok (.invokevirtual 223, 3) := by decide +kernel
theorem d_5_18_17 : decode prog_5_method_18_code 17 = .ok (.aload_n 0, 1) := by decide +kernel
theorem d_5_18_18 : decode prog_5_method_18_code 18 = .ok (.getfield 40, 3) := by decide +kernel
theorem d_5_18_21 : decode prog_5_method_18_code 21 = .ok (.aload_n 1, 1) := by decide +kernel
theorem d_5_18_22 : decode prog_5_method_18_code 22 = .ok (.getfield 165, 3) := by decide +kernel
theorem d_5_18_25 : decode prog_5_method_18_code 25 = .ok (.aload_n 1, 1) := by decide +kernel
theorem d_5_18_26 : decode prog_5_method_18_code 26 = .ok (.iload_n 2, 1) := by decide +kernel
theorem d_5_18_27 : decode prog_5_method_18_code 27 = .ok (.bipush 9, 2) := by decide +kernel
theorem d_5_18_29 : decode prog_5_method_18_code 29 = .ok (.invokevirtual 168, 3) := by decide +kernel
theorem d_5_18_32 : decode prog_5_method_18_code 32 = .ok (.invokevirtual 223, 3) := by decide +kernel
theorem d_5_18_35 : decode prog_5_method_18_code 35 = .ok (.return_, 1) := by decide +kernel
theorem d_5_19_0 : decode prog_5_method_19_code 0 = .ok (.aload_n 0, 1) := by decide +kernel
theorem d_5_19_1 : decode prog_5_method_19_code 1 = .ok (.getfield 43, 3) := by decide +kernel
theorem d_5_19_4 : decode prog_5_method_19_code 4 = .ok (.astore_n 1, 1) := by decide +kernel
theorem d_5_19_5 : decode prog_5_method_19_code 5 = .ok (.aload_n 0, 1) := by decide +kernel
theorem d_5_19_6 : decode prog_5_method_19_code 6 = .ok (.getfield 46, 3) := by decide +kernel
theorem d_5_19_9 : decode prog_5_method_19_code 9 = .ok (.astore_n 2, 1) := by decide +kernel
theorem d_5_19_10 : decode prog_5_method_19_code 10 = .ok (.aload_n 1, 1) := by decide +kernel
theorem d_5_19_11 : decode prog_5_method_19_code 11 = .ok (.aload_n 0, 1) := by decide +kernel
theorem d_5_19_12 : decode prog_5_method_19_code 12 = .ok (.getfield 40, 3) := by decide +kernel
theorem d_5_19_15 : decode prog_5_method_19_code 15 = .ok (.invokevirtual 178, 3) := by decide +kernel
theorem d_5_19_18 : decode prog_5_method_19_code 18 = .ok (.aload_n 2, 1) := by decide +kernel
theorem d_5_19_19 : decode prog_5_method_19_code 19 = .ok (.aload_n 0, 1) := by decide +kernel
theorem d_5_19_20 : decode prog_5_method_19_code 20 = .ok (.getfield 37, 3) := by decide +kernel
theorem d_5_19_23 : decode prog_5_method_19_code 23 = .ok (.invokevirtual 178, 3) := by decide +kernel
theorem d_5_19_26 : decode prog_5_method_19_code 26 = .ok (.iconst 0, 1) := by decide +kernel
theorem d_5_19_27 : decode prog_5_method_19_code 27 = .ok (.istore_n 3, 1) := by decide +kernel
theorem d_5_19_28 : decode prog_5_method_19_code 28 = .ok (.iload_n 3, 1) := by decide +kernel
theorem d_5_19_29 : decode prog_5_method_19_code 29 = .ok (.sipush 1000, 3) := by decide +kernel
theorem d_5_19_32 : decode prog_5_method_19_code 32 = .ok (.if_icmp .ge 37, 3) := by decide +kernel
theorem d_5_19_35 : decode prog_5_method_19_code 35 = .ok (.aload_n 2, 1) := by decide +kernel
theorem d_5_19_36 : decode prog_5_method_19_code 36 = .ok (.getfield 220, 3) := by decide +kernel
theorem d_5_19_39 : decode prog_5_method_19_code 39 = .ok (.ifCond .le 30, 3) := by decide +kernel
theorem d_5_19_42 : decode prog_5_method_19_code 42 = .ok (.aload_n 1, 1) := by decide +kernel
theorem d_5_19_43 : decode prog_5_method_19_code 43 = .ok (.aload_n 2, 1) := by decide +kernel
theorem d_5_19_44 : decode prog_5_method_19_code 44 = .ok (.aload_n 0, 1) := by decide +kernel
theorem d_5_19_45 : decode prog_5_method_19_code 45 = .ok (.getfield 49, 3) := by decide +kernel
theorem d_5_19_48 : decode prog_5_method_19_code 48 = .ok (.aload_n 0, 1) := by decide +kernel
theorem d_5_19_49 : decode prog_5_method_19_code 49 = .ok (.getfield 52, 3) := by decide +kernel
theorem d_5_19_52 : decode prog_5_method_19_code 52 = .ok (.invokevirtual 226, 3) := by decide +kernel
theorem d_5_19_55 : decode prog_5_method_19_code 55 = .ok (.aload_n 1, 1) := by decide +kernel
theorem d_5_19_56 : decode prog_5_method_19_code 56 = .ok (.astore 4, 2) := by decide +kernel
theorem d_5_19_58 : decode prog_5_method_19_code 58 = .ok (.aload_n 2, 1) := by decide +kernel
theorem d_5_19_59 : decode prog_5_method_19_code 59 = .ok (.astore_n 1, 1) := by decide +kernel
theorem d_5_19_60 : decode prog_5_method_19_code 60 = .ok (.aload 4, 2) := by decide +kernel
theorem d_5_19_62 : decode prog_5_method_19_code 62 = .ok (.astore_n 2, 1) := by decide +kernel
theorem d_5_19_63 : decode prog_5_method_19_code 63 = .ok (.iinc 3 1, 3) := by decide +kernel
theorem d_5_19_66 : decode prog_5_method_19_code 66 = .ok (.goto (-38), 3) := by decide +kernel
theorem d_5_19_69 : decode prog_5_method_19_code 69 = .ok (.aload_n 1, 1) := by decide +kernel
theorem d_5_19_70 : decode prog_5_method_19_code 70 = .ok (.invokevirtual 230, 3) := by decide +kernel
theorem d_5_19_73 : decode prog_5_method_19_code 73 = .ok (.ifCond .ne 57, 3) := by decide +kernel
theorem d_5_19_76 : decode prog_5_method_19_code 76 = .ok (.aload_n 0, 1) := by decide +kernel
theorem d_5_19_77 : decode prog_5_method_19_code 77 = .ok (.getfield 37, 3) := by decide +kernel
theorem d_5_19_80 : decode prog_5_method_19_code 80 = .ok (.aload_n 1, 1) := by decide +kernel
theorem d_5_19_81 : decode prog_5_method_19_code 81 = .ok (.aload_n 0, 1) := by decide +kernel
theorem d_5_19_82 : decode prog_5_method_19_code 82 = .ok (.getfield 49, 3) := by decide +kernel
theorem d_5_19_85 : decode prog_5_method_19_code 85 = .ok (.aload_n 0, 1) := by decide +kernel
theorem d_5_19_86 : decode prog_5_method_19_code 86 = .ok (.getfield 52, 3) := by decide +kernel
theorem d_5_19_89 : decode prog_5_method_19_code 89 = .ok (.invokevirtual 226, 3) := by decide +kernel
theorem d_5_19_92 : decode prog_5_method_19_code 92 = .ok (.aload_n 0, 1) := by decide +kernel
theorem d_5_19_93 : decode prog_5_method_19_code 93 = .ok (.getfield 37, 3) := by decide +kernel
theorem d_5_19_96 : decode prog_5_method_19_code 96 = .ok (.aload_n 0, 1) := by decide +kernel
theorem d_5_19_97 : decode prog_5_method_19_code 97 = .ok (.getfield 49, 3) := by decide +kernel
theorem d_5_19_100 : decode prog_5_method_19_code 100 = .ok (.invokevirtual 178, 3) := by decide +kernel
theorem d_5_19_103 : decode prog_5_method_19_code 103 = .ok (.aload_n 0, 1) := by decide +kernel
theorem d_5_19_104 : decode prog_5_method_19_code 104 = .ok (.getfield 40, 3) := by decide +kernel
theorem d_5_19_107 : decode prog_5_method_19_code 107 = .ok (.aload_n 1, 1) := by decide +kernel
theorem d_5_19_108 : decode prog_5_method_19_code 108 = .ok (.aload_n 0, 1) := by decide +kernel
theorem d_5_19_109 : decode prog_5_method_19_code 109 = .ok (.getfield 49, 3) := by decide +kernel
theorem d_5_19_112 : decode prog_5_method_19_code 112 = .ok (.aload_n 0, 1) := by decide +kernel
theorem d_5_19_113 : decode prog_5_method_19_code 113 = .ok (.getfield 52, 3) := by decide +kernel
theorem d_5_19_116 : decode prog_5_method_19_code 116 = .ok (.invokevirtual 226, 3) := by decide +kernel
theorem d_5_19_119 : decode prog_5_method_19_code 119 = .ok (.aload_n 0, 1) := by decide +kernel
theorem d_5_19_120 : decode prog_5_method_19_code 120 = .ok (.getfield 40, 3) := by decide +kernel
theorem d_5_19_123 : decode prog_5_method_19_code 123 = .ok (.aload_n 0, 1) := by decide +kernel
theorem d_5_19_124 : decode prog_5_method_19_code 124 = .ok (.getfield 49, 3) := by decide +kernel
theorem d_5_19_127 : decode prog_5_method_19_code 127 = .ok (.invokevirtual 178, 3) := by decide +kernel
theorem d_5_19_130 : decode prog_5_method_19_code 130 = .ok (.return_, 1) := by decide +kernel
theorem d_5_1_0 : decode prog_5_method_1_code 0 = .ok (.aload_n 0, 1) := by decide +kernel
theorem d_5_1_1 : decode prog_5_method_1_code 1 = .ok (.invokespecial 3, 3) := by decide +kernel
theorem d_5_1_4 : decode prog_5_method_1_code 4 = .ok (.aload_n 0, 1) := by decide +kernel
theorem d_5_1_5 : decode prog_5_method_1_code 5 = .ok (.bipush 21, 2) := by decide +kernel
theorem d_5_1_7 : decode prog_5_method_1_code 7 = .ok (.anewarray 9, 3) := by decide +kernel
theorem d_5_1_10 : decode prog_5_method_1_code 10 = .ok (.putfield 11, 3) := by decide +kernel
theorem d_5_1_13 : decode prog_5_method_1_code 13 = .ok (.aload_n 0, 1) := by decide +kernel
theorem d_5_1_14 : decode prog_5_method_1_code 14 = .ok (.sipush 240, 3) := by decide +kernel
theorem d_5_1_17 : decode prog_5_method_1_code 17 = .ok (.anewarray 17, 3) := by decide +kernel
theorem d_5_1_20 : decode prog_5_method_1_code 20 = .ok (.putfield 19, 3) := by decide +kernel
theorem d_5_1_23 : decode prog_5_method_1_code 23 = .ok (.aload_n 0, 1) := by decide +kernel
theorem d_5_1_24 : decode prog_5_method_1_code 24 = .ok (.bipush 9, 2) := by decide +kernel
theorem d_5_1_26 : decode prog_5_method_1_code 26 = .ok (.anewarray 17, 3) := by decide +kernel
theorem d_5_1_29 : decode prog_5_method_1_code 29 = .ok (.putfield 23, 3) := by decide +kernel
theorem d_5_1_32 : decode prog_5_method_1_code 32 = .ok (.aload_n 0, 1) := by decide +kernel
theorem d_5_1_33 : decode prog_5_method_1_code 33 = .ok (.new 17, 3) := by decide +kernel
theorem d_5_1_36 : decode prog_5_method_1_code 36 = .ok (.dup, 1) := by decide +kernel
theorem d_5_1_37 : decode prog_5_method_1_code 37 = .ok (.invokespecial 26, 3) := by decide +kernel
theorem d_5_1_40 : decode prog_5_method_1_code 40 = .ok (.putfield 27, 3) := by decide +kernel
theorem d_5_1_43 : decode prog_5_method_1_code 43 = .ok (.aload_n 0, 1) := by decide +kernel
theorem d_5_1_44 : decode prog_5_method_1_code 44 = .ok (.new 17, 3) := by decide +kernel
theorem d_5_1_47 : decode prog_5_method_1_code 47 = .ok (.dup, 1) := by decide +kernel
theorem d_5_1_48 : decode prog_5_method_1_code 48 = .ok (.invokespecial 26, 3) := by decide +kernel
theorem d_5_1_51 : decode prog_5_method_1_code 51 = .ok (.putfield 31, 3) := by decide +kernel
theorem d_5_1_54 : decode prog_5_method_1_code 54 = .ok (.aload_n 0, 1) := by decide +kernel
theorem d_5_1_55 : decode prog_5_method_1_code 55 = .ok (.new 17, 3) := by decide +kernel
theorem d_5_1_58 : decode prog_5_method_1_code 58 = .ok (.dup, 1) := by decide +kernel
theorem d_5_1_59 : decode prog_5_method_1_code 59 = .ok (.invokespecial 26, 3) := by decide +kernel
theorem d_5_1_62 : decode prog_5_method_1_code 62 = .ok (.putfield 34, 3) := by decide +kernel
theorem d_5_1_65 : decode prog_5_method_1_code 65 = .ok (.aload_n 0, 1) := by decide +kernel
theorem d_5_1_66 : decode prog_5_method_1_code 66 = .ok (.new 17, 3) := by decide +kernel
theorem d_5_1_69 : decode prog_5_method_1_code 69 = .ok (.dup, 1) := by decide +kernel
theorem d_5_1_70 : decode prog_5_method_1_code 70 = .ok (.invokespecial 26, 3) := by decide +kernel
theorem d_5_1_73 : decode prog_5_method_1_code 73 = .ok (.putfield 37, 3) := by decide +kernel
theorem d_5_1_76 : decode prog_5_method_1_code 76 = .ok (.aload_n 0, 1) := by decide +kernel
theorem d_5_1_77 : decode prog_5_method_1_code 77 = .ok (.new 17, 3) := by decide +kernel
theorem d_5_1_80 : decode prog_5_method_1_code 80 = .ok (.dup, 1) := by decide +kernel
theorem d_5_1_81 : decode prog_5_method_1_code 81 = .ok (.invokespecial 26, 3) := by decide +kernel
theorem d_5_1_84 : decode prog_5_method_1_code 84 = .ok (.putfield 40, 3) := by decide +kernel
theorem d_5_1_87 : decode prog_5_method_1_code 87 = .ok (.aload_n 0, 1) := by decide +kernel
theorem d_5_1_88 : decode prog_5_method_1_code 88 = .ok (.new 17, 3) := by decide +kernel
theorem d_5_1_91 : decode prog_5_method_1_code 91 = .ok (.dup, 1) := by decide +kernel
theorem d_5_1_92 : decode prog_5_method_1_code 92 = .ok (.invokespecial 26, 3) := by decide +kernel
theorem d_5_1_95 : decode prog_5_method_1_code 95 = .ok (.putfield 43, 3) := by decide +kernel
theorem d_5_1_98 : decode prog_5_method_1_code 98 = .ok (.aload_n 0, 1) := by decide +kernel
theorem d_5_1_99 : decode prog_5_method_1_code 99 = .ok (.new 17, 3) := by decide +kernel
theorem d_5_1_102 : decode prog_5_method_1_code 102 = .ok (.dup, 1) := by decide +kernel
theorem d_5_1_103 : decode prog_5_method_1_code 103 = .ok (.invokespecial 26, 3) := by decide +kernel
theorem d_5_1_106 : decode prog_5_method_1_code 106 = .ok (.putfield 46, 3) := by decide +kernel
theorem d_5_1_109 : decode prog_5_method_1_code 109 = .ok (.aload_n 0, 1) := by decide +kernel
theorem d_5_1_110 : decode prog_5_method_1_code 110 = .ok (.new 17, 3) := by decide +kernel
theorem d_5_1_113 : decode prog_5_method_1_code 113 = .ok (.dup, 1) := by decide +kernel
theorem d_5_1_114 : decode prog_5_method_1_code 114 = .ok (.invokespecial 26, 3) := by decide +kernel
theorem d_5_1_117 : decode prog_5_method_1_code 117 = .ok (.putfield 49, 3) := by decide +kernel
theorem d_5_1_120 : decode prog_5_method_1_code 120 = .ok (.aload_n 0, 1) := by decide +kernel
theorem d_5_1_121 : decode prog_5_method_1_code 121 = .ok (.new 17, 3) := by decide +kernel
theorem d_5_1_124 : decode prog_5_method_1_code 124 = .ok (.dup, 1) := by decide +kernel
theorem d_5_1_125 : decode prog_5_method_1_code 125 = .ok (.invokespecial 26, 3) := by decide +kernel
theorem d_5_1_128 : decode prog_5_method_1_code 128 = .ok (.putfield 52, 3) := by decide +kernel
theorem d_5_1_131 : decode prog_5_method_1_code 131 = .ok (.aload_n 0, 1) := by decide +kernel
theorem d_5_1_132 : decode prog_5_method_1_code 132 = .ok (.aload_n 1, 1) := by decide +kernel
theorem d_5_1_133 : decode prog_5_method_1_code 133 = .ok (.putfield 55, 3) := by decide +kernel
theorem d_5_1_136 : decode prog_5_method_1_code 136 = .ok (.iconst 0, 1) := by decide +kernel
theorem d_5_1_137 : decode prog_5_method_1_code 137 = .ok (.istore_n 2, 1) := by decide +kernel
theorem d_5_1_138 : decode prog_5_method_1_code 138 = .ok (.iload_n 2, 1) := by decide +kernel
theorem d_5_1_139 : decode prog_5_method_1_code 139 = .ok (.bipush 9, 2) := by decide +kernel
theorem d_5_1_141 : decode prog_5_method_1_code 141 = .ok (.if_icmp .ge 22, 3) := by decide +kernel
theorem d_5_1_144 : decode prog_5_method_1_code 144 = .ok (.aload_n 0, 1) := by decide +kernel
theorem d_5_1_145 : decode prog_5_method_1_code 145 = .ok (.getfield 23, 3) := by decide +kernel
theorem d_5_1_148 : decode prog_5_method_1_code 148 = .ok (.iload_n 2, 1) := by decide +kernel
theorem d_5_1_149 : decode prog_5_method_1_code 149 = .ok (.new 17, 3) := by decide +kernel
theorem d_5_1_152 : decode prog_5_method_1_code 152 = .ok (.dup, 1) := by decide +kernel
theorem d_5_1_153 : decode prog_5_method_1_code 153 = .ok (.invokespecial 26, 3) := by decide +kernel
theorem d_5_1_156 : decode prog_5_method_1_code 156 = .ok (.aastore, 1) := by decide +kernel
theorem d_5_1_157 : decode prog_5_method_1_code 157 = .ok (.iinc 2 1, 3) := by decide +kernel
theorem d_5_1_160 : decode prog_5_method_1_code 160 = .ok (.goto (-22), 3) := by decide +kernel
theorem d_5_1_163 : decode prog_5_method_1_code 163 = .ok (.return_, 1) := by decide +kernel
theorem d_5_20_0 : decode prog_5_method_20_code 0 = .ok (.iconst 0, 1) := by decide +kernel
theorem d_5_20_1 : decode prog_5_method_20_code 1 = .ok (.istore_n 2, 1) := by decide +kernel
theorem d_5_20_2 : decode prog_5_method_20_code 2 = .ok (.iconst 1, 1) := by decide +kernel
theorem d_5_20_3 : decode prog_5_method_20_code 3 = .ok (.istore_n 3, 1) := by decide +kernel
theorem d_5_20_4 : decode prog_5_method_20_code 4 = .ok (.iload_n 3, 1) := by decide +kernel
theorem d_5_20_5 : decode prog_5_method_20_code 5 = .ok (.aload_n 1, 1) := by decide +kernel
theorem d_5_20_6 : decode prog_5_method_20_code 6 = .ok (.getfield 77, 3) := by decide +kernel
theorem d_5_20_9 : decode prog_5_method_20_code 9 = .ok (.aload_n 1, 1) := by decide +kernel
theorem d_5_20_10 : decode prog_5_method_20_code 10 = .ok (.getfield 114, 3) := by decide +kernel
theorem d_5_20_13 : decode prog_5_method_20_code 13 = .ok (.iadd, 1) := by decide +kernel
theorem d_5_20_14 : decode prog_5_method_20_code 14 = .ok (.if_icmp .gt 80, 3) := by decide +kernel
theorem d_5_20_17 : decode prog_5_method_20_code 17 = .ok (.aload_n 0, 1) := by decide +kernel
theorem d_5_20_18 : decode prog_5_method_20_code 18 = .ok (.getfield 31, 3) := by decide +kernel
theorem d_5_20_21 : decode prog_5_method_20_code 21 = .ok (.lconst 0, 1) := by decide +kernel
theorem d_5_20_22 : decode prog_5_method_20_code 22 = .ok (.invokevirtual 129, 3) := by decide +kernel
theorem d_5_20_25 : decode prog_5_method_20_code 25 = .ok (.iconst 0, 1) := by decide +kernel
theorem d_5_20_26 : decode prog_5_method_20_code 26 = .ok (.istore 4, 2) := by decide +kernel
theorem d_5_20_28 : decode prog_5_method_20_code 28 = .ok (.iload 4, 2) := by decide +kernel
theorem d_5_20_30 : decode prog_5_method_20_code 30 = .ok (.bipush 9, 2) := by decide +kernel
theorem d_5_20_32 : decode prog_5_method_20_code 32 = .ok (.if_icmp .ge 28, 3) := by decide +kernel
theorem d_5_20_35 : decode prog_5_method_20_code 35 = .ok (.aload_n 0, 1) := by decide +kernel
theorem d_5_20_36 : decode prog_5_method_20_code 36 = .ok (.aload_n 1, 1) := by decide +kernel
theorem d_5_20_37 : decode prog_5_method_20_code 37 = .ok (.iload_n 3, 1) := by decide +kernel
theorem d_5_20_38 : decode prog_5_method_20_code 38 = .ok (.iload 4, 2) := by decide +kernel
theorem d_5_20_40 : decode prog_5_method_20_code 40 = .ok (.invokevirtual 234, 3) := by decide +kernel
theorem d_5_20_43 : decode prog_5_method_20_code 43 = .ok (.aload_n 0, 1) := by decide +kernel
theorem d_5_20_44 : decode prog_5_method_20_code 44 = .ok (.getfield 31, 3) := by decide +kernel
theorem d_5_20_47 : decode prog_5_method_20_code 47 = .ok (.aload_n 0, 1) := by decide +kernel
theorem d_5_20_48 : decode prog_5_method_20_code 48 = .ok (.getfield 37, 3) := by decide +kernel
theorem d_5_20_51 : decode prog_5_method_20_code 51 = .ok (.invokevirtual 148, 3) := by decide +kernel
theorem d_5_20_54 : decode prog_5_method_20_code 54 = .ok (.iinc 4 1, 3) := by decide +kernel
theorem d_5_20_57 : decode prog_5_method_20_code 57 = .ok (.goto (-29), 3) := by decide +kernel
theorem d_5_20_60 : decode prog_5_method_20_code 60 = .ok (.aload_n 0, 1) := by decide +kernel
theorem d_5_20_61 : decode prog_5_method_20_code 61 = .ok (.getfield 40, 3) := by decide +kernel
theorem d_5_20_64 : decode prog_5_method_20_code 64 = .ok (.aload_n 1, 1) := by decide +kernel
theorem d_5_20_65 : decode prog_5_method_20_code 65 = .ok (.getfield 108, 3) := by decide +kernel
theorem d_5_20_68 : decode prog_5_method_20_code 68 = .ok (.invokevirtual 181, 3) := by decide +kernel
theorem d_5_20_71 : decode prog_5_method_20_code 71 = .ok (.aload_n 0, 1) := by decide +kernel
theorem d_5_20_72 : decode prog_5_method_20_code 72 = .ok (.getfield 31, 3) := by decide +kernel
theorem d_5_20_75 : decode prog_5_method_20_code 75 = .ok (.aload_n 0, 1) := by decide +kernel
theorem d_5_20_76 : decode prog_5_method_20_code 76 = .ok (.getfield 40, 3) := by decide +kernel
theorem d_5_20_79 : decode prog_5_method_20_code 79 = .ok (.invokevirtual 184, 3) := by decide +kernel
theorem d_5_20_82 : decode prog_5_method_20_code 82 = .ok (.ifCond .eq 6, 3) := by decide +kernel
theorem d_5_20_85 : decode prog_5_method_20_code 85 = .ok (.iinc 2 1, 3) := by decide +kernel
theorem d_5_20_88 : decode prog_5_method_20_code 88 = .ok (.iinc 3 1, 3) := by decide +kernel
theorem d_5_20_91 : decode prog_5_method_20_code 91 = .ok (.goto (-87), 3) := by decide +kernel
theorem d_5_20_94 : decode prog_5_method_20_code 94 = .ok (.iload_n 2, 1) := by decide +kernel
theorem d_5_20_95 : decode prog_5_method_20_code 95 = .ok (.ireturn, 1) := by decide +kernel
theorem d_5_2_0 : decode prog_5_method_2_code 0 = .ok (.aload_n 0, 1) := by decide +kernel
theorem d_5_2_1 : decode prog_5_method_2_code 1 = .ok (.getfield 11, 3) := by decide +kernel
theorem d_5_2_4 : decode prog_5_method_2_code 4 = .ok (.aload_n 0, 1) := by decide +kernel
theorem d_5_2_5 : decode prog_5_method_2_code 5 = .ok (.getfield 59, 3) := by decide +kernel
theorem d_5_2_8 : decode prog_5_method_2_code 8 = .ok (.aaload, 1) := by decide +kernel
theorem d_5_2_9 : decode prog_5_method_2_code 9 = .ok (.areturn, 1) := by decide +kernel
theorem d_5_3_0 : decode prog_5_method_3_code 0 = .ok (.aload_n 0, 1) := by decide +kernel
theorem d_5_3_1 : decode prog_5_method_3_code 1 = .ok (.aload_n 0, 1) := by decide +kernel
theorem d_5_3_2 : decode prog_5_method_3_code 2 = .ok (.getfield 59, 3) := by decide +kernel
theorem d_5_3_5 : decode prog_5_method_3_code 5 = .ok (.bipush 21, 2) := by decide +kernel
theorem d_5_3_7 : decode prog_5_method_3_code 7 = .ok (.iadd, 1) := by decide +kernel
theorem d_5_3_8 : decode prog_5_method_3_code 8 = .ok (.iconst 1, 1) := by decide +kernel
theorem d_5_3_9 : decode prog_5_method_3_code 9 = .ok (.isub, 1) := by decide +kernel
theorem d_5_3_10 : decode prog_5_method_3_code 10 = .ok (.bipush 21, 2) := by decide +kernel
theorem d_5_3_12 : decode prog_5_method_3_code 12 = .ok (.irem, 1) := by decide +kernel
theorem d_5_3_13 : decode prog_5_method_3_code 13 = .ok (.putfield 59, 3) := by decide +kernel
theorem d_5_3_16 : decode prog_5_method_3_code 16 = .ok (.return_, 1) := by decide +kernel
theorem d_5_4_0 : decode prog_5_method_4_code 0 = .ok (.iload_n 1, 1) := by decide +kernel
theorem d_5_4_1 : decode prog_5_method_4_code 1 = .ok (.bipush 8, 2) := by decide +kernel
theorem d_5_4_3 : decode prog_5_method_4_code 3 = .ok (.imul, 1) := by decide +kernel
theorem d_5_4_4 : decode prog_5_method_4_code 4 = .ok (.iload_n 2, 1) := by decide +kernel
theorem d_5_4_5 : decode prog_5_method_4_code 5 = .ok (.iadd, 1) := by decide +kernel
theorem d_5_4_6 : decode prog_5_method_4_code 6 = .ok (.istore_n 3, 1) := by decide +kernel
theorem d_5_4_7 : decode prog_5_method_4_code 7 = .ok (.aload_n 0, 1) := by decide +kernel
theorem d_5_4_8 : decode prog_5_method_4_code 8 = .ok (.getfield 19, 3) := by decide +kernel
theorem d_5_4_11 : decode prog_5_method_4_code 11 = .ok (.iload_n 3, 1) := by decide +kernel
theorem d_5_4_12 : decode prog_5_method_4_code 12 = .ok (.aaload, 1) := by decide +kernel
theorem d_5_4_13 : decode prog_5_method_4_code 13 = .ok (.ifnonnull 16, 3) := by decide +kernel
theorem d_5_4_16 : decode prog_5_method_4_code 16 = .ok (.aload_n 0, 1) := by decide +kernel
theorem d_5_4_17 : decode prog_5_method_4_code 17 = .ok (.getfield 19, 3) := by decide +kernel
theorem d_5_4_20 : decode prog_5_method_4_code 20 = .ok (.iload_n 3, 1) := by decide +kernel
theorem d_5_4_21 : decode prog_5_method_4_code 21 = .ok (.new 17, 3) := by decide +kernel
theorem d_5_4_24 : decode prog_5_method_4_code 24 = .ok (.dup, 1) := by decide +kernel
theorem d_5_4_25 : decode prog_5_method_4_code 25 = .ok (.invokespecial 26, 3) := by decide +kernel
theorem d_5_4_28 : decode prog_5_method_4_code 28 = .ok (.aastore, 1) := by decide +kernel
theorem d_5_4_29 : decode prog_5_method_4_code 29 = .ok (.aload_n 0, 1) := by decide +kernel
theorem d_5_4_30 : decode prog_5_method_4_code 30 = .ok (.getfield 19, 3) := by decide +kernel
theorem d_5_4_33 : decode prog_5_method_4_code 33 = .ok (.iload_n 3, 1) := by decide +kernel
theorem d_5_4_34 : decode prog_5_method_4_code 34 = .ok (.aaload, 1) := by decide +kernel
theorem d_5_4_35 : decode prog_5_method_4_code 35 = .ok (.areturn, 1) := by decide +kernel
theorem d_5_5_0 : decode prog_5_method_5_code 0 = .ok (.aload_n 0, 1) := by decide +kernel
theorem d_5_5_1 : decode prog_5_method_5_code 1 = .ok (.aload_n 0, 1) := by decide +kernel
theorem d_5_5_2 : decode prog_5_method_5_code 2 = .ok (.getfield 59, 3) := by decide +kernel
theorem d_5_5_5 : decode prog_5_method_5_code 5 = .ok (.iconst 1, 1) := by decide +kernel
theorem d_5_5_6 : decode prog_5_method_5_code 6 = .ok (.iadd, 1) := by decide +kernel
theorem d_5_5_7 : decode prog_5_method_5_code 7 = .ok (.bipush 21, 2) := by decide +kernel
theorem d_5_5_9 : decode prog_5_method_5_code 9 = .ok (.irem, 1) := by decide +kernel
theorem d_5_5_10 : decode prog_5_method_5_code 10 = .ok (.putfield 59, 3) := by decide +kernel
theorem d_5_5_13 : decode prog_5_method_5_code 13 = .ok (.aload_n 0, 1) := by decide +kernel
theorem d_5_5_14 : decode prog_5_method_5_code 14 = .ok (.getfield 11, 3) := by decide +kernel
theorem d_5_5_17 : decode prog_5_method_5_code 17 = .ok (.aload_n 0, 1) := by decide +kernel
theorem d_5_5_18 : decode prog_5_method_5_code 18 = .ok (.getfield 59, 3) := by decide +kernel
theorem d_5_5_21 : decode prog_5_method_5_code 21 = .ok (.aaload, 1) := by decide +kernel
theorem d_5_5_22 : decode prog_5_method_5_code 22 = .ok (.ifnonnull 19, 3) := by decide +kernel
theorem d_5_5_25 : decode prog_5_method_5_code 25 = .ok (.aload_n 0, 1) := by decide +kernel
theorem d_5_5_26 : decode prog_5_method_5_code 26 = .ok (.getfield 11, 3) := by decide +kernel
theorem d_5_5_29 : decode prog_5_method_5_code 29 = .ok (.aload_n 0, 1) := by decide +kernel
theorem d_5_5_30 : decode prog_5_method_5_code 30 = .ok (.getfield 59, 3) := by decide +kernel
theorem d_5_5_33 : decode prog_5_method_5_code 33 = .ok (.new 9, 3) := by decide +kernel
theorem d_5_5_36 : decode prog_5_method_5_code 36 = .ok (.dup, 1) := by decide +kernel
theorem d_5_5_37 : decode prog_5_method_5_code 37 = .ok (.invokespecial 63, 3) := by decide +kernel
theorem d_5_5_40 : decode prog_5_method_5_code 40 = .ok (.aastore, 1) := by decide +kernel
theorem d_5_5_41 : decode prog_5_method_5_code 41 = .ok (.aload_n 0, 1) := by decide +kernel
theorem d_5_5_42 : decode prog_5_method_5_code 42 = .ok (.getfield 11, 3) := by decide +kernel
theorem d_5_5_45 : decode prog_5_method_5_code 45 = .ok (.aload_n 0, 1) := by decide +kernel
theorem d_5_5_46 : decode prog_5_method_5_code 46 = .ok (.getfield 59, 3) := by decide +kernel
theorem d_5_5_49 : decode prog_5_method_5_code 49 = .ok (.aaload, 1) := by decide +kernel
theorem d_5_5_50 : decode prog_5_method_5_code 50 = .ok (.astore_n 2, 1) := by decide +kernel
theorem d_5_5_51 : decode prog_5_method_5_code 51 = .ok (.aload_n 0, 1) := by decide +kernel
theorem d_5_5_52 : decode prog_5_method_5_code 52 = .ok (.aload_n 2, 1) := by decide +kernel
theorem d_5_5_53 : decode prog_5_method_5_code 53 = .ok (.iload_n 1, 1) := by decide +kernel
theorem d_5_5_54 : decode prog_5_method_5_code 54 = .ok (.invokevirtual 64, 3) := by decide +kernel
theorem d_5_5_57 : decode prog_5_method_5_code 57 = .ok (.aload_n 0, 1) := by decide +kernel
theorem d_5_5_58 : decode prog_5_method_5_code 58 = .ok (.aload_n 2, 1) := by decide +kernel
theorem d_5_5_59 : decode prog_5_method_5_code 59 = .ok (.invokevirtual 68, 3) := by decide +kernel
theorem d_5_5_62 : decode prog_5_method_5_code 62 = .ok (.iconst 0, 1) := by decide +kernel
theorem d_5_5_63 : decode prog_5_method_5_code 63 = .ok (.istore_n 3, 1) := by decide +kernel
theorem d_5_5_64 : decode prog_5_method_5_code 64 = .ok (.iload_n 3, 1) := by decide +kernel
theorem d_5_5_65 : decode prog_5_method_5_code 65 = .ok (.aload_n 0, 1) := by decide +kernel
theorem d_5_5_66 : decode prog_5_method_5_code 66 = .ok (.getfield 55, 3) := by decide +kernel
theorem d_5_5_69 : decode prog_5_method_5_code 69 = .ok (.getfield 72, 3) := by decide +kernel
theorem d_5_5_72 : decode prog_5_method_5_code 72 = .ok (.if_icmp .ge 58, 3) := by decide +kernel
theorem d_5_5_75 : decode prog_5_method_5_code 75 = .ok (.iload_n 1, 1) := by decide +kernel
theorem d_5_5_76 : decode prog_5_method_5_code 76 = .ok (.aload_n 2, 1) := by decide +kernel
theorem d_5_5_77 : decode prog_5_method_5_code 77 = .ok (.getfield 77, 3) := by decide +kernel
theorem d_5_5_80 : decode prog_5_method_5_code 80 = .ok (.isub, 1) := by decide +kernel
theorem d_5_5_81 : decode prog_5_method_5_code 81 = .ok (.istore 4, 2) := by decide +kernel
theorem d_5_5_83 : decode prog_5_method_5_code 83 = .ok (.iload 4, 2) := by decide +kernel
theorem d_5_5_85 : decode prog_5_method_5_code 85 = .ok (.ifCond .le 39, 3) := by decide +kernel
theorem d_5_5_88 : decode prog_5_method_5_code 88 = .ok (.aload_n 0, 1) := by decide +kernel
theorem d_5_5_89 : decode prog_5_method_5_code 89 = .ok (.getfield 80, 3) := by decide +kernel
theorem d_5_5_92 : decode prog_5_method_5_code 92 = .ok (.ifCond .eq 32, 3) := by decide +kernel
theorem d_5_5_95 : decode prog_5_method_5_code 95 = .ok (.aload_n 0, 1) := by decide +kernel
theorem d_5_5_96 : decode prog_5_method_5_code 96 = .ok (.invokevirtual 83, 3) := by decide +kernel
theorem d_5_5_99 : decode prog_5_method_5_code 99 = .ok (.istore 5, 2) := by decide +kernel
theorem d_5_5_101 : decode prog_5_method_5_code 101 = .ok (.aload_n 0, 1) := by decide +kernel
theorem d_5_5_102 : decode prog_5_method_5_code 102 = .ok (.aload_n 2, 1) := by decide +kernel
theorem d_5_5_103 : decode prog_5_method_5_code 103 = .ok (.iload 5, 2) := by decide +kernel
theorem d_5_5_105 : decode prog_5_method_5_code 105 = .ok (.iload 4, 2) := by decide +kernel
theorem d_5_5_107 : decode prog_5_method_5_code 107 = .ok (.invokevirtual 87, 3) := by decide +kernel
theorem d_5_5_110 : decode prog_5_method_5_code 110 = .ok (.ifCond .eq 9, 3) := by decide +kernel
theorem d_5_5_113 : decode prog_5_method_5_code 113 = .ok (.aload_n 0, 1) := by decide +kernel
theorem d_5_5_114 : decode prog_5_method_5_code 114 = .ok (.iload 5, 2) := by decide +kernel
theorem d_5_5_116 : decode prog_5_method_5_code 116 = .ok (.invokevirtual 91, 3) := by decide +kernel
theorem d_5_5_119 : decode prog_5_method_5_code 119 = .ok (.aload_n 0, 1) := by decide +kernel
theorem d_5_5_120 : decode prog_5_method_5_code 120 = .ok (.aload_n 2, 1) := by decide +kernel
theorem d_5_5_121 : decode prog_5_method_5_code 121 = .ok (.invokevirtual 68, 3) := by decide +kernel
theorem d_5_5_124 : decode prog_5_method_5_code 124 = .ok (.iinc 3 1, 3) := by decide +kernel
theorem d_5_5_127 : decode prog_5_method_5_code 127 = .ok (.goto (-63), 3) := by decide +kernel
theorem d_5_5_130 : decode prog_5_method_5_code 130 = .ok (.aload_n 2, 1) := by decide +kernel
theorem d_5_5_131 : decode prog_5_method_5_code 131 = .ok (.getfield 77, 3) := by decide +kernel
theorem d_5_5_134 : decode prog_5_method_5_code 134 = .ok (.ireturn, 1) := by decide +kernel
theorem d_5_6_0 : decode prog_5_method_6_code 0 = .ok (.aload_n 1, 1) := by decide +kernel
theorem d_5_6_1 : decode prog_5_method_6_code 1 = .ok (.aload_n 0, 1) := by decide +kernel
theorem d_5_6_2 : decode prog_5_method_6_code 2 = .ok (.getfield 55, 3) := by decide +kernel
theorem d_5_6_5 : decode prog_5_method_6_code 5 = .ok (.getfield 72, 3) := by decide +kernel
theorem d_5_6_8 : decode prog_5_method_6_code 8 = .ok (.putfield 95, 3) := by decide +kernel
theorem d_5_6_11 : decode prog_5_method_6_code 11 = .ok (.aload_n 1, 1) := by decide +kernel
theorem d_5_6_12 : decode prog_5_method_6_code 12 = .ok (.aload_n 0, 1) := by decide +kernel
theorem d_5_6_13 : decode prog_5_method_6_code 13 = .ok (.getfield 55, 3) := by decide +kernel
theorem d_5_6_16 : decode prog_5_method_6_code 16 = .ok (.getfield 96, 3) := by decide +kernel
theorem d_5_6_19 : decode prog_5_method_6_code 19 = .ok (.putfield 99, 3) := by decide +kernel
theorem d_5_6_22 : decode prog_5_method_6_code 22 = .ok (.aload_n 1, 1) := by decide +kernel
theorem d_5_6_23 : decode prog_5_method_6_code 23 = .ok (.aload_n 0, 1) := by decide +kernel
theorem d_5_6_24 : decode prog_5_method_6_code 24 = .ok (.getfield 55, 3) := by decide +kernel
theorem d_5_6_27 : decode prog_5_method_6_code 27 = .ok (.aload_n 0, 1) := by decide +kernel
theorem d_5_6_28 : decode prog_5_method_6_code 28 = .ok (.getfield 55, 3) := by decide +kernel
theorem d_5_6_31 : decode prog_5_method_6_code 31 = .ok (.getfield 100, 3) := by decide +kernel
theorem d_5_6_34 : decode prog_5_method_6_code 34 = .ok (.aload_n 0, 1) := by decide +kernel
theorem d_5_6_35 : decode prog_5_method_6_code 35 = .ok (.getfield 55, 3) := by decide +kernel
theorem d_5_6_38 : decode prog_5_method_6_code 38 = .ok (.getfield 96, 3) := by decide +kernel
theorem d_5_6_41 : decode prog_5_method_6_code 41 = .ok (.invokevirtual 104, 3) := by decide +kernel
theorem d_5_6_44 : decode prog_5_method_6_code 44 = .ok (.putfield 108, 3) := by decide +kernel
theorem d_5_6_47 : decode prog_5_method_6_code 47 = .ok (.aload_n 1, 1) := by decide +kernel
theorem d_5_6_48 : decode prog_5_method_6_code 48 = .ok (.aload_n 1, 1) := by decide +kernel
theorem d_5_6_49 : decode prog_5_method_6_code 49 = .ok (.getfield 108, 3) := by decide +kernel
theorem d_5_6_52 : decode prog_5_method_6_code 52 = .ok (.iload_n 2, 1) := by decide +kernel
theorem d_5_6_53 : decode prog_5_method_6_code 53 = .ok (.iconst 1, 1) := by decide +kernel
theorem d_5_6_54 : decode prog_5_method_6_code 54 = .ok (.iadd, 1) := by decide +kernel
theorem d_5_6_55 : decode prog_5_method_6_code 55 = .ok (.idiv, 1) := by decide +kernel
theorem d_5_6_56 : decode prog_5_method_6_code 56 = .ok (.iconst 1, 1) := by decide +kernel
theorem d_5_6_57 : decode prog_5_method_6_code 57 = .ok (.iadd, 1) := by decide +kernel
theorem d_5_6_58 : decode prog_5_method_6_code 58 = .ok (.putfield 111, 3) := by decide +kernel
theorem d_5_6_61 : decode prog_5_method_6_code 61 = .ok (.aload_n 1, 1) := by decide +kernel
theorem d_5_6_62 : decode prog_5_method_6_code 62 = .ok (.iconst 0, 1) := by decide +kernel
theorem d_5_6_63 : decode prog_5_method_6_code 63 = .ok (.putfield 77, 3) := by decide +kernel
theorem d_5_6_66 : decode prog_5_method_6_code 66 = .ok (.aload_n 1, 1) := by decide +kernel
theorem d_5_6_67 : decode prog_5_method_6_code 67 = .ok (.iconst 0, 1) := by decide +kernel
theorem d_5_6_68 : decode prog_5_method_6_code 68 = .ok (.putfield 114, 3) := by decide +kernel
theorem d_5_6_71 : decode prog_5_method_6_code 71 = .ok (.aload_n 0, 1) := by decide +kernel
theorem d_5_6_72 : decode prog_5_method_6_code 72 = .ok (.getfield 55, 3) := by decide +kernel
theorem d_5_6_75 : decode prog_5_method_6_code 75 = .ok (.getfield 100, 3) := by decide +kernel
theorem d_5_6_78 : decode prog_5_method_6_code 78 = .ok (.iconst 0, 1) := by decide +kernel
theorem d_5_6_79 : decode prog_5_method_6_code 79 = .ok (.aload_n 1, 1) := by decide +kernel
theorem d_5_6_80 : decode prog_5_method_6_code 80 = .ok (.getfield 117, 3) := by decide +kernel
theorem d_5_6_83 : decode prog_5_method_6_code 83 = .ok (.iconst 0, 1) := by decide +kernel
theorem d_5_6_84 : decode prog_5_method_6_code 84 = .ok (.bipush 30, 2) := by decide +kernel
theorem d_5_6_86 : decode prog_5_method_6_code 86 = .ok (.invokestatic 120, 3) := by decide +kernel
theorem d_5_6_89 : decode prog_5_method_6_code 89 = .ok (.aload_n 0, 1) := by decide +kernel
theorem d_5_6_90 : decode prog_5_method_6_code 90 = .ok (.aload_n 0, 1) := by decide +kernel
theorem d_5_6_91 : decode prog_5_method_6_code 91 = .ok (.getfield 55, 3) := by decide +kernel
theorem d_5_6_94 : decode prog_5_method_6_code 94 = .ok (.invokevirtual 126, 3) := by decide +kernel
theorem d_5_6_97 : decode prog_5_method_6_code 97 = .ok (.putfield 80, 3) := by decide +kernel
theorem d_5_6_100 : decode prog_5_method_6_code 100 = .ok (.iconst 0, 1) := by decide +kernel
theorem d_5_6_101 : decode prog_5_method_6_code 101 = .ok (.istore_n 3, 1) := by decide +kernel
theorem d_5_6_102 : decode prog_5_method_6_code 102 = .ok (.iload_n 3, 1) := by decide +kernel
theorem d_5_6_103 : decode prog_5_method_6_code 103 = .ok (.bipush 9, 2) := by decide +kernel
theorem d_5_6_105 : decode prog_5_method_6_code 105 = .ok (.if_icmp .ge 19, 3) := by decide +kernel
theorem d_5_6_108 : decode prog_5_method_6_code 108 = .ok (.aload_n 0, 1) := by decide +kernel
theorem d_5_6_109 : decode prog_5_method_6_code 109 = .ok (.getfield 23, 3) := by decide +kernel
theorem d_5_6_112 : decode prog_5_method_6_code 112 = .ok (.iload_n 3, 1) := by decide +kernel
theorem d_5_6_113 : decode prog_5_method_6_code 113 = .ok (.aaload, 1) := by decide +kernel
theorem d_5_6_114 : decode prog_5_method_6_code 114 = .ok (.lconst 0, 1) := by decide +kernel
theorem d_5_6_115 : decode prog_5_method_6_code 115 = .ok (.invokevirtual 129, 3) := by decide +kernel
theorem d_5_6_118 : decode prog_5_method_6_code 118 = .ok (.iinc 3 1, 3) := by decide +kernel
theorem d_5_6_121 : decode prog_5_method_6_code 121 = .ok (.goto (-19), 3) := by decide +kernel
theorem d_5_6_124 : decode prog_5_method_6_code 124 = .ok (.getstatic 133, 3) := by decide +kernel
theorem d_5_6_127 : decode prog_5_method_6_code 127 = .ok (.aload_n 0, 1) := by decide +kernel
theorem d_5_6_128 : decode prog_5_method_6_code 128 = .ok (.getfield 55, 3) := by decide +kernel
theorem d_5_6_131 : decode prog_5_method_6_code 131 = .ok (.getfield 72, 3) := by decide +kernel
theorem d_5_6_134 : decode prog_5_method_6_code 134 = .ok (.laload, 1) := by decide +kernel
theorem d_5_6_135 : decode prog_5_method_6_code 135 = .ok (.lstore_n 3, 1) := by decide +kernel
theorem d_5_6_136 : decode prog_5_method_6_code 136 = .ok (.aload_n 0, 1) := by decide +kernel
theorem d_5_6_137 : decode prog_5_method_6_code 137 = .ok (.getfield 27, 3) := by decide +kernel
theorem d_5_6_140 : decode prog_5_method_6_code 140 = .ok (.lload_n 3, 1) := by decide +kernel
theorem d_5_6_141 : decode prog_5_method_6_code 141 = .ok (.invokevirtual 129, 3) := by decide +kernel
theorem d_5_6_144 : decode prog_5_method_6_code 144 = .ok (.iconst 0, 1) := by decide +kernel
theorem d_5_6_145 : decode prog_5_method_6_code 145 = .ok (.istore 5, 2) := by decide +kernel
theorem d_5_6_147 : decode prog_5_method_6_code 147 = .ok (.iload 5, 2) := by decide +kernel
