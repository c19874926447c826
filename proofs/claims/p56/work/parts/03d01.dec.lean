theorem d_11_11_29 : decode prog_11_method_11_code 29 = .ok (.aload_n 0, 1) := by decide +kernel
theorem d_11_11_30 : decode prog_11_method_11_code 30 = .ok (.getfield 44, 3) := by decide +kernel
theorem d_11_11_33 : decode prog_11_method_11_code 33 = .ok (.if_icmp .eq 5, 3) := by decide +kernel
theorem d_11_11_36 : decode prog_11_method_11_code 36 = .ok (.iconst 0, 1) := by decide +kernel
theorem d_11_11_37 : decode prog_11_method_11_code 37 = .ok (.ireturn, 1) := by decide +kernel
theorem d_11_11_38 : decode prog_11_method_11_code 38 = .ok (.iinc 2 1, 3) := by decide +kernel
theorem d_11_11_41 : decode prog_11_method_11_code 41 = .ok (.goto (-39), 3) := by decide +kernel
theorem d_11_11_44 : decode prog_11_method_11_code 44 = .ok (.iconst 1, 1) := by decide +kernel
theorem d_11_11_45 : decode prog_11_method_11_code 45 = .ok (.ireturn, 1) := by decide +kernel
theorem d_11_12_0 : decode prog_11_method_12_code 0 = .ok (.iconst 0, 1) := by decide +kernel
theorem d_11_12_1 : decode prog_11_method_12_code 1 = .ok (.istore_n 1, 1) := by decide +kernel
theorem d_11_12_2 : decode prog_11_method_12_code 2 = .ok (.iload_n 1, 1) := by decide +kernel
theorem d_11_12_3 : decode prog_11_method_12_code 3 = .ok (.aload_n 0, 1) := by decide +kernel
theorem d_11_12_4 : decode prog_11_method_12_code 4 = .ok (.getfield 40, 3) := by decide +kernel
theorem d_11_12_7 : decode prog_11_method_12_code 7 = .ok (.getfield 84, 3) := by decide +kernel
theorem d_11_12_10 : decode prog_11_method_12_code 10 = .ok (.if_icmp .ge 58, 3) := by decide +kernel
theorem d_11_12_13 : decode prog_11_method_12_code 13 = .ok (.iconst 0, 1) := by decide +kernel
theorem d_11_12_14 : decode prog_11_method_12_code 14 = .ok (.istore_n 2, 1) := by decide +kernel
theorem d_11_12_15 : decode prog_11_method_12_code 15 = .ok (.iload_n 2, 1) := by decide +kernel
theorem d_11_12_16 : decode prog_11_method_12_code 16 = .ok (.aload_n 0, 1) := by decide +kernel
theorem d_11_12_17 : decode prog_11_method_12_code 17 = .ok (.getfield 40, 3) := by decide +kernel
theorem d_11_12_20 : decode prog_11_method_12_code 20 = .ok (.getfield 84, 3) := by decide +kernel
theorem d_11_12_23 : decode prog_11_method_12_code 23 = .ok (.if_icmp .ge 39, 3) := by decide +kernel
theorem d_11_12_26 : decode prog_11_method_12_code 26 = .ok (.aload_n 0, 1) := by decide +kernel
theorem d_11_12_27 : decode prog_11_method_12_code 27 = .ok (.getfield 27, 3) := by decide +kernel
theorem d_11_12_30 : decode prog_11_method_12_code 30 = .ok (.iload_n 1, 1) := by decide +kernel
theorem d_11_12_31 : decode prog_11_method_12_code 31 = .ok (.bipush 8, 2) := by decide +kernel
theorem d_11_12_33 : decode prog_11_method_12_code 33 = .ok (.imul, 1) := by decide +kernel
theorem d_11_12_34 : decode prog_11_method_12_code 34 = .ok (.iload_n 2, 1) := by decide +kernel
theorem d_11_12_35 : decode prog_11_method_12_code 35 = .ok (.iadd, 1) := by decide +kernel
theorem d_11_12_36 : decode prog_11_method_12_code 36 = .ok (.aload_n 0, 1) := by decide +kernel
theorem d_11_12_37 : decode prog_11_method_12_code 37 = .ok (.iload_n 1, 1) := by decide +kernel
theorem d_11_12_38 : decode prog_11_method_12_code 38 = .ok (.iload_n 2, 1) := by decide +kernel
theorem d_11_12_39 : decode prog_11_method_12_code 39 = .ok (.invokevirtual 97, 3) := by decide +kernel
theorem d_11_12_42 : decode prog_11_method_12_code 42 = .ok (.ifCond .eq 12, 3) := by decide +kernel
theorem d_11_12_45 : decode prog_11_method_12_code 45 = .ok (.aload_n 0, 1) := by decide +kernel
theorem d_11_12_46 : decode prog_11_method_12_code 46 = .ok (.iload_n 1, 1) := by decide +kernel
theorem d_11_12_47 : decode prog_11_method_12_code 47 = .ok (.iload_n 2, 1) := by decide +kernel
theorem d_11_12_48 : decode prog_11_method_12_code 48 = .ok (.invokevirtual 94, 3) := by decide +kernel
theorem d_11_12_51 : decode prog_11_method_12_code 51 = .ok (.goto 4, 3) := by decide +kernel
theorem d_11_12_54 : decode prog_11_method_12_code 54 = .ok (.iconst 0, 1) := by decide +kernel
theorem d_11_12_55 : decode prog_11_method_12_code 55 = .ok (.iastore, 1) := by decide +kernel
theorem d_11_12_56 : decode prog_11_method_12_code 56 = .ok (.iinc 2 1, 3) := by decide +kernel
theorem d_11_12_59 : decode prog_11_method_12_code 59 = .ok (.goto (-44), 3) := by decide +kernel
theorem d_11_12_62 : decode prog_11_method_12_code 62 = .ok (.iinc 1 1, 3) := by decide +kernel
theorem d_11_12_65 : decode prog_11_method_12_code 65 = .ok (.goto (-63), 3) := by decide +kernel
theorem d_11_12_68 : decode prog_11_method_12_code 68 = .ok (.iconst 0, 1) := by decide +kernel
theorem d_11_12_69 : decode prog_11_method_12_code 69 = .ok (.istore_n 1, 1) := by decide +kernel
theorem d_11_12_70 : decode prog_11_method_12_code 70 = .ok (.iload_n 1, 1) := by decide +kernel
theorem d_11_12_71 : decode prog_11_method_12_code 71 = .ok (.aload_n 0, 1) := by decide +kernel
theorem d_11_12_72 : decode prog_11_method_12_code 72 = .ok (.getfield 40, 3) := by decide +kernel
theorem d_11_12_75 : decode prog_11_method_12_code 75 = .ok (.getfield 84, 3) := by decide +kernel
theorem d_11_12_78 : decode prog_11_method_12_code 78 = .ok (.if_icmp .ge 48, 3) := by decide +kernel
theorem d_11_12_81 : decode prog_11_method_12_code 81 = .ok (.iconst 0, 1) := by decide +kernel
theorem d_11_12_82 : decode prog_11_method_12_code 82 = .ok (.istore_n 2, 1) := by decide +kernel
theorem d_11_12_83 : decode prog_11_method_12_code 83 = .ok (.iload_n 2, 1) := by decide +kernel
theorem d_11_12_84 : decode prog_11_method_12_code 84 = .ok (.aload_n 0, 1) := by decide +kernel
theorem d_11_12_85 : decode prog_11_method_12_code 85 = .ok (.getfield 40, 3) := by decide +kernel
theorem d_11_12_88 : decode prog_11_method_12_code 88 = .ok (.getfield 84, 3) := by decide +kernel
theorem d_11_12_91 : decode prog_11_method_12_code 91 = .ok (.if_icmp .ge 29, 3) := by decide +kernel
theorem d_11_12_94 : decode prog_11_method_12_code 94 = .ok (.iload_n 2, 1) := by decide +kernel
theorem d_11_12_95 : decode prog_11_method_12_code 95 = .ok (.iload_n 1, 1) := by decide +kernel
theorem d_11_12_96 : decode prog_11_method_12_code 96 = .ok (.if_icmp .eq 18, 3) := by decide +kernel
theorem d_11_12_99 : decode prog_11_method_12_code 99 = .ok (.aload_n 0, 1) := by decide +kernel
theorem d_11_12_100 : decode prog_11_method_12_code 100 = .ok (.iload_n 2, 1) := by decide +kernel
theorem d_11_12_101 : decode prog_11_method_12_code 101 = .ok (.iload_n 1, 1) := by decide +kernel
theorem d_11_12_102 : decode prog_11_method_12_code 102 = .ok (.invokevirtual 113, 3) := by decide +kernel
theorem d_11_12_105 : decode prog_11_method_12_code 105 = .ok (.ifCond .le 9, 3) := by decide +kernel
theorem d_11_12_108 : decode prog_11_method_12_code 108 = .ok (.aload_n 0, 1) := by decide +kernel
theorem d_11_12_109 : decode prog_11_method_12_code 109 = .ok (.iload_n 2, 1) := by decide +kernel
theorem d_11_12_110 : decode prog_11_method_12_code 110 = .ok (.iload_n 1, 1) := by decide +kernel
theorem d_11_12_111 : decode prog_11_method_12_code 111 = .ok (.invokevirtual 116, 3) := by decide +kernel
theorem d_11_12_114 : decode prog_11_method_12_code 114 = .ok (.iinc 2 1, 3) := by decide +kernel
theorem d_11_12_117 : decode prog_11_method_12_code 117 = .ok (.goto (-34), 3) := by decide +kernel
theorem d_11_12_120 : decode prog_11_method_12_code 120 = .ok (.iinc 1 1, 3) := by decide +kernel
theorem d_11_12_123 : decode prog_11_method_12_code 123 = .ok (.goto (-53), 3) := by decide +kernel
theorem d_11_12_126 : decode prog_11_method_12_code 126 = .ok (.return_, 1) := by decide +kernel
theorem d_11_13_0 : decode prog_11_method_13_code 0 = .ok (.aload_n 0, 1) := by decide +kernel
theorem d_11_13_1 : decode prog_11_method_13_code 1 = .ok (.iload_n 1, 1) := by decide +kernel
theorem d_11_13_2 : decode prog_11_method_13_code 2 = .ok (.iload_n 2, 1) := by decide +kernel
theorem d_11_13_3 : decode prog_11_method_13_code 3 = .ok (.invokevirtual 113, 3) := by decide +kernel
theorem d_11_13_6 : decode prog_11_method_13_code 6 = .ok (.istore_n 3, 1) := by decide +kernel
theorem d_11_13_7 : decode prog_11_method_13_code 7 = .ok (.iconst 0, 1) := by decide +kernel
theorem d_11_13_8 : decode prog_11_method_13_code 8 = .ok (.istore 4, 2) := by decide +kernel
theorem d_11_13_10 : decode prog_11_method_13_code 10 = .ok (.iload 4, 2) := by decide +kernel
theorem d_11_13_12 : decode prog_11_method_13_code 12 = .ok (.aload_n 0, 1) := by decide +kernel
theorem d_11_13_13 : decode prog_11_method_13_code 13 = .ok (.getfield 40, 3) := by decide +kernel
theorem d_11_13_16 : decode prog_11_method_13_code 16 = .ok (.getfield 84, 3) := by decide +kernel
theorem d_11_13_19 : decode prog_11_method_13_code 19 = .ok (.if_icmp .ge 54, 3) := by decide +kernel
theorem d_11_13_22 : decode prog_11_method_13_code 22 = .ok (.iload_n 3, 1) := by decide +kernel
theorem d_11_13_23 : decode prog_11_method_13_code 23 = .ok (.aload_n 0, 1) := by decide +kernel
theorem d_11_13_24 : decode prog_11_method_13_code 24 = .ok (.iload_n 2, 1) := by decide +kernel
theorem d_11_13_25 : decode prog_11_method_13_code 25 = .ok (.iload 4, 2) := by decide +kernel
theorem d_11_13_27 : decode prog_11_method_13_code 27 = .ok (.invokevirtual 113, 3) := by decide +kernel
theorem d_11_13_30 : decode prog_11_method_13_code 30 = .ok (.invokestatic 119, 3) := by decide +kernel
theorem d_11_13_33 : decode prog_11_method_13_code 33 = .ok (.istore 5, 2) := by decide +kernel
theorem d_11_13_35 : decode prog_11_method_13_code 35 = .ok (.iload 4, 2) := by decide +kernel
theorem d_11_13_37 : decode prog_11_method_13_code 37 = .ok (.iload_n 1, 1) := by decide +kernel
theorem d_11_13_38 : decode prog_11_method_13_code 38 = .ok (.if_icmp .eq 29, 3) := by decide +kernel
theorem d_11_13_41 : decode prog_11_method_13_code 41 = .ok (.iload 5, 2) := by decide +kernel
theorem d_11_13_43 : decode prog_11_method_13_code 43 = .ok (.aload_n 0, 1) := by decide +kernel
theorem d_11_13_44 : decode prog_11_method_13_code 44 = .ok (.iload_n 1, 1) := by decide +kernel
theorem d_11_13_45 : decode prog_11_method_13_code 45 = .ok (.iload 4, 2) := by decide +kernel
theorem d_11_13_47 : decode prog_11_method_13_code 47 = .ok (.invokevirtual 113, 3) := by decide +kernel
theorem d_11_13_50 : decode prog_11_method_13_code 50 = .ok (.if_icmp .le 17, 3) := by decide +kernel
theorem d_11_13_53 : decode prog_11_method_13_code 53 = .ok (.aload_n 0, 1) := by decide +kernel
theorem d_11_13_54 : decode prog_11_method_13_code 54 = .ok (.getfield 27, 3) := by decide +kernel
theorem d_11_13_57 : decode prog_11_method_13_code 57 = .ok (.iload_n 1, 1) := by decide +kernel
theorem d_11_13_58 : decode prog_11_method_13_code 58 = .ok (.bipush 8, 2) := by decide +kernel
theorem d_11_13_60 : decode prog_11_method_13_code 60 = .ok (.imul, 1) := by decide +kernel
theorem d_11_13_61 : decode prog_11_method_13_code 61 = .ok (.iload 4, 2) := by decide +kernel
theorem d_11_13_63 : decode prog_11_method_13_code 63 = .ok (.iadd, 1) := by decide +kernel
theorem d_11_13_64 : decode prog_11_method_13_code 64 = .ok (.iload 5, 2) := by decide +kernel
theorem d_11_13_66 : decode prog_11_method_13_code 66 = .ok (.iastore, 1) := by decide +kernel
theorem d_11_13_67 : decode prog_11_method_13_code 67 = .ok (.iinc 4 1, 3) := by decide +kernel
theorem d_11_13_70 : decode prog_11_method_13_code 70 = .ok (.goto (-60), 3) := by decide +kernel
theorem d_11_13_73 : decode prog_11_method_13_code 73 = .ok (.return_, 1) := by decide +kernel
theorem d_11_14_0 : decode prog_11_method_14_code 0 = .ok (.aload_n 0, 1) := by decide +kernel
theorem d_11_14_1 : decode prog_11_method_14_code 1 = .ok (.invokevirtual 124, 3) := by decide +kernel
theorem d_11_14_4 : decode prog_11_method_14_code 4 = .ok (.aload_n 0, 1) := by decide +kernel
theorem d_11_14_5 : decode prog_11_method_14_code 5 = .ok (.getfield 44, 3) := by decide +kernel
theorem d_11_14_8 : decode prog_11_method_14_code 8 = .ok (.istore_n 1, 1) := by decide +kernel
theorem d_11_14_9 : decode prog_11_method_14_code 9 = .ok (.iconst 0, 1) := by decide +kernel
theorem d_11_14_10 : decode prog_11_method_14_code 10 = .ok (.istore_n 2, 1) := by decide +kernel
theorem d_11_14_11 : decode prog_11_method_14_code 11 = .ok (.iload_n 2, 1) := by decide +kernel
theorem d_11_14_12 : decode prog_11_method_14_code 12 = .ok (.aload_n 0, 1) := by decide +kernel
theorem d_11_14_13 : decode prog_11_method_14_code 13 = .ok (.getfield 40, 3) := by decide +kernel
theorem d_11_14_16 : decode prog_11_method_14_code 16 = .ok (.getfield 84, 3) := by decide +kernel
theorem d_11_14_19 : decode prog_11_method_14_code 19 = .ok (.if_icmp .ge 51, 3) := by decide +kernel
theorem d_11_14_22 : decode prog_11_method_14_code 22 = .ok (.iconst 0, 1) := by decide +kernel
theorem d_11_14_23 : decode prog_11_method_14_code 23 = .ok (.istore_n 3, 1) := by decide +kernel
theorem d_11_14_24 : decode prog_11_method_14_code 24 = .ok (.iload_n 3, 1) := by decide +kernel
theorem d_11_14_25 : decode prog_11_method_14_code 25 = .ok (.aload_n 0, 1) := by decide +kernel
theorem d_11_14_26 : decode prog_11_method_14_code 26 = .ok (.getfield 40, 3) := by decide +kernel
theorem d_11_14_29 : decode prog_11_method_14_code 29 = .ok (.getfield 84, 3) := by decide +kernel
theorem d_11_14_32 : decode prog_11_method_14_code 32 = .ok (.if_icmp .ge 32, 3) := by decide +kernel
theorem d_11_14_35 : decode prog_11_method_14_code 35 = .ok (.aload_n 0, 1) := by decide +kernel
theorem d_11_14_36 : decode prog_11_method_14_code 36 = .ok (.iload_n 3, 1) := by decide +kernel
theorem d_11_14_37 : decode prog_11_method_14_code 37 = .ok (.iload_n 2, 1) := by decide +kernel
theorem d_11_14_38 : decode prog_11_method_14_code 38 = .ok (.invokevirtual 113, 3) := by decide +kernel
theorem d_11_14_41 : decode prog_11_method_14_code 41 = .ok (.aload_n 0, 1) := by decide +kernel
theorem d_11_14_42 : decode prog_11_method_14_code 42 = .ok (.iload_n 2, 1) := by decide +kernel
theorem d_11_14_43 : decode prog_11_method_14_code 43 = .ok (.iload_n 3, 1) := by decide +kernel
theorem d_11_14_44 : decode prog_11_method_14_code 44 = .ok (.invokevirtual 113, 3) := by decide +kernel
theorem d_11_14_47 : decode prog_11_method_14_code 47 = .ok (.if_icmp .le 11, 3) := by decide +kernel
theorem d_11_14_50 : decode prog_11_method_14_code 50 = .ok (.iload_n 1, 1) := by decide +kernel
theorem d_11_14_51 : decode prog_11_method_14_code 51 = .ok (.iconst 1, 1) := by decide +kernel
theorem d_11_14_52 : decode prog_11_method_14_code 52 = .ok (.iload_n 2, 1) := by decide +kernel
theorem d_11_14_53 : decode prog_11_method_14_code 53 = .ok (.ishl, 1) := by decide +kernel
theorem d_11_14_54 : decode prog_11_method_14_code 54 = .ok (.iconst (-1), 1) := by decide +kernel
theorem d_11_14_55 : decode prog_11_method_14_code 55 = .ok (.ixor, 1) := by decide +kernel
theorem d_11_14_56 : decode prog_11_method_14_code 56 = .ok (.iand, 1) := by decide +kernel
theorem d_11_14_57 : decode prog_11_method_14_code 57 = .ok (.istore_n 1, 1) := by decide +kernel
theorem d_11_14_58 : decode prog_11_method_14_code 58 = .ok (.iinc 3 1, 3) := by decide +kernel
theorem d_11_14_61 : decode prog_11_method_14_code 61 = .ok (.goto (-37), 3) := by decide +kernel
theorem d_11_14_64 : decode prog_11_method_14_code 64 = .ok (.iinc 2 1, 3) := by decide +kernel
theorem d_11_14_67 : decode prog_11_method_14_code 67 = .ok (.goto (-56), 3) := by decide +kernel
theorem d_11_14_70 : decode prog_11_method_14_code 70 = .ok (.iload_n 1, 1) := by decide +kernel
theorem d_11_14_71 : decode prog_11_method_14_code 71 = .ok (.ireturn, 1) := by decide +kernel
theorem d_11_15_0 : decode prog_11_method_15_code 0 = .ok (.aload_n 0, 1) := by decide +kernel
theorem d_11_15_1 : decode prog_11_method_15_code 1 = .ok (.getfield 37, 3) := by decide +kernel
theorem d_11_15_4 : decode prog_11_method_15_code 4 = .ok (.iconst 0, 1) := by decide +kernel
theorem d_11_15_5 : decode prog_11_method_15_code 5 = .ok (.lconst 0, 1) := by decide +kernel
theorem d_11_15_6 : decode prog_11_method_15_code 6 = .ok (.lastore, 1) := by decide +kernel
theorem d_11_15_7 : decode prog_11_method_15_code 7 = .ok (.iconst 1, 1) := by decide +kernel
theorem d_11_15_8 : decode prog_11_method_15_code 8 = .ok (.istore_n 1, 1) := by decide +kernel
theorem d_11_15_9 : decode prog_11_method_15_code 9 = .ok (.iload_n 1, 1) := by decide +kernel
theorem d_11_15_10 : decode prog_11_method_15_code 10 = .ok (.aload_n 0, 1) := by decide +kernel
theorem d_11_15_11 : decode prog_11_method_15_code 11 = .ok (.getfield 44, 3) := by decide +kernel
theorem d_11_15_14 : decode prog_11_method_15_code 14 = .ok (.if_icmp .gt 79, 3) := by decide +kernel
theorem d_11_15_17 : decode prog_11_method_15_code 17 = .ok (.ldc2_w 127, 3) := by decide +kernel
theorem d_11_15_20 : decode prog_11_method_15_code 20 = .ok (.lstore_n 2, 1) := by decide +kernel
theorem d_11_15_21 : decode prog_11_method_15_code 21 = .ok (.iconst 0, 1) := by decide +kernel
theorem d_11_15_22 : decode prog_11_method_15_code 22 = .ok (.istore 4, 2) := by decide +kernel
theorem d_11_15_24 : decode prog_11_method_15_code 24 = .ok (.iload 4, 2) := by decide +kernel
theorem d_11_15_26 : decode prog_11_method_15_code 26 = .ok (.aload_n 0, 1) := by decide +kernel
theorem d_11_15_27 : decode prog_11_method_15_code 27 = .ok (.getfield 40, 3) := by decide +kernel
theorem d_11_15_30 : decode prog_11_method_15_code 30 = .ok (.getfield 84, 3) := by decide +kernel
theorem d_11_15_33 : decode prog_11_method_15_code 33 = .ok (.if_icmp .ge 47, 3) := by decide +kernel
theorem d_11_15_36 : decode prog_11_method_15_code 36 = .ok (.iload_n 1, 1) := by decide +kernel
theorem d_11_15_37 : decode prog_11_method_15_code 37 = .ok (.iload 4, 2) := by decide +kernel
theorem d_11_15_39 : decode prog_11_method_15_code 39 = .ok (.invokestatic 90, 3) := by decide +kernel
theorem d_11_15_42 : decode prog_11_method_15_code 42 = .ok (.ifCond .eq 32, 3) := by decide +kernel
theorem d_11_15_45 : decode prog_11_method_15_code 45 = .ok (.aload_n 0, 1) := by decide +kernel
theorem d_11_15_46 : decode prog_11_method_15_code 46 = .ok (.iload_n 1, 1) := by decide +kernel
theorem d_11_15_47 : decode prog_11_method_15_code 47 = .ok (.iload 4, 2) := by decide +kernel
theorem d_11_15_49 : decode prog_11_method_15_code 49 = .ok (.invokevirtual 129, 3) := by decide +kernel
theorem d_11_15_52 : decode prog_11_method_15_code 52 = .ok (.lstore 5, 2) := by decide +kernel
theorem d_11_15_54 : decode prog_11_method_15_code 54 = .ok (.lload_n 2, 1) := by decide +kernel
theorem d_11_15_55 : decode prog_11_method_15_code 55 = .ok (.ldc2_w 127, 3) := by decide +kernel
theorem d_11_15_58 : decode prog_11_method_15_code 58 = .ok (.lcmp, 1) := by decide +kernel
theorem d_11_15_59 : decode prog_11_method_15_code 59 = .ok (.ifCond .ne 8, 3) := by decide +kernel
theorem d_11_15_62 : decode prog_11_method_15_code 62 = .ok (.lload 5, 2) := by decide +kernel
theorem d_11_15_64 : decode prog_11_method_15_code 64 = .ok (.goto 9, 3) := by decide +kernel
theorem d_11_15_67 : decode prog_11_method_15_code 67 = .ok (.lload_n 2, 1) := by decide +kernel
theorem d_11_15_68 : decode prog_11_method_15_code 68 = .ok (.lload 5, 2) := by decide +kernel
theorem d_11_15_70 : decode prog_11_method_15_code 70 = .ok (.invokestatic 133, 3) := by decide +kernel
theorem d_11_15_73 : decode prog_11_method_15_code 73 = .ok (.lstore_n 2, 1) := by decide +kernel
theorem d_11_15_74 : decode prog_11_method_15_code 74 = .ok (.iinc 4 1, 3) := by decide +kernel
theorem d_11_15_77 : decode prog_11_method_15_code 77 = .ok (.goto (-53), 3) := by decide +kernel
theorem d_11_15_80 : decode prog_11_method_15_code 80 = .ok (.aload_n 0, 1) := by decide +kernel
theorem d_11_15_81 : decode prog_11_method_15_code 81 = .ok (.getfield 37, 3) := by decide +kernel
theorem d_11_15_84 : decode prog_11_method_15_code 84 = .ok (.iload_n 1, 1) := by decide +kernel
theorem d_11_15_85 : decode prog_11_method_15_code 85 = .ok (.lload_n 2, 1) := by decide +kernel
theorem d_11_15_86 : decode prog_11_method_15_code 86 = .ok (.lastore, 1) := by decide +kernel
theorem d_11_15_87 : decode prog_11_method_15_code 87 = .ok (.iinc 1 1, 3) := by decide +kernel
theorem d_11_15_90 : decode prog_11_method_15_code 90 = .ok (.goto (-81), 3) := by decide +kernel
theorem d_11_15_93 : decode prog_11_method_15_code 93 = .ok (.return_, 1) := by decide +kernel
theorem d_11_16_0 : decode prog_11_method_16_code 0 = .ok (.iload_n 1, 1) := by decide +kernel
theorem d_11_16_1 : decode prog_11_method_16_code 1 = .ok (.iconst 1, 1) := by decide +kernel
theorem d_11_16_2 : decode prog_11_method_16_code 2 = .ok (.iload_n 2, 1) := by decide +kernel
theorem d_11_16_3 : decode prog_11_method_16_code 3 = .ok (.ishl, 1) := by decide +kernel
theorem d_11_16_4 : decode prog_11_method_16_code 4 = .ok (.iconst (-1), 1) := by decide +kernel
theorem d_11_16_5 : decode prog_11_method_16_code 5 = .ok (.ixor, 1) := by decide +kernel
theorem d_11_16_6 : decode prog_11_method_16_code 6 = .ok (.iand, 1) := by decide +kernel
theorem d_11_16_7 : decode prog_11_method_16_code 7 = .ok (.istore_n 3, 1) := by decide +kernel
theorem d_11_16_8 : decode prog_11_method_16_code 8 = .ok (.aload_n 0, 1) := by decide +kernel
theorem d_11_16_9 : decode prog_11_method_16_code 9 = .ok (.getfield 37, 3) := by decide +kernel
theorem d_11_16_12 : decode prog_11_method_16_code 12 = .ok (.iload_n 3, 1) := by decide +kernel
theorem d_11_16_13 : decode prog_11_method_16_code 13 = .ok (.laload, 1) := by decide +kernel
theorem d_11_16_14 : decode prog_11_method_16_code 14 = .ok (.lstore 4, 2) := by decide +kernel
theorem d_11_16_16 : decode prog_11_method_16_code 16 = .ok (.iconst 0, 1) := by decide +kernel
theorem d_11_16_17 : decode prog_11_method_16_code 17 = .ok (.istore 6, 2) := by decide +kernel
theorem d_11_16_19 : decode prog_11_method_16_code 19 = .ok (.iload 6, 2) := by decide +kernel
theorem d_11_16_21 : decode prog_11_method_16_code 21 = .ok (.aload_n 0, 1) := by decide +kernel
theorem d_11_16_22 : decode prog_11_method_16_code 22 = .ok (.getfield 40, 3) := by decide +kernel
theorem d_11_16_25 : decode prog_11_method_16_code 25 = .ok (.getfield 84, 3) := by decide +kernel
theorem d_11_16_28 : decode prog_11_method_16_code 28 = .ok (.if_icmp .ge 31, 3) := by decide +kernel
theorem d_11_16_31 : decode prog_11_method_16_code 31 = .ok (.iload_n 3, 1) := by decide +kernel
theorem d_11_16_32 : decode prog_11_method_16_code 32 = .ok (.iload 6, 2) := by decide +kernel
theorem d_11_16_34 : decode prog_11_method_16_code 34 = .ok (.invokestatic 90, 3) := by decide +kernel
theorem d_11_16_37 : decode prog_11_method_16_code 37 = .ok (.ifCond .eq 16, 3) := by decide +kernel
theorem d_11_16_40 : decode prog_11_method_16_code 40 = .ok (.lload 4, 2) := by decide +kernel
theorem d_11_16_42 : decode prog_11_method_16_code 42 = .ok (.aload_n 0, 1) := by decide +kernel
theorem d_11_16_43 : decode prog_11_method_16_code 43 = .ok (.iload 6, 2) := by decide +kernel
theorem d_11_16_45 : decode prog_11_method_16_code 45 = .ok (.iload_n 2, 1) := by decide +kernel
theorem d_11_16_46 : decode prog_11_method_16_code 46 = .ok (.invokevirtual 94, 3) := by decide +kernel
theorem d_11_16_49 : decode prog_11_method_16_code 49 = .ok (.i2l, 1) := by decide +kernel
theorem d_11_16_50 : decode prog_11_method_16_code 50 = .ok (.ladd, 1) := by decide +kernel
theorem d_11_16_51 : decode prog_11_method_16_code 51 = .ok (.lstore 4, 2) := by decide +kernel
theorem d_11_16_53 : decode prog_11_method_16_code 53 = .ok (.iinc 6 1, 3) := by decide +kernel
theorem d_11_16_56 : decode prog_11_method_16_code 56 = .ok (.goto (-37), 3) := by decide +kernel
theorem d_11_16_59 : decode prog_11_method_16_code 59 = .ok (.lload 4, 2) := by decide +kernel
theorem d_11_16_61 : decode prog_11_method_16_code 61 = .ok (.lreturn, 1) := by decide +kernel
theorem d_11_17_0 : decode prog_11_method_17_code 0 = .ok (.aload_n 0, 1) := by decide +kernel
theorem d_11_17_1 : decode prog_11_method_17_code 1 = .ok (.getfield 44, 3) := by decide +kernel
theorem d_11_17_4 : decode prog_11_method_17_code 4 = .ok (.istore_n 2, 1) := by decide +kernel
theorem d_11_17_5 : decode prog_11_method_17_code 5 = .ok (.iconst (-1), 1) := by decide +kernel
theorem d_11_17_6 : decode prog_11_method_17_code 6 = .ok (.istore_n 3, 1) := by decide +kernel
theorem d_11_17_7 : decode prog_11_method_17_code 7 = .ok (.iconst 0, 1) := by decide +kernel
theorem d_11_17_8 : decode prog_11_method_17_code 8 = .ok (.istore 4, 2) := by decide +kernel
theorem d_11_17_10 : decode prog_11_method_17_code 10 = .ok (.iload 4, 2) := by decide +kernel
theorem d_11_17_12 : decode prog_11_method_17_code 12 = .ok (.iload_n 1, 1) := by decide +kernel
theorem d_11_17_13 : decode prog_11_method_17_code 13 = .ok (.if_icmp .gt 27, 3) := by decide +kernel
theorem d_11_17_16 : decode prog_11_method_17_code 16 = .ok (.iload_n 2, 1) := by decide +kernel
theorem d_11_17_17 : decode prog_11_method_17_code 17 = .ok (.ifCond .eq 23, 3) := by decide +kernel
theorem d_11_17_20 : decode prog_11_method_17_code 20 = .ok (.aload_n 0, 1) := by decide +kernel
theorem d_11_17_21 : decode prog_11_method_17_code 21 = .ok (.iload_n 2, 1) := by decide +kernel
theorem d_11_17_22 : decode prog_11_method_17_code 22 = .ok (.invokevirtual 136, 3) := by decide +kernel
theorem d_11_17_25 : decode prog_11_method_17_code 25 = .ok (.istore_n 3, 1) := by decide +kernel
theorem d_11_17_26 : decode prog_11_method_17_code 26 = .ok (.iload_n 2, 1) := by decide +kernel
theorem d_11_17_27 : decode prog_11_method_17_code 27 = .ok (.iconst 1, 1) := by decide +kernel
theorem d_11_17_28 : decode prog_11_method_17_code 28 = .ok (.iload_n 3, 1) := by decide +kernel
theorem d_11_17_29 : decode prog_11_method_17_code 29 = .ok (.ishl, 1) := by decide +kernel
theorem d_11_17_30 : decode prog_11_method_17_code 30 = .ok (.iconst (-1), 1) := by decide +kernel
theorem d_11_17_31 : decode prog_11_method_17_code 31 = .ok (.ixor, 1) := by decide +kernel
theorem d_11_17_32 : decode prog_11_method_17_code 32 = .ok (.iand, 1) := by decide +kernel
theorem d_11_17_33 : decode prog_11_method_17_code 33 = .ok (.istore_n 2, 1) := by decide +kernel
theorem d_11_17_34 : decode prog_11_method_17_code 34 = .ok (.iinc 4 1, 3) := by decide +kernel
theorem d_11_17_37 : decode prog_11_method_17_code 37 = .ok (.goto (-27), 3) := by decide +kernel
theorem d_11_17_40 : decode prog_11_method_17_code 40 = .ok (.iload_n 3, 1) := by decide +kernel
theorem d_11_17_41 : decode prog_11_method_17_code 41 = .ok (.ireturn, 1) := by decide +kernel
theorem d_11_18_0 : decode prog_11_method_18_code 0 = .ok (.iconst 0, 1) := by decide +kernel
theorem d_11_18_1 : decode prog_11_method_18_code 1 = .ok (.istore_n 2, 1) := by decide +kernel
theorem d_11_18_2 : decode prog_11_method_18_code 2 = .ok (.iload_n 2, 1) := by decide +kernel
theorem d_11_18_3 : decode prog_11_method_18_code 3 = .ok (.aload_n 0, 1) := by decide +kernel
theorem d_11_18_4 : decode prog_11_method_18_code 4 = .ok (.getfield 40, 3) := by decide +kernel
theorem d_11_18_7 : decode prog_11_method_18_code 7 = .ok (.getfield 84, 3) := by decide +kernel
theorem d_11_18_10 : decode prog_11_method_18_code 10 = .ok (.if_icmp .ge 35, 3) := by decide +kernel
theorem d_11_18_13 : decode prog_11_method_18_code 13 = .ok (.iload_n 1, 1) := by decide +kernel
theorem d_11_18_14 : decode prog_11_method_18_code 14 = .ok (.iload_n 2, 1) := by decide +kernel
theorem d_11_18_15 : decode prog_11_method_18_code 15 = .ok (.invokestatic 90, 3) := by decide +kernel
theorem d_11_18_18 : decode prog_11_method_18_code 18 = .ok (.ifCond .eq 21, 3) := by decide +kernel
theorem d_11_18_21 : decode prog_11_method_18_code 21 = .ok (.aload_n 0, 1) := by decide +kernel
theorem d_11_18_22 : decode prog_11_method_18_code 22 = .ok (.iload_n 1, 1) := by decide +kernel
theorem d_11_18_23 : decode prog_11_method_18_code 23 = .ok (.iload_n 2, 1) := by decide +kernel
theorem d_11_18_24 : decode prog_11_method_18_code 24 = .ok (.invokevirtual 129, 3) := by decide +kernel
theorem d_11_18_27 : decode prog_11_method_18_code 27 = .ok (.aload_n 0, 1) := by decide +kernel
theorem d_11_18_28 : decode prog_11_method_18_code 28 = .ok (.getfield 37, 3) := by decide +kernel
theorem d_11_18_31 : decode prog_11_method_18_code 31 = .ok (.iload_n 1, 1) := by decide +kernel
theorem d_11_18_32 : decode prog_11_method_18_code 32 = .ok (.laload, 1) := by decide +kernel
theorem d_11_18_33 : decode prog_11_method_18_code 33 = .ok (.lcmp, 1) := by decide +kernel
theorem d_11_18_34 : decode prog_11_method_18_code 34 = .ok (.ifCond .ne 5, 3) := by decide +kernel
theorem d_11_18_37 : decode prog_11_method_18_code 37 = .ok (.iload_n 2, 1) := by decide +kernel
theorem d_11_18_38 : decode prog_11_method_18_code 38 = .ok (.ireturn, 1) := by decide +kernel
theorem d_11_18_39 : decode prog_11_method_18_code 39 = .ok (.iinc 2 1, 3) := by decide +kernel
theorem d_11_18_42 : decode prog_11_method_18_code 42 = .ok (.goto (-40), 3) := by decide +kernel
theorem d_11_18_45 : decode prog_11_method_18_code 45 = .ok (.iconst 0, 1) := by decide +kernel
theorem d_11_18_46 : decode prog_11_method_18_code 46 = .ok (.ireturn, 1) := by decide +kernel
theorem d_11_19_0 : decode prog_11_method_19_code 0 = .ok (.aload_n 0, 1) := by decide +kernel
theorem d_11_19_1 : decode prog_11_method_19_code 1 = .ok (.getfield 44, 3) := by decide +kernel
theorem d_11_19_4 : decode prog_11_method_19_code 4 = .ok (.ifCond .ne 5, 3) := by decide +kernel
theorem d_11_19_7 : decode prog_11_method_19_code 7 = .ok (.iconst (-1), 1) := by decide +kernel
theorem d_11_19_8 : decode prog_11_method_19_code 8 = .ok (.ireturn, 1) := by decide +kernel
theorem d_11_19_9 : decode prog_11_method_19_code 9 = .ok (.iload_n 1, 1) := by decide +kernel
theorem d_11_19_10 : decode prog_11_method_19_code 10 = .ok (.iconst 1, 1) := by decide +kernel
theorem d_11_19_11 : decode prog_11_method_19_code 11 = .ok (.if_icmp .ne 8, 3) := by decide +kernel
theorem d_11_19_14 : decode prog_11_method_19_code 14 = .ok (.aload_n 0, 1) := by decide +kernel
theorem d_11_19_15 : decode prog_11_method_19_code 15 = .ok (.invokevirtual 139, 3) := by decide +kernel
theorem d_11_19_18 : decode prog_11_method_19_code 18 = .ok (.ireturn, 1) := by decide +kernel
theorem d_11_19_19 : decode prog_11_method_19_code 19 = .ok (.iload_n 1, 1) := by decide +kernel
theorem d_11_19_20 : decode prog_11_method_19_code 20 = .ok (.iconst 2, 1) := by decide +kernel
theorem d_11_19_21 : decode prog_11_method_19_code 21 = .ok (.if_icmp .ne 12, 3) := by decide +kernel
theorem d_11_19_24 : decode prog_11_method_19_code 24 = .ok (.aload_n 0, 1) := by decide +kernel
theorem d_11_19_25 : decode prog_11_method_19_code 25 = .ok (.aload_n 0, 1) := by decide +kernel
theorem d_11_19_26 : decode prog_11_method_19_code 26 = .ok (.invokevirtual 143, 3) := by decide +kernel
theorem d_11_19_29 : decode prog_11_method_19_code 29 = .ok (.invokevirtual 146, 3) := by decide +kernel
theorem d_11_19_32 : decode prog_11_method_19_code 32 = .ok (.ireturn, 1) := by decide +kernel
theorem d_11_19_33 : decode prog_11_method_19_code 33 = .ok (.aload_n 0, 1) := by decide +kernel
theorem d_11_19_34 : decode prog_11_method_19_code 34 = .ok (.iload_n 1, 1) := by decide +kernel
theorem d_11_19_35 : decode prog_11_method_19_code 35 = .ok (.invokevirtual 149, 3) := by decide +kernel
theorem d_11_19_38 : decode prog_11_method_19_code 38 = .ok (.aload_n 0, 1) := by decide +kernel
theorem d_11_19_39 : decode prog_11_method_19_code 39 = .ok (.aload_n 0, 1) := by decide +kernel
theorem d_11_19_40 : decode prog_11_method_19_code 40 = .ok (.getfield 44, 3) := by decide +kernel
theorem d_11_19_43 : decode prog_11_method_19_code 43 = .ok (.invokevirtual 153, 3) := by decide +kernel
theorem d_11_19_46 : decode prog_11_method_19_code 46 = .ok (.ireturn, 1) := by decide +kernel
theorem d_11_20_0 : decode prog_11_method_20_code 0 = .ok (.iconst 0, 1) := by decide +kernel
theorem d_11_20_1 : decode prog_11_method_20_code 1 = .ok (.istore_n 2, 1) := by decide +kernel
theorem d_11_20_2 : decode prog_11_method_20_code 2 = .ok (.iload_n 2, 1) := by decide +kernel
theorem d_11_20_3 : decode prog_11_method_20_code 3 = .ok (.aload_n 0, 1) := by decide +kernel
theorem d_11_20_4 : decode prog_11_method_20_code 4 = .ok (.getfield 40, 3) := by decide +kernel
theorem d_11_20_7 : decode prog_11_method_20_code 7 = .ok (.getfield 84, 3) := by decide +kernel
theorem d_11_20_10 : decode prog_11_method_20_code 10 = .ok (.if_icmp .ge 56, 3) := by decide +kernel
theorem d_11_20_13 : decode prog_11_method_20_code 13 = .ok (.iload_n 1, 1) := by decide +kernel
theorem d_11_20_14 : decode prog_11_method_20_code 14 = .ok (.iconst 3, 1) := by decide +kernel
theorem d_11_20_15 : decode prog_11_method_20_code 15 = .ok (.if_icmp .ne 17, 3) := by decide +kernel
theorem d_11_20_18 : decode prog_11_method_20_code 18 = .ok (.aload_n 0, 1) := by decide +kernel
theorem d_11_20_19 : decode prog_11_method_20_code 19 = .ok (.getfield 30, 3) := by decide +kernel
theorem d_11_20_22 : decode prog_11_method_20_code 22 = .ok (.iload_n 2, 1) := by decide +kernel
theorem d_11_20_23 : decode prog_11_method_20_code 23 = .ok (.aload_n 0, 1) := by decide +kernel
theorem d_11_20_24 : decode prog_11_method_20_code 24 = .ok (.iload_n 2, 1) := by decide +kernel
theorem d_11_20_25 : decode prog_11_method_20_code 25 = .ok (.invokevirtual 156, 3) := by decide +kernel
theorem d_11_20_28 : decode prog_11_method_20_code 28 = .ok (.lastore, 1) := by decide +kernel
theorem d_11_20_29 : decode prog_11_method_20_code 29 = .ok (.goto 31, 3) := by decide +kernel
theorem d_11_20_32 : decode prog_11_method_20_code 32 = .ok (.aload_n 0, 1) := by decide +kernel
theorem d_11_20_33 : decode prog_11_method_20_code 33 = .ok (.getfield 30, 3) := by decide +kernel
theorem d_11_20_36 : decode prog_11_method_20_code 36 = .ok (.iload_n 2, 1) := by decide +kernel
theorem d_11_20_37 : decode prog_11_method_20_code 37 = .ok (.iload_n 1, 1) := by decide +kernel
theorem d_11_20_38 : decode prog_11_method_20_code 38 = .ok (.iconst 4, 1) := by decide +kernel
theorem d_11_20_39 : decode prog_11_method_20_code 39 = .ok (.if_icmp .ne 13, 3) := by decide +kernel
theorem d_11_20_42 : decode prog_11_method_20_code 42 = .ok (.aload_n 0, 1) := by decide +kernel
theorem d_11_20_43 : decode prog_11_method_20_code 43 = .ok (.getfield 18, 3) := by decide +kernel
theorem d_11_20_46 : decode prog_11_method_20_code 46 = .ok (.iload_n 2, 1) := by decide +kernel
theorem d_11_20_47 : decode prog_11_method_20_code 47 = .ok (.iaload, 1) := by decide +kernel
theorem d_11_20_48 : decode prog_11_method_20_code 48 = .ok (.i2l, 1) := by decide +kernel
theorem d_11_20_49 : decode prog_11_method_20_code 49 = .ok (.goto 10, 3) := by decide +kernel
theorem d_11_20_52 : decode prog_11_method_20_code 52 = .ok (.aload_n 0, 1) := by decide +kernel
theorem d_11_20_53 : decode prog_11_method_20_code 53 = .ok (.getfield 15, 3) := by decide +kernel
theorem d_11_20_56 : decode prog_11_method_20_code 56 = .ok (.iload_n 2, 1) := by decide +kernel
theorem d_11_20_57 : decode prog_11_method_20_code 57 = .ok (.iaload, 1) := by decide +kernel
theorem d_11_20_58 : decode prog_11_method_20_code 58 = .ok (.i2l, 1) := by decide +kernel
theorem d_11_20_59 : decode prog_11_method_20_code 59 = .ok (.lastore, 1) := by decide +kernel
theorem d_11_20_60 : decode prog_11_method_20_code 60 = .ok (.iinc 2 1, 3) := by decide +kernel
theorem d_11_20_63 : decode prog_11_method_20_code 63 = .ok (.goto (-61), 3) := by decide +kernel
theorem d_11_20_66 : decode prog_11_method_20_code 66 = .ok (.return_, 1) := by decide +kernel
theorem d_11_21_0 : decode prog_11_method_21_code 0 = .ok (.lconst 0, 1) := by decide +kernel
theorem d_11_21_1 : decode prog_11_method_21_code 1 = .ok (.lstore_n 2, 1) := by decide +kernel
theorem d_11_21_2 : decode prog_11_method_21_code 2 = .ok (.iconst 0, 1) := by decide +kernel
theorem d_11_21_3 : decode prog_11_method_21_code 3 = .ok (.istore 4, 2) := by decide +kernel
theorem d_11_21_5 : decode prog_11_method_21_code 5 = .ok (.iload 4, 2) := by decide +kernel
theorem d_11_21_7 : decode prog_11_method_21_code 7 = .ok (.aload_n 0, 1) := by decide +kernel
theorem d_11_21_8 : decode prog_11_method_21_code 8 = .ok (.getfield 40, 3) := by decide +kernel
theorem d_11_21_11 : decode prog_11_method_21_code 11 = .ok (.getfield 84, 3) := by decide +kernel
theorem d_11_21_14 : decode prog_11_method_21_code 14 = .ok (.if_icmp .ge 51, 3) := by decide +kernel
theorem d_11_21_17 : decode prog_11_method_21_code 17 = .ok (.iload 4, 2) := by decide +kernel
theorem d_11_21_19 : decode prog_11_method_21_code 19 = .ok (.iload_n 1, 1) := by decide +kernel
theorem d_11_21_20 : decode prog_11_method_21_code 20 = .ok (.if_icmp .eq 39, 3) := by decide +kernel
theorem d_11_21_23 : decode prog_11_method_21_code 23 = .ok (.aload_n 0, 1) := by decide +kernel
theorem d_11_21_24 : decode prog_11_method_21_code 24 = .ok (.getfield 44, 3) := by decide +kernel
theorem d_11_21_27 : decode prog_11_method_21_code 27 = .ok (.iload 4, 2) := by decide +kernel
theorem d_11_21_29 : decode prog_11_method_21_code 29 = .ok (.invokestatic 90, 3) := by decide +kernel
theorem d_11_21_32 : decode prog_11_method_21_code 32 = .ok (.ifCond .eq 27, 3) := by decide +kernel
theorem d_11_21_35 : decode prog_11_method_21_code 35 = .ok (.lload_n 2, 1) := by decide +kernel
theorem d_11_21_36 : decode prog_11_method_21_code 36 = .ok (.aload_n 0, 1) := by decide +kernel
theorem d_11_21_37 : decode prog_11_method_21_code 37 = .ok (.getfield 48, 3) := by decide +kernel
theorem d_11_21_40 : decode prog_11_method_21_code 40 = .ok (.aload_n 0, 1) := by decide +kernel
theorem d_11_21_41 : decode prog_11_method_21_code 41 = .ok (.iload_n 1, 1) := by decide +kernel
theorem d_11_21_42 : decode prog_11_method_21_code 42 = .ok (.iload 4, 2) := by decide +kernel
theorem d_11_21_44 : decode prog_11_method_21_code 44 = .ok (.invokevirtual 94, 3) := by decide +kernel
theorem d_11_21_47 : decode prog_11_method_21_code 47 = .ok (.iadd, 1) := by decide +kernel
theorem d_11_21_48 : decode prog_11_method_21_code 48 = .ok (.aload_n 0, 1) := by decide +kernel
theorem d_11_21_49 : decode prog_11_method_21_code 49 = .ok (.iload 4, 2) := by decide +kernel
theorem d_11_21_51 : decode prog_11_method_21_code 51 = .ok (.iload_n 1, 1) := by decide +kernel
theorem d_11_21_52 : decode prog_11_method_21_code 52 = .ok (.invokevirtual 94, 3) := by decide +kernel
theorem d_11_21_55 : decode prog_11_method_21_code 55 = .ok (.isub, 1) := by decide +kernel
theorem d_11_21_56 : decode prog_11_method_21_code 56 = .ok (.i2l, 1) := by decide +kernel
theorem d_11_21_57 : decode prog_11_method_21_code 57 = .ok (.ladd, 1) := by decide +kernel
theorem d_11_21_58 : decode prog_11_method_21_code 58 = .ok (.lstore_n 2, 1) := by decide +kernel
theorem d_11_21_59 : decode prog_11_method_21_code 59 = .ok (.iinc 4 1, 3) := by decide +kernel
theorem d_11_21_62 : decode prog_11_method_21_code 62 = .ok (.goto (-57), 3) := by decide +kernel
theorem d_11_21_65 : decode prog_11_method_21_code 65 = .ok (.lload_n 2, 1) := by decide +kernel
theorem d_11_21_66 : decode prog_11_method_21_code 66 = .ok (.lreturn, 1) := by decide +kernel
theorem d_11_22_0 : decode prog_11_method_22_code 0 = .ok (.iconst (-1), 1) := by decide +kernel
theorem d_11_22_1 : decode prog_11_method_22_code 1 = .ok (.istore_n 2, 1) := by decide +kernel
theorem d_11_22_2 : decode prog_11_method_22_code 2 = .ok (.iconst 0, 1) := by decide +kernel
theorem d_11_22_3 : decode prog_11_method_22_code 3 = .ok (.istore_n 3, 1) := by decide +kernel
theorem d_11_22_4 : decode prog_11_method_22_code 4 = .ok (.iload_n 3, 1) := by decide +kernel
theorem d_11_22_5 : decode prog_11_method_22_code 5 = .ok (.aload_n 0, 1) := by decide +kernel
theorem d_11_22_6 : decode prog_11_method_22_code 6 = .ok (.getfield 40, 3) := by decide +kernel
theorem d_11_22_9 : decode prog_11_method_22_code 9 = .ok (.getfield 84, 3) := by decide +kernel
theorem d_11_22_12 : decode prog_11_method_22_code 12 = .ok (.if_icmp .ge 36, 3) := by decide +kernel
theorem d_11_22_15 : decode prog_11_method_22_code 15 = .ok (.iload_n 1, 1) := by decide +kernel
theorem d_11_22_16 : decode prog_11_method_22_code 16 = .ok (.iload_n 3, 1) := by decide +kernel
theorem d_11_22_17 : decode prog_11_method_22_code 17 = .ok (.invokestatic 90, 3) := by decide +kernel
theorem d_11_22_20 : decode prog_11_method_22_code 20 = .ok (.ifCond .eq 22, 3) := by decide +kernel
theorem d_11_22_23 : decode prog_11_method_22_code 23 = .ok (.iload_n 2, 1) := by decide +kernel
theorem d_11_22_24 : decode prog_11_method_22_code 24 = .ok (.iconst (-1), 1) := by decide +kernel
theorem d_11_22_25 : decode prog_11_method_22_code 25 = .ok (.if_icmp .eq 15, 3) := by decide +kernel
theorem d_11_22_28 : decode prog_11_method_22_code 28 = .ok (.aload_n 0, 1) := by decide +kernel
theorem d_11_22_29 : decode prog_11_method_22_code 29 = .ok (.getfield 40, 3) := by decide +kernel
theorem d_11_22_32 : decode prog_11_method_22_code 32 = .ok (.iload_n 3, 1) := by decide +kernel
theorem d_11_22_33 : decode prog_11_method_22_code 33 = .ok (.iload_n 2, 1) := by decide +kernel
theorem d_11_22_34 : decode prog_11_method_22_code 34 = .ok (.invokevirtual 160, 3) := by decide +kernel
theorem d_11_22_37 : decode prog_11_method_22_code 37 = .ok (.ifCond .eq 5, 3) := by decide +kernel
theorem d_11_22_40 : decode prog_11_method_22_code 40 = .ok (.iload_n 3, 1) := by decide +kernel
theorem d_11_22_41 : decode prog_11_method_22_code 41 = .ok (.istore_n 2, 1) := by decide +kernel
theorem d_11_22_42 : decode prog_11_method_22_code 42 = .ok (.iinc 3 1, 3) := by decide +kernel
theorem d_11_22_45 : decode prog_11_method_22_code 45 = .ok (.goto (-41), 3) := by decide +kernel
theorem d_11_22_48 : decode prog_11_method_22_code 48 = .ok (.iload_n 2, 1) := by decide +kernel
theorem d_11_22_49 : decode prog_11_method_22_code 49 = .ok (.ireturn, 1) := by decide +kernel
theorem d_11_23_0 : decode prog_11_method_23_code 0 = .ok (.iconst (-1), 1) := by decide +kernel
theorem d_11_23_1 : decode prog_11_method_23_code 1 = .ok (.istore_n 2, 1) := by decide +kernel
theorem d_11_23_2 : decode prog_11_method_23_code 2 = .ok (.iconst 0, 1) := by decide +kernel
theorem d_11_23_3 : decode prog_11_method_23_code 3 = .ok (.istore_n 3, 1) := by decide +kernel
theorem d_11_23_4 : decode prog_11_method_23_code 4 = .ok (.iload_n 3, 1) := by decide +kernel
theorem d_11_23_5 : decode prog_11_method_23_code 5 = .ok (.aload_n 0, 1) := by decide +kernel
theorem d_11_23_6 : decode prog_11_method_23_code 6 = .ok (.getfield 40, 3) := by decide +kernel
theorem d_11_23_9 : decode prog_11_method_23_code 9 = .ok (.getfield 84, 3) := by decide +kernel
theorem d_11_23_12 : decode prog_11_method_23_code 12 = .ok (.if_icmp .ge 68, 3) := by decide +kernel
theorem d_11_23_15 : decode prog_11_method_23_code 15 = .ok (.iload_n 1, 1) := by decide +kernel
theorem d_11_23_16 : decode prog_11_method_23_code 16 = .ok (.iload_n 3, 1) := by decide +kernel
theorem d_11_23_17 : decode prog_11_method_23_code 17 = .ok (.invokestatic 90, 3) := by decide +kernel
theorem d_11_23_20 : decode prog_11_method_23_code 20 = .ok (.ifCond .eq 54, 3) := by decide +kernel
theorem d_11_23_23 : decode prog_11_method_23_code 23 = .ok (.iload_n 2, 1) := by decide +kernel
theorem d_11_23_24 : decode prog_11_method_23_code 24 = .ok (.iconst (-1), 1) := by decide +kernel
theorem d_11_23_25 : decode prog_11_method_23_code 25 = .ok (.if_icmp .eq 47, 3) := by decide +kernel
theorem d_11_23_28 : decode prog_11_method_23_code 28 = .ok (.aload_n 0, 1) := by decide +kernel
theorem d_11_23_29 : decode prog_11_method_23_code 29 = .ok (.getfield 30, 3) := by decide +kernel
theorem d_11_23_32 : decode prog_11_method_23_code 32 = .ok (.iload_n 3, 1) := by decide +kernel
theorem d_11_23_33 : decode prog_11_method_23_code 33 = .ok (.laload, 1) := by decide +kernel
theorem d_11_23_34 : decode prog_11_method_23_code 34 = .ok (.aload_n 0, 1) := by decide +kernel
theorem d_11_23_35 : decode prog_11_method_23_code 35 = .ok (.getfield 30, 3) := by decide +kernel
theorem d_11_23_38 : decode prog_11_method_23_code 38 = .ok (.iload_n 2, 1) := by decide +kernel
theorem d_11_23_39 : decode prog_11_method_23_code 39 = .ok (.laload, 1) := by decide +kernel
theorem d_11_23_40 : decode prog_11_method_23_code 40 = .ok (.lcmp, 1) := by decide +kernel
theorem d_11_23_41 : decode prog_11_method_23_code 41 = .ok (.ifCond .gt 31, 3) := by decide +kernel
theorem d_11_23_44 : decode prog_11_method_23_code 44 = .ok (.aload_n 0, 1) := by decide +kernel
theorem d_11_23_45 : decode prog_11_method_23_code 45 = .ok (.getfield 30, 3) := by decide +kernel
theorem d_11_23_48 : decode prog_11_method_23_code 48 = .ok (.iload_n 3, 1) := by decide +kernel
theorem d_11_23_49 : decode prog_11_method_23_code 49 = .ok (.laload, 1) := by decide +kernel
theorem d_11_23_50 : decode prog_11_method_23_code 50 = .ok (.aload_n 0, 1) := by decide +kernel
theorem d_11_23_51 : decode prog_11_method_23_code 51 = .ok (.getfield 30, 3) := by decide +kernel
theorem d_11_23_54 : decode prog_11_method_23_code 54 = .ok (.iload_n 2, 1) := by decide +kernel
theorem d_11_23_55 : decode prog_11_method_23_code 55 = .ok (.laload, 1) := by decide +kernel
theorem d_11_23_56 : decode prog_11_method_23_code 56 = .ok (.lcmp, 1) := by decide +kernel
theorem d_11_23_57 : decode prog_11_method_23_code 57 = .ok (.ifCond .ne 17, 3) := by decide +kernel
theorem d_11_23_60 : decode prog_11_method_23_code 60 = .ok (.aload_n 0, 1) := by decide +kernel
theorem d_11_23_61 : decode prog_11_method_23_code 61 = .ok (.getfield 40, 3) := by decide +kernel
theorem d_11_23_64 : decode prog_11_method_23_code 64 = .ok (.iload_n 3, 1) := by decide +kernel
theorem d_11_23_65 : decode prog_11_method_23_code 65 = .ok (.iload_n 2, 1) := by decide +kernel
theorem d_11_23_66 : decode prog_11_method_23_code 66 = .ok (.invokevirtual 160, 3) := by decide +kernel
theorem d_11_23_69 : decode prog_11_method_23_code 69 = .ok (.ifCond .eq 5, 3) := by decide +kernel
theorem d_11_23_72 : decode prog_11_method_23_code 72 = .ok (.iload_n 3, 1) := by decide +kernel
theorem d_11_23_73 : decode prog_11_method_23_code 73 = .ok (.istore_n 2, 1) := by decide +kernel
theorem d_11_23_74 : decode prog_11_method_23_code 74 = .ok (.iinc 3 1, 3) := by decide +kernel
theorem d_11_23_77 : decode prog_11_method_23_code 77 = .ok (.goto (-73), 3) := by decide +kernel
theorem d_11_23_80 : decode prog_11_method_23_code 80 = .ok (.iload_n 2, 1) := by decide +kernel
theorem d_11_23_81 : decode prog_11_method_23_code 81 = .ok (.ireturn, 1) := by decide +kernel
theorem d_11_24_0 : decode prog_11_method_24_code 0 = .ok (.iconst (-1), 1) := by decide +kernel
theorem d_11_24_1 : decode prog_11_method_24_code 1 = .ok (.istore_n 2, 1) := by decide +kernel
theorem d_11_24_2 : decode prog_11_method_24_code 2 = .ok (.iconst 0, 1) := by decide +kernel
theorem d_11_24_3 : decode prog_11_method_24_code 3 = .ok (.istore_n 3, 1) := by decide +kernel
theorem d_11_24_4 : decode prog_11_method_24_code 4 = .ok (.iload_n 3, 1) := by decide +kernel
theorem d_11_24_5 : decode prog_11_method_24_code 5 = .ok (.aload_n 0, 1) := by decide +kernel
theorem d_11_24_6 : decode prog_11_method_24_code 6 = .ok (.getfield 40, 3) := by decide +kernel
theorem d_11_24_9 : decode prog_11_method_24_code 9 = .ok (.getfield 84, 3) := by decide +kernel
theorem d_11_24_12 : decode prog_11_method_24_code 12 = .ok (.if_icmp .ge 68, 3) := by decide +kernel
theorem d_11_24_15 : decode prog_11_method_24_code 15 = .ok (.iload_n 1, 1) := by decide +kernel
theorem d_11_24_16 : decode prog_11_method_24_code 16 = .ok (.iload_n 3, 1) := by decide +kernel
theorem d_11_24_17 : decode prog_11_method_24_code 17 = .ok (.invokestatic 90, 3) := by decide +kernel
theorem d_11_24_20 : decode prog_11_method_24_code 20 = .ok (.ifCond .eq 54, 3) := by decide +kernel
theorem d_11_24_23 : decode prog_11_method_24_code 23 = .ok (.iload_n 2, 1) := by decide +kernel
theorem d_11_24_24 : decode prog_11_method_24_code 24 = .ok (.iconst (-1), 1) := by decide +kernel
theorem d_11_24_25 : decode prog_11_method_24_code 25 = .ok (.if_icmp .eq 47, 3) := by decide +kernel
theorem d_11_24_28 : decode prog_11_method_24_code 28 = .ok (.aload_n 0, 1) := by decide +kernel
theorem d_11_24_29 : decode prog_11_method_24_code 29 = .ok (.getfield 30, 3) := by decide +kernel
theorem d_11_24_32 : decode prog_11_method_24_code 32 = .ok (.iload_n 3, 1) := by decide +kernel
theorem d_11_24_33 : decode prog_11_method_24_code 33 = .ok (.laload, 1) := by decide +kernel
theorem d_11_24_34 : decode prog_11_method_24_code 34 = .ok (.aload_n 0, 1) := by decide +kernel
theorem d_11_24_35 : decode prog_11_method_24_code 35 = .ok (.getfield 30, 3) := by decide +kernel
theorem d_11_24_38 : decode prog_11_method_24_code 38 = .ok (.iload_n 2, 1) := by decide +kernel
theorem d_11_24_39 : decode prog_11_method_24_code 39 = .ok (.laload, 1) := by decide +kernel
theorem d_11_24_40 : decode prog_11_method_24_code 40 = .ok (.lcmp, 1) := by decide +kernel
theorem d_11_24_41 : decode prog_11_method_24_code 41 = .ok (.ifCond .lt 31, 3) := by decide +kernel
theorem d_11_24_44 : decode prog_11_method_24_code 44 = .ok (.aload_n 0, 1) := by decide +kernel
theorem d_11_24_45 : decode prog_11_method_24_code 45 = .ok (.getfield 30, 3) := by decide +kernel
theorem d_11_24_48 : decode prog_11_method_24_code 48 = .ok (.iload_n 3, 1) := by decide +kernel
theorem d_11_24_49 : decode prog_11_method_24_code 49 = .ok (.laload, 1) := by decide +kernel
theorem d_11_24_50 : decode prog_11_method_24_code 50 = .ok (.aload_n 0, 1) := by decide +kernel
theorem d_11_24_51 : decode prog_11_method_24_code 51 = .ok (.getfield 30, 3) := by decide +kernel
theorem d_11_24_54 : decode prog_11_method_24_code 54 = .ok (.iload_n 2, 1) := by decide +kernel
theorem d_11_24_55 : decode prog_11_method_24_code 55 = .ok (.laload, 1) := by decide +kernel
theorem d_11_24_56 : decode prog_11_method_24_code 56 = .ok (.lcmp, 1) := by decide +kernel
theorem d_11_24_57 : decode prog_11_method_24_code 57 = .ok (.ifCond .ne 17, 3) := by decide +kernel
theorem d_11_24_60 : decode prog_11_method_24_code 60 = .ok (.aload_n 0, 1) := by decide +kernel
theorem d_11_24_61 : decode prog_11_method_24_code 61 = .ok (.getfield 40, 3) := by decide +kernel
theorem d_11_24_64 : decode prog_11_method_24_code 64 = .ok (.iload_n 2, 1) := by decide +kernel
theorem d_11_24_65 : decode prog_11_method_24_code 65 = .ok (.iload_n 3, 1) := by decide +kernel
theorem d_11_24_66 : decode prog_11_method_24_code 66 = .ok (.invokevirtual 160, 3) := by decide +kernel
theorem d_11_24_69 : decode prog_11_method_24_code 69 = .ok (.ifCond .eq 5, 3) := by decide +kernel
theorem d_11_24_72 : decode prog_11_method_24_code 72 = .ok (.iload_n 3, 1) := by decide +kernel
theorem d_11_24_73 : decode prog_11_method_24_code 73 = .ok (.istore_n 2, 1) := by decide +kernel
theorem d_11_24_74 : decode prog_11_method_24_code 74 = .ok (.iinc 3 1, 3) := by decide +kernel
theorem d_11_24_77 : decode prog_11_method_24_code 77 = .ok (.goto (-73), 3) := by decide +kernel
theorem d_11_24_80 : decode prog_11_method_24_code 80 = .ok (.iload_n 2, 1) := by decide +kernel
theorem d_11_24_81 : decode prog_11_method_24_code 81 = .ok (.ireturn, 1) := by decide +kernel
theorem d_11_25_0 : decode prog_11_method_25_code 0 = .ok (.aload_n 0, 1) := by decide +kernel
theorem d_11_25_1 : decode prog_11_method_25_code 1 = .ok (.getfield 44, 3) := by decide +kernel
theorem d_11_25_4 : decode prog_11_method_25_code 4 = .ok (.istore_n 1, 1) := by decide +kernel
theorem d_11_25_5 : decode prog_11_method_25_code 5 = .ok (.aload_n 0, 1) := by decide +kernel
theorem d_11_25_6 : decode prog_11_method_25_code 6 = .ok (.getfield 44, 3) := by decide +kernel
theorem d_11_25_9 : decode prog_11_method_25_code 9 = .ok (.invokestatic 103, 3) := by decide +kernel
theorem d_11_25_12 : decode prog_11_method_25_code 12 = .ok (.iconst 1, 1) := by decide +kernel
theorem d_11_25_13 : decode prog_11_method_25_code 13 = .ok (.isub, 1) := by decide +kernel
theorem d_11_25_14 : decode prog_11_method_25_code 14 = .ok (.istore_n 2, 1) := by decide +kernel
theorem d_11_25_15 : decode prog_11_method_25_code 15 = .ok (.iconst 0, 1) := by decide +kernel
theorem d_11_25_16 : decode prog_11_method_25_code 16 = .ok (.istore_n 3, 1) := by decide +kernel
theorem d_11_25_17 : decode prog_11_method_25_code 17 = .ok (.iload_n 3, 1) := by decide +kernel
theorem d_11_25_18 : decode prog_11_method_25_code 18 = .ok (.iload_n 2, 1) := by decide +kernel
theorem d_11_25_19 : decode prog_11_method_25_code 19 = .ok (.if_icmp .ge 38, 3) := by decide +kernel
theorem d_11_25_22 : decode prog_11_method_25_code 22 = .ok (.aload_n 0, 1) := by decide +kernel
theorem d_11_25_23 : decode prog_11_method_25_code 23 = .ok (.iload_n 1, 1) := by decide +kernel
theorem d_11_25_24 : decode prog_11_method_25_code 24 = .ok (.invokevirtual 163, 3) := by decide +kernel
theorem d_11_25_27 : decode prog_11_method_25_code 27 = .ok (.aload_n 0, 1) := by decide +kernel
theorem d_11_25_28 : decode prog_11_method_25_code 28 = .ok (.iload_n 1, 1) := by decide +kernel
theorem d_11_25_29 : decode prog_11_method_25_code 29 = .ok (.invokevirtual 166, 3) := by decide +kernel
theorem d_11_25_32 : decode prog_11_method_25_code 32 = .ok (.istore 4, 2) := by decide +kernel
theorem d_11_25_34 : decode prog_11_method_25_code 34 = .ok (.aload_n 0, 1) := by decide +kernel
theorem d_11_25_35 : decode prog_11_method_25_code 35 = .ok (.getfield 34, 3) := by decide +kernel
theorem d_11_25_38 : decode prog_11_method_25_code 38 = .ok (.iload_n 3, 1) := by decide +kernel
theorem d_11_25_39 : decode prog_11_method_25_code 39 = .ok (.iload 4, 2) := by decide +kernel
theorem d_11_25_41 : decode prog_11_method_25_code 41 = .ok (.iastore, 1) := by decide +kernel
theorem d_11_25_42 : decode prog_11_method_25_code 42 = .ok (.iload_n 1, 1) := by decide +kernel
theorem d_11_25_43 : decode prog_11_method_25_code 43 = .ok (.iconst 1, 1) := by decide +kernel
theorem d_11_25_44 : decode prog_11_method_25_code 44 = .ok (.iload 4, 2) := by decide +kernel
theorem d_11_25_46 : decode prog_11_method_25_code 46 = .ok (.ishl, 1) := by decide +kernel
theorem d_11_25_47 : decode prog_11_method_25_code 47 = .ok (.iconst (-1), 1) := by decide +kernel
theorem d_11_25_48 : decode prog_11_method_25_code 48 = .ok (.ixor, 1) := by decide +kernel
theorem d_11_25_49 : decode prog_11_method_25_code 49 = .ok (.iand, 1) := by decide +kernel
theorem d_11_25_50 : decode prog_11_method_25_code 50 = .ok (.istore_n 1, 1) := by decide +kernel
theorem d_11_25_51 : decode prog_11_method_25_code 51 = .ok (.iinc 3 1, 3) := by decide +kernel
theorem d_11_25_54 : decode prog_11_method_25_code 54 = .ok (.goto (-37), 3) := by decide +kernel
theorem d_11_25_57 : decode prog_11_method_25_code 57 = .ok (.aload_n 0, 1) := by decide +kernel
theorem d_11_25_58 : decode prog_11_method_25_code 58 = .ok (.iload_n 1, 1) := by decide +kernel
theorem d_11_25_59 : decode prog_11_method_25_code 59 = .ok (.invokevirtual 146, 3) := by decide +kernel
theorem d_11_25_62 : decode prog_11_method_25_code 62 = .ok (.ireturn, 1) := by decide +kernel
theorem d_11_26_0 : decode prog_11_method_26_code 0 = .ok (.aload_n 0, 1) := by decide +kernel
theorem d_11_26_1 : decode prog_11_method_26_code 1 = .ok (.getfield 30, 3) := by decide +kernel
theorem d_11_26_4 : decode prog_11_method_26_code 4 = .ok (.lconst 0, 1) := by decide +kernel
theorem d_11_26_5 : decode prog_11_method_26_code 5 = .ok (.invokestatic 169, 3) := by decide +kernel
theorem d_11_26_8 : decode prog_11_method_26_code 8 = .ok (.iconst 0, 1) := by decide +kernel
theorem d_11_26_9 : decode prog_11_method_26_code 9 = .ok (.istore_n 2, 1) := by decide +kernel
theorem d_11_26_10 : decode prog_11_method_26_code 10 = .ok (.iload_n 2, 1) := by decide +kernel
theorem d_11_26_11 : decode prog_11_method_26_code 11 = .ok (.bipush 31, 2) := by decide +kernel
theorem d_11_26_13 : decode prog_11_method_26_code 13 = .ok (.if_icmp .ge 53, 3) := by decide +kernel
theorem d_11_26_16 : decode prog_11_method_26_code 16 = .ok (.aload_n 0, 1) := by decide +kernel
theorem d_11_26_17 : decode prog_11_method_26_code 17 = .ok (.getfield 9, 3) := by decide +kernel
theorem d_11_26_20 : decode prog_11_method_26_code 20 = .ok (.iload_n 2, 1) := by decide +kernel
theorem d_11_26_21 : decode prog_11_method_26_code 21 = .ok (.iaload, 1) := by decide +kernel
theorem d_11_26_22 : decode prog_11_method_26_code 22 = .ok (.ifCond .ne 7, 3) := by decide +kernel
theorem d_11_26_25 : decode prog_11_method_26_code 25 = .ok (.iconst (-1), 1) := by decide +kernel
theorem d_11_26_26 : decode prog_11_method_26_code 26 = .ok (.goto 12, 3) := by decide +kernel
theorem d_11_26_29 : decode prog_11_method_26_code 29 = .ok (.aload_n 0, 1) := by decide +kernel
theorem d_11_26_30 : decode prog_11_method_26_code 30 = .ok (.getfield 40, 3) := by decide +kernel
theorem d_11_26_33 : decode prog_11_method_26_code 33 = .ok (.iload_n 2, 1) := by decide +kernel
theorem d_11_26_34 : decode prog_11_method_26_code 34 = .ok (.iload_n 1, 1) := by decide +kernel
theorem d_11_26_35 : decode prog_11_method_26_code 35 = .ok (.invokevirtual 69, 3) := by decide +kernel
theorem d_11_26_38 : decode prog_11_method_26_code 38 = .ok (.istore_n 3, 1) := by decide +kernel
theorem d_11_26_39 : decode prog_11_method_26_code 39 = .ok (.iload_n 3, 1) := by decide +kernel
theorem d_11_26_40 : decode prog_11_method_26_code 40 = .ok (.iconst (-1), 1) := by decide +kernel
theorem d_11_26_41 : decode prog_11_method_26_code 41 = .ok (.if_icmp .eq 19, 3) := by decide +kernel
theorem d_11_26_44 : decode prog_11_method_26_code 44 = .ok (.aload_n 0, 1) := by decide +kernel
theorem d_11_26_45 : decode prog_11_method_26_code 45 = .ok (.getfield 30, 3) := by decide +kernel
theorem d_11_26_48 : decode prog_11_method_26_code 48 = .ok (.iload_n 3, 1) := by decide +kernel
theorem d_11_26_49 : decode prog_11_method_26_code 49 = .ok (.dup2, 1) := by decide +kernel
theorem d_11_26_50 : decode prog_11_method_26_code 50 = .ok (.laload, 1) := by decide +kernel
theorem d_11_26_51 : decode prog_11_method_26_code 51 = .ok (.aload_n 0, 1) := by decide +kernel
theorem d_11_26_52 : decode prog_11_method_26_code 52 = .ok (.getfield 9, 3) := by decide +kernel
theorem d_11_26_55 : decode prog_11_method_26_code 55 = .ok (.iload_n 2, 1) := by decide +kernel
theorem d_11_26_56 : decode prog_11_method_26_code 56 = .ok (.iaload, 1) := by decide +kernel
theorem d_11_26_57 : decode prog_11_method_26_code 57 = .ok (.i2l, 1) := by decide +kernel
theorem d_11_26_58 : decode prog_11_method_26_code 58 = .ok (.ladd, 1) := by decide +kernel
theorem d_11_26_59 : decode prog_11_method_26_code 59 = .ok (.lastore, 1) := by decide +kernel
theorem d_11_26_60 : decode prog_11_method_26_code 60 = .ok (.iinc 2 1, 3) := by decide +kernel
theorem d_11_26_63 : decode prog_11_method_26_code 63 = .ok (.goto (-53), 3) := by decide +kernel
theorem d_11_26_66 : decode prog_11_method_26_code 66 = .ok (.return_, 1) := by decide +kernel
theorem d_11_2_0 : decode prog_11_method_2_code 0 = .ok (.aload_n 0, 1) := by decide +kernel
theorem d_11_2_1 : decode prog_11_method_2_code 1 = .ok (.iload_n 1, 1) := by decide +kernel
theorem d_11_2_2 : decode prog_11_method_2_code 2 = .ok (.putfield 44, 3) := by decide +kernel
theorem d_11_2_5 : decode prog_11_method_2_code 5 = .ok (.aload_n 0, 1) := by decide +kernel
theorem d_11_2_6 : decode prog_11_method_2_code 6 = .ok (.iconst 0, 1) := by decide +kernel
theorem d_11_2_7 : decode prog_11_method_2_code 7 = .ok (.putfield 48, 3) := by decide +kernel
theorem d_11_2_10 : decode prog_11_method_2_code 10 = .ok (.aload_n 0, 1) := by decide +kernel
theorem d_11_2_11 : decode prog_11_method_2_code 11 = .ok (.getfield 9, 3) := by decide +kernel
theorem d_11_2_14 : decode prog_11_method_2_code 14 = .ok (.iconst 0, 1) := by decide +kernel
theorem d_11_2_15 : decode prog_11_method_2_code 15 = .ok (.invokestatic 51, 3) := by decide +kernel
theorem d_11_2_18 : decode prog_11_method_2_code 18 = .ok (.aload_n 0, 1) := by decide +kernel
theorem d_11_2_19 : decode prog_11_method_2_code 19 = .ok (.getfield 15, 3) := by decide +kernel
theorem d_11_2_22 : decode prog_11_method_2_code 22 = .ok (.iconst 0, 1) := by decide +kernel
theorem d_11_2_23 : decode prog_11_method_2_code 23 = .ok (.invokestatic 51, 3) := by decide +kernel
theorem d_11_2_26 : decode prog_11_method_2_code 26 = .ok (.aload_n 0, 1) := by decide +kernel
theorem d_11_2_27 : decode prog_11_method_2_code 27 = .ok (.getfield 18, 3) := by decide +kernel
theorem d_11_2_30 : decode prog_11_method_2_code 30 = .ok (.iconst 0, 1) := by decide +kernel
theorem d_11_2_31 : decode prog_11_method_2_code 31 = .ok (.invokestatic 51, 3) := by decide +kernel
theorem d_11_2_34 : decode prog_11_method_2_code 34 = .ok (.aload_n 0, 1) := by decide +kernel
theorem d_11_2_35 : decode prog_11_method_2_code 35 = .ok (.getfield 21, 3) := by decide +kernel
theorem d_11_2_38 : decode prog_11_method_2_code 38 = .ok (.iconst 0, 1) := by decide +kernel
theorem d_11_2_39 : decode prog_11_method_2_code 39 = .ok (.invokestatic 51, 3) := by decide +kernel
theorem d_11_2_42 : decode prog_11_method_2_code 42 = .ok (.iconst 0, 1) := by decide +kernel
theorem d_11_2_43 : decode prog_11_method_2_code 43 = .ok (.istore_n 2, 1) := by decide +kernel
theorem d_11_2_44 : decode prog_11_method_2_code 44 = .ok (.iload_n 2, 1) := by decide +kernel
theorem d_11_2_45 : decode prog_11_method_2_code 45 = .ok (.aload_n 0, 1) := by decide +kernel
theorem d_11_2_46 : decode prog_11_method_2_code 46 = .ok (.getfield 40, 3) := by decide +kernel
theorem d_11_2_49 : decode prog_11_method_2_code 49 = .ok (.getfield 57, 3) := by decide +kernel
theorem d_11_2_52 : decode prog_11_method_2_code 52 = .ok (.if_icmp .ge 23, 3) := by decide +kernel
theorem d_11_2_55 : decode prog_11_method_2_code 55 = .ok (.aload_n 0, 1) := by decide +kernel
theorem d_11_2_56 : decode prog_11_method_2_code 56 = .ok (.iload_n 2, 1) := by decide +kernel
theorem d_11_2_57 : decode prog_11_method_2_code 57 = .ok (.aload_n 0, 1) := by decide +kernel
theorem d_11_2_58 : decode prog_11_method_2_code 58 = .ok (.getfield 40, 3) := by decide +kernel
theorem d_11_2_61 : decode prog_11_method_2_code 61 = .ok (.getfield 62, 3) := by decide +kernel
theorem d_11_2_64 : decode prog_11_method_2_code 64 = .ok (.iload_n 2, 1) := by decide +kernel
theorem d_11_2_65 : decode prog_11_method_2_code 65 = .ok (.iaload, 1) := by decide +kernel
theorem d_11_2_66 : decode prog_11_method_2_code 66 = .ok (.invokevirtual 65, 3) := by decide +kernel
theorem d_11_2_69 : decode prog_11_method_2_code 69 = .ok (.iinc 2 1, 3) := by decide +kernel
theorem d_11_2_72 : decode prog_11_method_2_code 72 = .ok (.goto (-28), 3) := by decide +kernel
theorem d_11_2_75 : decode prog_11_method_2_code 75 = .ok (.return_, 1) := by decide +kernel
theorem d_11_3_0 : decode prog_11_method_3_code 0 = .ok (.iload_n 2, 1) := by decide +kernel
theorem d_11_3_1 : decode prog_11_method_3_code 1 = .ok (.ifCond .ne 4, 3) := by decide +kernel
theorem d_11_3_4 : decode prog_11_method_3_code 4 = .ok (.return_, 1) := by decide +kernel
theorem d_11_3_5 : decode prog_11_method_3_code 5 = .ok (.aload_n 0, 1) := by decide +kernel
theorem d_11_3_6 : decode prog_11_method_3_code 6 = .ok (.getfield 9, 3) := by decide +kernel
theorem d_11_3_9 : decode prog_11_method_3_code 9 = .ok (.iload_n 1, 1) := by decide +kernel
theorem d_11_3_10 : decode prog_11_method_3_code 10 = .ok (.dup2, 1) := by decide +kernel
theorem d_11_3_11 : decode prog_11_method_3_code 11 = .ok (.iaload, 1) := by decide +kernel
theorem d_11_3_12 : decode prog_11_method_3_code 12 = .ok (.iload_n 2, 1) := by decide +kernel
theorem d_11_3_13 : decode prog_11_method_3_code 13 = .ok (.iadd, 1) := by decide +kernel
theorem d_11_3_14 : decode prog_11_method_3_code 14 = .ok (.iastore, 1) := by decide +kernel
theorem d_11_3_15 : decode prog_11_method_3_code 15 = .ok (.aload_n 0, 1) := by decide +kernel
theorem d_11_3_16 : decode prog_11_method_3_code 16 = .ok (.dup, 1) := by decide +kernel
theorem d_11_3_17 : decode prog_11_method_3_code 17 = .ok (.getfield 48, 3) := by decide +kernel
theorem d_11_3_20 : decode prog_11_method_3_code 20 = .ok (.iload_n 2, 1) := by decide +kernel
theorem d_11_3_21 : decode prog_11_method_3_code 21 = .ok (.iadd, 1) := by decide +kernel
theorem d_11_3_22 : decode prog_11_method_3_code 22 = .ok (.putfield 48, 3) := by decide +kernel
theorem d_11_3_25 : decode prog_11_method_3_code 25 = .ok (.aload_n 0, 1) := by decide +kernel
theorem d_11_3_26 : decode prog_11_method_3_code 26 = .ok (.getfield 40, 3) := by decide +kernel
theorem d_11_3_29 : decode prog_11_method_3_code 29 = .ok (.iload_n 1, 1) := by decide +kernel
theorem d_11_3_30 : decode prog_11_method_3_code 30 = .ok (.aload_n 0, 1) := by decide +kernel
theorem d_11_3_31 : decode prog_11_method_3_code 31 = .ok (.getfield 44, 3) := by decide +kernel
theorem d_11_3_34 : decode prog_11_method_3_code 34 = .ok (.invokevirtual 69, 3) := by decide +kernel
theorem d_11_3_37 : decode prog_11_method_3_code 37 = .ok (.istore_n 3, 1) := by decide +kernel
theorem d_11_3_38 : decode prog_11_method_3_code 38 = .ok (.iload_n 3, 1) := by decide +kernel
theorem d_11_3_39 : decode prog_11_method_3_code 39 = .ok (.iconst (-1), 1) := by decide +kernel
theorem d_11_3_40 : decode prog_11_method_3_code 40 = .ok (.if_icmp .eq 13, 3) := by decide +kernel
theorem d_11_3_43 : decode prog_11_method_3_code 43 = .ok (.aload_n 0, 1) := by decide +kernel
theorem d_11_3_44 : decode prog_11_method_3_code 44 = .ok (.getfield 15, 3) := by decide +kernel
theorem d_11_3_47 : decode prog_11_method_3_code 47 = .ok (.iload_n 3, 1) := by decide +kernel
theorem d_11_3_48 : decode prog_11_method_3_code 48 = .ok (.dup2, 1) := by decide +kernel
theorem d_11_3_49 : decode prog_11_method_3_code 49 = .ok (.iaload, 1) := by decide +kernel
theorem d_11_3_50 : decode prog_11_method_3_code 50 = .ok (.iload_n 2, 1) := by decide +kernel
theorem d_11_3_51 : decode prog_11_method_3_code 51 = .ok (.iadd, 1) := by decide +kernel
theorem d_11_3_52 : decode prog_11_method_3_code 52 = .ok (.iastore, 1) := by decide +kernel
theorem d_11_3_53 : decode prog_11_method_3_code 53 = .ok (.aload_n 0, 1) := by decide +kernel
theorem d_11_3_54 : decode prog_11_method_3_code 54 = .ok (.getfield 44, 3) := by decide +kernel
theorem d_11_3_57 : decode prog_11_method_3_code 57 = .ok (.istore 4, 2) := by decide +kernel
theorem d_11_3_59 : decode prog_11_method_3_code 59 = .ok (.iconst 0, 1) := by decide +kernel
theorem d_11_3_60 : decode prog_11_method_3_code 60 = .ok (.istore 5, 2) := by decide +kernel
theorem d_11_3_62 : decode prog_11_method_3_code 62 = .ok (.iload 5, 2) := by decide +kernel
theorem d_11_3_64 : decode prog_11_method_3_code 64 = .ok (.aload_n 0, 1) := by decide +kernel
theorem d_11_3_65 : decode prog_11_method_3_code 65 = .ok (.getfield 40, 3) := by decide +kernel
theorem d_11_3_68 : decode prog_11_method_3_code 68 = .ok (.getfield 73, 3) := by decide +kernel
theorem d_11_3_71 : decode prog_11_method_3_code 71 = .ok (.iload_n 1, 1) := by decide +kernel
theorem d_11_3_72 : decode prog_11_method_3_code 72 = .ok (.iaload, 1) := by decide +kernel
theorem d_11_3_73 : decode prog_11_method_3_code 73 = .ok (.if_icmp .ge 46, 3) := by decide +kernel
theorem d_11_3_76 : decode prog_11_method_3_code 76 = .ok (.aload_n 0, 1) := by decide +kernel
theorem d_11_3_77 : decode prog_11_method_3_code 77 = .ok (.getfield 40, 3) := by decide +kernel
theorem d_11_3_80 : decode prog_11_method_3_code 80 = .ok (.getfield 76, 3) := by decide +kernel
theorem d_11_3_83 : decode prog_11_method_3_code 83 = .ok (.iload_n 1, 1) := by decide +kernel
theorem d_11_3_84 : decode prog_11_method_3_code 84 = .ok (.aaload, 1) := by decide +kernel
theorem d_11_3_85 : decode prog_11_method_3_code 85 = .ok (.iload 5, 2) := by decide +kernel
theorem d_11_3_87 : decode prog_11_method_3_code 87 = .ok (.iaload, 1) := by decide +kernel
