theorem d_11_16_25 : decode prog_11_method_16_code 25 = .ok (.getfield 84, 3) := by decide +kernel
theorem d_11_16_28 : decode prog_11_method_16_code 28 = .ok (.if_icmp .ge 31, 3) := by decide +kernel
theorem d_11_16_31 : decode prog_11_method_16_code 31 = .ok (.iload_n 3, 1) := by decide +kernel
theorem d_11_16_32 : decode prog_11_method_16_code 32 = .ok (.iload 6, 2) := by decide +kernel
theorem d_11_16_34 : decode prog_11_method_16_code 34 = .ok (.invokestatic 90, 3) := by decide +kernel
theorem d_11_16_37 : decode prog_11_method_16_code 37 = .ok (.ifCond .eq 16, 3) := by decide +kernel
theorem d_11_16_40 : decode prog_11_method_16_code 40 = .ok (.lload 4, 2) := by decide +kernel
theorem d_11_16_42 : decode prog_11_method_16_code 42 = .ok (.aload_n 0, 1) := by decide +kernel
theorem d_11_16_43 : decode prog_11_method_16_code 43 = .ok (.iload 6, 2) := by decide +kernel
theorem d_11_16_45 : decode prog_11_method_16_code 45 = .ok (.iload_n 2, 1) := by decide +kernel
theorem d_11_16_46 : decode prog_11_method_16_code 46 = .ok (.invokevirtual 94, 3) := by decide +kernel
theorem d_11_16_49 : decode prog_11_method_16_code 49 = .ok (.i2l, 1) := by decide +kernel
theorem d_11_16_50 : decode prog_11_method_16_code 50 = .ok (.ladd, 1) := by decide +kernel
theorem d_11_16_51 : decode prog_11_method_16_code 51 = .ok (.lstore 4, 2) := by decide +kernel
theorem d_11_16_53 : decode prog_11_method_16_code 53 = .ok (.iinc 6 1, 3) := by decide +kernel
theorem d_11_16_56 : decode prog_11_method_16_code 56 = .ok (.goto (-37), 3) := by decide +kernel
theorem d_11_16_59 : decode prog_11_method_16_code 59 = .ok (.lload 4, 2) := by decide +kernel
theorem d_11_16_61 : decode prog_11_method_16_code 61 = .ok (.lreturn, 1) := by decide +kernel
theorem d_11_17_0 : decode prog_11_method_17_code 0 = .ok (.aload_n 0, 1) := by decide +kernel
theorem d_11_17_1 : decode prog_11_method_17_code 1 = .ok (.getfield 44, 3) := by decide +kernel
theorem d_11_17_4 : decode prog_11_method_17_code 4 = .ok (.istore_n 2, 1) := by decide +kernel
theorem d_11_17_5 : decode prog_11_method_17_code 5 = .ok (.iconst (-1), 1) := by decide +kernel
theorem d_11_17_6 : decode prog_11_method_17_code 6 = .ok (.istore_n 3, 1) := by decide +kernel
theorem d_11_17_7 : decode prog_11_method_17_code 7 = .ok (.iconst 0, 1) := by decide +kernel
theorem d_11_17_8 : decode prog_11_method_17_code 8 = .ok (.istore 4, 2) := by decide +kernel
theorem d_11_17_10 : decode prog_11_method_17_code 10 = .ok (.iload 4, 2) := by decide +kernel
theorem d_11_17_12 : decode prog_11_method_17_code 12 = .ok (.iload_n 1, 1) := by decide +kernel
theorem d_11_17_13 : decode prog_11_method_17_code 13 = .ok (.if_icmp .gt 27, 3) := by decide +kernel
theorem d_11_17_16 : decode prog_11_method_17_code 16 = .ok (.iload_n 2, 1) := by decide +kernel
theorem d_11_17_17 : decode prog_11_method_17_code 17 = .ok (.ifCond .eq 23, 3) := by decide +kernel
theorem d_11_17_20 : decode prog_11_method_17_code 20 = .ok (.aload_n 0, 1) := by decide +kernel
theorem d_11_17_21 : decode prog_11_method_17_code 21 = .ok (.iload_n 2, 1) := by decide +kernel
theorem d_11_17_22 : decode prog_11_method_17_code 22 = .ok (.invokevirtual 136, 3) := by decide +kernel
theorem d_11_17_25 : decode prog_11_method_17_code 25 = .ok (.istore_n 3, 1) := by decide +kernel
theorem d_11_17_26 : decode prog_11_method_17_code 26 = .ok (.iload_n 2, 1) := by decide +kernel
theorem d_11_17_27 : decode prog_11_method_17_code 27 = .ok (.iconst 1, 1) := by decide +kernel
theorem d_11_17_28 : decode prog_11_method_17_code 28 = .ok (.iload_n 3, 1) := by decide +kernel
theorem d_11_17_29 : decode prog_11_method_17_code 29 = .ok (.ishl, 1) := by decide +kernel
theorem d_11_17_30 : decode prog_11_method_17_code 30 = .ok (.iconst (-1), 1) := by decide +kernel
theorem d_11_17_31 : decode prog_11_method_17_code 31 = .ok (.ixor, 1) := by decide +kernel
theorem d_11_17_32 : decode prog_11_method_17_code 32 = .ok (.iand, 1) := by decide +kernel
theorem d_11_17_33 : decode prog_11_method_17_code 33 = .ok (.istore_n 2, 1) := by decide +kernel
theorem d_11_17_34 : decode prog_11_method_17_code 34 = .ok (.iinc 4 1, 3) := by decide +kernel
theorem d_11_17_37 : decode prog_11_method_17_code 37 = .ok (.goto (-27), 3) := by decide +kernel
theorem d_11_17_40 : decode prog_11_method_17_code 40 = .ok (.iload_n 3, 1) := by decide +kernel
theorem d_11_17_41 : decode prog_11_method_17_code 41 = .ok (.ireturn, 1) := by decide +kernel
theorem d_11_18_0 : decode prog_11_method_18_code 0 = .ok (.iconst 0, 1) := by decide +kernel
theorem d_11_18_1 : decode prog_11_method_18_code 1 = .ok (.istore_n 2, 1) := by decide +kernel
theorem d_11_18_2 : decode prog_11_method_18_code 2 = .ok (.iload_n 2, 1) := by decide +kernel
theorem d_11_18_3 : decode prog_11_method_18_code 3 = .ok (.aload_n 0, 1) := by decide +kernel
theorem d_11_18_4 : decode prog_11_method_18_code 4 = .ok (.getfield 40, 3) := by decide +kernel
theorem d_11_18_7 : decode prog_11_method_18_code 7 = .ok (.getfield 84, 3) := by decide +kernel
theorem d_11_18_10 : decode prog_11_method_18_code 10 = .ok (.if_icmp .ge 35, 3) := by decide +kernel
theorem d_11_18_13 : decode prog_11_method_18_code 13 = .ok (.iload_n 1, 1) := by decide +kernel
theorem d_11_18_14 : decode prog_11_method_18_code 14 = .ok (.iload_n 2, 1) := by decide +kernel
theorem d_11_18_15 : decode prog_11_method_18_code 15 = .ok (.invokestatic 90, 3) := by decide +kernel
theorem d_11_18_18 : decode prog_11_method_18_code 18 = .ok (.ifCond .eq 21, 3) := by decide +kernel
theorem d_11_18_21 : decode prog_11_method_18_code 21 = .ok (.aload_n 0, 1) := by decide +kernel
theorem d_11_18_22 : decode prog_11_method_18_code 22 = .ok (.iload_n 1, 1) := by decide +kernel
theorem d_11_18_23 : decode prog_11_method_18_code 23 = .ok (.iload_n 2, 1) := by decide +kernel
theorem d_11_18_24 : decode prog_11_method_18_code 24 = .ok (.invokevirtual 129, 3) := by decide +kernel
theorem d_11_18_27 : decode prog_11_method_18_code 27 = .ok (.aload_n 0, 1) := by decide +kernel
theorem d_11_18_28 : decode prog_11_method_18_code 28 = .ok (.getfield 37, 3) := by decide +kernel
theorem d_11_18_31 : decode prog_11_method_18_code 31 = .ok (.iload_n 1, 1) := by decide +kernel
theorem d_11_18_32 : decode prog_11_method_18_code 32 = .ok (.laload, 1) := by decide +kernel
theorem d_11_18_33 : decode prog_11_method_18_code 33 = .ok (.lcmp, 1) := by decide +kernel
theorem d_11_18_34 : decode prog_11_method_18_code 34 = .ok (.ifCond .ne 5, 3) := by decide +kernel
theorem d_11_18_37 : decode prog_11_method_18_code 37 = .ok (.iload_n 2, 1) := by decide +kernel
theorem d_11_18_38 : decode prog_11_method_18_code 38 = .ok (.ireturn, 1) := by decide +kernel
theorem d_11_18_39 : decode prog_11_method_18_code 39 = .ok (.iinc 2 1, 3) := by decide +kernel
theorem d_11_18_42 : decode prog_11_method_18_code 42 = .ok (.goto (-40), 3) := by decide +kernel
theorem d_11_18_45 : decode prog_11_method_18_code 45 = .ok (.iconst 0, 1) := by decide +kernel
theorem d_11_18_46 : decode prog_11_method_18_code 46 = .ok (.ireturn, 1) := by decide +kernel
theorem d_11_19_0 : decode prog_11_method_19_code 0 = .ok (.aload_n 0, 1) := by decide +kernel
theorem d_11_19_1 : decode prog_11_method_19_code 1 = .ok (.getfield 44, 3) := by decide +kernel
theorem d_11_19_4 : decode prog_11_method_19_code 4 = .ok (.ifCond .ne 5, 3) := by decide +kernel
theorem d_11_19_7 : decode prog_11_method_19_code 7 = .ok (.iconst (-1), 1) := by decide +kernel
theorem d_11_19_8 : decode prog_11_method_19_code 8 = .ok (.ireturn, 1) := by decide +kernel
theorem d_11_19_9 : decode prog_11_method_19_code 9 = .ok (.iload_n 1, 1) := by decide +kernel
theorem d_11_19_10 : decode prog_11_method_19_code 10 = .ok (.iconst 1, 1) := by decide +kernel
theorem d_11_19_11 : decode prog_11_method_19_code 11 = .ok (.if_icmp .ne 8, 3) := by decide +kernel
theorem d_11_19_14 : decode prog_11_method_19_code 14 = .ok (.aload_n 0, 1) := by decide +kernel
theorem d_11_19_15 : decode prog_11_method_19_code 15 = .ok (.invokevirtual 139, 3) := by decide +kernel
theorem d_11_19_18 : decode prog_11_method_19_code 18 = .ok (.ireturn, 1) := by decide +kernel
theorem d_11_19_19 : decode prog_11_method_19_code 19 = .ok (.iload_n 1, 1) := by decide +kernel
theorem d_11_19_20 : decode prog_11_method_19_code 20 = .ok (.iconst 2, 1) := by decide +kernel
theorem d_11_19_21 : decode prog_11_method_19_code 21 = .ok (.if_icmp .ne 12, 3) := by decide +kernel
theorem d_11_19_24 : decode prog_11_method_19_code 24 = .ok (.aload_n 0, 1) := by decide +kernel
theorem d_11_19_25 : decode prog_11_method_19_code 25 = .ok (.aload_n 0, 1) := by decide +kernel
theorem d_11_19_26 : decode prog_11_method_19_code 26 = .ok (.invokevirtual 143, 3) := by decide +kernel
theorem d_11_19_29 : decode prog_11_method_19_code 29 = .ok (.invokevirtual 146, 3) := by decide +kernel
theorem d_11_19_32 : decode prog_11_method_19_code 32 = .ok (.ireturn, 1) := by decide +kernel
theorem d_11_19_33 : decode prog_11_method_19_code 33 = .ok (.aload_n 0, 1) := by decide +kernel
theorem d_11_19_34 : decode prog_11_method_19_code 34 = .ok (.iload_n 1, 1) := by decide +kernel
theorem d_11_19_35 : decode prog_11_method_19_code 35 = .ok (.invokevirtual 149, 3) := by decide +kernel
theorem d_11_19_38 : decode prog_11_method_19_code 38 = .ok (.aload_n 0, 1) := by decide +kernel
theorem d_11_19_39 : decode prog_11_method_19_code 39 = .ok (.aload_n 0, 1) := by decide +kernel
theorem d_11_19_40 : decode prog_11_method_19_code 40 = .ok (.getfield 44, 3) := by decide +kernel
theorem d_11_19_43 : decode prog_11_method_19_code 43 = .ok (.invokevirtual 153, 3) := by decide +kernel
theorem d_11_19_46 : decode prog_11_method_19_code 46 = .ok (.ireturn, 1) := by decide +kernel
theorem d_11_1_0 : decode prog_11_method_1_code 0 = .ok (.aload_n 0, 1) := by decide +kernel
theorem d_11_1_1 : decode prog_11_method_1_code 1 = .ok (.invokespecial 3, 3) := by decide +kernel
theorem d_11_1_4 : decode prog_11_method_1_code 4 = .ok (.aload_n 0, 1) := by decide +kernel
theorem d_11_1_5 : decode prog_11_method_1_code 5 = .ok (.bipush 31, 2) := by decide +kernel
theorem d_11_1_7 : decode prog_11_method_1_code 7 = .ok (.newarray .int, 2) := by decide +kernel
theorem d_11_1_9 : decode prog_11_method_1_code 9 = .ok (.putfield 9, 3) := by decide +kernel
theorem d_11_1_12 : decode prog_11_method_1_code 12 = .ok (.aload_n 0, 1) := by decide +kernel
theorem d_11_1_13 : decode prog_11_method_1_code 13 = .ok (.bipush 8, 2) := by decide +kernel
theorem d_11_1_15 : decode prog_11_method_1_code 15 = .ok (.newarray .int, 2) := by decide +kernel
theorem d_11_1_17 : decode prog_11_method_1_code 17 = .ok (.putfield 15, 3) := by decide +kernel
theorem d_11_1_20 : decode prog_11_method_1_code 20 = .ok (.aload_n 0, 1) := by decide +kernel
theorem d_11_1_21 : decode prog_11_method_1_code 21 = .ok (.bipush 8, 2) := by decide +kernel
theorem d_11_1_23 : decode prog_11_method_1_code 23 = .ok (.newarray .int, 2) := by decide +kernel
theorem d_11_1_25 : decode prog_11_method_1_code 25 = .ok (.putfield 18, 3) := by decide +kernel
theorem d_11_1_28 : decode prog_11_method_1_code 28 = .ok (.aload_n 0, 1) := by decide +kernel
theorem d_11_1_29 : decode prog_11_method_1_code 29 = .ok (.bipush 64, 2) := by decide +kernel
theorem d_11_1_31 : decode prog_11_method_1_code 31 = .ok (.newarray .int, 2) := by decide +kernel
theorem d_11_1_33 : decode prog_11_method_1_code 33 = .ok (.putfield 21, 3) := by decide +kernel
theorem d_11_1_36 : decode prog_11_method_1_code 36 = .ok (.aload_n 0, 1) := by decide +kernel
theorem d_11_1_37 : decode prog_11_method_1_code 37 = .ok (.bipush 8, 2) := by decide +kernel
theorem d_11_1_39 : decode prog_11_method_1_code 39 = .ok (.newarray .int, 2) := by decide +kernel
theorem d_11_1_41 : decode prog_11_method_1_code 41 = .ok (.putfield 24, 3) := by decide +kernel
theorem d_11_1_44 : decode prog_11_method_1_code 44 = .ok (.aload_n 0, 1) := by decide +kernel
theorem d_11_1_45 : decode prog_11_method_1_code 45 = .ok (.bipush 64, 2) := by decide +kernel
theorem d_11_1_47 : decode prog_11_method_1_code 47 = .ok (.newarray .int, 2) := by decide +kernel
theorem d_11_1_49 : decode prog_11_method_1_code 49 = .ok (.putfield 27, 3) := by decide +kernel
theorem d_11_1_52 : decode prog_11_method_1_code 52 = .ok (.aload_n 0, 1) := by decide +kernel
theorem d_11_1_53 : decode prog_11_method_1_code 53 = .ok (.bipush 8, 2) := by decide +kernel
theorem d_11_1_55 : decode prog_11_method_1_code 55 = .ok (.newarray .long, 2) := by decide +kernel
theorem d_11_1_57 : decode prog_11_method_1_code 57 = .ok (.putfield 30, 3) := by decide +kernel
theorem d_11_1_60 : decode prog_11_method_1_code 60 = .ok (.aload_n 0, 1) := by decide +kernel
theorem d_11_1_61 : decode prog_11_method_1_code 61 = .ok (.bipush 8, 2) := by decide +kernel
theorem d_11_1_63 : decode prog_11_method_1_code 63 = .ok (.newarray .int, 2) := by decide +kernel
theorem d_11_1_65 : decode prog_11_method_1_code 65 = .ok (.putfield 34, 3) := by decide +kernel
theorem d_11_1_68 : decode prog_11_method_1_code 68 = .ok (.aload_n 0, 1) := by decide +kernel
theorem d_11_1_69 : decode prog_11_method_1_code 69 = .ok (.sipush 256, 3) := by decide +kernel
theorem d_11_1_72 : decode prog_11_method_1_code 72 = .ok (.newarray .long, 2) := by decide +kernel
theorem d_11_1_74 : decode prog_11_method_1_code 74 = .ok (.putfield 37, 3) := by decide +kernel
theorem d_11_1_77 : decode prog_11_method_1_code 77 = .ok (.aload_n 0, 1) := by decide +kernel
theorem d_11_1_78 : decode prog_11_method_1_code 78 = .ok (.aload_n 1, 1) := by decide +kernel
theorem d_11_1_79 : decode prog_11_method_1_code 79 = .ok (.putfield 40, 3) := by decide +kernel
theorem d_11_1_82 : decode prog_11_method_1_code 82 = .ok (.return_, 1) := by decide +kernel
theorem d_11_20_0 : decode prog_11_method_20_code 0 = .ok (.iconst 0, 1) := by decide +kernel
theorem d_11_20_1 : decode prog_11_method_20_code 1 = .ok (.istore_n 2, 1) := by decide +kernel
theorem d_11_20_2 : decode prog_11_method_20_code 2 = .ok (.iload_n 2, 1) := by decide +kernel
theorem d_11_20_3 : decode prog_11_method_20_code 3 = .ok (.aload_n 0, 1) := by decide +kernel
theorem d_11_20_4 : decode prog_11_method_20_code 4 = .ok (.getfield 40, 3) := by decide +kernel
theorem d_11_20_7 : decode prog_11_method_20_code 7 = .ok (.getfield 84, 3) := by decide +kernel
theorem d_11_20_10 : decode prog_11_method_20_code 10 = .ok (.if_icmp .ge 56, 3) := by decide +kernel
theorem d_11_20_13 : decode prog_11_method_20_code 13 = .ok (.iload_n 1, 1) := by decide +kernel
theorem d_11_20_14 : decode prog_11_method_20_code 14 = .ok (.iconst 3, 1) := by decide +kernel
theorem d_11_20_15 : decode prog_11_method_20_code 15 = .ok (.if_icmp .ne 17, 3) := by decide +kernel
theorem d_11_20_18 : decode prog_11_method_20_code 18 = .ok (.aload_n 0, 1) := by decide +kernel
theorem d_11_20_19 : decode prog_11_method_20_code 19 = .ok (.getfield 30, 3) := by decide +kernel
theorem d_11_20_22 : decode prog_11_method_20_code 22 = .ok (.iload_n 2, 1) := by decide +kernel
theorem d_11_20_23 : decode prog_11_method_20_code 23 = .ok (.aload_n 0, 1) := by decide +kernel
theorem d_11_20_24 : decode prog_11_method_20_code 24 = .ok (.iload_n 2, 1) := by decide +kernel
theorem d_11_20_25 : decode prog_11_method_20_code 25 = .ok (.invokevirtual 156, 3) := by decide +kernel
theorem d_11_20_28 : decode prog_11_method_20_code 28 = .ok (.lastore, 1) := by decide +kernel
theorem d_11_20_29 : decode prog_11_method_20_code 29 = .ok (.goto 31, 3) := by decide +kernel
theorem d_11_20_32 : decode prog_11_method_20_code 32 = .ok (.aload_n 0, 1) := by decide +kernel
theorem d_11_20_33 : decode prog_11_method_20_code 33 = .ok (.getfield 30, 3) := by decide +kernel
theorem d_11_20_36 : decode prog_11_method_20_code 36 = .ok (.iload_n 2, 1) := by decide +kernel
theorem d_11_20_37 : decode prog_11_method_20_code 37 = .ok (.iload_n 1, 1) := by decide +kernel
theorem d_11_20_38 : decode prog_11_method_20_code 38 = .ok (.iconst 4, 1) := by decide +kernel
theorem d_11_20_39 : decode prog_11_method_20_code 39 = .ok (.if_icmp .ne 13, 3) := by decide +kernel
theorem d_11_20_42 : decode prog_11_method_20_code 42 = .ok (.aload_n 0, 1) := by decide +kernel
theorem d_11_20_43 : decode prog_11_method_20_code 43 = .ok (.getfield 18, 3) := by decide +kernel
theorem d_11_20_46 : decode prog_11_method_20_code 46 = .ok (.iload_n 2, 1) := by decide +kernel
theorem d_11_20_47 : decode prog_11_method_20_code 47 = .ok (.iaload, 1) := by decide +kernel
theorem d_11_20_48 : decode prog_11_method_20_code 48 = .ok (.i2l, 1) := by decide +kernel
theorem d_11_20_49 : decode prog_11_method_20_code 49 = .ok (.goto 10, 3) := by decide +kernel
theorem d_11_20_52 : decode prog_11_method_20_code 52 = .ok (.aload_n 0, 1) := by decide +kernel
theorem d_11_20_53 : decode prog_11_method_20_code 53 = .ok (.getfield 15, 3) := by decide +kernel
theorem d_11_20_56 : decode prog_11_method_20_code 56 = .ok (.iload_n 2, 1) := by decide +kernel
theorem d_11_20_57 : decode prog_11_method_20_code 57 = .ok (.iaload, 1) := by decide +kernel
theorem d_11_20_58 : decode prog_11_method_20_code 58 = .ok (.i2l, 1) := by decide +kernel
theorem d_11_20_59 : decode prog_11_method_20_code 59 = .ok (.lastore, 1) := by decide +kernel
theorem d_11_20_60 : decode prog_11_method_20_code 60 = .ok (.iinc 2 1, 3) := by decide +kernel
theorem d_11_20_63 : decode prog_11_method_20_code 63 = .ok (.goto (-61), 3) := by decide +kernel
theorem d_11_20_66 : decode prog_11_method_20_code 66 = .ok (.return_, 1) := by decide +kernel
theorem d_11_21_0 : decode prog_11_method_21_code 0 = .ok (.lconst 0, 1) := by decide +kernel
theorem d_11_21_1 : decode prog_11_method_21_code 1 = .ok (.lstore_n 2, 1) := by decide +kernel
theorem d_11_21_2 : decode prog_11_method_21_code 2 = .ok (.iconst 0, 1) := by decide +kernel
theorem d_11_21_3 : decode prog_11_method_21_code 3 = .ok (.istore 4, 2) := by decide +kernel
theorem d_11_21_5 : decode prog_11_method_21_code 5 = .ok (.iload 4, 2) := by decide +kernel
theorem d_11_21_7 : decode prog_11_method_21_code 7 = .ok (.aload_n 0, 1) := by decide +kernel
theorem d_11_21_8 : decode prog_11_method_21_code 8 = .ok (.getfield 40, 3) := by decide +kernel
theorem d_11_21_11 : decode prog_11_method_21_code 11 = .ok (.getfield 84, 3) := by decide +kernel
theorem d_11_21_14 : decode prog_11_method_21_code 14 = .ok (.if_icmp .ge 51, 3) := by decide +kernel
theorem d_11_21_17 : decode prog_11_method_21_code 17 = .ok (.iload 4, 2) := by decide +kernel
theorem d_11_21_19 : decode prog_11_method_21_code 19 = .ok (.iload_n 1, 1) := by decide +kernel
theorem d_11_21_20 : decode prog_11_method_21_code 20 = .ok (.if_icmp .eq 39, 3) := by decide +kernel
theorem d_11_21_23 : decode prog_11_method_21_code 23 = .ok (.aload_n 0, 1) := by decide +kernel
theorem d_11_21_24 : decode prog_11_method_21_code 24 = .ok (.getfield 44, 3) := by decide +kernel
theorem d_11_21_27 : decode prog_11_method_21_code 27 = .ok (.iload 4, 2) := by decide +kernel
theorem d_11_21_29 : decode prog_11_method_21_code 29 = .ok (.invokestatic 90, 3) := by decide +kernel
theorem d_11_21_32 : decode prog_11_method_21_code 32 = .ok (.ifCond .eq 27, 3) := by decide +kernel
theorem d_11_21_35 : decode prog_11_method_21_code 35 = .ok (.lload_n 2, 1) := by decide +kernel
theorem d_11_21_36 : decode prog_11_method_21_code 36 = .ok (.aload_n 0, 1) := by decide +kernel
theorem d_11_21_37 : decode prog_11_method_21_code 37 = .ok (.getfield 48, 3) := by decide +kernel
theorem d_11_21_40 : decode prog_11_method_21_code 40 = .ok (.aload_n 0, 1) := by decide +kernel
theorem d_11_21_41 : decode prog_11_method_21_code 41 = .ok (.iload_n 1, 1) := by decide +kernel
theorem d_11_21_42 : decode prog_11_method_21_code 42 = .ok (.iload 4, 2) := by decide +kernel
theorem d_11_21_44 : decode prog_11_method_21_code 44 = .ok (.invokevirtual 94, 3) := by decide +kernel
theorem d_11_21_47 : decode prog_11_method_21_code 47 = .ok (.iadd, 1) := by decide +kernel
theorem d_11_21_48 : decode prog_11_method_21_code 48 = .ok (.aload_n 0, 1) := by decide +kernel
theorem d_11_21_49 : decode prog_11_method_21_code 49 = .ok (.iload 4, 2) := by decide +kernel
theorem d_11_21_51 : decode prog_11_method_21_code 51 = .ok (.iload_n 1, 1) := by decide +kernel
theorem d_11_21_52 : decode prog_11_method_21_code 52 = .ok (.invokevirtual 94, 3) := by decide +kernel
theorem d_11_21_55 : decode prog_11_method_21_code 55 = .ok (.isub, 1) := by decide +kernel
theorem d_11_21_56 : decode prog_11_method_21_code 56 = .ok (.i2l, 1) := by decide +kernel
theorem d_11_21_57 : decode prog_11_method_21_code 57 = .ok (.ladd, 1) := by decide +kernel
theorem d_11_21_58 : decode prog_11_method_21_code 58 = .ok (.lstore_n 2, 1) := by decide +kernel
theorem d_11_21_59 : decode prog_11_method_21_code 59 = .ok (.iinc 4 1, 3) := by decide +kernel
theorem d_11_21_62 : decode prog_11_method_21_code 62 = .ok (.goto (-57), 3) := by decide +kernel
theorem d_11_21_65 : decode prog_11_method_21_code 65 = .ok (.lload_n 2, 1) := by decide +kernel
theorem d_11_21_66 : decode prog_11_method_21_code 66 = .ok (.lreturn, 1) := by decide +kernel
theorem d_11_22_0 : decode prog_11_method_22_code 0 = .ok (.iconst (-1), 1) := by decide +kernel
theorem d_11_22_1 : decode prog_11_method_22_code 1 = .ok (.istore_n 2, 1) := by decide +kernel
theorem d_11_22_2 : decode prog_11_method_22_code 2 = .ok (.iconst 0, 1) := by decide +kernel
theorem d_11_22_3 : decode prog_11_method_22_code 3 = .ok (.istore_n 3, 1) := by decide +kernel
theorem d_11_22_4 : decode prog_11_method_22_code 4 = .ok (.iload_n 3, 1) := by decide +kernel
theorem d_11_22_5 : decode prog_11_method_22_code 5 = .ok (.aload_n 0, 1) := by decide +kernel
theorem d_11_22_6 : decode prog_11_method_22_code 6 = .ok (.getfield 40, 3) := by decide +kernel
theorem d_11_22_9 : decode prog_11_method_22_code 9 = .ok (.getfield 84, 3) := by decide +kernel
theorem d_11_22_12 : decode prog_11_method_22_code 12 = .ok (.if_icmp .ge 36, 3) := by decide +kernel
theorem d_11_22_15 : decode prog_11_method_22_code 15 = .ok (.iload_n 1, 1) := by decide +kernel
theorem d_11_22_16 : decode prog_11_method_22_code 16 = .ok (.iload_n 3, 1) := by decide +kernel
theorem d_11_22_17 : decode prog_11_method_22_code 17 = .ok (.invokestatic 90, 3) := by decide +kernel
theorem d_11_22_20 : decode prog_11_method_22_code 20 = .ok (.ifCond .eq 22, 3) := by decide +kernel
theorem d_11_22_23 : decode prog_11_method_22_code 23 = .ok (.iload_n 2, 1) := by decide +kernel
theorem d_11_22_24 : decode prog_11_method_22_code 24 = .ok (.iconst (-1), 1) := by decide +kernel
theorem d_11_22_25 : decode prog_11_method_22_code 25 = .ok (.if_icmp .eq 15, 3) := by decide +kernel
theorem d_11_22_28 : decode prog_11_method_22_code 28 = .ok (.aload_n 0, 1) := by decide +kernel
theorem d_11_22_29 : decode prog_11_method_22_code 29 = .ok (.getfield 40, 3) := by decide +kernel
theorem d_11_22_32 : decode prog_11_method_22_code 32 = .ok (.iload_n 3, 1) := by decide +kernel
theorem d_11_22_33 : decode prog_11_method_22_code 33 = .ok (.iload_n 2, 1) := by decide +kernel
theorem d_11_22_34 : decode prog_11_method_22_code 34 = .ok (.invokevirtual 160, 3) := by decide +kernel
theorem d_11_22_37 : decode prog_11_method_22_code 37 = .ok (.ifCond .eq 5, 3) := by decide +kernel
theorem d_11_22_40 : decode prog_11_method_22_code 40 = .ok (.iload_n 3, 1) := by decide +kernel
theorem d_11_22_41 : decode prog_11_method_22_code 41 = .ok (.istore_n 2, 1) := by decide +kernel
theorem d_11_22_42 : decode prog_11_method_22_code 42 = .ok (.iinc 3 1, 3) := by decide +kernel
theorem d_11_22_45 : decode prog_11_method_22_code 45 = .ok (.goto (-41), 3) := by decide +kernel
theorem d_11_22_48 : decode prog_11_method_22_code 48 = .ok (.iload_n 2, 1) := by decide +kernel
theorem d_11_22_49 : decode prog_11_method_22_code 49 = .ok (.ireturn, 1) := by decide +kernel
theorem d_11_23_0 : decode prog_11_method_23_code 0 = .ok (.iconst (-1), 1) := by decide +kernel
theorem d_11_23_1 : decode prog_11_method_23_code 1 = .ok (.istore_n 2, 1) := by decide +kernel
theorem d_11_23_2 : decode prog_11_method_23_code 2 = .ok (.iconst 0, 1) := by decide +kernel
theorem d_11_23_3 : decode prog_11_method_23_code 3 = .ok (.istore_n 3, 1) := by decide +kernel
theorem d_11_23_4 : decode prog_11_method_23_code 4 = .ok (.iload_n 3, 1) := by decide +kernel
theorem d_11_23_5 : decode prog_11_method_23_code 5 = .ok (.aload_n 0, 1) := by decide +kernel
theorem d_11_23_6 : decode prog_11_method_23_code 6 = .ok (.getfield 40, 3) := by decide +kernel
theorem d_11_23_9 : decode prog_11_method_23_code 9 = .ok (.getfield 84, 3) := by decide +kernel
theorem d_11_23_12 : decode prog_11_method_23_code 12 = .ok (.if_icmp .ge 68, 3) := by decide +kernel
theorem d_11_23_15 : decode prog_11_method_23_code 15 = .ok (.iload_n 1, 1) := by decide +kernel
theorem d_11_23_16 : decode prog_11_method_23_code 16 = .ok (.iload_n 3, 1) := by decide +kernel
theorem d_11_23_17 : decode prog_11_method_23_code 17 = .ok (.invokestatic 90, 3) := by decide +kernel
theorem d_11_23_20 : decode prog_11_method_23_code 20 = .ok (.ifCond .eq 54, 3) := by decide +kernel
theorem d_11_23_23 : decode prog_11_method_23_code 23 = .ok (.iload_n 2, 1) := by decide +kernel
theorem d_11_23_24 : decode prog_11_method_23_code 24 = .ok (.iconst (-1), 1) := by decide +kernel
theorem d_11_23_25 : decode prog_11_method_23_code 25 = .ok (.if_icmp .eq 47, 3) := by decide +kernel
theorem d_11_23_28 : decode prog_11_method_23_code 28 = .ok (.aload_n 0, 1) := by decide +kernel
theorem d_11_23_29 : decode prog_11_method_23_code 29 = .ok (.getfield 30, 3) := by decide +kernel
theorem d_11_23_32 : decode prog_11_method_23_code 32 = .ok (.iload_n 3, 1) := by decide +kernel
theorem d_11_23_33 : decode prog_11_method_23_code 33 = .ok (.laload, 1) := by decide +kernel
theorem d_11_23_34 : decode prog_11_method_23_code 34 = .ok (.aload_n 0, 1) := by decide +kernel
theorem d_11_23_35 : decode prog_11_method_23_code 35 = .ok (.getfield 30, 3) := by decide +kernel
theorem d_11_23_38 : decode prog_11_method_23_code 38 = .ok (.iload_n 2, 1) := by decide +kernel
theorem d_11_23_39 : decode prog_11_method_23_code 39 = .ok (.laload, 1) := by decide +kernel
theorem d_11_23_40 : decode prog_11_method_23_code 40 = .ok (.lcmp, 1) := by decide +kernel
theorem d_11_23_41 : decode prog_11_method_23_code 41 = .ok (.ifCond .gt 31, 3) := by decide +kernel
theorem d_11_23_44 : decode prog_11_method_23_code 44 = .ok (.aload_n 0, 1) := by decide +kernel
theorem d_11_23_45 : decode prog_11_method_23_code 45 = .ok (.getfield 30, 3) := by decide +kernel
theorem d_11_23_48 : decode prog_11_method_23_code 48 = .ok (.iload_n 3, 1) := by decide +kernel
theorem d_11_23_49 : decode prog_11_method_23_code 49 = .ok (.laload, 1) := by decide +kernel
theorem d_11_23_50 : decode prog_11_method_23_code 50 = .ok (.aload_n 0, 1) := by decide +kernel
theorem d_11_23_51 : decode prog_11_method_23_code 51 = .ok (.getfield 30, 3) := by decide +kernel
theorem d_11_23_54 : decode prog_11_method_23_code 54 = .ok (.iload_n 2, 1) := by decide +kernel
theorem d_11_23_55 : decode prog_11_method_23_code 55 = .ok (.laload, 1) := by decide +kernel
theorem d_11_23_56 : decode prog_11_method_23_code 56 = .ok (.lcmp, 1) := by decide +kernel
theorem d_11_23_57 : decode prog_11_method_23_code 57 = .ok (.ifCond .ne 17, 3) := by decide +kernel
theorem d_11_23_60 : decode prog_11_method_23_code 60 = .ok (.aload_n 0, 1) := by decide +kernel
theorem d_11_23_61 : decode prog_11_method_23_code 61 = .ok (.getfield 40, 3) := by decide +kernel
theorem d_11_23_64 : decode prog_11_method_23_code 64 = .ok (.iload_n 3, 1) := by decide +kernel
theorem d_11_23_65 : decode prog_11_method_23_code 65 = .ok (.iload_n 2, 1) := by decide +kernel
theorem d_11_23_66 : decode prog_11_method_23_code 66 = .ok (.invokevirtual 160, 3) := by decide +kernel
theorem d_11_23_69 : decode prog_11_method_23_code 69 = .ok (.ifCond .eq 5, 3) := by decide +kernel
theorem d_11_23_72 : decode prog_11_method_23_code 72 = .ok (.iload_n 3, 1) := by decide +kernel
theorem d_11_23_73 : decode prog_11_method_23_code 73 = .ok (.istore_n 2, 1) := by decide +kernel
theorem d_11_23_74 : decode prog_11_method_23_code 74 = .ok (.iinc 3 1, 3) := by decide +kernel
theorem d_11_23_77 : decode prog_11_method_23_code 77 = .ok (.goto (-73), 3) := by decide +kernel
theorem d_11_23_80 : decode prog_11_method_23_code 80 = .ok (.iload_n 2, 1) := by decide +kernel
theorem d_11_23_81 : decode prog_11_method_23_code 81 = .ok (.ireturn, 1) := by decide +kernel
theorem d_11_24_0 : decode prog_11_method_24_code 0 = .ok (.iconst (-1), 1) := by decide +kernel
theorem d_11_24_1 : decode prog_11_method_24_code 1 = .ok (.istore_n 2, 1) := by decide +kernel
theorem d_11_24_2 : decode prog_11_method_24_code 2 = .ok (.iconst 0, 1) := by decide +kernel
theorem d_11_24_3 : decode prog_11_method_24_code 3 = .ok (.istore_n 3, 1) := by decide +kernel
theorem d_11_24_4 : decode prog_11_method_24_code 4 = .ok (.iload_n 3, 1) := by decide +kernel
theorem d_11_24_5 : decode prog_11_method_24_code 5 = .ok (.aload_n 0, 1) := by decide +kernel
theorem d_11_24_6 : decode prog_11_method_24_code 6 = .ok (.getfield 40, 3) := by decide +kernel
theorem d_11_24_9 : decode prog_11_method_24_code 9 = .ok (.getfield 84, 3) := by decide +kernel
theorem d_11_24_12 : decode prog_11_method_24_code 12 = .ok (.if_icmp .ge 68, 3) := by decide +kernel
theorem d_11_24_15 : decode prog_11_method_24_code 15 = .ok (.iload_n 1, 1) := by decide +kernel
theorem d_11_24_16 : decode prog_11_method_24_code 16 = .ok (.iload_n 3, 1) := by decide +kernel
theorem d_11_24_17 : decode prog_11_method_24_code 17 = .ok (.invokestatic 90, 3) := by decide +kernel
theorem d_11_24_20 : decode prog_11_method_24_code 20 = .ok (.ifCond .eq 54, 3) := by decide +kernel
theorem d_11_24_23 : decode prog_11_method_24_code 23 = .ok (.iload_n 2, 1) := by decide +kernel
theorem d_11_24_24 : decode prog_11_method_24_code 24 = .ok (.iconst (-1), 1) := by decide +kernel
theorem d_11_24_25 : decode prog_11_method_24_code 25 = .ok (.if_icmp .eq 47, 3) := by decide +kernel
theorem d_11_24_28 : decode prog_11_method_24_code 28 = .ok (.aload_n 0, 1) := by decide +kernel
theorem d_11_24_29 : decode prog_11_method_24_code 29 = .ok (.getfield 30, 3) := by decide +kernel
theorem d_11_24_32 : decode prog_11_method_24_code 32 = .ok (.iload_n 3, 1) := by decide +kernel
theorem d_11_24_33 : decode prog_11_method_24_code 33 = .ok (.laload, 1) := by decide +kernel
theorem d_11_24_34 : decode prog_11_method_24_code 34 = .ok (.aload_n 0, 1) := by decide +kernel
theorem d_11_24_35 : decode prog_11_method_24_code 35 = .ok (.getfield 30, 3) := by decide +kernel
theorem d_11_24_38 : decode prog_11_method_24_code 38 = .ok (.iload_n 2, 1) := by decide +kernel
theorem d_11_24_39 : decode prog_11_method_24_code 39 = .ok (.laload, 1) := by decide +kernel
theorem d_11_24_40 : decode prog_11_method_24_code 40 = .ok (.lcmp, 1) := by decide +kernel
theorem d_11_24_41 : decode prog_11_method_24_code 41 = .ok (.ifCond .lt 31, 3) := by decide +kernel
theorem d_11_24_44 : decode prog_11_method_24_code 44 = .ok (.aload_n 0, 1) := by decide +kernel
theorem d_11_24_45 : decode prog_11_method_24_code 45 = .ok (.getfield 30, 3) := by decide +kernel
theorem d_11_24_48 : decode prog_11_method_24_code 48 = .ok (.iload_n 3, 1) := by decide +kernel
theorem d_11_24_49 : decode prog_11_method_24_code 49 = .ok (.laload, 1) := by decide +kernel
theorem d_11_24_50 : decode prog_11_method_24_code 50 = .ok (.aload_n 0, 1) := by decide +kernel
theorem d_11_24_51 : decode prog_11_method_24_code 51 = .ok (.getfield 30, 3) := by decide +kernel
theorem d_11_24_54 : decode prog_11_method_24_code 54 = .ok (.iload_n 2, 1) := by decide +kernel
theorem d_11_24_55 : decode prog_11_method_24_code 55 = .ok (.laload, 1) := by decide +kernel
theorem d_11_24_56 : decode prog_11_method_24_code 56 = .ok (.lcmp, 1) := by decide +kernel
theorem d_11_24_57 : decode prog_11_method_24_code 57 = .ok (.ifCond .ne 17, 3) := by decide +kernel
theorem d_11_24_60 : decode prog_11_method_24_code 60 = .ok (.aload_n 0, 1) := by decide +kernel
theorem d_11_24_61 : decode prog_11_method_24_code 61 = .ok (.getfield 40, 3) := by decide +kernel
theorem d_11_24_64 : decode prog_11_method_24_code 64 = .ok (.iload_n 2, 1) := by decide +kernel
theorem d_11_24_65 : decode prog_11_method_24_code 65 = .ok (.iload_n 3, 1) := by decide +kernel
theorem d_11_24_66 : decode prog_11_method_24_code 66 = .ok (.invokevirtual 160, 3) := by decide +kernel
theorem d_11_24_69 : decode prog_11_method_24_code 69 = .ok (.ifCond .eq 5, 3) := by decide +kernel
theorem d_11_24_72 : decode prog_11_method_24_code 72 = .ok (.iload_n 3, 1) := by decide +kernel
theorem d_11_24_73 : decode prog_11_method_24_code 73 = .ok (.istore_n 2, 1) := by decide +kernel
theorem d_11_24_74 : decode prog_11_method_24_code 74 = .ok (.iinc 3 1, 3) := by decide +kernel
theorem d_11_24_77 : decode prog_11_method_24_code 77 = .ok (.goto (-73), 3) := by decide +kernel
theorem d_11_24_80 : decode prog_11_method_24_code 80 = .ok (.iload_n 2, 1) := by decide +kernel
theorem d_11_24_81 : decode prog_11_method_24_code 81 = .ok (.ireturn, 1) := by decide +kernel
theorem d_11_25_0 : decode prog_11_method_25_code 0 = .ok (.aload_n 0, 1) := by decide +kernel
theorem d_11_25_1 : decode prog_11_method_25_code 1 = .ok (.getfield 44, 3) := by decide +kernel
theorem d_11_25_4 : decode prog_11_method_25_code 4 = .ok (.istore_n 1, 1) := by decide +kernel
theorem d_11_25_5 : decode prog_11_method_25_code 5 = .ok (.aload_n 0, 1) := by decide +kernel
theorem d_11_25_6 : decode prog_11_method_25_code 6 = .ok (.getfield 44, 3) := by decide +kernel
theorem d_11_25_9 : decode prog_11_method_25_code 9 = .ok (.invokestatic 103, 3) := by decide +kernel
theorem d_11_25_12 : decode prog_11_method_25_code 12 = .ok (.iconst 1, 1) := by decide +kernel
theorem d_11_25_13 : decode prog_11_method_25_code 13 = .ok (.isub, 1) := by decide +kernel
theorem d_11_25_14 : decode prog_11_method_25_code 14 = .ok (.istore_n 2, 1) := by decide +kernel
theorem d_11_25_15 : decode prog_11_method_25_code 15 = .ok (.iconst 0, 1) := by decide +kernel
theorem d_11_25_16 : decode prog_11_method_25_code 16 = .ok (.istore_n 3, 1) := by decide +kernel
theorem d_11_25_17 : decode prog_11_method_25_code 17 = .ok (.iload_n 3, 1) := by decide +kernel
theorem d_11_25_18 : decode prog_11_method_25_code 18 = .ok (.iload_n 2, 1) := by decide +kernel
theorem d_11_25_19 : decode prog_11_method_25_code 19 = .ok (.if_icmp .ge 38, 3) := by decide +kernel
theorem d_11_25_22 : decode prog_11_method_25_code 22 = .ok (.aload_n 0, 1) := by decide +kernel
theorem d_11_25_23 : decode prog_11_method_25_code 23 = .ok (.iload_n 1, 1) := by decide +kernel
theorem d_11_25_24 : decode prog_11_method_25_code 24 = .ok (.invokevirtual 163, 3) := by decide +kernel
theorem d_11_25_27 : decode prog_11_method_25_code 27 = .ok (.aload_n 0, 1) := by decide +kernel
theorem d_11_25_28 : decode prog_11_method_25_code 28 = .ok (.iload_n 1, 1) := by decide +kernel
theorem d_11_25_29 : decode prog_11_method_25_code 29 = .ok (.invokevirtual 166, 3) := by decide +kernel
theorem d_11_25_32 : decode prog_11_method_25_code 32 = .ok (.istore 4, 2) := by decide +kernel
theorem d_11_25_34 : decode prog_11_method_25_code 34 = .ok (.aload_n 0, 1) := by decide +kernel
theorem d_11_25_35 : decode prog_11_method_25_code 35 = .ok (.getfield 34, 3) := by decide +kernel
theorem d_11_25_38 : decode prog_11_method_25_code 38 = .ok (.iload_n 3, 1) := by decide +kernel
theorem d_11_25_39 : decode prog_11_method_25_code 39 = .ok (.iload 4, 2) := by decide +kernel
theorem d_11_25_41 : decode prog_11_method_25_code 41 = .ok (.iastore, 1) := by decide +kernel
theorem d_11_25_42 : decode prog_11_method_25_code 42 = .ok (.iload_n 1, 1) := by decide +kernel
theorem d_11_25_43 : decode prog_11_method_25_code 43 = .ok (.iconst 1, 1) := by decide +kernel
theorem d_11_25_44 : decode prog_11_method_25_code 44 = .ok (.iload 4, 2) := by decide +kernel
theorem d_11_25_46 : decode prog_11_method_25_code 46 = .ok (.ishl, 1) := by decide +kernel
theorem d_11_25_47 : decode prog_11_method_25_code 47 = .ok (.iconst (-1), 1) := by decide +kernel
theorem d_11_25_48 : decode prog_11_method_25_code 48 = .ok (.ixor, 1) := by decide +kernel
theorem d_11_25_49 : decode prog_11_method_25_code 49 = .ok (.iand, 1) := by decide +kernel
theorem d_11_25_50 : decode prog_11_method_25_code 50 = .ok (.istore_n 1, 1) := by decide +kernel
theorem d_11_25_51 : decode prog_11_method_25_code 51 = .ok (.iinc 3 1, 3) := by decide +kernel
theorem d_11_25_54 : decode prog_11_method_25_code 54 = .ok (.goto (-37), 3) := by decide +kernel
theorem d_11_25_57 : decode prog_11_method_25_code 57 = .ok (.aload_n 0, 1) := by decide +kernel
theorem d_11_25_58 : decode prog_11_method_25_code 58 = .ok (.iload_n 1, 1) := by decide +kernel
theorem d_11_25_59 : decode prog_11_method_25_code 59 = .ok (.invokevirtual 146, 3) := by decide +kernel
theorem d_11_25_62 : decode prog_11_method_25_code 62 = .ok (.ireturn, 1) := by decide +kernel
theorem d_11_26_0 : decode prog_11_method_26_code 0 = .ok (.aload_n 0, 1) := by decide +kernel
theorem d_11_26_1 : decode prog_11_method_26_code 1 = .ok (.getfield 30, 3) := by decide +kernel
theorem d_11_26_4 : decode prog_11_method_26_code 4 = .ok (.lconst 0, 1) := by decide +kernel
theorem d_11_26_5 : decode prog_11_method_26_code 5 = .ok (.invokestatic 169, 3) := by decide +kernel
theorem d_11_26_8 : decode prog_11_method_26_code 8 = .ok (.iconst 0, 1) := by decide +kernel
theorem d_11_26_9 : decode prog_11_method_26_code 9 = .ok (.istore_n 2, 1) := by decide +kernel
theorem d_11_26_10 : decode prog_11_method_26_code 10 = .ok (.iload_n 2, 1) := by decide +kernel
theorem d_11_26_11 : decode prog_11_method_26_code 11 = .ok (.bipush 31, 2) := by decide +kernel
theorem d_11_26_13 : decode prog_11_method_26_code 13 = .ok (.if_icmp .ge 53, 3) := by decide +kernel
theorem d_11_26_16 : decode prog_11_method_26_code 16 = .ok (.aload_n 0, 1) := by decide +kernel
theorem d_11_26_17 : decode prog_11_method_26_code 17 = .ok (.getfield 9, 3) := by decide +kernel
theorem d_11_26_20 : decode prog_11_method_26_code 20 = .ok (.iload_n 2, 1) := by decide +kernel
theorem d_11_26_21 : decode prog_11_method_26_code 21 = .ok (.iaload, 1) := by decide +kernel
theorem d_11_26_22 : decode prog_11_method_26_code 22 = .ok (.ifCond .ne 7, 3) := by decide +kernel
theorem d_11_26_25 : decode prog_11_method_26_code 25 = .ok (.iconst (-1), 1) := by decide +kernel
theorem d_11_26_26 : decode prog_11_method_26_code 26 = .ok (.goto 12, 3) := by decide +kernel
theorem d_11_26_29 : decode prog_11_method_26_code 29 = .ok (.aload_n 0, 1) := by decide +kernel
theorem d_11_26_30 : decode prog_11_method_26_code 30 = .ok (.getfield 40, 3) := by decide +kernel
theorem d_11_26_33 : decode prog_11_method_26_code 33 = .ok (.iload_n 2, 1) := by decide +kernel
theorem d_11_26_34 : decode prog_11_method_26_code 34 = .ok (.iload_n 1, 1) := by decide +kernel
theorem d_11_26_35 : decode prog_11_method_26_code 35 = .ok (.invokevirtual 69, 3) := by decide +kernel
theorem d_11_26_38 : decode prog_11_method_26_code 38 = .ok (.istore_n 3, 1) := by decide +kernel
theorem d_11_26_39 : decode prog_11_method_26_code 39 = .ok (.iload_n 3, 1) := by decide +kernel
theorem d_11_26_40 : decode prog_11_method_26_code 40 = .ok (.iconst (-1), 1) := by decide +kernel
theorem d_11_26_41 : decode prog_11_method_26_code 41 = .ok (.if_icmp .eq 19, 3) := by decide +kernel
theorem d_11_26_44 : decode prog_11_method_26_code 44 = .ok (.aload_n 0, 1) := by decide +kernel
theorem d_11_26_45 : decode prog_11_method_26_code 45 = .ok (.getfield 30, 3) := by decide +kernel
theorem d_11_26_48 : decode prog_11_method_26_code 48 = .ok (.iload_n 3, 1) := by decide +kernel
theorem d_11_26_49 : decode prog_11_method_26_code 49 = .ok (.dup2, 1) := by decide +kernel
theorem d_11_26_50 : decode prog_11_method_26_code 50 = .ok (.laload, 1) := by decide +kernel
theorem d_11_26_51 : decode prog_11_method_26_code 51 = .ok (.aload_n 0, 1) := by decide +kernel
theorem d_11_26_52 : decode prog_11_method_26_code 52 = .ok (.getfield 9, 3) := by decide +kernel
theorem d_11_26_55 : decode prog_11_method_26_code 55 = .ok (.iload_n 2, 1) := by decide +kernel
theorem d_11_26_56 : decode prog_11_method_26_code 56 = .ok (.iaload, 1) := by decide +kernel
theorem d_11_26_57 : decode prog_11_method_26_code 57 = .ok (.i2l, 1) := by decide +kernel
theorem d_11_26_58 : decode prog_11_method_26_code 58 = .ok (.ladd, 1) := by decide +kernel
theorem d_11_26_59 : decode prog_11_method_26_code 59 = .ok (.lastore, 1) := by decide +kernel
theorem d_11_26_60 : decode prog_11_method_26_code 60 = .ok (.iinc 2 1, 3) := by decide +kernel
theorem d_11_26_63 : decode prog_11_method_26_code 63 = .ok (.goto (-53), 3) := by decide +kernel
theorem d_11_26_66 : decode prog_11_method_26_code 66 = .ok (.return_, 1) := by decide +kernel
theorem d_11_2_0 : decode prog_11_method_2_code 0 = .ok (.aload_n 0, 1) := by decide +kernel
theorem d_11_2_1 : decode prog_11_method_2_code 1 = .ok (.iload_n 1, 1) := by decide +kernel
theorem d_11_2_2 : decode prog_11_method_2_code 2 = .ok (.putfield 44, 3) := by decide +kernel
theorem d_11_2_5 : decode prog_11_method_2_code 5 = .ok (.aload_n 0, 1) := by decide +kernel
theorem d_11_2_6 : decode prog_11_method_2_code 6 = .ok (.iconst 0, 1) := by decide +kernel
theorem d_11_2_7 : decode prog_11_method_2_code 7 = .ok (.putfield 48, 3) := by decide +kernel
theorem d_11_2_10 : decode prog_11_method_2_code 10 = .ok (.aload_n 0, 1) := by decide +kernel
theorem d_11_2_11 : decode prog_11_method_2_code 11 = .ok (.getfield 9, 3) := by decide +kernel
theorem d_11_2_14 : decode prog_11_method_2_code 14 = .ok (.iconst 0, 1) := by decide +kernel
theorem d_11_2_15 : decode prog_11_method_2_code 15 = .ok (.invokestatic 51, 3) := by decide +kernel
theorem d_11_2_18 : decode prog_11_method_2_code 18 = .ok (.aload_n 0, 1) := by decide +kernel
theorem d_11_2_19 : decode prog_11_method_2_code 19 = .ok (.getfield 15, 3) := by decide +kernel
theorem d_11_2_22 : decode prog_11_method_2_code 22 = .ok (.iconst 0, 1) := by decide +kernel
theorem d_11_2_23 : decode prog_11_method_2_code 23 = .ok (.invokestatic 51, 3) := by decide +kernel
theorem d_11_2_26 : decode prog_11_method_2_code 26 = .ok (.aload_n 0, 1) := by decide +kernel
theorem d_11_2_27 : decode prog_11_method_2_code 27 = .ok (.getfield 18, 3) := by decide +kernel
theorem d_11_2_30 : decode prog_11_method_2_code 30 = .ok (.iconst 0, 1) := by decide +kernel
theorem d_11_2_31 : decode prog_11_method_2_code 31 = .ok (.invokestatic 51, 3) := by decide +kernel
theorem d_11_2_34 : decode prog_11_method_2_code 34 = .ok (.aload_n 0, 1) := by decide +kernel
theorem d_11_2_35 : decode prog_11_method_2_code 35 = .ok (.getfield 21, 3) := by decide +kernel
theorem d_11_2_38 : decode prog_11_method_2_code 38 = .ok (.iconst 0, 1) := by decide +kernel
theorem d_11_2_39 : decode prog_11_method_2_code 39 = .ok (.invokestatic 51, 3) := by decide +kernel
theorem d_11_2_42 : decode prog_11_method_2_code 42 = .ok (.iconst 0, 1) := by decide +kernel
theorem d_11_2_43 : decode prog_11_method_2_code 43 = .ok (.istore_n 2, 1) := by decide +kernel
theorem d_11_2_44 : decode prog_11_method_2_code 44 = .ok (.iload_n 2, 1) := by decide +kernel
theorem d_11_2_45 : decode prog_11_method_2_code 45 = .ok (.aload_n 0, 1) := by decide +kernel
theorem d_11_2_46 : decode prog_11_method_2_code 46 = .ok (.getfield 40, 3) := by decide +kernel
theorem d_11_2_49 : decode prog_11_method_2_code 49 = .ok (.getfield 57, 3) := by decide +kernel
theorem d_11_2_52 : decode prog_11_method_2_code 52 = .ok (.if_icmp .ge 23, 3) := by decide +kernel
theorem d_11_2_55 : decode prog_11_method_2_code 55 = .ok (.aload_n 0, 1) := by decide +kernel
theorem d_11_2_56 : decode prog_11_method_2_code 56 = .ok (.iload_n 2, 1) := by decide +kernel
theorem d_11_2_57 : decode prog_11_method_2_code 57 = .ok (.aload_n 0, 1) := by decide +kernel
theorem d_11_2_58 : decode prog_11_method_2_code 58 = .ok (.getfield 40, 3) := by decide +kernel
theorem d_11_2_61 : decode prog_11_method_2_code 61 = .ok (.getfield 62, 3) := by decide +kernel
theorem d_11_2_64 : decode prog_11_method_2_code 64 = .ok (.iload_n 2, 1) := by decide +kernel
theorem d_11_2_65 : decode prog_11_method_2_code 65 = .ok (.iaload, 1) := by decide +kernel
theorem d_11_2_66 : decode prog_11_method_2_code 66 = .ok (.invokevirtual 65, 3) := by decide +kernel
theorem d_11_2_69 : decode prog_11_method_2_code 69 = .ok (.iinc 2 1, 3) := by decide +kernel
theorem d_11_2_72 : decode prog_11_method_2_code 72 = .ok (.goto (-28), 3) := by decide +kernel
theorem d_11_2_75 : decode prog_11_method_2_code 75 = .ok (.return_, 1) := by decide +kernel
theorem d_11_3_0 : decode prog_11_method_3_code 0 = .ok (.iload_n 2, 1) := by decide +kernel
theorem d_11_3_1 : decode prog_11_method_3_code 1 = .ok (.ifCond .ne 4, 3) := by decide +kernel
theorem d_11_3_4 : decode prog_11_method_3_code 4 = .ok (.return_, 1) := by decide +kernel
theorem d_11_3_5 : decode prog_11_method_3_code 5 = .ok (.aload_n 0, 1) := by decide +kernel
theorem d_11_3_6 : decode prog_11_method_3_code 6 = .ok (.getfield 9, 3) := by decide +kernel
theorem d_11_3_9 : decode prog_11_method_3_code 9 = .ok (.iload_n 1, 1) := by decide +kernel
theorem d_11_3_10 : decode prog_11_method_3_code 10 = .ok (.dup2, 1) := by decide +kernel
theorem d_11_3_11 : decode prog_11_method_3_code 11 = .ok (.iaload, 1) := by decide +kernel
theorem d_11_3_12 : decode prog_11_method_3_code 12 = .ok (.iload_n 2, 1) := by decide +kernel
theorem d_11_3_13 : decode prog_11_method_3_code 13 = .ok (.iadd, 1) := by decide +kernel
theorem d_11_3_14 : decode prog_11_method_3_code 14 = .ok (.iastore, 1) := by decide +kernel
theorem d_11_3_15 : decode prog_11_method_3_code 15 = .ok (.aload_n 0, 1) := by decide +kernel
theorem d_11_3_16 : decode prog_11_method_3_code 16 = .ok (.dup, 1) := by decide +kernel
theorem d_11_3_17 : decode prog_11_method_3_code 17 = .ok (.getfield 48, 3) := by decide +kernel
theorem d_11_3_20 : decode prog_11_method_3_code 20 = .ok (.iload_n 2, 1) := by decide +kernel
theorem d_11_3_21 : decode prog_11_method_3_code 21 = .ok (.iadd, 1) := by decide +kernel
theorem d_11_3_22 : decode prog_11_method_3_code 22 = .ok (.putfield 48, 3) := by decide +kernel
theorem d_11_3_25 : decode prog_11_method_3_code 25 = .ok (.aload_n 0, 1) := by decide +kernel
theorem d_11_3_26 : decode prog_11_method_3_code 26 = .ok (.getfield 40, 3) := by decide +kernel
theorem d_11_3_29 : decode prog_11_method_3_code 29 = .ok (.iload_n 1, 1) := by decide +kernel
theorem d_11_3_30 : decode prog_11_method_3_code 30 = .ok (.aload_n 0, 1) := by decide +kernel
theorem d_11_3_31 : decode prog_11_method_3_code 31 = .ok (.getfield 44, 3) := by decide +kernel
theorem d_11_3_34 : decode prog_11_method_3_code 34 = .ok (.invokevirtual 69, 3) := by decide +kernel
theorem d_11_3_37 : decode prog_11_method_3_code 37 = .ok (.istore_n 3, 1) := by decide +kernel
theorem d_11_3_38 : decode prog_11_method_3_code 38 = .ok (.iload_n 3, 1) := by decide +kernel
theorem d_11_3_39 : decode prog_11_method_3_code 39 = .ok (.iconst (-1), 1) := by decide +kernel
theorem d_11_3_40 : decode prog_11_method_3_code 40 = .ok (.if_icmp .eq 13, 3) := by decide +kernel
theorem d_11_3_43 : decode prog_11_method_3_code 43 = .ok (.aload_n 0, 1) := by decide +kernel
theorem d_11_3_44 : decode prog_11_method_3_code 44 = .ok (.getfield 15, 3) := by decide +kernel
theorem d_11_3_47 : decode prog_11_method_3_code 47 = .ok (.iload_n 3, 1) := by decide +kernel
theorem d_11_3_48 : decode prog_11_method_3_code 48 = .ok (.dup2, 1) := by decide +kernel
theorem d_11_3_49 : decode prog_11_method_3_code 49 = .ok (.iaload, 1) := by decide +kernel
theorem d_11_3_50 : decode prog_11_method_3_code 50 = .ok (.iload_n 2, 1) := by decide +kernel
theorem d_11_3_51 : decode prog_11_method_3_code 51 = .ok (.iadd, 1) := by decide +kernel
theorem d_11_3_52 : decode prog_11_method_3_code 52 = .ok (.iastore, 1) := by decide +kernel
theorem d_11_3_53 : decode prog_11_method_3_code 53 = .ok (.aload_n 0, 1) := by decide +kernel
theorem d_11_3_54 : decode prog_11_method_3_code 54 = .ok (.getfield 44, 3) := by decide +kernel
theorem d_11_3_57 : decode prog_11_method_3_code 57 = .ok (.istore 4, 2) := by decide +kernel
theorem d_11_3_59 : decode prog_11_method_3_code 59 = .ok (.iconst 0, 1) := by decide +kernel
theorem d_11_3_60 : decode prog_11_method_3_code 60 = .ok (.istore 5, 2) := by decide +kernel
theorem d_11_3_62 : decode prog_11_method_3_code 62 = .ok (.iload 5, 2) := by decide +kernel
theorem d_11_3_64 : decode prog_11_method_3_code 64 = .ok (.aload_n 0, 1) := by decide +kernel
theorem d_11_3_65 : decode prog_11_method_3_code 65 = .ok (.getfield 40, 3) := by decide +kernel
theorem d_11_3_68 : decode prog_11_method_3_code 68 = .ok (.getfield 73, 3) := by decide +kernel
theorem d_11_3_71 : decode prog_11_method_3_code 71 = .ok (.iload_n 1, 1) := by decide +kernel
theorem d_11_3_72 : decode prog_11_method_3_code 72 = .ok (.iaload, 1) := by decide +kernel
theorem d_11_3_73 : decode prog_11_method_3_code 73 = .ok (.if_icmp .ge 46, 3) := by decide +kernel
theorem d_11_3_76 : decode prog_11_method_3_code 76 = .ok (.aload_n 0, 1) := by decide +kernel
theorem d_11_3_77 : decode prog_11_method_3_code 77 = .ok (.getfield 40, 3) := by decide +kernel
theorem d_11_3_80 : decode prog_11_method_3_code 80 = .ok (.getfield 76, 3) := by decide +kernel
theorem d_11_3_83 : decode prog_11_method_3_code 83 = .ok (.iload_n 1, 1) := by decide +kernel
theorem d_11_3_84 : decode prog_11_method_3_code 84 = .ok (.aaload, 1) := by decide +kernel
theorem d_11_3_85 : decode prog_11_method_3_code 85 = .ok (.iload 5, 2) := by decide +kernel
theorem d_11_3_87 : decode prog_11_method_3_code 87 = .ok (.iaload, 1) := by decide +kernel
theorem d_11_3_88 : decode prog_11_method_3_code 88 = .ok (.aload_n 0, 1) := by decide +kernel
theorem d_11_3_89 : decode prog_11_method_3_code 89 = .ok (.getfield 44, 3) := by decide +kernel
theorem d_11_3_92 : decode prog_11_method_3_code 92 = .ok (.iand, 1) := by decide +kernel
theorem d_11_3_93 : decode prog_11_method_3_code 93 = .ok (.istore 6, 2) := by decide +kernel
theorem d_11_3_95 : decode prog_11_method_3_code 95 = .ok (.iload 4, 2) := by decide +kernel
theorem d_11_3_97 : decode prog_11_method_3_code 97 = .ok (.iload 6, 2) := by decide +kernel
theorem d_11_3_99 : decode prog_11_method_3_code 99 = .ok (.iconst (-1), 1) := by decide +kernel
theorem d_11_3_100 : decode prog_11_method_3_code 100 = .ok (.ixor, 1) := by decide +kernel
theorem d_11_3_101 : decode prog_11_method_3_code 101 = .ok (.iand, 1) := by decide +kernel
theorem d_11_3_102 : decode prog_11_method_3_code 102 = .ok (.istore 4, 2) := by decide +kernel
theorem d_11_3_104 : decode prog_11_method_3_code 104 = .ok (.aload_n 0, 1) := by decide +kernel
theorem d_11_3_105 : decode prog_11_method_3_code 105 = .ok (.iload 6, 2) := by decide +kernel
theorem d_11_3_107 : decode prog_11_method_3_code 107 = .ok (.iload 4, 2) := by decide +kernel
theorem d_11_3_109 : decode prog_11_method_3_code 109 = .ok (.iload_n 2, 1) := by decide +kernel
theorem d_11_3_110 : decode prog_11_method_3_code 110 = .ok (.invokevirtual 80, 3) := by decide +kernel
theorem d_11_3_113 : decode prog_11_method_3_code 113 = .ok (.iinc 5 1, 3) := by decide +kernel
theorem d_11_3_116 : decode prog_11_method_3_code 116 = .ok (.goto (-54), 3) := by decide +kernel
theorem d_11_3_119 : decode prog_11_method_3_code 119 = .ok (.iconst 0, 1) := by decide +kernel
theorem d_11_3_120 : decode prog_11_method_3_code 120 = .ok (.istore 5, 2) := by decide +kernel
theorem d_11_3_122 : decode prog_11_method_3_code 122 = .ok (.iload 5, 2) := by decide +kernel
theorem d_11_3_124 : decode prog_11_method_3_code 124 = .ok (.aload_n 0, 1) := by decide +kernel
theorem d_11_3_125 : decode prog_11_method_3_code 125 = .ok (.getfield 40, 3) := by decide +kernel
theorem d_11_3_128 : decode prog_11_method_3_code 128 = .ok (.getfield 84, 3) := by decide +kernel
theorem d_11_3_131 : decode prog_11_method_3_code 131 = .ok (.if_icmp .ge 42, 3) := by decide +kernel
theorem d_11_3_134 : decode prog_11_method_3_code 134 = .ok (.aload_n 0, 1) := by decide +kernel
theorem d_11_3_135 : decode prog_11_method_3_code 135 = .ok (.getfield 40, 3) := by decide +kernel
theorem d_11_3_138 : decode prog_11_method_3_code 138 = .ok (.getfield 87, 3) := by decide +kernel
theorem d_11_3_141 : decode prog_11_method_3_code 141 = .ok (.iload_n 1, 1) := by decide +kernel
theorem d_11_3_142 : decode prog_11_method_3_code 142 = .ok (.iaload, 1) := by decide +kernel
theorem d_11_3_143 : decode prog_11_method_3_code 143 = .ok (.aload_n 0, 1) := by decide +kernel
theorem d_11_3_144 : decode prog_11_method_3_code 144 = .ok (.getfield 44, 3) := by decide +kernel
theorem d_11_3_147 : decode prog_11_method_3_code 147 = .ok (.iand, 1) := by decide +kernel
theorem d_11_3_148 : decode prog_11_method_3_code 148 = .ok (.iload 5, 2) := by decide +kernel
theorem d_11_3_150 : decode prog_11_method_3_code 150 = .ok (.invokestatic 90, 3) := by decide +kernel
theorem d_11_3_153 : decode prog_11_method_3_code 153 = .ok (.ifCond .eq 14, 3) := by decide +kernel
theorem d_11_3_156 : decode prog_11_method_3_code 156 = .ok (.aload_n 0, 1) := by decide +kernel
theorem d_11_3_157 : decode prog_11_method_3_code 157 = .ok (.getfield 18, 3) := by decide +kernel
theorem d_11_3_160 : decode prog_11_method_3_code 160 = .ok (.iload 5, 2) := by decide +kernel
theorem d_11_3_162 : decode prog_11_method_3_code 162 = .ok (.dup2, 1) := by decide +kernel
theorem d_11_3_163 : decode prog_11_method_3_code 163 = .ok (.iaload, 1) := by decide +kernel
theorem d_11_3_164 : decode prog_11_method_3_code 164 = .ok (.iload_n 2, 1) := by decide +kernel
theorem d_11_3_165 : decode prog_11_method_3_code 165 = .ok (.iadd, 1) := by decide +kernel
theorem d_11_3_166 : decode prog_11_method_3_code 166 = .ok (.iastore, 1) := by decide +kernel
theorem d_11_3_167 : decode prog_11_method_3_code 167 = .ok (.iinc 5 1, 3) := by decide +kernel
theorem d_11_3_170 : decode prog_11_method_3_code 170 = .ok (.goto (-48), 3) := by decide +kernel
theorem d_11_3_173 : decode prog_11_method_3_code 173 = .ok (.return_, 1) := by decide +kernel
theorem d_11_4_0 : decode prog_11_method_4_code 0 = .ok (.iconst 0, 1) := by decide +kernel
theorem d_11_4_1 : decode prog_11_method_4_code 1 = .ok (.istore 4, 2) := by decide +kernel
theorem d_11_4_3 : decode prog_11_method_4_code 3 = .ok (.iload 4, 2) := by decide +kernel
theorem d_11_4_5 : decode prog_11_method_4_code 5 = .ok (.aload_n 0, 1) := by decide +kernel
theorem d_11_4_6 : decode prog_11_method_4_code 6 = .ok (.getfield 40, 3) := by decide +kernel
theorem d_11_4_9 : decode prog_11_method_4_code 9 = .ok (.getfield 84, 3) := by decide +kernel
theorem d_11_4_12 : decode prog_11_method_4_code 12 = .ok (.if_icmp .ge 65, 3) := by decide +kernel
theorem d_11_4_15 : decode prog_11_method_4_code 15 = .ok (.iload_n 1, 1) := by decide +kernel
theorem d_11_4_16 : decode prog_11_method_4_code 16 = .ok (.iload 4, 2) := by decide +kernel
theorem d_11_4_18 : decode prog_11_method_4_code 18 = .ok (.invokestatic 90, 3) := by decide +kernel
theorem d_11_4_21 : decode prog_11_method_4_code 21 = .ok (.ifCond .eq 50, 3) := by decide +kernel
theorem d_11_4_24 : decode prog_11_method_4_code 24 = .ok (.iconst 0, 1) := by decide +kernel
theorem d_11_4_25 : decode prog_11_method_4_code 25 = .ok (.istore 5, 2) := by decide +kernel
theorem d_11_4_27 : decode prog_11_method_4_code 27 = .ok (.iload 5, 2) := by decide +kernel
theorem d_11_4_29 : decode prog_11_method_4_code 29 = .ok (.aload_n 0, 1) := by decide +kernel
theorem d_11_4_30 : decode prog_11_method_4_code 30 = .ok (.getfield 40, 3) := by decide +kernel
theorem d_11_4_33 : decode prog_11_method_4_code 33 = .ok (.getfield 84, 3) := by decide +kernel
theorem d_11_4_36 : decode prog_11_method_4_code 36 = .ok (.if_icmp .ge 35, 3) := by decide +kernel
theorem d_11_4_39 : decode prog_11_method_4_code 39 = .ok (.iload_n 2, 1) := by decide +kernel
theorem d_11_4_40 : decode prog_11_method_4_code 40 = .ok (.iload 5, 2) := by decide +kernel
theorem d_11_4_42 : decode prog_11_method_4_code 42 = .ok (.invokestatic 90, 3) := by decide +kernel
theorem d_11_4_45 : decode prog_11_method_4_code 45 = .ok (.ifCond .eq 20, 3) := by decide +kernel
theorem d_11_4_48 : decode prog_11_method_4_code 48 = .ok (.aload_n 0, 1) := by decide +kernel
theorem d_11_4_49 : decode prog_11_method_4_code 49 = .ok (.getfield 21, 3) := by decide +kernel
theorem d_11_4_52 : decode prog_11_method_4_code 52 = .ok (.iload 4, 2) := by decide +kernel
theorem d_11_4_54 : decode prog_11_method_4_code 54 = .ok (.bipush 8, 2) := by decide +kernel
theorem d_11_4_56 : decode prog_11_method_4_code 56 = .ok (.imul, 1) := by decide +kernel
theorem d_11_4_57 : decode prog_11_method_4_code 57 = .ok (.iload 5, 2) := by decide +kernel
theorem d_11_4_59 : decode prog_11_method_4_code 59 = .ok (.iadd, 1) := by decide +kernel
theorem d_11_4_60 : decode prog_11_method_4_code 60 = .ok (.dup2, 1) := by decide +kernel
theorem d_11_4_61 : decode prog_11_method_4_code 61 = .ok (.iaload, 1) := by decide +kernel
theorem d_11_4_62 : decode prog_11_method_4_code 62 = .ok (.iload_n 3, 1) := by decide +kernel
theorem d_11_4_63 : decode prog_11_method_4_code 63 = .ok (.iadd, 1) := by decide +kernel
theorem d_11_4_64 : decode prog_11_method_4_code 64 = .ok (.iastore, 1) := by decide +kernel
theorem d_11_4_65 : decode prog_11_method_4_code 65 = .ok (.iinc 5 1, 3) := by decide +kernel
theorem d_11_4_68 : decode prog_11_method_4_code 68 = .ok (.goto (-41), 3) := by decide +kernel
theorem d_11_4_71 : decode prog_11_method_4_code 71 = .ok (.iinc 4 1, 3) := by decide +kernel
theorem d_11_4_74 : decode prog_11_method_4_code 74 = .ok (.goto (-71), 3) := by decide +kernel
theorem d_11_4_77 : decode prog_11_method_4_code 77 = .ok (.return_, 1) := by decide +kernel
theorem d_11_5_0 : decode prog_11_method_5_code 0 = .ok (.aload_n 0, 1) := by decide +kernel
theorem d_11_5_1 : decode prog_11_method_5_code 1 = .ok (.getfield 21, 3) := by decide +kernel
theorem d_11_5_4 : decode prog_11_method_5_code 4 = .ok (.iload_n 1, 1) := by decide +kernel
theorem d_11_5_5 : decode prog_11_method_5_code 5 = .ok (.bipush 8, 2) := by decide +kernel
theorem d_11_5_7 : decode prog_11_method_5_code 7 = .ok (.imul, 1) := by decide +kernel
theorem d_11_5_8 : decode prog_11_method_5_code 8 = .ok (.iload_n 2, 1) := by decide +kernel
theorem d_11_5_9 : decode prog_11_method_5_code 9 = .ok (.iadd, 1) := by decide +kernel
theorem d_11_5_10 : decode prog_11_method_5_code 10 = .ok (.iaload, 1) := by decide +kernel
theorem d_11_5_11 : decode prog_11_method_5_code 11 = .ok (.ireturn, 1) := by decide +kernel
theorem d_11_6_0 : decode prog_11_method_6_code 0 = .ok (.aload_n 0, 1) := by decide +kernel
theorem d_11_6_1 : decode prog_11_method_6_code 1 = .ok (.getfield 27, 3) := by decide +kernel
theorem d_11_6_4 : decode prog_11_method_6_code 4 = .ok (.iload_n 1, 1) := by decide +kernel
theorem d_11_6_5 : decode prog_11_method_6_code 5 = .ok (.bipush 8, 2) := by decide +kernel
theorem d_11_6_7 : decode prog_11_method_6_code 7 = .ok (.imul, 1) := by decide +kernel
theorem d_11_6_8 : decode prog_11_method_6_code 8 = .ok (.iload_n 2, 1) := by decide +kernel
theorem d_11_6_9 : decode prog_11_method_6_code 9 = .ok (.iadd, 1) := by decide +kernel
theorem d_11_6_10 : decode prog_11_method_6_code 10 = .ok (.iaload, 1) := by decide +kernel
theorem d_11_6_11 : decode prog_11_method_6_code 11 = .ok (.ireturn, 1) := by decide +kernel
theorem d_11_7_0 : decode prog_11_method_7_code 0 = .ok (.aload_n 0, 1) := by decide +kernel
theorem d_11_7_1 : decode prog_11_method_7_code 1 = .ok (.iload_n 1, 1) := by decide +kernel
theorem d_11_7_2 : decode prog_11_method_7_code 2 = .ok (.iload_n 2, 1) := by decide +kernel
theorem d_11_7_3 : decode prog_11_method_7_code 3 = .ok (.invokevirtual 94, 3) := by decide +kernel
theorem d_11_7_6 : decode prog_11_method_7_code 6 = .ok (.aload_n 0, 1) := by decide +kernel
theorem d_11_7_7 : decode prog_11_method_7_code 7 = .ok (.iload_n 2, 1) := by decide +kernel
theorem d_11_7_8 : decode prog_11_method_7_code 8 = .ok (.iload_n 1, 1) := by decide +kernel
theorem d_11_7_9 : decode prog_11_method_7_code 9 = .ok (.invokevirtual 94, 3) := by decide +kernel
theorem d_11_7_12 : decode prog_11_method_7_code 12 = .ok (.if_icmp .le 7, 3) := by decide +kernel
theorem d_11_7_15 : decode prog_11_method_7_code 15 = .ok (.iconst 1, 1) := by decide +kernel
theorem d_11_7_16 : decode prog_11_method_7_code 16 = .ok (.goto 4, 3) := by decide +kernel
theorem d_11_7_19 : decode prog_11_method_7_code 19 = .ok (.iconst 0, 1) := by decide +kernel
theorem d_11_7_20 : decode prog_11_method_7_code 20 = .ok (.ireturn, 1) := by decide +kernel
theorem d_11_8_0 : decode prog_11_method_8_code 0 = .ok (.aload_n 0, 1) := by decide +kernel
theorem d_11_8_1 : decode prog_11_method_8_code 1 = .ok (.getfield 24, 3) := by decide +kernel
theorem d_11_8_4 : decode prog_11_method_8_code 4 = .ok (.iconst 0, 1) := by decide +kernel
theorem d_11_8_5 : decode prog_11_method_8_code 5 = .ok (.invokestatic 51, 3) := by decide +kernel
theorem d_11_8_8 : decode prog_11_method_8_code 8 = .ok (.iconst 0, 1) := by decide +kernel
theorem d_11_8_9 : decode prog_11_method_8_code 9 = .ok (.istore_n 1, 1) := by decide +kernel
theorem d_11_8_10 : decode prog_11_method_8_code 10 = .ok (.iload_n 1, 1) := by decide +kernel
theorem d_11_8_11 : decode prog_11_method_8_code 11 = .ok (.aload_n 0, 1) := by decide +kernel
theorem d_11_8_12 : decode prog_11_method_8_code 12 = .ok (.getfield 40, 3) := by decide +kernel
theorem d_11_8_15 : decode prog_11_method_8_code 15 = .ok (.getfield 84, 3) := by decide +kernel
theorem d_11_8_18 : decode prog_11_method_8_code 18 = .ok (.if_icmp .ge 49, 3) := by decide +kernel
theorem d_11_8_21 : decode prog_11_method_8_code 21 = .ok (.iconst 0, 1) := by decide +kernel
theorem d_11_8_22 : decode prog_11_method_8_code 22 = .ok (.istore_n 2, 1) := by decide +kernel
theorem d_11_8_23 : decode prog_11_method_8_code 23 = .ok (.iload_n 2, 1) := by decide +kernel
theorem d_11_8_24 : decode prog_11_method_8_code 24 = .ok (.aload_n 0, 1) := by decide +kernel
theorem d_11_8_25 : decode prog_11_method_8_code 25 = .ok (.getfield 40, 3) := by decide +kernel
theorem d_11_8_28 : decode prog_11_method_8_code 28 = .ok (.getfield 84, 3) := by decide +kernel
theorem d_11_8_31 : decode prog_11_method_8_code 31 = .ok (.if_icmp .ge 30, 3) := by decide +kernel
theorem d_11_8_34 : decode prog_11_method_8_code 34 = .ok (.aload_n 0, 1) := by decide +kernel
theorem d_11_8_35 : decode prog_11_method_8_code 35 = .ok (.iload_n 1, 1) := by decide +kernel
theorem d_11_8_36 : decode prog_11_method_8_code 36 = .ok (.iload_n 2, 1) := by decide +kernel
theorem d_11_8_37 : decode prog_11_method_8_code 37 = .ok (.invokevirtual 97, 3) := by decide +kernel
theorem d_11_8_40 : decode prog_11_method_8_code 40 = .ok (.ifCond .eq 15, 3) := by decide +kernel
theorem d_11_8_43 : decode prog_11_method_8_code 43 = .ok (.aload_n 0, 1) := by decide +kernel
theorem d_11_8_44 : decode prog_11_method_8_code 44 = .ok (.getfield 24, 3) := by decide +kernel
theorem d_11_8_47 : decode prog_11_method_8_code 47 = .ok (.iload_n 1, 1) := by decide +kernel
theorem d_11_8_48 : decode prog_11_method_8_code 48 = .ok (.dup2, 1) := by decide +kernel
theorem d_11_8_49 : decode prog_11_method_8_code 49 = .ok (.iaload, 1) := by decide +kernel
theorem d_11_8_50 : decode prog_11_method_8_code 50 = .ok (.iconst 1, 1) := by decide +kernel
theorem d_11_8_51 : decode prog_11_method_8_code 51 = .ok (.iload_n 2, 1) := by decide +kernel
theorem d_11_8_52 : decode prog_11_method_8_code 52 = .ok (.ishl, 1) := by decide +kernel
theorem d_11_8_53 : decode prog_11_method_8_code 53 = .ok (.ior, 1) := by decide +kernel
theorem d_11_8_54 : decode prog_11_method_8_code 54 = .ok (.iastore, 1) := by decide +kernel
theorem d_11_8_55 : decode prog_11_method_8_code 55 = .ok (.iinc 2 1, 3) := by decide +kernel
theorem d_11_8_58 : decode prog_11_method_8_code 58 = .ok (.goto (-35), 3) := by decide +kernel
theorem d_11_8_61 : decode prog_11_method_8_code 61 = .ok (.iinc 1 1, 3) := by decide +kernel
theorem d_11_8_64 : decode prog_11_method_8_code 64 = .ok (.goto (-54), 3) := by decide +kernel
theorem d_11_8_67 : decode prog_11_method_8_code 67 = .ok (.return_, 1) := by decide +kernel
theorem d_11_9_0 : decode prog_11_method_9_code 0 = .ok (.aload_n 0, 1) := by decide +kernel
theorem d_11_9_1 : decode prog_11_method_9_code 1 = .ok (.invokevirtual 100, 3) := by decide +kernel
theorem d_11_9_4 : decode prog_11_method_9_code 4 = .ok (.iconst 0, 1) := by decide +kernel
theorem d_11_9_5 : decode prog_11_method_9_code 5 = .ok (.istore_n 1, 1) := by decide +kernel
theorem d_11_9_6 : decode prog_11_method_9_code 6 = .ok (.iload_n 1, 1) := by decide +kernel
theorem d_11_9_7 : decode prog_11_method_9_code 7 = .ok (.aload_n 0, 1) := by decide +kernel
theorem d_11_9_8 : decode prog_11_method_9_code 8 = .ok (.getfield 40, 3) := by decide +kernel
theorem d_11_9_11 : decode prog_11_method_9_code 11 = .ok (.getfield 84, 3) := by decide +kernel
theorem d_11_9_14 : decode prog_11_method_9_code 14 = .ok (.if_icmp .ge 30, 3) := by decide +kernel
theorem d_11_9_17 : decode prog_11_method_9_code 17 = .ok (.aload_n 0, 1) := by decide +kernel
theorem d_11_9_18 : decode prog_11_method_9_code 18 = .ok (.getfield 24, 3) := by decide +kernel
theorem d_11_9_21 : decode prog_11_method_9_code 21 = .ok (.iload_n 1, 1) := by decide +kernel
theorem d_11_9_22 : decode prog_11_method_9_code 22 = .ok (.iaload, 1) := by decide +kernel
theorem d_11_9_23 : decode prog_11_method_9_code 23 = .ok (.aload_n 0, 1) := by decide +kernel
theorem d_11_9_24 : decode prog_11_method_9_code 24 = .ok (.getfield 44, 3) := by decide +kernel
theorem d_11_9_27 : decode prog_11_method_9_code 27 = .ok (.iconst 1, 1) := by decide +kernel
theorem d_11_9_28 : decode prog_11_method_9_code 28 = .ok (.iload_n 1, 1) := by decide +kernel
theorem d_11_9_29 : decode prog_11_method_9_code 29 = .ok (.ishl, 1) := by decide +kernel
theorem d_11_9_30 : decode prog_11_method_9_code 30 = .ok (.iconst (-1), 1) := by decide +kernel
theorem d_11_9_31 : decode prog_11_method_9_code 31 = .ok (.ixor, 1) := by decide +kernel
theorem d_11_9_32 : decode prog_11_method_9_code 32 = .ok (.iand, 1) := by decide +kernel
theorem d_11_9_33 : decode prog_11_method_9_code 33 = .ok (.if_icmp .ne 5, 3) := by decide +kernel
theorem d_11_9_36 : decode prog_11_method_9_code 36 = .ok (.iload_n 1, 1) := by decide +kernel
theorem d_11_9_37 : decode prog_11_method_9_code 37 = .ok (.ireturn, 1) := by decide +kernel
theorem d_11_9_38 : decode prog_11_method_9_code 38 = .ok (.iinc 1 1, 3) := by decide +kernel
theorem d_11_9_41 : decode prog_11_method_9_code 41 = .ok (.goto (-35), 3) := by decide +kernel
theorem d_11_9_44 : decode prog_11_method_9_code 44 = .ok (.iconst (-1), 1) := by decide +kernel
theorem d_11_9_45 : decode prog_11_method_9_code 45 = .ok (.ireturn, 1) := by decide +kernel
theorem d_12_1_0 : decode prog_12_method_1_code 0 = .ok (.aload_n 0, 1) := by decide +kernel
theorem d_12_1_1 : decode prog_12_method_1_code 1 = .ok (.invokespecial 3, 3) := by decide +kernel
