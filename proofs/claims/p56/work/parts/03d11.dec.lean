theorem d_7_4_58 : decode prog_7_method_4_code 58 = .ok (.getfield 19, 3) := by decide +kernel
theorem d_7_4_61 : decode prog_7_method_4_code 61 = .ok (.iload_n 1, 1) := by decide +kernel
theorem d_7_4_62 : decode prog_7_method_4_code 62 = .ok (.invokevirtual 35, 3) := by decide +kernel
theorem d_7_4_65 : decode prog_7_method_4_code 65 = .ok (.istore 6, 2) := by decide +kernel
theorem d_7_4_67 : decode prog_7_method_4_code 67 = .ok (.aload_n 0, 1) := by decide +kernel
theorem d_7_4_68 : decode prog_7_method_4_code 68 = .ok (.getfield 19, 3) := by decide +kernel
theorem d_7_4_71 : decode prog_7_method_4_code 71 = .ok (.bipush 30, 2) := by decide +kernel
theorem d_7_4_73 : decode prog_7_method_4_code 73 = .ok (.iconst (-1), 1) := by decide +kernel
theorem d_7_4_74 : decode prog_7_method_4_code 74 = .ok (.invokevirtual 50, 3) := by decide +kernel
theorem d_7_4_77 : decode prog_7_method_4_code 77 = .ok (.iload 6, 2) := by decide +kernel
theorem d_7_4_79 : decode prog_7_method_4_code 79 = .ok (.iconst (-1), 1) := by decide +kernel
theorem d_7_4_80 : decode prog_7_method_4_code 80 = .ok (.if_icmp .eq 14, 3) := by decide +kernel
theorem d_7_4_83 : decode prog_7_method_4_code 83 = .ok (.iload_n 2, 1) := by decide +kernel
theorem d_7_4_84 : decode prog_7_method_4_code 84 = .ok (.iload 6, 2) := by decide +kernel
theorem d_7_4_86 : decode prog_7_method_4_code 86 = .ok (.invokestatic 75, 3) := by decide +kernel
theorem d_7_4_89 : decode prog_7_method_4_code 89 = .ok (.ifCond .eq 5, 3) := by decide +kernel
theorem d_7_4_92 : decode prog_7_method_4_code 92 = .ok (.iconst 1, 1) := by decide +kernel
theorem d_7_4_93 : decode prog_7_method_4_code 93 = .ok (.ireturn, 1) := by decide +kernel
theorem d_7_4_94 : decode prog_7_method_4_code 94 = .ok (.aload_n 0, 1) := by decide +kernel
theorem d_7_4_95 : decode prog_7_method_4_code 95 = .ok (.invokevirtual 78, 3) := by decide +kernel
theorem d_7_4_98 : decode prog_7_method_4_code 98 = .ok (.iinc 5 1, 3) := by decide +kernel
theorem d_7_4_101 : decode prog_7_method_4_code 101 = .ok (.goto (-66), 3) := by decide +kernel
theorem d_7_4_104 : decode prog_7_method_4_code 104 = .ok (.iconst 0, 1) := by decide +kernel
theorem d_7_4_105 : decode prog_7_method_4_code 105 = .ok (.ireturn, 1) := by decide +kernel
theorem d_7_5_0 : decode prog_7_method_5_code 0 = .ok (.aload_n 0, 1) := by decide +kernel
theorem d_7_5_1 : decode prog_7_method_5_code 1 = .ok (.getfield 15, 3) := by decide +kernel
theorem d_7_5_4 : decode prog_7_method_5_code 4 = .ok (.invokevirtual 81, 3) := by decide +kernel
theorem d_7_5_7 : decode prog_7_method_5_code 7 = .ok (.iconst 0, 1) := by decide +kernel
theorem d_7_5_8 : decode prog_7_method_5_code 8 = .ok (.istore_n 1, 1) := by decide +kernel
theorem d_7_5_9 : decode prog_7_method_5_code 9 = .ok (.iload_n 1, 1) := by decide +kernel
theorem d_7_5_10 : decode prog_7_method_5_code 10 = .ok (.aload_n 0, 1) := by decide +kernel
theorem d_7_5_11 : decode prog_7_method_5_code 11 = .ok (.getfield 15, 3) := by decide +kernel
theorem d_7_5_14 : decode prog_7_method_5_code 14 = .ok (.getfield 69, 3) := by decide +kernel
theorem d_7_5_17 : decode prog_7_method_5_code 17 = .ok (.if_icmp .ge 23, 3) := by decide +kernel
theorem d_7_5_20 : decode prog_7_method_5_code 20 = .ok (.aload_n 0, 1) := by decide +kernel
theorem d_7_5_21 : decode prog_7_method_5_code 21 = .ok (.getfield 15, 3) := by decide +kernel
theorem d_7_5_24 : decode prog_7_method_5_code 24 = .ok (.aload_n 0, 1) := by decide +kernel
theorem d_7_5_25 : decode prog_7_method_5_code 25 = .ok (.getfield 9, 3) := by decide +kernel
theorem d_7_5_28 : decode prog_7_method_5_code 28 = .ok (.iload_n 1, 1) := by decide +kernel
theorem d_7_5_29 : decode prog_7_method_5_code 29 = .ok (.iaload, 1) := by decide +kernel
theorem d_7_5_30 : decode prog_7_method_5_code 30 = .ok (.iconst 1, 1) := by decide +kernel
theorem d_7_5_31 : decode prog_7_method_5_code 31 = .ok (.invokevirtual 84, 3) := by decide +kernel
theorem d_7_5_34 : decode prog_7_method_5_code 34 = .ok (.iinc 1 1, 3) := by decide +kernel
theorem d_7_5_37 : decode prog_7_method_5_code 37 = .ok (.goto (-28), 3) := by decide +kernel
theorem d_7_5_40 : decode prog_7_method_5_code 40 = .ok (.aload_n 0, 1) := by decide +kernel
theorem d_7_5_41 : decode prog_7_method_5_code 41 = .ok (.getfield 15, 3) := by decide +kernel
theorem d_7_5_44 : decode prog_7_method_5_code 44 = .ok (.getfield 88, 3) := by decide +kernel
theorem d_7_5_47 : decode prog_7_method_5_code 47 = .ok (.bipush 30, 2) := by decide +kernel
theorem d_7_5_49 : decode prog_7_method_5_code 49 = .ok (.aload_n 0, 1) := by decide +kernel
theorem d_7_5_50 : decode prog_7_method_5_code 50 = .ok (.getfield 15, 3) := by decide +kernel
theorem d_7_5_53 : decode prog_7_method_5_code 53 = .ok (.getfield 61, 3) := by decide +kernel
theorem d_7_5_56 : decode prog_7_method_5_code 56 = .ok (.bipush 30, 2) := by decide +kernel
theorem d_7_5_58 : decode prog_7_method_5_code 58 = .ok (.aaload, 1) := by decide +kernel
theorem d_7_5_59 : decode prog_7_method_5_code 59 = .ok (.iconst 0, 1) := by decide +kernel
theorem d_7_5_60 : decode prog_7_method_5_code 60 = .ok (.iaload, 1) := by decide +kernel
theorem d_7_5_61 : decode prog_7_method_5_code 61 = .ok (.iastore, 1) := by decide +kernel
theorem d_7_5_62 : decode prog_7_method_5_code 62 = .ok (.return_, 1) := by decide +kernel
theorem d_7_6_0 : decode prog_7_method_6_code 0 = .ok (.aload_n 0, 1) := by decide +kernel
theorem d_7_6_1 : decode prog_7_method_6_code 1 = .ok (.getfield 15, 3) := by decide +kernel
theorem d_7_6_4 : decode prog_7_method_6_code 4 = .ok (.getfield 69, 3) := by decide +kernel
theorem d_7_6_7 : decode prog_7_method_6_code 7 = .ok (.iconst 1, 1) := by decide +kernel
theorem d_7_6_8 : decode prog_7_method_6_code 8 = .ok (.isub, 1) := by decide +kernel
theorem d_7_6_9 : decode prog_7_method_6_code 9 = .ok (.istore_n 1, 1) := by decide +kernel
theorem d_7_6_10 : decode prog_7_method_6_code 10 = .ok (.iload_n 1, 1) := by decide +kernel
theorem d_7_6_11 : decode prog_7_method_6_code 11 = .ok (.iconst 1, 1) := by decide +kernel
theorem d_7_6_12 : decode prog_7_method_6_code 12 = .ok (.isub, 1) := by decide +kernel
theorem d_7_6_13 : decode prog_7_method_6_code 13 = .ok (.istore_n 2, 1) := by decide +kernel
theorem d_7_6_14 : decode prog_7_method_6_code 14 = .ok (.iload_n 2, 1) := by decide +kernel
theorem d_7_6_15 : decode prog_7_method_6_code 15 = .ok (.ifCond .lt 26, 3) := by decide +kernel
theorem d_7_6_18 : decode prog_7_method_6_code 18 = .ok (.aload_n 0, 1) := by decide +kernel
theorem d_7_6_19 : decode prog_7_method_6_code 19 = .ok (.getfield 9, 3) := by decide +kernel
theorem d_7_6_22 : decode prog_7_method_6_code 22 = .ok (.iload_n 2, 1) := by decide +kernel
theorem d_7_6_23 : decode prog_7_method_6_code 23 = .ok (.iaload, 1) := by decide +kernel
theorem d_7_6_24 : decode prog_7_method_6_code 24 = .ok (.aload_n 0, 1) := by decide +kernel
theorem d_7_6_25 : decode prog_7_method_6_code 25 = .ok (.getfield 9, 3) := by decide +kernel
theorem d_7_6_28 : decode prog_7_method_6_code 28 = .ok (.iload_n 2, 1) := by decide +kernel
theorem d_7_6_29 : decode prog_7_method_6_code 29 = .ok (.iconst 1, 1) := by decide +kernel
theorem d_7_6_30 : decode prog_7_method_6_code 30 = .ok (.iadd, 1) := by decide +kernel
theorem d_7_6_31 : decode prog_7_method_6_code 31 = .ok (.iaload, 1) := by decide +kernel
theorem d_7_6_32 : decode prog_7_method_6_code 32 = .ok (.if_icmp .le 9, 3) := by decide +kernel
theorem d_7_6_35 : decode prog_7_method_6_code 35 = .ok (.iinc 2 (-1), 3) := by decide +kernel
theorem d_7_6_38 : decode prog_7_method_6_code 38 = .ok (.goto (-24), 3) := by decide +kernel
theorem d_7_6_41 : decode prog_7_method_6_code 41 = .ok (.iload_n 2, 1) := by decide +kernel
theorem d_7_6_42 : decode prog_7_method_6_code 42 = .ok (.ifCond .ge 4, 3) := by decide +kernel
theorem d_7_6_45 : decode prog_7_method_6_code 45 = .ok (.return_, 1) := by decide +kernel
theorem d_7_6_46 : decode prog_7_method_6_code 46 = .ok (.iload_n 1, 1) := by decide +kernel
theorem d_7_6_47 : decode prog_7_method_6_code 47 = .ok (.istore_n 3, 1) := by decide +kernel
theorem d_7_6_48 : decode prog_7_method_6_code 48 = .ok (.iload_n 3, 1) := by decide +kernel
theorem d_7_6_49 : decode prog_7_method_6_code 49 = .ok (.iload_n 2, 1) := by decide +kernel
theorem d_7_6_50 : decode prog_7_method_6_code 50 = .ok (.if_icmp .le 24, 3) := by decide +kernel
theorem d_7_6_53 : decode prog_7_method_6_code 53 = .ok (.aload_n 0, 1) := by decide +kernel
theorem d_7_6_54 : decode prog_7_method_6_code 54 = .ok (.getfield 9, 3) := by decide +kernel
theorem d_7_6_57 : decode prog_7_method_6_code 57 = .ok (.iload_n 3, 1) := by decide +kernel
theorem d_7_6_58 : decode prog_7_method_6_code 58 = .ok (.iaload, 1) := by decide +kernel
theorem d_7_6_59 : decode prog_7_method_6_code 59 = .ok (.aload_n 0, 1) := by decide +kernel
theorem d_7_6_60 : decode prog_7_method_6_code 60 = .ok (.getfield 9, 3) := by decide +kernel
theorem d_7_6_63 : decode prog_7_method_6_code 63 = .ok (.iload_n 2, 1) := by decide +kernel
theorem d_7_6_64 : decode prog_7_method_6_code 64 = .ok (.iaload, 1) := by decide +kernel
theorem d_7_6_65 : decode prog_7_method_6_code 65 = .ok (.if_icmp .ge 9, 3) := by decide +kernel
theorem d_7_6_68 : decode prog_7_method_6_code 68 = .ok (.iinc 3 (-1), 3) := by decide +kernel
theorem d_7_6_71 : decode prog_7_method_6_code 71 = .ok (.goto (-23), 3) := by decide +kernel
theorem d_7_6_74 : decode prog_7_method_6_code 74 = .ok (.aload_n 0, 1) := by decide +kernel
theorem d_7_6_75 : decode prog_7_method_6_code 75 = .ok (.iload_n 2, 1) := by decide +kernel
theorem d_7_6_76 : decode prog_7_method_6_code 76 = .ok (.iload_n 3, 1) := by decide +kernel
theorem d_7_6_77 : decode prog_7_method_6_code 77 = .ok (.invokevirtual 91, 3) := by decide +kernel
theorem d_7_6_80 : decode prog_7_method_6_code 80 = .ok (.iload_n 2, 1) := by decide +kernel
theorem d_7_6_81 : decode prog_7_method_6_code 81 = .ok (.iconst 1, 1) := by decide +kernel
theorem d_7_6_82 : decode prog_7_method_6_code 82 = .ok (.iadd, 1) := by decide +kernel
theorem d_7_6_83 : decode prog_7_method_6_code 83 = .ok (.istore 4, 2) := by decide +kernel
theorem d_7_6_85 : decode prog_7_method_6_code 85 = .ok (.iload_n 1, 1) := by decide +kernel
theorem d_7_6_86 : decode prog_7_method_6_code 86 = .ok (.istore 5, 2) := by decide +kernel
theorem d_7_6_88 : decode prog_7_method_6_code 88 = .ok (.iload 4, 2) := by decide +kernel
theorem d_7_6_90 : decode prog_7_method_6_code 90 = .ok (.iload 5, 2) := by decide +kernel
theorem d_7_6_92 : decode prog_7_method_6_code 92 = .ok (.if_icmp .ge 20, 3) := by decide +kernel
theorem d_7_6_95 : decode prog_7_method_6_code 95 = .ok (.aload_n 0, 1) := by decide +kernel
theorem d_7_6_96 : decode prog_7_method_6_code 96 = .ok (.iload 4, 2) := by decide +kernel
theorem d_7_6_98 : decode prog_7_method_6_code 98 = .ok (.iload 5, 2) := by decide +kernel
theorem d_7_6_100 : decode prog_7_method_6_code 100 = .ok (.invokevirtual 91, 3) := by decide +kernel
theorem d_7_6_103 : decode prog_7_method_6_code 103 = .ok (.iinc 4 1, 3) := by decide +kernel
theorem d_7_6_106 : decode prog_7_method_6_code 106 = .ok (.iinc 5 (-1), 3) := by decide +kernel
theorem d_7_6_109 : decode prog_7_method_6_code 109 = .ok (.goto (-21), 3) := by decide +kernel
theorem d_7_6_112 : decode prog_7_method_6_code 112 = .ok (.return_, 1) := by decide +kernel
theorem d_7_7_0 : decode prog_7_method_7_code 0 = .ok (.aload_n 0, 1) := by decide +kernel
theorem d_7_7_1 : decode prog_7_method_7_code 1 = .ok (.getfield 9, 3) := by decide +kernel
theorem d_7_7_4 : decode prog_7_method_7_code 4 = .ok (.iload_n 1, 1) := by decide +kernel
theorem d_7_7_5 : decode prog_7_method_7_code 5 = .ok (.iaload, 1) := by decide +kernel
theorem d_7_7_6 : decode prog_7_method_7_code 6 = .ok (.istore_n 3, 1) := by decide +kernel
theorem d_7_7_7 : decode prog_7_method_7_code 7 = .ok (.aload_n 0, 1) := by decide +kernel
theorem d_7_7_8 : decode prog_7_method_7_code 8 = .ok (.getfield 9, 3) := by decide +kernel
theorem d_7_7_11 : decode prog_7_method_7_code 11 = .ok (.iload_n 1, 1) := by decide +kernel
theorem d_7_7_12 : decode prog_7_method_7_code 12 = .ok (.aload_n 0, 1) := by decide +kernel
theorem d_7_7_13 : decode prog_7_method_7_code 13 = .ok (.getfield 9, 3) := by decide +kernel
theorem d_7_7_16 : decode prog_7_method_7_code 16 = .ok (.iload_n 2, 1) := by decide +kernel
theorem d_7_7_17 : decode prog_7_method_7_code 17 = .ok (.iaload, 1) := by decide +kernel
theorem d_7_7_18 : decode prog_7_method_7_code 18 = .ok (.iastore, 1) := by decide +kernel
theorem d_7_7_19 : decode prog_7_method_7_code 19 = .ok (.aload_n 0, 1) := by decide +kernel
theorem d_7_7_20 : decode prog_7_method_7_code 20 = .ok (.getfield 9, 3) := by decide +kernel
theorem d_7_7_23 : decode prog_7_method_7_code 23 = .ok (.iload_n 2, 1) := by decide +kernel
theorem d_7_7_24 : decode prog_7_method_7_code 24 = .ok (.iload_n 3, 1) := by decide +kernel
theorem d_7_7_25 : decode prog_7_method_7_code 25 = .ok (.iastore, 1) := by decide +kernel
theorem d_7_7_26 : decode prog_7_method_7_code 26 = .ok (.return_, 1) := by decide +kernel
theorem d_8_1_0 : decode prog_8_method_1_code 0 = .ok (.aload_n 0, 1) := by decide +kernel
theorem d_8_1_1 : decode prog_8_method_1_code 1 = .ok (.invokespecial 3, 3) := by decide +kernel
theorem d_8_1_4 : decode prog_8_method_1_code 4 = .ok (.aload_n 0, 1) := by decide +kernel
theorem d_8_1_5 : decode prog_8_method_1_code 5 = .ok (.bipush 60, 2) := by decide +kernel
theorem d_8_1_7 : decode prog_8_method_1_code 7 = .ok (.newarray .int, 2) := by decide +kernel
theorem d_8_1_9 : decode prog_8_method_1_code 9 = .ok (.putfield 9, 3) := by decide +kernel
theorem d_8_1_12 : decode prog_8_method_1_code 12 = .ok (.aload_n 0, 1) := by decide +kernel
theorem d_8_1_13 : decode prog_8_method_1_code 13 = .ok (.bipush 8, 2) := by decide +kernel
theorem d_8_1_15 : decode prog_8_method_1_code 15 = .ok (.newarray .int, 2) := by decide +kernel
theorem d_8_1_17 : decode prog_8_method_1_code 17 = .ok (.putfield 15, 3) := by decide +kernel
theorem d_8_1_20 : decode prog_8_method_1_code 20 = .ok (.aload_n 0, 1) := by decide +kernel
theorem d_8_1_21 : decode prog_8_method_1_code 21 = .ok (.bipush 8, 2) := by decide +kernel
theorem d_8_1_23 : decode prog_8_method_1_code 23 = .ok (.newarray .int, 2) := by decide +kernel
theorem d_8_1_25 : decode prog_8_method_1_code 25 = .ok (.putfield 18, 3) := by decide +kernel
theorem d_8_1_28 : decode prog_8_method_1_code 28 = .ok (.aload_n 0, 1) := by decide +kernel
theorem d_8_1_29 : decode prog_8_method_1_code 29 = .ok (.bipush 8, 2) := by decide +kernel
theorem d_8_1_31 : decode prog_8_method_1_code 31 = .ok (.newarray .int, 2) := by decide +kernel
theorem d_8_1_33 : decode prog_8_method_1_code 33 = .ok (.putfield 21, 3) := by decide +kernel
theorem d_8_1_36 : decode prog_8_method_1_code 36 = .ok (.return_, 1) := by decide +kernel
theorem d_9_11_0 : decode prog_9_method_11_code 0 = .ok (.iload_n 1, 1) := by decide +kernel
theorem d_9_11_1 : decode prog_9_method_11_code 1 = .ok (.tableswitch 100 2 8 #[51, 100, 100, 43, 61, 71, 81], 43) := by decide +kernel
theorem d_9_11_44 : decode prog_9_method_11_code 44 = .ok (.aload_n 0, 1) := by decide +kernel
theorem d_9_11_45 : decode prog_9_method_11_code 45 = .ok (.iload_n 2, 1) := by decide +kernel
theorem d_9_11_46 : decode prog_9_method_11_code 46 = .ok (.putfield 44, 3) := by decide +kernel
theorem d_9_11_49 : decode prog_9_method_11_code 49 = .ok (.goto 52, 3) := by decide +kernel
theorem d_9_11_52 : decode prog_9_method_11_code 52 = .ok (.aload_n 0, 1) := by decide +kernel
theorem d_9_11_53 : decode prog_9_method_11_code 53 = .ok (.getfield 18, 3) := by decide +kernel
theorem d_9_11_56 : decode prog_9_method_11_code 56 = .ok (.iload_n 2, 1) := by decide +kernel
theorem d_9_11_57 : decode prog_9_method_11_code 57 = .ok (.iload_n 3, 1) := by decide +kernel
theorem d_9_11_58 : decode prog_9_method_11_code 58 = .ok (.iastore, 1) := by decide +kernel
theorem d_9_11_59 : decode prog_9_method_11_code 59 = .ok (.goto 42, 3) := by decide +kernel
theorem d_9_11_62 : decode prog_9_method_11_code 62 = .ok (.aload_n 0, 1) := by decide +kernel
theorem d_9_11_63 : decode prog_9_method_11_code 63 = .ok (.getfield 9, 3) := by decide +kernel
theorem d_9_11_66 : decode prog_9_method_11_code 66 = .ok (.iload_n 2, 1) := by decide +kernel
theorem d_9_11_67 : decode prog_9_method_11_code 67 = .ok (.iload_n 3, 1) := by decide +kernel
theorem d_9_11_68 : decode prog_9_method_11_code 68 = .ok (.iastore, 1) := by decide +kernel
theorem d_9_11_69 : decode prog_9_method_11_code 69 = .ok (.goto 32, 3) := by decide +kernel
theorem d_9_11_72 : decode prog_9_method_11_code 72 = .ok (.aload_n 0, 1) := by decide +kernel
theorem d_9_11_73 : decode prog_9_method_11_code 73 = .ok (.getfield 15, 3) := by decide +kernel
theorem d_9_11_76 : decode prog_9_method_11_code 76 = .ok (.iload_n 2, 1) := by decide +kernel
theorem d_9_11_77 : decode prog_9_method_11_code 77 = .ok (.iload_n 3, 1) := by decide +kernel
theorem d_9_11_78 : decode prog_9_method_11_code 78 = .ok (.iastore, 1) := by decide +kernel
theorem d_9_11_79 : decode prog_9_method_11_code 79 = .ok (.goto 22, 3) := by decide +kernel
theorem d_9_11_82 : decode prog_9_method_11_code 82 = .ok (.aload_n 0, 1) := by decide +kernel
theorem d_9_11_83 : decode prog_9_method_11_code 83 = .ok (.aload_n 0, 1) := by decide +kernel
theorem d_9_11_84 : decode prog_9_method_11_code 84 = .ok (.getfield 48, 3) := by decide +kernel
theorem d_9_11_87 : decode prog_9_method_11_code 87 = .ok (.bipush 21, 2) := by decide +kernel
theorem d_9_11_89 : decode prog_9_method_11_code 89 = .ok (.iadd, 1) := by decide +kernel
theorem d_9_11_90 : decode prog_9_method_11_code 90 = .ok (.iconst 1, 1) := by decide +kernel
theorem d_9_11_91 : decode prog_9_method_11_code 91 = .ok (.isub, 1) := by decide +kernel
theorem d_9_11_92 : decode prog_9_method_11_code 92 = .ok (.bipush 21, 2) := by decide +kernel
theorem d_9_11_94 : decode prog_9_method_11_code 94 = .ok (.irem, 1) := by decide +kernel
theorem d_9_11_95 : decode prog_9_method_11_code 95 = .ok (.putfield 48, 3) := by decide +kernel
theorem d_9_11_98 : decode prog_9_method_11_code 98 = .ok (.goto 3, 3) := by decide +kernel
theorem d_9_11_101 : decode prog_9_method_11_code 101 = .ok (.return_, 1) := by decide +kernel
theorem d_9_12_0 : decode prog_9_method_12_code 0 = .ok (.aload_n 0, 1) := by decide +kernel
theorem d_9_12_1 : decode prog_9_method_12_code 1 = .ok (.invokevirtual 130, 3) := by decide +kernel
theorem d_9_12_4 : decode prog_9_method_12_code 4 = .ok (.getfield 123, 3) := by decide +kernel
theorem d_9_12_7 : decode prog_9_method_12_code 7 = .ok (.astore_n 1, 1) := by decide +kernel
theorem d_9_12_8 : decode prog_9_method_12_code 8 = .ok (.iconst 0, 1) := by decide +kernel
theorem d_9_12_9 : decode prog_9_method_12_code 9 = .ok (.istore_n 2, 1) := by decide +kernel
theorem d_9_12_10 : decode prog_9_method_12_code 10 = .ok (.iload_n 2, 1) := by decide +kernel
theorem d_9_12_11 : decode prog_9_method_12_code 11 = .ok (.aload_n 0, 1) := by decide +kernel
theorem d_9_12_12 : decode prog_9_method_12_code 12 = .ok (.getfield 44, 3) := by decide +kernel
theorem d_9_12_15 : decode prog_9_method_12_code 15 = .ok (.if_icmp .ge 67, 3) := by decide +kernel
theorem d_9_12_18 : decode prog_9_method_12_code 18 = .ok (.iconst 0, 1) := by decide +kernel
theorem d_9_12_19 : decode prog_9_method_12_code 19 = .ok (.istore_n 3, 1) := by decide +kernel
theorem d_9_12_20 : decode prog_9_method_12_code 20 = .ok (.iload_n 3, 1) := by decide +kernel
theorem d_9_12_21 : decode prog_9_method_12_code 21 = .ok (.aload_n 0, 1) := by decide +kernel
theorem d_9_12_22 : decode prog_9_method_12_code 22 = .ok (.getfield 44, 3) := by decide +kernel
theorem d_9_12_25 : decode prog_9_method_12_code 25 = .ok (.if_icmp .ge 51, 3) := by decide +kernel
theorem d_9_12_28 : decode prog_9_method_12_code 28 = .ok (.aload_n 0, 1) := by decide +kernel
theorem d_9_12_29 : decode prog_9_method_12_code 29 = .ok (.getfield 9, 3) := by decide +kernel
theorem d_9_12_32 : decode prog_9_method_12_code 32 = .ok (.iload_n 2, 1) := by decide +kernel
theorem d_9_12_33 : decode prog_9_method_12_code 33 = .ok (.iaload, 1) := by decide +kernel
theorem d_9_12_34 : decode prog_9_method_12_code 34 = .ok (.aload_n 0, 1) := by decide +kernel
theorem d_9_12_35 : decode prog_9_method_12_code 35 = .ok (.getfield 9, 3) := by decide +kernel
theorem d_9_12_38 : decode prog_9_method_12_code 38 = .ok (.iload_n 3, 1) := by decide +kernel
theorem d_9_12_39 : decode prog_9_method_12_code 39 = .ok (.iaload, 1) := by decide +kernel
theorem d_9_12_40 : decode prog_9_method_12_code 40 = .ok (.if_icmp .le 30, 3) := by decide +kernel
theorem d_9_12_43 : decode prog_9_method_12_code 43 = .ok (.aload_n 1, 1) := by decide +kernel
theorem d_9_12_44 : decode prog_9_method_12_code 44 = .ok (.iload_n 2, 1) := by decide +kernel
theorem d_9_12_45 : decode prog_9_method_12_code 45 = .ok (.iaload, 1) := by decide +kernel
theorem d_9_12_46 : decode prog_9_method_12_code 46 = .ok (.aload_n 1, 1) := by decide +kernel
theorem d_9_12_47 : decode prog_9_method_12_code 47 = .ok (.iload_n 3, 1) := by decide +kernel
theorem d_9_12_48 : decode prog_9_method_12_code 48 = .ok (.iaload, 1) := by decide +kernel
theorem d_9_12_49 : decode prog_9_method_12_code 49 = .ok (.if_icmp .ge 21, 3) := by decide +kernel
theorem d_9_12_52 : decode prog_9_method_12_code 52 = .ok (.aload_n 0, 1) := by decide +kernel
theorem d_9_12_53 : decode prog_9_method_12_code 53 = .ok (.iload_n 2, 1) := by decide +kernel
theorem d_9_12_54 : decode prog_9_method_12_code 54 = .ok (.invokevirtual 134, 3) := by decide +kernel
theorem d_9_12_57 : decode prog_9_method_12_code 57 = .ok (.ifCond .eq 13, 3) := by decide +kernel
theorem d_9_12_60 : decode prog_9_method_12_code 60 = .ok (.aload_n 0, 1) := by decide +kernel
theorem d_9_12_61 : decode prog_9_method_12_code 61 = .ok (.iload_n 3, 1) := by decide +kernel
theorem d_9_12_62 : decode prog_9_method_12_code 62 = .ok (.invokevirtual 134, 3) := by decide +kernel
theorem d_9_12_65 : decode prog_9_method_12_code 65 = .ok (.ifCond .eq 5, 3) := by decide +kernel
theorem d_9_12_68 : decode prog_9_method_12_code 68 = .ok (.iconst 1, 1) := by decide +kernel
theorem d_9_12_69 : decode prog_9_method_12_code 69 = .ok (.ireturn, 1) := by decide +kernel
theorem d_9_12_70 : decode prog_9_method_12_code 70 = .ok (.iinc 3 1, 3) := by decide +kernel
theorem d_9_12_73 : decode prog_9_method_12_code 73 = .ok (.goto (-53), 3) := by decide +kernel
theorem d_9_12_76 : decode prog_9_method_12_code 76 = .ok (.iinc 2 1, 3) := by decide +kernel
theorem d_9_12_79 : decode prog_9_method_12_code 79 = .ok (.goto (-69), 3) := by decide +kernel
theorem d_9_12_82 : decode prog_9_method_12_code 82 = .ok (.iconst 0, 1) := by decide +kernel
theorem d_9_12_83 : decode prog_9_method_12_code 83 = .ok (.ireturn, 1) := by decide +kernel
theorem d_9_13_0 : decode prog_9_method_13_code 0 = .ok (.aload_n 0, 1) := by decide +kernel
theorem d_9_13_1 : decode prog_9_method_13_code 1 = .ok (.invokevirtual 130, 3) := by decide +kernel
theorem d_9_13_4 : decode prog_9_method_13_code 4 = .ok (.astore_n 2, 1) := by decide +kernel
theorem d_9_13_5 : decode prog_9_method_13_code 5 = .ok (.iload_n 1, 1) := by decide +kernel
theorem d_9_13_6 : decode prog_9_method_13_code 6 = .ok (.aload_n 2, 1) := by decide +kernel
theorem d_9_13_7 : decode prog_9_method_13_code 7 = .ok (.getfield 110, 3) := by decide +kernel
theorem d_9_13_10 : decode prog_9_method_13_code 10 = .ok (.if_icmp .ge 40, 3) := by decide +kernel
theorem d_9_13_13 : decode prog_9_method_13_code 13 = .ok (.aload_n 0, 1) := by decide +kernel
theorem d_9_13_14 : decode prog_9_method_13_code 14 = .ok (.getfield 15, 3) := by decide +kernel
theorem d_9_13_17 : decode prog_9_method_13_code 17 = .ok (.iload_n 1, 1) := by decide +kernel
theorem d_9_13_18 : decode prog_9_method_13_code 18 = .ok (.iaload, 1) := by decide +kernel
theorem d_9_13_19 : decode prog_9_method_13_code 19 = .ok (.ifCond .ne 31, 3) := by decide +kernel
theorem d_9_13_22 : decode prog_9_method_13_code 22 = .ok (.aload_n 2, 1) := by decide +kernel
theorem d_9_13_23 : decode prog_9_method_13_code 23 = .ok (.getfield 125, 3) := by decide +kernel
theorem d_9_13_26 : decode prog_9_method_13_code 26 = .ok (.iload_n 1, 1) := by decide +kernel
theorem d_9_13_27 : decode prog_9_method_13_code 27 = .ok (.iaload, 1) := by decide +kernel
theorem d_9_13_28 : decode prog_9_method_13_code 28 = .ok (.ifCond .ne 22, 3) := by decide +kernel
theorem d_9_13_31 : decode prog_9_method_13_code 31 = .ok (.aload_n 0, 1) := by decide +kernel
theorem d_9_13_32 : decode prog_9_method_13_code 32 = .ok (.getfield 9, 3) := by decide +kernel
theorem d_9_13_35 : decode prog_9_method_13_code 35 = .ok (.iload_n 1, 1) := by decide +kernel
theorem d_9_13_36 : decode prog_9_method_13_code 36 = .ok (.iaload, 1) := by decide +kernel
theorem d_9_13_37 : decode prog_9_method_13_code 37 = .ok (.aload_n 2, 1) := by decide +kernel
theorem d_9_13_38 : decode prog_9_method_13_code 38 = .ok (.getfield 124, 3) := by decide +kernel
theorem d_9_13_41 : decode prog_9_method_13_code 41 = .ok (.iload_n 1, 1) := by decide +kernel
theorem d_9_13_42 : decode prog_9_method_13_code 42 = .ok (.iaload, 1) := by decide +kernel
theorem d_9_13_43 : decode prog_9_method_13_code 43 = .ok (.if_icmp .ne 7, 3) := by decide +kernel
theorem d_9_13_46 : decode prog_9_method_13_code 46 = .ok (.iconst 1, 1) := by decide +kernel
theorem d_9_13_47 : decode prog_9_method_13_code 47 = .ok (.goto 4, 3) := by decide +kernel
theorem d_9_13_50 : decode prog_9_method_13_code 50 = .ok (.iconst 0, 1) := by decide +kernel
theorem d_9_13_51 : decode prog_9_method_13_code 51 = .ok (.ireturn, 1) := by decide +kernel
theorem d_9_1_0 : decode prog_9_method_1_code 0 = .ok (.aload_n 0, 1) := by decide +kernel
theorem d_9_1_1 : decode prog_9_method_1_code 1 = .ok (.invokespecial 3, 3) := by decide +kernel
theorem d_9_1_4 : decode prog_9_method_1_code 4 = .ok (.aload_n 0, 1) := by decide +kernel
theorem d_9_1_5 : decode prog_9_method_1_code 5 = .ok (.bipush 8, 2) := by decide +kernel
theorem d_9_1_7 : decode prog_9_method_1_code 7 = .ok (.newarray .int, 2) := by decide +kernel
theorem d_9_1_9 : decode prog_9_method_1_code 9 = .ok (.putfield 9, 3) := by decide +kernel
theorem d_9_1_12 : decode prog_9_method_1_code 12 = .ok (.aload_n 0, 1) := by decide +kernel
theorem d_9_1_13 : decode prog_9_method_1_code 13 = .ok (.bipush 8, 2) := by decide +kernel
theorem d_9_1_15 : decode prog_9_method_1_code 15 = .ok (.newarray .int, 2) := by decide +kernel
theorem d_9_1_17 : decode prog_9_method_1_code 17 = .ok (.putfield 15, 3) := by decide +kernel
theorem d_9_1_20 : decode prog_9_method_1_code 20 = .ok (.aload_n 0, 1) := by decide +kernel
theorem d_9_1_21 : decode prog_9_method_1_code 21 = .ok (.bipush 8, 2) := by decide +kernel
theorem d_9_1_23 : decode prog_9_method_1_code 23 = .ok (.newarray .int, 2) := by decide +kernel
theorem d_9_1_25 : decode prog_9_method_1_code 25 = .ok (.putfield 18, 3) := by decide +kernel
theorem d_9_1_28 : decode prog_9_method_1_code 28 = .ok (.aload_n 0, 1) := by decide +kernel
theorem d_9_1_29 : decode prog_9_method_1_code 29 = .ok (.new 21, 3) := by decide +kernel
theorem d_9_1_32 : decode prog_9_method_1_code 32 = .ok (.dup, 1) := by decide +kernel
theorem d_9_1_33 : decode prog_9_method_1_code 33 = .ok (.invokespecial 23, 3) := by decide +kernel
theorem d_9_1_36 : decode prog_9_method_1_code 36 = .ok (.putfield 24, 3) := by decide +kernel
theorem d_9_1_39 : decode prog_9_method_1_code 39 = .ok (.aload_n 0, 1) := by decide +kernel
theorem d_9_1_40 : decode prog_9_method_1_code 40 = .ok (.new 21, 3) := by decide +kernel
theorem d_9_1_43 : decode prog_9_method_1_code 43 = .ok (.dup, 1) := by decide +kernel
theorem d_9_1_44 : decode prog_9_method_1_code 44 = .ok (.invokespecial 23, 3) := by decide +kernel
theorem d_9_1_47 : decode prog_9_method_1_code 47 = .ok (.putfield 28, 3) := by decide +kernel
theorem d_9_1_50 : decode prog_9_method_1_code 50 = .ok (.aload_n 0, 1) := by decide +kernel
theorem d_9_1_51 : decode prog_9_method_1_code 51 = .ok (.bipush 8, 2) := by decide +kernel
theorem d_9_1_53 : decode prog_9_method_1_code 53 = .ok (.newarray .int, 2) := by decide +kernel
theorem d_9_1_55 : decode prog_9_method_1_code 55 = .ok (.putfield 31, 3) := by decide +kernel
theorem d_9_1_58 : decode prog_9_method_1_code 58 = .ok (.aload_n 0, 1) := by decide +kernel
theorem d_9_1_59 : decode prog_9_method_1_code 59 = .ok (.bipush 8, 2) := by decide +kernel
theorem d_9_1_61 : decode prog_9_method_1_code 61 = .ok (.newarray .int, 2) := by decide +kernel
theorem d_9_1_63 : decode prog_9_method_1_code 63 = .ok (.putfield 34, 3) := by decide +kernel
theorem d_9_1_66 : decode prog_9_method_1_code 66 = .ok (.aload_n 0, 1) := by decide +kernel
theorem d_9_1_67 : decode prog_9_method_1_code 67 = .ok (.bipush 21, 2) := by decide +kernel
theorem d_9_1_69 : decode prog_9_method_1_code 69 = .ok (.anewarray 37, 3) := by decide +kernel
theorem d_9_1_72 : decode prog_9_method_1_code 72 = .ok (.putfield 39, 3) := by decide +kernel
theorem d_9_1_75 : decode prog_9_method_1_code 75 = .ok (.iconst 0, 1) := by decide +kernel
theorem d_9_1_76 : decode prog_9_method_1_code 76 = .ok (.istore_n 1, 1) := by decide +kernel
theorem d_9_1_77 : decode prog_9_method_1_code 77 = .ok (.iload_n 1, 1) := by decide +kernel
theorem d_9_1_78 : decode prog_9_method_1_code 78 = .ok (.bipush 21, 2) := by decide +kernel
theorem d_9_1_80 : decode prog_9_method_1_code 80 = .ok (.if_icmp .ge 22, 3) := by decide +kernel
theorem d_9_1_83 : decode prog_9_method_1_code 83 = .ok (.aload_n 0, 1) := by decide +kernel
theorem d_9_1_84 : decode prog_9_method_1_code 84 = .ok (.getfield 39, 3) := by decide +kernel
theorem d_9_1_87 : decode prog_9_method_1_code 87 = .ok (.iload_n 1, 1) := by decide +kernel
theorem d_9_1_88 : decode prog_9_method_1_code 88 = .ok (.new 37, 3) := by decide +kernel
theorem d_9_1_91 : decode prog_9_method_1_code 91 = .ok (.dup, 1) := by decide +kernel
theorem d_9_1_92 : decode prog_9_method_1_code 92 = .ok (.invokespecial 43, 3) := by decide +kernel
theorem d_9_1_95 : decode prog_9_method_1_code 95 = .ok (.aastore, 1) := by decide +kernel
theorem d_9_1_96 : decode prog_9_method_1_code 96 = .ok (.iinc 1 1, 3) := by decide +kernel
theorem d_9_1_99 : decode prog_9_method_1_code 99 = .ok (.goto (-22), 3) := by decide +kernel
theorem d_9_1_102 : decode prog_9_method_1_code 102 = .ok (.return_, 1) := by decide +kernel
theorem d_9_2_0 : decode prog_9_method_2_code 0 = .ok (.aload_n 0, 1) := by decide +kernel
theorem d_9_2_1 : decode prog_9_method_2_code 1 = .ok (.getfield 44, 3) := by decide +kernel
theorem d_9_2_4 : decode prog_9_method_2_code 4 = .ok (.istore_n 2, 1) := by decide +kernel
theorem d_9_2_5 : decode prog_9_method_2_code 5 = .ok (.aload_n 0, 1) := by decide +kernel
theorem d_9_2_6 : decode prog_9_method_2_code 6 = .ok (.getfield 9, 3) := by decide +kernel
theorem d_9_2_9 : decode prog_9_method_2_code 9 = .ok (.iload_n 2, 1) := by decide +kernel
theorem d_9_2_10 : decode prog_9_method_2_code 10 = .ok (.iload_n 1, 1) := by decide +kernel
theorem d_9_2_11 : decode prog_9_method_2_code 11 = .ok (.iastore, 1) := by decide +kernel
theorem d_9_2_12 : decode prog_9_method_2_code 12 = .ok (.aload_n 0, 1) := by decide +kernel
theorem d_9_2_13 : decode prog_9_method_2_code 13 = .ok (.getfield 15, 3) := by decide +kernel
theorem d_9_2_16 : decode prog_9_method_2_code 16 = .ok (.iload_n 2, 1) := by decide +kernel
theorem d_9_2_17 : decode prog_9_method_2_code 17 = .ok (.iconst 0, 1) := by decide +kernel
theorem d_9_2_18 : decode prog_9_method_2_code 18 = .ok (.iastore, 1) := by decide +kernel
theorem d_9_2_19 : decode prog_9_method_2_code 19 = .ok (.aload_n 0, 1) := by decide +kernel
theorem d_9_2_20 : decode prog_9_method_2_code 20 = .ok (.getfield 18, 3) := by decide +kernel
theorem d_9_2_23 : decode prog_9_method_2_code 23 = .ok (.iload_n 2, 1) := by decide +kernel
theorem d_9_2_24 : decode prog_9_method_2_code 24 = .ok (.iload_n 2, 1) := by decide +kernel
theorem d_9_2_25 : decode prog_9_method_2_code 25 = .ok (.iastore, 1) := by decide +kernel
theorem d_9_2_26 : decode prog_9_method_2_code 26 = .ok (.aload_n 0, 1) := by decide +kernel
theorem d_9_2_27 : decode prog_9_method_2_code 27 = .ok (.dup, 1) := by decide +kernel
theorem d_9_2_28 : decode prog_9_method_2_code 28 = .ok (.getfield 44, 3) := by decide +kernel
theorem d_9_2_31 : decode prog_9_method_2_code 31 = .ok (.iconst 1, 1) := by decide +kernel
theorem d_9_2_32 : decode prog_9_method_2_code 32 = .ok (.iadd, 1) := by decide +kernel
theorem d_9_2_33 : decode prog_9_method_2_code 33 = .ok (.putfield 44, 3) := by decide +kernel
theorem d_9_2_36 : decode prog_9_method_2_code 36 = .ok (.iload_n 2, 1) := by decide +kernel
theorem d_9_2_37 : decode prog_9_method_2_code 37 = .ok (.ireturn, 1) := by decide +kernel
theorem d_9_3_0 : decode prog_9_method_3_code 0 = .ok (.aload_n 0, 1) := by decide +kernel
theorem d_9_3_1 : decode prog_9_method_3_code 1 = .ok (.getfield 39, 3) := by decide +kernel
theorem d_9_3_4 : decode prog_9_method_3_code 4 = .ok (.aload_n 0, 1) := by decide +kernel
theorem d_9_3_5 : decode prog_9_method_3_code 5 = .ok (.getfield 48, 3) := by decide +kernel
theorem d_9_3_8 : decode prog_9_method_3_code 8 = .ok (.aaload, 1) := by decide +kernel
theorem d_9_3_9 : decode prog_9_method_3_code 9 = .ok (.areturn, 1) := by decide +kernel
theorem d_9_4_0 : decode prog_9_method_4_code 0 = .ok (.iload_n 1, 1) := by decide +kernel
theorem d_9_4_1 : decode prog_9_method_4_code 1 = .ok (.iload_n 2, 1) := by decide +kernel
theorem d_9_4_2 : decode prog_9_method_4_code 2 = .ok (.if_icmp .eq 27, 3) := by decide +kernel
theorem d_9_4_5 : decode prog_9_method_4_code 5 = .ok (.aload_n 0, 1) := by decide +kernel
theorem d_9_4_6 : decode prog_9_method_4_code 6 = .ok (.getfield 15, 3) := by decide +kernel
theorem d_9_4_9 : decode prog_9_method_4_code 9 = .ok (.iload_n 1, 1) := by decide +kernel
theorem d_9_4_10 : decode prog_9_method_4_code 10 = .ok (.iaload, 1) := by decide +kernel
theorem d_9_4_11 : decode prog_9_method_4_code 11 = .ok (.ifCond .le 22, 3) := by decide +kernel
theorem d_9_4_14 : decode prog_9_method_4_code 14 = .ok (.aload_n 0, 1) := by decide +kernel
theorem d_9_4_15 : decode prog_9_method_4_code 15 = .ok (.getfield 15, 3) := by decide +kernel
theorem d_9_4_18 : decode prog_9_method_4_code 18 = .ok (.iload_n 1, 1) := by decide +kernel
theorem d_9_4_19 : decode prog_9_method_4_code 19 = .ok (.iaload, 1) := by decide +kernel
theorem d_9_4_20 : decode prog_9_method_4_code 20 = .ok (.aload_n 0, 1) := by decide +kernel
theorem d_9_4_21 : decode prog_9_method_4_code 21 = .ok (.getfield 15, 3) := by decide +kernel
theorem d_9_4_24 : decode prog_9_method_4_code 24 = .ok (.iload_n 2, 1) := by decide +kernel
theorem d_9_4_25 : decode prog_9_method_4_code 25 = .ok (.iaload, 1) := by decide +kernel
theorem d_9_4_26 : decode prog_9_method_4_code 26 = .ok (.if_icmp .ne 7, 3) := by decide +kernel
theorem d_9_4_29 : decode prog_9_method_4_code 29 = .ok (.iconst 1, 1) := by decide +kernel
theorem d_9_4_30 : decode prog_9_method_4_code 30 = .ok (.goto 4, 3) := by decide +kernel
theorem d_9_4_33 : decode prog_9_method_4_code 33 = .ok (.iconst 0, 1) := by decide +kernel
theorem d_9_4_34 : decode prog_9_method_4_code 34 = .ok (.ireturn, 1) := by decide +kernel
theorem d_9_5_0 : decode prog_9_method_5_code 0 = .ok (.lconst 0, 1) := by decide +kernel
theorem d_9_5_1 : decode prog_9_method_5_code 1 = .ok (.lstore 4, 2) := by decide +kernel
theorem d_9_5_3 : decode prog_9_method_5_code 3 = .ok (.iconst 0, 1) := by decide +kernel
theorem d_9_5_4 : decode prog_9_method_5_code 4 = .ok (.istore 6, 2) := by decide +kernel
theorem d_9_5_6 : decode prog_9_method_5_code 6 = .ok (.iload 6, 2) := by decide +kernel
theorem d_9_5_8 : decode prog_9_method_5_code 8 = .ok (.aload_n 0, 1) := by decide +kernel
theorem d_9_5_9 : decode prog_9_method_5_code 9 = .ok (.getfield 44, 3) := by decide +kernel
theorem d_9_5_12 : decode prog_9_method_5_code 12 = .ok (.if_icmp .ge 22, 3) := by decide +kernel
theorem d_9_5_15 : decode prog_9_method_5_code 15 = .ok (.lload 4, 2) := by decide +kernel
theorem d_9_5_17 : decode prog_9_method_5_code 17 = .ok (.aload_n 0, 1) := by decide +kernel
theorem d_9_5_18 : decode prog_9_method_5_code 18 = .ok (.getfield 9, 3) := by decide +kernel
theorem d_9_5_21 : decode prog_9_method_5_code 21 = .ok (.iload 6, 2) := by decide +kernel
theorem d_9_5_23 : decode prog_9_method_5_code 23 = .ok (.iaload, 1) := by decide +kernel
theorem d_9_5_24 : decode prog_9_method_5_code 24 = .ok (.i2l, 1) := by decide +kernel
theorem d_9_5_25 : decode prog_9_method_5_code 25 = .ok (.ladd, 1) := by decide +kernel
theorem d_9_5_26 : decode prog_9_method_5_code 26 = .ok (.lstore 4, 2) := by decide +kernel
theorem d_9_5_28 : decode prog_9_method_5_code 28 = .ok (.iinc 6 1, 3) := by decide +kernel
theorem d_9_5_31 : decode prog_9_method_5_code 31 = .ok (.goto (-25), 3) := by decide +kernel
theorem d_9_5_34 : decode prog_9_method_5_code 34 = .ok (.aload_n 0, 1) := by decide +kernel
theorem d_9_5_35 : decode prog_9_method_5_code 35 = .ok (.getfield 24, 3) := by decide +kernel
theorem d_9_5_38 : decode prog_9_method_5_code 38 = .ok (.invokevirtual 51, 3) := by decide +kernel
theorem d_9_5_41 : decode prog_9_method_5_code 41 = .ok (.aload_n 0, 1) := by decide +kernel
theorem d_9_5_42 : decode prog_9_method_5_code 42 = .ok (.iconst 0, 1) := by decide +kernel
theorem d_9_5_43 : decode prog_9_method_5_code 43 = .ok (.putfield 54, 3) := by decide +kernel
theorem d_9_5_46 : decode prog_9_method_5_code 46 = .ok (.iconst 0, 1) := by decide +kernel
theorem d_9_5_47 : decode prog_9_method_5_code 47 = .ok (.istore 6, 2) := by decide +kernel
theorem d_9_5_49 : decode prog_9_method_5_code 49 = .ok (.iload 6, 2) := by decide +kernel
theorem d_9_5_51 : decode prog_9_method_5_code 51 = .ok (.aload_n 0, 1) := by decide +kernel
theorem d_9_5_52 : decode prog_9_method_5_code 52 = .ok (.getfield 44, 3) := by decide +kernel
theorem d_9_5_55 : decode prog_9_method_5_code 55 = .ok (.if_icmp .ge 29, 3) := by decide +kernel
theorem d_9_5_58 : decode prog_9_method_5_code 58 = .ok (.aload_n 0, 1) := by decide +kernel
theorem d_9_5_59 : decode prog_9_method_5_code 59 = .ok (.iload 6, 2) := by decide +kernel
theorem d_9_5_61 : decode prog_9_method_5_code 61 = .ok (.invokevirtual 58, 3) := by decide +kernel
theorem d_9_5_64 : decode prog_9_method_5_code 64 = .ok (.ifCond .eq 14, 3) := by decide +kernel
theorem d_9_5_67 : decode prog_9_method_5_code 67 = .ok (.aload_n 0, 1) := by decide +kernel
theorem d_9_5_68 : decode prog_9_method_5_code 68 = .ok (.iload 6, 2) := by decide +kernel
theorem d_9_5_70 : decode prog_9_method_5_code 70 = .ok (.iload_n 3, 1) := by decide +kernel
theorem d_9_5_71 : decode prog_9_method_5_code 71 = .ok (.i2l, 1) := by decide +kernel
theorem d_9_5_72 : decode prog_9_method_5_code 72 = .ok (.lload 4, 2) := by decide +kernel
theorem d_9_5_74 : decode prog_9_method_5_code 74 = .ok (.lmul, 1) := by decide +kernel
theorem d_9_5_75 : decode prog_9_method_5_code 75 = .ok (.invokevirtual 62, 3) := by decide +kernel
theorem d_9_5_78 : decode prog_9_method_5_code 78 = .ok (.iinc 6 1, 3) := by decide +kernel
theorem d_9_5_81 : decode prog_9_method_5_code 81 = .ok (.goto (-32), 3) := by decide +kernel
theorem d_9_5_84 : decode prog_9_method_5_code 84 = .ok (.aload_n 0, 1) := by decide +kernel
theorem d_9_5_85 : decode prog_9_method_5_code 85 = .ok (.getfield 24, 3) := by decide +kernel
theorem d_9_5_88 : decode prog_9_method_5_code 88 = .ok (.iload_n 1, 1) := by decide +kernel
theorem d_9_5_89 : decode prog_9_method_5_code 89 = .ok (.iload_n 2, 1) := by decide +kernel
theorem d_9_5_90 : decode prog_9_method_5_code 90 = .ok (.invokevirtual 66, 3) := by decide +kernel
theorem d_9_5_93 : decode prog_9_method_5_code 93 = .ok (.aload_n 0, 1) := by decide +kernel
theorem d_9_5_94 : decode prog_9_method_5_code 94 = .ok (.getfield 31, 3) := by decide +kernel
theorem d_9_5_97 : decode prog_9_method_5_code 97 = .ok (.iconst 0, 1) := by decide +kernel
theorem d_9_5_98 : decode prog_9_method_5_code 98 = .ok (.invokestatic 70, 3) := by decide +kernel
theorem d_9_5_101 : decode prog_9_method_5_code 101 = .ok (.iconst 0, 1) := by decide +kernel
theorem d_9_5_102 : decode prog_9_method_5_code 102 = .ok (.istore 6, 2) := by decide +kernel
theorem d_9_5_104 : decode prog_9_method_5_code 104 = .ok (.iload 6, 2) := by decide +kernel
theorem d_9_5_106 : decode prog_9_method_5_code 106 = .ok (.aload_n 0, 1) := by decide +kernel
theorem d_9_5_107 : decode prog_9_method_5_code 107 = .ok (.getfield 24, 3) := by decide +kernel
theorem d_9_5_110 : decode prog_9_method_5_code 110 = .ok (.getfield 76, 3) := by decide +kernel
theorem d_9_5_113 : decode prog_9_method_5_code 113 = .ok (.if_icmp .ge 34, 3) := by decide +kernel
theorem d_9_5_116 : decode prog_9_method_5_code 116 = .ok (.aload_n 0, 1) := by decide +kernel
theorem d_9_5_117 : decode prog_9_method_5_code 117 = .ok (.aload_n 0, 1) := by decide +kernel
theorem d_9_5_118 : decode prog_9_method_5_code 118 = .ok (.getfield 24, 3) := by decide +kernel
theorem d_9_5_121 : decode prog_9_method_5_code 121 = .ok (.getfield 79, 3) := by decide +kernel
theorem d_9_5_124 : decode prog_9_method_5_code 124 = .ok (.iload 6, 2) := by decide +kernel
theorem d_9_5_126 : decode prog_9_method_5_code 126 = .ok (.iaload, 1) := by decide +kernel
theorem d_9_5_127 : decode prog_9_method_5_code 127 = .ok (.iload_n 1, 1) := by decide +kernel
theorem d_9_5_128 : decode prog_9_method_5_code 128 = .ok (.aload_n 0, 1) := by decide +kernel
theorem d_9_5_129 : decode prog_9_method_5_code 129 = .ok (.getfield 24, 3) := by decide +kernel
theorem d_9_5_132 : decode prog_9_method_5_code 132 = .ok (.getfield 82, 3) := by decide +kernel
theorem d_9_5_135 : decode prog_9_method_5_code 135 = .ok (.iload 6, 2) := by decide +kernel
theorem d_9_5_137 : decode prog_9_method_5_code 137 = .ok (.iaload, 1) := by decide +kernel
theorem d_9_5_138 : decode prog_9_method_5_code 138 = .ok (.invokevirtual 85, 3) := by decide +kernel
theorem d_9_5_141 : decode prog_9_method_5_code 141 = .ok (.iinc 6 1, 3) := by decide +kernel
theorem d_9_5_144 : decode prog_9_method_5_code 144 = .ok (.goto (-40), 3) := by decide +kernel
theorem d_9_5_147 : decode prog_9_method_5_code 147 = .ok (.aload_n 0, 1) := by decide +kernel
theorem d_9_5_148 : decode prog_9_method_5_code 148 = .ok (.getfield 24, 3) := by decide +kernel
theorem d_9_5_151 : decode prog_9_method_5_code 151 = .ok (.getfield 76, 3) := by decide +kernel
theorem d_9_5_154 : decode prog_9_method_5_code 154 = .ok (.ireturn, 1) := by decide +kernel
theorem d_9_6_0 : decode prog_9_method_6_code 0 = .ok (.iconst 0, 1) := by decide +kernel
theorem d_9_6_1 : decode prog_9_method_6_code 1 = .ok (.istore_n 2, 1) := by decide +kernel
theorem d_9_6_2 : decode prog_9_method_6_code 2 = .ok (.iload_n 2, 1) := by decide +kernel
theorem d_9_6_3 : decode prog_9_method_6_code 3 = .ok (.iload_n 1, 1) := by decide +kernel
theorem d_9_6_4 : decode prog_9_method_6_code 4 = .ok (.if_icmp .ge 20, 3) := by decide +kernel
theorem d_9_6_7 : decode prog_9_method_6_code 7 = .ok (.aload_n 0, 1) := by decide +kernel
theorem d_9_6_8 : decode prog_9_method_6_code 8 = .ok (.iload_n 1, 1) := by decide +kernel
theorem d_9_6_9 : decode prog_9_method_6_code 9 = .ok (.iload_n 2, 1) := by decide +kernel
theorem d_9_6_10 : decode prog_9_method_6_code 10 = .ok (.invokevirtual 89, 3) := by decide +kernel
theorem d_9_6_13 : decode prog_9_method_6_code 13 = .ok (.ifCond .eq 5, 3) := by decide +kernel
theorem d_9_6_16 : decode prog_9_method_6_code 16 = .ok (.iconst 0, 1) := by decide +kernel
theorem d_9_6_17 : decode prog_9_method_6_code 17 = .ok (.ireturn, 1) := by decide +kernel
theorem d_9_6_18 : decode prog_9_method_6_code 18 = .ok (.iinc 2 1, 3) := by decide +kernel
theorem d_9_6_21 : decode prog_9_method_6_code 21 = .ok (.goto (-19), 3) := by decide +kernel
theorem d_9_6_24 : decode prog_9_method_6_code 24 = .ok (.iconst 1, 1) := by decide +kernel
theorem d_9_6_25 : decode prog_9_method_6_code 25 = .ok (.ireturn, 1) := by decide +kernel
theorem d_9_7_0 : decode prog_9_method_7_code 0 = .ok (.lconst 0, 1) := by decide +kernel
theorem d_9_7_1 : decode prog_9_method_7_code 1 = .ok (.lstore 4, 2) := by decide +kernel
theorem d_9_7_3 : decode prog_9_method_7_code 3 = .ok (.iconst 0, 1) := by decide +kernel
theorem d_9_7_4 : decode prog_9_method_7_code 4 = .ok (.istore 6, 2) := by decide +kernel
theorem d_9_7_6 : decode prog_9_method_7_code 6 = .ok (.iload_n 1, 1) := by decide +kernel
theorem d_9_7_7 : decode prog_9_method_7_code 7 = .ok (.istore 7, 2) := by decide +kernel
theorem d_9_7_9 : decode prog_9_method_7_code 9 = .ok (.iload 7, 2) := by decide +kernel
theorem d_9_7_11 : decode prog_9_method_7_code 11 = .ok (.aload_n 0, 1) := by decide +kernel
theorem d_9_7_12 : decode prog_9_method_7_code 12 = .ok (.getfield 44, 3) := by decide +kernel
theorem d_9_7_15 : decode prog_9_method_7_code 15 = .ok (.if_icmp .ge 35, 3) := by decide +kernel
theorem d_9_7_18 : decode prog_9_method_7_code 18 = .ok (.aload_n 0, 1) := by decide +kernel
theorem d_9_7_19 : decode prog_9_method_7_code 19 = .ok (.iload_n 1, 1) := by decide +kernel
theorem d_9_7_20 : decode prog_9_method_7_code 20 = .ok (.iload 7, 2) := by decide +kernel
theorem d_9_7_22 : decode prog_9_method_7_code 22 = .ok (.invokevirtual 89, 3) := by decide +kernel
theorem d_9_7_25 : decode prog_9_method_7_code 25 = .ok (.ifCond .eq 19, 3) := by decide +kernel
theorem d_9_7_28 : decode prog_9_method_7_code 28 = .ok (.lload 4, 2) := by decide +kernel
theorem d_9_7_30 : decode prog_9_method_7_code 30 = .ok (.aload_n 0, 1) := by decide +kernel
theorem d_9_7_31 : decode prog_9_method_7_code 31 = .ok (.getfield 9, 3) := by decide +kernel
theorem d_9_7_34 : decode prog_9_method_7_code 34 = .ok (.iload 7, 2) := by decide +kernel
theorem d_9_7_36 : decode prog_9_method_7_code 36 = .ok (.iaload, 1) := by decide +kernel
theorem d_9_7_37 : decode prog_9_method_7_code 37 = .ok (.i2l, 1) := by decide +kernel
theorem d_9_7_38 : decode prog_9_method_7_code 38 = .ok (.ladd, 1) := by decide +kernel
theorem d_9_7_39 : decode prog_9_method_7_code 39 = .ok (.lstore 4, 2) := by decide +kernel
theorem d_9_7_41 : decode prog_9_method_7_code 41 = .ok (.iinc 6 1, 3) := by decide +kernel
theorem d_9_7_44 : decode prog_9_method_7_code 44 = .ok (.iinc 7 1, 3) := by decide +kernel
theorem d_9_7_47 : decode prog_9_method_7_code 47 = .ok (.goto (-38), 3) := by decide +kernel
theorem d_9_7_50 : decode prog_9_method_7_code 50 = .ok (.lload 4, 2) := by decide +kernel
theorem d_9_7_52 : decode prog_9_method_7_code 52 = .ok (.lconst 0, 1) := by decide +kernel
theorem d_9_7_53 : decode prog_9_method_7_code 53 = .ok (.lcmp, 1) := by decide +kernel
theorem d_9_7_54 : decode prog_9_method_7_code 54 = .ok (.ifCond .le 52, 3) := by decide +kernel
theorem d_9_7_57 : decode prog_9_method_7_code 57 = .ok (.lload 4, 2) := by decide +kernel
theorem d_9_7_59 : decode prog_9_method_7_code 59 = .ok (.ldc2_w 93, 3) := by decide +kernel
theorem d_9_7_62 : decode prog_9_method_7_code 62 = .ok (.lmul, 1) := by decide +kernel
theorem d_9_7_63 : decode prog_9_method_7_code 63 = .ok (.lload_n 2, 1) := by decide +kernel
theorem d_9_7_64 : decode prog_9_method_7_code 64 = .ok (.lcmp, 1) := by decide +kernel
theorem d_9_7_65 : decode prog_9_method_7_code 65 = .ok (.ifCond .lt 41, 3) := by decide +kernel
theorem d_9_7_68 : decode prog_9_method_7_code 68 = .ok (.aload_n 0, 1) := by decide +kernel
theorem d_9_7_69 : decode prog_9_method_7_code 69 = .ok (.getfield 24, 3) := by decide +kernel
theorem d_9_7_72 : decode prog_9_method_7_code 72 = .ok (.iload_n 1, 1) := by decide +kernel
theorem d_9_7_73 : decode prog_9_method_7_code 73 = .ok (.lload 4, 2) := by decide +kernel
theorem d_9_7_75 : decode prog_9_method_7_code 75 = .ok (.aload_n 0, 1) := by decide +kernel
theorem d_9_7_76 : decode prog_9_method_7_code 76 = .ok (.getfield 18, 3) := by decide +kernel
theorem d_9_7_79 : decode prog_9_method_7_code 79 = .ok (.iload_n 1, 1) := by decide +kernel
theorem d_9_7_80 : decode prog_9_method_7_code 80 = .ok (.iaload, 1) := by decide +kernel
theorem d_9_7_81 : decode prog_9_method_7_code 81 = .ok (.invokevirtual 95, 3) := by decide +kernel
theorem d_9_7_84 : decode prog_9_method_7_code 84 = .ok (.aload_n 0, 1) := by decide +kernel
theorem d_9_7_85 : decode prog_9_method_7_code 85 = .ok (.aload_n 0, 1) := by decide +kernel
theorem d_9_7_86 : decode prog_9_method_7_code 86 = .ok (.getfield 54, 3) := by decide +kernel
theorem d_9_7_89 : decode prog_9_method_7_code 89 = .ok (.ifCond .ne 9, 3) := by decide +kernel
theorem d_9_7_92 : decode prog_9_method_7_code 92 = .ok (.iload 6, 2) := by decide +kernel
theorem d_9_7_94 : decode prog_9_method_7_code 94 = .ok (.iconst 1, 1) := by decide +kernel
theorem d_9_7_95 : decode prog_9_method_7_code 95 = .ok (.if_icmp .le 7, 3) := by decide +kernel
theorem d_9_7_98 : decode prog_9_method_7_code 98 = .ok (.iconst 1, 1) := by decide +kernel
theorem d_9_7_99 : decode prog_9_method_7_code 99 = .ok (.goto 4, 3) := by decide +kernel
theorem d_9_7_102 : decode prog_9_method_7_code 102 = .ok (.iconst 0, 1) := by decide +kernel
theorem d_9_7_103 : decode prog_9_method_7_code 103 = .ok (.putfield 54, 3) := by decide +kernel
theorem d_9_7_106 : decode prog_9_method_7_code 106 = .ok (.return_, 1) := by decide +kernel
theorem d_9_8_0 : decode prog_9_method_8_code 0 = .ok (.aload_n 0, 1) := by decide +kernel
theorem d_9_8_1 : decode prog_9_method_8_code 1 = .ok (.getfield 28, 3) := by decide +kernel
theorem d_9_8_4 : decode prog_9_method_8_code 4 = .ok (.invokevirtual 51, 3) := by decide +kernel
theorem d_9_8_7 : decode prog_9_method_8_code 7 = .ok (.iload_n 1, 1) := by decide +kernel
theorem d_9_8_8 : decode prog_9_method_8_code 8 = .ok (.istore 4, 2) := by decide +kernel
theorem d_9_8_10 : decode prog_9_method_8_code 10 = .ok (.iload 4, 2) := by decide +kernel
theorem d_9_8_12 : decode prog_9_method_8_code 12 = .ok (.aload_n 0, 1) := by decide +kernel
theorem d_9_8_13 : decode prog_9_method_8_code 13 = .ok (.getfield 44, 3) := by decide +kernel
theorem d_9_8_16 : decode prog_9_method_8_code 16 = .ok (.if_icmp .ge 53, 3) := by decide +kernel
theorem d_9_8_19 : decode prog_9_method_8_code 19 = .ok (.aload_n 0, 1) := by decide +kernel
theorem d_9_8_20 : decode prog_9_method_8_code 20 = .ok (.iload_n 1, 1) := by decide +kernel
theorem d_9_8_21 : decode prog_9_method_8_code 21 = .ok (.iload 4, 2) := by decide +kernel
theorem d_9_8_23 : decode prog_9_method_8_code 23 = .ok (.invokevirtual 89, 3) := by decide +kernel
theorem d_9_8_26 : decode prog_9_method_8_code 26 = .ok (.ifCond .eq 37, 3) := by decide +kernel
theorem d_9_8_29 : decode prog_9_method_8_code 29 = .ok (.aload_n 0, 1) := by decide +kernel
theorem d_9_8_30 : decode prog_9_method_8_code 30 = .ok (.getfield 9, 3) := by decide +kernel
theorem d_9_8_33 : decode prog_9_method_8_code 33 = .ok (.iload 4, 2) := by decide +kernel
theorem d_9_8_35 : decode prog_9_method_8_code 35 = .ok (.iaload, 1) := by decide +kernel
theorem d_9_8_36 : decode prog_9_method_8_code 36 = .ok (.ifCond .le 27, 3) := by decide +kernel
theorem d_9_8_39 : decode prog_9_method_8_code 39 = .ok (.aload_n 0, 1) := by decide +kernel
theorem d_9_8_40 : decode prog_9_method_8_code 40 = .ok (.getfield 28, 3) := by decide +kernel
theorem d_9_8_43 : decode prog_9_method_8_code 43 = .ok (.iload 4, 2) := by decide +kernel
theorem d_9_8_45 : decode prog_9_method_8_code 45 = .ok (.aload_n 0, 1) := by decide +kernel
theorem d_9_8_46 : decode prog_9_method_8_code 46 = .ok (.getfield 9, 3) := by decide +kernel
theorem d_9_8_49 : decode prog_9_method_8_code 49 = .ok (.iload 4, 2) := by decide +kernel
theorem d_9_8_51 : decode prog_9_method_8_code 51 = .ok (.iaload, 1) := by decide +kernel
theorem d_9_8_52 : decode prog_9_method_8_code 52 = .ok (.i2l, 1) := by decide +kernel
theorem d_9_8_53 : decode prog_9_method_8_code 53 = .ok (.aload_n 0, 1) := by decide +kernel
theorem d_9_8_54 : decode prog_9_method_8_code 54 = .ok (.getfield 18, 3) := by decide +kernel
theorem d_9_8_57 : decode prog_9_method_8_code 57 = .ok (.iload 4, 2) := by decide +kernel
theorem d_9_8_59 : decode prog_9_method_8_code 59 = .ok (.iaload, 1) := by decide +kernel
theorem d_9_8_60 : decode prog_9_method_8_code 60 = .ok (.invokevirtual 95, 3) := by decide +kernel
theorem d_9_8_63 : decode prog_9_method_8_code 63 = .ok (.iinc 4 1, 3) := by decide +kernel
theorem d_9_8_66 : decode prog_9_method_8_code 66 = .ok (.goto (-56), 3) := by decide +kernel
theorem d_9_8_69 : decode prog_9_method_8_code 69 = .ok (.aload_n 0, 1) := by decide +kernel
theorem d_9_8_70 : decode prog_9_method_8_code 70 = .ok (.getfield 28, 3) := by decide +kernel
theorem d_9_8_73 : decode prog_9_method_8_code 73 = .ok (.iload_n 2, 1) := by decide +kernel
theorem d_9_8_74 : decode prog_9_method_8_code 74 = .ok (.iload_n 3, 1) := by decide +kernel
theorem d_9_8_75 : decode prog_9_method_8_code 75 = .ok (.invokevirtual 66, 3) := by decide +kernel
theorem d_9_8_78 : decode prog_9_method_8_code 78 = .ok (.iconst 0, 1) := by decide +kernel
theorem d_9_8_79 : decode prog_9_method_8_code 79 = .ok (.istore 4, 2) := by decide +kernel
theorem d_9_8_81 : decode prog_9_method_8_code 81 = .ok (.iload 4, 2) := by decide +kernel
theorem d_9_8_83 : decode prog_9_method_8_code 83 = .ok (.aload_n 0, 1) := by decide +kernel
theorem d_9_8_84 : decode prog_9_method_8_code 84 = .ok (.getfield 28, 3) := by decide +kernel
theorem d_9_8_87 : decode prog_9_method_8_code 87 = .ok (.getfield 76, 3) := by decide +kernel
theorem d_9_8_90 : decode prog_9_method_8_code 90 = .ok (.if_icmp .ge 34, 3) := by decide +kernel
theorem d_9_8_93 : decode prog_9_method_8_code 93 = .ok (.aload_n 0, 1) := by decide +kernel
theorem d_9_8_94 : decode prog_9_method_8_code 94 = .ok (.getfield 31, 3) := by decide +kernel
theorem d_9_8_97 : decode prog_9_method_8_code 97 = .ok (.aload_n 0, 1) := by decide +kernel
theorem d_9_8_98 : decode prog_9_method_8_code 98 = .ok (.getfield 28, 3) := by decide +kernel
theorem d_9_8_101 : decode prog_9_method_8_code 101 = .ok (.getfield 79, 3) := by decide +kernel
theorem d_9_8_104 : decode prog_9_method_8_code 104 = .ok (.iload 4, 2) := by decide +kernel
theorem d_9_8_106 : decode prog_9_method_8_code 106 = .ok (.iaload, 1) := by decide +kernel
theorem d_9_8_107 : decode prog_9_method_8_code 107 = .ok (.aload_n 0, 1) := by decide +kernel
theorem d_9_8_108 : decode prog_9_method_8_code 108 = .ok (.getfield 28, 3) := by decide +kernel
theorem d_9_8_111 : decode prog_9_method_8_code 111 = .ok (.getfield 82, 3) := by decide +kernel
theorem d_9_8_114 : decode prog_9_method_8_code 114 = .ok (.iload 4, 2) := by decide +kernel
theorem d_9_8_116 : decode prog_9_method_8_code 116 = .ok (.iaload, 1) := by decide +kernel
theorem d_9_8_117 : decode prog_9_method_8_code 117 = .ok (.iastore, 1) := by decide +kernel
theorem d_9_8_118 : decode prog_9_method_8_code 118 = .ok (.iinc 4 1, 3) := by decide +kernel
theorem d_9_8_121 : decode prog_9_method_8_code 121 = .ok (.goto (-40), 3) := by decide +kernel
theorem d_9_8_124 : decode prog_9_method_8_code 124 = .ok (.return_, 1) := by decide +kernel
theorem d_9_9_0 : decode prog_9_method_9_code 0 = .ok (.aload_n 0, 1) := by decide +kernel
theorem d_9_9_1 : decode prog_9_method_9_code 1 = .ok (.aload_n 0, 1) := by decide +kernel
theorem d_9_9_2 : decode prog_9_method_9_code 2 = .ok (.getfield 48, 3) := by decide +kernel
theorem d_9_9_5 : decode prog_9_method_9_code 5 = .ok (.iconst 1, 1) := by decide +kernel
theorem d_9_9_6 : decode prog_9_method_9_code 6 = .ok (.iadd, 1) := by decide +kernel
theorem d_9_9_7 : decode prog_9_method_9_code 7 = .ok (.bipush 21, 2) := by decide +kernel
theorem d_9_9_9 : decode prog_9_method_9_code 9 = .ok (.irem, 1) := by decide +kernel
theorem d_9_9_10 : decode prog_9_method_9_code 10 = .ok (.putfield 48, 3) := by decide +kernel
theorem d_9_9_13 : decode prog_9_method_9_code 13 = .ok (.aload_n 0, 1) := by decide +kernel
theorem d_9_9_14 : decode prog_9_method_9_code 14 = .ok (.getfield 39, 3) := by decide +kernel
theorem d_9_9_17 : decode prog_9_method_9_code 17 = .ok (.aload_n 0, 1) := by decide +kernel
theorem d_9_9_18 : decode prog_9_method_9_code 18 = .ok (.getfield 48, 3) := by decide +kernel
theorem d_9_9_21 : decode prog_9_method_9_code 21 = .ok (.aaload, 1) := by decide +kernel
theorem d_9_9_22 : decode prog_9_method_9_code 22 = .ok (.astore_n 1, 1) := by decide +kernel
theorem d_9_9_23 : decode prog_9_method_9_code 23 = .ok (.aload_n 1, 1) := by decide +kernel
theorem d_9_9_24 : decode prog_9_method_9_code 24 = .ok (.aload_n 0, 1) := by decide +kernel
theorem d_9_9_25 : decode prog_9_method_9_code 25 = .ok (.getfield 24, 3) := by decide +kernel
theorem d_9_9_28 : decode prog_9_method_9_code 28 = .ok (.getfield 99, 3) := by decide +kernel
theorem d_9_9_31 : decode prog_9_method_9_code 31 = .ok (.bipush 60, 2) := by decide +kernel
theorem d_9_9_33 : decode prog_9_method_9_code 33 = .ok (.invokestatic 102, 3) := by decide +kernel
theorem d_9_9_36 : decode prog_9_method_9_code 36 = .ok (.putfield 108, 3) := by decide +kernel
theorem d_9_9_39 : decode prog_9_method_9_code 39 = .ok (.aload_n 1, 1) := by decide +kernel
theorem d_9_9_40 : decode prog_9_method_9_code 40 = .ok (.aload_n 0, 1) := by decide +kernel
theorem d_9_9_41 : decode prog_9_method_9_code 41 = .ok (.getfield 54, 3) := by decide +kernel
theorem d_9_9_44 : decode prog_9_method_9_code 44 = .ok (.putfield 109, 3) := by decide +kernel
theorem d_9_9_47 : decode prog_9_method_9_code 47 = .ok (.aload_n 1, 1) := by decide +kernel
theorem d_9_9_48 : decode prog_9_method_9_code 48 = .ok (.aload_n 0, 1) := by decide +kernel
theorem d_9_9_49 : decode prog_9_method_9_code 49 = .ok (.getfield 44, 3) := by decide +kernel
theorem d_9_9_52 : decode prog_9_method_9_code 52 = .ok (.putfield 110, 3) := by decide +kernel
theorem d_9_9_55 : decode prog_9_method_9_code 55 = .ok (.aload_n 0, 1) := by decide +kernel
theorem d_9_9_56 : decode prog_9_method_9_code 56 = .ok (.getfield 24, 3) := by decide +kernel
theorem d_9_9_59 : decode prog_9_method_9_code 59 = .ok (.getfield 113, 3) := by decide +kernel
theorem d_9_9_62 : decode prog_9_method_9_code 62 = .ok (.iconst 0, 1) := by decide +kernel
theorem d_9_9_63 : decode prog_9_method_9_code 63 = .ok (.aload_n 1, 1) := by decide +kernel
theorem d_9_9_64 : decode prog_9_method_9_code 64 = .ok (.getfield 116, 3) := by decide +kernel
theorem d_9_9_67 : decode prog_9_method_9_code 67 = .ok (.iconst 0, 1) := by decide +kernel
theorem d_9_9_68 : decode prog_9_method_9_code 68 = .ok (.aload_n 1, 1) := by decide +kernel
theorem d_9_9_69 : decode prog_9_method_9_code 69 = .ok (.getfield 108, 3) := by decide +kernel
theorem d_9_9_72 : decode prog_9_method_9_code 72 = .ok (.invokestatic 117, 3) := by decide +kernel
theorem d_9_9_75 : decode prog_9_method_9_code 75 = .ok (.aload_n 0, 1) := by decide +kernel
theorem d_9_9_76 : decode prog_9_method_9_code 76 = .ok (.getfield 31, 3) := by decide +kernel
theorem d_9_9_79 : decode prog_9_method_9_code 79 = .ok (.iconst 0, 1) := by decide +kernel
theorem d_9_9_80 : decode prog_9_method_9_code 80 = .ok (.aload_n 1, 1) := by decide +kernel
theorem d_9_9_81 : decode prog_9_method_9_code 81 = .ok (.getfield 123, 3) := by decide +kernel
theorem d_9_9_84 : decode prog_9_method_9_code 84 = .ok (.iconst 0, 1) := by decide +kernel
theorem d_9_9_85 : decode prog_9_method_9_code 85 = .ok (.bipush 8, 2) := by decide +kernel
theorem d_9_9_87 : decode prog_9_method_9_code 87 = .ok (.invokestatic 117, 3) := by decide +kernel
theorem d_9_9_90 : decode prog_9_method_9_code 90 = .ok (.aload_n 0, 1) := by decide +kernel
theorem d_9_9_91 : decode prog_9_method_9_code 91 = .ok (.getfield 9, 3) := by decide +kernel
theorem d_9_9_94 : decode prog_9_method_9_code 94 = .ok (.iconst 0, 1) := by decide +kernel
theorem d_9_9_95 : decode prog_9_method_9_code 95 = .ok (.aload_n 1, 1) := by decide +kernel
theorem d_9_9_96 : decode prog_9_method_9_code 96 = .ok (.getfield 124, 3) := by decide +kernel
theorem d_9_9_99 : decode prog_9_method_9_code 99 = .ok (.iconst 0, 1) := by decide +kernel
theorem d_9_9_100 : decode prog_9_method_9_code 100 = .ok (.bipush 8, 2) := by decide +kernel
theorem d_9_9_102 : decode prog_9_method_9_code 102 = .ok (.invokestatic 117, 3) := by decide +kernel
theorem d_9_9_105 : decode prog_9_method_9_code 105 = .ok (.aload_n 0, 1) := by decide +kernel
theorem d_9_9_106 : decode prog_9_method_9_code 106 = .ok (.getfield 15, 3) := by decide +kernel
theorem d_9_9_109 : decode prog_9_method_9_code 109 = .ok (.iconst 0, 1) := by decide +kernel
theorem d_9_9_110 : decode prog_9_method_9_code 110 = .ok (.aload_n 1, 1) := by decide +kernel
theorem d_9_9_111 : decode prog_9_method_9_code 111 = .ok (.getfield 125, 3) := by decide +kernel
theorem d_9_9_114 : decode prog_9_method_9_code 114 = .ok (.iconst 0, 1) := by decide +kernel
theorem d_9_9_115 : decode prog_9_method_9_code 115 = .ok (.bipush 8, 2) := by decide +kernel
theorem d_9_9_117 : decode prog_9_method_9_code 117 = .ok (.invokestatic 117, 3) := by decide +kernel
theorem d_9_9_120 : decode prog_9_method_9_code 120 = .ok (.return_, 1) := by decide +kernel
