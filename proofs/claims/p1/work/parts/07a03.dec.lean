theorem d_14_75_8 : decode prog_14_method_75_code 8 = .ok (.invokevirtual 150, 3) := by decide +kernel
theorem d_14_75_11 : decode prog_14_method_75_code 11 = .ok (.ifCond .eq 5, 3) := by decide +kernel
theorem d_14_75_14 : decode prog_14_method_75_code 14 = .ok (.iconst 0, 1) := by decide +kernel
theorem d_14_75_15 : decode prog_14_method_75_code 15 = .ok (.ireturn, 1) := by decide +kernel
theorem d_14_75_16 : decode prog_14_method_75_code 16 = .ok (.aload_n 0, 1) := by decide +kernel
theorem d_14_75_17 : decode prog_14_method_75_code 17 = .ok (.invokevirtual 300, 3) := by decide +kernel
theorem d_14_75_20 : decode prog_14_method_75_code 20 = .ok (.iload_n 1, 1) := by decide +kernel
theorem d_14_75_21 : decode prog_14_method_75_code 21 = .ok (.invokevirtual 332, 3) := by decide +kernel
theorem d_14_75_24 : decode prog_14_method_75_code 24 = .ok (.istore_n 2, 1) := by decide +kernel
theorem d_14_75_25 : decode prog_14_method_75_code 25 = .ok (.iconst 0, 1) := by decide +kernel
theorem d_14_75_26 : decode prog_14_method_75_code 26 = .ok (.istore_n 3, 1) := by decide +kernel
theorem d_14_75_27 : decode prog_14_method_75_code 27 = .ok (.iload_n 3, 1) := by decide +kernel
theorem d_14_75_28 : decode prog_14_method_75_code 28 = .ok (.aload_n 0, 1) := by decide +kernel
theorem d_14_75_29 : decode prog_14_method_75_code 29 = .ok (.getfield 100, 3) := by decide +kernel
theorem d_14_75_32 : decode prog_14_method_75_code 32 = .ok (.getfield 124, 3) := by decide +kernel
theorem d_14_75_35 : decode prog_14_method_75_code 35 = .ok (.if_icmp .ge 102, 3) := by decide +kernel
theorem d_14_75_137 : decode prog_14_method_75_code 137 = .ok (.iconst (-1), 1) := by decide +kernel
theorem d_14_75_138 : decode prog_14_method_75_code 138 = .ok (.ireturn, 1) := by decide +kernel
theorem d_14_76_0 : decode prog_14_method_76_code 0 = .ok (.aload_n 0, 1) := by decide +kernel
theorem d_14_76_1 : decode prog_14_method_76_code 1 = .ok (.iload_n 1, 1) := by decide +kernel
theorem d_14_76_2 : decode prog_14_method_76_code 2 = .ok (.iconst 0, 1) := by decide +kernel
theorem d_14_76_3 : decode prog_14_method_76_code 3 = .ok (.aload_n 0, 1) := by decide +kernel
theorem d_14_76_4 : decode prog_14_method_76_code 4 = .ok (.getfield 100, 3) := by decide +kernel
theorem d_14_76_7 : decode prog_14_method_76_code 7 = .ok (.getfield 124, 3) := by decide +kernel
theorem d_14_76_10 : decode prog_14_method_76_code 10 = .ok (.iconst 1, 1) := by decide +kernel
theorem d_14_76_11 : decode prog_14_method_76_code 11 = .ok (.isub, 1) := by decide +kernel
theorem d_14_76_12 : decode prog_14_method_76_code 12 = .ok (.invokestatic 127, 3) := by decide +kernel
theorem d_14_76_15 : decode prog_14_method_76_code 15 = .ok (.iconst 1, 1) := by decide +kernel
theorem d_14_76_16 : decode prog_14_method_76_code 16 = .ok (.invokevirtual 150, 3) := by decide +kernel
theorem d_14_76_19 : decode prog_14_method_76_code 19 = .ok (.ifCond .eq 5, 3) := by decide +kernel
theorem d_14_76_22 : decode prog_14_method_76_code 22 = .ok (.iconst 0, 1) := by decide +kernel
theorem d_14_76_23 : decode prog_14_method_76_code 23 = .ok (.ireturn, 1) := by decide +kernel
theorem d_14_78_0 : decode prog_14_method_78_code 0 = .ok (.aload_n 0, 1) := by decide +kernel
theorem d_14_78_1 : decode prog_14_method_78_code 1 = .ok (.iconst 0, 1) := by decide +kernel
theorem d_14_78_2 : decode prog_14_method_78_code 2 = .ok (.putfield 114, 3) := by decide +kernel
theorem d_14_78_5 : decode prog_14_method_78_code 5 = .ok (.aload_n 0, 1) := by decide +kernel
theorem d_14_78_6 : decode prog_14_method_78_code 6 = .ok (.invokevirtual 300, 3) := by decide +kernel
theorem d_14_78_9 : decode prog_14_method_78_code 9 = .ok (.astore_n 1, 1) := by decide +kernel
theorem d_14_78_10 : decode prog_14_method_78_code 10 = .ok (.aload_n 1, 1) := by decide +kernel
theorem d_14_78_11 : decode prog_14_method_78_code 11 = .ok (.iconst 0, 1) := by decide +kernel
theorem d_14_78_12 : decode prog_14_method_78_code 12 = .ok (.invokevirtual 332, 3) := by decide +kernel
theorem d_14_78_15 : decode prog_14_method_78_code 15 = .ok (.istore_n 2, 1) := by decide +kernel
theorem d_14_78_16 : decode prog_14_method_78_code 16 = .ok (.iload_n 2, 1) := by decide +kernel
theorem d_14_78_17 : decode prog_14_method_78_code 17 = .ok (.iconst (-1), 1) := by decide +kernel
theorem d_14_78_18 : decode prog_14_method_78_code 18 = .ok (.if_icmp .ne 5, 3) := by decide +kernel
theorem d_14_78_21 : decode prog_14_method_78_code 21 = .ok (.iconst (-1), 1) := by decide +kernel
theorem d_14_78_22 : decode prog_14_method_78_code 22 = .ok (.ireturn, 1) := by decide +kernel
theorem d_14_79_0 : decode prog_14_method_79_code 0 = .ok (.aload_n 0, 1) := by decide +kernel
theorem d_14_79_1 : decode prog_14_method_79_code 1 = .ok (.iload_n 1, 1) := by decide +kernel
theorem d_14_79_2 : decode prog_14_method_79_code 2 = .ok (.iconst 1, 1) := by decide +kernel
theorem d_14_79_3 : decode prog_14_method_79_code 3 = .ok (.ldc 188, 2) := by decide +kernel
theorem d_14_79_5 : decode prog_14_method_79_code 5 = .ok (.invokestatic 127, 3) := by decide +kernel
theorem d_14_79_8 : decode prog_14_method_79_code 8 = .ok (.ifCond .eq 27, 3) := by decide +kernel
theorem d_14_79_11 : decode prog_14_method_79_code 11 = .ok (.iload_n 2, 1) := by decide +kernel
theorem d_14_79_12 : decode prog_14_method_79_code 12 = .ok (.iconst 0, 1) := by decide +kernel
theorem d_14_79_13 : decode prog_14_method_79_code 13 = .ok (.ldc 188, 2) := by decide +kernel
theorem d_14_79_15 : decode prog_14_method_79_code 15 = .ok (.invokestatic 127, 3) := by decide +kernel
theorem d_14_79_18 : decode prog_14_method_79_code 18 = .ok (.ifCond .eq 17, 3) := by decide +kernel
theorem d_14_79_21 : decode prog_14_method_79_code 21 = .ok (.iload_n 3, 1) := by decide +kernel
theorem d_14_79_22 : decode prog_14_method_79_code 22 = .ok (.iconst 0, 1) := by decide +kernel
theorem d_14_79_23 : decode prog_14_method_79_code 23 = .ok (.ldc 188, 2) := by decide +kernel
theorem d_14_79_25 : decode prog_14_method_79_code 25 = .ok (.invokestatic 127, 3) := by decide +kernel
theorem d_14_79_28 : decode prog_14_method_79_code 28 = .ok (.ifCond .eq 7, 3) := by decide +kernel
theorem d_14_79_31 : decode prog_14_method_79_code 31 = .ok (.iconst 1, 1) := by decide +kernel
theorem d_14_79_32 : decode prog_14_method_79_code 32 = .ok (.goto 4, 3) := by decide +kernel
theorem d_14_79_35 : decode prog_14_method_79_code 35 = .ok (.iconst 0, 1) := by decide +kernel
theorem d_14_79_36 : decode prog_14_method_79_code 36 = .ok (.iconst 1, 1) := by decide +kernel
theorem d_14_79_37 : decode prog_14_method_79_code 37 = .ok (.invokevirtual 150, 3) := by decide +kernel
theorem d_14_79_40 : decode prog_14_method_79_code 40 = .ok (.ifCond .ne 28, 3) := by decide +kernel
theorem d_14_79_43 : decode prog_14_method_79_code 43 = .ok (.aload_n 0, 1) := by decide +kernel
theorem d_14_79_44 : decode prog_14_method_79_code 44 = .ok (.aload_n 0, 1) := by decide +kernel
theorem d_14_79_45 : decode prog_14_method_79_code 45 = .ok (.getfield 100, 3) := by decide +kernel
theorem d_14_79_48 : decode prog_14_method_79_code 48 = .ok (.getfield 375, 3) := by decide +kernel
theorem d_14_79_51 : decode prog_14_method_79_code 51 = .ok (.bipush 16, 2) := by decide +kernel
theorem d_14_79_53 : decode prog_14_method_79_code 53 = .ok (.if_icmp .ge 7, 3) := by decide +kernel
theorem d_14_79_56 : decode prog_14_method_79_code 56 = .ok (.iconst 1, 1) := by decide +kernel
theorem d_14_79_57 : decode prog_14_method_79_code 57 = .ok (.goto 4, 3) := by decide +kernel
theorem d_14_79_61 : decode prog_14_method_79_code 61 = .ok (.iconst 2, 1) := by decide +kernel
theorem d_14_79_62 : decode prog_14_method_79_code 62 = .ok (.invokevirtual 150, 3) := by decide +kernel
theorem d_14_79_65 : decode prog_14_method_79_code 65 = .ok (.ifCond .eq 5, 3) := by decide +kernel
theorem d_14_79_68 : decode prog_14_method_79_code 68 = .ok (.iconst 0, 1) := by decide +kernel
theorem d_14_79_69 : decode prog_14_method_79_code 69 = .ok (.ireturn, 1) := by decide +kernel
theorem d_14_79_70 : decode prog_14_method_79_code 70 = .ok (.aload_n 0, 1) := by decide +kernel
theorem d_14_79_71 : decode prog_14_method_79_code 71 = .ok (.invokevirtual 154, 3) := by decide +kernel
theorem d_14_79_74 : decode prog_14_method_79_code 74 = .ok (.aload_n 0, 1) := by decide +kernel
theorem d_14_79_75 : decode prog_14_method_79_code 75 = .ok (.getfield 100, 3) := by decide +kernel
theorem d_14_79_78 : decode prog_14_method_79_code 78 = .ok (.getfield 378, 3) := by decide +kernel
theorem d_14_79_81 : decode prog_14_method_79_code 81 = .ok (.aload_n 0, 1) := by decide +kernel
theorem d_14_79_82 : decode prog_14_method_79_code 82 = .ok (.getfield 100, 3) := by decide +kernel
theorem d_14_79_85 : decode prog_14_method_79_code 85 = .ok (.getfield 375, 3) := by decide +kernel
theorem d_14_79_88 : decode prog_14_method_79_code 88 = .ok (.iload_n 1, 1) := by decide +kernel
theorem d_14_79_89 : decode prog_14_method_79_code 89 = .ok (.iastore, 1) := by decide +kernel
theorem d_14_79_90 : decode prog_14_method_79_code 90 = .ok (.aload_n 0, 1) := by decide +kernel
theorem d_14_79_91 : decode prog_14_method_79_code 91 = .ok (.getfield 100, 3) := by decide +kernel
theorem d_14_79_94 : decode prog_14_method_79_code 94 = .ok (.getfield 381, 3) := by decide +kernel
theorem d_14_79_97 : decode prog_14_method_79_code 97 = .ok (.aload_n 0, 1) := by decide +kernel
theorem d_14_79_98 : decode prog_14_method_79_code 98 = .ok (.getfield 100, 3) := by decide +kernel
theorem d_14_79_101 : decode prog_14_method_79_code 101 = .ok (.getfield 375, 3) := by decide +kernel
theorem d_14_79_104 : decode prog_14_method_79_code 104 = .ok (.iload_n 2, 1) := by decide +kernel
theorem d_14_79_105 : decode prog_14_method_79_code 105 = .ok (.iastore, 1) := by decide +kernel
theorem d_14_79_106 : decode prog_14_method_79_code 106 = .ok (.aload_n 0, 1) := by decide +kernel
theorem d_14_79_107 : decode prog_14_method_79_code 107 = .ok (.getfield 100, 3) := by decide +kernel
theorem d_14_79_110 : decode prog_14_method_79_code 110 = .ok (.getfield 384, 3) := by decide +kernel
theorem d_14_79_113 : decode prog_14_method_79_code 113 = .ok (.aload_n 0, 1) := by decide +kernel
theorem d_14_79_114 : decode prog_14_method_79_code 114 = .ok (.getfield 100, 3) := by decide +kernel
theorem d_14_79_117 : decode prog_14_method_79_code 117 = .ok (.getfield 375, 3) := by decide +kernel
theorem d_14_79_120 : decode prog_14_method_79_code 120 = .ok (.iload_n 3, 1) := by decide +kernel
theorem d_14_79_121 : decode prog_14_method_79_code 121 = .ok (.iastore, 1) := by decide +kernel
theorem d_14_79_122 : decode prog_14_method_79_code 122 = .ok (.aload_n 0, 1) := by decide +kernel
theorem d_14_79_123 : decode prog_14_method_79_code 123 = .ok (.getfield 100, 3) := by decide +kernel
theorem d_14_79_126 : decode prog_14_method_79_code 126 = .ok (.dup, 1) := by decide +kernel
theorem d_14_79_127 : decode prog_14_method_79_code 127 = .ok (.getfield 375, 3) := by decide +kernel
theorem d_14_79_130 : decode prog_14_method_79_code 130 = .ok (.iconst 1, 1) := by decide +kernel
theorem d_14_79_131 : decode prog_14_method_79_code 131 = .ok (.iadd, 1) := by decide +kernel
theorem d_14_79_132 : decode prog_14_method_79_code 132 = .ok (.putfield 375, 3) := by decide +kernel
theorem d_14_79_135 : decode prog_14_method_79_code 135 = .ok (.aload_n 0, 1) := by decide +kernel
theorem d_14_79_136 : decode prog_14_method_79_code 136 = .ok (.getfield 100, 3) := by decide +kernel
theorem d_14_79_139 : decode prog_14_method_79_code 139 = .ok (.getfield 375, 3) := by decide +kernel
theorem d_14_79_142 : decode prog_14_method_79_code 142 = .ok (.iconst 1, 1) := by decide +kernel
theorem d_14_79_143 : decode prog_14_method_79_code 143 = .ok (.isub, 1) := by decide +kernel
theorem d_14_79_144 : decode prog_14_method_79_code 144 = .ok (.ireturn, 1) := by decide +kernel
theorem d_14_82_0 : decode prog_14_method_82_code 0 = .ok (.aload_n 0, 1) := by decide +kernel
theorem d_14_82_1 : decode prog_14_method_82_code 1 = .ok (.iload_n 1, 1) := by decide +kernel
theorem d_14_82_2 : decode prog_14_method_82_code 2 = .ok (.iconst 1, 1) := by decide +kernel
theorem d_14_82_3 : decode prog_14_method_82_code 3 = .ok (.aload_n 0, 1) := by decide +kernel
theorem d_14_82_4 : decode prog_14_method_82_code 4 = .ok (.getfield 100, 3) := by decide +kernel
theorem d_14_82_7 : decode prog_14_method_82_code 7 = .ok (.getfield 375, 3) := by decide +kernel
theorem d_14_82_10 : decode prog_14_method_82_code 10 = .ok (.invokestatic 127, 3) := by decide +kernel
theorem d_14_82_13 : decode prog_14_method_82_code 13 = .ok (.iconst 1, 1) := by decide +kernel
theorem d_14_82_14 : decode prog_14_method_82_code 14 = .ok (.invokevirtual 150, 3) := by decide +kernel
theorem d_14_82_17 : decode prog_14_method_82_code 17 = .ok (.ireturn, 1) := by decide +kernel
theorem d_14_83_0 : decode prog_14_method_83_code 0 = .ok (.aload_n 0, 1) := by decide +kernel
theorem d_14_83_1 : decode prog_14_method_83_code 1 = .ok (.iload_n 1, 1) := by decide +kernel
theorem d_14_83_2 : decode prog_14_method_83_code 2 = .ok (.invokevirtual 391, 3) := by decide +kernel
theorem d_14_83_5 : decode prog_14_method_83_code 5 = .ok (.ifCond .eq 7, 3) := by decide +kernel
theorem d_14_83_8 : decode prog_14_method_83_code 8 = .ok (.iconst 0, 1) := by decide +kernel
theorem d_14_83_9 : decode prog_14_method_83_code 9 = .ok (.goto 9, 3) := by decide +kernel
theorem d_14_83_18 : decode prog_14_method_83_code 18 = .ok (.ireturn, 1) := by decide +kernel
theorem d_14_84_0 : decode prog_14_method_84_code 0 = .ok (.aload_n 0, 1) := by decide +kernel
theorem d_14_84_1 : decode prog_14_method_84_code 1 = .ok (.iload_n 1, 1) := by decide +kernel
theorem d_14_84_2 : decode prog_14_method_84_code 2 = .ok (.invokevirtual 391, 3) := by decide +kernel
theorem d_14_84_5 : decode prog_14_method_84_code 5 = .ok (.ifCond .ne 19, 3) := by decide +kernel
theorem d_14_84_24 : decode prog_14_method_84_code 24 = .ok (.iconst 0, 1) := by decide +kernel
theorem d_14_84_25 : decode prog_14_method_84_code 25 = .ok (.goto 10, 3) := by decide +kernel
theorem d_14_84_35 : decode prog_14_method_84_code 35 = .ok (.ireturn, 1) := by decide +kernel
theorem d_14_86_0 : decode prog_14_method_86_code 0 = .ok (.aload_n 0, 1) := by decide +kernel
theorem d_14_86_1 : decode prog_14_method_86_code 1 = .ok (.iload_n 1, 1) := by decide +kernel
theorem d_14_86_2 : decode prog_14_method_86_code 2 = .ok (.iconst 1, 1) := by decide +kernel
theorem d_14_86_3 : decode prog_14_method_86_code 3 = .ok (.aload_n 0, 1) := by decide +kernel
theorem d_14_86_4 : decode prog_14_method_86_code 4 = .ok (.getfield 100, 3) := by decide +kernel
theorem d_14_86_7 : decode prog_14_method_86_code 7 = .ok (.getfield 375, 3) := by decide +kernel
theorem d_14_86_10 : decode prog_14_method_86_code 10 = .ok (.invokestatic 127, 3) := by decide +kernel
theorem d_14_86_13 : decode prog_14_method_86_code 13 = .ok (.ifCond .eq 16, 3) := by decide +kernel
theorem d_14_86_29 : decode prog_14_method_86_code 29 = .ok (.iconst 0, 1) := by decide +kernel
theorem d_14_86_30 : decode prog_14_method_86_code 30 = .ok (.iconst 1, 1) := by decide +kernel
theorem d_14_86_31 : decode prog_14_method_86_code 31 = .ok (.invokevirtual 150, 3) := by decide +kernel
theorem d_14_86_34 : decode prog_14_method_86_code 34 = .ok (.ireturn, 1) := by decide +kernel
theorem d_14_87_0 : decode prog_14_method_87_code 0 = .ok (.aload_n 0, 1) := by decide +kernel
theorem d_14_87_1 : decode prog_14_method_87_code 1 = .ok (.iload_n 1, 1) := by decide +kernel
theorem d_14_87_2 : decode prog_14_method_87_code 2 = .ok (.iload_n 2, 1) := by decide +kernel
theorem d_14_87_3 : decode prog_14_method_87_code 3 = .ok (.invokevirtual 397, 3) := by decide +kernel
theorem d_14_87_6 : decode prog_14_method_87_code 6 = .ok (.ifCond .eq 5, 3) := by decide +kernel
theorem d_14_87_9 : decode prog_14_method_87_code 9 = .ok (.iconst 0, 1) := by decide +kernel
theorem d_14_87_10 : decode prog_14_method_87_code 10 = .ok (.ireturn, 1) := by decide +kernel
theorem d_14_88_0 : decode prog_14_method_88_code 0 = .ok (.aload_n 0, 1) := by decide +kernel
theorem d_14_88_1 : decode prog_14_method_88_code 1 = .ok (.iload_n 1, 1) := by decide +kernel
theorem d_14_88_2 : decode prog_14_method_88_code 2 = .ok (.iload_n 2, 1) := by decide +kernel
theorem d_14_88_3 : decode prog_14_method_88_code 3 = .ok (.invokevirtual 397, 3) := by decide +kernel
theorem d_14_88_6 : decode prog_14_method_88_code 6 = .ok (.ifCond .eq 5, 3) := by decide +kernel
theorem d_14_88_9 : decode prog_14_method_88_code 9 = .ok (.iconst 0, 1) := by decide +kernel
theorem d_14_88_10 : decode prog_14_method_88_code 10 = .ok (.ireturn, 1) := by decide +kernel
theorem d_14_89_0 : decode prog_14_method_89_code 0 = .ok (.aload_n 0, 1) := by decide +kernel
theorem d_14_89_1 : decode prog_14_method_89_code 1 = .ok (.iload_n 1, 1) := by decide +kernel
theorem d_14_89_2 : decode prog_14_method_89_code 2 = .ok (.iconst 0, 1) := by decide +kernel
theorem d_14_89_3 : decode prog_14_method_89_code 3 = .ok (.sipush 1000, 3) := by decide +kernel
theorem d_14_89_6 : decode prog_14_method_89_code 6 = .ok (.invokestatic 127, 3) := by decide +kernel
theorem d_14_89_9 : decode prog_14_method_89_code 9 = .ok (.iconst 1, 1) := by decide +kernel
theorem d_14_89_10 : decode prog_14_method_89_code 10 = .ok (.invokevirtual 150, 3) := by decide +kernel
theorem d_14_89_13 : decode prog_14_method_89_code 13 = .ok (.ifCond .ne 28, 3) := by decide +kernel
theorem d_14_89_16 : decode prog_14_method_89_code 16 = .ok (.aload_n 0, 1) := by decide +kernel
theorem d_14_89_17 : decode prog_14_method_89_code 17 = .ok (.aload_n 0, 1) := by decide +kernel
theorem d_14_89_18 : decode prog_14_method_89_code 18 = .ok (.getfield 100, 3) := by decide +kernel
theorem d_14_89_21 : decode prog_14_method_89_code 21 = .ok (.getfield 404, 3) := by decide +kernel
theorem d_14_89_24 : decode prog_14_method_89_code 24 = .ok (.bipush 12, 2) := by decide +kernel
theorem d_14_89_26 : decode prog_14_method_89_code 26 = .ok (.if_icmp .ge 7, 3) := by decide +kernel
theorem d_14_89_29 : decode prog_14_method_89_code 29 = .ok (.iconst 1, 1) := by decide +kernel
theorem d_14_89_30 : decode prog_14_method_89_code 30 = .ok (.goto 4, 3) := by decide +kernel
theorem d_14_89_34 : decode prog_14_method_89_code 34 = .ok (.iconst 2, 1) := by decide +kernel
theorem d_14_89_35 : decode prog_14_method_89_code 35 = .ok (.invokevirtual 150, 3) := by decide +kernel
theorem d_14_89_38 : decode prog_14_method_89_code 38 = .ok (.ifCond .eq 5, 3) := by decide +kernel
theorem d_14_89_41 : decode prog_14_method_89_code 41 = .ok (.iconst 0, 1) := by decide +kernel
theorem d_14_89_42 : decode prog_14_method_89_code 42 = .ok (.ireturn, 1) := by decide +kernel
theorem d_14_89_43 : decode prog_14_method_89_code 43 = .ok (.aload_n 0, 1) := by decide +kernel
theorem d_14_89_44 : decode prog_14_method_89_code 44 = .ok (.invokevirtual 154, 3) := by decide +kernel
theorem d_14_89_47 : decode prog_14_method_89_code 47 = .ok (.aload_n 0, 1) := by decide +kernel
theorem d_14_89_48 : decode prog_14_method_89_code 48 = .ok (.getfield 100, 3) := by decide +kernel
theorem d_14_89_51 : decode prog_14_method_89_code 51 = .ok (.getfield 407, 3) := by decide +kernel
theorem d_14_89_54 : decode prog_14_method_89_code 54 = .ok (.aload_n 0, 1) := by decide +kernel
theorem d_14_89_55 : decode prog_14_method_89_code 55 = .ok (.getfield 100, 3) := by decide +kernel
theorem d_14_89_58 : decode prog_14_method_89_code 58 = .ok (.getfield 404, 3) := by decide +kernel
theorem d_14_89_61 : decode prog_14_method_89_code 61 = .ok (.iload_n 1, 1) := by decide +kernel
theorem d_14_89_62 : decode prog_14_method_89_code 62 = .ok (.iastore, 1) := by decide +kernel
theorem d_14_89_63 : decode prog_14_method_89_code 63 = .ok (.aload_n 0, 1) := by decide +kernel
theorem d_14_89_64 : decode prog_14_method_89_code 64 = .ok (.getfield 100, 3) := by decide +kernel
theorem d_14_89_67 : decode prog_14_method_89_code 67 = .ok (.dup, 1) := by decide +kernel
theorem d_14_89_68 : decode prog_14_method_89_code 68 = .ok (.getfield 404, 3) := by decide +kernel
theorem d_14_89_71 : decode prog_14_method_89_code 71 = .ok (.iconst 1, 1) := by decide +kernel
theorem d_14_89_72 : decode prog_14_method_89_code 72 = .ok (.iadd, 1) := by decide +kernel
theorem d_14_89_73 : decode prog_14_method_89_code 73 = .ok (.putfield 404, 3) := by decide +kernel
theorem d_14_89_76 : decode prog_14_method_89_code 76 = .ok (.aload_n 0, 1) := by decide +kernel
theorem d_14_89_77 : decode prog_14_method_89_code 77 = .ok (.getfield 100, 3) := by decide +kernel
theorem d_14_89_80 : decode prog_14_method_89_code 80 = .ok (.getfield 404, 3) := by decide +kernel
theorem d_14_89_83 : decode prog_14_method_89_code 83 = .ok (.iconst 1, 1) := by decide +kernel
theorem d_14_89_84 : decode prog_14_method_89_code 84 = .ok (.isub, 1) := by decide +kernel
theorem d_14_89_85 : decode prog_14_method_89_code 85 = .ok (.ireturn, 1) := by decide +kernel
theorem d_14_90_0 : decode prog_14_method_90_code 0 = .ok (.aload_n 0, 1) := by decide +kernel
theorem d_14_90_1 : decode prog_14_method_90_code 1 = .ok (.iload_n 1, 1) := by decide +kernel
theorem d_14_90_2 : decode prog_14_method_90_code 2 = .ok (.iconst 1, 1) := by decide +kernel
theorem d_14_90_3 : decode prog_14_method_90_code 3 = .ok (.sipush 12000, 3) := by decide +kernel
theorem d_14_90_6 : decode prog_14_method_90_code 6 = .ok (.invokestatic 127, 3) := by decide +kernel
theorem d_14_90_9 : decode prog_14_method_90_code 9 = .ok (.iconst 1, 1) := by decide +kernel
theorem d_14_90_10 : decode prog_14_method_90_code 10 = .ok (.invokevirtual 150, 3) := by decide +kernel
theorem d_14_90_13 : decode prog_14_method_90_code 13 = .ok (.ifCond .eq 5, 3) := by decide +kernel
theorem d_14_90_16 : decode prog_14_method_90_code 16 = .ok (.iconst 0, 1) := by decide +kernel
theorem d_14_90_17 : decode prog_14_method_90_code 17 = .ok (.ireturn, 1) := by decide +kernel
theorem d_14_90_18 : decode prog_14_method_90_code 18 = .ok (.aload_n 0, 1) := by decide +kernel
theorem d_14_90_19 : decode prog_14_method_90_code 19 = .ok (.invokevirtual 154, 3) := by decide +kernel
theorem d_14_90_22 : decode prog_14_method_90_code 22 = .ok (.aload_n 0, 1) := by decide +kernel
theorem d_14_90_23 : decode prog_14_method_90_code 23 = .ok (.getfield 100, 3) := by decide +kernel
theorem d_14_90_26 : decode prog_14_method_90_code 26 = .ok (.getfield 410, 3) := by decide +kernel
theorem d_14_90_29 : decode prog_14_method_90_code 29 = .ok (.istore_n 2, 1) := by decide +kernel
theorem d_14_90_30 : decode prog_14_method_90_code 30 = .ok (.aload_n 0, 1) := by decide +kernel
theorem d_14_90_31 : decode prog_14_method_90_code 31 = .ok (.getfield 100, 3) := by decide +kernel
theorem d_14_90_34 : decode prog_14_method_90_code 34 = .ok (.iload_n 1, 1) := by decide +kernel
theorem d_14_90_35 : decode prog_14_method_90_code 35 = .ok (.putfield 410, 3) := by decide +kernel
theorem d_14_90_38 : decode prog_14_method_90_code 38 = .ok (.iload_n 2, 1) := by decide +kernel
theorem d_14_90_39 : decode prog_14_method_90_code 39 = .ok (.ireturn, 1) := by decide +kernel
theorem d_14_92_0 : decode prog_14_method_92_code 0 = .ok (.aload_n 0, 1) := by decide +kernel
theorem d_14_92_1 : decode prog_14_method_92_code 1 = .ok (.iload_n 1, 1) := by decide +kernel
theorem d_14_92_2 : decode prog_14_method_92_code 2 = .ok (.iconst 0, 1) := by decide +kernel
theorem d_14_92_3 : decode prog_14_method_92_code 3 = .ok (.aload_n 0, 1) := by decide +kernel
theorem d_14_92_4 : decode prog_14_method_92_code 4 = .ok (.getfield 100, 3) := by decide +kernel
theorem d_14_92_7 : decode prog_14_method_92_code 7 = .ok (.getfield 404, 3) := by decide +kernel
theorem d_14_92_10 : decode prog_14_method_92_code 10 = .ok (.iconst 1, 1) := by decide +kernel
theorem d_14_92_11 : decode prog_14_method_92_code 11 = .ok (.isub, 1) := by decide +kernel
theorem d_14_92_12 : decode prog_14_method_92_code 12 = .ok (.invokestatic 127, 3) := by decide +kernel
theorem d_14_92_15 : decode prog_14_method_92_code 15 = .ok (.iconst 1, 1) := by decide +kernel
theorem d_14_92_16 : decode prog_14_method_92_code 16 = .ok (.invokevirtual 150, 3) := by decide +kernel
theorem d_14_92_19 : decode prog_14_method_92_code 19 = .ok (.ifCond .eq 5, 3) := by decide +kernel
theorem d_14_92_22 : decode prog_14_method_92_code 22 = .ok (.iconst 0, 1) := by decide +kernel
theorem d_14_92_23 : decode prog_14_method_92_code 23 = .ok (.ireturn, 1) := by decide +kernel
theorem d_14_95_0 : decode prog_14_method_95_code 0 = .ok (.aload_n 0, 1) := by decide +kernel
theorem d_14_95_1 : decode prog_14_method_95_code 1 = .ok (.iload_n 1, 1) := by decide +kernel
theorem d_14_95_2 : decode prog_14_method_95_code 2 = .ok (.iconst 0, 1) := by decide +kernel
theorem d_14_95_3 : decode prog_14_method_95_code 3 = .ok (.aload_n 0, 1) := by decide +kernel
theorem d_14_95_4 : decode prog_14_method_95_code 4 = .ok (.getfield 100, 3) := by decide +kernel
theorem d_14_95_7 : decode prog_14_method_95_code 7 = .ok (.getfield 404, 3) := by decide +kernel
theorem d_14_95_10 : decode prog_14_method_95_code 10 = .ok (.iconst 1, 1) := by decide +kernel
theorem d_14_95_11 : decode prog_14_method_95_code 11 = .ok (.isub, 1) := by decide +kernel
theorem d_14_95_12 : decode prog_14_method_95_code 12 = .ok (.invokestatic 127, 3) := by decide +kernel
theorem d_14_95_15 : decode prog_14_method_95_code 15 = .ok (.iconst 1, 1) := by decide +kernel
theorem d_14_95_16 : decode prog_14_method_95_code 16 = .ok (.invokevirtual 150, 3) := by decide +kernel
theorem d_14_95_19 : decode prog_14_method_95_code 19 = .ok (.ifCond .eq 7, 3) := by decide +kernel
theorem d_14_95_22 : decode prog_14_method_95_code 22 = .ok (.lconst 0, 1) := by decide +kernel
theorem d_14_95_23 : decode prog_14_method_95_code 23 = .ok (.goto 8, 3) := by decide +kernel
theorem d_14_95_31 : decode prog_14_method_95_code 31 = .ok (.lreturn, 1) := by decide +kernel
theorem d_14_96_0 : decode prog_14_method_96_code 0 = .ok (.aload_n 0, 1) := by decide +kernel
theorem d_14_96_1 : decode prog_14_method_96_code 1 = .ok (.iconst 0, 1) := by decide +kernel
theorem d_14_96_2 : decode prog_14_method_96_code 2 = .ok (.putfield 114, 3) := by decide +kernel
theorem d_14_96_5 : decode prog_14_method_96_code 5 = .ok (.aload_n 0, 1) := by decide +kernel
theorem d_14_96_6 : decode prog_14_method_96_code 6 = .ok (.getfield 117, 3) := by decide +kernel
theorem d_14_96_9 : decode prog_14_method_96_code 9 = .ok (.ifCond .ne 5, 3) := by decide +kernel
theorem d_14_96_12 : decode prog_14_method_96_code 12 = .ok (.iconst (-1), 1) := by decide +kernel
theorem d_14_96_13 : decode prog_14_method_96_code 13 = .ok (.ireturn, 1) := by decide +kernel
theorem d_14_97_0 : decode prog_14_method_97_code 0 = .ok (.aload_n 0, 1) := by decide +kernel
theorem d_14_97_1 : decode prog_14_method_97_code 1 = .ok (.iconst 0, 1) := by decide +kernel
theorem d_14_97_2 : decode prog_14_method_97_code 2 = .ok (.putfield 114, 3) := by decide +kernel
theorem d_14_97_5 : decode prog_14_method_97_code 5 = .ok (.lconst 0, 1) := by decide +kernel
theorem d_14_97_6 : decode prog_14_method_97_code 6 = .ok (.lstore_n 1, 1) := by decide +kernel
theorem d_14_97_7 : decode prog_14_method_97_code 7 = .ok (.aload_n 0, 1) := by decide +kernel
theorem d_14_97_8 : decode prog_14_method_97_code 8 = .ok (.getfield 100, 3) := by decide +kernel
theorem d_14_97_11 : decode prog_14_method_97_code 11 = .ok (.getfield 134, 3) := by decide +kernel
theorem d_14_97_14 : decode prog_14_method_97_code 14 = .ok (.astore_n 3, 1) := by decide +kernel
theorem d_14_97_15 : decode prog_14_method_97_code 15 = .ok (.aload_n 3, 1) := by decide +kernel
theorem d_14_97_16 : decode prog_14_method_97_code 16 = .ok (.arraylength, 1) := by decide +kernel
theorem d_14_97_17 : decode prog_14_method_97_code 17 = .ok (.istore 4, 2) := by decide +kernel
theorem d_14_97_19 : decode prog_14_method_97_code 19 = .ok (.iconst 0, 1) := by decide +kernel
theorem d_14_97_20 : decode prog_14_method_97_code 20 = .ok (.istore 5, 2) := by decide +kernel
theorem d_14_97_22 : decode prog_14_method_97_code 22 = .ok (.iload 5, 2) := by decide +kernel
theorem d_14_97_24 : decode prog_14_method_97_code 24 = .ok (.iload 4, 2) := by decide +kernel
theorem d_14_97_26 : decode prog_14_method_97_code 26 = .ok (.if_icmp .ge 28, 3) := by decide +kernel
theorem d_14_97_54 : decode prog_14_method_97_code 54 = .ok (.iconst 0, 1) := by decide +kernel
theorem d_14_97_55 : decode prog_14_method_97_code 55 = .ok (.istore_n 3, 1) := by decide +kernel
theorem d_14_97_56 : decode prog_14_method_97_code 56 = .ok (.iload_n 3, 1) := by decide +kernel
theorem d_14_97_57 : decode prog_14_method_97_code 57 = .ok (.aload_n 0, 1) := by decide +kernel
theorem d_14_97_58 : decode prog_14_method_97_code 58 = .ok (.getfield 100, 3) := by decide +kernel
theorem d_14_97_61 : decode prog_14_method_97_code 61 = .ok (.getfield 131, 3) := by decide +kernel
theorem d_14_97_64 : decode prog_14_method_97_code 64 = .ok (.if_icmp .ge 39, 3) := by decide +kernel
theorem d_14_97_103 : decode prog_14_method_97_code 103 = .ok (.iconst 0, 1) := by decide +kernel
theorem d_14_97_104 : decode prog_14_method_97_code 104 = .ok (.istore_n 3, 1) := by decide +kernel
theorem d_14_97_105 : decode prog_14_method_97_code 105 = .ok (.aload_n 0, 1) := by decide +kernel
theorem d_14_97_106 : decode prog_14_method_97_code 106 = .ok (.getfield 100, 3) := by decide +kernel
theorem d_14_97_109 : decode prog_14_method_97_code 109 = .ok (.getfield 246, 3) := by decide +kernel
theorem d_14_97_112 : decode prog_14_method_97_code 112 = .ok (.ifnull 43, 3) := by decide +kernel
theorem d_14_97_155 : decode prog_14_method_97_code 155 = .ok (.iconst 0, 1) := by decide +kernel
theorem d_14_97_156 : decode prog_14_method_97_code 156 = .ok (.istore_n 3, 1) := by decide +kernel
theorem d_14_97_157 : decode prog_14_method_97_code 157 = .ok (.iload_n 3, 1) := by decide +kernel
theorem d_14_97_158 : decode prog_14_method_97_code 158 = .ok (.aload_n 0, 1) := by decide +kernel
theorem d_14_97_159 : decode prog_14_method_97_code 159 = .ok (.getfield 100, 3) := by decide +kernel
theorem d_14_97_162 : decode prog_14_method_97_code 162 = .ok (.getfield 404, 3) := by decide +kernel
theorem d_14_97_165 : decode prog_14_method_97_code 165 = .ok (.if_icmp .ge 26, 3) := by decide +kernel
theorem d_14_97_191 : decode prog_14_method_97_code 191 = .ok (.lload_n 1, 1) := by decide +kernel
theorem d_14_97_192 : decode prog_14_method_97_code 192 = .ok (.lreturn, 1) := by decide +kernel
theorem d_14_98_0 : decode prog_14_method_98_code 0 = .ok (.aload_n 0, 1) := by decide +kernel
theorem d_14_98_1 : decode prog_14_method_98_code 1 = .ok (.aload_n 0, 1) := by decide +kernel
theorem d_14_98_2 : decode prog_14_method_98_code 2 = .ok (.iload_n 1, 1) := by decide +kernel
theorem d_14_98_3 : decode prog_14_method_98_code 3 = .ok (.invokevirtual 161, 3) := by decide +kernel
theorem d_14_98_6 : decode prog_14_method_98_code 6 = .ok (.iconst 1, 1) := by decide +kernel
theorem d_14_98_7 : decode prog_14_method_98_code 7 = .ok (.invokevirtual 150, 3) := by decide +kernel
theorem d_14_98_10 : decode prog_14_method_98_code 10 = .ok (.ifCond .eq 5, 3) := by decide +kernel
theorem d_14_98_13 : decode prog_14_method_98_code 13 = .ok (.dconst 0, 1) := by decide +kernel
theorem d_14_98_14 : decode prog_14_method_98_code 14 = .ok (.dreturn, 1) := by decide +kernel
theorem d_14_99_0 : decode prog_14_method_99_code 0 = .ok (.aload_n 0, 1) := by decide +kernel
theorem d_14_99_1 : decode prog_14_method_99_code 1 = .ok (.aload_n 0, 1) := by decide +kernel
theorem d_14_99_2 : decode prog_14_method_99_code 2 = .ok (.iload_n 1, 1) := by decide +kernel
theorem d_14_99_3 : decode prog_14_method_99_code 3 = .ok (.invokevirtual 157, 3) := by decide +kernel
theorem d_14_99_6 : decode prog_14_method_99_code 6 = .ok (.iconst 1, 1) := by decide +kernel
theorem d_14_99_7 : decode prog_14_method_99_code 7 = .ok (.invokevirtual 150, 3) := by decide +kernel
theorem d_14_99_10 : decode prog_14_method_99_code 10 = .ok (.ifCond .eq 5, 3) := by decide +kernel
theorem d_14_99_13 : decode prog_14_method_99_code 13 = .ok (.fconst 0, 1) := by decide +kernel
theorem d_14_99_14 : decode prog_14_method_99_code 14 = .ok (.freturn, 1) := by decide +kernel
theorem d_16_1_0 : decode prog_16_method_1_code 0 = .ok (.aload_n 0, 1) := by decide +kernel
theorem d_16_1_1 : decode prog_16_method_1_code 1 = .ok (.invokespecial 3, 3) := by decide +kernel
theorem d_16_1_4 : decode prog_16_method_1_code 4 = .ok (.aload_n 0, 1) := by decide +kernel
theorem d_16_1_5 : decode prog_16_method_1_code 5 = .ok (.aload_n 1, 1) := by decide +kernel
theorem d_16_1_6 : decode prog_16_method_1_code 6 = .ok (.putfield 9, 3) := by decide +kernel
theorem d_16_1_9 : decode prog_16_method_1_code 9 = .ok (.aload_n 0, 1) := by decide +kernel
theorem d_16_1_10 : decode prog_16_method_1_code 10 = .ok (.iload_n 2, 1) := by decide +kernel
theorem d_16_1_11 : decode prog_16_method_1_code 11 = .ok (.putfield 15, 3) := by decide +kernel
theorem d_16_1_14 : decode prog_16_method_1_code 14 = .ok (.aload_n 0, 1) := by decide +kernel
theorem d_16_1_15 : decode prog_16_method_1_code 15 = .ok (.iload_n 3, 1) := by decide +kernel
theorem d_16_1_16 : decode prog_16_method_1_code 16 = .ok (.putfield 19, 3) := by decide +kernel
theorem d_16_1_19 : decode prog_16_method_1_code 19 = .ok (.return_, 1) := by decide +kernel
theorem d_16_2_0 : decode prog_16_method_2_code 0 = .ok (.new 10, 3) := by decide +kernel
theorem d_16_2_3 : decode prog_16_method_2_code 3 = .ok (.dup, 1) := by decide +kernel
theorem d_16_2_4 : decode prog_16_method_2_code 4 = .ok (.aload_n 0, 1) := by decide +kernel
theorem d_16_2_5 : decode prog_16_method_2_code 5 = .ok (.getfield 9, 3) := by decide +kernel
theorem d_16_2_8 : decode prog_16_method_2_code 8 = .ok (.aload_n 0, 1) := by decide +kernel
theorem d_16_2_9 : decode prog_16_method_2_code 9 = .ok (.getfield 15, 3) := by decide +kernel
theorem d_16_2_12 : decode prog_16_method_2_code 12 = .ok (.iload_n 1, 1) := by decide +kernel
theorem d_16_2_13 : decode prog_16_method_2_code 13 = .ok (.invokespecial 22, 3) := by decide +kernel
theorem d_16_2_16 : decode prog_16_method_2_code 16 = .ok (.areturn, 1) := by decide +kernel
theorem d_17_10_0 : decode prog_17_method_10_code 0 = .ok (.aload_n 0, 1) := by decide +kernel
theorem d_17_10_1 : decode prog_17_method_10_code 1 = .ok (.invokevirtual 86, 3) := by decide +kernel
theorem d_17_10_4 : decode prog_17_method_10_code 4 = .ok (.astore_n 1, 1) := by decide +kernel
theorem d_17_10_5 : decode prog_17_method_10_code 5 = .ok (.aload_n 0, 1) := by decide +kernel
theorem d_17_10_6 : decode prog_17_method_10_code 6 = .ok (.getfield 22, 3) := by decide +kernel
theorem d_17_10_9 : decode prog_17_method_10_code 9 = .ok (.istore_n 2, 1) := by decide +kernel
theorem d_17_10_10 : decode prog_17_method_10_code 10 = .ok (.iconst 0, 1) := by decide +kernel
theorem d_17_10_11 : decode prog_17_method_10_code 11 = .ok (.istore_n 3, 1) := by decide +kernel
theorem d_17_10_12 : decode prog_17_method_10_code 12 = .ok (.iload_n 3, 1) := by decide +kernel
theorem d_17_10_13 : decode prog_17_method_10_code 13 = .ok (.bipush 8, 2) := by decide +kernel
theorem d_17_10_15 : decode prog_17_method_10_code 15 = .ok (.if_icmp .ge 69, 3) := by decide +kernel
theorem d_17_10_18 : decode prog_17_method_10_code 18 = .ok (.iconst 0, 1) := by decide +kernel
theorem d_17_10_19 : decode prog_17_method_10_code 19 = .ok (.istore 4, 2) := by decide +kernel
theorem d_17_10_21 : decode prog_17_method_10_code 21 = .ok (.iload 4, 2) := by decide +kernel
theorem d_17_10_23 : decode prog_17_method_10_code 23 = .ok (.bipush 8, 2) := by decide +kernel
theorem d_17_10_25 : decode prog_17_method_10_code 25 = .ok (.if_icmp .ge 53, 3) := by decide +kernel
theorem d_17_10_28 : decode prog_17_method_10_code 28 = .ok (.iload_n 2, 1) := by decide +kernel
theorem d_17_10_29 : decode prog_17_method_10_code 29 = .ok (.aload_n 0, 1) := by decide +kernel
theorem d_17_10_30 : decode prog_17_method_10_code 30 = .ok (.iload_n 3, 1) := by decide +kernel
theorem d_17_10_31 : decode prog_17_method_10_code 31 = .ok (.invokevirtual 44, 3) := by decide +kernel
theorem d_17_10_34 : decode prog_17_method_10_code 34 = .ok (.ifCond .eq 35, 3) := by decide +kernel
theorem d_17_10_69 : decode prog_17_method_10_code 69 = .ok (.iconst (-1), 1) := by decide +kernel
theorem d_17_10_70 : decode prog_17_method_10_code 70 = .ok (.iand, 1) := by decide +kernel
theorem d_17_10_71 : decode prog_17_method_10_code 71 = .ok (.istore_n 2, 1) := by decide +kernel
theorem d_17_10_72 : decode prog_17_method_10_code 72 = .ok (.iinc 4 1, 3) := by decide +kernel
theorem d_17_10_75 : decode prog_17_method_10_code 75 = .ok (.goto (-54), 3) := by decide +kernel
theorem d_17_10_78 : decode prog_17_method_10_code 78 = .ok (.iinc 3 1, 3) := by decide +kernel
theorem d_17_10_81 : decode prog_17_method_10_code 81 = .ok (.goto (-69), 3) := by decide +kernel
theorem d_17_10_84 : decode prog_17_method_10_code 84 = .ok (.iload_n 2, 1) := by decide +kernel
theorem d_17_10_85 : decode prog_17_method_10_code 85 = .ok (.ireturn, 1) := by decide +kernel
theorem d_17_11_0 : decode prog_17_method_11_code 0 = .ok (.iload_n 1, 1) := by decide +kernel
theorem d_17_11_1 : decode prog_17_method_11_code 1 = .ok (.iconst 1, 1) := by decide +kernel
theorem d_17_11_2 : decode prog_17_method_11_code 2 = .ok (.if_icmp .ne 10, 3) := by decide +kernel
theorem d_17_11_5 : decode prog_17_method_11_code 5 = .ok (.aload_n 0, 1) := by decide +kernel
theorem d_17_11_6 : decode prog_17_method_11_code 6 = .ok (.invokevirtual 90, 3) := by decide +kernel
theorem d_17_11_9 : decode prog_17_method_11_code 9 = .ok (.goto 24, 3) := by decide +kernel
theorem d_17_11_12 : decode prog_17_method_11_code 12 = .ok (.iload_n 1, 1) := by decide +kernel
theorem d_17_11_13 : decode prog_17_method_11_code 13 = .ok (.iconst 2, 1) := by decide +kernel
theorem d_17_11_14 : decode prog_17_method_11_code 14 = .ok (.if_icmp .ne 14, 3) := by decide +kernel
theorem d_17_11_17 : decode prog_17_method_11_code 17 = .ok (.aload_n 0, 1) := by decide +kernel
theorem d_17_11_18 : decode prog_17_method_11_code 18 = .ok (.aload_n 0, 1) := by decide +kernel
theorem d_17_11_19 : decode prog_17_method_11_code 19 = .ok (.invokevirtual 94, 3) := by decide +kernel
theorem d_17_11_22 : decode prog_17_method_11_code 22 = .ok (.invokevirtual 67, 3) := by decide +kernel
theorem d_17_11_25 : decode prog_17_method_11_code 25 = .ok (.goto 8, 3) := by decide +kernel
theorem d_17_11_28 : decode prog_17_method_11_code 28 = .ok (.aload_n 0, 1) := by decide +kernel
theorem d_17_11_29 : decode prog_17_method_11_code 29 = .ok (.iload_n 1, 1) := by decide +kernel
theorem d_17_11_30 : decode prog_17_method_11_code 30 = .ok (.invokevirtual 97, 3) := by decide +kernel
theorem d_17_11_33 : decode prog_17_method_11_code 33 = .ok (.ireturn, 1) := by decide +kernel
theorem d_17_1_0 : decode prog_17_method_1_code 0 = .ok (.aload_n 0, 1) := by decide +kernel
theorem d_17_1_1 : decode prog_17_method_1_code 1 = .ok (.invokespecial 3, 3) := by decide +kernel
theorem d_17_1_4 : decode prog_17_method_1_code 4 = .ok (.aload_n 0, 1) := by decide +kernel
theorem d_17_1_5 : decode prog_17_method_1_code 5 = .ok (.bipush 8, 2) := by decide +kernel
theorem d_17_1_7 : decode prog_17_method_1_code 7 = .ok (.newarray .int, 2) := by decide +kernel
theorem d_17_1_9 : decode prog_17_method_1_code 9 = .ok (.putfield 9, 3) := by decide +kernel
theorem d_17_1_12 : decode prog_17_method_1_code 12 = .ok (.aload_n 0, 1) := by decide +kernel
theorem d_17_1_13 : decode prog_17_method_1_code 13 = .ok (.bipush 8, 2) := by decide +kernel
theorem d_17_1_15 : decode prog_17_method_1_code 15 = .ok (.newarray .int, 2) := by decide +kernel
theorem d_17_1_17 : decode prog_17_method_1_code 17 = .ok (.putfield 15, 3) := by decide +kernel
theorem d_17_1_20 : decode prog_17_method_1_code 20 = .ok (.aload_n 0, 1) := by decide +kernel
theorem d_17_1_21 : decode prog_17_method_1_code 21 = .ok (.aload_n 1, 1) := by decide +kernel
theorem d_17_1_22 : decode prog_17_method_1_code 22 = .ok (.putfield 18, 3) := by decide +kernel
theorem d_17_1_25 : decode prog_17_method_1_code 25 = .ok (.aload_n 0, 1) := by decide +kernel
theorem d_17_1_26 : decode prog_17_method_1_code 26 = .ok (.iload_n 2, 1) := by decide +kernel
theorem d_17_1_27 : decode prog_17_method_1_code 27 = .ok (.putfield 22, 3) := by decide +kernel
theorem d_17_1_30 : decode prog_17_method_1_code 30 = .ok (.aload_n 0, 1) := by decide +kernel
theorem d_17_1_31 : decode prog_17_method_1_code 31 = .ok (.aload_n 3, 1) := by decide +kernel
theorem d_17_1_32 : decode prog_17_method_1_code 32 = .ok (.putfield 26, 3) := by decide +kernel
theorem d_17_1_35 : decode prog_17_method_1_code 35 = .ok (.return_, 1) := by decide +kernel
theorem d_17_2_0 : decode prog_17_method_2_code 0 = .ok (.aload_n 0, 1) := by decide +kernel
theorem d_17_2_1 : decode prog_17_method_2_code 1 = .ok (.getfield 22, 3) := by decide +kernel
theorem d_17_2_4 : decode prog_17_method_2_code 4 = .ok (.iload_n 1, 1) := by decide +kernel
theorem d_17_2_5 : decode prog_17_method_2_code 5 = .ok (.ishr, 1) := by decide +kernel
theorem d_17_2_6 : decode prog_17_method_2_code 6 = .ok (.iconst 1, 1) := by decide +kernel
theorem d_17_2_7 : decode prog_17_method_2_code 7 = .ok (.iand, 1) := by decide +kernel
theorem d_17_2_8 : decode prog_17_method_2_code 8 = .ok (.iconst 1, 1) := by decide +kernel
theorem d_17_2_9 : decode prog_17_method_2_code 9 = .ok (.if_icmp .ne 7, 3) := by decide +kernel
theorem d_17_2_16 : decode prog_17_method_2_code 16 = .ok (.iconst 0, 1) := by decide +kernel
theorem d_17_2_17 : decode prog_17_method_2_code 17 = .ok (.ireturn, 1) := by decide +kernel
theorem d_17_6_0 : decode prog_17_method_6_code 0 = .ok (.iconst (-1), 1) := by decide +kernel
theorem d_17_6_1 : decode prog_17_method_6_code 1 = .ok (.istore_n 2, 1) := by decide +kernel
theorem d_17_6_2 : decode prog_17_method_6_code 2 = .ok (.iconst 0, 1) := by decide +kernel
theorem d_17_6_3 : decode prog_17_method_6_code 3 = .ok (.istore_n 3, 1) := by decide +kernel
theorem d_17_6_4 : decode prog_17_method_6_code 4 = .ok (.iload_n 3, 1) := by decide +kernel
theorem d_17_6_5 : decode prog_17_method_6_code 5 = .ok (.bipush 8, 2) := by decide +kernel
theorem d_17_6_7 : decode prog_17_method_6_code 7 = .ok (.if_icmp .ge 34, 3) := by decide +kernel
theorem d_17_6_10 : decode prog_17_method_6_code 10 = .ok (.iload_n 1, 1) := by decide +kernel
theorem d_17_6_11 : decode prog_17_method_6_code 11 = .ok (.iload_n 3, 1) := by decide +kernel
theorem d_17_6_12 : decode prog_17_method_6_code 12 = .ok (.ishr, 1) := by decide +kernel
theorem d_17_6_13 : decode prog_17_method_6_code 13 = .ok (.iconst 1, 1) := by decide +kernel
theorem d_17_6_14 : decode prog_17_method_6_code 14 = .ok (.iand, 1) := by decide +kernel
theorem d_17_6_15 : decode prog_17_method_6_code 15 = .ok (.iconst 1, 1) := by decide +kernel
theorem d_17_6_16 : decode prog_17_method_6_code 16 = .ok (.if_icmp .ne 19, 3) := by decide +kernel
theorem d_17_6_35 : decode prog_17_method_6_code 35 = .ok (.iinc 3 1, 3) := by decide +kernel
theorem d_17_6_38 : decode prog_17_method_6_code 38 = .ok (.goto (-34), 3) := by decide +kernel
theorem d_17_6_41 : decode prog_17_method_6_code 41 = .ok (.iload_n 2, 1) := by decide +kernel
theorem d_17_6_42 : decode prog_17_method_6_code 42 = .ok (.ireturn, 1) := by decide +kernel
theorem d_17_7_0 : decode prog_17_method_7_code 0 = .ok (.iconst (-1), 1) := by decide +kernel
theorem d_17_7_1 : decode prog_17_method_7_code 1 = .ok (.istore_n 2, 1) := by decide +kernel
theorem d_17_7_2 : decode prog_17_method_7_code 2 = .ok (.iconst 0, 1) := by decide +kernel
theorem d_17_7_3 : decode prog_17_method_7_code 3 = .ok (.istore_n 3, 1) := by decide +kernel
theorem d_17_7_4 : decode prog_17_method_7_code 4 = .ok (.iconst 0, 1) := by decide +kernel
theorem d_17_7_5 : decode prog_17_method_7_code 5 = .ok (.istore 4, 2) := by decide +kernel
theorem d_17_7_7 : decode prog_17_method_7_code 7 = .ok (.iload 4, 2) := by decide +kernel
theorem d_17_7_9 : decode prog_17_method_7_code 9 = .ok (.bipush 8, 2) := by decide +kernel
theorem d_17_7_11 : decode prog_17_method_7_code 11 = .ok (.if_icmp .ge 63, 3) := by decide +kernel
theorem d_17_7_14 : decode prog_17_method_7_code 14 = .ok (.aload_n 0, 1) := by decide +kernel
theorem d_17_7_15 : decode prog_17_method_7_code 15 = .ok (.iload 4, 2) := by decide +kernel
theorem d_17_7_17 : decode prog_17_method_7_code 17 = .ok (.invokevirtual 44, 3) := by decide +kernel
theorem d_17_7_20 : decode prog_17_method_7_code 20 = .ok (.ifCond .ne 6, 3) := by decide +kernel
theorem d_17_7_23 : decode prog_17_method_7_code 23 = .ok (.goto 45, 3) := by decide +kernel
theorem d_17_7_68 : decode prog_17_method_7_code 68 = .ok (.iinc 4 1, 3) := by decide +kernel
theorem d_17_7_71 : decode prog_17_method_7_code 71 = .ok (.goto (-64), 3) := by decide +kernel
theorem d_17_7_74 : decode prog_17_method_7_code 74 = .ok (.iload_n 2, 1) := by decide +kernel
theorem d_17_7_75 : decode prog_17_method_7_code 75 = .ok (.ireturn, 1) := by decide +kernel
theorem d_17_8_0 : decode prog_17_method_8_code 0 = .ok (.aload_n 0, 1) := by decide +kernel
theorem d_17_8_1 : decode prog_17_method_8_code 1 = .ok (.getfield 22, 3) := by decide +kernel
theorem d_17_8_4 : decode prog_17_method_8_code 4 = .ok (.istore_n 1, 1) := by decide +kernel
theorem d_17_8_5 : decode prog_17_method_8_code 5 = .ok (.aload_n 0, 1) := by decide +kernel
theorem d_17_8_6 : decode prog_17_method_8_code 6 = .ok (.iconst 0, 1) := by decide +kernel
theorem d_17_8_7 : decode prog_17_method_8_code 7 = .ok (.putfield 56, 3) := by decide +kernel
theorem d_17_8_10 : decode prog_17_method_8_code 10 = .ok (.iload_n 1, 1) := by decide +kernel
theorem d_17_8_11 : decode prog_17_method_8_code 11 = .ok (.invokestatic 59, 3) := by decide +kernel
theorem d_17_8_14 : decode prog_17_method_8_code 14 = .ok (.iconst 1, 1) := by decide +kernel
theorem d_17_8_15 : decode prog_17_method_8_code 15 = .ok (.if_icmp .le 184, 3) := by decide +kernel
theorem d_17_8_199 : decode prog_17_method_8_code 199 = .ok (.aload_n 0, 1) := by decide +kernel
theorem d_17_8_200 : decode prog_17_method_8_code 200 = .ok (.iload_n 1, 1) := by decide +kernel
theorem d_17_8_201 : decode prog_17_method_8_code 201 = .ok (.invokevirtual 67, 3) := by decide +kernel
theorem d_17_8_204 : decode prog_17_method_8_code 204 = .ok (.ireturn, 1) := by decide +kernel
theorem d_17_9_0 : decode prog_17_method_9_code 0 = .ok (.aload_n 0, 1) := by decide +kernel
theorem d_17_9_1 : decode prog_17_method_9_code 1 = .ok (.getfield 70, 3) := by decide +kernel
theorem d_17_9_4 : decode prog_17_method_9_code 4 = .ok (.ifnonnull 15, 3) := by decide +kernel
theorem d_17_9_7 : decode prog_17_method_9_code 7 = .ok (.aload_n 0, 1) := by decide +kernel
theorem d_17_9_8 : decode prog_17_method_9_code 8 = .ok (.bipush 8, 2) := by decide +kernel
theorem d_17_9_10 : decode prog_17_method_9_code 10 = .ok (.bipush 8, 2) := by decide +kernel
theorem d_17_9_12 : decode prog_17_method_9_code 12 = .ok (.multianewarray 74 2, 4) := by decide +kernel
theorem d_17_9_16 : decode prog_17_method_9_code 16 = .ok (.putfield 70, 3) := by decide +kernel
theorem d_17_9_19 : decode prog_17_method_9_code 19 = .ok (.aload_n 0, 1) := by decide +kernel
theorem d_17_9_20 : decode prog_17_method_9_code 20 = .ok (.getfield 70, 3) := by decide +kernel
theorem d_17_9_23 : decode prog_17_method_9_code 23 = .ok (.astore_n 1, 1) := by decide +kernel
theorem d_17_9_24 : decode prog_17_method_9_code 24 = .ok (.iconst 0, 1) := by decide +kernel
theorem d_17_9_25 : decode prog_17_method_9_code 25 = .ok (.istore_n 2, 1) := by decide +kernel
theorem d_17_9_26 : decode prog_17_method_9_code 26 = .ok (.iload_n 2, 1) := by decide +kernel
theorem d_17_9_27 : decode prog_17_method_9_code 27 = .ok (.bipush 8, 2) := by decide +kernel
theorem d_17_9_29 : decode prog_17_method_9_code 29 = .ok (.if_icmp .ge 83, 3) := by decide +kernel
theorem d_17_9_32 : decode prog_17_method_9_code 32 = .ok (.iconst 0, 1) := by decide +kernel
theorem d_17_9_33 : decode prog_17_method_9_code 33 = .ok (.istore_n 3, 1) := by decide +kernel
theorem d_17_9_34 : decode prog_17_method_9_code 34 = .ok (.iload_n 3, 1) := by decide +kernel
theorem d_17_9_35 : decode prog_17_method_9_code 35 = .ok (.bipush 8, 2) := by decide +kernel
theorem d_17_9_37 : decode prog_17_method_9_code 37 = .ok (.if_icmp .ge 69, 3) := by decide +kernel
theorem d_17_9_40 : decode prog_17_method_9_code 40 = .ok (.iload_n 2, 1) := by decide +kernel
theorem d_17_9_41 : decode prog_17_method_9_code 41 = .ok (.iload_n 3, 1) := by decide +kernel
theorem d_17_9_42 : decode prog_17_method_9_code 42 = .ok (.if_icmp .eq 28, 3) := by decide +kernel
theorem d_17_9_45 : decode prog_17_method_9_code 45 = .ok (.aload_n 0, 1) := by decide +kernel
theorem d_17_9_46 : decode prog_17_method_9_code 46 = .ok (.iload_n 2, 1) := by decide +kernel
theorem d_17_9_47 : decode prog_17_method_9_code 47 = .ok (.invokevirtual 44, 3) := by decide +kernel
theorem d_17_9_50 : decode prog_17_method_9_code 50 = .ok (.ifCond .eq 20, 3) := by decide +kernel
theorem d_17_9_70 : decode prog_17_method_9_code 70 = .ok (.iconst 0, 1) := by decide +kernel
theorem d_17_9_71 : decode prog_17_method_9_code 71 = .ok (.istore 4, 2) := by decide +kernel
theorem d_17_9_73 : decode prog_17_method_9_code 73 = .ok (.aload_n 1, 1) := by decide +kernel
theorem d_17_9_74 : decode prog_17_method_9_code 74 = .ok (.iload_n 2, 1) := by decide +kernel
theorem d_17_9_75 : decode prog_17_method_9_code 75 = .ok (.aaload, 1) := by decide +kernel
theorem d_17_9_76 : decode prog_17_method_9_code 76 = .ok (.iload_n 3, 1) := by decide +kernel
theorem d_17_9_77 : decode prog_17_method_9_code 77 = .ok (.iload 4, 2) := by decide +kernel
theorem d_17_9_79 : decode prog_17_method_9_code 79 = .ok (.ifCond .le 19, 3) := by decide +kernel
theorem d_17_9_98 : decode prog_17_method_9_code 98 = .ok (.iconst 0, 1) := by decide +kernel
theorem d_17_9_99 : decode prog_17_method_9_code 99 = .ok (.iastore, 1) := by decide +kernel
theorem d_17_9_100 : decode prog_17_method_9_code 100 = .ok (.iinc 3 1, 3) := by decide +kernel
theorem d_17_9_103 : decode prog_17_method_9_code 103 = .ok (.goto (-69), 3) := by decide +kernel
theorem d_17_9_106 : decode prog_17_method_9_code 106 = .ok (.iinc 2 1, 3) := by decide +kernel
theorem d_17_9_109 : decode prog_17_method_9_code 109 = .ok (.goto (-83), 3) := by decide +kernel
theorem d_17_9_112 : decode prog_17_method_9_code 112 = .ok (.iconst 0, 1) := by decide +kernel
theorem d_17_9_113 : decode prog_17_method_9_code 113 = .ok (.istore_n 2, 1) := by decide +kernel
theorem d_17_9_114 : decode prog_17_method_9_code 114 = .ok (.iload_n 2, 1) := by decide +kernel
theorem d_17_9_115 : decode prog_17_method_9_code 115 = .ok (.bipush 8, 2) := by decide +kernel
theorem d_17_9_117 : decode prog_17_method_9_code 117 = .ok (.if_icmp .ge 85, 3) := by decide +kernel
theorem d_17_9_120 : decode prog_17_method_9_code 120 = .ok (.iconst 0, 1) := by decide +kernel
theorem d_17_9_121 : decode prog_17_method_9_code 121 = .ok (.istore_n 3, 1) := by decide +kernel
theorem d_17_9_122 : decode prog_17_method_9_code 122 = .ok (.iload_n 3, 1) := by decide +kernel
theorem d_17_9_123 : decode prog_17_method_9_code 123 = .ok (.bipush 8, 2) := by decide +kernel
theorem d_17_9_125 : decode prog_17_method_9_code 125 = .ok (.if_icmp .ge 71, 3) := by decide +kernel
theorem d_17_9_128 : decode prog_17_method_9_code 128 = .ok (.iconst 0, 1) := by decide +kernel
theorem d_17_9_129 : decode prog_17_method_9_code 129 = .ok (.istore 4, 2) := by decide +kernel
theorem d_17_9_131 : decode prog_17_method_9_code 131 = .ok (.iload 4, 2) := by decide +kernel
theorem d_17_9_133 : decode prog_17_method_9_code 133 = .ok (.bipush 8, 2) := by decide +kernel
theorem d_17_9_135 : decode prog_17_method_9_code 135 = .ok (.if_icmp .ge 55, 3) := by decide +kernel
theorem d_17_9_138 : decode prog_17_method_9_code 138 = .ok (.iload_n 3, 1) := by decide +kernel
theorem d_17_9_139 : decode prog_17_method_9_code 139 = .ok (.iload 4, 2) := by decide +kernel
theorem d_17_9_141 : decode prog_17_method_9_code 141 = .ok (.if_icmp .eq 43, 3) := by decide +kernel
theorem d_17_9_144 : decode prog_17_method_9_code 144 = .ok (.iload_n 3, 1) := by decide +kernel
theorem d_17_9_145 : decode prog_17_method_9_code 145 = .ok (.iload_n 2, 1) := by decide +kernel
theorem d_17_9_146 : decode prog_17_method_9_code 146 = .ok (.if_icmp .eq 38, 3) := by decide +kernel
theorem d_17_9_149 : decode prog_17_method_9_code 149 = .ok (.iload 4, 2) := by decide +kernel
theorem d_17_9_151 : decode prog_17_method_9_code 151 = .ok (.iload_n 2, 1) := by decide +kernel
theorem d_17_9_152 : decode prog_17_method_9_code 152 = .ok (.if_icmp .eq 32, 3) := by decide +kernel
theorem d_17_9_155 : decode prog_17_method_9_code 155 = .ok (.aload_n 1, 1) := by decide +kernel
theorem d_17_9_156 : decode prog_17_method_9_code 156 = .ok (.iload_n 3, 1) := by decide +kernel
theorem d_17_9_157 : decode prog_17_method_9_code 157 = .ok (.aaload, 1) := by decide +kernel
theorem d_17_9_158 : decode prog_17_method_9_code 158 = .ok (.iload 4, 2) := by decide +kernel
theorem d_17_9_160 : decode prog_17_method_9_code 160 = .ok (.aload_n 1, 1) := by decide +kernel
theorem d_17_9_161 : decode prog_17_method_9_code 161 = .ok (.iload_n 3, 1) := by decide +kernel
theorem d_17_9_162 : decode prog_17_method_9_code 162 = .ok (.aaload, 1) := by decide +kernel
theorem d_17_9_163 : decode prog_17_method_9_code 163 = .ok (.iload 4, 2) := by decide +kernel
theorem d_17_9_165 : decode prog_17_method_9_code 165 = .ok (.iaload, 1) := by decide +kernel
theorem d_17_9_166 : decode prog_17_method_9_code 166 = .ok (.aload_n 1, 1) := by decide +kernel
theorem d_17_9_167 : decode prog_17_method_9_code 167 = .ok (.iload_n 3, 1) := by decide +kernel
theorem d_17_9_168 : decode prog_17_method_9_code 168 = .ok (.aaload, 1) := by decide +kernel
theorem d_17_9_169 : decode prog_17_method_9_code 169 = .ok (.iload_n 2, 1) := by decide +kernel
theorem d_17_9_170 : decode prog_17_method_9_code 170 = .ok (.iaload, 1) := by decide +kernel
theorem d_17_9_171 : decode prog_17_method_9_code 171 = .ok (.aload_n 1, 1) := by decide +kernel
theorem d_17_9_172 : decode prog_17_method_9_code 172 = .ok (.iload_n 2, 1) := by decide +kernel
theorem d_17_9_173 : decode prog_17_method_9_code 173 = .ok (.aaload, 1) := by decide +kernel
theorem d_17_9_174 : decode prog_17_method_9_code 174 = .ok (.iload 4, 2) := by decide +kernel
theorem d_17_9_176 : decode prog_17_method_9_code 176 = .ok (.iaload, 1) := by decide +kernel
theorem d_17_9_177 : decode prog_17_method_9_code 177 = .ok (.invokestatic 78, 3) := by decide +kernel
theorem d_17_9_180 : decode prog_17_method_9_code 180 = .ok (.invokestatic 83, 3) := by decide +kernel
theorem d_17_9_183 : decode prog_17_method_9_code 183 = .ok (.iastore, 1) := by decide +kernel
theorem d_17_9_184 : decode prog_17_method_9_code 184 = .ok (.iinc 4 1, 3) := by decide +kernel
theorem d_17_9_187 : decode prog_17_method_9_code 187 = .ok (.goto (-56), 3) := by decide +kernel
theorem d_17_9_190 : decode prog_17_method_9_code 190 = .ok (.iinc 3 1, 3) := by decide +kernel
theorem d_17_9_193 : decode prog_17_method_9_code 193 = .ok (.goto (-71), 3) := by decide +kernel
theorem d_17_9_196 : decode prog_17_method_9_code 196 = .ok (.iinc 2 1, 3) := by decide +kernel
theorem d_17_9_199 : decode prog_17_method_9_code 199 = .ok (.goto (-85), 3) := by decide +kernel
theorem d_17_9_202 : decode prog_17_method_9_code 202 = .ok (.aload_n 1, 1) := by decide +kernel
theorem d_17_9_203 : decode prog_17_method_9_code 203 = .ok (.areturn, 1) := by decide +kernel
theorem d_18_1_0 : decode prog_18_method_1_code 0 = .ok (.aload_n 0, 1) := by decide +kernel
theorem d_18_1_1 : decode prog_18_method_1_code 1 = .ok (.invokespecial 3, 3) := by decide +kernel
theorem d_18_1_4 : decode prog_18_method_1_code 4 = .ok (.aload_n 0, 1) := by decide +kernel
theorem d_18_1_5 : decode prog_18_method_1_code 5 = .ok (.bipush 8, 2) := by decide +kernel
theorem d_18_1_7 : decode prog_18_method_1_code 7 = .ok (.newarray .int, 2) := by decide +kernel
theorem d_18_1_9 : decode prog_18_method_1_code 9 = .ok (.putfield 9, 3) := by decide +kernel
theorem d_18_1_12 : decode prog_18_method_1_code 12 = .ok (.aload_n 0, 1) := by decide +kernel
theorem d_18_1_13 : decode prog_18_method_1_code 13 = .ok (.bipush 61, 2) := by decide +kernel
theorem d_18_1_15 : decode prog_18_method_1_code 15 = .ok (.newarray .int, 2) := by decide +kernel
theorem d_18_1_17 : decode prog_18_method_1_code 17 = .ok (.putfield 15, 3) := by decide +kernel
theorem d_18_1_20 : decode prog_18_method_1_code 20 = .ok (.aload_n 0, 1) := by decide +kernel
theorem d_18_1_21 : decode prog_18_method_1_code 21 = .ok (.aload_n 1, 1) := by decide +kernel
theorem d_18_1_22 : decode prog_18_method_1_code 22 = .ok (.putfield 18, 3) := by decide +kernel
theorem d_18_1_25 : decode prog_18_method_1_code 25 = .ok (.aload_n 0, 1) := by decide +kernel
theorem d_18_1_26 : decode prog_18_method_1_code 26 = .ok (.aload_n 2, 1) := by decide +kernel
theorem d_18_1_27 : decode prog_18_method_1_code 27 = .ok (.putfield 21, 3) := by decide +kernel
theorem d_18_1_30 : decode prog_18_method_1_code 30 = .ok (.return_, 1) := by decide +kernel
theorem d_19_1_0 : decode prog_19_method_1_code 0 = .ok (.aload_n 0, 1) := by decide +kernel
theorem d_19_1_1 : decode prog_19_method_1_code 1 = .ok (.invokespecial 3, 3) := by decide +kernel
theorem d_19_1_4 : decode prog_19_method_1_code 4 = .ok (.aload_n 0, 1) := by decide +kernel
theorem d_19_1_5 : decode prog_19_method_1_code 5 = .ok (.bipush 61, 2) := by decide +kernel
theorem d_19_1_7 : decode prog_19_method_1_code 7 = .ok (.newarray .int, 2) := by decide +kernel
theorem d_19_1_9 : decode prog_19_method_1_code 9 = .ok (.putfield 9, 3) := by decide +kernel
theorem d_19_1_12 : decode prog_19_method_1_code 12 = .ok (.aload_n 0, 1) := by decide +kernel
