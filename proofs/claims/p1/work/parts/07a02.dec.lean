theorem d_14_38_99 : decode prog_14_method_38_code 99 = .ok (.iastore, 1) := by decide +kernel
theorem d_14_38_100 : decode prog_14_method_38_code 100 = .ok (.aload_n 0, 1) := by decide +kernel
theorem d_14_38_101 : decode prog_14_method_38_code 101 = .ok (.getfield 100, 3) := by decide +kernel
theorem d_14_38_104 : decode prog_14_method_38_code 104 = .ok (.dup, 1) := by decide +kernel
theorem d_14_38_105 : decode prog_14_method_38_code 105 = .ok (.getfield 131, 3) := by decide +kernel
theorem d_14_38_108 : decode prog_14_method_38_code 108 = .ok (.iconst 1, 1) := by decide +kernel
theorem d_14_38_109 : decode prog_14_method_38_code 109 = .ok (.iadd, 1) := by decide +kernel
theorem d_14_38_110 : decode prog_14_method_38_code 110 = .ok (.putfield 131, 3) := by decide +kernel
theorem d_14_38_113 : decode prog_14_method_38_code 113 = .ok (.aload_n 0, 1) := by decide +kernel
theorem d_14_38_114 : decode prog_14_method_38_code 114 = .ok (.getfield 100, 3) := by decide +kernel
theorem d_14_38_117 : decode prog_14_method_38_code 117 = .ok (.getfield 131, 3) := by decide +kernel
theorem d_14_38_120 : decode prog_14_method_38_code 120 = .ok (.iconst 1, 1) := by decide +kernel
theorem d_14_38_121 : decode prog_14_method_38_code 121 = .ok (.isub, 1) := by decide +kernel
theorem d_14_38_122 : decode prog_14_method_38_code 122 = .ok (.ireturn, 1) := by decide +kernel
theorem d_14_39_0 : decode prog_14_method_39_code 0 = .ok (.aload_n 0, 1) := by decide +kernel
theorem d_14_39_1 : decode prog_14_method_39_code 1 = .ok (.aload_n 0, 1) := by decide +kernel
theorem d_14_39_2 : decode prog_14_method_39_code 2 = .ok (.iload_n 1, 1) := by decide +kernel
theorem d_14_39_3 : decode prog_14_method_39_code 3 = .ok (.invokevirtual 157, 3) := by decide +kernel
theorem d_14_39_6 : decode prog_14_method_39_code 6 = .ok (.iconst 1, 1) := by decide +kernel
theorem d_14_39_7 : decode prog_14_method_39_code 7 = .ok (.invokevirtual 150, 3) := by decide +kernel
theorem d_14_39_10 : decode prog_14_method_39_code 10 = .ok (.ifCond .ne 18, 3) := by decide +kernel
theorem d_14_39_28 : decode prog_14_method_39_code 28 = .ok (.iconst 0, 1) := by decide +kernel
theorem d_14_39_29 : decode prog_14_method_39_code 29 = .ok (.ireturn, 1) := by decide +kernel
theorem d_14_40_0 : decode prog_14_method_40_code 0 = .ok (.aload_n 0, 1) := by decide +kernel
theorem d_14_40_1 : decode prog_14_method_40_code 1 = .ok (.aload_n 0, 1) := by decide +kernel
theorem d_14_40_2 : decode prog_14_method_40_code 2 = .ok (.iload_n 1, 1) := by decide +kernel
theorem d_14_40_3 : decode prog_14_method_40_code 3 = .ok (.invokevirtual 157, 3) := by decide +kernel
theorem d_14_40_6 : decode prog_14_method_40_code 6 = .ok (.iconst 1, 1) := by decide +kernel
theorem d_14_40_7 : decode prog_14_method_40_code 7 = .ok (.invokevirtual 150, 3) := by decide +kernel
theorem d_14_40_10 : decode prog_14_method_40_code 10 = .ok (.ifCond .ne 17, 3) := by decide +kernel
theorem d_14_40_27 : decode prog_14_method_40_code 27 = .ok (.iconst 0, 1) := by decide +kernel
theorem d_14_40_28 : decode prog_14_method_40_code 28 = .ok (.ireturn, 1) := by decide +kernel
theorem d_14_41_0 : decode prog_14_method_41_code 0 = .ok (.aload_n 0, 1) := by decide +kernel
theorem d_14_41_1 : decode prog_14_method_41_code 1 = .ok (.getfield 100, 3) := by decide +kernel
theorem d_14_41_4 : decode prog_14_method_41_code 4 = .ok (.getfield 131, 3) := by decide +kernel
theorem d_14_41_7 : decode prog_14_method_41_code 7 = .ok (.newarray .int, 2) := by decide +kernel
theorem d_14_41_9 : decode prog_14_method_41_code 9 = .ok (.astore 4, 2) := by decide +kernel
theorem d_14_41_11 : decode prog_14_method_41_code 11 = .ok (.aload_n 0, 1) := by decide +kernel
theorem d_14_41_12 : decode prog_14_method_41_code 12 = .ok (.getfield 100, 3) := by decide +kernel
theorem d_14_41_15 : decode prog_14_method_41_code 15 = .ok (.getfield 131, 3) := by decide +kernel
theorem d_14_41_18 : decode prog_14_method_41_code 18 = .ok (.newarray .int, 2) := by decide +kernel
theorem d_14_41_20 : decode prog_14_method_41_code 20 = .ok (.astore 5, 2) := by decide +kernel
theorem d_14_41_22 : decode prog_14_method_41_code 22 = .ok (.iconst 0, 1) := by decide +kernel
theorem d_14_41_23 : decode prog_14_method_41_code 23 = .ok (.istore 6, 2) := by decide +kernel
theorem d_14_41_25 : decode prog_14_method_41_code 25 = .ok (.iload 6, 2) := by decide +kernel
theorem d_14_41_27 : decode prog_14_method_41_code 27 = .ok (.aload_n 0, 1) := by decide +kernel
theorem d_14_41_28 : decode prog_14_method_41_code 28 = .ok (.getfield 100, 3) := by decide +kernel
theorem d_14_41_31 : decode prog_14_method_41_code 31 = .ok (.getfield 131, 3) := by decide +kernel
theorem d_14_41_34 : decode prog_14_method_41_code 34 = .ok (.if_icmp .ge 39, 3) := by decide +kernel
theorem d_14_41_73 : decode prog_14_method_41_code 73 = .ok (.aload 4, 2) := by decide +kernel
theorem d_14_41_75 : decode prog_14_method_41_code 75 = .ok (.aload 5, 2) := by decide +kernel
theorem d_14_41_77 : decode prog_14_method_41_code 77 = .ok (.aload_n 0, 1) := by decide +kernel
theorem d_14_41_78 : decode prog_14_method_41_code 78 = .ok (.getfield 100, 3) := by decide +kernel
theorem d_14_41_81 : decode prog_14_method_41_code 81 = .ok (.getfield 164, 3) := by decide +kernel
theorem d_14_41_84 : decode prog_14_method_41_code 84 = .ok (.iload_n 1, 1) := by decide +kernel
theorem d_14_41_85 : decode prog_14_method_41_code 85 = .ok (.iload_n 2, 1) := by decide +kernel
theorem d_14_41_86 : decode prog_14_method_41_code 86 = .ok (.iload_n 3, 1) := by decide +kernel
theorem d_14_41_87 : decode prog_14_method_41_code 87 = .ok (.invokestatic 228, 3) := by decide +kernel
theorem d_14_41_90 : decode prog_14_method_41_code 90 = .ok (.areturn, 1) := by decide +kernel
theorem d_14_42_0 : decode prog_14_method_42_code 0 = .ok (.aload_n 0, 1) := by decide +kernel
theorem d_14_42_1 : decode prog_14_method_42_code 1 = .ok (.iload_n 1, 1) := by decide +kernel
theorem d_14_42_2 : decode prog_14_method_42_code 2 = .ok (.iconst 0, 1) := by decide +kernel
theorem d_14_42_3 : decode prog_14_method_42_code 3 = .ok (.iconst 5, 1) := by decide +kernel
theorem d_14_42_4 : decode prog_14_method_42_code 4 = .ok (.invokestatic 127, 3) := by decide +kernel
theorem d_14_42_7 : decode prog_14_method_42_code 7 = .ok (.ifCond .eq 27, 3) := by decide +kernel
theorem d_14_42_10 : decode prog_14_method_42_code 10 = .ok (.iload_n 2, 1) := by decide +kernel
theorem d_14_42_11 : decode prog_14_method_42_code 11 = .ok (.iconst 1, 1) := by decide +kernel
theorem d_14_42_12 : decode prog_14_method_42_code 12 = .ok (.bipush 60, 2) := by decide +kernel
theorem d_14_42_14 : decode prog_14_method_42_code 14 = .ok (.invokestatic 127, 3) := by decide +kernel
theorem d_14_42_17 : decode prog_14_method_42_code 17 = .ok (.ifCond .eq 17, 3) := by decide +kernel
theorem d_14_42_20 : decode prog_14_method_42_code 20 = .ok (.iload_n 3, 1) := by decide +kernel
theorem d_14_42_21 : decode prog_14_method_42_code 21 = .ok (.iconst 0, 1) := by decide +kernel
theorem d_14_42_22 : decode prog_14_method_42_code 22 = .ok (.bipush 20, 2) := by decide +kernel
theorem d_14_42_24 : decode prog_14_method_42_code 24 = .ok (.invokestatic 127, 3) := by decide +kernel
theorem d_14_42_27 : decode prog_14_method_42_code 27 = .ok (.ifCond .eq 7, 3) := by decide +kernel
theorem d_14_42_30 : decode prog_14_method_42_code 30 = .ok (.iconst 1, 1) := by decide +kernel
theorem d_14_42_31 : decode prog_14_method_42_code 31 = .ok (.goto 4, 3) := by decide +kernel
theorem d_14_42_34 : decode prog_14_method_42_code 34 = .ok (.iconst 0, 1) := by decide +kernel
theorem d_14_42_35 : decode prog_14_method_42_code 35 = .ok (.iconst 1, 1) := by decide +kernel
theorem d_14_42_36 : decode prog_14_method_42_code 36 = .ok (.invokevirtual 150, 3) := by decide +kernel
theorem d_14_42_39 : decode prog_14_method_42_code 39 = .ok (.ifCond .eq 5, 3) := by decide +kernel
theorem d_14_42_42 : decode prog_14_method_42_code 42 = .ok (.iconst 0, 1) := by decide +kernel
theorem d_14_42_43 : decode prog_14_method_42_code 43 = .ok (.ireturn, 1) := by decide +kernel
theorem d_14_42_44 : decode prog_14_method_42_code 44 = .ok (.aload_n 0, 1) := by decide +kernel
theorem d_14_42_45 : decode prog_14_method_42_code 45 = .ok (.invokevirtual 154, 3) := by decide +kernel
theorem d_14_42_48 : decode prog_14_method_42_code 48 = .ok (.aload_n 0, 1) := by decide +kernel
theorem d_14_42_49 : decode prog_14_method_42_code 49 = .ok (.getfield 100, 3) := by decide +kernel
theorem d_14_42_52 : decode prog_14_method_42_code 52 = .ok (.aload_n 0, 1) := by decide +kernel
theorem d_14_42_53 : decode prog_14_method_42_code 53 = .ok (.iload_n 1, 1) := by decide +kernel
theorem d_14_42_54 : decode prog_14_method_42_code 54 = .ok (.iload_n 2, 1) := by decide +kernel
theorem d_14_42_55 : decode prog_14_method_42_code 55 = .ok (.iload_n 3, 1) := by decide +kernel
theorem d_14_42_56 : decode prog_14_method_42_code 56 = .ok (.invokevirtual 232, 3) := by decide +kernel
theorem d_14_42_59 : decode prog_14_method_42_code 59 = .ok (.putfield 235, 3) := by decide +kernel
theorem d_14_42_62 : decode prog_14_method_42_code 62 = .ok (.aload_n 0, 1) := by decide +kernel
theorem d_14_42_63 : decode prog_14_method_42_code 63 = .ok (.getfield 100, 3) := by decide +kernel
theorem d_14_42_66 : decode prog_14_method_42_code 66 = .ok (.getfield 235, 3) := by decide +kernel
theorem d_14_42_69 : decode prog_14_method_42_code 69 = .ok (.getfield 64, 3) := by decide +kernel
theorem d_14_42_72 : decode prog_14_method_42_code 72 = .ok (.ireturn, 1) := by decide +kernel
theorem d_14_44_0 : decode prog_14_method_44_code 0 = .ok (.aload_n 0, 1) := by decide +kernel
theorem d_14_44_1 : decode prog_14_method_44_code 1 = .ok (.aload_n 0, 1) := by decide +kernel
theorem d_14_44_2 : decode prog_14_method_44_code 2 = .ok (.iload_n 1, 1) := by decide +kernel
theorem d_14_44_3 : decode prog_14_method_44_code 3 = .ok (.invokevirtual 157, 3) := by decide +kernel
theorem d_14_44_6 : decode prog_14_method_44_code 6 = .ok (.iconst 1, 1) := by decide +kernel
theorem d_14_44_7 : decode prog_14_method_44_code 7 = .ok (.invokevirtual 150, 3) := by decide +kernel
theorem d_14_44_10 : decode prog_14_method_44_code 10 = .ok (.ifCond .eq 7, 3) := by decide +kernel
theorem d_14_44_13 : decode prog_14_method_44_code 13 = .ok (.iconst 0, 1) := by decide +kernel
theorem d_14_44_14 : decode prog_14_method_44_code 14 = .ok (.goto 8, 3) := by decide +kernel
theorem d_14_44_22 : decode prog_14_method_44_code 22 = .ok (.ireturn, 1) := by decide +kernel
theorem d_14_45_0 : decode prog_14_method_45_code 0 = .ok (.aload_n 0, 1) := by decide +kernel
theorem d_14_45_1 : decode prog_14_method_45_code 1 = .ok (.aload_n 0, 1) := by decide +kernel
theorem d_14_45_2 : decode prog_14_method_45_code 2 = .ok (.getfield 100, 3) := by decide +kernel
theorem d_14_45_5 : decode prog_14_method_45_code 5 = .ok (.getfield 235, 3) := by decide +kernel
theorem d_14_45_8 : decode prog_14_method_45_code 8 = .ok (.ifnull 40, 3) := by decide +kernel
theorem d_14_45_48 : decode prog_14_method_45_code 48 = .ok (.iconst 0, 1) := by decide +kernel
theorem d_14_45_49 : decode prog_14_method_45_code 49 = .ok (.iconst 1, 1) := by decide +kernel
theorem d_14_45_50 : decode prog_14_method_45_code 50 = .ok (.invokevirtual 150, 3) := by decide +kernel
theorem d_14_45_53 : decode prog_14_method_45_code 53 = .ok (.ifCond .eq 7, 3) := by decide +kernel
theorem d_14_45_56 : decode prog_14_method_45_code 56 = .ok (.iconst 0, 1) := by decide +kernel
theorem d_14_45_57 : decode prog_14_method_45_code 57 = .ok (.goto 15, 3) := by decide +kernel
theorem d_14_45_72 : decode prog_14_method_45_code 72 = .ok (.ireturn, 1) := by decide +kernel
theorem d_14_46_0 : decode prog_14_method_46_code 0 = .ok (.aload_n 0, 1) := by decide +kernel
theorem d_14_46_1 : decode prog_14_method_46_code 1 = .ok (.iload_n 1, 1) := by decide +kernel
theorem d_14_46_2 : decode prog_14_method_46_code 2 = .ok (.iconst 1, 1) := by decide +kernel
theorem d_14_46_3 : decode prog_14_method_46_code 3 = .ok (.bipush 60, 2) := by decide +kernel
theorem d_14_46_5 : decode prog_14_method_46_code 5 = .ok (.invokestatic 127, 3) := by decide +kernel
theorem d_14_46_8 : decode prog_14_method_46_code 8 = .ok (.iconst 1, 1) := by decide +kernel
theorem d_14_46_9 : decode prog_14_method_46_code 9 = .ok (.invokevirtual 150, 3) := by decide +kernel
theorem d_14_46_12 : decode prog_14_method_46_code 12 = .ok (.ifCond .eq 5, 3) := by decide +kernel
theorem d_14_46_15 : decode prog_14_method_46_code 15 = .ok (.iconst 0, 1) := by decide +kernel
theorem d_14_46_16 : decode prog_14_method_46_code 16 = .ok (.ireturn, 1) := by decide +kernel
theorem d_14_46_17 : decode prog_14_method_46_code 17 = .ok (.aload_n 0, 1) := by decide +kernel
theorem d_14_46_18 : decode prog_14_method_46_code 18 = .ok (.iconst 5, 1) := by decide +kernel
theorem d_14_46_19 : decode prog_14_method_46_code 19 = .ok (.iconst 1, 1) := by decide +kernel
theorem d_14_46_20 : decode prog_14_method_46_code 20 = .ok (.iconst 0, 1) := by decide +kernel
theorem d_14_46_21 : decode prog_14_method_46_code 21 = .ok (.invokevirtual 232, 3) := by decide +kernel
theorem d_14_46_24 : decode prog_14_method_46_code 24 = .ok (.astore_n 2, 1) := by decide +kernel
theorem d_14_46_25 : decode prog_14_method_46_code 25 = .ok (.iconst 1, 1) := by decide +kernel
theorem d_14_46_26 : decode prog_14_method_46_code 26 = .ok (.istore_n 3, 1) := by decide +kernel
theorem d_14_46_27 : decode prog_14_method_46_code 27 = .ok (.iload_n 3, 1) := by decide +kernel
theorem d_14_46_28 : decode prog_14_method_46_code 28 = .ok (.iload_n 1, 1) := by decide +kernel
theorem d_14_46_29 : decode prog_14_method_46_code 29 = .ok (.if_icmp .gt 64, 3) := by decide +kernel
theorem d_14_46_32 : decode prog_14_method_46_code 32 = .ok (.aload_n 0, 1) := by decide +kernel
theorem d_14_46_33 : decode prog_14_method_46_code 33 = .ok (.iconst 5, 1) := by decide +kernel
theorem d_14_46_34 : decode prog_14_method_46_code 34 = .ok (.iload_n 3, 1) := by decide +kernel
theorem d_14_46_35 : decode prog_14_method_46_code 35 = .ok (.iconst 1, 1) := by decide +kernel
theorem d_14_46_36 : decode prog_14_method_46_code 36 = .ok (.iadd, 1) := by decide +kernel
theorem d_14_46_37 : decode prog_14_method_46_code 37 = .ok (.iconst 0, 1) := by decide +kernel
theorem d_14_46_38 : decode prog_14_method_46_code 38 = .ok (.invokevirtual 232, 3) := by decide +kernel
theorem d_14_46_41 : decode prog_14_method_46_code 41 = .ok (.astore 4, 2) := by decide +kernel
theorem d_14_46_43 : decode prog_14_method_46_code 43 = .ok (.iconst 0, 1) := by decide +kernel
theorem d_14_46_44 : decode prog_14_method_46_code 44 = .ok (.istore 5, 2) := by decide +kernel
theorem d_14_46_46 : decode prog_14_method_46_code 46 = .ok (.iload 5, 2) := by decide +kernel
theorem d_14_46_48 : decode prog_14_method_46_code 48 = .ok (.aload_n 0, 1) := by decide +kernel
theorem d_14_46_49 : decode prog_14_method_46_code 49 = .ok (.getfield 100, 3) := by decide +kernel
theorem d_14_46_52 : decode prog_14_method_46_code 52 = .ok (.getfield 131, 3) := by decide +kernel
theorem d_14_46_55 : decode prog_14_method_46_code 55 = .ok (.if_icmp .ge 29, 3) := by decide +kernel
theorem d_14_46_84 : decode prog_14_method_46_code 84 = .ok (.aload 4, 2) := by decide +kernel
theorem d_14_46_86 : decode prog_14_method_46_code 86 = .ok (.astore_n 2, 1) := by decide +kernel
theorem d_14_46_87 : decode prog_14_method_46_code 87 = .ok (.iinc 3 1, 3) := by decide +kernel
theorem d_14_46_90 : decode prog_14_method_46_code 90 = .ok (.goto (-63), 3) := by decide +kernel
theorem d_14_46_93 : decode prog_14_method_46_code 93 = .ok (.iconst (-1), 1) := by decide +kernel
theorem d_14_46_94 : decode prog_14_method_46_code 94 = .ok (.ireturn, 1) := by decide +kernel
theorem d_14_47_0 : decode prog_14_method_47_code 0 = .ok (.aload_n 0, 1) := by decide +kernel
theorem d_14_47_1 : decode prog_14_method_47_code 1 = .ok (.iload_n 1, 1) := by decide +kernel
theorem d_14_47_2 : decode prog_14_method_47_code 2 = .ok (.iconst 1, 1) := by decide +kernel
theorem d_14_47_3 : decode prog_14_method_47_code 3 = .ok (.iconst 3, 1) := by decide +kernel
theorem d_14_47_4 : decode prog_14_method_47_code 4 = .ok (.invokestatic 127, 3) := by decide +kernel
theorem d_14_47_7 : decode prog_14_method_47_code 7 = .ok (.iconst 1, 1) := by decide +kernel
theorem d_14_47_8 : decode prog_14_method_47_code 8 = .ok (.invokevirtual 150, 3) := by decide +kernel
theorem d_14_47_11 : decode prog_14_method_47_code 11 = .ok (.ifCond .ne 26, 3) := by decide +kernel
theorem d_14_47_14 : decode prog_14_method_47_code 14 = .ok (.aload_n 0, 1) := by decide +kernel
theorem d_14_47_15 : decode prog_14_method_47_code 15 = .ok (.aload_n 0, 1) := by decide +kernel
theorem d_14_47_16 : decode prog_14_method_47_code 16 = .ok (.getfield 100, 3) := by decide +kernel
theorem d_14_47_19 : decode prog_14_method_47_code 19 = .ok (.getfield 124, 3) := by decide +kernel
theorem d_14_47_22 : decode prog_14_method_47_code 22 = .ok (.ifCond .le 7, 3) := by decide +kernel
theorem d_14_47_29 : decode prog_14_method_47_code 29 = .ok (.iconst 0, 1) := by decide +kernel
theorem d_14_47_30 : decode prog_14_method_47_code 30 = .ok (.iconst 2, 1) := by decide +kernel
theorem d_14_47_31 : decode prog_14_method_47_code 31 = .ok (.invokevirtual 150, 3) := by decide +kernel
theorem d_14_47_34 : decode prog_14_method_47_code 34 = .ok (.ifCond .eq 5, 3) := by decide +kernel
theorem d_14_47_37 : decode prog_14_method_47_code 37 = .ok (.iconst 0, 1) := by decide +kernel
theorem d_14_47_38 : decode prog_14_method_47_code 38 = .ok (.ireturn, 1) := by decide +kernel
theorem d_14_48_0 : decode prog_14_method_48_code 0 = .ok (.aload_n 0, 1) := by decide +kernel
theorem d_14_48_1 : decode prog_14_method_48_code 1 = .ok (.iconst 0, 1) := by decide +kernel
theorem d_14_48_2 : decode prog_14_method_48_code 2 = .ok (.putfield 114, 3) := by decide +kernel
theorem d_14_48_5 : decode prog_14_method_48_code 5 = .ok (.aload_n 0, 1) := by decide +kernel
theorem d_14_48_6 : decode prog_14_method_48_code 6 = .ok (.getfield 100, 3) := by decide +kernel
theorem d_14_48_9 : decode prog_14_method_48_code 9 = .ok (.getfield 246, 3) := by decide +kernel
theorem d_14_48_12 : decode prog_14_method_48_code 12 = .ok (.ifnonnull 7, 3) := by decide +kernel
theorem d_14_48_15 : decode prog_14_method_48_code 15 = .ok (.iconst (-1), 1) := by decide +kernel
theorem d_14_48_16 : decode prog_14_method_48_code 16 = .ok (.goto 13, 3) := by decide +kernel
theorem d_14_48_29 : decode prog_14_method_48_code 29 = .ok (.ireturn, 1) := by decide +kernel
theorem d_14_49_0 : decode prog_14_method_49_code 0 = .ok (.aload_n 0, 1) := by decide +kernel
theorem d_14_49_1 : decode prog_14_method_49_code 1 = .ok (.aload_n 0, 1) := by decide +kernel
theorem d_14_49_2 : decode prog_14_method_49_code 2 = .ok (.getfield 100, 3) := by decide +kernel
theorem d_14_49_5 : decode prog_14_method_49_code 5 = .ok (.getfield 246, 3) := by decide +kernel
theorem d_14_49_8 : decode prog_14_method_49_code 8 = .ok (.ifnull 27, 3) := by decide +kernel
theorem d_14_49_35 : decode prog_14_method_49_code 35 = .ok (.iconst 0, 1) := by decide +kernel
theorem d_14_49_36 : decode prog_14_method_49_code 36 = .ok (.iconst 1, 1) := by decide +kernel
theorem d_14_49_37 : decode prog_14_method_49_code 37 = .ok (.invokevirtual 150, 3) := by decide +kernel
theorem d_14_49_40 : decode prog_14_method_49_code 40 = .ok (.ifCond .eq 7, 3) := by decide +kernel
theorem d_14_49_43 : decode prog_14_method_49_code 43 = .ok (.iconst 0, 1) := by decide +kernel
theorem d_14_49_44 : decode prog_14_method_49_code 44 = .ok (.goto 15, 3) := by decide +kernel
theorem d_14_49_59 : decode prog_14_method_49_code 59 = .ok (.ireturn, 1) := by decide +kernel
theorem d_14_50_0 : decode prog_14_method_50_code 0 = .ok (.aload_n 0, 1) := by decide +kernel
theorem d_14_50_1 : decode prog_14_method_50_code 1 = .ok (.aload_n 0, 1) := by decide +kernel
theorem d_14_50_2 : decode prog_14_method_50_code 2 = .ok (.getfield 100, 3) := by decide +kernel
theorem d_14_50_5 : decode prog_14_method_50_code 5 = .ok (.getfield 246, 3) := by decide +kernel
theorem d_14_50_8 : decode prog_14_method_50_code 8 = .ok (.ifnull 27, 3) := by decide +kernel
theorem d_14_50_35 : decode prog_14_method_50_code 35 = .ok (.iconst 0, 1) := by decide +kernel
theorem d_14_50_36 : decode prog_14_method_50_code 36 = .ok (.iconst 1, 1) := by decide +kernel
theorem d_14_50_37 : decode prog_14_method_50_code 37 = .ok (.invokevirtual 150, 3) := by decide +kernel
theorem d_14_50_40 : decode prog_14_method_50_code 40 = .ok (.ifCond .eq 7, 3) := by decide +kernel
theorem d_14_50_43 : decode prog_14_method_50_code 43 = .ok (.iconst 0, 1) := by decide +kernel
theorem d_14_50_44 : decode prog_14_method_50_code 44 = .ok (.goto 15, 3) := by decide +kernel
theorem d_14_50_59 : decode prog_14_method_50_code 59 = .ok (.ireturn, 1) := by decide +kernel
theorem d_14_51_0 : decode prog_14_method_51_code 0 = .ok (.aload_n 0, 1) := by decide +kernel
theorem d_14_51_1 : decode prog_14_method_51_code 1 = .ok (.iconst 0, 1) := by decide +kernel
theorem d_14_51_2 : decode prog_14_method_51_code 2 = .ok (.putfield 114, 3) := by decide +kernel
theorem d_14_51_5 : decode prog_14_method_51_code 5 = .ok (.aload_n 0, 1) := by decide +kernel
theorem d_14_51_6 : decode prog_14_method_51_code 6 = .ok (.getfield 100, 3) := by decide +kernel
theorem d_14_51_9 : decode prog_14_method_51_code 9 = .ok (.getfield 246, 3) := by decide +kernel
theorem d_14_51_12 : decode prog_14_method_51_code 12 = .ok (.ifnonnull 7, 3) := by decide +kernel
theorem d_14_51_15 : decode prog_14_method_51_code 15 = .ok (.iconst 0, 1) := by decide +kernel
theorem d_14_51_16 : decode prog_14_method_51_code 16 = .ok (.goto 18, 3) := by decide +kernel
theorem d_14_51_34 : decode prog_14_method_51_code 34 = .ok (.ireturn, 1) := by decide +kernel
theorem d_14_53_0 : decode prog_14_method_53_code 0 = .ok (.aload_n 0, 1) := by decide +kernel
theorem d_14_53_1 : decode prog_14_method_53_code 1 = .ok (.iload_n 2, 1) := by decide +kernel
theorem d_14_53_2 : decode prog_14_method_53_code 2 = .ok (.iconst (-1), 1) := by decide +kernel
theorem d_14_53_3 : decode prog_14_method_53_code 3 = .ok (.if_icmp .eq 11, 3) := by decide +kernel
theorem d_14_53_6 : decode prog_14_method_53_code 6 = .ok (.aload_n 0, 1) := by decide +kernel
theorem d_14_53_7 : decode prog_14_method_53_code 7 = .ok (.iload_n 2, 1) := by decide +kernel
theorem d_14_53_8 : decode prog_14_method_53_code 8 = .ok (.invokevirtual 161, 3) := by decide +kernel
theorem d_14_53_11 : decode prog_14_method_53_code 11 = .ok (.ifCond .eq 7, 3) := by decide +kernel
theorem d_14_53_14 : decode prog_14_method_53_code 14 = .ok (.iconst 1, 1) := by decide +kernel
theorem d_14_53_15 : decode prog_14_method_53_code 15 = .ok (.goto 4, 3) := by decide +kernel
theorem d_14_53_18 : decode prog_14_method_53_code 18 = .ok (.iconst 0, 1) := by decide +kernel
theorem d_14_53_19 : decode prog_14_method_53_code 19 = .ok (.iconst 1, 1) := by decide +kernel
theorem d_14_53_20 : decode prog_14_method_53_code 20 = .ok (.invokevirtual 150, 3) := by decide +kernel
theorem d_14_53_23 : decode prog_14_method_53_code 23 = .ok (.ifCond .ne 49, 3) := by decide +kernel
theorem d_14_53_26 : decode prog_14_method_53_code 26 = .ok (.aload_n 0, 1) := by decide +kernel
theorem d_14_53_27 : decode prog_14_method_53_code 27 = .ok (.aload_n 0, 1) := by decide +kernel
theorem d_14_53_28 : decode prog_14_method_53_code 28 = .ok (.getfield 100, 3) := by decide +kernel
theorem d_14_53_31 : decode prog_14_method_53_code 31 = .ok (.getfield 246, 3) := by decide +kernel
theorem d_14_53_34 : decode prog_14_method_53_code 34 = .ok (.ifnull 30, 3) := by decide +kernel
theorem d_14_53_64 : decode prog_14_method_53_code 64 = .ok (.iconst 0, 1) := by decide +kernel
theorem d_14_53_65 : decode prog_14_method_53_code 65 = .ok (.iconst 2, 1) := by decide +kernel
theorem d_14_53_66 : decode prog_14_method_53_code 66 = .ok (.invokevirtual 150, 3) := by decide +kernel
theorem d_14_53_69 : decode prog_14_method_53_code 69 = .ok (.ifCond .eq 5, 3) := by decide +kernel
theorem d_14_53_72 : decode prog_14_method_53_code 72 = .ok (.iconst 0, 1) := by decide +kernel
theorem d_14_53_73 : decode prog_14_method_53_code 73 = .ok (.ireturn, 1) := by decide +kernel
theorem d_14_54_0 : decode prog_14_method_54_code 0 = .ok (.aload_n 0, 1) := by decide +kernel
theorem d_14_54_1 : decode prog_14_method_54_code 1 = .ok (.iconst 0, 1) := by decide +kernel
theorem d_14_54_2 : decode prog_14_method_54_code 2 = .ok (.putfield 114, 3) := by decide +kernel
theorem d_14_54_5 : decode prog_14_method_54_code 5 = .ok (.iload_n 1, 1) := by decide +kernel
theorem d_14_54_6 : decode prog_14_method_54_code 6 = .ok (.iconst 0, 1) := by decide +kernel
theorem d_14_54_7 : decode prog_14_method_54_code 7 = .ok (.aload_n 0, 1) := by decide +kernel
theorem d_14_54_8 : decode prog_14_method_54_code 8 = .ok (.getfield 111, 3) := by decide +kernel
theorem d_14_54_11 : decode prog_14_method_54_code 11 = .ok (.arraylength, 1) := by decide +kernel
theorem d_14_54_12 : decode prog_14_method_54_code 12 = .ok (.iconst 1, 1) := by decide +kernel
theorem d_14_54_13 : decode prog_14_method_54_code 13 = .ok (.isub, 1) := by decide +kernel
theorem d_14_54_14 : decode prog_14_method_54_code 14 = .ok (.invokestatic 127, 3) := by decide +kernel
theorem d_14_54_17 : decode prog_14_method_54_code 17 = .ok (.ifCond .eq 12, 3) := by decide +kernel
theorem d_14_54_29 : decode prog_14_method_54_code 29 = .ok (.iconst (-1), 1) := by decide +kernel
theorem d_14_54_30 : decode prog_14_method_54_code 30 = .ok (.ireturn, 1) := by decide +kernel
theorem d_14_56_0 : decode prog_14_method_56_code 0 = .ok (.aload_n 0, 1) := by decide +kernel
theorem d_14_56_1 : decode prog_14_method_56_code 1 = .ok (.iload_n 1, 1) := by decide +kernel
theorem d_14_56_2 : decode prog_14_method_56_code 2 = .ok (.ifCond .le 15, 3) := by decide +kernel
theorem d_14_56_5 : decode prog_14_method_56_code 5 = .ok (.iload_n 1, 1) := by decide +kernel
theorem d_14_56_6 : decode prog_14_method_56_code 6 = .ok (.aload_n 0, 1) := by decide +kernel
theorem d_14_56_7 : decode prog_14_method_56_code 7 = .ok (.invokevirtual 140, 3) := by decide +kernel
theorem d_14_56_10 : decode prog_14_method_56_code 10 = .ok (.if_icmp .gt 7, 3) := by decide +kernel
theorem d_14_56_17 : decode prog_14_method_56_code 17 = .ok (.iconst 0, 1) := by decide +kernel
theorem d_14_56_18 : decode prog_14_method_56_code 18 = .ok (.iconst 1, 1) := by decide +kernel
theorem d_14_56_19 : decode prog_14_method_56_code 19 = .ok (.invokevirtual 150, 3) := by decide +kernel
theorem d_14_56_22 : decode prog_14_method_56_code 22 = .ok (.ifCond .ne 26, 3) := by decide +kernel
theorem d_14_56_48 : decode prog_14_method_56_code 48 = .ok (.iconst 0, 1) := by decide +kernel
theorem d_14_56_49 : decode prog_14_method_56_code 49 = .ok (.ireturn, 1) := by decide +kernel
theorem d_14_57_0 : decode prog_14_method_57_code 0 = .ok (.aload_n 0, 1) := by decide +kernel
theorem d_14_57_1 : decode prog_14_method_57_code 1 = .ok (.aload_n 0, 1) := by decide +kernel
theorem d_14_57_2 : decode prog_14_method_57_code 2 = .ok (.iload_n 1, 1) := by decide +kernel
theorem d_14_57_3 : decode prog_14_method_57_code 3 = .ok (.invokevirtual 161, 3) := by decide +kernel
theorem d_14_57_6 : decode prog_14_method_57_code 6 = .ok (.ifCond .eq 15, 3) := by decide +kernel
theorem d_14_57_21 : decode prog_14_method_57_code 21 = .ok (.iconst 0, 1) := by decide +kernel
theorem d_14_57_22 : decode prog_14_method_57_code 22 = .ok (.iconst 1, 1) := by decide +kernel
theorem d_14_57_23 : decode prog_14_method_57_code 23 = .ok (.invokevirtual 150, 3) := by decide +kernel
theorem d_14_57_26 : decode prog_14_method_57_code 26 = .ok (.ifCond .eq 7, 3) := by decide +kernel
theorem d_14_57_29 : decode prog_14_method_57_code 29 = .ok (.iconst 0, 1) := by decide +kernel
theorem d_14_57_30 : decode prog_14_method_57_code 30 = .ok (.goto 12, 3) := by decide +kernel
theorem d_14_57_42 : decode prog_14_method_57_code 42 = .ok (.ireturn, 1) := by decide +kernel
theorem d_14_59_0 : decode prog_14_method_59_code 0 = .ok (.aload_n 0, 1) := by decide +kernel
theorem d_14_59_1 : decode prog_14_method_59_code 1 = .ok (.iconst 0, 1) := by decide +kernel
theorem d_14_59_2 : decode prog_14_method_59_code 2 = .ok (.putfield 114, 3) := by decide +kernel
theorem d_14_59_5 : decode prog_14_method_59_code 5 = .ok (.aload_n 0, 1) := by decide +kernel
theorem d_14_59_6 : decode prog_14_method_59_code 6 = .ok (.invokevirtual 300, 3) := by decide +kernel
theorem d_14_59_9 : decode prog_14_method_59_code 9 = .ok (.astore_n 1, 1) := by decide +kernel
theorem d_14_59_10 : decode prog_14_method_59_code 10 = .ok (.iconst 0, 1) := by decide +kernel
theorem d_14_59_11 : decode prog_14_method_59_code 11 = .ok (.istore_n 2, 1) := by decide +kernel
theorem d_14_59_12 : decode prog_14_method_59_code 12 = .ok (.iload_n 2, 1) := by decide +kernel
theorem d_14_59_13 : decode prog_14_method_59_code 13 = .ok (.aload_n 0, 1) := by decide +kernel
theorem d_14_59_14 : decode prog_14_method_59_code 14 = .ok (.getfield 100, 3) := by decide +kernel
theorem d_14_59_17 : decode prog_14_method_59_code 17 = .ok (.getfield 124, 3) := by decide +kernel
theorem d_14_59_20 : decode prog_14_method_59_code 20 = .ok (.if_icmp .ge 64, 3) := by decide +kernel
theorem d_14_59_84 : decode prog_14_method_59_code 84 = .ok (.iconst (-1), 1) := by decide +kernel
theorem d_14_59_85 : decode prog_14_method_59_code 85 = .ok (.ireturn, 1) := by decide +kernel
theorem d_14_60_0 : decode prog_14_method_60_code 0 = .ok (.aload_n 0, 1) := by decide +kernel
theorem d_14_60_1 : decode prog_14_method_60_code 1 = .ok (.aload_n 0, 1) := by decide +kernel
theorem d_14_60_2 : decode prog_14_method_60_code 2 = .ok (.iload_n 1, 1) := by decide +kernel
theorem d_14_60_3 : decode prog_14_method_60_code 3 = .ok (.invokevirtual 161, 3) := by decide +kernel
theorem d_14_60_6 : decode prog_14_method_60_code 6 = .ok (.ifCond .eq 15, 3) := by decide +kernel
theorem d_14_60_21 : decode prog_14_method_60_code 21 = .ok (.iconst 0, 1) := by decide +kernel
theorem d_14_60_22 : decode prog_14_method_60_code 22 = .ok (.iconst 1, 1) := by decide +kernel
theorem d_14_60_23 : decode prog_14_method_60_code 23 = .ok (.invokevirtual 150, 3) := by decide +kernel
theorem d_14_60_26 : decode prog_14_method_60_code 26 = .ok (.ifCond .eq 7, 3) := by decide +kernel
theorem d_14_60_29 : decode prog_14_method_60_code 29 = .ok (.iconst 0, 1) := by decide +kernel
theorem d_14_60_30 : decode prog_14_method_60_code 30 = .ok (.goto 14, 3) := by decide +kernel
theorem d_14_60_44 : decode prog_14_method_60_code 44 = .ok (.ireturn, 1) := by decide +kernel
theorem d_14_61_0 : decode prog_14_method_61_code 0 = .ok (.aload_n 0, 1) := by decide +kernel
theorem d_14_61_1 : decode prog_14_method_61_code 1 = .ok (.iconst 0, 1) := by decide +kernel
theorem d_14_61_2 : decode prog_14_method_61_code 2 = .ok (.putfield 114, 3) := by decide +kernel
theorem d_14_61_5 : decode prog_14_method_61_code 5 = .ok (.aload_n 0, 1) := by decide +kernel
theorem d_14_61_6 : decode prog_14_method_61_code 6 = .ok (.invokevirtual 300, 3) := by decide +kernel
theorem d_14_61_9 : decode prog_14_method_61_code 9 = .ok (.invokevirtual 315, 3) := by decide +kernel
theorem d_14_61_12 : decode prog_14_method_61_code 12 = .ok (.ireturn, 1) := by decide +kernel
theorem d_14_62_0 : decode prog_14_method_62_code 0 = .ok (.aload_n 0, 1) := by decide +kernel
theorem d_14_62_1 : decode prog_14_method_62_code 1 = .ok (.iconst 0, 1) := by decide +kernel
theorem d_14_62_2 : decode prog_14_method_62_code 2 = .ok (.putfield 114, 3) := by decide +kernel
theorem d_14_62_5 : decode prog_14_method_62_code 5 = .ok (.aload_n 0, 1) := by decide +kernel
theorem d_14_62_6 : decode prog_14_method_62_code 6 = .ok (.invokevirtual 140, 3) := by decide +kernel
theorem d_14_62_9 : decode prog_14_method_62_code 9 = .ok (.istore_n 1, 1) := by decide +kernel
theorem d_14_62_10 : decode prog_14_method_62_code 10 = .ok (.aload_n 0, 1) := by decide +kernel
theorem d_14_62_11 : decode prog_14_method_62_code 11 = .ok (.invokevirtual 300, 3) := by decide +kernel
theorem d_14_62_14 : decode prog_14_method_62_code 14 = .ok (.astore_n 2, 1) := by decide +kernel
theorem d_14_62_15 : decode prog_14_method_62_code 15 = .ok (.iconst 1, 1) := by decide +kernel
theorem d_14_62_16 : decode prog_14_method_62_code 16 = .ok (.istore_n 3, 1) := by decide +kernel
theorem d_14_62_17 : decode prog_14_method_62_code 17 = .ok (.iload_n 3, 1) := by decide +kernel
theorem d_14_62_18 : decode prog_14_method_62_code 18 = .ok (.aload_n 0, 1) := by decide +kernel
theorem d_14_62_19 : decode prog_14_method_62_code 19 = .ok (.invokevirtual 140, 3) := by decide +kernel
theorem d_14_62_22 : decode prog_14_method_62_code 22 = .ok (.if_icmp .ge 127, 3) := by decide +kernel
theorem d_14_62_149 : decode prog_14_method_62_code 149 = .ok (.iload_n 1, 1) := by decide +kernel
theorem d_14_62_150 : decode prog_14_method_62_code 150 = .ok (.ireturn, 1) := by decide +kernel
theorem d_14_63_0 : decode prog_14_method_63_code 0 = .ok (.aload_n 0, 1) := by decide +kernel
theorem d_14_63_1 : decode prog_14_method_63_code 1 = .ok (.getfield 100, 3) := by decide +kernel
theorem d_14_63_4 : decode prog_14_method_63_code 4 = .ok (.getfield 124, 3) := by decide +kernel
theorem d_14_63_7 : decode prog_14_method_63_code 7 = .ok (.istore_n 1, 1) := by decide +kernel
theorem d_14_63_8 : decode prog_14_method_63_code 8 = .ok (.iload_n 1, 1) := by decide +kernel
theorem d_14_63_9 : decode prog_14_method_63_code 9 = .ok (.iload_n 1, 1) := by decide +kernel
theorem d_14_63_10 : decode prog_14_method_63_code 10 = .ok (.multianewarray 277 2, 4) := by decide +kernel
theorem d_14_63_14 : decode prog_14_method_63_code 14 = .ok (.astore_n 2, 1) := by decide +kernel
theorem d_14_63_15 : decode prog_14_method_63_code 15 = .ok (.aload_n 0, 1) := by decide +kernel
theorem d_14_63_16 : decode prog_14_method_63_code 16 = .ok (.invokevirtual 300, 3) := by decide +kernel
theorem d_14_63_19 : decode prog_14_method_63_code 19 = .ok (.astore_n 3, 1) := by decide +kernel
theorem d_14_63_20 : decode prog_14_method_63_code 20 = .ok (.iconst 0, 1) := by decide +kernel
theorem d_14_63_21 : decode prog_14_method_63_code 21 = .ok (.istore 4, 2) := by decide +kernel
theorem d_14_63_23 : decode prog_14_method_63_code 23 = .ok (.iload 4, 2) := by decide +kernel
theorem d_14_63_25 : decode prog_14_method_63_code 25 = .ok (.iload_n 1, 1) := by decide +kernel
theorem d_14_63_26 : decode prog_14_method_63_code 26 = .ok (.if_icmp .ge 50, 3) := by decide +kernel
theorem d_14_63_76 : decode prog_14_method_63_code 76 = .ok (.aload_n 0, 1) := by decide +kernel
theorem d_14_63_77 : decode prog_14_method_63_code 77 = .ok (.aconst_null, 1) := by decide +kernel
theorem d_14_63_78 : decode prog_14_method_63_code 78 = .ok (.putfield 318, 3) := by decide +kernel
theorem d_14_63_81 : decode prog_14_method_63_code 81 = .ok (.aload_n 0, 1) := by decide +kernel
theorem d_14_63_82 : decode prog_14_method_63_code 82 = .ok (.lconst 0, 1) := by decide +kernel
theorem d_14_63_83 : decode prog_14_method_63_code 83 = .ok (.putfield 321, 3) := by decide +kernel
theorem d_14_63_86 : decode prog_14_method_63_code 86 = .ok (.aload_n 0, 1) := by decide +kernel
theorem d_14_63_87 : decode prog_14_method_63_code 87 = .ok (.aload_n 2, 1) := by decide +kernel
theorem d_14_63_88 : decode prog_14_method_63_code 88 = .ok (.iload_n 1, 1) := by decide +kernel
theorem d_14_63_89 : decode prog_14_method_63_code 89 = .ok (.newarray .int, 2) := by decide +kernel
theorem d_14_63_91 : decode prog_14_method_63_code 91 = .ok (.iconst 0, 1) := by decide +kernel
theorem d_14_63_92 : decode prog_14_method_63_code 92 = .ok (.iconst 0, 1) := by decide +kernel
theorem d_14_63_93 : decode prog_14_method_63_code 93 = .ok (.lconst 0, 1) := by decide +kernel
theorem d_14_63_94 : decode prog_14_method_63_code 94 = .ok (.invokevirtual 325, 3) := by decide +kernel
theorem d_14_63_97 : decode prog_14_method_63_code 97 = .ok (.return_, 1) := by decide +kernel
theorem d_14_64_0 : decode prog_14_method_64_code 0 = .ok (.iload_n 3, 1) := by decide +kernel
theorem d_14_64_1 : decode prog_14_method_64_code 1 = .ok (.aload_n 2, 1) := by decide +kernel
theorem d_14_64_2 : decode prog_14_method_64_code 2 = .ok (.arraylength, 1) := by decide +kernel
theorem d_14_64_3 : decode prog_14_method_64_code 3 = .ok (.if_icmp .ne 45, 3) := by decide +kernel
theorem d_14_64_6 : decode prog_14_method_64_code 6 = .ok (.aload_n 0, 1) := by decide +kernel
theorem d_14_64_7 : decode prog_14_method_64_code 7 = .ok (.getfield 318, 3) := by decide +kernel
theorem d_14_64_10 : decode prog_14_method_64_code 10 = .ok (.ifnull 13, 3) := by decide +kernel
theorem d_14_64_23 : decode prog_14_method_64_code 23 = .ok (.aload_n 0, 1) := by decide +kernel
theorem d_14_64_24 : decode prog_14_method_64_code 24 = .ok (.iload_n 3, 1) := by decide +kernel
theorem d_14_64_25 : decode prog_14_method_64_code 25 = .ok (.newarray .int, 2) := by decide +kernel
theorem d_14_64_27 : decode prog_14_method_64_code 27 = .ok (.putfield 318, 3) := by decide +kernel
theorem d_14_64_30 : decode prog_14_method_64_code 30 = .ok (.aload_n 2, 1) := by decide +kernel
theorem d_14_64_31 : decode prog_14_method_64_code 31 = .ok (.iconst 0, 1) := by decide +kernel
theorem d_14_64_32 : decode prog_14_method_64_code 32 = .ok (.aload_n 0, 1) := by decide +kernel
theorem d_14_64_33 : decode prog_14_method_64_code 33 = .ok (.getfield 318, 3) := by decide +kernel
theorem d_14_64_36 : decode prog_14_method_64_code 36 = .ok (.iconst 0, 1) := by decide +kernel
theorem d_14_64_37 : decode prog_14_method_64_code 37 = .ok (.iload_n 3, 1) := by decide +kernel
theorem d_14_64_38 : decode prog_14_method_64_code 38 = .ok (.invokestatic 5, 3) := by decide +kernel
theorem d_14_64_41 : decode prog_14_method_64_code 41 = .ok (.aload_n 0, 1) := by decide +kernel
theorem d_14_64_42 : decode prog_14_method_64_code 42 = .ok (.lload 5, 2) := by decide +kernel
theorem d_14_64_44 : decode prog_14_method_64_code 44 = .ok (.putfield 321, 3) := by decide +kernel
theorem d_14_64_47 : decode prog_14_method_64_code 47 = .ok (.return_, 1) := by decide +kernel
theorem d_14_65_0 : decode prog_14_method_65_code 0 = .ok (.aload_n 0, 1) := by decide +kernel
theorem d_14_65_1 : decode prog_14_method_65_code 1 = .ok (.invokevirtual 329, 3) := by decide +kernel
theorem d_14_65_4 : decode prog_14_method_65_code 4 = .ok (.aload_n 0, 1) := by decide +kernel
theorem d_14_65_5 : decode prog_14_method_65_code 5 = .ok (.iload_n 1, 1) := by decide +kernel
theorem d_14_65_6 : decode prog_14_method_65_code 6 = .ok (.iconst 0, 1) := by decide +kernel
theorem d_14_65_7 : decode prog_14_method_65_code 7 = .ok (.aload_n 0, 1) := by decide +kernel
theorem d_14_65_8 : decode prog_14_method_65_code 8 = .ok (.getfield 318, 3) := by decide +kernel
theorem d_14_65_11 : decode prog_14_method_65_code 11 = .ok (.arraylength, 1) := by decide +kernel
theorem d_14_65_12 : decode prog_14_method_65_code 12 = .ok (.iconst 1, 1) := by decide +kernel
theorem d_14_65_13 : decode prog_14_method_65_code 13 = .ok (.isub, 1) := by decide +kernel
theorem d_14_65_14 : decode prog_14_method_65_code 14 = .ok (.invokestatic 127, 3) := by decide +kernel
theorem d_14_65_17 : decode prog_14_method_65_code 17 = .ok (.iconst 1, 1) := by decide +kernel
theorem d_14_65_18 : decode prog_14_method_65_code 18 = .ok (.invokevirtual 150, 3) := by decide +kernel
theorem d_14_65_21 : decode prog_14_method_65_code 21 = .ok (.ifCond .eq 7, 3) := by decide +kernel
theorem d_14_65_24 : decode prog_14_method_65_code 24 = .ok (.iconst 0, 1) := by decide +kernel
theorem d_14_65_25 : decode prog_14_method_65_code 25 = .ok (.goto 9, 3) := by decide +kernel
theorem d_14_65_34 : decode prog_14_method_65_code 34 = .ok (.ireturn, 1) := by decide +kernel
theorem d_14_66_0 : decode prog_14_method_66_code 0 = .ok (.aload_n 0, 1) := by decide +kernel
theorem d_14_66_1 : decode prog_14_method_66_code 1 = .ok (.iconst 0, 1) := by decide +kernel
theorem d_14_66_2 : decode prog_14_method_66_code 2 = .ok (.putfield 114, 3) := by decide +kernel
theorem d_14_66_5 : decode prog_14_method_66_code 5 = .ok (.aload_n 0, 1) := by decide +kernel
theorem d_14_66_6 : decode prog_14_method_66_code 6 = .ok (.invokevirtual 329, 3) := by decide +kernel
theorem d_14_66_9 : decode prog_14_method_66_code 9 = .ok (.aload_n 0, 1) := by decide +kernel
theorem d_14_66_10 : decode prog_14_method_66_code 10 = .ok (.getfield 321, 3) := by decide +kernel
theorem d_14_66_13 : decode prog_14_method_66_code 13 = .ok (.lreturn, 1) := by decide +kernel
theorem d_14_67_0 : decode prog_14_method_67_code 0 = .ok (.aload_n 0, 1) := by decide +kernel
theorem d_14_67_1 : decode prog_14_method_67_code 1 = .ok (.iload_n 1, 1) := by decide +kernel
theorem d_14_67_2 : decode prog_14_method_67_code 2 = .ok (.iconst 0, 1) := by decide +kernel
theorem d_14_67_3 : decode prog_14_method_67_code 3 = .ok (.iconst 4, 1) := by decide +kernel
theorem d_14_67_4 : decode prog_14_method_67_code 4 = .ok (.invokestatic 127, 3) := by decide +kernel
theorem d_14_67_7 : decode prog_14_method_67_code 7 = .ok (.iconst 1, 1) := by decide +kernel
theorem d_14_67_8 : decode prog_14_method_67_code 8 = .ok (.invokevirtual 150, 3) := by decide +kernel
theorem d_14_67_11 : decode prog_14_method_67_code 11 = .ok (.ifCond .eq 7, 3) := by decide +kernel
theorem d_14_67_14 : decode prog_14_method_67_code 14 = .ok (.iconst 0, 1) := by decide +kernel
theorem d_14_67_15 : decode prog_14_method_67_code 15 = .ok (.goto 11, 3) := by decide +kernel
theorem d_14_67_18 : decode prog_14_method_67_code 18 = .ok (.aload_n 0, 1) := by decide +kernel
theorem d_14_67_19 : decode prog_14_method_67_code 19 = .ok (.invokevirtual 300, 3) := by decide +kernel
theorem d_14_67_22 : decode prog_14_method_67_code 22 = .ok (.iload_n 1, 1) := by decide +kernel
theorem d_14_67_23 : decode prog_14_method_67_code 23 = .ok (.invokevirtual 332, 3) := by decide +kernel
theorem d_14_67_26 : decode prog_14_method_67_code 26 = .ok (.ireturn, 1) := by decide +kernel
theorem d_14_68_0 : decode prog_14_method_68_code 0 = .ok (.aload_n 0, 1) := by decide +kernel
theorem d_14_68_1 : decode prog_14_method_68_code 1 = .ok (.aload_n 0, 1) := by decide +kernel
theorem d_14_68_2 : decode prog_14_method_68_code 2 = .ok (.iload_n 2, 1) := by decide +kernel
theorem d_14_68_3 : decode prog_14_method_68_code 3 = .ok (.invokevirtual 161, 3) := by decide +kernel
theorem d_14_68_6 : decode prog_14_method_68_code 6 = .ok (.iconst 1, 1) := by decide +kernel
theorem d_14_68_7 : decode prog_14_method_68_code 7 = .ok (.invokevirtual 150, 3) := by decide +kernel
theorem d_14_68_10 : decode prog_14_method_68_code 10 = .ok (.ifCond .ne 30, 3) := by decide +kernel
theorem d_14_68_40 : decode prog_14_method_68_code 40 = .ok (.iconst 0, 1) := by decide +kernel
theorem d_14_68_41 : decode prog_14_method_68_code 41 = .ok (.goto 12, 3) := by decide +kernel
theorem d_14_68_53 : decode prog_14_method_68_code 53 = .ok (.ireturn, 1) := by decide +kernel
theorem d_14_69_0 : decode prog_14_method_69_code 0 = .ok (.aload_n 0, 1) := by decide +kernel
theorem d_14_69_1 : decode prog_14_method_69_code 1 = .ok (.invokevirtual 300, 3) := by decide +kernel
theorem d_14_69_4 : decode prog_14_method_69_code 4 = .ok (.astore_n 2, 1) := by decide +kernel
theorem d_14_69_5 : decode prog_14_method_69_code 5 = .ok (.aload_n 2, 1) := by decide +kernel
theorem d_14_69_6 : decode prog_14_method_69_code 6 = .ok (.iconst 1, 1) := by decide +kernel
theorem d_14_69_7 : decode prog_14_method_69_code 7 = .ok (.invokevirtual 332, 3) := by decide +kernel
theorem d_14_69_10 : decode prog_14_method_69_code 10 = .ok (.istore_n 3, 1) := by decide +kernel
theorem d_14_69_11 : decode prog_14_method_69_code 11 = .ok (.aload_n 0, 1) := by decide +kernel
theorem d_14_69_12 : decode prog_14_method_69_code 12 = .ok (.iload_n 1, 1) := by decide +kernel
theorem d_14_69_13 : decode prog_14_method_69_code 13 = .ok (.iconst 0, 1) := by decide +kernel
theorem d_14_69_14 : decode prog_14_method_69_code 14 = .ok (.aload_n 2, 1) := by decide +kernel
theorem d_14_69_15 : decode prog_14_method_69_code 15 = .ok (.getfield 337, 3) := by decide +kernel
theorem d_14_69_18 : decode prog_14_method_69_code 18 = .ok (.iconst 1, 1) := by decide +kernel
theorem d_14_69_19 : decode prog_14_method_69_code 19 = .ok (.isub, 1) := by decide +kernel
theorem d_14_69_20 : decode prog_14_method_69_code 20 = .ok (.invokestatic 127, 3) := by decide +kernel
theorem d_14_69_23 : decode prog_14_method_69_code 23 = .ok (.iconst 1, 1) := by decide +kernel
theorem d_14_69_24 : decode prog_14_method_69_code 24 = .ok (.invokevirtual 150, 3) := by decide +kernel
theorem d_14_69_27 : decode prog_14_method_69_code 27 = .ok (.ifCond .eq 7, 3) := by decide +kernel
theorem d_14_69_30 : decode prog_14_method_69_code 30 = .ok (.iconst 0, 1) := by decide +kernel
theorem d_14_69_31 : decode prog_14_method_69_code 31 = .ok (.goto 9, 3) := by decide +kernel
theorem d_14_69_40 : decode prog_14_method_69_code 40 = .ok (.ireturn, 1) := by decide +kernel
theorem d_14_70_0 : decode prog_14_method_70_code 0 = .ok (.aload_n 0, 1) := by decide +kernel
theorem d_14_70_1 : decode prog_14_method_70_code 1 = .ok (.iload_n 1, 1) := by decide +kernel
theorem d_14_70_2 : decode prog_14_method_70_code 2 = .ok (.iconst 0, 1) := by decide +kernel
theorem d_14_70_3 : decode prog_14_method_70_code 3 = .ok (.iconst 4, 1) := by decide +kernel
theorem d_14_70_4 : decode prog_14_method_70_code 4 = .ok (.invokestatic 127, 3) := by decide +kernel
theorem d_14_70_7 : decode prog_14_method_70_code 7 = .ok (.ifCond .eq 20, 3) := by decide +kernel
theorem d_14_70_10 : decode prog_14_method_70_code 10 = .ok (.iload_n 2, 1) := by decide +kernel
theorem d_14_70_11 : decode prog_14_method_70_code 11 = .ok (.sipush (-1000), 3) := by decide +kernel
theorem d_14_70_14 : decode prog_14_method_70_code 14 = .ok (.sipush 1000, 3) := by decide +kernel
theorem d_14_70_17 : decode prog_14_method_70_code 17 = .ok (.invokestatic 127, 3) := by decide +kernel
theorem d_14_70_20 : decode prog_14_method_70_code 20 = .ok (.ifCond .eq 7, 3) := by decide +kernel
theorem d_14_70_23 : decode prog_14_method_70_code 23 = .ok (.iconst 1, 1) := by decide +kernel
theorem d_14_70_24 : decode prog_14_method_70_code 24 = .ok (.goto 4, 3) := by decide +kernel
theorem d_14_70_27 : decode prog_14_method_70_code 27 = .ok (.iconst 0, 1) := by decide +kernel
theorem d_14_70_28 : decode prog_14_method_70_code 28 = .ok (.iconst 1, 1) := by decide +kernel
theorem d_14_70_29 : decode prog_14_method_70_code 29 = .ok (.invokevirtual 150, 3) := by decide +kernel
theorem d_14_70_32 : decode prog_14_method_70_code 32 = .ok (.ifCond .eq 5, 3) := by decide +kernel
theorem d_14_70_35 : decode prog_14_method_70_code 35 = .ok (.iconst 0, 1) := by decide +kernel
theorem d_14_70_36 : decode prog_14_method_70_code 36 = .ok (.ireturn, 1) := by decide +kernel
theorem d_14_70_37 : decode prog_14_method_70_code 37 = .ok (.aload_n 0, 1) := by decide +kernel
theorem d_14_70_38 : decode prog_14_method_70_code 38 = .ok (.invokevirtual 189, 3) := by decide +kernel
theorem d_14_70_41 : decode prog_14_method_70_code 41 = .ok (.aload_n 0, 1) := by decide +kernel
theorem d_14_70_42 : decode prog_14_method_70_code 42 = .ok (.iconst 0, 1) := by decide +kernel
theorem d_14_70_43 : decode prog_14_method_70_code 43 = .ok (.putfield 169, 3) := by decide +kernel
theorem d_14_70_46 : decode prog_14_method_70_code 46 = .ok (.aload_n 0, 1) := by decide +kernel
theorem d_14_70_47 : decode prog_14_method_70_code 47 = .ok (.getfield 172, 3) := by decide +kernel
theorem d_14_70_50 : decode prog_14_method_70_code 50 = .ok (.iconst (-1), 1) := by decide +kernel
theorem d_14_70_51 : decode prog_14_method_70_code 51 = .ok (.if_icmp .eq 11, 3) := by decide +kernel
theorem d_14_70_62 : decode prog_14_method_70_code 62 = .ok (.aload_n 0, 1) := by decide +kernel
theorem d_14_70_63 : decode prog_14_method_70_code 63 = .ok (.invokevirtual 192, 3) := by decide +kernel
theorem d_14_70_66 : decode prog_14_method_70_code 66 = .ok (.istore_n 3, 1) := by decide +kernel
theorem d_14_70_67 : decode prog_14_method_70_code 67 = .ok (.iload_n 3, 1) := by decide +kernel
theorem d_14_70_68 : decode prog_14_method_70_code 68 = .ok (.aload_n 0, 1) := by decide +kernel
theorem d_14_70_69 : decode prog_14_method_70_code 69 = .ok (.getfield 100, 3) := by decide +kernel
theorem d_14_70_72 : decode prog_14_method_70_code 72 = .ok (.getfield 134, 3) := by decide +kernel
theorem d_14_70_75 : decode prog_14_method_70_code 75 = .ok (.arraylength, 1) := by decide +kernel
theorem d_14_70_76 : decode prog_14_method_70_code 76 = .ok (.if_icmp .ge 18, 3) := by decide +kernel
theorem d_14_70_94 : decode prog_14_method_70_code 94 = .ok (.iconst 0, 1) := by decide +kernel
theorem d_14_70_95 : decode prog_14_method_70_code 95 = .ok (.istore 4, 2) := by decide +kernel
theorem d_14_70_97 : decode prog_14_method_70_code 97 = .ok (.aload_n 0, 1) := by decide +kernel
theorem d_14_70_98 : decode prog_14_method_70_code 98 = .ok (.iload_n 3, 1) := by decide +kernel
theorem d_14_70_99 : decode prog_14_method_70_code 99 = .ok (.aload_n 0, 1) := by decide +kernel
theorem d_14_70_100 : decode prog_14_method_70_code 100 = .ok (.getfield 180, 3) := by decide +kernel
theorem d_14_70_103 : decode prog_14_method_70_code 103 = .ok (.iconst 0, 1) := by decide +kernel
theorem d_14_70_104 : decode prog_14_method_70_code 104 = .ok (.iload 4, 2) := by decide +kernel
theorem d_14_70_106 : decode prog_14_method_70_code 106 = .ok (.iload_n 2, 1) := by decide +kernel
theorem d_14_70_107 : decode prog_14_method_70_code 107 = .ok (.iadd, 1) := by decide +kernel
theorem d_14_70_108 : decode prog_14_method_70_code 108 = .ok (.invokestatic 11, 3) := by decide +kernel
theorem d_14_70_111 : decode prog_14_method_70_code 111 = .ok (.invokevirtual 199, 3) := by decide +kernel
theorem d_14_70_114 : decode prog_14_method_70_code 114 = .ok (.invokevirtual 203, 3) := by decide +kernel
theorem d_14_70_117 : decode prog_14_method_70_code 117 = .ok (.astore 5, 2) := by decide +kernel
theorem d_14_70_119 : decode prog_14_method_70_code 119 = .ok (.new 138, 3) := by decide +kernel
theorem d_14_70_122 : decode prog_14_method_70_code 122 = .ok (.dup, 1) := by decide +kernel
theorem d_14_70_123 : decode prog_14_method_70_code 123 = .ok (.aload 5, 2) := by decide +kernel
theorem d_14_70_125 : decode prog_14_method_70_code 125 = .ok (.aload_n 0, 1) := by decide +kernel
theorem d_14_70_126 : decode prog_14_method_70_code 126 = .ok (.invokevirtual 140, 3) := by decide +kernel
theorem d_14_70_129 : decode prog_14_method_70_code 129 = .ok (.aload_n 0, 1) := by decide +kernel
theorem d_14_70_130 : decode prog_14_method_70_code 130 = .ok (.getfield 100, 3) := by decide +kernel
theorem d_14_70_133 : decode prog_14_method_70_code 133 = .ok (.getfield 144, 3) := by decide +kernel
theorem d_14_70_136 : decode prog_14_method_70_code 136 = .ok (.invokespecial 147, 3) := by decide +kernel
theorem d_14_70_139 : decode prog_14_method_70_code 139 = .ok (.iload_n 1, 1) := by decide +kernel
theorem d_14_70_140 : decode prog_14_method_70_code 140 = .ok (.invokevirtual 332, 3) := by decide +kernel
theorem d_14_70_143 : decode prog_14_method_70_code 143 = .ok (.ireturn, 1) := by decide +kernel
theorem d_14_73_0 : decode prog_14_method_73_code 0 = .ok (.aload_n 0, 1) := by decide +kernel
theorem d_14_73_1 : decode prog_14_method_73_code 1 = .ok (.iload_n 1, 1) := by decide +kernel
theorem d_14_73_2 : decode prog_14_method_73_code 2 = .ok (.iconst 0, 1) := by decide +kernel
theorem d_14_73_3 : decode prog_14_method_73_code 3 = .ok (.iconst 4, 1) := by decide +kernel
theorem d_14_73_4 : decode prog_14_method_73_code 4 = .ok (.invokestatic 127, 3) := by decide +kernel
theorem d_14_73_7 : decode prog_14_method_73_code 7 = .ok (.iconst 1, 1) := by decide +kernel
theorem d_14_73_8 : decode prog_14_method_73_code 8 = .ok (.invokevirtual 150, 3) := by decide +kernel
theorem d_14_73_11 : decode prog_14_method_73_code 11 = .ok (.ifCond .ne 27, 3) := by decide +kernel
theorem d_14_73_14 : decode prog_14_method_73_code 14 = .ok (.aload_n 0, 1) := by decide +kernel
theorem d_14_73_15 : decode prog_14_method_73_code 15 = .ok (.aload_n 0, 1) := by decide +kernel
theorem d_14_73_16 : decode prog_14_method_73_code 16 = .ok (.getfield 100, 3) := by decide +kernel
theorem d_14_73_19 : decode prog_14_method_73_code 19 = .ok (.getfield 124, 3) := by decide +kernel
theorem d_14_73_22 : decode prog_14_method_73_code 22 = .ok (.iconst 5, 1) := by decide +kernel
theorem d_14_73_23 : decode prog_14_method_73_code 23 = .ok (.if_icmp .gt 7, 3) := by decide +kernel
theorem d_14_73_26 : decode prog_14_method_73_code 26 = .ok (.iconst 1, 1) := by decide +kernel
theorem d_14_73_27 : decode prog_14_method_73_code 27 = .ok (.goto 4, 3) := by decide +kernel
theorem d_14_73_31 : decode prog_14_method_73_code 31 = .ok (.iconst 2, 1) := by decide +kernel
theorem d_14_73_32 : decode prog_14_method_73_code 32 = .ok (.invokevirtual 150, 3) := by decide +kernel
theorem d_14_73_35 : decode prog_14_method_73_code 35 = .ok (.ifCond .eq 5, 3) := by decide +kernel
theorem d_14_73_38 : decode prog_14_method_73_code 38 = .ok (.iconst 0, 1) := by decide +kernel
theorem d_14_73_39 : decode prog_14_method_73_code 39 = .ok (.ireturn, 1) := by decide +kernel
theorem d_14_73_40 : decode prog_14_method_73_code 40 = .ok (.aload_n 0, 1) := by decide +kernel
theorem d_14_73_41 : decode prog_14_method_73_code 41 = .ok (.getfield 100, 3) := by decide +kernel
theorem d_14_73_44 : decode prog_14_method_73_code 44 = .ok (.getfield 124, 3) := by decide +kernel
theorem d_14_73_47 : decode prog_14_method_73_code 47 = .ok (.ifCond .ne 5, 3) := by decide +kernel
theorem d_14_73_50 : decode prog_14_method_73_code 50 = .ok (.iconst (-1), 1) := by decide +kernel
theorem d_14_73_51 : decode prog_14_method_73_code 51 = .ok (.ireturn, 1) := by decide +kernel
theorem d_14_74_0 : decode prog_14_method_74_code 0 = .ok (.aload_n 0, 1) := by decide +kernel
theorem d_14_74_1 : decode prog_14_method_74_code 1 = .ok (.iload_n 1, 1) := by decide +kernel
theorem d_14_74_2 : decode prog_14_method_74_code 2 = .ok (.iconst 0, 1) := by decide +kernel
theorem d_14_74_3 : decode prog_14_method_74_code 3 = .ok (.iconst 4, 1) := by decide +kernel
theorem d_14_74_4 : decode prog_14_method_74_code 4 = .ok (.invokestatic 127, 3) := by decide +kernel
theorem d_14_74_7 : decode prog_14_method_74_code 7 = .ok (.iconst 1, 1) := by decide +kernel
theorem d_14_74_8 : decode prog_14_method_74_code 8 = .ok (.invokevirtual 150, 3) := by decide +kernel
theorem d_14_74_11 : decode prog_14_method_74_code 11 = .ok (.ifCond .ne 27, 3) := by decide +kernel
theorem d_14_74_14 : decode prog_14_method_74_code 14 = .ok (.aload_n 0, 1) := by decide +kernel
theorem d_14_74_15 : decode prog_14_method_74_code 15 = .ok (.aload_n 0, 1) := by decide +kernel
theorem d_14_74_16 : decode prog_14_method_74_code 16 = .ok (.getfield 100, 3) := by decide +kernel
theorem d_14_74_19 : decode prog_14_method_74_code 19 = .ok (.getfield 124, 3) := by decide +kernel
theorem d_14_74_22 : decode prog_14_method_74_code 22 = .ok (.iconst 5, 1) := by decide +kernel
theorem d_14_74_23 : decode prog_14_method_74_code 23 = .ok (.if_icmp .gt 7, 3) := by decide +kernel
theorem d_14_74_26 : decode prog_14_method_74_code 26 = .ok (.iconst 1, 1) := by decide +kernel
theorem d_14_74_27 : decode prog_14_method_74_code 27 = .ok (.goto 4, 3) := by decide +kernel
theorem d_14_74_31 : decode prog_14_method_74_code 31 = .ok (.iconst 2, 1) := by decide +kernel
theorem d_14_74_32 : decode prog_14_method_74_code 32 = .ok (.invokevirtual 150, 3) := by decide +kernel
theorem d_14_74_35 : decode prog_14_method_74_code 35 = .ok (.ifCond .eq 5, 3) := by decide +kernel
theorem d_14_74_38 : decode prog_14_method_74_code 38 = .ok (.iconst 0, 1) := by decide +kernel
theorem d_14_74_39 : decode prog_14_method_74_code 39 = .ok (.ireturn, 1) := by decide +kernel
theorem d_14_74_40 : decode prog_14_method_74_code 40 = .ok (.aload_n 0, 1) := by decide +kernel
theorem d_14_74_41 : decode prog_14_method_74_code 41 = .ok (.iconst (-1), 1) := by decide +kernel
theorem d_14_74_42 : decode prog_14_method_74_code 42 = .ok (.putfield 343, 3) := by decide +kernel
theorem d_14_74_45 : decode prog_14_method_74_code 45 = .ok (.aload_n 0, 1) := by decide +kernel
theorem d_14_74_46 : decode prog_14_method_74_code 46 = .ok (.getfield 100, 3) := by decide +kernel
theorem d_14_74_49 : decode prog_14_method_74_code 49 = .ok (.getfield 124, 3) := by decide +kernel
theorem d_14_74_52 : decode prog_14_method_74_code 52 = .ok (.ifCond .le 8, 3) := by decide +kernel
theorem d_14_74_60 : decode prog_14_method_74_code 60 = .ok (.aload_n 0, 1) := by decide +kernel
theorem d_14_74_61 : decode prog_14_method_74_code 61 = .ok (.aload_n 0, 1) := by decide +kernel
theorem d_14_74_62 : decode prog_14_method_74_code 62 = .ok (.getfield 343, 3) := by decide +kernel
theorem d_14_74_65 : decode prog_14_method_74_code 65 = .ok (.iconst (-1), 1) := by decide +kernel
theorem d_14_74_66 : decode prog_14_method_74_code 66 = .ok (.if_icmp .eq 24, 3) := by decide +kernel
theorem d_14_74_90 : decode prog_14_method_74_code 90 = .ok (.iconst 0, 1) := by decide +kernel
theorem d_14_74_91 : decode prog_14_method_74_code 91 = .ok (.iconst 3, 1) := by decide +kernel
theorem d_14_74_92 : decode prog_14_method_74_code 92 = .ok (.invokevirtual 150, 3) := by decide +kernel
theorem d_14_74_95 : decode prog_14_method_74_code 95 = .ok (.ifCond .eq 7, 3) := by decide +kernel
theorem d_14_74_98 : decode prog_14_method_74_code 98 = .ok (.iconst 0, 1) := by decide +kernel
theorem d_14_74_99 : decode prog_14_method_74_code 99 = .ok (.goto 9, 3) := by decide +kernel
theorem d_14_74_108 : decode prog_14_method_74_code 108 = .ok (.ireturn, 1) := by decide +kernel
theorem d_14_75_0 : decode prog_14_method_75_code 0 = .ok (.aload_n 0, 1) := by decide +kernel
theorem d_14_75_1 : decode prog_14_method_75_code 1 = .ok (.iload_n 1, 1) := by decide +kernel
theorem d_14_75_2 : decode prog_14_method_75_code 2 = .ok (.iconst 0, 1) := by decide +kernel
theorem d_14_75_3 : decode prog_14_method_75_code 3 = .ok (.iconst 4, 1) := by decide +kernel
theorem d_14_75_4 : decode prog_14_method_75_code 4 = .ok (.invokestatic 127, 3) := by decide +kernel
theorem d_14_75_7 : decode prog_14_method_75_code 7 = .ok (.iconst 1, 1) := by decide +kernel
