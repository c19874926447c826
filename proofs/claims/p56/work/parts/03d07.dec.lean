theorem d_1_60_22 : decode prog_1_method_60_code 22 = .ok (.return_, 1) := by decide +kernel
theorem d_1_61_0 : decode prog_1_method_61_code 0 = .ok (.aload_n 0, 1) := by decide +kernel
theorem d_1_61_1 : decode prog_1_method_61_code 1 = .ok (.aload_n 0, 1) := by decide +kernel
theorem d_1_61_2 : decode prog_1_method_61_code 2 = .ok (.getfield 368, 3) := by decide +kernel
theorem d_1_61_5 : decode prog_1_method_61_code 5 = .ok (.iconst 1, 1) := by decide +kernel
theorem d_1_61_6 : decode prog_1_method_61_code 6 = .ok (.iadd, 1) := by decide +kernel
theorem d_1_61_7 : decode prog_1_method_61_code 7 = .ok (.bipush 20, 2) := by decide +kernel
theorem d_1_61_9 : decode prog_1_method_61_code 9 = .ok (.irem, 1) := by decide +kernel
theorem d_1_61_10 : decode prog_1_method_61_code 10 = .ok (.putfield 368, 3) := by decide +kernel
theorem d_1_61_13 : decode prog_1_method_61_code 13 = .ok (.aload_n 0, 1) := by decide +kernel
theorem d_1_61_14 : decode prog_1_method_61_code 14 = .ok (.getfield 62, 3) := by decide +kernel
theorem d_1_61_17 : decode prog_1_method_61_code 17 = .ok (.aload_n 0, 1) := by decide +kernel
theorem d_1_61_18 : decode prog_1_method_61_code 18 = .ok (.getfield 368, 3) := by decide +kernel
theorem d_1_61_21 : decode prog_1_method_61_code 21 = .ok (.iload_n 1, 1) := by decide +kernel
theorem d_1_61_22 : decode prog_1_method_61_code 22 = .ok (.iastore, 1) := by decide +kernel
theorem d_1_61_23 : decode prog_1_method_61_code 23 = .ok (.aload_n 0, 1) := by decide +kernel
theorem d_1_61_24 : decode prog_1_method_61_code 24 = .ok (.getfield 66, 3) := by decide +kernel
theorem d_1_61_27 : decode prog_1_method_61_code 27 = .ok (.aload_n 0, 1) := by decide +kernel
theorem d_1_61_28 : decode prog_1_method_61_code 28 = .ok (.getfield 368, 3) := by decide +kernel
theorem d_1_61_31 : decode prog_1_method_61_code 31 = .ok (.iload_n 2, 1) := by decide +kernel
theorem d_1_61_32 : decode prog_1_method_61_code 32 = .ok (.iastore, 1) := by decide +kernel
theorem d_1_61_33 : decode prog_1_method_61_code 33 = .ok (.aload_n 0, 1) := by decide +kernel
theorem d_1_61_34 : decode prog_1_method_61_code 34 = .ok (.getfield 69, 3) := by decide +kernel
theorem d_1_61_37 : decode prog_1_method_61_code 37 = .ok (.aload_n 0, 1) := by decide +kernel
theorem d_1_61_38 : decode prog_1_method_61_code 38 = .ok (.getfield 368, 3) := by decide +kernel
theorem d_1_61_41 : decode prog_1_method_61_code 41 = .ok (.iload_n 3, 1) := by decide +kernel
theorem d_1_61_42 : decode prog_1_method_61_code 42 = .ok (.iastore, 1) := by decide +kernel
theorem d_1_61_43 : decode prog_1_method_61_code 43 = .ok (.aload_n 0, 1) := by decide +kernel
theorem d_1_61_44 : decode prog_1_method_61_code 44 = .ok (.aload_n 0, 1) := by decide +kernel
theorem d_1_61_45 : decode prog_1_method_61_code 45 = .ok (.getfield 365, 3) := by decide +kernel
theorem d_1_61_48 : decode prog_1_method_61_code 48 = .ok (.iconst 1, 1) := by decide +kernel
theorem d_1_61_49 : decode prog_1_method_61_code 49 = .ok (.iadd, 1) := by decide +kernel
theorem d_1_61_50 : decode prog_1_method_61_code 50 = .ok (.bipush 20, 2) := by decide +kernel
theorem d_1_61_52 : decode prog_1_method_61_code 52 = .ok (.invokestatic 267, 3) := by decide +kernel
theorem d_1_61_55 : decode prog_1_method_61_code 55 = .ok (.putfield 365, 3) := by decide +kernel
theorem d_1_61_58 : decode prog_1_method_61_code 58 = .ok (.return_, 1) := by decide +kernel
theorem d_1_62_0 : decode prog_1_method_62_code 0 = .ok (.iload_n 1, 1) := by decide +kernel
theorem d_1_62_1 : decode prog_1_method_62_code 1 = .ok (.tableswitch 158 0 12 #[67, 78, 158, 91, 102, 158, 158, 158, 158, 115, 125, 136, 147], 67) := by decide +kernel
theorem d_1_62_68 : decode prog_1_method_62_code 68 = .ok (.aload_n 0, 1) := by decide +kernel
theorem d_1_62_69 : decode prog_1_method_62_code 69 = .ok (.getfield 12, 3) := by decide +kernel
theorem d_1_62_72 : decode prog_1_method_62_code 72 = .ok (.iload_n 2, 1) := by decide +kernel
theorem d_1_62_73 : decode prog_1_method_62_code 73 = .ok (.putfield 75, 3) := by decide +kernel
theorem d_1_62_76 : decode prog_1_method_62_code 76 = .ok (.goto 93, 3) := by decide +kernel
theorem d_1_62_79 : decode prog_1_method_62_code 79 = .ok (.aload_n 0, 1) := by decide +kernel
theorem d_1_62_80 : decode prog_1_method_62_code 80 = .ok (.getfield 12, 3) := by decide +kernel
theorem d_1_62_83 : decode prog_1_method_62_code 83 = .ok (.getfield 83, 3) := by decide +kernel
theorem d_1_62_86 : decode prog_1_method_62_code 86 = .ok (.iload_n 2, 1) := by decide +kernel
theorem d_1_62_87 : decode prog_1_method_62_code 87 = .ok (.iload_n 3, 1) := by decide +kernel
theorem d_1_62_88 : decode prog_1_method_62_code 88 = .ok (.iastore, 1) := by decide +kernel
theorem d_1_62_89 : decode prog_1_method_62_code 89 = .ok (.goto 80, 3) := by decide +kernel
theorem d_1_62_92 : decode prog_1_method_62_code 92 = .ok (.aload_n 0, 1) := by decide +kernel
theorem d_1_62_93 : decode prog_1_method_62_code 93 = .ok (.getfield 12, 3) := by decide +kernel
theorem d_1_62_96 : decode prog_1_method_62_code 96 = .ok (.iload_n 2, 1) := by decide +kernel
theorem d_1_62_97 : decode prog_1_method_62_code 97 = .ok (.putfield 117, 3) := by decide +kernel
theorem d_1_62_100 : decode prog_1_method_62_code 100 = .ok (.goto 69, 3) := by decide +kernel
theorem d_1_62_103 : decode prog_1_method_62_code 103 = .ok (.aload_n 0, 1) := by decide +kernel
theorem d_1_62_104 : decode prog_1_method_62_code 104 = .ok (.getfield 12, 3) := by decide +kernel
theorem d_1_62_107 : decode prog_1_method_62_code 107 = .ok (.getfield 123, 3) := by decide +kernel
theorem d_1_62_110 : decode prog_1_method_62_code 110 = .ok (.iload_n 2, 1) := by decide +kernel
theorem d_1_62_111 : decode prog_1_method_62_code 111 = .ok (.iload_n 3, 1) := by decide +kernel
theorem d_1_62_112 : decode prog_1_method_62_code 112 = .ok (.iastore, 1) := by decide +kernel
theorem d_1_62_113 : decode prog_1_method_62_code 113 = .ok (.goto 56, 3) := by decide +kernel
theorem d_1_62_116 : decode prog_1_method_62_code 116 = .ok (.aload_n 0, 1) := by decide +kernel
theorem d_1_62_117 : decode prog_1_method_62_code 117 = .ok (.getfield 44, 3) := by decide +kernel
theorem d_1_62_120 : decode prog_1_method_62_code 120 = .ok (.invokevirtual 404, 3) := by decide +kernel
theorem d_1_62_123 : decode prog_1_method_62_code 123 = .ok (.goto 46, 3) := by decide +kernel
theorem d_1_62_126 : decode prog_1_method_62_code 126 = .ok (.aload_n 0, 1) := by decide +kernel
theorem d_1_62_127 : decode prog_1_method_62_code 127 = .ok (.getfield 51, 3) := by decide +kernel
theorem d_1_62_130 : decode prog_1_method_62_code 130 = .ok (.iload_n 2, 1) := by decide +kernel
theorem d_1_62_131 : decode prog_1_method_62_code 131 = .ok (.putfield 340, 3) := by decide +kernel
theorem d_1_62_134 : decode prog_1_method_62_code 134 = .ok (.goto 35, 3) := by decide +kernel
theorem d_1_62_137 : decode prog_1_method_62_code 137 = .ok (.aload_n 0, 1) := by decide +kernel
theorem d_1_62_138 : decode prog_1_method_62_code 138 = .ok (.getfield 58, 3) := by decide +kernel
theorem d_1_62_141 : decode prog_1_method_62_code 141 = .ok (.iload_n 2, 1) := by decide +kernel
theorem d_1_62_142 : decode prog_1_method_62_code 142 = .ok (.putfield 352, 3) := by decide +kernel
theorem d_1_62_145 : decode prog_1_method_62_code 145 = .ok (.goto 24, 3) := by decide +kernel
theorem d_1_62_148 : decode prog_1_method_62_code 148 = .ok (.aload_n 0, 1) := by decide +kernel
theorem d_1_62_149 : decode prog_1_method_62_code 149 = .ok (.getfield 58, 3) := by decide +kernel
theorem d_1_62_152 : decode prog_1_method_62_code 152 = .ok (.iload_n 3, 1) := by decide +kernel
theorem d_1_62_153 : decode prog_1_method_62_code 153 = .ok (.putfield 354, 3) := by decide +kernel
theorem d_1_62_156 : decode prog_1_method_62_code 156 = .ok (.goto 13, 3) := by decide +kernel
theorem d_1_62_159 : decode prog_1_method_62_code 159 = .ok (.aload_n 0, 1) := by decide +kernel
theorem d_1_62_160 : decode prog_1_method_62_code 160 = .ok (.getfield 37, 3) := by decide +kernel
theorem d_1_62_163 : decode prog_1_method_62_code 163 = .ok (.iload_n 1, 1) := by decide +kernel
theorem d_1_62_164 : decode prog_1_method_62_code 164 = .ok (.iload_n 2, 1) := by decide +kernel
theorem d_1_62_165 : decode prog_1_method_62_code 165 = .ok (.iload_n 3, 1) := by decide +kernel
theorem d_1_62_166 : decode prog_1_method_62_code 166 = .ok (.invokevirtual 407, 3) := by decide +kernel
theorem d_1_62_169 : decode prog_1_method_62_code 169 = .ok (.return_, 1) := by decide +kernel
theorem d_1_63_0 : decode prog_1_method_63_code 0 = .ok (.aload_n 0, 1) := by decide +kernel
theorem d_1_63_1 : decode prog_1_method_63_code 1 = .ok (.getfield 227, 3) := by decide +kernel
theorem d_1_63_4 : decode prog_1_method_63_code 4 = .ok (.aload_n 0, 1) := by decide +kernel
theorem d_1_63_5 : decode prog_1_method_63_code 5 = .ok (.getfield 72, 3) := by decide +kernel
theorem d_1_63_8 : decode prog_1_method_63_code 8 = .ok (.arraylength, 1) := by decide +kernel
theorem d_1_63_9 : decode prog_1_method_63_code 9 = .ok (.if_icmp .ge 23, 3) := by decide +kernel
theorem d_1_63_12 : decode prog_1_method_63_code 12 = .ok (.aload_n 0, 1) := by decide +kernel
theorem d_1_63_13 : decode prog_1_method_63_code 13 = .ok (.getfield 72, 3) := by decide +kernel
theorem d_1_63_16 : decode prog_1_method_63_code 16 = .ok (.aload_n 0, 1) := by decide +kernel
theorem d_1_63_17 : decode prog_1_method_63_code 17 = .ok (.getfield 227, 3) := by decide +kernel
theorem d_1_63_20 : decode prog_1_method_63_code 20 = .ok (.iload_n 1, 1) := by decide +kernel
theorem d_1_63_21 : decode prog_1_method_63_code 21 = .ok (.iastore, 1) := by decide +kernel
theorem d_1_63_22 : decode prog_1_method_63_code 22 = .ok (.aload_n 0, 1) := by decide +kernel
theorem d_1_63_23 : decode prog_1_method_63_code 23 = .ok (.dup, 1) := by decide +kernel
theorem d_1_63_24 : decode prog_1_method_63_code 24 = .ok (.getfield 227, 3) := by decide +kernel
theorem d_1_63_27 : decode prog_1_method_63_code 27 = .ok (.iconst 1, 1) := by decide +kernel
theorem d_1_63_28 : decode prog_1_method_63_code 28 = .ok (.iadd, 1) := by decide +kernel
theorem d_1_63_29 : decode prog_1_method_63_code 29 = .ok (.putfield 227, 3) := by decide +kernel
theorem d_1_63_32 : decode prog_1_method_63_code 32 = .ok (.return_, 1) := by decide +kernel
theorem d_1_64_0 : decode prog_1_method_64_code 0 = .ok (.aload_n 0, 1) := by decide +kernel
theorem d_1_64_1 : decode prog_1_method_64_code 1 = .ok (.getfield 227, 3) := by decide +kernel
theorem d_1_64_4 : decode prog_1_method_64_code 4 = .ok (.istore_n 2, 1) := by decide +kernel
theorem d_1_64_5 : decode prog_1_method_64_code 5 = .ok (.aload_n 0, 1) := by decide +kernel
theorem d_1_64_6 : decode prog_1_method_64_code 6 = .ok (.bipush 48, 2) := by decide +kernel
theorem d_1_64_8 : decode prog_1_method_64_code 8 = .ok (.aload_n 1, 1) := by decide +kernel
theorem d_1_64_9 : decode prog_1_method_64_code 9 = .ok (.bipush 10, 2) := by decide +kernel
theorem d_1_64_11 : decode prog_1_method_64_code 11 = .ok (.invokevirtual 408, 3) := by decide +kernel
theorem d_1_64_14 : decode prog_1_method_64_code 14 = .ok (.iadd, 1) := by decide +kernel
theorem d_1_64_15 : decode prog_1_method_64_code 15 = .ok (.invokevirtual 247, 3) := by decide +kernel
theorem d_1_64_18 : decode prog_1_method_64_code 18 = .ok (.iconst 1, 1) := by decide +kernel
theorem d_1_64_19 : decode prog_1_method_64_code 19 = .ok (.istore_n 3, 1) := by decide +kernel
theorem d_1_64_20 : decode prog_1_method_64_code 20 = .ok (.iload_n 3, 1) := by decide +kernel
theorem d_1_64_21 : decode prog_1_method_64_code 21 = .ok (.sipush 240, 3) := by decide +kernel
theorem d_1_64_24 : decode prog_1_method_64_code 24 = .ok (.if_icmp .ge 29, 3) := by decide +kernel
theorem d_1_64_27 : decode prog_1_method_64_code 27 = .ok (.aload_n 1, 1) := by decide +kernel
theorem d_1_64_28 : decode prog_1_method_64_code 28 = .ok (.getfield 411, 3) := by decide +kernel
theorem d_1_64_31 : decode prog_1_method_64_code 31 = .ok (.ifCond .le 22, 3) := by decide +kernel
theorem d_1_64_34 : decode prog_1_method_64_code 34 = .ok (.aload_n 0, 1) := by decide +kernel
theorem d_1_64_35 : decode prog_1_method_64_code 35 = .ok (.bipush 48, 2) := by decide +kernel
theorem d_1_64_37 : decode prog_1_method_64_code 37 = .ok (.aload_n 1, 1) := by decide +kernel
theorem d_1_64_38 : decode prog_1_method_64_code 38 = .ok (.bipush 10, 2) := by decide +kernel
theorem d_1_64_40 : decode prog_1_method_64_code 40 = .ok (.invokevirtual 408, 3) := by decide +kernel
theorem d_1_64_43 : decode prog_1_method_64_code 43 = .ok (.iadd, 1) := by decide +kernel
theorem d_1_64_44 : decode prog_1_method_64_code 44 = .ok (.invokevirtual 247, 3) := by decide +kernel
theorem d_1_64_47 : decode prog_1_method_64_code 47 = .ok (.iinc 3 1, 3) := by decide +kernel
theorem d_1_64_50 : decode prog_1_method_64_code 50 = .ok (.goto (-30), 3) := by decide +kernel
theorem d_1_64_53 : decode prog_1_method_64_code 53 = .ok (.iload_n 2, 1) := by decide +kernel
theorem d_1_64_54 : decode prog_1_method_64_code 54 = .ok (.istore_n 3, 1) := by decide +kernel
theorem d_1_64_55 : decode prog_1_method_64_code 55 = .ok (.aload_n 0, 1) := by decide +kernel
theorem d_1_64_56 : decode prog_1_method_64_code 56 = .ok (.getfield 227, 3) := by decide +kernel
theorem d_1_64_59 : decode prog_1_method_64_code 59 = .ok (.iconst 1, 1) := by decide +kernel
theorem d_1_64_60 : decode prog_1_method_64_code 60 = .ok (.isub, 1) := by decide +kernel
theorem d_1_64_61 : decode prog_1_method_64_code 61 = .ok (.istore 4, 2) := by decide +kernel
theorem d_1_64_63 : decode prog_1_method_64_code 63 = .ok (.iload_n 3, 1) := by decide +kernel
theorem d_1_64_64 : decode prog_1_method_64_code 64 = .ok (.iload 4, 2) := by decide +kernel
theorem d_1_64_66 : decode prog_1_method_64_code 66 = .ok (.if_icmp .ge 42, 3) := by decide +kernel
theorem d_1_64_69 : decode prog_1_method_64_code 69 = .ok (.aload_n 0, 1) := by decide +kernel
theorem d_1_64_70 : decode prog_1_method_64_code 70 = .ok (.getfield 72, 3) := by decide +kernel
theorem d_1_64_73 : decode prog_1_method_64_code 73 = .ok (.iload_n 3, 1) := by decide +kernel
theorem d_1_64_74 : decode prog_1_method_64_code 74 = .ok (.iaload, 1) := by decide +kernel
theorem d_1_64_75 : decode prog_1_method_64_code 75 = .ok (.istore 5, 2) := by decide +kernel
theorem d_1_64_77 : decode prog_1_method_64_code 77 = .ok (.aload_n 0, 1) := by decide +kernel
theorem d_1_64_78 : decode prog_1_method_64_code 78 = .ok (.getfield 72, 3) := by decide +kernel
theorem d_1_64_81 : decode prog_1_method_64_code 81 = .ok (.iload_n 3, 1) := by decide +kernel
theorem d_1_64_82 : decode prog_1_method_64_code 82 = .ok (.aload_n 0, 1) := by decide +kernel
theorem d_1_64_83 : decode prog_1_method_64_code 83 = .ok (.getfield 72, 3) := by decide +kernel
theorem d_1_64_86 : decode prog_1_method_64_code 86 = .ok (.iload 4, 2) := by decide +kernel
theorem d_1_64_88 : decode prog_1_method_64_code 88 = .ok (.iaload, 1) := by decide +kernel
theorem d_1_64_89 : decode prog_1_method_64_code 89 = .ok (.iastore, 1) := by decide +kernel
theorem d_1_64_90 : decode prog_1_method_64_code 90 = .ok (.aload_n 0, 1) := by decide +kernel
theorem d_1_64_91 : decode prog_1_method_64_code 91 = .ok (.getfield 72, 3) := by decide +kernel
theorem d_1_64_94 : decode prog_1_method_64_code 94 = .ok (.iload 4, 2) := by decide +kernel
theorem d_1_64_96 : decode prog_1_method_64_code 96 = .ok (.iload 5, 2) := by decide +kernel
theorem d_1_64_98 : decode prog_1_method_64_code 98 = .ok (.iastore, 1) := by decide +kernel
theorem d_1_64_99 : decode prog_1_method_64_code 99 = .ok (.iinc 3 1, 3) := by decide +kernel
theorem d_1_64_102 : decode prog_1_method_64_code 102 = .ok (.iinc 4 (-1), 3) := by decide +kernel
theorem d_1_64_105 : decode prog_1_method_64_code 105 = .ok (.goto (-42), 3) := by decide +kernel
theorem d_1_64_108 : decode prog_1_method_64_code 108 = .ok (.return_, 1) := by decide +kernel
theorem d_1_65_0 : decode prog_1_method_65_code 0 = .ok (.aload_n 0, 1) := by decide +kernel
theorem d_1_65_1 : decode prog_1_method_65_code 1 = .ok (.getfield 44, 3) := by decide +kernel
theorem d_1_65_4 : decode prog_1_method_65_code 4 = .ok (.invokevirtual 191, 3) := by decide +kernel
theorem d_1_65_7 : decode prog_1_method_65_code 7 = .ok (.astore_n 1, 1) := by decide +kernel
theorem d_1_65_8 : decode prog_1_method_65_code 8 = .ok (.aload_n 1, 1) := by decide +kernel
theorem d_1_65_9 : decode prog_1_method_65_code 9 = .ok (.ifnull 11, 3) := by decide +kernel
theorem d_1_65_12 : decode prog_1_method_65_code 12 = .ok (.aload_n 1, 1) := by decide +kernel
theorem d_1_65_13 : decode prog_1_method_65_code 13 = .ok (.getfield 194, 3) := by decide +kernel
theorem d_1_65_16 : decode prog_1_method_65_code 16 = .ok (.iconst 1, 1) := by decide +kernel
theorem d_1_65_17 : decode prog_1_method_65_code 17 = .ok (.if_icmp .ge 5, 3) := by decide +kernel
theorem d_1_65_20 : decode prog_1_method_65_code 20 = .ok (.iconst 0, 1) := by decide +kernel
theorem d_1_65_21 : decode prog_1_method_65_code 21 = .ok (.ireturn, 1) := by decide +kernel
theorem d_1_65_22 : decode prog_1_method_65_code 22 = .ok (.iconst 1, 1) := by decide +kernel
theorem d_1_65_23 : decode prog_1_method_65_code 23 = .ok (.aload_n 1, 1) := by decide +kernel
theorem d_1_65_24 : decode prog_1_method_65_code 24 = .ok (.getfield 412, 3) := by decide +kernel
theorem d_1_65_27 : decode prog_1_method_65_code 27 = .ok (.ishl, 1) := by decide +kernel
theorem d_1_65_28 : decode prog_1_method_65_code 28 = .ok (.iconst 1, 1) := by decide +kernel
theorem d_1_65_29 : decode prog_1_method_65_code 29 = .ok (.isub, 1) := by decide +kernel
theorem d_1_65_30 : decode prog_1_method_65_code 30 = .ok (.istore_n 2, 1) := by decide +kernel
theorem d_1_65_31 : decode prog_1_method_65_code 31 = .ok (.iconst 0, 1) := by decide +kernel
theorem d_1_65_32 : decode prog_1_method_65_code 32 = .ok (.istore_n 3, 1) := by decide +kernel
theorem d_1_65_33 : decode prog_1_method_65_code 33 = .ok (.iconst 0, 1) := by decide +kernel
theorem d_1_65_34 : decode prog_1_method_65_code 34 = .ok (.istore 4, 2) := by decide +kernel
theorem d_1_65_36 : decode prog_1_method_65_code 36 = .ok (.iload 4, 2) := by decide +kernel
theorem d_1_65_38 : decode prog_1_method_65_code 38 = .ok (.aload_n 1, 1) := by decide +kernel
theorem d_1_65_39 : decode prog_1_method_65_code 39 = .ok (.getfield 199, 3) := by decide +kernel
theorem d_1_65_42 : decode prog_1_method_65_code 42 = .ok (.if_icmp .ge 21, 3) := by decide +kernel
theorem d_1_65_45 : decode prog_1_method_65_code 45 = .ok (.iload_n 3, 1) := by decide +kernel
theorem d_1_65_46 : decode prog_1_method_65_code 46 = .ok (.iconst 1, 1) := by decide +kernel
theorem d_1_65_47 : decode prog_1_method_65_code 47 = .ok (.aload_n 1, 1) := by decide +kernel
theorem d_1_65_48 : decode prog_1_method_65_code 48 = .ok (.getfield 207, 3) := by decide +kernel
theorem d_1_65_51 : decode prog_1_method_65_code 51 = .ok (.iload 4, 2) := by decide +kernel
theorem d_1_65_53 : decode prog_1_method_65_code 53 = .ok (.iaload, 1) := by decide +kernel
theorem d_1_65_54 : decode prog_1_method_65_code 54 = .ok (.ishl, 1) := by decide +kernel
theorem d_1_65_55 : decode prog_1_method_65_code 55 = .ok (.ior, 1) := by decide +kernel
theorem d_1_65_56 : decode prog_1_method_65_code 56 = .ok (.istore_n 3, 1) := by decide +kernel
theorem d_1_65_57 : decode prog_1_method_65_code 57 = .ok (.iinc 4 1, 3) := by decide +kernel
theorem d_1_65_60 : decode prog_1_method_65_code 60 = .ok (.goto (-24), 3) := by decide +kernel
theorem d_1_65_63 : decode prog_1_method_65_code 63 = .ok (.aload_n 0, 1) := by decide +kernel
theorem d_1_65_64 : decode prog_1_method_65_code 64 = .ok (.getfield 44, 3) := by decide +kernel
theorem d_1_65_67 : decode prog_1_method_65_code 67 = .ok (.aload_n 1, 1) := by decide +kernel
theorem d_1_65_68 : decode prog_1_method_65_code 68 = .ok (.invokevirtual 413, 3) := by decide +kernel
theorem d_1_65_71 : decode prog_1_method_65_code 71 = .ok (.istore 4, 2) := by decide +kernel
theorem d_1_65_73 : decode prog_1_method_65_code 73 = .ok (.aload_n 0, 1) := by decide +kernel
theorem d_1_65_74 : decode prog_1_method_65_code 74 = .ok (.getfield 12, 3) := by decide +kernel
theorem d_1_65_77 : decode prog_1_method_65_code 77 = .ok (.aload_n 1, 1) := by decide +kernel
theorem d_1_65_78 : decode prog_1_method_65_code 78 = .ok (.getfield 417, 3) := by decide +kernel
theorem d_1_65_81 : decode prog_1_method_65_code 81 = .ok (.aload_n 1, 1) := by decide +kernel
theorem d_1_65_82 : decode prog_1_method_65_code 82 = .ok (.getfield 420, 3) := by decide +kernel
theorem d_1_65_85 : decode prog_1_method_65_code 85 = .ok (.iload_n 2, 1) := by decide +kernel
theorem d_1_65_86 : decode prog_1_method_65_code 86 = .ok (.invokevirtual 255, 3) := by decide +kernel
theorem d_1_65_89 : decode prog_1_method_65_code 89 = .ok (.iconst 1, 1) := by decide +kernel
theorem d_1_65_90 : decode prog_1_method_65_code 90 = .ok (.istore 5, 2) := by decide +kernel
theorem d_1_65_92 : decode prog_1_method_65_code 92 = .ok (.iload 5, 2) := by decide +kernel
theorem d_1_65_94 : decode prog_1_method_65_code 94 = .ok (.iload_n 2, 1) := by decide +kernel
theorem d_1_65_95 : decode prog_1_method_65_code 95 = .ok (.if_icmp .gt 58, 3) := by decide +kernel
theorem d_1_65_98 : decode prog_1_method_65_code 98 = .ok (.aload_n 0, 1) := by decide +kernel
theorem d_1_65_99 : decode prog_1_method_65_code 99 = .ok (.getfield 12, 3) := by decide +kernel
theorem d_1_65_102 : decode prog_1_method_65_code 102 = .ok (.getfield 259, 3) := by decide +kernel
theorem d_1_65_105 : decode prog_1_method_65_code 105 = .ok (.iload 5, 2) := by decide +kernel
theorem d_1_65_107 : decode prog_1_method_65_code 107 = .ok (.iaload, 1) := by decide +kernel
theorem d_1_65_108 : decode prog_1_method_65_code 108 = .ok (.aload_n 1, 1) := by decide +kernel
theorem d_1_65_109 : decode prog_1_method_65_code 109 = .ok (.getfield 194, 3) := by decide +kernel
theorem d_1_65_112 : decode prog_1_method_65_code 112 = .ok (.idiv, 1) := by decide +kernel
theorem d_1_65_113 : decode prog_1_method_65_code 113 = .ok (.iload 5, 2) := by decide +kernel
theorem d_1_65_115 : decode prog_1_method_65_code 115 = .ok (.iload_n 3, 1) := by decide +kernel
theorem d_1_65_116 : decode prog_1_method_65_code 116 = .ok (.iand, 1) := by decide +kernel
theorem d_1_65_117 : decode prog_1_method_65_code 117 = .ok (.invokestatic 262, 3) := by decide +kernel
theorem d_1_65_120 : decode prog_1_method_65_code 120 = .ok (.if_icmp .le 7, 3) := by decide +kernel
theorem d_1_65_123 : decode prog_1_method_65_code 123 = .ok (.iconst 1, 1) := by decide +kernel
theorem d_1_65_124 : decode prog_1_method_65_code 124 = .ok (.goto 4, 3) := by decide +kernel
theorem d_1_65_127 : decode prog_1_method_65_code 127 = .ok (.iconst 0, 1) := by decide +kernel
theorem d_1_65_128 : decode prog_1_method_65_code 128 = .ok (.istore 6, 2) := by decide +kernel
theorem d_1_65_130 : decode prog_1_method_65_code 130 = .ok (.iload 6, 2) := by decide +kernel
theorem d_1_65_132 : decode prog_1_method_65_code 132 = .ok (.ifCond .eq 15, 3) := by decide +kernel
theorem d_1_65_135 : decode prog_1_method_65_code 135 = .ok (.iload 5, 2) := by decide +kernel
theorem d_1_65_137 : decode prog_1_method_65_code 137 = .ok (.iload_n 3, 1) := by decide +kernel
theorem d_1_65_138 : decode prog_1_method_65_code 138 = .ok (.iconst (-1), 1) := by decide +kernel
theorem d_1_65_139 : decode prog_1_method_65_code 139 = .ok (.ixor, 1) := by decide +kernel
theorem d_1_65_140 : decode prog_1_method_65_code 140 = .ok (.iand, 1) := by decide +kernel
theorem d_1_65_141 : decode prog_1_method_65_code 141 = .ok (.ifCond .eq 6, 3) := by decide +kernel
theorem d_1_65_144 : decode prog_1_method_65_code 144 = .ok (.iinc 4 1, 3) := by decide +kernel
theorem d_1_65_147 : decode prog_1_method_65_code 147 = .ok (.iinc 5 1, 3) := by decide +kernel
theorem d_1_65_150 : decode prog_1_method_65_code 150 = .ok (.goto (-58), 3) := by decide +kernel
theorem d_1_65_153 : decode prog_1_method_65_code 153 = .ok (.iload 4, 2) := by decide +kernel
theorem d_1_65_155 : decode prog_1_method_65_code 155 = .ok (.ireturn, 1) := by decide +kernel
theorem d_1_66_0 : decode prog_1_method_66_code 0 = .ok (.aload_n 0, 1) := by decide +kernel
theorem d_1_66_1 : decode prog_1_method_66_code 1 = .ok (.getfield 21, 3) := by decide +kernel
theorem d_1_66_4 : decode prog_1_method_66_code 4 = .ok (.aload_n 0, 1) := by decide +kernel
theorem d_1_66_5 : decode prog_1_method_66_code 5 = .ok (.getfield 12, 3) := by decide +kernel
theorem d_1_66_8 : decode prog_1_method_66_code 8 = .ok (.invokevirtual 250, 3) := by decide +kernel
theorem d_1_66_11 : decode prog_1_method_66_code 11 = .ok (.invokevirtual 272, 3) := by decide +kernel
theorem d_1_66_14 : decode prog_1_method_66_code 14 = .ok (.aload_n 0, 1) := by decide +kernel
theorem d_1_66_15 : decode prog_1_method_66_code 15 = .ok (.getfield 21, 3) := by decide +kernel
theorem d_1_66_18 : decode prog_1_method_66_code 18 = .ok (.invokevirtual 278, 3) := by decide +kernel
theorem d_1_66_21 : decode prog_1_method_66_code 21 = .ok (.istore_n 1, 1) := by decide +kernel
theorem d_1_66_22 : decode prog_1_method_66_code 22 = .ok (.iload_n 1, 1) := by decide +kernel
theorem d_1_66_23 : decode prog_1_method_66_code 23 = .ok (.iconst (-1), 1) := by decide +kernel
theorem d_1_66_24 : decode prog_1_method_66_code 24 = .ok (.if_icmp .ne 5, 3) := by decide +kernel
theorem d_1_66_27 : decode prog_1_method_66_code 27 = .ok (.iconst 0, 1) := by decide +kernel
theorem d_1_66_28 : decode prog_1_method_66_code 28 = .ok (.ireturn, 1) := by decide +kernel
theorem d_1_66_29 : decode prog_1_method_66_code 29 = .ok (.aload_n 0, 1) := by decide +kernel
theorem d_1_66_30 : decode prog_1_method_66_code 30 = .ok (.getfield 21, 3) := by decide +kernel
theorem d_1_66_33 : decode prog_1_method_66_code 33 = .ok (.invokevirtual 293, 3) := by decide +kernel
theorem d_1_66_36 : decode prog_1_method_66_code 36 = .ok (.aload_n 0, 1) := by decide +kernel
theorem d_1_66_37 : decode prog_1_method_66_code 37 = .ok (.getfield 21, 3) := by decide +kernel
theorem d_1_66_40 : decode prog_1_method_66_code 40 = .ok (.invokevirtual 287, 3) := by decide +kernel
theorem d_1_66_43 : decode prog_1_method_66_code 43 = .ok (.iconst 1, 1) := by decide +kernel
theorem d_1_66_44 : decode prog_1_method_66_code 44 = .ok (.iload_n 1, 1) := by decide +kernel
theorem d_1_66_45 : decode prog_1_method_66_code 45 = .ok (.ishl, 1) := by decide +kernel
theorem d_1_66_46 : decode prog_1_method_66_code 46 = .ok (.if_icmp .ne 15, 3) := by decide +kernel
theorem d_1_66_49 : decode prog_1_method_66_code 49 = .ok (.aload_n 0, 1) := by decide +kernel
theorem d_1_66_50 : decode prog_1_method_66_code 50 = .ok (.getfield 21, 3) := by decide +kernel
theorem d_1_66_53 : decode prog_1_method_66_code 53 = .ok (.iconst 0, 1) := by decide +kernel
theorem d_1_66_54 : decode prog_1_method_66_code 54 = .ok (.invokevirtual 296, 3) := by decide +kernel
theorem d_1_66_57 : decode prog_1_method_66_code 57 = .ok (.iload_n 1, 1) := by decide +kernel
theorem d_1_66_58 : decode prog_1_method_66_code 58 = .ok (.if_icmp .eq 7, 3) := by decide +kernel
theorem d_1_66_61 : decode prog_1_method_66_code 61 = .ok (.iconst 1, 1) := by decide +kernel
theorem d_1_66_62 : decode prog_1_method_66_code 62 = .ok (.goto 4, 3) := by decide +kernel
theorem d_1_66_65 : decode prog_1_method_66_code 65 = .ok (.iconst 0, 1) := by decide +kernel
theorem d_1_66_66 : decode prog_1_method_66_code 66 = .ok (.ireturn, 1) := by decide +kernel
theorem d_1_6_0 : decode prog_1_method_6_code 0 = .ok (.iload_n 1, 1) := by decide +kernel
theorem d_1_6_1 : decode prog_1_method_6_code 1 = .ok (.aload_n 0, 1) := by decide +kernel
theorem d_1_6_2 : decode prog_1_method_6_code 2 = .ok (.getfield 12, 3) := by decide +kernel
theorem d_1_6_5 : decode prog_1_method_6_code 5 = .ok (.getfield 117, 3) := by decide +kernel
theorem d_1_6_8 : decode prog_1_method_6_code 8 = .ok (.invokestatic 93, 3) := by decide +kernel
theorem d_1_6_11 : decode prog_1_method_6_code 11 = .ok (.iload_n 2, 1) := by decide +kernel
theorem d_1_6_12 : decode prog_1_method_6_code 12 = .ok (.iconst 1, 1) := by decide +kernel
theorem d_1_6_13 : decode prog_1_method_6_code 13 = .ok (.aload_n 0, 1) := by decide +kernel
theorem d_1_6_14 : decode prog_1_method_6_code 14 = .ok (.getfield 12, 3) := by decide +kernel
theorem d_1_6_17 : decode prog_1_method_6_code 17 = .ok (.getfield 123, 3) := by decide +kernel
theorem d_1_6_20 : decode prog_1_method_6_code 20 = .ok (.iload_n 1, 1) := by decide +kernel
theorem d_1_6_21 : decode prog_1_method_6_code 21 = .ok (.iaload, 1) := by decide +kernel
theorem d_1_6_22 : decode prog_1_method_6_code 22 = .ok (.invokestatic 96, 3) := by decide +kernel
theorem d_1_6_25 : decode prog_1_method_6_code 25 = .ok (.aload_n 0, 1) := by decide +kernel
theorem d_1_6_26 : decode prog_1_method_6_code 26 = .ok (.iconst 4, 1) := by decide +kernel
theorem d_1_6_27 : decode prog_1_method_6_code 27 = .ok (.iload_n 1, 1) := by decide +kernel
theorem d_1_6_28 : decode prog_1_method_6_code 28 = .ok (.aload_n 0, 1) := by decide +kernel
theorem d_1_6_29 : decode prog_1_method_6_code 29 = .ok (.getfield 12, 3) := by decide +kernel
theorem d_1_6_32 : decode prog_1_method_6_code 32 = .ok (.getfield 123, 3) := by decide +kernel
theorem d_1_6_35 : decode prog_1_method_6_code 35 = .ok (.iload_n 1, 1) := by decide +kernel
theorem d_1_6_36 : decode prog_1_method_6_code 36 = .ok (.iaload, 1) := by decide +kernel
theorem d_1_6_37 : decode prog_1_method_6_code 37 = .ok (.invokevirtual 86, 3) := by decide +kernel
theorem d_1_6_40 : decode prog_1_method_6_code 40 = .ok (.aload_n 0, 1) := by decide +kernel
theorem d_1_6_41 : decode prog_1_method_6_code 41 = .ok (.getfield 12, 3) := by decide +kernel
theorem d_1_6_44 : decode prog_1_method_6_code 44 = .ok (.getfield 123, 3) := by decide +kernel
theorem d_1_6_47 : decode prog_1_method_6_code 47 = .ok (.iload_n 1, 1) := by decide +kernel
theorem d_1_6_48 : decode prog_1_method_6_code 48 = .ok (.dup2, 1) := by decide +kernel
theorem d_1_6_49 : decode prog_1_method_6_code 49 = .ok (.iaload, 1) := by decide +kernel
theorem d_1_6_50 : decode prog_1_method_6_code 50 = .ok (.iload_n 2, 1) := by decide +kernel
theorem d_1_6_51 : decode prog_1_method_6_code 51 = .ok (.isub, 1) := by decide +kernel
theorem d_1_6_52 : decode prog_1_method_6_code 52 = .ok (.iastore, 1) := by decide +kernel
theorem d_1_6_53 : decode prog_1_method_6_code 53 = .ok (.aload_n 0, 1) := by decide +kernel
theorem d_1_6_54 : decode prog_1_method_6_code 54 = .ok (.getfield 12, 3) := by decide +kernel
theorem d_1_6_57 : decode prog_1_method_6_code 57 = .ok (.getfield 123, 3) := by decide +kernel
theorem d_1_6_60 : decode prog_1_method_6_code 60 = .ok (.iload_n 1, 1) := by decide +kernel
theorem d_1_6_61 : decode prog_1_method_6_code 61 = .ok (.iaload, 1) := by decide +kernel
theorem d_1_6_62 : decode prog_1_method_6_code 62 = .ok (.ireturn, 1) := by decide +kernel
theorem d_1_7_0 : decode prog_1_method_7_code 0 = .ok (.iload_n 1, 1) := by decide +kernel
theorem d_1_7_1 : decode prog_1_method_7_code 1 = .ok (.aload_n 0, 1) := by decide +kernel
theorem d_1_7_2 : decode prog_1_method_7_code 2 = .ok (.getfield 12, 3) := by decide +kernel
theorem d_1_7_5 : decode prog_1_method_7_code 5 = .ok (.getfield 117, 3) := by decide +kernel
theorem d_1_7_8 : decode prog_1_method_7_code 8 = .ok (.invokestatic 93, 3) := by decide +kernel
theorem d_1_7_11 : decode prog_1_method_7_code 11 = .ok (.aload_n 0, 1) := by decide +kernel
theorem d_1_7_12 : decode prog_1_method_7_code 12 = .ok (.getfield 12, 3) := by decide +kernel
theorem d_1_7_15 : decode prog_1_method_7_code 15 = .ok (.getfield 123, 3) := by decide +kernel
theorem d_1_7_18 : decode prog_1_method_7_code 18 = .ok (.iload_n 1, 1) := by decide +kernel
theorem d_1_7_19 : decode prog_1_method_7_code 19 = .ok (.iaload, 1) := by decide +kernel
theorem d_1_7_20 : decode prog_1_method_7_code 20 = .ok (.ireturn, 1) := by decide +kernel
theorem d_1_8_0 : decode prog_1_method_8_code 0 = .ok (.iload_n 1, 1) := by decide +kernel
theorem d_1_8_1 : decode prog_1_method_8_code 1 = .ok (.aload_n 0, 1) := by decide +kernel
theorem d_1_8_2 : decode prog_1_method_8_code 2 = .ok (.getfield 12, 3) := by decide +kernel
theorem d_1_8_5 : decode prog_1_method_8_code 5 = .ok (.getfield 117, 3) := by decide +kernel
theorem d_1_8_8 : decode prog_1_method_8_code 8 = .ok (.invokestatic 93, 3) := by decide +kernel
theorem d_1_8_11 : decode prog_1_method_8_code 11 = .ok (.iload_n 2, 1) := by decide +kernel
theorem d_1_8_12 : decode prog_1_method_8_code 12 = .ok (.aload_n 0, 1) := by decide +kernel
theorem d_1_8_13 : decode prog_1_method_8_code 13 = .ok (.getfield 12, 3) := by decide +kernel
theorem d_1_8_16 : decode prog_1_method_8_code 16 = .ok (.getfield 75, 3) := by decide +kernel
theorem d_1_8_19 : decode prog_1_method_8_code 19 = .ok (.invokestatic 93, 3) := by decide +kernel
theorem d_1_8_22 : decode prog_1_method_8_code 22 = .ok (.iload_n 3, 1) := by decide +kernel
theorem d_1_8_23 : decode prog_1_method_8_code 23 = .ok (.ifCond .eq 15, 3) := by decide +kernel
theorem d_1_8_26 : decode prog_1_method_8_code 26 = .ok (.aload_n 0, 1) := by decide +kernel
theorem d_1_8_27 : decode prog_1_method_8_code 27 = .ok (.getfield 12, 3) := by decide +kernel
theorem d_1_8_30 : decode prog_1_method_8_code 30 = .ok (.iload_n 1, 1) := by decide +kernel
theorem d_1_8_31 : decode prog_1_method_8_code 31 = .ok (.iload_n 2, 1) := by decide +kernel
theorem d_1_8_32 : decode prog_1_method_8_code 32 = .ok (.invokevirtual 127, 3) := by decide +kernel
theorem d_1_8_35 : decode prog_1_method_8_code 35 = .ok (.goto 16, 3) := by decide +kernel
theorem d_1_8_38 : decode prog_1_method_8_code 38 = .ok (.aload_n 0, 1) := by decide +kernel
theorem d_1_8_39 : decode prog_1_method_8_code 39 = .ok (.getfield 12, 3) := by decide +kernel
theorem d_1_8_42 : decode prog_1_method_8_code 42 = .ok (.getfield 131, 3) := by decide +kernel
theorem d_1_8_45 : decode prog_1_method_8_code 45 = .ok (.iload_n 1, 1) := by decide +kernel
theorem d_1_8_46 : decode prog_1_method_8_code 46 = .ok (.iaload, 1) := by decide +kernel
theorem d_1_8_47 : decode prog_1_method_8_code 47 = .ok (.iload_n 2, 1) := by decide +kernel
theorem d_1_8_48 : decode prog_1_method_8_code 48 = .ok (.ishr, 1) := by decide +kernel
theorem d_1_8_49 : decode prog_1_method_8_code 49 = .ok (.iconst 1, 1) := by decide +kernel
theorem d_1_8_50 : decode prog_1_method_8_code 50 = .ok (.iand, 1) := by decide +kernel
theorem d_1_8_51 : decode prog_1_method_8_code 51 = .ok (.ireturn, 1) := by decide +kernel
theorem d_1_9_0 : decode prog_1_method_9_code 0 = .ok (.aload_n 0, 1) := by decide +kernel
theorem d_1_9_1 : decode prog_1_method_9_code 1 = .ok (.getfield 12, 3) := by decide +kernel
theorem d_1_9_4 : decode prog_1_method_9_code 4 = .ok (.aload_n 0, 1) := by decide +kernel
theorem d_1_9_5 : decode prog_1_method_9_code 5 = .ok (.getfield 12, 3) := by decide +kernel
theorem d_1_9_8 : decode prog_1_method_9_code 8 = .ok (.getfield 123, 3) := by decide +kernel
theorem d_1_9_11 : decode prog_1_method_9_code 11 = .ok (.aload_n 0, 1) := by decide +kernel
theorem d_1_9_12 : decode prog_1_method_9_code 12 = .ok (.getfield 12, 3) := by decide +kernel
theorem d_1_9_15 : decode prog_1_method_9_code 15 = .ok (.getfield 117, 3) := by decide +kernel
theorem d_1_9_18 : decode prog_1_method_9_code 18 = .ok (.invokevirtual 134, 3) := by decide +kernel
theorem d_1_9_21 : decode prog_1_method_9_code 21 = .ok (.ireturn, 1) := by decide +kernel
theorem d_23_22_0 : decode prog_23_method_22_code 0 = .ok (.aload_n 1, 1) := by decide +kernel
theorem d_23_22_1 : decode prog_23_method_22_code 1 = .ok (.ifnonnull 8, 3) := by decide +kernel
theorem d_23_22_9 : decode prog_23_method_22_code 9 = .ok (.aload_n 1, 1) := by decide +kernel
theorem d_23_22_10 : decode prog_23_method_22_code 10 = .ok (.invokevirtual 32, 3) := by decide +kernel
theorem d_23_22_13 : decode prog_23_method_22_code 13 = .ok (.istore_n 2, 1) := by decide +kernel
theorem d_23_22_14 : decode prog_23_method_22_code 14 = .ok (.aload_n 0, 1) := by decide +kernel
theorem d_23_22_15 : decode prog_23_method_22_code 15 = .ok (.aload_n 0, 1) := by decide +kernel
theorem d_23_22_16 : decode prog_23_method_22_code 16 = .ok (.getfield 79, 3) := by decide +kernel
theorem d_23_22_19 : decode prog_23_method_22_code 19 = .ok (.iload_n 2, 1) := by decide +kernel
theorem d_23_22_20 : decode prog_23_method_22_code 20 = .ok (.iadd, 1) := by decide +kernel
theorem d_23_22_21 : decode prog_23_method_22_code 21 = .ok (.invokevirtual 100, 3) := by decide +kernel
theorem d_23_22_24 : decode prog_23_method_22_code 24 = .ok (.aload_n 0, 1) := by decide +kernel
theorem d_23_22_25 : decode prog_23_method_22_code 25 = .ok (.aload_n 0, 1) := by decide +kernel
theorem d_23_22_26 : decode prog_23_method_22_code 26 = .ok (.getfield 79, 3) := by decide +kernel
theorem d_23_22_29 : decode prog_23_method_22_code 29 = .ok (.aload_n 1, 1) := by decide +kernel
theorem d_23_22_30 : decode prog_23_method_22_code 30 = .ok (.invokevirtual 208, 3) := by decide +kernel
theorem d_23_22_33 : decode prog_23_method_22_code 33 = .ok (.aload_n 0, 1) := by decide +kernel
theorem d_23_22_34 : decode prog_23_method_22_code 34 = .ok (.dup, 1) := by decide +kernel
theorem d_23_22_35 : decode prog_23_method_22_code 35 = .ok (.getfield 79, 3) := by decide +kernel
theorem d_23_22_38 : decode prog_23_method_22_code 38 = .ok (.iload_n 2, 1) := by decide +kernel
theorem d_23_22_39 : decode prog_23_method_22_code 39 = .ok (.iadd, 1) := by decide +kernel
theorem d_23_22_40 : decode prog_23_method_22_code 40 = .ok (.putfield 79, 3) := by decide +kernel
theorem d_23_22_43 : decode prog_23_method_22_code 43 = .ok (.aload_n 0, 1) := by decide +kernel
theorem d_23_22_44 : decode prog_23_method_22_code 44 = .ok (.areturn, 1) := by decide +kernel
theorem d_23_2_0 : decode prog_23_method_2_code 0 = .ok (.aload_n 0, 1) := by decide +kernel
theorem d_23_2_1 : decode prog_23_method_2_code 1 = .ok (.invokespecial 3, 3) := by decide +kernel
theorem d_23_2_4 : decode prog_23_method_2_code 4 = .ok (.getstatic 18, 3) := by decide +kernel
theorem d_23_2_7 : decode prog_23_method_2_code 7 = .ok (.ifCond .eq 18, 3) := by decide +kernel
theorem d_23_2_10 : decode prog_23_method_2_code 10 = .ok (.aload_n 0, 1) := by decide +kernel
theorem d_23_2_11 : decode prog_23_method_2_code 11 = .ok (.iload_n 1, 1) := by decide +kernel
theorem d_23_2_12 : decode prog_23_method_2_code 12 = .ok (.newarray .byte, 2) := by decide +kernel
theorem d_23_2_14 : decode prog_23_method_2_code 14 = .ok (.putfield 15, 3) := by decide +kernel
theorem d_23_2_17 : decode prog_23_method_2_code 17 = .ok (.aload_n 0, 1) := by decide +kernel
theorem d_23_2_18 : decode prog_23_method_2_code 18 = .ok (.iconst 0, 1) := by decide +kernel
theorem d_23_2_19 : decode prog_23_method_2_code 19 = .ok (.putfield 22, 3) := by decide +kernel
theorem d_23_2_22 : decode prog_23_method_2_code 22 = .ok (.goto 16, 3) := by decide +kernel
theorem d_23_2_38 : decode prog_23_method_2_code 38 = .ok (.return_, 1) := by decide +kernel
theorem d_23_31_0 : decode prog_23_method_31_code 0 = .ok (.aload_n 0, 1) := by decide +kernel
theorem d_23_31_1 : decode prog_23_method_31_code 1 = .ok (.aload_n 0, 1) := by decide +kernel
theorem d_23_31_2 : decode prog_23_method_31_code 2 = .ok (.getfield 79, 3) := by decide +kernel
theorem d_23_31_5 : decode prog_23_method_31_code 5 = .ok (.iconst 1, 1) := by decide +kernel
theorem d_23_31_6 : decode prog_23_method_31_code 6 = .ok (.iadd, 1) := by decide +kernel
theorem d_23_31_7 : decode prog_23_method_31_code 7 = .ok (.invokevirtual 100, 3) := by decide +kernel
theorem d_23_31_10 : decode prog_23_method_31_code 10 = .ok (.aload_n 0, 1) := by decide +kernel
theorem d_23_31_11 : decode prog_23_method_31_code 11 = .ok (.invokevirtual 83, 3) := by decide +kernel
theorem d_23_31_14 : decode prog_23_method_31_code 14 = .ok (.ifCond .eq 31, 3) := by decide +kernel
theorem d_23_31_17 : decode prog_23_method_31_code 17 = .ok (.iload_n 1, 1) := by decide +kernel
theorem d_23_31_18 : decode prog_23_method_31_code 18 = .ok (.invokestatic 191, 3) := by decide +kernel
theorem d_23_31_21 : decode prog_23_method_31_code 21 = .ok (.ifCond .eq 24, 3) := by decide +kernel
theorem d_23_31_24 : decode prog_23_method_31_code 24 = .ok (.aload_n 0, 1) := by decide +kernel
theorem d_23_31_25 : decode prog_23_method_31_code 25 = .ok (.getfield 15, 3) := by decide +kernel
theorem d_23_31_28 : decode prog_23_method_31_code 28 = .ok (.aload_n 0, 1) := by decide +kernel
theorem d_23_31_29 : decode prog_23_method_31_code 29 = .ok (.dup, 1) := by decide +kernel
theorem d_23_31_30 : decode prog_23_method_31_code 30 = .ok (.getfield 79, 3) := by decide +kernel
theorem d_23_31_33 : decode prog_23_method_31_code 33 = .ok (.dup_x1, 1) := by decide +kernel
theorem d_23_31_34 : decode prog_23_method_31_code 34 = .ok (.iconst 1, 1) := by decide +kernel
theorem d_23_31_35 : decode prog_23_method_31_code 35 = .ok (.iadd, 1) := by decide +kernel
theorem d_23_31_36 : decode prog_23_method_31_code 36 = .ok (.putfield 79, 3) := by decide +kernel
theorem d_23_31_39 : decode prog_23_method_31_code 39 = .ok (.iload_n 1, 1) := by decide +kernel
theorem d_23_31_40 : decode prog_23_method_31_code 40 = .ok (.i2b, 1) := by decide +kernel
theorem d_23_31_41 : decode prog_23_method_31_code 41 = .ok (.bastore, 1) := by decide +kernel
theorem d_23_31_42 : decode prog_23_method_31_code 42 = .ok (.goto 33, 3) := by decide +kernel
theorem d_23_31_75 : decode prog_23_method_31_code 75 = .ok (.aload_n 0, 1) := by decide +kernel
theorem d_23_31_76 : decode prog_23_method_31_code 76 = .ok (.areturn, 1) := by decide +kernel
theorem d_23_64_0 : decode prog_23_method_64_code 0 = .ok (.aload_n 0, 1) := by decide +kernel
theorem d_23_64_1 : decode prog_23_method_64_code 1 = .ok (.getfield 15, 3) := by decide +kernel
theorem d_23_64_4 : decode prog_23_method_64_code 4 = .ok (.areturn, 1) := by decide +kernel
theorem d_23_68_0 : decode prog_23_method_68_code 0 = .ok (.getstatic 18, 3) := by decide +kernel
theorem d_23_68_3 : decode prog_23_method_68_code 3 = .ok (.ifCond .eq 14, 3) := by decide +kernel
theorem d_23_68_6 : decode prog_23_method_68_code 6 = .ok (.aload_n 0, 1) := by decide +kernel
theorem d_23_68_7 : decode prog_23_method_68_code 7 = .ok (.getfield 22, 3) := by decide +kernel
theorem d_23_68_10 : decode prog_23_method_68_code 10 = .ok (.ifCond .ne 7, 3) := by decide +kernel
theorem d_23_68_13 : decode prog_23_method_68_code 13 = .ok (.iconst 1, 1) := by decide +kernel
theorem d_23_68_14 : decode prog_23_method_68_code 14 = .ok (.goto 4, 3) := by decide +kernel
theorem d_23_68_17 : decode prog_23_method_68_code 17 = .ok (.iconst 0, 1) := by decide +kernel
theorem d_23_68_18 : decode prog_23_method_68_code 18 = .ok (.ireturn, 1) := by decide +kernel
theorem d_23_6_0 : decode prog_23_method_6_code 0 = .ok (.aload_n 0, 1) := by decide +kernel
theorem d_23_6_1 : decode prog_23_method_6_code 1 = .ok (.getfield 79, 3) := by decide +kernel
theorem d_23_6_4 : decode prog_23_method_6_code 4 = .ok (.ireturn, 1) := by decide +kernel
theorem d_23_71_0 : decode prog_23_method_71_code 0 = .ok (.getstatic 18, 3) := by decide +kernel
theorem d_23_71_3 : decode prog_23_method_71_code 3 = .ok (.ifCond .eq 18, 3) := by decide +kernel
theorem d_23_71_6 : decode prog_23_method_71_code 6 = .ok (.aload_n 0, 1) := by decide +kernel
theorem d_23_71_7 : decode prog_23_method_71_code 7 = .ok (.getfield 22, 3) := by decide +kernel
theorem d_23_71_10 : decode prog_23_method_71_code 10 = .ok (.aload_n 1, 1) := by decide +kernel
theorem d_23_71_11 : decode prog_23_method_71_code 11 = .ok (.invokevirtual 40, 3) := by decide +kernel
theorem d_23_71_14 : decode prog_23_method_71_code 14 = .ok (.if_icmp .eq 7, 3) := by decide +kernel
theorem d_23_71_21 : decode prog_23_method_71_code 21 = .ok (.return_, 1) := by decide +kernel
theorem d_23_73_0 : decode prog_23_method_73_code 0 = .ok (.aload_n 0, 1) := by decide +kernel
theorem d_23_73_1 : decode prog_23_method_73_code 1 = .ok (.aload_n 2, 1) := by decide +kernel
theorem d_23_73_2 : decode prog_23_method_73_code 2 = .ok (.invokevirtual 397, 3) := by decide +kernel
theorem d_23_73_5 : decode prog_23_method_73_code 5 = .ok (.aload_n 2, 1) := by decide +kernel
theorem d_23_73_6 : decode prog_23_method_73_code 6 = .ok (.aload_n 0, 1) := by decide +kernel
theorem d_23_73_7 : decode prog_23_method_73_code 7 = .ok (.getfield 15, 3) := by decide +kernel
theorem d_23_73_10 : decode prog_23_method_73_code 10 = .ok (.iload_n 1, 1) := by decide +kernel
theorem d_23_73_11 : decode prog_23_method_73_code 11 = .ok (.aload_n 0, 1) := by decide +kernel
theorem d_23_73_12 : decode prog_23_method_73_code 12 = .ok (.getfield 22, 3) := by decide +kernel
theorem d_23_73_15 : decode prog_23_method_73_code 15 = .ok (.invokevirtual 399, 3) := by decide +kernel
theorem d_23_73_18 : decode prog_23_method_73_code 18 = .ok (.return_, 1) := by decide +kernel
theorem d_23_9_0 : decode prog_23_method_9_code 0 = .ok (.aload_n 0, 1) := by decide +kernel
theorem d_23_9_1 : decode prog_23_method_9_code 1 = .ok (.getfield 15, 3) := by decide +kernel
theorem d_23_9_4 : decode prog_23_method_9_code 4 = .ok (.arraylength, 1) := by decide +kernel
theorem d_23_9_5 : decode prog_23_method_9_code 5 = .ok (.aload_n 0, 1) := by decide +kernel
theorem d_23_9_6 : decode prog_23_method_9_code 6 = .ok (.getfield 22, 3) := by decide +kernel
theorem d_23_9_9 : decode prog_23_method_9_code 9 = .ok (.ishr, 1) := by decide +kernel
theorem d_23_9_10 : decode prog_23_method_9_code 10 = .ok (.istore_n 2, 1) := by decide +kernel
theorem d_23_9_11 : decode prog_23_method_9_code 11 = .ok (.iload_n 1, 1) := by decide +kernel
theorem d_23_9_12 : decode prog_23_method_9_code 12 = .ok (.iload_n 2, 1) := by decide +kernel
theorem d_23_9_13 : decode prog_23_method_9_code 13 = .ok (.isub, 1) := by decide +kernel
theorem d_23_9_14 : decode prog_23_method_9_code 14 = .ok (.ifCond .le 24, 3) := by decide +kernel
theorem d_23_9_38 : decode prog_23_method_9_code 38 = .ok (.return_, 1) := by decide +kernel
theorem d_2_10_0 : decode prog_2_method_10_code 0 = .ok (.aload_n 0, 1) := by decide +kernel
theorem d_2_10_1 : decode prog_2_method_10_code 1 = .ok (.getfield 24, 3) := by decide +kernel
theorem d_2_10_4 : decode prog_2_method_10_code 4 = .ok (.iload_n 1, 1) := by decide +kernel
theorem d_2_10_5 : decode prog_2_method_10_code 5 = .ok (.iaload, 1) := by decide +kernel
theorem d_2_10_6 : decode prog_2_method_10_code 6 = .ok (.aload_n 0, 1) := by decide +kernel
theorem d_2_10_7 : decode prog_2_method_10_code 7 = .ok (.getfield 24, 3) := by decide +kernel
theorem d_2_10_10 : decode prog_2_method_10_code 10 = .ok (.bipush 30, 2) := by decide +kernel
theorem d_2_10_12 : decode prog_2_method_10_code 12 = .ok (.iaload, 1) := by decide +kernel
theorem d_2_10_13 : decode prog_2_method_10_code 13 = .ok (.if_icmp .ne 19, 3) := by decide +kernel
theorem d_2_10_16 : decode prog_2_method_10_code 16 = .ok (.aload_n 0, 1) := by decide +kernel
theorem d_2_10_17 : decode prog_2_method_10_code 17 = .ok (.getfield 21, 3) := by decide +kernel
theorem d_2_10_20 : decode prog_2_method_10_code 20 = .ok (.iload_n 1, 1) := by decide +kernel
theorem d_2_10_21 : decode prog_2_method_10_code 21 = .ok (.iaload, 1) := by decide +kernel
theorem d_2_10_22 : decode prog_2_method_10_code 22 = .ok (.aload_n 0, 1) := by decide +kernel
theorem d_2_10_23 : decode prog_2_method_10_code 23 = .ok (.getfield 21, 3) := by decide +kernel
theorem d_2_10_26 : decode prog_2_method_10_code 26 = .ok (.bipush 30, 2) := by decide +kernel
theorem d_2_10_28 : decode prog_2_method_10_code 28 = .ok (.iaload, 1) := by decide +kernel
theorem d_2_10_29 : decode prog_2_method_10_code 29 = .ok (.if_icmp .eq 5, 3) := by decide +kernel
theorem d_2_10_32 : decode prog_2_method_10_code 32 = .ok (.iconst 0, 1) := by decide +kernel
theorem d_2_10_33 : decode prog_2_method_10_code 33 = .ok (.ireturn, 1) := by decide +kernel
theorem d_2_10_34 : decode prog_2_method_10_code 34 = .ok (.iconst 0, 1) := by decide +kernel
theorem d_2_10_35 : decode prog_2_method_10_code 35 = .ok (.istore_n 2, 1) := by decide +kernel
theorem d_2_10_36 : decode prog_2_method_10_code 36 = .ok (.iload_n 2, 1) := by decide +kernel
theorem d_2_10_37 : decode prog_2_method_10_code 37 = .ok (.aload_n 0, 1) := by decide +kernel
theorem d_2_10_38 : decode prog_2_method_10_code 38 = .ok (.getfield 24, 3) := by decide +kernel
theorem d_2_10_41 : decode prog_2_method_10_code 41 = .ok (.iload_n 1, 1) := by decide +kernel
theorem d_2_10_42 : decode prog_2_method_10_code 42 = .ok (.iaload, 1) := by decide +kernel
theorem d_2_10_43 : decode prog_2_method_10_code 43 = .ok (.if_icmp .ge 31, 3) := by decide +kernel
theorem d_2_10_46 : decode prog_2_method_10_code 46 = .ok (.aload_n 0, 1) := by decide +kernel
theorem d_2_10_47 : decode prog_2_method_10_code 47 = .ok (.getfield 29, 3) := by decide +kernel
theorem d_2_10_50 : decode prog_2_method_10_code 50 = .ok (.iload_n 1, 1) := by decide +kernel
theorem d_2_10_51 : decode prog_2_method_10_code 51 = .ok (.aaload, 1) := by decide +kernel
theorem d_2_10_52 : decode prog_2_method_10_code 52 = .ok (.iload_n 2, 1) := by decide +kernel
theorem d_2_10_53 : decode prog_2_method_10_code 53 = .ok (.iaload, 1) := by decide +kernel
theorem d_2_10_54 : decode prog_2_method_10_code 54 = .ok (.aload_n 0, 1) := by decide +kernel
theorem d_2_10_55 : decode prog_2_method_10_code 55 = .ok (.getfield 29, 3) := by decide +kernel
theorem d_2_10_58 : decode prog_2_method_10_code 58 = .ok (.bipush 30, 2) := by decide +kernel
theorem d_2_10_60 : decode prog_2_method_10_code 60 = .ok (.aaload, 1) := by decide +kernel
theorem d_2_10_61 : decode prog_2_method_10_code 61 = .ok (.iload_n 2, 1) := by decide +kernel
theorem d_2_10_62 : decode prog_2_method_10_code 62 = .ok (.iaload, 1) := by decide +kernel
theorem d_2_10_63 : decode prog_2_method_10_code 63 = .ok (.if_icmp .eq 5, 3) := by decide +kernel
theorem d_2_10_66 : decode prog_2_method_10_code 66 = .ok (.iconst 0, 1) := by decide +kernel
theorem d_2_10_67 : decode prog_2_method_10_code 67 = .ok (.ireturn, 1) := by decide +kernel
theorem d_2_10_68 : decode prog_2_method_10_code 68 = .ok (.iinc 2 1, 3) := by decide +kernel
theorem d_2_10_71 : decode prog_2_method_10_code 71 = .ok (.goto (-35), 3) := by decide +kernel
theorem d_2_10_74 : decode prog_2_method_10_code 74 = .ok (.iconst 1, 1) := by decide +kernel
theorem d_2_10_75 : decode prog_2_method_10_code 75 = .ok (.ireturn, 1) := by decide +kernel
theorem d_2_11_0 : decode prog_2_method_11_code 0 = .ok (.aload_n 0, 1) := by decide +kernel
theorem d_2_11_1 : decode prog_2_method_11_code 1 = .ok (.getfield 65, 3) := by decide +kernel
theorem d_2_11_4 : decode prog_2_method_11_code 4 = .ok (.istore_n 1, 1) := by decide +kernel
theorem d_2_11_5 : decode prog_2_method_11_code 5 = .ok (.aload_n 0, 1) := by decide +kernel
theorem d_2_11_6 : decode prog_2_method_11_code 6 = .ok (.getfield 18, 3) := by decide +kernel
theorem d_2_11_9 : decode prog_2_method_11_code 9 = .ok (.iload_n 1, 1) := by decide +kernel
theorem d_2_11_10 : decode prog_2_method_11_code 10 = .ok (.iconst 0, 1) := by decide +kernel
theorem d_2_11_11 : decode prog_2_method_11_code 11 = .ok (.iastore, 1) := by decide +kernel
theorem d_2_11_12 : decode prog_2_method_11_code 12 = .ok (.aload_n 0, 1) := by decide +kernel
theorem d_2_11_13 : decode prog_2_method_11_code 13 = .ok (.getfield 21, 3) := by decide +kernel
theorem d_2_11_16 : decode prog_2_method_11_code 16 = .ok (.iload_n 1, 1) := by decide +kernel
theorem d_2_11_17 : decode prog_2_method_11_code 17 = .ok (.aload_n 0, 1) := by decide +kernel
theorem d_2_11_18 : decode prog_2_method_11_code 18 = .ok (.getfield 21, 3) := by decide +kernel
theorem d_2_11_21 : decode prog_2_method_11_code 21 = .ok (.bipush 30, 2) := by decide +kernel
theorem d_2_11_23 : decode prog_2_method_11_code 23 = .ok (.iaload, 1) := by decide +kernel
theorem d_2_11_24 : decode prog_2_method_11_code 24 = .ok (.iastore, 1) := by decide +kernel
theorem d_2_11_25 : decode prog_2_method_11_code 25 = .ok (.aload_n 0, 1) := by decide +kernel
theorem d_2_11_26 : decode prog_2_method_11_code 26 = .ok (.getfield 24, 3) := by decide +kernel
theorem d_2_11_29 : decode prog_2_method_11_code 29 = .ok (.iload_n 1, 1) := by decide +kernel
theorem d_2_11_30 : decode prog_2_method_11_code 30 = .ok (.aload_n 0, 1) := by decide +kernel
theorem d_2_11_31 : decode prog_2_method_11_code 31 = .ok (.getfield 24, 3) := by decide +kernel
theorem d_2_11_34 : decode prog_2_method_11_code 34 = .ok (.bipush 30, 2) := by decide +kernel
theorem d_2_11_36 : decode prog_2_method_11_code 36 = .ok (.iaload, 1) := by decide +kernel
theorem d_2_11_37 : decode prog_2_method_11_code 37 = .ok (.iastore, 1) := by decide +kernel
theorem d_2_11_38 : decode prog_2_method_11_code 38 = .ok (.aload_n 0, 1) := by decide +kernel
theorem d_2_11_39 : decode prog_2_method_11_code 39 = .ok (.getfield 29, 3) := by decide +kernel
theorem d_2_11_42 : decode prog_2_method_11_code 42 = .ok (.bipush 30, 2) := by decide +kernel
theorem d_2_11_44 : decode prog_2_method_11_code 44 = .ok (.aaload, 1) := by decide +kernel
theorem d_2_11_45 : decode prog_2_method_11_code 45 = .ok (.iconst 0, 1) := by decide +kernel
theorem d_2_11_46 : decode prog_2_method_11_code 46 = .ok (.aload_n 0, 1) := by decide +kernel
theorem d_2_11_47 : decode prog_2_method_11_code 47 = .ok (.getfield 29, 3) := by decide +kernel
theorem d_2_11_50 : decode prog_2_method_11_code 50 = .ok (.iload_n 1, 1) := by decide +kernel
theorem d_2_11_51 : decode prog_2_method_11_code 51 = .ok (.aaload, 1) := by decide +kernel
theorem d_2_11_52 : decode prog_2_method_11_code 52 = .ok (.iconst 0, 1) := by decide +kernel
theorem d_2_11_53 : decode prog_2_method_11_code 53 = .ok (.bipush 8, 2) := by decide +kernel
theorem d_2_11_55 : decode prog_2_method_11_code 55 = .ok (.invokestatic 72, 3) := by decide +kernel
theorem d_2_11_58 : decode prog_2_method_11_code 58 = .ok (.aload_n 0, 1) := by decide +kernel
theorem d_2_11_59 : decode prog_2_method_11_code 59 = .ok (.dup, 1) := by decide +kernel
theorem d_2_11_60 : decode prog_2_method_11_code 60 = .ok (.getfield 65, 3) := by decide +kernel
theorem d_2_11_63 : decode prog_2_method_11_code 63 = .ok (.iconst 1, 1) := by decide +kernel
theorem d_2_11_64 : decode prog_2_method_11_code 64 = .ok (.iadd, 1) := by decide +kernel
theorem d_2_11_65 : decode prog_2_method_11_code 65 = .ok (.putfield 65, 3) := by decide +kernel
theorem d_2_11_68 : decode prog_2_method_11_code 68 = .ok (.iload_n 1, 1) := by decide +kernel
theorem d_2_11_69 : decode prog_2_method_11_code 69 = .ok (.ireturn, 1) := by decide +kernel
theorem d_2_12_0 : decode prog_2_method_12_code 0 = .ok (.iconst 0, 1) := by decide +kernel
theorem d_2_12_1 : decode prog_2_method_12_code 1 = .ok (.istore_n 3, 1) := by decide +kernel
theorem d_2_12_2 : decode prog_2_method_12_code 2 = .ok (.iload_n 3, 1) := by decide +kernel
theorem d_2_12_3 : decode prog_2_method_12_code 3 = .ok (.aload_n 0, 1) := by decide +kernel
theorem d_2_12_4 : decode prog_2_method_12_code 4 = .ok (.getfield 24, 3) := by decide +kernel
theorem d_2_12_7 : decode prog_2_method_12_code 7 = .ok (.iload_n 1, 1) := by decide +kernel
theorem d_2_12_8 : decode prog_2_method_12_code 8 = .ok (.iaload, 1) := by decide +kernel
theorem d_2_12_9 : decode prog_2_method_12_code 9 = .ok (.if_icmp .ge 26, 3) := by decide +kernel
theorem d_2_12_12 : decode prog_2_method_12_code 12 = .ok (.aload_n 0, 1) := by decide +kernel
theorem d_2_12_13 : decode prog_2_method_12_code 13 = .ok (.getfield 29, 3) := by decide +kernel
theorem d_2_12_16 : decode prog_2_method_12_code 16 = .ok (.iload_n 1, 1) := by decide +kernel
theorem d_2_12_17 : decode prog_2_method_12_code 17 = .ok (.aaload, 1) := by decide +kernel
theorem d_2_12_18 : decode prog_2_method_12_code 18 = .ok (.iload_n 3, 1) := by decide +kernel
theorem d_2_12_19 : decode prog_2_method_12_code 19 = .ok (.iaload, 1) := by decide +kernel
theorem d_2_12_20 : decode prog_2_method_12_code 20 = .ok (.iload_n 2, 1) := by decide +kernel
theorem d_2_12_21 : decode prog_2_method_12_code 21 = .ok (.invokestatic 45, 3) := by decide +kernel
theorem d_2_12_24 : decode prog_2_method_12_code 24 = .ok (.ifCond .eq 5, 3) := by decide +kernel
theorem d_2_12_27 : decode prog_2_method_12_code 27 = .ok (.iload_n 3, 1) := by decide +kernel
theorem d_2_12_28 : decode prog_2_method_12_code 28 = .ok (.ireturn, 1) := by decide +kernel
theorem d_2_12_29 : decode prog_2_method_12_code 29 = .ok (.iinc 3 1, 3) := by decide +kernel
theorem d_2_12_32 : decode prog_2_method_12_code 32 = .ok (.goto (-30), 3) := by decide +kernel
theorem d_2_12_35 : decode prog_2_method_12_code 35 = .ok (.aload_n 0, 1) := by decide +kernel
theorem d_2_12_36 : decode prog_2_method_12_code 36 = .ok (.getfield 24, 3) := by decide +kernel
theorem d_2_12_39 : decode prog_2_method_12_code 39 = .ok (.iload_n 1, 1) := by decide +kernel
theorem d_2_12_40 : decode prog_2_method_12_code 40 = .ok (.iaload, 1) := by decide +kernel
theorem d_2_12_41 : decode prog_2_method_12_code 41 = .ok (.ireturn, 1) := by decide +kernel
theorem d_2_13_0 : decode prog_2_method_13_code 0 = .ok (.iconst 0, 1) := by decide +kernel
theorem d_2_13_1 : decode prog_2_method_13_code 1 = .ok (.istore_n 3, 1) := by decide +kernel
theorem d_2_13_2 : decode prog_2_method_13_code 2 = .ok (.iload_n 3, 1) := by decide +kernel
theorem d_2_13_3 : decode prog_2_method_13_code 3 = .ok (.aload_n 0, 1) := by decide +kernel
theorem d_2_13_4 : decode prog_2_method_13_code 4 = .ok (.getfield 24, 3) := by decide +kernel
theorem d_2_13_7 : decode prog_2_method_13_code 7 = .ok (.iload_n 1, 1) := by decide +kernel
theorem d_2_13_8 : decode prog_2_method_13_code 8 = .ok (.iaload, 1) := by decide +kernel
theorem d_2_13_9 : decode prog_2_method_13_code 9 = .ok (.if_icmp .ge 29, 3) := by decide +kernel
theorem d_2_13_12 : decode prog_2_method_13_code 12 = .ok (.aload_n 0, 1) := by decide +kernel
theorem d_2_13_13 : decode prog_2_method_13_code 13 = .ok (.getfield 29, 3) := by decide +kernel
theorem d_2_13_16 : decode prog_2_method_13_code 16 = .ok (.iload_n 1, 1) := by decide +kernel
theorem d_2_13_17 : decode prog_2_method_13_code 17 = .ok (.aaload, 1) := by decide +kernel
theorem d_2_13_18 : decode prog_2_method_13_code 18 = .ok (.iload_n 3, 1) := by decide +kernel
theorem d_2_13_19 : decode prog_2_method_13_code 19 = .ok (.iaload, 1) := by decide +kernel
theorem d_2_13_20 : decode prog_2_method_13_code 20 = .ok (.iload_n 2, 1) := by decide +kernel
theorem d_2_13_21 : decode prog_2_method_13_code 21 = .ok (.iand, 1) := by decide +kernel
theorem d_2_13_22 : decode prog_2_method_13_code 22 = .ok (.istore 4, 2) := by decide +kernel
theorem d_2_13_24 : decode prog_2_method_13_code 24 = .ok (.iload 4, 2) := by decide +kernel
theorem d_2_13_26 : decode prog_2_method_13_code 26 = .ok (.ifCond .eq 6, 3) := by decide +kernel
theorem d_2_13_29 : decode prog_2_method_13_code 29 = .ok (.iload 4, 2) := by decide +kernel
theorem d_2_13_31 : decode prog_2_method_13_code 31 = .ok (.ireturn, 1) := by decide +kernel
theorem d_2_13_32 : decode prog_2_method_13_code 32 = .ok (.iinc 3 1, 3) := by decide +kernel
theorem d_2_13_35 : decode prog_2_method_13_code 35 = .ok (.goto (-33), 3) := by decide +kernel
theorem d_2_13_38 : decode prog_2_method_13_code 38 = .ok (.iconst 0, 1) := by decide +kernel
theorem d_2_13_39 : decode prog_2_method_13_code 39 = .ok (.ireturn, 1) := by decide +kernel
theorem d_2_14_0 : decode prog_2_method_14_code 0 = .ok (.aload_n 0, 1) := by decide +kernel
theorem d_2_14_1 : decode prog_2_method_14_code 1 = .ok (.iload_n 1, 1) := by decide +kernel
theorem d_2_14_2 : decode prog_2_method_14_code 2 = .ok (.iload_n 2, 1) := by decide +kernel
theorem d_2_14_3 : decode prog_2_method_14_code 3 = .ok (.invokevirtual 78, 3) := by decide +kernel
theorem d_2_14_6 : decode prog_2_method_14_code 6 = .ok (.istore_n 3, 1) := by decide +kernel
theorem d_2_14_7 : decode prog_2_method_14_code 7 = .ok (.iload_n 3, 1) := by decide +kernel
theorem d_2_14_8 : decode prog_2_method_14_code 8 = .ok (.invokestatic 81, 3) := by decide +kernel
theorem d_2_14_11 : decode prog_2_method_14_code 11 = .ok (.iconst 1, 1) := by decide +kernel
theorem d_2_14_12 : decode prog_2_method_14_code 12 = .ok (.if_icmp .ne 12, 3) := by decide +kernel
theorem d_2_14_15 : decode prog_2_method_14_code 15 = .ok (.iload_n 3, 1) := by decide +kernel
theorem d_2_14_16 : decode prog_2_method_14_code 16 = .ok (.iconst 1, 1) := by decide +kernel
theorem d_2_14_17 : decode prog_2_method_14_code 17 = .ok (.isub, 1) := by decide +kernel
theorem d_2_14_18 : decode prog_2_method_14_code 18 = .ok (.invokestatic 81, 3) := by decide +kernel
theorem d_2_14_21 : decode prog_2_method_14_code 21 = .ok (.goto 4, 3) := by decide +kernel
theorem d_2_14_24 : decode prog_2_method_14_code 24 = .ok (.iconst (-1), 1) := by decide +kernel
theorem d_2_14_25 : decode prog_2_method_14_code 25 = .ok (.ireturn, 1) := by decide +kernel
theorem d_2_15_0 : decode prog_2_method_15_code 0 = .ok (.aload_n 0, 1) := by decide +kernel
theorem d_2_15_1 : decode prog_2_method_15_code 1 = .ok (.getfield 32, 3) := by decide +kernel
theorem d_2_15_4 : decode prog_2_method_15_code 4 = .ok (.iconst 0, 1) := by decide +kernel
theorem d_2_15_5 : decode prog_2_method_15_code 5 = .ok (.invokestatic 53, 3) := by decide +kernel
theorem d_2_15_8 : decode prog_2_method_15_code 8 = .ok (.iconst 0, 1) := by decide +kernel
theorem d_2_15_9 : decode prog_2_method_15_code 9 = .ok (.istore 4, 2) := by decide +kernel
theorem d_2_15_11 : decode prog_2_method_15_code 11 = .ok (.iload 4, 2) := by decide +kernel
theorem d_2_15_13 : decode prog_2_method_15_code 13 = .ok (.iload_n 2, 1) := by decide +kernel
theorem d_2_15_14 : decode prog_2_method_15_code 14 = .ok (.if_icmp .ge 68, 3) := by decide +kernel
theorem d_2_15_17 : decode prog_2_method_15_code 17 = .ok (.iconst 0, 1) := by decide +kernel
theorem d_2_15_18 : decode prog_2_method_15_code 18 = .ok (.istore 5, 2) := by decide +kernel
theorem d_2_15_20 : decode prog_2_method_15_code 20 = .ok (.iconst 0, 1) := by decide +kernel
theorem d_2_15_21 : decode prog_2_method_15_code 21 = .ok (.istore 6, 2) := by decide +kernel
theorem d_2_15_23 : decode prog_2_method_15_code 23 = .ok (.iload 6, 2) := by decide +kernel
theorem d_2_15_25 : decode prog_2_method_15_code 25 = .ok (.aload_n 0, 1) := by decide +kernel
theorem d_2_15_26 : decode prog_2_method_15_code 26 = .ok (.getfield 24, 3) := by decide +kernel
theorem d_2_15_29 : decode prog_2_method_15_code 29 = .ok (.iload 4, 2) := by decide +kernel
theorem d_2_15_31 : decode prog_2_method_15_code 31 = .ok (.iaload, 1) := by decide +kernel
theorem d_2_15_32 : decode prog_2_method_15_code 32 = .ok (.if_icmp .ge 44, 3) := by decide +kernel
theorem d_2_15_35 : decode prog_2_method_15_code 35 = .ok (.iload 5, 2) := by decide +kernel
theorem d_2_15_37 : decode prog_2_method_15_code 37 = .ok (.aload_n 0, 1) := by decide +kernel
theorem d_2_15_38 : decode prog_2_method_15_code 38 = .ok (.getfield 29, 3) := by decide +kernel
theorem d_2_15_41 : decode prog_2_method_15_code 41 = .ok (.iload 4, 2) := by decide +kernel
theorem d_2_15_43 : decode prog_2_method_15_code 43 = .ok (.aaload, 1) := by decide +kernel
theorem d_2_15_44 : decode prog_2_method_15_code 44 = .ok (.iload 6, 2) := by decide +kernel
theorem d_2_15_46 : decode prog_2_method_15_code 46 = .ok (.iaload, 1) := by decide +kernel
theorem d_2_15_47 : decode prog_2_method_15_code 47 = .ok (.ior, 1) := by decide +kernel
theorem d_2_15_48 : decode prog_2_method_15_code 48 = .ok (.istore 5, 2) := by decide +kernel
theorem d_2_15_50 : decode prog_2_method_15_code 50 = .ok (.iload 5, 2) := by decide +kernel
theorem d_2_15_52 : decode prog_2_method_15_code 52 = .ok (.iload_n 3, 1) := by decide +kernel
theorem d_2_15_53 : decode prog_2_method_15_code 53 = .ok (.if_icmp .eq 17, 3) := by decide +kernel
theorem d_2_15_56 : decode prog_2_method_15_code 56 = .ok (.aload_n 0, 1) := by decide +kernel
theorem d_2_15_57 : decode prog_2_method_15_code 57 = .ok (.getfield 32, 3) := by decide +kernel
theorem d_2_15_60 : decode prog_2_method_15_code 60 = .ok (.iload 5, 2) := by decide +kernel
theorem d_2_15_62 : decode prog_2_method_15_code 62 = .ok (.dup2, 1) := by decide +kernel
theorem d_2_15_63 : decode prog_2_method_15_code 63 = .ok (.iaload, 1) := by decide +kernel
theorem d_2_15_64 : decode prog_2_method_15_code 64 = .ok (.aload_n 1, 1) := by decide +kernel
theorem d_2_15_65 : decode prog_2_method_15_code 65 = .ok (.iload 4, 2) := by decide +kernel
theorem d_2_15_67 : decode prog_2_method_15_code 67 = .ok (.iaload, 1) := by decide +kernel
theorem d_2_15_68 : decode prog_2_method_15_code 68 = .ok (.iadd, 1) := by decide +kernel
theorem d_2_15_69 : decode prog_2_method_15_code 69 = .ok (.iastore, 1) := by decide +kernel
theorem d_2_15_70 : decode prog_2_method_15_code 70 = .ok (.iinc 6 1, 3) := by decide +kernel
theorem d_2_15_73 : decode prog_2_method_15_code 73 = .ok (.goto (-50), 3) := by decide +kernel
theorem d_2_15_76 : decode prog_2_method_15_code 76 = .ok (.iinc 4 1, 3) := by decide +kernel
theorem d_2_15_79 : decode prog_2_method_15_code 79 = .ok (.goto (-68), 3) := by decide +kernel
theorem d_2_15_82 : decode prog_2_method_15_code 82 = .ok (.aload_n 0, 1) := by decide +kernel
theorem d_2_15_83 : decode prog_2_method_15_code 83 = .ok (.getfield 32, 3) := by decide +kernel
theorem d_2_15_86 : decode prog_2_method_15_code 86 = .ok (.iload_n 3, 1) := by decide +kernel
theorem d_2_15_87 : decode prog_2_method_15_code 87 = .ok (.aload_n 0, 1) := by decide +kernel
theorem d_2_15_88 : decode prog_2_method_15_code 88 = .ok (.aload_n 1, 1) := by decide +kernel
theorem d_2_15_89 : decode prog_2_method_15_code 89 = .ok (.iload_n 2, 1) := by decide +kernel
theorem d_2_15_90 : decode prog_2_method_15_code 90 = .ok (.invokevirtual 87, 3) := by decide +kernel
theorem d_2_15_93 : decode prog_2_method_15_code 93 = .ok (.iastore, 1) := by decide +kernel
theorem d_2_15_94 : decode prog_2_method_15_code 94 = .ok (.return_, 1) := by decide +kernel
theorem d_2_1_0 : decode prog_2_method_1_code 0 = .ok (.aload_n 0, 1) := by decide +kernel
theorem d_2_1_1 : decode prog_2_method_1_code 1 = .ok (.invokespecial 3, 3) := by decide +kernel
theorem d_2_1_4 : decode prog_2_method_1_code 4 = .ok (.aload_n 0, 1) := by decide +kernel
theorem d_2_1_5 : decode prog_2_method_1_code 5 = .ok (.bipush 30, 2) := by decide +kernel
theorem d_2_1_7 : decode prog_2_method_1_code 7 = .ok (.newarray .int, 2) := by decide +kernel
