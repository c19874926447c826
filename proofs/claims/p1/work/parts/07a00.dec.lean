theorem d_L10_0 : decode method_10_code 0 = .ok (.aload_n 2, 1) := by decide +kernel
theorem d_L10_1 : decode method_10_code 1 = .ok (.iconst 0, 1) := by decide +kernel
theorem d_L10_2 : decode method_10_code 2 = .ok (.aload_n 0, 1) := by decide +kernel
theorem d_L10_3 : decode method_10_code 3 = .ok (.iload_n 1, 1) := by decide +kernel
theorem d_L10_4 : decode method_10_code 4 = .ok (.invokevirtual 42, 3) := by decide +kernel
theorem d_L10_7 : decode method_10_code 7 = .ok (.i2l, 1) := by decide +kernel
theorem d_L10_8 : decode method_10_code 8 = .ok (.lastore, 1) := by decide +kernel
theorem d_L10_9 : decode method_10_code 9 = .ok (.goto 9, 3) := by decide +kernel
theorem d_L10_12 : decode method_10_code 12 = .ok (.astore_n 3, 1) := by decide +kernel
theorem d_L10_13 : decode method_10_code 13 = .ok (.iconst 1, 1) := by decide +kernel
theorem d_L10_14 : decode method_10_code 14 = .ok (.ireturn, 1) := by decide +kernel
theorem d_L10_18 : decode method_10_code 18 = .ok (.iconst 0, 1) := by decide +kernel
theorem d_L10_19 : decode method_10_code 19 = .ok (.ireturn, 1) := by decide +kernel
theorem d_L11_0 : decode method_11_code 0 = .ok (.aload_n 3, 1) := by decide +kernel
theorem d_L11_1 : decode method_11_code 1 = .ok (.iconst 0, 1) := by decide +kernel
theorem d_L11_2 : decode method_11_code 2 = .ok (.aload_n 0, 1) := by decide +kernel
theorem d_L11_3 : decode method_11_code 3 = .ok (.iload_n 1, 1) := by decide +kernel
theorem d_L11_4 : decode method_11_code 4 = .ok (.iload_n 2, 1) := by decide +kernel
theorem d_L11_5 : decode method_11_code 5 = .ok (.invokevirtual 45, 3) := by decide +kernel
theorem d_L11_13 : decode method_11_code 13 = .ok (.astore 4, 2) := by decide +kernel
theorem d_L11_15 : decode method_11_code 15 = .ok (.iconst 1, 1) := by decide +kernel
theorem d_L11_16 : decode method_11_code 16 = .ok (.ireturn, 1) := by decide +kernel
theorem d_L12_0 : decode method_12_code 0 = .ok (.aload_n 3, 1) := by decide +kernel
theorem d_L12_1 : decode method_12_code 1 = .ok (.iconst 0, 1) := by decide +kernel
theorem d_L12_2 : decode method_12_code 2 = .ok (.aload_n 0, 1) := by decide +kernel
theorem d_L12_3 : decode method_12_code 3 = .ok (.iload_n 1, 1) := by decide +kernel
theorem d_L12_4 : decode method_12_code 4 = .ok (.iload_n 2, 1) := by decide +kernel
theorem d_L12_5 : decode method_12_code 5 = .ok (.invokevirtual 48, 3) := by decide +kernel
theorem d_L12_13 : decode method_12_code 13 = .ok (.astore 4, 2) := by decide +kernel
theorem d_L12_15 : decode method_12_code 15 = .ok (.iconst 1, 1) := by decide +kernel
theorem d_L12_16 : decode method_12_code 16 = .ok (.ireturn, 1) := by decide +kernel
theorem d_L13_0 : decode method_13_code 0 = .ok (.aload 4, 2) := by decide +kernel
theorem d_L13_2 : decode method_13_code 2 = .ok (.iconst 0, 1) := by decide +kernel
theorem d_L13_3 : decode method_13_code 3 = .ok (.aload_n 0, 1) := by decide +kernel
theorem d_L13_4 : decode method_13_code 4 = .ok (.iload_n 1, 1) := by decide +kernel
theorem d_L13_5 : decode method_13_code 5 = .ok (.iload_n 2, 1) := by decide +kernel
theorem d_L13_6 : decode method_13_code 6 = .ok (.iload_n 3, 1) := by decide +kernel
theorem d_L13_7 : decode method_13_code 7 = .ok (.invokevirtual 51, 3) := by decide +kernel
theorem d_L13_10 : decode method_13_code 10 = .ok (.i2l, 1) := by decide +kernel
theorem d_L13_11 : decode method_13_code 11 = .ok (.lastore, 1) := by decide +kernel
theorem d_L13_12 : decode method_13_code 12 = .ok (.goto 7, 3) := by decide +kernel
theorem d_L13_15 : decode method_13_code 15 = .ok (.astore 5, 2) := by decide +kernel
theorem d_L13_17 : decode method_13_code 17 = .ok (.iconst 1, 1) := by decide +kernel
theorem d_L13_18 : decode method_13_code 18 = .ok (.ireturn, 1) := by decide +kernel
theorem d_L13_19 : decode method_13_code 19 = .ok (.iconst 0, 1) := by decide +kernel
theorem d_L13_20 : decode method_13_code 20 = .ok (.ireturn, 1) := by decide +kernel
theorem d_L14_0 : decode method_14_code 0 = .ok (.aload_n 2, 1) := by decide +kernel
theorem d_L14_1 : decode method_14_code 1 = .ok (.iconst 0, 1) := by decide +kernel
theorem d_L14_2 : decode method_14_code 2 = .ok (.aload_n 0, 1) := by decide +kernel
theorem d_L14_3 : decode method_14_code 3 = .ok (.iload_n 1, 1) := by decide +kernel
theorem d_L14_4 : decode method_14_code 4 = .ok (.invokevirtual 55, 3) := by decide +kernel
theorem d_L14_12 : decode method_14_code 12 = .ok (.astore_n 3, 1) := by decide +kernel
theorem d_L14_13 : decode method_14_code 13 = .ok (.iconst 1, 1) := by decide +kernel
theorem d_L14_14 : decode method_14_code 14 = .ok (.ireturn, 1) := by decide +kernel
theorem d_L15_0 : decode method_15_code 0 = .ok (.aload_n 2, 1) := by decide +kernel
theorem d_L15_1 : decode method_15_code 1 = .ok (.iconst 0, 1) := by decide +kernel
theorem d_L15_2 : decode method_15_code 2 = .ok (.aload_n 0, 1) := by decide +kernel
theorem d_L15_3 : decode method_15_code 3 = .ok (.iload_n 1, 1) := by decide +kernel
theorem d_L15_4 : decode method_15_code 4 = .ok (.invokevirtual 58, 3) := by decide +kernel
theorem d_L15_12 : decode method_15_code 12 = .ok (.astore_n 3, 1) := by decide +kernel
theorem d_L15_13 : decode method_15_code 13 = .ok (.iconst 1, 1) := by decide +kernel
theorem d_L15_14 : decode method_15_code 14 = .ok (.ireturn, 1) := by decide +kernel
theorem d_L16_0 : decode method_16_code 0 = .ok (.aload_n 2, 1) := by decide +kernel
theorem d_L16_1 : decode method_16_code 1 = .ok (.iconst 0, 1) := by decide +kernel
theorem d_L16_2 : decode method_16_code 2 = .ok (.aload_n 0, 1) := by decide +kernel
theorem d_L16_3 : decode method_16_code 3 = .ok (.iload_n 1, 1) := by decide +kernel
theorem d_L16_4 : decode method_16_code 4 = .ok (.invokevirtual 63, 3) := by decide +kernel
theorem d_L16_7 : decode method_16_code 7 = .ok (.i2l, 1) := by decide +kernel
theorem d_L16_8 : decode method_16_code 8 = .ok (.lastore, 1) := by decide +kernel
theorem d_L16_9 : decode method_16_code 9 = .ok (.goto 6, 3) := by decide +kernel
theorem d_L16_12 : decode method_16_code 12 = .ok (.astore_n 3, 1) := by decide +kernel
theorem d_L16_13 : decode method_16_code 13 = .ok (.iconst 1, 1) := by decide +kernel
theorem d_L16_14 : decode method_16_code 14 = .ok (.ireturn, 1) := by decide +kernel
theorem d_L16_15 : decode method_16_code 15 = .ok (.iconst 0, 1) := by decide +kernel
theorem d_L16_16 : decode method_16_code 16 = .ok (.ireturn, 1) := by decide +kernel
theorem d_L17_0 : decode method_17_code 0 = .ok (.aload_n 2, 1) := by decide +kernel
theorem d_L17_1 : decode method_17_code 1 = .ok (.iconst 0, 1) := by decide +kernel
theorem d_L17_2 : decode method_17_code 2 = .ok (.aload_n 0, 1) := by decide +kernel
theorem d_L17_3 : decode method_17_code 3 = .ok (.iload_n 1, 1) := by decide +kernel
theorem d_L17_4 : decode method_17_code 4 = .ok (.invokevirtual 66, 3) := by decide +kernel
theorem d_L17_12 : decode method_17_code 12 = .ok (.astore_n 3, 1) := by decide +kernel
theorem d_L17_13 : decode method_17_code 13 = .ok (.iconst 1, 1) := by decide +kernel
theorem d_L17_14 : decode method_17_code 14 = .ok (.ireturn, 1) := by decide +kernel
theorem d_L17_15 : decode method_17_code 15 = .ok (.astore_n 3, 1) := by decide +kernel
theorem d_L17_16 : decode method_17_code 16 = .ok (.iconst 2, 1) := by decide +kernel
theorem d_L17_17 : decode method_17_code 17 = .ok (.ireturn, 1) := by decide +kernel
theorem d_L18_0 : decode method_18_code 0 = .ok (.aload_n 2, 1) := by decide +kernel
theorem d_L18_1 : decode method_18_code 1 = .ok (.iconst 0, 1) := by decide +kernel
theorem d_L18_2 : decode method_18_code 2 = .ok (.aload_n 0, 1) := by decide +kernel
theorem d_L18_3 : decode method_18_code 3 = .ok (.iload_n 1, 1) := by decide +kernel
theorem d_L18_4 : decode method_18_code 4 = .ok (.invokevirtual 69, 3) := by decide +kernel
theorem d_L18_12 : decode method_18_code 12 = .ok (.astore_n 3, 1) := by decide +kernel
theorem d_L18_13 : decode method_18_code 13 = .ok (.iconst 1, 1) := by decide +kernel
theorem d_L18_14 : decode method_18_code 14 = .ok (.ireturn, 1) := by decide +kernel
theorem d_L19_0 : decode method_19_code 0 = .ok (.aload_n 2, 1) := by decide +kernel
theorem d_L19_1 : decode method_19_code 1 = .ok (.iconst 0, 1) := by decide +kernel
theorem d_L19_2 : decode method_19_code 2 = .ok (.aload_n 0, 1) := by decide +kernel
theorem d_L19_3 : decode method_19_code 3 = .ok (.iload_n 1, 1) := by decide +kernel
theorem d_L19_4 : decode method_19_code 4 = .ok (.invokevirtual 72, 3) := by decide +kernel
theorem d_L19_12 : decode method_19_code 12 = .ok (.astore_n 3, 1) := by decide +kernel
theorem d_L19_13 : decode method_19_code 13 = .ok (.iconst 1, 1) := by decide +kernel
theorem d_L19_14 : decode method_19_code 14 = .ok (.ireturn, 1) := by decide +kernel
theorem d_L20_0 : decode method_20_code 0 = .ok (.aload_n 3, 1) := by decide +kernel
theorem d_L20_1 : decode method_20_code 1 = .ok (.iconst 0, 1) := by decide +kernel
theorem d_L20_2 : decode method_20_code 2 = .ok (.aload_n 0, 1) := by decide +kernel
theorem d_L20_3 : decode method_20_code 3 = .ok (.iload_n 1, 1) := by decide +kernel
theorem d_L20_4 : decode method_20_code 4 = .ok (.iload_n 2, 1) := by decide +kernel
theorem d_L20_5 : decode method_20_code 5 = .ok (.invokevirtual 75, 3) := by decide +kernel
theorem d_L20_13 : decode method_20_code 13 = .ok (.astore 4, 2) := by decide +kernel
theorem d_L20_15 : decode method_20_code 15 = .ok (.iconst 1, 1) := by decide +kernel
theorem d_L20_16 : decode method_20_code 16 = .ok (.ireturn, 1) := by decide +kernel
theorem d_L20_17 : decode method_20_code 17 = .ok (.astore 4, 2) := by decide +kernel
theorem d_L20_19 : decode method_20_code 19 = .ok (.iconst 2, 1) := by decide +kernel
theorem d_L20_20 : decode method_20_code 20 = .ok (.ireturn, 1) := by decide +kernel
theorem d_L21_0 : decode method_21_code 0 = .ok (.aload_n 2, 1) := by decide +kernel
theorem d_L21_1 : decode method_21_code 1 = .ok (.iconst 0, 1) := by decide +kernel
theorem d_L21_2 : decode method_21_code 2 = .ok (.aload_n 0, 1) := by decide +kernel
theorem d_L21_3 : decode method_21_code 3 = .ok (.iload_n 1, 1) := by decide +kernel
theorem d_L21_4 : decode method_21_code 4 = .ok (.invokevirtual 78, 3) := by decide +kernel
theorem d_L21_12 : decode method_21_code 12 = .ok (.astore_n 3, 1) := by decide +kernel
theorem d_L21_13 : decode method_21_code 13 = .ok (.iconst 1, 1) := by decide +kernel
theorem d_L21_14 : decode method_21_code 14 = .ok (.ireturn, 1) := by decide +kernel
theorem d_L22_0 : decode method_22_code 0 = .ok (.aload_n 3, 1) := by decide +kernel
theorem d_L22_1 : decode method_22_code 1 = .ok (.iconst 0, 1) := by decide +kernel
theorem d_L22_2 : decode method_22_code 2 = .ok (.aload_n 0, 1) := by decide +kernel
theorem d_L22_3 : decode method_22_code 3 = .ok (.iload_n 1, 1) := by decide +kernel
theorem d_L22_4 : decode method_22_code 4 = .ok (.iload_n 2, 1) := by decide +kernel
theorem d_L22_5 : decode method_22_code 5 = .ok (.invokevirtual 81, 3) := by decide +kernel
theorem d_L22_13 : decode method_22_code 13 = .ok (.astore 4, 2) := by decide +kernel
theorem d_L22_15 : decode method_22_code 15 = .ok (.iconst 1, 1) := by decide +kernel
theorem d_L22_16 : decode method_22_code 16 = .ok (.ireturn, 1) := by decide +kernel
theorem d_L23_0 : decode method_23_code 0 = .ok (.aload_n 3, 1) := by decide +kernel
theorem d_L23_1 : decode method_23_code 1 = .ok (.iconst 0, 1) := by decide +kernel
theorem d_L23_2 : decode method_23_code 2 = .ok (.aload_n 0, 1) := by decide +kernel
theorem d_L23_3 : decode method_23_code 3 = .ok (.iload_n 1, 1) := by decide +kernel
theorem d_L23_4 : decode method_23_code 4 = .ok (.iload_n 2, 1) := by decide +kernel
theorem d_L23_5 : decode method_23_code 5 = .ok (.invokevirtual 84, 3) := by decide +kernel
theorem d_L23_13 : decode method_23_code 13 = .ok (.astore 4, 2) := by decide +kernel
theorem d_L23_15 : decode method_23_code 15 = .ok (.iconst 1, 1) := by decide +kernel
theorem d_L23_16 : decode method_23_code 16 = .ok (.ireturn, 1) := by decide +kernel
theorem d_L24_0 : decode method_24_code 0 = .ok (.aload_n 2, 1) := by decide +kernel
theorem d_L24_1 : decode method_24_code 1 = .ok (.iconst 0, 1) := by decide +kernel
theorem d_L24_2 : decode method_24_code 2 = .ok (.aload_n 0, 1) := by decide +kernel
theorem d_L24_3 : decode method_24_code 3 = .ok (.iload_n 1, 1) := by decide +kernel
theorem d_L24_4 : decode method_24_code 4 = .ok (.invokevirtual 87, 3) := by decide +kernel
theorem d_L24_12 : decode method_24_code 12 = .ok (.astore_n 3, 1) := by decide +kernel
theorem d_L24_13 : decode method_24_code 13 = .ok (.iconst 1, 1) := by decide +kernel
theorem d_L24_14 : decode method_24_code 14 = .ok (.ireturn, 1) := by decide +kernel
theorem d_L25_0 : decode method_25_code 0 = .ok (.aload_n 2, 1) := by decide +kernel
theorem d_L25_1 : decode method_25_code 1 = .ok (.iconst 0, 1) := by decide +kernel
theorem d_L25_2 : decode method_25_code 2 = .ok (.aload_n 0, 1) := by decide +kernel
theorem d_L25_3 : decode method_25_code 3 = .ok (.iload_n 1, 1) := by decide +kernel
theorem d_L25_4 : decode method_25_code 4 = .ok (.invokevirtual 90, 3) := by decide +kernel
theorem d_L25_7 : decode method_25_code 7 = .ok (.i2l, 1) := by decide +kernel
theorem d_L25_8 : decode method_25_code 8 = .ok (.lastore, 1) := by decide +kernel
theorem d_L25_9 : decode method_25_code 9 = .ok (.goto 6, 3) := by decide +kernel
theorem d_L25_12 : decode method_25_code 12 = .ok (.astore_n 3, 1) := by decide +kernel
theorem d_L25_13 : decode method_25_code 13 = .ok (.iconst 1, 1) := by decide +kernel
theorem d_L25_14 : decode method_25_code 14 = .ok (.ireturn, 1) := by decide +kernel
theorem d_L25_15 : decode method_25_code 15 = .ok (.iconst 0, 1) := by decide +kernel
theorem d_L25_16 : decode method_25_code 16 = .ok (.ireturn, 1) := by decide +kernel
theorem d_L26_0 : decode method_26_code 0 = .ok (.aload_n 3, 1) := by decide +kernel
theorem d_L26_1 : decode method_26_code 1 = .ok (.iconst 0, 1) := by decide +kernel
theorem d_L26_2 : decode method_26_code 2 = .ok (.aload_n 0, 1) := by decide +kernel
theorem d_L26_3 : decode method_26_code 3 = .ok (.iload_n 1, 1) := by decide +kernel
theorem d_L26_4 : decode method_26_code 4 = .ok (.iload_n 2, 1) := by decide +kernel
theorem d_L26_5 : decode method_26_code 5 = .ok (.invokevirtual 93, 3) := by decide +kernel
theorem d_L26_13 : decode method_26_code 13 = .ok (.astore 4, 2) := by decide +kernel
theorem d_L26_15 : decode method_26_code 15 = .ok (.iconst 1, 1) := by decide +kernel
theorem d_L26_16 : decode method_26_code 16 = .ok (.ireturn, 1) := by decide +kernel
theorem d_L27_0 : decode method_27_code 0 = .ok (.aload_n 2, 1) := by decide +kernel
theorem d_L27_1 : decode method_27_code 1 = .ok (.iconst 0, 1) := by decide +kernel
theorem d_L27_2 : decode method_27_code 2 = .ok (.aload_n 0, 1) := by decide +kernel
theorem d_L27_3 : decode method_27_code 3 = .ok (.iload_n 1, 1) := by decide +kernel
theorem d_L27_4 : decode method_27_code 4 = .ok (.invokevirtual 96, 3) := by decide +kernel
theorem d_L27_12 : decode method_27_code 12 = .ok (.astore_n 3, 1) := by decide +kernel
theorem d_L27_13 : decode method_27_code 13 = .ok (.iconst 1, 1) := by decide +kernel
theorem d_L27_14 : decode method_27_code 14 = .ok (.ireturn, 1) := by decide +kernel
theorem d_L28_0 : decode method_28_code 0 = .ok (.aload_n 3, 1) := by decide +kernel
theorem d_L28_1 : decode method_28_code 1 = .ok (.iconst 0, 1) := by decide +kernel
theorem d_L28_2 : decode method_28_code 2 = .ok (.aload_n 0, 1) := by decide +kernel
theorem d_L28_3 : decode method_28_code 3 = .ok (.iload_n 1, 1) := by decide +kernel
theorem d_L28_4 : decode method_28_code 4 = .ok (.iload_n 2, 1) := by decide +kernel
theorem d_L28_5 : decode method_28_code 5 = .ok (.invokevirtual 99, 3) := by decide +kernel
theorem d_L28_8 : decode method_28_code 8 = .ok (.i2l, 1) := by decide +kernel
theorem d_L28_9 : decode method_28_code 9 = .ok (.lastore, 1) := by decide +kernel
theorem d_L28_10 : decode method_28_code 10 = .ok (.goto 7, 3) := by decide +kernel
theorem d_L28_13 : decode method_28_code 13 = .ok (.astore 4, 2) := by decide +kernel
theorem d_L28_15 : decode method_28_code 15 = .ok (.iconst 1, 1) := by decide +kernel
theorem d_L28_16 : decode method_28_code 16 = .ok (.ireturn, 1) := by decide +kernel
theorem d_L28_17 : decode method_28_code 17 = .ok (.iconst 0, 1) := by decide +kernel
theorem d_L28_18 : decode method_28_code 18 = .ok (.ireturn, 1) := by decide +kernel
theorem d_L29_0 : decode method_29_code 0 = .ok (.aload_n 2, 1) := by decide +kernel
theorem d_L29_1 : decode method_29_code 1 = .ok (.iconst 0, 1) := by decide +kernel
theorem d_L29_2 : decode method_29_code 2 = .ok (.aload_n 0, 1) := by decide +kernel
theorem d_L29_3 : decode method_29_code 3 = .ok (.iload_n 1, 1) := by decide +kernel
theorem d_L29_4 : decode method_29_code 4 = .ok (.invokevirtual 102, 3) := by decide +kernel
theorem d_L29_7 : decode method_29_code 7 = .ok (.i2l, 1) := by decide +kernel
theorem d_L29_8 : decode method_29_code 8 = .ok (.lastore, 1) := by decide +kernel
theorem d_L29_9 : decode method_29_code 9 = .ok (.goto 9, 3) := by decide +kernel
theorem d_L29_12 : decode method_29_code 12 = .ok (.astore_n 3, 1) := by decide +kernel
theorem d_L29_13 : decode method_29_code 13 = .ok (.iconst 1, 1) := by decide +kernel
theorem d_L29_14 : decode method_29_code 14 = .ok (.ireturn, 1) := by decide +kernel
theorem d_L29_18 : decode method_29_code 18 = .ok (.iconst 0, 1) := by decide +kernel
theorem d_L29_19 : decode method_29_code 19 = .ok (.ireturn, 1) := by decide +kernel
theorem d_L30_0 : decode method_30_code 0 = .ok (.aload_n 3, 1) := by decide +kernel
theorem d_L30_1 : decode method_30_code 1 = .ok (.iconst 0, 1) := by decide +kernel
theorem d_L30_2 : decode method_30_code 2 = .ok (.aload_n 0, 1) := by decide +kernel
theorem d_L30_3 : decode method_30_code 3 = .ok (.iload_n 1, 1) := by decide +kernel
theorem d_L30_4 : decode method_30_code 4 = .ok (.iload_n 2, 1) := by decide +kernel
theorem d_L30_5 : decode method_30_code 5 = .ok (.invokevirtual 105, 3) := by decide +kernel
theorem d_L30_13 : decode method_30_code 13 = .ok (.astore 4, 2) := by decide +kernel
theorem d_L30_15 : decode method_30_code 15 = .ok (.iconst 1, 1) := by decide +kernel
theorem d_L30_16 : decode method_30_code 16 = .ok (.ireturn, 1) := by decide +kernel
theorem d_L30_21 : decode method_30_code 21 = .ok (.astore 4, 2) := by decide +kernel
theorem d_L30_23 : decode method_30_code 23 = .ok (.iconst 3, 1) := by decide +kernel
theorem d_L30_24 : decode method_30_code 24 = .ok (.ireturn, 1) := by decide +kernel
theorem d_L31_0 : decode method_31_code 0 = .ok (.aload_n 2, 1) := by decide +kernel
theorem d_L31_1 : decode method_31_code 1 = .ok (.iconst 0, 1) := by decide +kernel
theorem d_L31_2 : decode method_31_code 2 = .ok (.aload_n 0, 1) := by decide +kernel
theorem d_L31_3 : decode method_31_code 3 = .ok (.iload_n 1, 1) := by decide +kernel
theorem d_L31_4 : decode method_31_code 4 = .ok (.invokevirtual 108, 3) := by decide +kernel
theorem d_L31_7 : decode method_31_code 7 = .ok (.i2l, 1) := by decide +kernel
theorem d_L31_8 : decode method_31_code 8 = .ok (.lastore, 1) := by decide +kernel
theorem d_L31_9 : decode method_31_code 9 = .ok (.goto 6, 3) := by decide +kernel
theorem d_L31_12 : decode method_31_code 12 = .ok (.astore_n 3, 1) := by decide +kernel
theorem d_L31_13 : decode method_31_code 13 = .ok (.iconst 1, 1) := by decide +kernel
theorem d_L31_14 : decode method_31_code 14 = .ok (.ireturn, 1) := by decide +kernel
theorem d_L31_15 : decode method_31_code 15 = .ok (.iconst 0, 1) := by decide +kernel
theorem d_L31_16 : decode method_31_code 16 = .ok (.ireturn, 1) := by decide +kernel
theorem d_L32_0 : decode method_32_code 0 = .ok (.aload_n 2, 1) := by decide +kernel
theorem d_L32_1 : decode method_32_code 1 = .ok (.iconst 0, 1) := by decide +kernel
theorem d_L32_2 : decode method_32_code 2 = .ok (.aload_n 0, 1) := by decide +kernel
theorem d_L32_3 : decode method_32_code 3 = .ok (.iload_n 1, 1) := by decide +kernel
theorem d_L32_4 : decode method_32_code 4 = .ok (.invokevirtual 111, 3) := by decide +kernel
theorem d_L32_12 : decode method_32_code 12 = .ok (.astore_n 3, 1) := by decide +kernel
theorem d_L32_13 : decode method_32_code 13 = .ok (.iconst 1, 1) := by decide +kernel
theorem d_L32_14 : decode method_32_code 14 = .ok (.ireturn, 1) := by decide +kernel
theorem d_L33_0 : decode method_33_code 0 = .ok (.aload 4, 2) := by decide +kernel
theorem d_L33_2 : decode method_33_code 2 = .ok (.iconst 0, 1) := by decide +kernel
theorem d_L33_3 : decode method_33_code 3 = .ok (.aload_n 0, 1) := by decide +kernel
theorem d_L33_4 : decode method_33_code 4 = .ok (.iload_n 1, 1) := by decide +kernel
theorem d_L33_5 : decode method_33_code 5 = .ok (.iload_n 2, 1) := by decide +kernel
theorem d_L33_6 : decode method_33_code 6 = .ok (.iload_n 3, 1) := by decide +kernel
theorem d_L33_7 : decode method_33_code 7 = .ok (.invokevirtual 114, 3) := by decide +kernel
theorem d_L33_10 : decode method_33_code 10 = .ok (.i2l, 1) := by decide +kernel
theorem d_L33_11 : decode method_33_code 11 = .ok (.lastore, 1) := by decide +kernel
theorem d_L33_12 : decode method_33_code 12 = .ok (.goto 11, 3) := by decide +kernel
theorem d_L33_15 : decode method_33_code 15 = .ok (.astore 5, 2) := by decide +kernel
theorem d_L33_17 : decode method_33_code 17 = .ok (.iconst 1, 1) := by decide +kernel
theorem d_L33_18 : decode method_33_code 18 = .ok (.ireturn, 1) := by decide +kernel
theorem d_L33_23 : decode method_33_code 23 = .ok (.iconst 0, 1) := by decide +kernel
theorem d_L33_24 : decode method_33_code 24 = .ok (.ireturn, 1) := by decide +kernel
theorem d_L34_0 : decode method_34_code 0 = .ok (.aload_n 2, 1) := by decide +kernel
theorem d_L34_1 : decode method_34_code 1 = .ok (.iconst 0, 1) := by decide +kernel
theorem d_L34_2 : decode method_34_code 2 = .ok (.aload_n 0, 1) := by decide +kernel
theorem d_L34_3 : decode method_34_code 3 = .ok (.iload_n 1, 1) := by decide +kernel
theorem d_L34_4 : decode method_34_code 4 = .ok (.invokevirtual 117, 3) := by decide +kernel
theorem d_L34_12 : decode method_34_code 12 = .ok (.astore_n 3, 1) := by decide +kernel
theorem d_L34_13 : decode method_34_code 13 = .ok (.iconst 1, 1) := by decide +kernel
theorem d_L34_14 : decode method_34_code 14 = .ok (.ireturn, 1) := by decide +kernel
theorem d_L35_0 : decode method_35_code 0 = .ok (.aload_n 3, 1) := by decide +kernel
theorem d_L35_1 : decode method_35_code 1 = .ok (.iconst 0, 1) := by decide +kernel
theorem d_L35_2 : decode method_35_code 2 = .ok (.aload_n 0, 1) := by decide +kernel
theorem d_L35_3 : decode method_35_code 3 = .ok (.iload_n 1, 1) := by decide +kernel
theorem d_L35_4 : decode method_35_code 4 = .ok (.iload_n 2, 1) := by decide +kernel
theorem d_L35_5 : decode method_35_code 5 = .ok (.invokevirtual 120, 3) := by decide +kernel
theorem d_L35_13 : decode method_35_code 13 = .ok (.astore 4, 2) := by decide +kernel
theorem d_L35_15 : decode method_35_code 15 = .ok (.iconst 1, 1) := by decide +kernel
theorem d_L35_16 : decode method_35_code 16 = .ok (.ireturn, 1) := by decide +kernel
theorem d_L36_0 : decode method_36_code 0 = .ok (.aload_n 3, 1) := by decide +kernel
theorem d_L36_1 : decode method_36_code 1 = .ok (.iconst 0, 1) := by decide +kernel
theorem d_L36_2 : decode method_36_code 2 = .ok (.aload_n 0, 1) := by decide +kernel
theorem d_L36_3 : decode method_36_code 3 = .ok (.iload_n 1, 1) := by decide +kernel
theorem d_L36_4 : decode method_36_code 4 = .ok (.iload_n 2, 1) := by decide +kernel
theorem d_L36_5 : decode method_36_code 5 = .ok (.invokevirtual 123, 3) := by decide +kernel
theorem d_L36_13 : decode method_36_code 13 = .ok (.astore 4, 2) := by decide +kernel
theorem d_L36_15 : decode method_36_code 15 = .ok (.iconst 1, 1) := by decide +kernel
theorem d_L36_16 : decode method_36_code 16 = .ok (.ireturn, 1) := by decide +kernel
theorem d_L37_0 : decode method_37_code 0 = .ok (.aload_n 3, 1) := by decide +kernel
theorem d_L37_1 : decode method_37_code 1 = .ok (.iconst 0, 1) := by decide +kernel
theorem d_L37_2 : decode method_37_code 2 = .ok (.aload_n 0, 1) := by decide +kernel
theorem d_L37_3 : decode method_37_code 3 = .ok (.iload_n 1, 1) := by decide +kernel
theorem d_L37_4 : decode method_37_code 4 = .ok (.iload_n 2, 1) := by decide +kernel
theorem d_L37_5 : decode method_37_code 5 = .ok (.invokevirtual 126, 3) := by decide +kernel
theorem d_L37_13 : decode method_37_code 13 = .ok (.astore 4, 2) := by decide +kernel
theorem d_L37_15 : decode method_37_code 15 = .ok (.iconst 1, 1) := by decide +kernel
theorem d_L37_16 : decode method_37_code 16 = .ok (.ireturn, 1) := by decide +kernel
theorem d_L38_0 : decode method_38_code 0 = .ok (.aload_n 2, 1) := by decide +kernel
theorem d_L38_1 : decode method_38_code 1 = .ok (.iconst 0, 1) := by decide +kernel
theorem d_L38_2 : decode method_38_code 2 = .ok (.aload_n 0, 1) := by decide +kernel
theorem d_L38_3 : decode method_38_code 3 = .ok (.iload_n 1, 1) := by decide +kernel
theorem d_L38_4 : decode method_38_code 4 = .ok (.invokevirtual 129, 3) := by decide +kernel
theorem d_L38_7 : decode method_38_code 7 = .ok (.i2l, 1) := by decide +kernel
theorem d_L38_8 : decode method_38_code 8 = .ok (.lastore, 1) := by decide +kernel
theorem d_L38_9 : decode method_38_code 9 = .ok (.goto 9, 3) := by decide +kernel
theorem d_L38_12 : decode method_38_code 12 = .ok (.astore_n 3, 1) := by decide +kernel
theorem d_L38_13 : decode method_38_code 13 = .ok (.iconst 1, 1) := by decide +kernel
theorem d_L38_14 : decode method_38_code 14 = .ok (.ireturn, 1) := by decide +kernel
theorem d_L38_18 : decode method_38_code 18 = .ok (.iconst 0, 1) := by decide +kernel
theorem d_L38_19 : decode method_38_code 19 = .ok (.ireturn, 1) := by decide +kernel
theorem d_L39_0 : decode method_39_code 0 = .ok (.aload_n 2, 1) := by decide +kernel
theorem d_L39_1 : decode method_39_code 1 = .ok (.iconst 0, 1) := by decide +kernel
theorem d_L39_2 : decode method_39_code 2 = .ok (.aload_n 0, 1) := by decide +kernel
theorem d_L39_3 : decode method_39_code 3 = .ok (.iload_n 1, 1) := by decide +kernel
theorem d_L39_4 : decode method_39_code 4 = .ok (.invokevirtual 132, 3) := by decide +kernel
theorem d_L39_7 : decode method_39_code 7 = .ok (.i2l, 1) := by decide +kernel
theorem d_L39_8 : decode method_39_code 8 = .ok (.lastore, 1) := by decide +kernel
theorem d_L39_9 : decode method_39_code 9 = .ok (.goto 6, 3) := by decide +kernel
theorem d_L39_12 : decode method_39_code 12 = .ok (.astore_n 3, 1) := by decide +kernel
theorem d_L39_13 : decode method_39_code 13 = .ok (.iconst 1, 1) := by decide +kernel
theorem d_L39_14 : decode method_39_code 14 = .ok (.ireturn, 1) := by decide +kernel
theorem d_L39_15 : decode method_39_code 15 = .ok (.iconst 0, 1) := by decide +kernel
theorem d_L39_16 : decode method_39_code 16 = .ok (.ireturn, 1) := by decide +kernel
theorem d_L3_0 : decode method_3_code 0 = .ok (.aload_n 1, 1) := by decide +kernel
theorem d_L3_1 : decode method_3_code 1 = .ok (.iconst 0, 1) := by decide +kernel
theorem d_L3_2 : decode method_3_code 2 = .ok (.aload_n 0, 1) := by decide +kernel
theorem d_L3_3 : decode method_3_code 3 = .ok (.invokevirtual 7, 3) := by decide +kernel
theorem d_L3_6 : decode method_3_code 6 = .ok (.i2l, 1) := by decide +kernel
theorem d_L3_7 : decode method_3_code 7 = .ok (.lastore, 1) := by decide +kernel
theorem d_L3_8 : decode method_3_code 8 = .ok (.goto 6, 3) := by decide +kernel
theorem d_L3_14 : decode method_3_code 14 = .ok (.iconst 0, 1) := by decide +kernel
theorem d_L3_15 : decode method_3_code 15 = .ok (.ireturn, 1) := by decide +kernel
theorem d_L40_0 : decode method_40_code 0 = .ok (.aload_n 2, 1) := by decide +kernel
theorem d_L40_1 : decode method_40_code 1 = .ok (.iconst 0, 1) := by decide +kernel
theorem d_L40_2 : decode method_40_code 2 = .ok (.aload_n 0, 1) := by decide +kernel
theorem d_L40_3 : decode method_40_code 3 = .ok (.iload_n 1, 1) := by decide +kernel
theorem d_L40_4 : decode method_40_code 4 = .ok (.invokevirtual 135, 3) := by decide +kernel
theorem d_L40_12 : decode method_40_code 12 = .ok (.astore_n 3, 1) := by decide +kernel
theorem d_L40_13 : decode method_40_code 13 = .ok (.iconst 1, 1) := by decide +kernel
theorem d_L40_14 : decode method_40_code 14 = .ok (.ireturn, 1) := by decide +kernel
theorem d_L41_0 : decode method_41_code 0 = .ok (.aload_n 2, 1) := by decide +kernel
theorem d_L41_1 : decode method_41_code 1 = .ok (.iconst 0, 1) := by decide +kernel
theorem d_L41_2 : decode method_41_code 2 = .ok (.aload_n 0, 1) := by decide +kernel
theorem d_L41_3 : decode method_41_code 3 = .ok (.iload_n 1, 1) := by decide +kernel
theorem d_L41_4 : decode method_41_code 4 = .ok (.invokevirtual 138, 3) := by decide +kernel
theorem d_L41_11 : decode method_41_code 11 = .ok (.astore_n 3, 1) := by decide +kernel
theorem d_L41_12 : decode method_41_code 12 = .ok (.iconst 1, 1) := by decide +kernel
theorem d_L41_13 : decode method_41_code 13 = .ok (.ireturn, 1) := by decide +kernel
theorem d_L42_0 : decode method_42_code 0 = .ok (.aload_n 2, 1) := by decide +kernel
theorem d_L42_1 : decode method_42_code 1 = .ok (.iconst 0, 1) := by decide +kernel
theorem d_L42_2 : decode method_42_code 2 = .ok (.aload_n 0, 1) := by decide +kernel
theorem d_L42_3 : decode method_42_code 3 = .ok (.iload_n 1, 1) := by decide +kernel
theorem d_L42_4 : decode method_42_code 4 = .ok (.invokevirtual 142, 3) := by decide +kernel
theorem d_L42_11 : decode method_42_code 11 = .ok (.astore_n 3, 1) := by decide +kernel
theorem d_L42_12 : decode method_42_code 12 = .ok (.iconst 1, 1) := by decide +kernel
theorem d_L42_13 : decode method_42_code 13 = .ok (.ireturn, 1) := by decide +kernel
theorem d_L43_0 : decode method_43_code 0 = .ok (.aload_n 2, 1) := by decide +kernel
theorem d_L43_1 : decode method_43_code 1 = .ok (.iconst 0, 1) := by decide +kernel
theorem d_L43_2 : decode method_43_code 2 = .ok (.aload_n 0, 1) := by decide +kernel
theorem d_L43_3 : decode method_43_code 3 = .ok (.iload_n 1, 1) := by decide +kernel
theorem d_L43_4 : decode method_43_code 4 = .ok (.invokevirtual 146, 3) := by decide +kernel
theorem d_L43_12 : decode method_43_code 12 = .ok (.astore_n 3, 1) := by decide +kernel
theorem d_L43_13 : decode method_43_code 13 = .ok (.iconst 1, 1) := by decide +kernel
theorem d_L43_14 : decode method_43_code 14 = .ok (.ireturn, 1) := by decide +kernel
theorem d_L4_0 : decode method_4_code 0 = .ok (.aload 4, 2) := by decide +kernel
theorem d_L4_2 : decode method_4_code 2 = .ok (.iconst 0, 1) := by decide +kernel
theorem d_L4_3 : decode method_4_code 3 = .ok (.aload_n 0, 1) := by decide +kernel
theorem d_L4_4 : decode method_4_code 4 = .ok (.iload_n 1, 1) := by decide +kernel
theorem d_L4_5 : decode method_4_code 5 = .ok (.iload_n 2, 1) := by decide +kernel
theorem d_L4_6 : decode method_4_code 6 = .ok (.iload_n 3, 1) := by decide +kernel
theorem d_L4_7 : decode method_4_code 7 = .ok (.invokevirtual 15, 3) := by decide +kernel
theorem d_L4_15 : decode method_4_code 15 = .ok (.astore 5, 2) := by decide +kernel
theorem d_L4_17 : decode method_4_code 17 = .ok (.iconst 1, 1) := by decide +kernel
theorem d_L4_18 : decode method_4_code 18 = .ok (.ireturn, 1) := by decide +kernel
theorem d_L6_0 : decode method_6_code 0 = .ok (.aload_n 2, 1) := by decide +kernel
theorem d_L6_1 : decode method_6_code 1 = .ok (.iconst 0, 1) := by decide +kernel
theorem d_L6_2 : decode method_6_code 2 = .ok (.aload_n 0, 1) := by decide +kernel
theorem d_L6_3 : decode method_6_code 3 = .ok (.iload_n 1, 1) := by decide +kernel
theorem d_L6_4 : decode method_6_code 4 = .ok (.invokevirtual 27, 3) := by decide +kernel
theorem d_L6_7 : decode method_6_code 7 = .ok (.i2l, 1) := by decide +kernel
theorem d_L6_8 : decode method_6_code 8 = .ok (.lastore, 1) := by decide +kernel
theorem d_L6_9 : decode method_6_code 9 = .ok (.goto 9, 3) := by decide +kernel
theorem d_L6_12 : decode method_6_code 12 = .ok (.astore_n 3, 1) := by decide +kernel
theorem d_L6_13 : decode method_6_code 13 = .ok (.iconst 1, 1) := by decide +kernel
theorem d_L6_14 : decode method_6_code 14 = .ok (.ireturn, 1) := by decide +kernel
theorem d_L6_18 : decode method_6_code 18 = .ok (.iconst 0, 1) := by decide +kernel
theorem d_L6_19 : decode method_6_code 19 = .ok (.ireturn, 1) := by decide +kernel
theorem d_L7_0 : decode method_7_code 0 = .ok (.aload_n 3, 1) := by decide +kernel
theorem d_L7_1 : decode method_7_code 1 = .ok (.iconst 0, 1) := by decide +kernel
theorem d_L7_2 : decode method_7_code 2 = .ok (.aload_n 0, 1) := by decide +kernel
theorem d_L7_3 : decode method_7_code 3 = .ok (.iload_n 1, 1) := by decide +kernel
theorem d_L7_4 : decode method_7_code 4 = .ok (.iload_n 2, 1) := by decide +kernel
theorem d_L7_5 : decode method_7_code 5 = .ok (.invokevirtual 31, 3) := by decide +kernel
theorem d_L7_13 : decode method_7_code 13 = .ok (.astore 4, 2) := by decide +kernel
theorem d_L7_15 : decode method_7_code 15 = .ok (.iconst 1, 1) := by decide +kernel
theorem d_L7_16 : decode method_7_code 16 = .ok (.ireturn, 1) := by decide +kernel
theorem d_L8_0 : decode method_8_code 0 = .ok (.aload_n 2, 1) := by decide +kernel
theorem d_L8_1 : decode method_8_code 1 = .ok (.iconst 0, 1) := by decide +kernel
theorem d_L8_2 : decode method_8_code 2 = .ok (.aload_n 0, 1) := by decide +kernel
theorem d_L8_3 : decode method_8_code 3 = .ok (.iload_n 1, 1) := by decide +kernel
theorem d_L8_4 : decode method_8_code 4 = .ok (.invokevirtual 35, 3) := by decide +kernel
theorem d_L8_12 : decode method_8_code 12 = .ok (.astore_n 3, 1) := by decide +kernel
theorem d_L8_13 : decode method_8_code 13 = .ok (.iconst 1, 1) := by decide +kernel
theorem d_L8_14 : decode method_8_code 14 = .ok (.ireturn, 1) := by decide +kernel
theorem d_L9_0 : decode method_9_code 0 = .ok (.aload 4, 2) := by decide +kernel
theorem d_L9_2 : decode method_9_code 2 = .ok (.iconst 0, 1) := by decide +kernel
theorem d_L9_3 : decode method_9_code 3 = .ok (.aload_n 0, 1) := by decide +kernel
theorem d_L9_4 : decode method_9_code 4 = .ok (.iload_n 1, 1) := by decide +kernel
theorem d_L9_5 : decode method_9_code 5 = .ok (.iload_n 2, 1) := by decide +kernel
theorem d_L9_6 : decode method_9_code 6 = .ok (.iload_n 3, 1) := by decide +kernel
theorem d_L9_7 : decode method_9_code 7 = .ok (.invokevirtual 38, 3) := by decide +kernel
theorem d_L9_15 : decode method_9_code 15 = .ok (.astore 5, 2) := by decide +kernel
theorem d_L9_17 : decode method_9_code 17 = .ok (.iconst 1, 1) := by decide +kernel
theorem d_L9_18 : decode method_9_code 18 = .ok (.ireturn, 1) := by decide +kernel
theorem d_10_1_0 : decode prog_10_method_1_code 0 = .ok (.aload_n 0, 1) := by decide +kernel
theorem d_10_1_1 : decode prog_10_method_1_code 1 = .ok (.invokespecial 3, 3) := by decide +kernel
theorem d_10_1_4 : decode prog_10_method_1_code 4 = .ok (.aload_n 0, 1) := by decide +kernel
theorem d_10_1_5 : decode prog_10_method_1_code 5 = .ok (.bipush 13, 2) := by decide +kernel
theorem d_10_1_7 : decode prog_10_method_1_code 7 = .ok (.newarray .int, 2) := by decide +kernel
theorem d_10_1_9 : decode prog_10_method_1_code 9 = .ok (.putfield 9, 3) := by decide +kernel
theorem d_10_1_12 : decode prog_10_method_1_code 12 = .ok (.return_, 1) := by decide +kernel
theorem d_11_10_0 : decode prog_11_method_10_code 0 = .ok (.aload_n 0, 1) := by decide +kernel
theorem d_11_10_1 : decode prog_11_method_10_code 1 = .ok (.invokevirtual 100, 3) := by decide +kernel
theorem d_11_10_4 : decode prog_11_method_10_code 4 = .ok (.aload_n 0, 1) := by decide +kernel
theorem d_11_10_5 : decode prog_11_method_10_code 5 = .ok (.getfield 44, 3) := by decide +kernel
theorem d_11_10_8 : decode prog_11_method_10_code 8 = .ok (.istore_n 1, 1) := by decide +kernel
theorem d_11_10_9 : decode prog_11_method_10_code 9 = .ok (.iconst 1, 1) := by decide +kernel
theorem d_11_10_10 : decode prog_11_method_10_code 10 = .ok (.istore_n 2, 1) := by decide +kernel
theorem d_11_10_11 : decode prog_11_method_10_code 11 = .ok (.iload_n 2, 1) := by decide +kernel
theorem d_11_10_12 : decode prog_11_method_10_code 12 = .ok (.aload_n 0, 1) := by decide +kernel
theorem d_11_10_13 : decode prog_11_method_10_code 13 = .ok (.getfield 44, 3) := by decide +kernel
theorem d_11_10_16 : decode prog_11_method_10_code 16 = .ok (.if_icmp .ge 30, 3) := by decide +kernel
theorem d_11_10_46 : decode prog_11_method_10_code 46 = .ok (.iload_n 1, 1) := by decide +kernel
theorem d_11_10_47 : decode prog_11_method_10_code 47 = .ok (.ireturn, 1) := by decide +kernel
theorem d_11_12_0 : decode prog_11_method_12_code 0 = .ok (.iconst 0, 1) := by decide +kernel
theorem d_11_12_1 : decode prog_11_method_12_code 1 = .ok (.istore_n 1, 1) := by decide +kernel
theorem d_11_12_2 : decode prog_11_method_12_code 2 = .ok (.iload_n 1, 1) := by decide +kernel
theorem d_11_12_3 : decode prog_11_method_12_code 3 = .ok (.aload_n 0, 1) := by decide +kernel
theorem d_11_12_4 : decode prog_11_method_12_code 4 = .ok (.getfield 40, 3) := by decide +kernel
theorem d_11_12_7 : decode prog_11_method_12_code 7 = .ok (.getfield 84, 3) := by decide +kernel
theorem d_11_12_10 : decode prog_11_method_12_code 10 = .ok (.if_icmp .ge 58, 3) := by decide +kernel
theorem d_11_12_68 : decode prog_11_method_12_code 68 = .ok (.iconst 0, 1) := by decide +kernel
theorem d_11_12_69 : decode prog_11_method_12_code 69 = .ok (.istore_n 1, 1) := by decide +kernel
theorem d_11_12_70 : decode prog_11_method_12_code 70 = .ok (.iload_n 1, 1) := by decide +kernel
theorem d_11_12_71 : decode prog_11_method_12_code 71 = .ok (.aload_n 0, 1) := by decide +kernel
theorem d_11_12_72 : decode prog_11_method_12_code 72 = .ok (.getfield 40, 3) := by decide +kernel
theorem d_11_12_75 : decode prog_11_method_12_code 75 = .ok (.getfield 84, 3) := by decide +kernel
theorem d_11_12_78 : decode prog_11_method_12_code 78 = .ok (.if_icmp .ge 48, 3) := by decide +kernel
theorem d_11_12_126 : decode prog_11_method_12_code 126 = .ok (.return_, 1) := by decide +kernel
theorem d_11_14_0 : decode prog_11_method_14_code 0 = .ok (.aload_n 0, 1) := by decide +kernel
theorem d_11_14_1 : decode prog_11_method_14_code 1 = .ok (.invokevirtual 124, 3) := by decide +kernel
theorem d_11_14_4 : decode prog_11_method_14_code 4 = .ok (.aload_n 0, 1) := by decide +kernel
theorem d_11_14_5 : decode prog_11_method_14_code 5 = .ok (.getfield 44, 3) := by decide +kernel
theorem d_11_14_8 : decode prog_11_method_14_code 8 = .ok (.istore_n 1, 1) := by decide +kernel
theorem d_11_14_9 : decode prog_11_method_14_code 9 = .ok (.iconst 0, 1) := by decide +kernel
theorem d_11_14_10 : decode prog_11_method_14_code 10 = .ok (.istore_n 2, 1) := by decide +kernel
theorem d_11_14_11 : decode prog_11_method_14_code 11 = .ok (.iload_n 2, 1) := by decide +kernel
theorem d_11_14_12 : decode prog_11_method_14_code 12 = .ok (.aload_n 0, 1) := by decide +kernel
theorem d_11_14_13 : decode prog_11_method_14_code 13 = .ok (.getfield 40, 3) := by decide +kernel
theorem d_11_14_16 : decode prog_11_method_14_code 16 = .ok (.getfield 84, 3) := by decide +kernel
theorem d_11_14_19 : decode prog_11_method_14_code 19 = .ok (.if_icmp .ge 51, 3) := by decide +kernel
theorem d_11_14_70 : decode prog_11_method_14_code 70 = .ok (.iload_n 1, 1) := by decide +kernel
theorem d_11_14_71 : decode prog_11_method_14_code 71 = .ok (.ireturn, 1) := by decide +kernel
theorem d_11_15_0 : decode prog_11_method_15_code 0 = .ok (.aload_n 0, 1) := by decide +kernel
theorem d_11_15_1 : decode prog_11_method_15_code 1 = .ok (.getfield 37, 3) := by decide +kernel
theorem d_11_15_4 : decode prog_11_method_15_code 4 = .ok (.iconst 0, 1) := by decide +kernel
theorem d_11_15_5 : decode prog_11_method_15_code 5 = .ok (.lconst 0, 1) := by decide +kernel
theorem d_11_15_6 : decode prog_11_method_15_code 6 = .ok (.lastore, 1) := by decide +kernel
theorem d_11_15_7 : decode prog_11_method_15_code 7 = .ok (.iconst 1, 1) := by decide +kernel
theorem d_11_15_8 : decode prog_11_method_15_code 8 = .ok (.istore_n 1, 1) := by decide +kernel
theorem d_11_15_9 : decode prog_11_method_15_code 9 = .ok (.iload_n 1, 1) := by decide +kernel
theorem d_11_15_10 : decode prog_11_method_15_code 10 = .ok (.aload_n 0, 1) := by decide +kernel
theorem d_11_15_11 : decode prog_11_method_15_code 11 = .ok (.getfield 44, 3) := by decide +kernel
theorem d_11_15_14 : decode prog_11_method_15_code 14 = .ok (.if_icmp .gt 79, 3) := by decide +kernel
theorem d_11_15_93 : decode prog_11_method_15_code 93 = .ok (.return_, 1) := by decide +kernel
theorem d_11_19_0 : decode prog_11_method_19_code 0 = .ok (.aload_n 0, 1) := by decide +kernel
theorem d_11_19_1 : decode prog_11_method_19_code 1 = .ok (.getfield 44, 3) := by decide +kernel
theorem d_11_19_4 : decode prog_11_method_19_code 4 = .ok (.ifCond .ne 5, 3) := by decide +kernel
theorem d_11_19_7 : decode prog_11_method_19_code 7 = .ok (.iconst (-1), 1) := by decide +kernel
theorem d_11_19_8 : decode prog_11_method_19_code 8 = .ok (.ireturn, 1) := by decide +kernel
theorem d_11_1_0 : decode prog_11_method_1_code 0 = .ok (.aload_n 0, 1) := by decide +kernel
theorem d_11_1_1 : decode prog_11_method_1_code 1 = .ok (.invokespecial 3, 3) := by decide +kernel
theorem d_11_1_4 : decode prog_11_method_1_code 4 = .ok (.aload_n 0, 1) := by decide +kernel
theorem d_11_1_5 : decode prog_11_method_1_code 5 = .ok (.bipush 31, 2) := by decide +kernel
theorem d_11_1_7 : decode prog_11_method_1_code 7 = .ok (.newarray .int, 2) := by decide +kernel
theorem d_11_1_9 : decode prog_11_method_1_code 9 = .ok (.putfield 9, 3) := by decide +kernel
theorem d_11_1_12 : decode prog_11_method_1_code 12 = .ok (.aload_n 0, 1) := by decide +kernel
theorem d_11_1_13 : decode prog_11_method_1_code 13 = .ok (.bipush 8, 2) := by decide +kernel
theorem d_11_1_15 : decode prog_11_method_1_code 15 = .ok (.newarray .int, 2) := by decide +kernel
theorem d_11_1_17 : decode prog_11_method_1_code 17 = .ok (.putfield 15, 3) := by decide +kernel
theorem d_11_1_20 : decode prog_11_method_1_code 20 = .ok (.aload_n 0, 1) := by decide +kernel
theorem d_11_1_21 : decode prog_11_method_1_code 21 = .ok (.bipush 8, 2) := by decide +kernel
theorem d_11_1_23 : decode prog_11_method_1_code 23 = .ok (.newarray .int, 2) := by decide +kernel
theorem d_11_1_25 : decode prog_11_method_1_code 25 = .ok (.putfield 18, 3) := by decide +kernel
theorem d_11_1_28 : decode prog_11_method_1_code 28 = .ok (.aload_n 0, 1) := by decide +kernel
theorem d_11_1_29 : decode prog_11_method_1_code 29 = .ok (.bipush 64, 2) := by decide +kernel
theorem d_11_1_31 : decode prog_11_method_1_code 31 = .ok (.newarray .int, 2) := by decide +kernel
theorem d_11_1_33 : decode prog_11_method_1_code 33 = .ok (.putfield 21, 3) := by decide +kernel
theorem d_11_1_36 : decode prog_11_method_1_code 36 = .ok (.aload_n 0, 1) := by decide +kernel
theorem d_11_1_37 : decode prog_11_method_1_code 37 = .ok (.bipush 8, 2) := by decide +kernel
theorem d_11_1_39 : decode prog_11_method_1_code 39 = .ok (.newarray .int, 2) := by decide +kernel
theorem d_11_1_41 : decode prog_11_method_1_code 41 = .ok (.putfield 24, 3) := by decide +kernel
theorem d_11_1_44 : decode prog_11_method_1_code 44 = .ok (.aload_n 0, 1) := by decide +kernel
theorem d_11_1_45 : decode prog_11_method_1_code 45 = .ok (.bipush 64, 2) := by decide +kernel
theorem d_11_1_47 : decode prog_11_method_1_code 47 = .ok (.newarray .int, 2) := by decide +kernel
theorem d_11_1_49 : decode prog_11_method_1_code 49 = .ok (.putfield 27, 3) := by decide +kernel
theorem d_11_1_52 : decode prog_11_method_1_code 52 = .ok (.aload_n 0, 1) := by decide +kernel
theorem d_11_1_53 : decode prog_11_method_1_code 53 = .ok (.bipush 8, 2) := by decide +kernel
theorem d_11_1_55 : decode prog_11_method_1_code 55 = .ok (.newarray .long, 2) := by decide +kernel
theorem d_11_1_57 : decode prog_11_method_1_code 57 = .ok (.putfield 30, 3) := by decide +kernel
theorem d_11_1_60 : decode prog_11_method_1_code 60 = .ok (.aload_n 0, 1) := by decide +kernel
theorem d_11_1_61 : decode prog_11_method_1_code 61 = .ok (.bipush 8, 2) := by decide +kernel
theorem d_11_1_63 : decode prog_11_method_1_code 63 = .ok (.newarray .int, 2) := by decide +kernel
theorem d_11_1_65 : decode prog_11_method_1_code 65 = .ok (.putfield 34, 3) := by decide +kernel
theorem d_11_1_68 : decode prog_11_method_1_code 68 = .ok (.aload_n 0, 1) := by decide +kernel
theorem d_11_1_69 : decode prog_11_method_1_code 69 = .ok (.sipush 256, 3) := by decide +kernel
theorem d_11_1_72 : decode prog_11_method_1_code 72 = .ok (.newarray .long, 2) := by decide +kernel
theorem d_11_1_74 : decode prog_11_method_1_code 74 = .ok (.putfield 37, 3) := by decide +kernel
theorem d_11_1_77 : decode prog_11_method_1_code 77 = .ok (.aload_n 0, 1) := by decide +kernel
theorem d_11_1_78 : decode prog_11_method_1_code 78 = .ok (.aload_n 1, 1) := by decide +kernel
theorem d_11_1_79 : decode prog_11_method_1_code 79 = .ok (.putfield 40, 3) := by decide +kernel
theorem d_11_1_82 : decode prog_11_method_1_code 82 = .ok (.return_, 1) := by decide +kernel
theorem d_11_2_0 : decode prog_11_method_2_code 0 = .ok (.aload_n 0, 1) := by decide +kernel
theorem d_11_2_1 : decode prog_11_method_2_code 1 = .ok (.iload_n 1, 1) := by decide +kernel
theorem d_11_2_2 : decode prog_11_method_2_code 2 = .ok (.putfield 44, 3) := by decide +kernel
theorem d_11_2_5 : decode prog_11_method_2_code 5 = .ok (.aload_n 0, 1) := by decide +kernel
theorem d_11_2_6 : decode prog_11_method_2_code 6 = .ok (.iconst 0, 1) := by decide +kernel
theorem d_11_2_7 : decode prog_11_method_2_code 7 = .ok (.putfield 48, 3) := by decide +kernel
theorem d_11_2_10 : decode prog_11_method_2_code 10 = .ok (.aload_n 0, 1) := by decide +kernel
theorem d_11_2_11 : decode prog_11_method_2_code 11 = .ok (.getfield 9, 3) := by decide +kernel
theorem d_11_2_14 : decode prog_11_method_2_code 14 = .ok (.iconst 0, 1) := by decide +kernel
theorem d_11_2_15 : decode prog_11_method_2_code 15 = .ok (.invokestatic 51, 3) := by decide +kernel
theorem d_11_2_18 : decode prog_11_method_2_code 18 = .ok (.aload_n 0, 1) := by decide +kernel
theorem d_11_2_19 : decode prog_11_method_2_code 19 = .ok (.getfield 15, 3) := by decide +kernel
theorem d_11_2_22 : decode prog_11_method_2_code 22 = .ok (.iconst 0, 1) := by decide +kernel
theorem d_11_2_23 : decode prog_11_method_2_code 23 = .ok (.invokestatic 51, 3) := by decide +kernel
theorem d_11_2_26 : decode prog_11_method_2_code 26 = .ok (.aload_n 0, 1) := by decide +kernel
theorem d_11_2_27 : decode prog_11_method_2_code 27 = .ok (.getfield 18, 3) := by decide +kernel
theorem d_11_2_30 : decode prog_11_method_2_code 30 = .ok (.iconst 0, 1) := by decide +kernel
theorem d_11_2_31 : decode prog_11_method_2_code 31 = .ok (.invokestatic 51, 3) := by decide +kernel
theorem d_11_2_34 : decode prog_11_method_2_code 34 = .ok (.aload_n 0, 1) := by decide +kernel
theorem d_11_2_35 : decode prog_11_method_2_code 35 = .ok (.getfield 21, 3) := by decide +kernel
theorem d_11_2_38 : decode prog_11_method_2_code 38 = .ok (.iconst 0, 1) := by decide +kernel
theorem d_11_2_39 : decode prog_11_method_2_code 39 = .ok (.invokestatic 51, 3) := by decide +kernel
theorem d_11_2_42 : decode prog_11_method_2_code 42 = .ok (.iconst 0, 1) := by decide +kernel
theorem d_11_2_43 : decode prog_11_method_2_code 43 = .ok (.istore_n 2, 1) := by decide +kernel
theorem d_11_2_44 : decode prog_11_method_2_code 44 = .ok (.iload_n 2, 1) := by decide +kernel
theorem d_11_2_45 : decode prog_11_method_2_code 45 = .ok (.aload_n 0, 1) := by decide +kernel
theorem d_11_2_46 : decode prog_11_method_2_code 46 = .ok (.getfield 40, 3) := by decide +kernel
theorem d_11_2_49 : decode prog_11_method_2_code 49 = .ok (.getfield 57, 3) := by decide +kernel
theorem d_11_2_52 : decode prog_11_method_2_code 52 = .ok (.if_icmp .ge 23, 3) := by decide +kernel
theorem d_11_2_75 : decode prog_11_method_2_code 75 = .ok (.return_, 1) := by decide +kernel
theorem d_11_3_0 : decode prog_11_method_3_code 0 = .ok (.iload_n 2, 1) := by decide +kernel
theorem d_11_3_1 : decode prog_11_method_3_code 1 = .ok (.ifCond .ne 4, 3) := by decide +kernel
theorem d_11_3_5 : decode prog_11_method_3_code 5 = .ok (.aload_n 0, 1) := by decide +kernel
theorem d_11_3_6 : decode prog_11_method_3_code 6 = .ok (.getfield 9, 3) := by decide +kernel
theorem d_11_3_9 : decode prog_11_method_3_code 9 = .ok (.iload_n 1, 1) := by decide +kernel
theorem d_11_3_10 : decode prog_11_method_3_code 10 = .ok (.dup2, 1) := by decide +kernel
theorem d_11_3_11 : decode prog_11_method_3_code 11 = .ok (.iaload, 1) := by decide +kernel
theorem d_11_3_12 : decode prog_11_method_3_code 12 = .ok (.iload_n 2, 1) := by decide +kernel
theorem d_11_3_13 : decode prog_11_method_3_code 13 = .ok (.iadd, 1) := by decide +kernel
theorem d_11_3_14 : decode prog_11_method_3_code 14 = .ok (.iastore, 1) := by decide +kernel
theorem d_11_3_15 : decode prog_11_method_3_code 15 = .ok (.aload_n 0, 1) := by decide +kernel
theorem d_11_3_16 : decode prog_11_method_3_code 16 = .ok (.dup, 1) := by decide +kernel
theorem d_11_3_17 : decode prog_11_method_3_code 17 = .ok (.getfield 48, 3) := by decide +kernel
theorem d_11_3_20 : decode prog_11_method_3_code 20 = .ok (.iload_n 2, 1) := by decide +kernel
theorem d_11_3_21 : decode prog_11_method_3_code 21 = .ok (.iadd, 1) := by decide +kernel
theorem d_11_3_22 : decode prog_11_method_3_code 22 = .ok (.putfield 48, 3) := by decide +kernel
theorem d_11_3_25 : decode prog_11_method_3_code 25 = .ok (.aload_n 0, 1) := by decide +kernel
theorem d_11_3_26 : decode prog_11_method_3_code 26 = .ok (.getfield 40, 3) := by decide +kernel
theorem d_11_3_29 : decode prog_11_method_3_code 29 = .ok (.iload_n 1, 1) := by decide +kernel
theorem d_11_3_30 : decode prog_11_method_3_code 30 = .ok (.aload_n 0, 1) := by decide +kernel
theorem d_11_3_31 : decode prog_11_method_3_code 31 = .ok (.getfield 44, 3) := by decide +kernel
theorem d_11_3_34 : decode prog_11_method_3_code 34 = .ok (.invokevirtual 69, 3) := by decide +kernel
theorem d_11_3_37 : decode prog_11_method_3_code 37 = .ok (.istore_n 3, 1) := by decide +kernel
theorem d_11_3_38 : decode prog_11_method_3_code 38 = .ok (.iload_n 3, 1) := by decide +kernel
theorem d_11_3_39 : decode prog_11_method_3_code 39 = .ok (.iconst (-1), 1) := by decide +kernel
theorem d_11_3_40 : decode prog_11_method_3_code 40 = .ok (.if_icmp .eq 13, 3) := by decide +kernel
theorem d_11_3_53 : decode prog_11_method_3_code 53 = .ok (.aload_n 0, 1) := by decide +kernel
theorem d_11_3_54 : decode prog_11_method_3_code 54 = .ok (.getfield 44, 3) := by decide +kernel
theorem d_11_3_57 : decode prog_11_method_3_code 57 = .ok (.istore 4, 2) := by decide +kernel
theorem d_11_3_59 : decode prog_11_method_3_code 59 = .ok (.iconst 0, 1) := by decide +kernel
theorem d_11_3_60 : decode prog_11_method_3_code 60 = .ok (.istore 5, 2) := by decide +kernel
theorem d_11_3_62 : decode prog_11_method_3_code 62 = .ok (.iload 5, 2) := by decide +kernel
theorem d_11_3_64 : decode prog_11_method_3_code 64 = .ok (.aload_n 0, 1) := by decide +kernel
theorem d_11_3_65 : decode prog_11_method_3_code 65 = .ok (.getfield 40, 3) := by decide +kernel
theorem d_11_3_68 : decode prog_11_method_3_code 68 = .ok (.getfield 73, 3) := by decide +kernel
theorem d_11_3_71 : decode prog_11_method_3_code 71 = .ok (.iload_n 1, 1) := by decide +kernel
theorem d_11_3_72 : decode prog_11_method_3_code 72 = .ok (.iaload, 1) := by decide +kernel
theorem d_11_3_73 : decode prog_11_method_3_code 73 = .ok (.if_icmp .ge 46, 3) := by decide +kernel
theorem d_11_3_119 : decode prog_11_method_3_code 119 = .ok (.iconst 0, 1) := by decide +kernel
theorem d_11_3_120 : decode prog_11_method_3_code 120 = .ok (.istore 5, 2) := by decide +kernel
theorem d_11_3_122 : decode prog_11_method_3_code 122 = .ok (.iload 5, 2) := by decide +kernel
theorem d_11_3_124 : decode prog_11_method_3_code 124 = .ok (.aload_n 0, 1) := by decide +kernel
theorem d_11_3_125 : decode prog_11_method_3_code 125 = .ok (.getfield 40, 3) := by decide +kernel
theorem d_11_3_128 : decode prog_11_method_3_code 128 = .ok (.getfield 84, 3) := by decide +kernel
theorem d_11_3_131 : decode prog_11_method_3_code 131 = .ok (.if_icmp .ge 42, 3) := by decide +kernel
theorem d_11_3_173 : decode prog_11_method_3_code 173 = .ok (.return_, 1) := by decide +kernel
theorem d_11_8_0 : decode prog_11_method_8_code 0 = .ok (.aload_n 0, 1) := by decide +kernel
theorem d_11_8_1 : decode prog_11_method_8_code 1 = .ok (.getfield 24, 3) := by decide +kernel
theorem d_11_8_4 : decode prog_11_method_8_code 4 = .ok (.iconst 0, 1) := by decide +kernel
theorem d_11_8_5 : decode prog_11_method_8_code 5 = .ok (.invokestatic 51, 3) := by decide +kernel
theorem d_11_8_8 : decode prog_11_method_8_code 8 = .ok (.iconst 0, 1) := by decide +kernel
theorem d_11_8_9 : decode prog_11_method_8_code 9 = .ok (.istore_n 1, 1) := by decide +kernel
theorem d_11_8_10 : decode prog_11_method_8_code 10 = .ok (.iload_n 1, 1) := by decide +kernel
theorem d_11_8_11 : decode prog_11_method_8_code 11 = .ok (.aload_n 0, 1) := by decide +kernel
theorem d_11_8_12 : decode prog_11_method_8_code 12 = .ok (.getfield 40, 3) := by decide +kernel
theorem d_11_8_15 : decode prog_11_method_8_code 15 = .ok (.getfield 84, 3) := by decide +kernel
theorem d_11_8_18 : decode prog_11_method_8_code 18 = .ok (.if_icmp .ge 49, 3) := by decide +kernel
