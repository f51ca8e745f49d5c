/-! decode rows -/
theorem d246_0 : decode method_3_code 0 = .ok (.aload 7, 2) := by decide +kernel
theorem d246_2 : decode method_3_code 2 = .ok (.iconst 0, 1) := by decide +kernel
theorem d246_3 : decode method_3_code 3 = .ok (.aload_n 0, 1) := by decide +kernel
theorem d246_4 : decode method_3_code 4 = .ok (.iload_n 1, 1) := by decide +kernel
theorem d246_5 : decode method_3_code 5 = .ok (.iload_n 2, 1) := by decide +kernel
theorem d246_6 : decode method_3_code 6 = .ok (.iload_n 3, 1) := by decide +kernel
theorem d246_7 : decode method_3_code 7 = .ok (.iload 4, 2) := by decide +kernel
theorem d246_9 : decode method_3_code 9 = .ok (.iload 5, 2) := by decide +kernel
theorem d246_11 : decode method_3_code 11 = .ok (.iload 6, 2) := by decide +kernel
theorem d246_13 : decode method_3_code 13 = .ok (.invokevirtual 7, 3) := by decide +kernel
theorem d246_16 : decode method_3_code 16 = .ok (.i2l, 1) := by decide +kernel
theorem d246_17 : decode method_3_code 17 = .ok (.lastore, 1) := by decide +kernel
theorem d246_18 : decode method_3_code 18 = .ok (.goto 11, 3) := by decide +kernel
theorem d246_21 : decode method_3_code 21 = .ok (.astore 8, 2) := by decide +kernel
theorem d246_23 : decode method_3_code 23 = .ok (.iconst 1, 1) := by decide +kernel
theorem d246_24 : decode method_3_code 24 = .ok (.ireturn, 1) := by decide +kernel
theorem d246_25 : decode method_3_code 25 = .ok (.astore 8, 2) := by decide +kernel
theorem d246_27 : decode method_3_code 27 = .ok (.iconst 2, 1) := by decide +kernel
theorem d246_28 : decode method_3_code 28 = .ok (.ireturn, 1) := by decide +kernel
theorem d246_29 : decode method_3_code 29 = .ok (.iconst 0, 1) := by decide +kernel
theorem d246_30 : decode method_3_code 30 = .ok (.ireturn, 1) := by decide +kernel
theorem d247_0 : decode method_4_code 0 = .ok (.aload_n 2, 1) := by decide +kernel
theorem d247_1 : decode method_4_code 1 = .ok (.iconst 0, 1) := by decide +kernel
theorem d247_2 : decode method_4_code 2 = .ok (.aload_n 0, 1) := by decide +kernel
theorem d247_3 : decode method_4_code 3 = .ok (.iload_n 1, 1) := by decide +kernel
theorem d247_4 : decode method_4_code 4 = .ok (.invokevirtual 17, 3) := by decide +kernel
theorem d247_7 : decode method_4_code 7 = .ok (.i2l, 1) := by decide +kernel
theorem d247_8 : decode method_4_code 8 = .ok (.lastore, 1) := by decide +kernel
theorem d247_9 : decode method_4_code 9 = .ok (.goto 6, 3) := by decide +kernel
theorem d247_12 : decode method_4_code 12 = .ok (.astore_n 3, 1) := by decide +kernel
theorem d247_13 : decode method_4_code 13 = .ok (.iconst 1, 1) := by decide +kernel
theorem d247_14 : decode method_4_code 14 = .ok (.ireturn, 1) := by decide +kernel
theorem d247_15 : decode method_4_code 15 = .ok (.iconst 0, 1) := by decide +kernel
theorem d247_16 : decode method_4_code 16 = .ok (.ireturn, 1) := by decide +kernel
theorem d248_0 : decode method_5_code 0 = .ok (.aload_n 3, 1) := by decide +kernel
theorem d248_1 : decode method_5_code 1 = .ok (.iconst 0, 1) := by decide +kernel
theorem d248_2 : decode method_5_code 2 = .ok (.aload_n 0, 1) := by decide +kernel
theorem d248_3 : decode method_5_code 3 = .ok (.iload_n 1, 1) := by decide +kernel
theorem d248_4 : decode method_5_code 4 = .ok (.iload_n 2, 1) := by decide +kernel
theorem d248_5 : decode method_5_code 5 = .ok (.invokevirtual 23, 3) := by decide +kernel
theorem d248_8 : decode method_5_code 8 = .ok (.i2l, 1) := by decide +kernel
theorem d248_9 : decode method_5_code 9 = .ok (.lastore, 1) := by decide +kernel
theorem d248_10 : decode method_5_code 10 = .ok (.goto 15, 3) := by decide +kernel
theorem d248_13 : decode method_5_code 13 = .ok (.astore 4, 2) := by decide +kernel
theorem d248_15 : decode method_5_code 15 = .ok (.iconst 1, 1) := by decide +kernel
theorem d248_16 : decode method_5_code 16 = .ok (.ireturn, 1) := by decide +kernel
theorem d248_17 : decode method_5_code 17 = .ok (.astore 4, 2) := by decide +kernel
theorem d248_19 : decode method_5_code 19 = .ok (.iconst 2, 1) := by decide +kernel
theorem d248_20 : decode method_5_code 20 = .ok (.ireturn, 1) := by decide +kernel
theorem d248_21 : decode method_5_code 21 = .ok (.astore 4, 2) := by decide +kernel
theorem d248_23 : decode method_5_code 23 = .ok (.iconst 3, 1) := by decide +kernel
theorem d248_24 : decode method_5_code 24 = .ok (.ireturn, 1) := by decide +kernel
theorem d248_25 : decode method_5_code 25 = .ok (.iconst 0, 1) := by decide +kernel
theorem d248_26 : decode method_5_code 26 = .ok (.ireturn, 1) := by decide +kernel
theorem d249_0 : decode method_6_code 0 = .ok (.aload_n 2, 1) := by decide +kernel
theorem d249_1 : decode method_6_code 1 = .ok (.iconst 0, 1) := by decide +kernel
theorem d249_2 : decode method_6_code 2 = .ok (.aload_n 0, 1) := by decide +kernel
theorem d249_3 : decode method_6_code 3 = .ok (.iload_n 1, 1) := by decide +kernel
theorem d249_4 : decode method_6_code 4 = .ok (.invokevirtual 29, 3) := by decide +kernel
theorem d249_7 : decode method_6_code 7 = .ok (.i2l, 1) := by decide +kernel
theorem d249_8 : decode method_6_code 8 = .ok (.lastore, 1) := by decide +kernel
theorem d249_9 : decode method_6_code 9 = .ok (.goto 9, 3) := by decide +kernel
theorem d249_12 : decode method_6_code 12 = .ok (.astore_n 3, 1) := by decide +kernel
theorem d249_13 : decode method_6_code 13 = .ok (.iconst 1, 1) := by decide +kernel
theorem d249_14 : decode method_6_code 14 = .ok (.ireturn, 1) := by decide +kernel
theorem d249_15 : decode method_6_code 15 = .ok (.astore_n 3, 1) := by decide +kernel
theorem d249_16 : decode method_6_code 16 = .ok (.iconst 2, 1) := by decide +kernel
theorem d249_17 : decode method_6_code 17 = .ok (.ireturn, 1) := by decide +kernel
theorem d249_18 : decode method_6_code 18 = .ok (.iconst 0, 1) := by decide +kernel
theorem d249_19 : decode method_6_code 19 = .ok (.ireturn, 1) := by decide +kernel
theorem d250_0 : decode method_7_code 0 = .ok (.aload_n 3, 1) := by decide +kernel
theorem d250_1 : decode method_7_code 1 = .ok (.iconst 0, 1) := by decide +kernel
theorem d250_2 : decode method_7_code 2 = .ok (.aload_n 0, 1) := by decide +kernel
theorem d250_3 : decode method_7_code 3 = .ok (.iload_n 1, 1) := by decide +kernel
theorem d250_4 : decode method_7_code 4 = .ok (.iload_n 2, 1) := by decide +kernel
theorem d250_5 : decode method_7_code 5 = .ok (.invokevirtual 32, 3) := by decide +kernel
theorem d250_8 : decode method_7_code 8 = .ok (.i2l, 1) := by decide +kernel
theorem d250_9 : decode method_7_code 9 = .ok (.lastore, 1) := by decide +kernel
theorem d250_10 : decode method_7_code 10 = .ok (.goto 11, 3) := by decide +kernel
theorem d250_13 : decode method_7_code 13 = .ok (.astore 4, 2) := by decide +kernel
theorem d250_15 : decode method_7_code 15 = .ok (.iconst 1, 1) := by decide +kernel
theorem d250_16 : decode method_7_code 16 = .ok (.ireturn, 1) := by decide +kernel
theorem d250_17 : decode method_7_code 17 = .ok (.astore 4, 2) := by decide +kernel
theorem d250_19 : decode method_7_code 19 = .ok (.iconst 2, 1) := by decide +kernel
theorem d250_20 : decode method_7_code 20 = .ok (.ireturn, 1) := by decide +kernel
theorem d250_21 : decode method_7_code 21 = .ok (.iconst 0, 1) := by decide +kernel
theorem d250_22 : decode method_7_code 22 = .ok (.ireturn, 1) := by decide +kernel
theorem d251_0 : decode method_8_code 0 = .ok (.aload 4, 2) := by decide +kernel
theorem d251_2 : decode method_8_code 2 = .ok (.iconst 0, 1) := by decide +kernel
theorem d251_3 : decode method_8_code 3 = .ok (.aload_n 0, 1) := by decide +kernel
theorem d251_4 : decode method_8_code 4 = .ok (.iload_n 1, 1) := by decide +kernel
theorem d251_5 : decode method_8_code 5 = .ok (.iload_n 2, 1) := by decide +kernel
theorem d251_6 : decode method_8_code 6 = .ok (.iload_n 3, 1) := by decide +kernel
theorem d251_7 : decode method_8_code 7 = .ok (.invokevirtual 36, 3) := by decide +kernel
theorem d251_10 : decode method_8_code 10 = .ok (.i2l, 1) := by decide +kernel
theorem d251_11 : decode method_8_code 11 = .ok (.lastore, 1) := by decide +kernel
theorem d251_12 : decode method_8_code 12 = .ok (.goto 19, 3) := by decide +kernel
theorem d251_15 : decode method_8_code 15 = .ok (.astore 5, 2) := by decide +kernel
theorem d251_17 : decode method_8_code 17 = .ok (.iconst 1, 1) := by decide +kernel
theorem d251_18 : decode method_8_code 18 = .ok (.ireturn, 1) := by decide +kernel
theorem d251_19 : decode method_8_code 19 = .ok (.astore 5, 2) := by decide +kernel
theorem d251_21 : decode method_8_code 21 = .ok (.iconst 2, 1) := by decide +kernel
theorem d251_22 : decode method_8_code 22 = .ok (.ireturn, 1) := by decide +kernel
theorem d251_23 : decode method_8_code 23 = .ok (.astore 5, 2) := by decide +kernel
theorem d251_25 : decode method_8_code 25 = .ok (.iconst 3, 1) := by decide +kernel
theorem d251_26 : decode method_8_code 26 = .ok (.ireturn, 1) := by decide +kernel
theorem d251_27 : decode method_8_code 27 = .ok (.astore 5, 2) := by decide +kernel
theorem d251_29 : decode method_8_code 29 = .ok (.iconst 4, 1) := by decide +kernel
theorem d251_30 : decode method_8_code 30 = .ok (.ireturn, 1) := by decide +kernel
theorem d251_31 : decode method_8_code 31 = .ok (.iconst 0, 1) := by decide +kernel
theorem d251_32 : decode method_8_code 32 = .ok (.ireturn, 1) := by decide +kernel
theorem d252_0 : decode method_9_code 0 = .ok (.aload_n 3, 1) := by decide +kernel
theorem d252_1 : decode method_9_code 1 = .ok (.iconst 0, 1) := by decide +kernel
theorem d252_2 : decode method_9_code 2 = .ok (.aload_n 0, 1) := by decide +kernel
theorem d252_3 : decode method_9_code 3 = .ok (.iload_n 1, 1) := by decide +kernel
theorem d252_4 : decode method_9_code 4 = .ok (.iload_n 2, 1) := by decide +kernel
theorem d252_5 : decode method_9_code 5 = .ok (.invokevirtual 42, 3) := by decide +kernel
theorem d252_8 : decode method_9_code 8 = .ok (.i2l, 1) := by decide +kernel
theorem d252_9 : decode method_9_code 9 = .ok (.lastore, 1) := by decide +kernel
theorem d252_10 : decode method_9_code 10 = .ok (.goto 11, 3) := by decide +kernel
theorem d252_13 : decode method_9_code 13 = .ok (.astore 4, 2) := by decide +kernel
theorem d252_15 : decode method_9_code 15 = .ok (.iconst 1, 1) := by decide +kernel
theorem d252_16 : decode method_9_code 16 = .ok (.ireturn, 1) := by decide +kernel
theorem d252_17 : decode method_9_code 17 = .ok (.astore 4, 2) := by decide +kernel
theorem d252_19 : decode method_9_code 19 = .ok (.iconst 2, 1) := by decide +kernel
theorem d252_20 : decode method_9_code 20 = .ok (.ireturn, 1) := by decide +kernel
theorem d252_21 : decode method_9_code 21 = .ok (.iconst 0, 1) := by decide +kernel
theorem d252_22 : decode method_9_code 22 = .ok (.ireturn, 1) := by decide +kernel
theorem d253_0 : decode method_10_code 0 = .ok (.aload_n 3, 1) := by decide +kernel
theorem d253_1 : decode method_10_code 1 = .ok (.iconst 0, 1) := by decide +kernel
theorem d253_2 : decode method_10_code 2 = .ok (.aload_n 0, 1) := by decide +kernel
theorem d253_3 : decode method_10_code 3 = .ok (.iload_n 1, 1) := by decide +kernel
theorem d253_4 : decode method_10_code 4 = .ok (.iload_n 2, 1) := by decide +kernel
theorem d253_5 : decode method_10_code 5 = .ok (.invokevirtual 45, 3) := by decide +kernel
theorem d253_8 : decode method_10_code 8 = .ok (.i2l, 1) := by decide +kernel
theorem d253_9 : decode method_10_code 9 = .ok (.lastore, 1) := by decide +kernel
theorem d253_10 : decode method_10_code 10 = .ok (.goto 11, 3) := by decide +kernel
theorem d253_13 : decode method_10_code 13 = .ok (.astore 4, 2) := by decide +kernel
theorem d253_15 : decode method_10_code 15 = .ok (.iconst 1, 1) := by decide +kernel
theorem d253_16 : decode method_10_code 16 = .ok (.ireturn, 1) := by decide +kernel
theorem d253_17 : decode method_10_code 17 = .ok (.astore 4, 2) := by decide +kernel
theorem d253_19 : decode method_10_code 19 = .ok (.iconst 2, 1) := by decide +kernel
theorem d253_20 : decode method_10_code 20 = .ok (.ireturn, 1) := by decide +kernel
theorem d253_21 : decode method_10_code 21 = .ok (.iconst 0, 1) := by decide +kernel
theorem d253_22 : decode method_10_code 22 = .ok (.ireturn, 1) := by decide +kernel
theorem d254_0 : decode method_11_code 0 = .ok (.aload_n 3, 1) := by decide +kernel
theorem d254_1 : decode method_11_code 1 = .ok (.iconst 0, 1) := by decide +kernel
theorem d254_2 : decode method_11_code 2 = .ok (.aload_n 0, 1) := by decide +kernel
theorem d254_3 : decode method_11_code 3 = .ok (.iload_n 1, 1) := by decide +kernel
theorem d254_4 : decode method_11_code 4 = .ok (.iload_n 2, 1) := by decide +kernel
theorem d254_5 : decode method_11_code 5 = .ok (.invokevirtual 48, 3) := by decide +kernel
theorem d254_8 : decode method_11_code 8 = .ok (.i2l, 1) := by decide +kernel
theorem d254_9 : decode method_11_code 9 = .ok (.lastore, 1) := by decide +kernel
theorem d254_10 : decode method_11_code 10 = .ok (.goto 19, 3) := by decide +kernel
theorem d254_13 : decode method_11_code 13 = .ok (.astore 4, 2) := by decide +kernel
theorem d254_15 : decode method_11_code 15 = .ok (.iconst 1, 1) := by decide +kernel
theorem d254_16 : decode method_11_code 16 = .ok (.ireturn, 1) := by decide +kernel
theorem d254_17 : decode method_11_code 17 = .ok (.astore 4, 2) := by decide +kernel
theorem d254_19 : decode method_11_code 19 = .ok (.iconst 2, 1) := by decide +kernel
theorem d254_20 : decode method_11_code 20 = .ok (.ireturn, 1) := by decide +kernel
theorem d254_21 : decode method_11_code 21 = .ok (.astore 4, 2) := by decide +kernel
theorem d254_23 : decode method_11_code 23 = .ok (.iconst 3, 1) := by decide +kernel
theorem d254_24 : decode method_11_code 24 = .ok (.ireturn, 1) := by decide +kernel
theorem d254_25 : decode method_11_code 25 = .ok (.astore 4, 2) := by decide +kernel
theorem d254_27 : decode method_11_code 27 = .ok (.iconst 4, 1) := by decide +kernel
theorem d254_28 : decode method_11_code 28 = .ok (.ireturn, 1) := by decide +kernel
theorem d254_29 : decode method_11_code 29 = .ok (.iconst 0, 1) := by decide +kernel
theorem d254_30 : decode method_11_code 30 = .ok (.ireturn, 1) := by decide +kernel
theorem d255_0 : decode method_12_code 0 = .ok (.aload_n 2, 1) := by decide +kernel
theorem d255_1 : decode method_12_code 1 = .ok (.iconst 0, 1) := by decide +kernel
theorem d255_2 : decode method_12_code 2 = .ok (.aload_n 0, 1) := by decide +kernel
theorem d255_3 : decode method_12_code 3 = .ok (.iload_n 1, 1) := by decide +kernel
theorem d255_4 : decode method_12_code 4 = .ok (.invokevirtual 51, 3) := by decide +kernel
theorem d255_7 : decode method_12_code 7 = .ok (.i2l, 1) := by decide +kernel
theorem d255_8 : decode method_12_code 8 = .ok (.lastore, 1) := by decide +kernel
theorem d255_9 : decode method_12_code 9 = .ok (.goto 6, 3) := by decide +kernel
theorem d255_12 : decode method_12_code 12 = .ok (.astore_n 3, 1) := by decide +kernel
theorem d255_13 : decode method_12_code 13 = .ok (.iconst 1, 1) := by decide +kernel
theorem d255_14 : decode method_12_code 14 = .ok (.ireturn, 1) := by decide +kernel
theorem d255_15 : decode method_12_code 15 = .ok (.iconst 0, 1) := by decide +kernel
theorem d255_16 : decode method_12_code 16 = .ok (.ireturn, 1) := by decide +kernel
theorem d256_0 : decode method_13_code 0 = .ok (.aload_n 3, 1) := by decide +kernel
theorem d256_1 : decode method_13_code 1 = .ok (.iconst 0, 1) := by decide +kernel
theorem d256_2 : decode method_13_code 2 = .ok (.aload_n 0, 1) := by decide +kernel
theorem d256_3 : decode method_13_code 3 = .ok (.iload_n 1, 1) := by decide +kernel
theorem d256_4 : decode method_13_code 4 = .ok (.iload_n 2, 1) := by decide +kernel
theorem d256_5 : decode method_13_code 5 = .ok (.invokevirtual 54, 3) := by decide +kernel
theorem d256_8 : decode method_13_code 8 = .ok (.i2l, 1) := by decide +kernel
theorem d256_9 : decode method_13_code 9 = .ok (.lastore, 1) := by decide +kernel
theorem d256_10 : decode method_13_code 10 = .ok (.goto 11, 3) := by decide +kernel
theorem d256_13 : decode method_13_code 13 = .ok (.astore 4, 2) := by decide +kernel
theorem d256_15 : decode method_13_code 15 = .ok (.iconst 1, 1) := by decide +kernel
theorem d256_16 : decode method_13_code 16 = .ok (.ireturn, 1) := by decide +kernel
theorem d256_17 : decode method_13_code 17 = .ok (.astore 4, 2) := by decide +kernel
theorem d256_19 : decode method_13_code 19 = .ok (.iconst 2, 1) := by decide +kernel
theorem d256_20 : decode method_13_code 20 = .ok (.ireturn, 1) := by decide +kernel
theorem d256_21 : decode method_13_code 21 = .ok (.iconst 0, 1) := by decide +kernel
theorem d256_22 : decode method_13_code 22 = .ok (.ireturn, 1) := by decide +kernel
theorem d257_0 : decode method_14_code 0 = .ok (.aload_n 2, 1) := by decide +kernel
theorem d257_1 : decode method_14_code 1 = .ok (.iconst 0, 1) := by decide +kernel
theorem d257_2 : decode method_14_code 2 = .ok (.aload_n 0, 1) := by decide +kernel
theorem d257_3 : decode method_14_code 3 = .ok (.iload_n 1, 1) := by decide +kernel
theorem d257_4 : decode method_14_code 4 = .ok (.invokevirtual 57, 3) := by decide +kernel
theorem d257_7 : decode method_14_code 7 = .ok (.i2l, 1) := by decide +kernel
theorem d257_8 : decode method_14_code 8 = .ok (.lastore, 1) := by decide +kernel
theorem d257_9 : decode method_14_code 9 = .ok (.goto 6, 3) := by decide +kernel
theorem d257_12 : decode method_14_code 12 = .ok (.astore_n 3, 1) := by decide +kernel
theorem d257_13 : decode method_14_code 13 = .ok (.iconst 1, 1) := by decide +kernel
theorem d257_14 : decode method_14_code 14 = .ok (.ireturn, 1) := by decide +kernel
theorem d257_15 : decode method_14_code 15 = .ok (.iconst 0, 1) := by decide +kernel
theorem d257_16 : decode method_14_code 16 = .ok (.ireturn, 1) := by decide +kernel
theorem d258_0 : decode method_15_code 0 = .ok (.aload_n 2, 1) := by decide +kernel
theorem d258_1 : decode method_15_code 1 = .ok (.iconst 0, 1) := by decide +kernel
theorem d258_2 : decode method_15_code 2 = .ok (.aload_n 0, 1) := by decide +kernel
theorem d258_3 : decode method_15_code 3 = .ok (.iload_n 1, 1) := by decide +kernel
theorem d258_4 : decode method_15_code 4 = .ok (.invokevirtual 61, 3) := by decide +kernel
theorem d258_7 : decode method_15_code 7 = .ok (.i2l, 1) := by decide +kernel
theorem d258_8 : decode method_15_code 8 = .ok (.lastore, 1) := by decide +kernel
theorem d258_9 : decode method_15_code 9 = .ok (.goto 6, 3) := by decide +kernel
theorem d258_12 : decode method_15_code 12 = .ok (.astore_n 3, 1) := by decide +kernel
theorem d258_13 : decode method_15_code 13 = .ok (.iconst 1, 1) := by decide +kernel
theorem d258_14 : decode method_15_code 14 = .ok (.ireturn, 1) := by decide +kernel
theorem d258_15 : decode method_15_code 15 = .ok (.iconst 0, 1) := by decide +kernel
theorem d258_16 : decode method_15_code 16 = .ok (.ireturn, 1) := by decide +kernel
theorem d259_0 : decode method_16_code 0 = .ok (.aload_n 2, 1) := by decide +kernel
theorem d259_1 : decode method_16_code 1 = .ok (.iconst 0, 1) := by decide +kernel
theorem d259_2 : decode method_16_code 2 = .ok (.aload_n 0, 1) := by decide +kernel
theorem d259_3 : decode method_16_code 3 = .ok (.iload_n 1, 1) := by decide +kernel
theorem d259_4 : decode method_16_code 4 = .ok (.invokevirtual 64, 3) := by decide +kernel
theorem d259_7 : decode method_16_code 7 = .ok (.i2l, 1) := by decide +kernel
theorem d259_8 : decode method_16_code 8 = .ok (.lastore, 1) := by decide +kernel
theorem d259_9 : decode method_16_code 9 = .ok (.goto 6, 3) := by decide +kernel
theorem d259_12 : decode method_16_code 12 = .ok (.astore_n 3, 1) := by decide +kernel
theorem d259_13 : decode method_16_code 13 = .ok (.iconst 1, 1) := by decide +kernel
theorem d259_14 : decode method_16_code 14 = .ok (.ireturn, 1) := by decide +kernel
theorem d259_15 : decode method_16_code 15 = .ok (.iconst 0, 1) := by decide +kernel
theorem d259_16 : decode method_16_code 16 = .ok (.ireturn, 1) := by decide +kernel
theorem d260_0 : decode method_17_code 0 = .ok (.aload_n 2, 1) := by decide +kernel
theorem d260_1 : decode method_17_code 1 = .ok (.iconst 0, 1) := by decide +kernel
theorem d260_2 : decode method_17_code 2 = .ok (.aload_n 0, 1) := by decide +kernel
theorem d260_3 : decode method_17_code 3 = .ok (.iload_n 1, 1) := by decide +kernel
theorem d260_4 : decode method_17_code 4 = .ok (.invokevirtual 67, 3) := by decide +kernel
theorem d260_7 : decode method_17_code 7 = .ok (.i2l, 1) := by decide +kernel
theorem d260_8 : decode method_17_code 8 = .ok (.lastore, 1) := by decide +kernel
theorem d260_9 : decode method_17_code 9 = .ok (.goto 6, 3) := by decide +kernel
theorem d260_12 : decode method_17_code 12 = .ok (.astore_n 3, 1) := by decide +kernel
theorem d260_13 : decode method_17_code 13 = .ok (.iconst 1, 1) := by decide +kernel
theorem d260_14 : decode method_17_code 14 = .ok (.ireturn, 1) := by decide +kernel
theorem d260_15 : decode method_17_code 15 = .ok (.iconst 0, 1) := by decide +kernel
theorem d260_16 : decode method_17_code 16 = .ok (.ireturn, 1) := by decide +kernel
theorem d261_0 : decode method_18_code 0 = .ok (.aload_n 2, 1) := by decide +kernel
theorem d261_1 : decode method_18_code 1 = .ok (.iconst 0, 1) := by decide +kernel
theorem d261_2 : decode method_18_code 2 = .ok (.aload_n 0, 1) := by decide +kernel
theorem d261_3 : decode method_18_code 3 = .ok (.iload_n 1, 1) := by decide +kernel
theorem d261_4 : decode method_18_code 4 = .ok (.invokevirtual 70, 3) := by decide +kernel
theorem d261_7 : decode method_18_code 7 = .ok (.i2l, 1) := by decide +kernel
theorem d261_8 : decode method_18_code 8 = .ok (.lastore, 1) := by decide +kernel
theorem d261_9 : decode method_18_code 9 = .ok (.goto 6, 3) := by decide +kernel
theorem d261_12 : decode method_18_code 12 = .ok (.astore_n 3, 1) := by decide +kernel
theorem d261_13 : decode method_18_code 13 = .ok (.iconst 1, 1) := by decide +kernel
theorem d261_14 : decode method_18_code 14 = .ok (.ireturn, 1) := by decide +kernel
theorem d261_15 : decode method_18_code 15 = .ok (.iconst 0, 1) := by decide +kernel
theorem d261_16 : decode method_18_code 16 = .ok (.ireturn, 1) := by decide +kernel
theorem d262_0 : decode method_19_code 0 = .ok (.aload_n 2, 1) := by decide +kernel
theorem d262_1 : decode method_19_code 1 = .ok (.iconst 0, 1) := by decide +kernel
theorem d262_2 : decode method_19_code 2 = .ok (.aload_n 0, 1) := by decide +kernel
theorem d262_3 : decode method_19_code 3 = .ok (.iload_n 1, 1) := by decide +kernel
theorem d262_4 : decode method_19_code 4 = .ok (.invokevirtual 73, 3) := by decide +kernel
theorem d262_7 : decode method_19_code 7 = .ok (.i2l, 1) := by decide +kernel
theorem d262_8 : decode method_19_code 8 = .ok (.lastore, 1) := by decide +kernel
theorem d262_9 : decode method_19_code 9 = .ok (.goto 6, 3) := by decide +kernel
theorem d262_12 : decode method_19_code 12 = .ok (.astore_n 3, 1) := by decide +kernel
theorem d262_13 : decode method_19_code 13 = .ok (.iconst 1, 1) := by decide +kernel
theorem d262_14 : decode method_19_code 14 = .ok (.ireturn, 1) := by decide +kernel
theorem d262_15 : decode method_19_code 15 = .ok (.iconst 0, 1) := by decide +kernel
theorem d262_16 : decode method_19_code 16 = .ok (.ireturn, 1) := by decide +kernel
theorem d263_0 : decode method_20_code 0 = .ok (.aload_n 3, 1) := by decide +kernel
theorem d263_1 : decode method_20_code 1 = .ok (.iconst 0, 1) := by decide +kernel
theorem d263_2 : decode method_20_code 2 = .ok (.aload_n 0, 1) := by decide +kernel
theorem d263_3 : decode method_20_code 3 = .ok (.iload_n 1, 1) := by decide +kernel
theorem d263_4 : decode method_20_code 4 = .ok (.iload_n 2, 1) := by decide +kernel
theorem d263_5 : decode method_20_code 5 = .ok (.invokevirtual 77, 3) := by decide +kernel
theorem d263_8 : decode method_20_code 8 = .ok (.i2l, 1) := by decide +kernel
theorem d263_9 : decode method_20_code 9 = .ok (.lastore, 1) := by decide +kernel
theorem d263_10 : decode method_20_code 10 = .ok (.goto 11, 3) := by decide +kernel
theorem d263_13 : decode method_20_code 13 = .ok (.astore 4, 2) := by decide +kernel
theorem d263_15 : decode method_20_code 15 = .ok (.iconst 1, 1) := by decide +kernel
theorem d263_16 : decode method_20_code 16 = .ok (.ireturn, 1) := by decide +kernel
theorem d263_17 : decode method_20_code 17 = .ok (.astore 4, 2) := by decide +kernel
theorem d263_19 : decode method_20_code 19 = .ok (.iconst 2, 1) := by decide +kernel
theorem d263_20 : decode method_20_code 20 = .ok (.ireturn, 1) := by decide +kernel
theorem d263_21 : decode method_20_code 21 = .ok (.iconst 0, 1) := by decide +kernel
theorem d263_22 : decode method_20_code 22 = .ok (.ireturn, 1) := by decide +kernel
theorem d264_0 : decode method_21_code 0 = .ok (.aload_n 2, 1) := by decide +kernel
theorem d264_1 : decode method_21_code 1 = .ok (.iconst 0, 1) := by decide +kernel
theorem d264_2 : decode method_21_code 2 = .ok (.aload_n 0, 1) := by decide +kernel
theorem d264_3 : decode method_21_code 3 = .ok (.iload_n 1, 1) := by decide +kernel
theorem d264_4 : decode method_21_code 4 = .ok (.invokevirtual 81, 3) := by decide +kernel
theorem d264_7 : decode method_21_code 7 = .ok (.i2l, 1) := by decide +kernel
theorem d264_8 : decode method_21_code 8 = .ok (.lastore, 1) := by decide +kernel
theorem d264_9 : decode method_21_code 9 = .ok (.goto 6, 3) := by decide +kernel
theorem d264_12 : decode method_21_code 12 = .ok (.astore_n 3, 1) := by decide +kernel
theorem d264_13 : decode method_21_code 13 = .ok (.iconst 1, 1) := by decide +kernel
theorem d264_14 : decode method_21_code 14 = .ok (.ireturn, 1) := by decide +kernel
theorem d264_15 : decode method_21_code 15 = .ok (.iconst 0, 1) := by decide +kernel
theorem d264_16 : decode method_21_code 16 = .ok (.ireturn, 1) := by decide +kernel
theorem d265_0 : decode method_22_code 0 = .ok (.aload_n 2, 1) := by decide +kernel
theorem d265_1 : decode method_22_code 1 = .ok (.iconst 0, 1) := by decide +kernel
theorem d265_2 : decode method_22_code 2 = .ok (.aload_n 0, 1) := by decide +kernel
theorem d265_3 : decode method_22_code 3 = .ok (.iload_n 1, 1) := by decide +kernel
theorem d265_4 : decode method_22_code 4 = .ok (.invokevirtual 84, 3) := by decide +kernel
theorem d265_7 : decode method_22_code 7 = .ok (.i2l, 1) := by decide +kernel
theorem d265_8 : decode method_22_code 8 = .ok (.lastore, 1) := by decide +kernel
theorem d265_9 : decode method_22_code 9 = .ok (.goto 9, 3) := by decide +kernel
theorem d265_12 : decode method_22_code 12 = .ok (.astore_n 3, 1) := by decide +kernel
theorem d265_13 : decode method_22_code 13 = .ok (.iconst 1, 1) := by decide +kernel
theorem d265_14 : decode method_22_code 14 = .ok (.ireturn, 1) := by decide +kernel
theorem d265_15 : decode method_22_code 15 = .ok (.astore_n 3, 1) := by decide +kernel
theorem d265_16 : decode method_22_code 16 = .ok (.iconst 2, 1) := by decide +kernel
theorem d265_17 : decode method_22_code 17 = .ok (.ireturn, 1) := by decide +kernel
theorem d265_18 : decode method_22_code 18 = .ok (.iconst 0, 1) := by decide +kernel
theorem d265_19 : decode method_22_code 19 = .ok (.ireturn, 1) := by decide +kernel
theorem d266_0 : decode method_23_code 0 = .ok (.aload_n 2, 1) := by decide +kernel
theorem d266_1 : decode method_23_code 1 = .ok (.iconst 0, 1) := by decide +kernel
theorem d266_2 : decode method_23_code 2 = .ok (.aload_n 0, 1) := by decide +kernel
theorem d266_3 : decode method_23_code 3 = .ok (.iload_n 1, 1) := by decide +kernel
theorem d266_4 : decode method_23_code 4 = .ok (.invokevirtual 87, 3) := by decide +kernel
theorem d266_7 : decode method_23_code 7 = .ok (.i2l, 1) := by decide +kernel
theorem d266_8 : decode method_23_code 8 = .ok (.lastore, 1) := by decide +kernel
theorem d266_9 : decode method_23_code 9 = .ok (.goto 6, 3) := by decide +kernel
theorem d266_12 : decode method_23_code 12 = .ok (.astore_n 3, 1) := by decide +kernel
theorem d266_13 : decode method_23_code 13 = .ok (.iconst 1, 1) := by decide +kernel
theorem d266_14 : decode method_23_code 14 = .ok (.ireturn, 1) := by decide +kernel
theorem d266_15 : decode method_23_code 15 = .ok (.iconst 0, 1) := by decide +kernel
theorem d266_16 : decode method_23_code 16 = .ok (.ireturn, 1) := by decide +kernel
theorem d267_0 : decode method_24_code 0 = .ok (.aload_n 2, 1) := by decide +kernel
theorem d267_1 : decode method_24_code 1 = .ok (.iconst 0, 1) := by decide +kernel
theorem d267_2 : decode method_24_code 2 = .ok (.aload_n 0, 1) := by decide +kernel
theorem d267_3 : decode method_24_code 3 = .ok (.iload_n 1, 1) := by decide +kernel
theorem d267_4 : decode method_24_code 4 = .ok (.invokevirtual 90, 3) := by decide +kernel
theorem d267_7 : decode method_24_code 7 = .ok (.i2l, 1) := by decide +kernel
theorem d267_8 : decode method_24_code 8 = .ok (.lastore, 1) := by decide +kernel
theorem d267_9 : decode method_24_code 9 = .ok (.goto 6, 3) := by decide +kernel
theorem d267_12 : decode method_24_code 12 = .ok (.astore_n 3, 1) := by decide +kernel
theorem d267_13 : decode method_24_code 13 = .ok (.iconst 1, 1) := by decide +kernel
theorem d267_14 : decode method_24_code 14 = .ok (.ireturn, 1) := by decide +kernel
theorem d267_15 : decode method_24_code 15 = .ok (.iconst 0, 1) := by decide +kernel
theorem d267_16 : decode method_24_code 16 = .ok (.ireturn, 1) := by decide +kernel
theorem d268_0 : decode method_25_code 0 = .ok (.aload_n 2, 1) := by decide +kernel
theorem d268_1 : decode method_25_code 1 = .ok (.iconst 0, 1) := by decide +kernel
theorem d268_2 : decode method_25_code 2 = .ok (.aload_n 0, 1) := by decide +kernel
theorem d268_3 : decode method_25_code 3 = .ok (.iload_n 1, 1) := by decide +kernel
theorem d268_4 : decode method_25_code 4 = .ok (.invokevirtual 93, 3) := by decide +kernel
theorem d268_7 : decode method_25_code 7 = .ok (.i2l, 1) := by decide +kernel
theorem d268_8 : decode method_25_code 8 = .ok (.lastore, 1) := by decide +kernel
theorem d268_9 : decode method_25_code 9 = .ok (.goto 6, 3) := by decide +kernel
theorem d268_12 : decode method_25_code 12 = .ok (.astore_n 3, 1) := by decide +kernel
theorem d268_13 : decode method_25_code 13 = .ok (.iconst 1, 1) := by decide +kernel
theorem d268_14 : decode method_25_code 14 = .ok (.ireturn, 1) := by decide +kernel
theorem d268_15 : decode method_25_code 15 = .ok (.iconst 0, 1) := by decide +kernel
theorem d268_16 : decode method_25_code 16 = .ok (.ireturn, 1) := by decide +kernel
theorem d269_0 : decode method_26_code 0 = .ok (.aload_n 2, 1) := by decide +kernel
theorem d269_1 : decode method_26_code 1 = .ok (.iconst 0, 1) := by decide +kernel
theorem d269_2 : decode method_26_code 2 = .ok (.aload_n 0, 1) := by decide +kernel
theorem d269_3 : decode method_26_code 3 = .ok (.iload_n 1, 1) := by decide +kernel
theorem d269_4 : decode method_26_code 4 = .ok (.invokevirtual 96, 3) := by decide +kernel
theorem d269_7 : decode method_26_code 7 = .ok (.ifCond .eq 7, 3) := by decide +kernel
theorem d269_10 : decode method_26_code 10 = .ok (.lconst 1, 1) := by decide +kernel
theorem d269_11 : decode method_26_code 11 = .ok (.goto 4, 3) := by decide +kernel
theorem d269_14 : decode method_26_code 14 = .ok (.lconst 0, 1) := by decide +kernel
theorem d269_15 : decode method_26_code 15 = .ok (.lastore, 1) := by decide +kernel
theorem d269_16 : decode method_26_code 16 = .ok (.goto 6, 3) := by decide +kernel
theorem d269_19 : decode method_26_code 19 = .ok (.astore_n 3, 1) := by decide +kernel
theorem d269_20 : decode method_26_code 20 = .ok (.iconst 1, 1) := by decide +kernel
theorem d269_21 : decode method_26_code 21 = .ok (.ireturn, 1) := by decide +kernel
theorem d269_22 : decode method_26_code 22 = .ok (.iconst 0, 1) := by decide +kernel
theorem d269_23 : decode method_26_code 23 = .ok (.ireturn, 1) := by decide +kernel
theorem d270_0 : decode method_27_code 0 = .ok (.aload_n 2, 1) := by decide +kernel
theorem d270_1 : decode method_27_code 1 = .ok (.iconst 0, 1) := by decide +kernel
theorem d270_2 : decode method_27_code 2 = .ok (.aload_n 0, 1) := by decide +kernel
theorem d270_3 : decode method_27_code 3 = .ok (.iload_n 1, 1) := by decide +kernel
theorem d270_4 : decode method_27_code 4 = .ok (.invokevirtual 100, 3) := by decide +kernel
theorem d270_7 : decode method_27_code 7 = .ok (.i2l, 1) := by decide +kernel
theorem d270_8 : decode method_27_code 8 = .ok (.lastore, 1) := by decide +kernel
theorem d270_9 : decode method_27_code 9 = .ok (.goto 6, 3) := by decide +kernel
theorem d270_12 : decode method_27_code 12 = .ok (.astore_n 3, 1) := by decide +kernel
theorem d270_13 : decode method_27_code 13 = .ok (.iconst 1, 1) := by decide +kernel
theorem d270_14 : decode method_27_code 14 = .ok (.ireturn, 1) := by decide +kernel
theorem d270_15 : decode method_27_code 15 = .ok (.iconst 0, 1) := by decide +kernel
theorem d270_16 : decode method_27_code 16 = .ok (.ireturn, 1) := by decide +kernel
theorem d271_0 : decode method_28_code 0 = .ok (.aload_n 3, 1) := by decide +kernel
theorem d271_1 : decode method_28_code 1 = .ok (.iconst 0, 1) := by decide +kernel
theorem d271_2 : decode method_28_code 2 = .ok (.aload_n 0, 1) := by decide +kernel
theorem d271_3 : decode method_28_code 3 = .ok (.iload_n 1, 1) := by decide +kernel
theorem d271_4 : decode method_28_code 4 = .ok (.iload_n 2, 1) := by decide +kernel
theorem d271_5 : decode method_28_code 5 = .ok (.invokevirtual 103, 3) := by decide +kernel
theorem d271_8 : decode method_28_code 8 = .ok (.ifCond .eq 7, 3) := by decide +kernel
theorem d271_11 : decode method_28_code 11 = .ok (.lconst 1, 1) := by decide +kernel
theorem d271_12 : decode method_28_code 12 = .ok (.goto 4, 3) := by decide +kernel
theorem d271_15 : decode method_28_code 15 = .ok (.lconst 0, 1) := by decide +kernel
theorem d271_16 : decode method_28_code 16 = .ok (.lastore, 1) := by decide +kernel
theorem d271_17 : decode method_28_code 17 = .ok (.goto 11, 3) := by decide +kernel
theorem d271_20 : decode method_28_code 20 = .ok (.astore 4, 2) := by decide +kernel
theorem d271_22 : decode method_28_code 22 = .ok (.iconst 1, 1) := by decide +kernel
theorem d271_23 : decode method_28_code 23 = .ok (.ireturn, 1) := by decide +kernel
theorem d271_24 : decode method_28_code 24 = .ok (.astore 4, 2) := by decide +kernel
theorem d271_26 : decode method_28_code 26 = .ok (.iconst 2, 1) := by decide +kernel
theorem d271_27 : decode method_28_code 27 = .ok (.ireturn, 1) := by decide +kernel
theorem d271_28 : decode method_28_code 28 = .ok (.iconst 0, 1) := by decide +kernel
theorem d271_29 : decode method_28_code 29 = .ok (.ireturn, 1) := by decide +kernel
theorem d272_0 : decode method_29_code 0 = .ok (.aload_n 3, 1) := by decide +kernel
theorem d272_1 : decode method_29_code 1 = .ok (.iconst 0, 1) := by decide +kernel
theorem d272_2 : decode method_29_code 2 = .ok (.aload_n 0, 1) := by decide +kernel
theorem d272_3 : decode method_29_code 3 = .ok (.iload_n 1, 1) := by decide +kernel
theorem d272_4 : decode method_29_code 4 = .ok (.iload_n 2, 1) := by decide +kernel
theorem d272_5 : decode method_29_code 5 = .ok (.invokevirtual 107, 3) := by decide +kernel
theorem d272_8 : decode method_29_code 8 = .ok (.i2l, 1) := by decide +kernel
theorem d272_9 : decode method_29_code 9 = .ok (.lastore, 1) := by decide +kernel
theorem d272_10 : decode method_29_code 10 = .ok (.goto 11, 3) := by decide +kernel
theorem d272_13 : decode method_29_code 13 = .ok (.astore 4, 2) := by decide +kernel
theorem d272_15 : decode method_29_code 15 = .ok (.iconst 1, 1) := by decide +kernel
theorem d272_16 : decode method_29_code 16 = .ok (.ireturn, 1) := by decide +kernel
theorem d272_17 : decode method_29_code 17 = .ok (.astore 4, 2) := by decide +kernel
theorem d272_19 : decode method_29_code 19 = .ok (.iconst 2, 1) := by decide +kernel
theorem d272_20 : decode method_29_code 20 = .ok (.ireturn, 1) := by decide +kernel
theorem d272_21 : decode method_29_code 21 = .ok (.iconst 0, 1) := by decide +kernel
theorem d272_22 : decode method_29_code 22 = .ok (.ireturn, 1) := by decide +kernel
theorem d273_0 : decode method_30_code 0 = .ok (.aload_n 2, 1) := by decide +kernel
theorem d273_1 : decode method_30_code 1 = .ok (.iconst 0, 1) := by decide +kernel
theorem d273_2 : decode method_30_code 2 = .ok (.aload_n 0, 1) := by decide +kernel
theorem d273_3 : decode method_30_code 3 = .ok (.iload_n 1, 1) := by decide +kernel
theorem d273_4 : decode method_30_code 4 = .ok (.invokevirtual 110, 3) := by decide +kernel
theorem d273_7 : decode method_30_code 7 = .ok (.i2l, 1) := by decide +kernel
theorem d273_8 : decode method_30_code 8 = .ok (.lastore, 1) := by decide +kernel
theorem d273_9 : decode method_30_code 9 = .ok (.goto 6, 3) := by decide +kernel
theorem d273_12 : decode method_30_code 12 = .ok (.astore_n 3, 1) := by decide +kernel
theorem d273_13 : decode method_30_code 13 = .ok (.iconst 1, 1) := by decide +kernel
theorem d273_14 : decode method_30_code 14 = .ok (.ireturn, 1) := by decide +kernel
theorem d273_15 : decode method_30_code 15 = .ok (.iconst 0, 1) := by decide +kernel
theorem d273_16 : decode method_30_code 16 = .ok (.ireturn, 1) := by decide +kernel
theorem d274_0 : decode method_31_code 0 = .ok (.aload_n 2, 1) := by decide +kernel
theorem d274_1 : decode method_31_code 1 = .ok (.iconst 0, 1) := by decide +kernel
theorem d274_2 : decode method_31_code 2 = .ok (.aload_n 0, 1) := by decide +kernel
theorem d274_3 : decode method_31_code 3 = .ok (.iload_n 1, 1) := by decide +kernel
theorem d274_4 : decode method_31_code 4 = .ok (.invokevirtual 113, 3) := by decide +kernel
theorem d274_7 : decode method_31_code 7 = .ok (.i2l, 1) := by decide +kernel
theorem d274_8 : decode method_31_code 8 = .ok (.lastore, 1) := by decide +kernel
theorem d274_9 : decode method_31_code 9 = .ok (.goto 6, 3) := by decide +kernel
theorem d274_12 : decode method_31_code 12 = .ok (.astore_n 3, 1) := by decide +kernel
theorem d274_13 : decode method_31_code 13 = .ok (.iconst 1, 1) := by decide +kernel
theorem d274_14 : decode method_31_code 14 = .ok (.ireturn, 1) := by decide +kernel
theorem d274_15 : decode method_31_code 15 = .ok (.iconst 0, 1) := by decide +kernel
theorem d274_16 : decode method_31_code 16 = .ok (.ireturn, 1) := by decide +kernel
theorem d275_0 : decode method_32_code 0 = .ok (.aload_n 2, 1) := by decide +kernel
theorem d275_1 : decode method_32_code 1 = .ok (.iconst 0, 1) := by decide +kernel
theorem d275_2 : decode method_32_code 2 = .ok (.aload_n 0, 1) := by decide +kernel
theorem d275_3 : decode method_32_code 3 = .ok (.iload_n 1, 1) := by decide +kernel
theorem d275_4 : decode method_32_code 4 = .ok (.invokevirtual 116, 3) := by decide +kernel
theorem d275_7 : decode method_32_code 7 = .ok (.i2l, 1) := by decide +kernel
theorem d275_8 : decode method_32_code 8 = .ok (.lastore, 1) := by decide +kernel
theorem d275_9 : decode method_32_code 9 = .ok (.goto 6, 3) := by decide +kernel
theorem d275_12 : decode method_32_code 12 = .ok (.astore_n 3, 1) := by decide +kernel
theorem d275_13 : decode method_32_code 13 = .ok (.iconst 1, 1) := by decide +kernel
theorem d275_14 : decode method_32_code 14 = .ok (.ireturn, 1) := by decide +kernel
theorem d275_15 : decode method_32_code 15 = .ok (.iconst 0, 1) := by decide +kernel
theorem d275_16 : decode method_32_code 16 = .ok (.ireturn, 1) := by decide +kernel
theorem d276_0 : decode method_33_code 0 = .ok (.aload_n 3, 1) := by decide +kernel
theorem d276_1 : decode method_33_code 1 = .ok (.iconst 0, 1) := by decide +kernel
theorem d276_2 : decode method_33_code 2 = .ok (.aload_n 0, 1) := by decide +kernel
theorem d276_3 : decode method_33_code 3 = .ok (.iload_n 1, 1) := by decide +kernel
theorem d276_4 : decode method_33_code 4 = .ok (.iload_n 2, 1) := by decide +kernel
theorem d276_5 : decode method_33_code 5 = .ok (.invokevirtual 119, 3) := by decide +kernel
theorem d276_8 : decode method_33_code 8 = .ok (.i2l, 1) := by decide +kernel
theorem d276_9 : decode method_33_code 9 = .ok (.lastore, 1) := by decide +kernel
theorem d276_10 : decode method_33_code 10 = .ok (.goto 11, 3) := by decide +kernel
theorem d276_13 : decode method_33_code 13 = .ok (.astore 4, 2) := by decide +kernel
theorem d276_15 : decode method_33_code 15 = .ok (.iconst 1, 1) := by decide +kernel
theorem d276_16 : decode method_33_code 16 = .ok (.ireturn, 1) := by decide +kernel
theorem d276_17 : decode method_33_code 17 = .ok (.astore 4, 2) := by decide +kernel
theorem d276_19 : decode method_33_code 19 = .ok (.iconst 2, 1) := by decide +kernel
theorem d276_20 : decode method_33_code 20 = .ok (.ireturn, 1) := by decide +kernel
theorem d276_21 : decode method_33_code 21 = .ok (.iconst 0, 1) := by decide +kernel
theorem d276_22 : decode method_33_code 22 = .ok (.ireturn, 1) := by decide +kernel
theorem d277_0 : decode method_34_code 0 = .ok (.aload_n 2, 1) := by decide +kernel
theorem d277_1 : decode method_34_code 1 = .ok (.iconst 0, 1) := by decide +kernel
theorem d277_2 : decode method_34_code 2 = .ok (.aload_n 0, 1) := by decide +kernel
theorem d277_3 : decode method_34_code 3 = .ok (.iload_n 1, 1) := by decide +kernel
theorem d277_4 : decode method_34_code 4 = .ok (.invokevirtual 122, 3) := by decide +kernel
theorem d277_7 : decode method_34_code 7 = .ok (.i2l, 1) := by decide +kernel
theorem d277_8 : decode method_34_code 8 = .ok (.lastore, 1) := by decide +kernel
theorem d277_9 : decode method_34_code 9 = .ok (.goto 6, 3) := by decide +kernel
theorem d277_12 : decode method_34_code 12 = .ok (.astore_n 3, 1) := by decide +kernel
theorem d277_13 : decode method_34_code 13 = .ok (.iconst 1, 1) := by decide +kernel
theorem d277_14 : decode method_34_code 14 = .ok (.ireturn, 1) := by decide +kernel
theorem d277_15 : decode method_34_code 15 = .ok (.iconst 0, 1) := by decide +kernel
theorem d277_16 : decode method_34_code 16 = .ok (.ireturn, 1) := by decide +kernel
theorem d278_0 : decode method_35_code 0 = .ok (.aload_n 1, 1) := by decide +kernel
theorem d278_1 : decode method_35_code 1 = .ok (.iconst 0, 1) := by decide +kernel
theorem d278_2 : decode method_35_code 2 = .ok (.aload_n 0, 1) := by decide +kernel
theorem d278_3 : decode method_35_code 3 = .ok (.invokevirtual 125, 3) := by decide +kernel
theorem d278_6 : decode method_35_code 6 = .ok (.dastore, 1) := by decide +kernel
theorem d278_7 : decode method_35_code 7 = .ok (.goto 6, 3) := by decide +kernel
theorem d278_10 : decode method_35_code 10 = .ok (.astore_n 2, 1) := by decide +kernel
theorem d278_11 : decode method_35_code 11 = .ok (.iconst 1, 1) := by decide +kernel
theorem d278_12 : decode method_35_code 12 = .ok (.ireturn, 1) := by decide +kernel
theorem d278_13 : decode method_35_code 13 = .ok (.iconst 0, 1) := by decide +kernel
theorem d278_14 : decode method_35_code 14 = .ok (.ireturn, 1) := by decide +kernel
theorem d279_0 : decode method_36_code 0 = .ok (.aload_n 2, 1) := by decide +kernel
theorem d279_1 : decode method_36_code 1 = .ok (.iconst 0, 1) := by decide +kernel
theorem d279_2 : decode method_36_code 2 = .ok (.aload_n 0, 1) := by decide +kernel
theorem d279_3 : decode method_36_code 3 = .ok (.iload_n 1, 1) := by decide +kernel
theorem d279_4 : decode method_36_code 4 = .ok (.invokevirtual 131, 3) := by decide +kernel
theorem d279_7 : decode method_36_code 7 = .ok (.i2l, 1) := by decide +kernel
theorem d279_8 : decode method_36_code 8 = .ok (.lastore, 1) := by decide +kernel
theorem d279_9 : decode method_36_code 9 = .ok (.goto 6, 3) := by decide +kernel
theorem d279_12 : decode method_36_code 12 = .ok (.astore_n 3, 1) := by decide +kernel
theorem d279_13 : decode method_36_code 13 = .ok (.iconst 1, 1) := by decide +kernel
theorem d279_14 : decode method_36_code 14 = .ok (.ireturn, 1) := by decide +kernel
theorem d279_15 : decode method_36_code 15 = .ok (.iconst 0, 1) := by decide +kernel
theorem d279_16 : decode method_36_code 16 = .ok (.ireturn, 1) := by decide +kernel
theorem d280_0 : decode method_37_code 0 = .ok (.aload_n 2, 1) := by decide +kernel
theorem d280_1 : decode method_37_code 1 = .ok (.iconst 0, 1) := by decide +kernel
theorem d280_2 : decode method_37_code 2 = .ok (.aload_n 0, 1) := by decide +kernel
theorem d280_3 : decode method_37_code 3 = .ok (.iload_n 1, 1) := by decide +kernel
theorem d280_4 : decode method_37_code 4 = .ok (.invokevirtual 134, 3) := by decide +kernel
theorem d280_7 : decode method_37_code 7 = .ok (.i2l, 1) := by decide +kernel
theorem d280_8 : decode method_37_code 8 = .ok (.lastore, 1) := by decide +kernel
theorem d280_9 : decode method_37_code 9 = .ok (.goto 6, 3) := by decide +kernel
theorem d280_12 : decode method_37_code 12 = .ok (.astore_n 3, 1) := by decide +kernel
theorem d280_13 : decode method_37_code 13 = .ok (.iconst 1, 1) := by decide +kernel
theorem d280_14 : decode method_37_code 14 = .ok (.ireturn, 1) := by decide +kernel
theorem d280_15 : decode method_37_code 15 = .ok (.iconst 0, 1) := by decide +kernel
theorem d280_16 : decode method_37_code 16 = .ok (.ireturn, 1) := by decide +kernel
theorem d281_0 : decode method_38_code 0 = .ok (.aload_n 2, 1) := by decide +kernel
theorem d281_1 : decode method_38_code 1 = .ok (.iconst 0, 1) := by decide +kernel
theorem d281_2 : decode method_38_code 2 = .ok (.aload_n 0, 1) := by decide +kernel
theorem d281_3 : decode method_38_code 3 = .ok (.iload_n 1, 1) := by decide +kernel
theorem d281_4 : decode method_38_code 4 = .ok (.invokevirtual 137, 3) := by decide +kernel
theorem d281_7 : decode method_38_code 7 = .ok (.i2l, 1) := by decide +kernel
theorem d281_8 : decode method_38_code 8 = .ok (.lastore, 1) := by decide +kernel
theorem d281_9 : decode method_38_code 9 = .ok (.goto 6, 3) := by decide +kernel
theorem d281_12 : decode method_38_code 12 = .ok (.astore_n 3, 1) := by decide +kernel
theorem d281_13 : decode method_38_code 13 = .ok (.iconst 1, 1) := by decide +kernel
theorem d281_14 : decode method_38_code 14 = .ok (.ireturn, 1) := by decide +kernel
theorem d281_15 : decode method_38_code 15 = .ok (.iconst 0, 1) := by decide +kernel
theorem d281_16 : decode method_38_code 16 = .ok (.ireturn, 1) := by decide +kernel
theorem d282_0 : decode method_39_code 0 = .ok (.aload_n 2, 1) := by decide +kernel
theorem d282_1 : decode method_39_code 1 = .ok (.iconst 0, 1) := by decide +kernel
theorem d282_2 : decode method_39_code 2 = .ok (.aload_n 0, 1) := by decide +kernel
theorem d282_3 : decode method_39_code 3 = .ok (.iload_n 1, 1) := by decide +kernel
theorem d282_4 : decode method_39_code 4 = .ok (.invokevirtual 140, 3) := by decide +kernel
theorem d282_7 : decode method_39_code 7 = .ok (.i2l, 1) := by decide +kernel
theorem d282_8 : decode method_39_code 8 = .ok (.lastore, 1) := by decide +kernel
theorem d282_9 : decode method_39_code 9 = .ok (.goto 6, 3) := by decide +kernel
theorem d282_12 : decode method_39_code 12 = .ok (.astore_n 3, 1) := by decide +kernel
theorem d282_13 : decode method_39_code 13 = .ok (.iconst 1, 1) := by decide +kernel
theorem d282_14 : decode method_39_code 14 = .ok (.ireturn, 1) := by decide +kernel
theorem d282_15 : decode method_39_code 15 = .ok (.iconst 0, 1) := by decide +kernel
theorem d282_16 : decode method_39_code 16 = .ok (.ireturn, 1) := by decide +kernel
theorem d283_0 : decode method_40_code 0 = .ok (.aload_n 2, 1) := by decide +kernel
theorem d283_1 : decode method_40_code 1 = .ok (.iconst 0, 1) := by decide +kernel
theorem d283_2 : decode method_40_code 2 = .ok (.aload_n 0, 1) := by decide +kernel
theorem d283_3 : decode method_40_code 3 = .ok (.iload_n 1, 1) := by decide +kernel
theorem d283_4 : decode method_40_code 4 = .ok (.invokevirtual 143, 3) := by decide +kernel
theorem d283_7 : decode method_40_code 7 = .ok (.i2l, 1) := by decide +kernel
theorem d283_8 : decode method_40_code 8 = .ok (.lastore, 1) := by decide +kernel
theorem d283_9 : decode method_40_code 9 = .ok (.goto 6, 3) := by decide +kernel
theorem d283_12 : decode method_40_code 12 = .ok (.astore_n 3, 1) := by decide +kernel
theorem d283_13 : decode method_40_code 13 = .ok (.iconst 1, 1) := by decide +kernel
theorem d283_14 : decode method_40_code 14 = .ok (.ireturn, 1) := by decide +kernel
theorem d283_15 : decode method_40_code 15 = .ok (.iconst 0, 1) := by decide +kernel
theorem d283_16 : decode method_40_code 16 = .ok (.ireturn, 1) := by decide +kernel
theorem d284_0 : decode method_41_code 0 = .ok (.aload_n 1, 1) := by decide +kernel
theorem d284_1 : decode method_41_code 1 = .ok (.iconst 0, 1) := by decide +kernel
theorem d284_2 : decode method_41_code 2 = .ok (.aload_n 0, 1) := by decide +kernel
theorem d284_3 : decode method_41_code 3 = .ok (.invokevirtual 146, 3) := by decide +kernel
theorem d284_6 : decode method_41_code 6 = .ok (.i2l, 1) := by decide +kernel
theorem d284_7 : decode method_41_code 7 = .ok (.lastore, 1) := by decide +kernel
theorem d284_8 : decode method_41_code 8 = .ok (.goto 9, 3) := by decide +kernel
theorem d284_11 : decode method_41_code 11 = .ok (.astore_n 2, 1) := by decide +kernel
theorem d284_12 : decode method_41_code 12 = .ok (.iconst 1, 1) := by decide +kernel
theorem d284_13 : decode method_41_code 13 = .ok (.ireturn, 1) := by decide +kernel
theorem d284_14 : decode method_41_code 14 = .ok (.astore_n 2, 1) := by decide +kernel
theorem d284_15 : decode method_41_code 15 = .ok (.iconst 2, 1) := by decide +kernel
theorem d284_16 : decode method_41_code 16 = .ok (.ireturn, 1) := by decide +kernel
theorem d284_17 : decode method_41_code 17 = .ok (.iconst 0, 1) := by decide +kernel
theorem d284_18 : decode method_41_code 18 = .ok (.ireturn, 1) := by decide +kernel
theorem d285_0 : decode method_42_code 0 = .ok (.aload_n 1, 1) := by decide +kernel
theorem d285_1 : decode method_42_code 1 = .ok (.iconst 0, 1) := by decide +kernel
theorem d285_2 : decode method_42_code 2 = .ok (.aload_n 0, 1) := by decide +kernel
theorem d285_3 : decode method_42_code 3 = .ok (.invokevirtual 150, 3) := by decide +kernel
theorem d285_6 : decode method_42_code 6 = .ok (.i2l, 1) := by decide +kernel
theorem d285_7 : decode method_42_code 7 = .ok (.lastore, 1) := by decide +kernel
theorem d285_8 : decode method_42_code 8 = .ok (.goto 6, 3) := by decide +kernel
theorem d285_11 : decode method_42_code 11 = .ok (.astore_n 2, 1) := by decide +kernel
theorem d285_12 : decode method_42_code 12 = .ok (.iconst 1, 1) := by decide +kernel
theorem d285_13 : decode method_42_code 13 = .ok (.ireturn, 1) := by decide +kernel
theorem d285_14 : decode method_42_code 14 = .ok (.iconst 0, 1) := by decide +kernel
theorem d285_15 : decode method_42_code 15 = .ok (.ireturn, 1) := by decide +kernel
theorem d286_0 : decode method_43_code 0 = .ok (.aload_n 1, 1) := by decide +kernel
theorem d286_1 : decode method_43_code 1 = .ok (.iconst 0, 1) := by decide +kernel
theorem d286_2 : decode method_43_code 2 = .ok (.aload_n 0, 1) := by decide +kernel
theorem d286_3 : decode method_43_code 3 = .ok (.invokevirtual 153, 3) := by decide +kernel
theorem d286_6 : decode method_43_code 6 = .ok (.i2l, 1) := by decide +kernel
theorem d286_7 : decode method_43_code 7 = .ok (.lastore, 1) := by decide +kernel
theorem d286_8 : decode method_43_code 8 = .ok (.goto 6, 3) := by decide +kernel
theorem d286_11 : decode method_43_code 11 = .ok (.astore_n 2, 1) := by decide +kernel
theorem d286_12 : decode method_43_code 12 = .ok (.iconst 1, 1) := by decide +kernel
theorem d286_13 : decode method_43_code 13 = .ok (.ireturn, 1) := by decide +kernel
theorem d286_14 : decode method_43_code 14 = .ok (.iconst 0, 1) := by decide +kernel
theorem d286_15 : decode method_43_code 15 = .ok (.ireturn, 1) := by decide +kernel
theorem d287_0 : decode method_44_code 0 = .ok (.aload_n 1, 1) := by decide +kernel
theorem d287_1 : decode method_44_code 1 = .ok (.iconst 0, 1) := by decide +kernel
theorem d287_2 : decode method_44_code 2 = .ok (.aload_n 0, 1) := by decide +kernel
theorem d287_3 : decode method_44_code 3 = .ok (.invokevirtual 156, 3) := by decide +kernel
theorem d287_6 : decode method_44_code 6 = .ok (.i2l, 1) := by decide +kernel
theorem d287_7 : decode method_44_code 7 = .ok (.lastore, 1) := by decide +kernel
theorem d287_8 : decode method_44_code 8 = .ok (.goto 6, 3) := by decide +kernel
theorem d287_11 : decode method_44_code 11 = .ok (.astore_n 2, 1) := by decide +kernel
theorem d287_12 : decode method_44_code 12 = .ok (.iconst 1, 1) := by decide +kernel
theorem d287_13 : decode method_44_code 13 = .ok (.ireturn, 1) := by decide +kernel
theorem d287_14 : decode method_44_code 14 = .ok (.iconst 0, 1) := by decide +kernel
theorem d287_15 : decode method_44_code 15 = .ok (.ireturn, 1) := by decide +kernel
theorem d288_0 : decode method_45_code 0 = .ok (.aload_n 1, 1) := by decide +kernel
theorem d288_1 : decode method_45_code 1 = .ok (.iconst 0, 1) := by decide +kernel
theorem d288_2 : decode method_45_code 2 = .ok (.aload_n 0, 1) := by decide +kernel
theorem d288_3 : decode method_45_code 3 = .ok (.invokevirtual 159, 3) := by decide +kernel
theorem d288_6 : decode method_45_code 6 = .ok (.i2l, 1) := by decide +kernel
theorem d288_7 : decode method_45_code 7 = .ok (.lastore, 1) := by decide +kernel
theorem d288_8 : decode method_45_code 8 = .ok (.goto 6, 3) := by decide +kernel
theorem d288_11 : decode method_45_code 11 = .ok (.astore_n 2, 1) := by decide +kernel
theorem d288_12 : decode method_45_code 12 = .ok (.iconst 1, 1) := by decide +kernel
theorem d288_13 : decode method_45_code 13 = .ok (.ireturn, 1) := by decide +kernel
theorem d288_14 : decode method_45_code 14 = .ok (.iconst 0, 1) := by decide +kernel
theorem d288_15 : decode method_45_code 15 = .ok (.ireturn, 1) := by decide +kernel
theorem d289_0 : decode code 0 = .ok (.new 8, 3) := by decide +kernel
theorem d289_3 : decode code 3 = .ok (.dup, 1) := by decide +kernel
theorem d289_4 : decode code 4 = .ok (.invokespecial 162, 3) := by decide +kernel
theorem d289_7 : decode code 7 = .ok (.astore_n 1, 1) := by decide +kernel
theorem d289_8 : decode code 8 = .ok (.new 163, 3) := by decide +kernel
theorem d289_11 : decode code 11 = .ok (.dup, 1) := by decide +kernel
theorem d289_12 : decode code 12 = .ok (.invokespecial 165, 3) := by decide +kernel
theorem d289_15 : decode code 15 = .ok (.astore_n 2, 1) := by decide +kernel
theorem d289_16 : decode code 16 = .ok (.iconst 1, 1) := by decide +kernel
theorem d289_17 : decode code 17 = .ok (.newarray .long, 2) := by decide +kernel
theorem d289_19 : decode code 19 = .ok (.astore_n 3, 1) := by decide +kernel
theorem d289_20 : decode code 20 = .ok (.iconst 1, 1) := by decide +kernel
theorem d289_21 : decode code 21 = .ok (.newarray .double, 2) := by decide +kernel
theorem d289_23 : decode code 23 = .ok (.astore 4, 2) := by decide +kernel
theorem d289_25 : decode code 25 = .ok (.iconst 0, 1) := by decide +kernel
theorem d289_26 : decode code 26 = .ok (.istore 5, 2) := by decide +kernel
theorem d289_28 : decode code 28 = .ok (.iload 5, 2) := by decide +kernel
theorem d289_30 : decode code 30 = .ok (.aload_n 0, 1) := by decide +kernel
theorem d289_31 : decode code 31 = .ok (.arraylength, 1) := by decide +kernel
theorem d289_32 : decode code 32 = .ok (.bipush 7, 2) := by decide +kernel
theorem d289_34 : decode code 34 = .ok (.isub, 1) := by decide +kernel
theorem d289_35 : decode code 35 = .ok (.if_icmp .gt 2972, 3) := by decide +kernel
theorem d289_38 : decode code 38 = .ok (.aload_n 0, 1) := by decide +kernel
theorem d289_39 : decode code 39 = .ok (.iload 5, 2) := by decide +kernel
theorem d289_41 : decode code 41 = .ok (.iaload, 1) := by decide +kernel
theorem d289_42 : decode code 42 = .ok (.bipush 63, 2) := by decide +kernel
theorem d289_44 : decode code 44 = .ok (.iand, 1) := by decide +kernel
theorem d289_45 : decode code 45 = .ok (.tableswitch 2956 0 50 #[219, 339, 395, 463, 519, 589, 671, 739, 807, 875, 931, 999, 1012, 1037, 1093, 1149, 1205, 1261, 1317, 1375, 1445, 1501, 1557, 1613, 1669, 1725, 1788, 1844, 1919, 1987, 2043, 2099, 2155, 2223, 2279, 2293, 2307, 2320, 2385, 2428, 2484, 2497, 2553, 2609, 2665, 2723, 2767, 2811, 2855, 2899, 2912], 219) := by decide +kernel
theorem d289_264 : decode code 264 = .ok (.aload_n 1, 1) := by decide +kernel
theorem d289_265 : decode code 265 = .ok (.aload_n 0, 1) := by decide +kernel
theorem d289_266 : decode code 266 = .ok (.iload 5, 2) := by decide +kernel
theorem d289_268 : decode code 268 = .ok (.iconst 1, 1) := by decide +kernel
theorem d289_269 : decode code 269 = .ok (.iadd, 1) := by decide +kernel
theorem d289_270 : decode code 270 = .ok (.iaload, 1) := by decide +kernel
theorem d289_271 : decode code 271 = .ok (.aload_n 0, 1) := by decide +kernel
theorem d289_272 : decode code 272 = .ok (.iload 5, 2) := by decide +kernel
theorem d289_274 : decode code 274 = .ok (.iconst 2, 1) := by decide +kernel
theorem d289_275 : decode code 275 = .ok (.iadd, 1) := by decide +kernel
theorem d289_276 : decode code 276 = .ok (.iaload, 1) := by decide +kernel
theorem d289_277 : decode code 277 = .ok (.aload_n 0, 1) := by decide +kernel
theorem d289_278 : decode code 278 = .ok (.iload 5, 2) := by decide +kernel
theorem d289_280 : decode code 280 = .ok (.iconst 3, 1) := by decide +kernel
theorem d289_281 : decode code 281 = .ok (.iadd, 1) := by decide +kernel
theorem d289_282 : decode code 282 = .ok (.iaload, 1) := by decide +kernel
theorem d289_283 : decode code 283 = .ok (.i2c, 1) := by decide +kernel
theorem d289_284 : decode code 284 = .ok (.aload_n 0, 1) := by decide +kernel
theorem d289_285 : decode code 285 = .ok (.iload 5, 2) := by decide +kernel
theorem d289_287 : decode code 287 = .ok (.iconst 4, 1) := by decide +kernel
theorem d289_288 : decode code 288 = .ok (.iadd, 1) := by decide +kernel
theorem d289_289 : decode code 289 = .ok (.iaload, 1) := by decide +kernel
theorem d289_290 : decode code 290 = .ok (.aload_n 0, 1) := by decide +kernel
theorem d289_291 : decode code 291 = .ok (.iload 5, 2) := by decide +kernel
theorem d289_293 : decode code 293 = .ok (.iconst 5, 1) := by decide +kernel
theorem d289_294 : decode code 294 = .ok (.iadd, 1) := by decide +kernel
theorem d289_295 : decode code 295 = .ok (.iaload, 1) := by decide +kernel
theorem d289_296 : decode code 296 = .ok (.aload_n 0, 1) := by decide +kernel
theorem d289_297 : decode code 297 = .ok (.iload 5, 2) := by decide +kernel
theorem d289_299 : decode code 299 = .ok (.bipush 6, 2) := by decide +kernel
theorem d289_301 : decode code 301 = .ok (.iadd, 1) := by decide +kernel
theorem d289_302 : decode code 302 = .ok (.iaload, 1) := by decide +kernel
theorem d289_303 : decode code 303 = .ok (.aload_n 3, 1) := by decide +kernel
theorem d289_304 : decode code 304 = .ok (.invokestatic 166, 3) := by decide +kernel
theorem d289_307 : decode code 307 = .ok (.istore 6, 2) := by decide +kernel
theorem d289_309 : decode code 309 = .ok (.aload_n 2, 1) := by decide +kernel
theorem d289_310 : decode code 310 = .ok (.aload_n 0, 1) := by decide +kernel
theorem d289_311 : decode code 311 = .ok (.iload 5, 2) := by decide +kernel
theorem d289_313 : decode code 313 = .ok (.iconst 1, 1) := by decide +kernel
theorem d289_314 : decode code 314 = .ok (.iadd, 1) := by decide +kernel
theorem d289_315 : decode code 315 = .ok (.iaload, 1) := by decide +kernel
theorem d289_316 : decode code 316 = .ok (.aload_n 0, 1) := by decide +kernel
theorem d289_317 : decode code 317 = .ok (.iload 5, 2) := by decide +kernel
theorem d289_319 : decode code 319 = .ok (.iconst 2, 1) := by decide +kernel
theorem d289_320 : decode code 320 = .ok (.iadd, 1) := by decide +kernel
theorem d289_321 : decode code 321 = .ok (.iaload, 1) := by decide +kernel
theorem d289_322 : decode code 322 = .ok (.aload_n 0, 1) := by decide +kernel
theorem d289_323 : decode code 323 = .ok (.iload 5, 2) := by decide +kernel
theorem d289_325 : decode code 325 = .ok (.iconst 3, 1) := by decide +kernel
theorem d289_326 : decode code 326 = .ok (.iadd, 1) := by decide +kernel
theorem d289_327 : decode code 327 = .ok (.iaload, 1) := by decide +kernel
theorem d289_328 : decode code 328 = .ok (.i2c, 1) := by decide +kernel
theorem d289_329 : decode code 329 = .ok (.aload_n 0, 1) := by decide +kernel
theorem d289_330 : decode code 330 = .ok (.iload 5, 2) := by decide +kernel
theorem d289_332 : decode code 332 = .ok (.iconst 4, 1) := by decide +kernel
theorem d289_333 : decode code 333 = .ok (.iadd, 1) := by decide +kernel
theorem d289_334 : decode code 334 = .ok (.iaload, 1) := by decide +kernel
theorem d289_335 : decode code 335 = .ok (.aload_n 0, 1) := by decide +kernel
theorem d289_336 : decode code 336 = .ok (.iload 5, 2) := by decide +kernel
theorem d289_338 : decode code 338 = .ok (.iconst 5, 1) := by decide +kernel
theorem d289_339 : decode code 339 = .ok (.iadd, 1) := by decide +kernel
theorem d289_340 : decode code 340 = .ok (.iaload, 1) := by decide +kernel
theorem d289_341 : decode code 341 = .ok (.aload_n 0, 1) := by decide +kernel
theorem d289_342 : decode code 342 = .ok (.iload 5, 2) := by decide +kernel
theorem d289_344 : decode code 344 = .ok (.bipush 6, 2) := by decide +kernel
theorem d289_346 : decode code 346 = .ok (.iadd, 1) := by decide +kernel
theorem d289_347 : decode code 347 = .ok (.iaload, 1) := by decide +kernel
theorem d289_348 : decode code 348 = .ok (.invokevirtual 171, 3) := by decide +kernel
theorem d289_351 : decode code 351 = .ok (.istore 7, 2) := by decide +kernel
theorem d289_353 : decode code 353 = .ok (.aload_n 2, 1) := by decide +kernel
theorem d289_354 : decode code 354 = .ok (.invokevirtual 172, 3) := by decide +kernel
theorem d289_357 : decode code 357 = .ok (.iload 6, 2) := by decide +kernel
theorem d289_359 : decode code 359 = .ok (.if_icmp .eq 5, 3) := by decide +kernel
theorem d289_362 : decode code 362 = .ok (.iconst 0, 1) := by decide +kernel
theorem d289_363 : decode code 363 = .ok (.ireturn, 1) := by decide +kernel
theorem d289_364 : decode code 364 = .ok (.iload 6, 2) := by decide +kernel
theorem d289_366 : decode code 366 = .ok (.ifCond .ne 15, 3) := by decide +kernel
theorem d289_369 : decode code 369 = .ok (.aload_n 3, 1) := by decide +kernel
theorem d289_370 : decode code 370 = .ok (.iconst 0, 1) := by decide +kernel
theorem d289_371 : decode code 371 = .ok (.laload, 1) := by decide +kernel
theorem d289_372 : decode code 372 = .ok (.iload 7, 2) := by decide +kernel
theorem d289_374 : decode code 374 = .ok (.i2l, 1) := by decide +kernel
theorem d289_375 : decode code 375 = .ok (.lcmp, 1) := by decide +kernel
theorem d289_376 : decode code 376 = .ok (.ifCond .eq 5, 3) := by decide +kernel
theorem d289_379 : decode code 379 = .ok (.iconst 0, 1) := by decide +kernel
theorem d289_380 : decode code 380 = .ok (.ireturn, 1) := by decide +kernel
theorem d289_381 : decode code 381 = .ok (.goto 2620, 3) := by decide +kernel
theorem d289_384 : decode code 384 = .ok (.aload_n 1, 1) := by decide +kernel
theorem d289_385 : decode code 385 = .ok (.aload_n 0, 1) := by decide +kernel
theorem d289_386 : decode code 386 = .ok (.iload 5, 2) := by decide +kernel
theorem d289_388 : decode code 388 = .ok (.iconst 1, 1) := by decide +kernel
theorem d289_389 : decode code 389 = .ok (.iadd, 1) := by decide +kernel
theorem d289_390 : decode code 390 = .ok (.iaload, 1) := by decide +kernel
theorem d289_391 : decode code 391 = .ok (.aload_n 3, 1) := by decide +kernel
theorem d289_392 : decode code 392 = .ok (.invokestatic 175, 3) := by decide +kernel
theorem d289_395 : decode code 395 = .ok (.istore 6, 2) := by decide +kernel
theorem d289_397 : decode code 397 = .ok (.aload_n 2, 1) := by decide +kernel
theorem d289_398 : decode code 398 = .ok (.aload_n 0, 1) := by decide +kernel
theorem d289_399 : decode code 399 = .ok (.iload 5, 2) := by decide +kernel
theorem d289_401 : decode code 401 = .ok (.iconst 1, 1) := by decide +kernel
theorem d289_402 : decode code 402 = .ok (.iadd, 1) := by decide +kernel
theorem d289_403 : decode code 403 = .ok (.iaload, 1) := by decide +kernel
theorem d289_404 : decode code 404 = .ok (.invokevirtual 178, 3) := by decide +kernel
theorem d289_407 : decode code 407 = .ok (.istore 7, 2) := by decide +kernel
theorem d289_409 : decode code 409 = .ok (.aload_n 2, 1) := by decide +kernel
theorem d289_410 : decode code 410 = .ok (.invokevirtual 172, 3) := by decide +kernel
theorem d289_413 : decode code 413 = .ok (.iload 6, 2) := by decide +kernel
theorem d289_415 : decode code 415 = .ok (.if_icmp .eq 5, 3) := by decide +kernel
theorem d289_418 : decode code 418 = .ok (.iconst 0, 1) := by decide +kernel
theorem d289_419 : decode code 419 = .ok (.ireturn, 1) := by decide +kernel
theorem d289_420 : decode code 420 = .ok (.iload 6, 2) := by decide +kernel
theorem d289_422 : decode code 422 = .ok (.ifCond .ne 15, 3) := by decide +kernel
theorem d289_425 : decode code 425 = .ok (.aload_n 3, 1) := by decide +kernel
theorem d289_426 : decode code 426 = .ok (.iconst 0, 1) := by decide +kernel
theorem d289_427 : decode code 427 = .ok (.laload, 1) := by decide +kernel
theorem d289_428 : decode code 428 = .ok (.iload 7, 2) := by decide +kernel
theorem d289_430 : decode code 430 = .ok (.i2l, 1) := by decide +kernel
theorem d289_431 : decode code 431 = .ok (.lcmp, 1) := by decide +kernel
theorem d289_432 : decode code 432 = .ok (.ifCond .eq 5, 3) := by decide +kernel
theorem d289_435 : decode code 435 = .ok (.iconst 0, 1) := by decide +kernel
theorem d289_436 : decode code 436 = .ok (.ireturn, 1) := by decide +kernel
theorem d289_437 : decode code 437 = .ok (.goto 2564, 3) := by decide +kernel
theorem d289_440 : decode code 440 = .ok (.aload_n 1, 1) := by decide +kernel
theorem d289_441 : decode code 441 = .ok (.aload_n 0, 1) := by decide +kernel
theorem d289_442 : decode code 442 = .ok (.iload 5, 2) := by decide +kernel
theorem d289_444 : decode code 444 = .ok (.iconst 1, 1) := by decide +kernel
theorem d289_445 : decode code 445 = .ok (.iadd, 1) := by decide +kernel
theorem d289_446 : decode code 446 = .ok (.iaload, 1) := by decide +kernel
theorem d289_447 : decode code 447 = .ok (.aload_n 0, 1) := by decide +kernel
theorem d289_448 : decode code 448 = .ok (.iload 5, 2) := by decide +kernel
theorem d289_450 : decode code 450 = .ok (.iconst 2, 1) := by decide +kernel
theorem d289_451 : decode code 451 = .ok (.iadd, 1) := by decide +kernel
theorem d289_452 : decode code 452 = .ok (.iaload, 1) := by decide +kernel
theorem d289_453 : decode code 453 = .ok (.aload_n 3, 1) := by decide +kernel
theorem d289_454 : decode code 454 = .ok (.invokestatic 179, 3) := by decide +kernel
theorem d289_457 : decode code 457 = .ok (.istore 6, 2) := by decide +kernel
theorem d289_459 : decode code 459 = .ok (.aload_n 2, 1) := by decide +kernel
theorem d289_460 : decode code 460 = .ok (.aload_n 0, 1) := by decide +kernel
theorem d289_461 : decode code 461 = .ok (.iload 5, 2) := by decide +kernel
theorem d289_463 : decode code 463 = .ok (.iconst 1, 1) := by decide +kernel
theorem d289_464 : decode code 464 = .ok (.iadd, 1) := by decide +kernel
theorem d289_465 : decode code 465 = .ok (.iaload, 1) := by decide +kernel
theorem d289_466 : decode code 466 = .ok (.aload_n 0, 1) := by decide +kernel
theorem d289_467 : decode code 467 = .ok (.iload 5, 2) := by decide +kernel
theorem d289_469 : decode code 469 = .ok (.iconst 2, 1) := by decide +kernel
theorem d289_470 : decode code 470 = .ok (.iadd, 1) := by decide +kernel
theorem d289_471 : decode code 471 = .ok (.iaload, 1) := by decide +kernel
theorem d289_472 : decode code 472 = .ok (.invokevirtual 182, 3) := by decide +kernel
theorem d289_475 : decode code 475 = .ok (.istore 7, 2) := by decide +kernel
theorem d289_477 : decode code 477 = .ok (.aload_n 2, 1) := by decide +kernel
theorem d289_478 : decode code 478 = .ok (.invokevirtual 172, 3) := by decide +kernel
theorem d289_481 : decode code 481 = .ok (.iload 6, 2) := by decide +kernel
theorem d289_483 : decode code 483 = .ok (.if_icmp .eq 5, 3) := by decide +kernel
theorem d289_486 : decode code 486 = .ok (.iconst 0, 1) := by decide +kernel
theorem d289_487 : decode code 487 = .ok (.ireturn, 1) := by decide +kernel
theorem d289_488 : decode code 488 = .ok (.iload 6, 2) := by decide +kernel
theorem d289_490 : decode code 490 = .ok (.ifCond .ne 15, 3) := by decide +kernel
theorem d289_493 : decode code 493 = .ok (.aload_n 3, 1) := by decide +kernel
theorem d289_494 : decode code 494 = .ok (.iconst 0, 1) := by decide +kernel
theorem d289_495 : decode code 495 = .ok (.laload, 1) := by decide +kernel
theorem d289_496 : decode code 496 = .ok (.iload 7, 2) := by decide +kernel
theorem d289_498 : decode code 498 = .ok (.i2l, 1) := by decide +kernel
theorem d289_499 : decode code 499 = .ok (.lcmp, 1) := by decide +kernel
theorem d289_500 : decode code 500 = .ok (.ifCond .eq 5, 3) := by decide +kernel
theorem d289_503 : decode code 503 = .ok (.iconst 0, 1) := by decide +kernel
theorem d289_504 : decode code 504 = .ok (.ireturn, 1) := by decide +kernel
theorem d289_505 : decode code 505 = .ok (.goto 2496, 3) := by decide +kernel
theorem d289_508 : decode code 508 = .ok (.aload_n 1, 1) := by decide +kernel
theorem d289_509 : decode code 509 = .ok (.aload_n 0, 1) := by decide +kernel
theorem d289_510 : decode code 510 = .ok (.iload 5, 2) := by decide +kernel
theorem d289_512 : decode code 512 = .ok (.iconst 1, 1) := by decide +kernel
theorem d289_513 : decode code 513 = .ok (.iadd, 1) := by decide +kernel
theorem d289_514 : decode code 514 = .ok (.iaload, 1) := by decide +kernel
theorem d289_515 : decode code 515 = .ok (.aload_n 3, 1) := by decide +kernel
theorem d289_516 : decode code 516 = .ok (.invokestatic 183, 3) := by decide +kernel
theorem d289_519 : decode code 519 = .ok (.istore 6, 2) := by decide +kernel
theorem d289_521 : decode code 521 = .ok (.aload_n 2, 1) := by decide +kernel
theorem d289_522 : decode code 522 = .ok (.aload_n 0, 1) := by decide +kernel
theorem d289_523 : decode code 523 = .ok (.iload 5, 2) := by decide +kernel
theorem d289_525 : decode code 525 = .ok (.iconst 1, 1) := by decide +kernel
theorem d289_526 : decode code 526 = .ok (.iadd, 1) := by decide +kernel
theorem d289_527 : decode code 527 = .ok (.iaload, 1) := by decide +kernel
theorem d289_528 : decode code 528 = .ok (.invokevirtual 185, 3) := by decide +kernel
theorem d289_531 : decode code 531 = .ok (.istore 7, 2) := by decide +kernel
theorem d289_533 : decode code 533 = .ok (.aload_n 2, 1) := by decide +kernel
theorem d289_534 : decode code 534 = .ok (.invokevirtual 172, 3) := by decide +kernel
theorem d289_537 : decode code 537 = .ok (.iload 6, 2) := by decide +kernel
theorem d289_539 : decode code 539 = .ok (.if_icmp .eq 5, 3) := by decide +kernel
theorem d289_542 : decode code 542 = .ok (.iconst 0, 1) := by decide +kernel
theorem d289_543 : decode code 543 = .ok (.ireturn, 1) := by decide +kernel
theorem d289_544 : decode code 544 = .ok (.iload 6, 2) := by decide +kernel
theorem d289_546 : decode code 546 = .ok (.ifCond .ne 15, 3) := by decide +kernel
theorem d289_549 : decode code 549 = .ok (.aload_n 3, 1) := by decide +kernel
theorem d289_550 : decode code 550 = .ok (.iconst 0, 1) := by decide +kernel
theorem d289_551 : decode code 551 = .ok (.laload, 1) := by decide +kernel
theorem d289_552 : decode code 552 = .ok (.iload 7, 2) := by decide +kernel
theorem d289_554 : decode code 554 = .ok (.i2l, 1) := by decide +kernel
theorem d289_555 : decode code 555 = .ok (.lcmp, 1) := by decide +kernel
theorem d289_556 : decode code 556 = .ok (.ifCond .eq 5, 3) := by decide +kernel
theorem d289_559 : decode code 559 = .ok (.iconst 0, 1) := by decide +kernel
theorem d289_560 : decode code 560 = .ok (.ireturn, 1) := by decide +kernel
theorem d289_561 : decode code 561 = .ok (.goto 2440, 3) := by decide +kernel
theorem d289_564 : decode code 564 = .ok (.aload_n 1, 1) := by decide +kernel
theorem d289_565 : decode code 565 = .ok (.aload_n 0, 1) := by decide +kernel
theorem d289_566 : decode code 566 = .ok (.iload 5, 2) := by decide +kernel
theorem d289_568 : decode code 568 = .ok (.iconst 1, 1) := by decide +kernel
theorem d289_569 : decode code 569 = .ok (.iadd, 1) := by decide +kernel
theorem d289_570 : decode code 570 = .ok (.iaload, 1) := by decide +kernel
theorem d289_571 : decode code 571 = .ok (.i2c, 1) := by decide +kernel
theorem d289_572 : decode code 572 = .ok (.aload_n 0, 1) := by decide +kernel
theorem d289_573 : decode code 573 = .ok (.iload 5, 2) := by decide +kernel
theorem d289_575 : decode code 575 = .ok (.iconst 2, 1) := by decide +kernel
theorem d289_576 : decode code 576 = .ok (.iadd, 1) := by decide +kernel
theorem d289_577 : decode code 577 = .ok (.iaload, 1) := by decide +kernel
theorem d289_578 : decode code 578 = .ok (.aload_n 3, 1) := by decide +kernel
theorem d289_579 : decode code 579 = .ok (.invokestatic 186, 3) := by decide +kernel
theorem d289_582 : decode code 582 = .ok (.istore 6, 2) := by decide +kernel
theorem d289_584 : decode code 584 = .ok (.aload_n 2, 1) := by decide +kernel
theorem d289_585 : decode code 585 = .ok (.aload_n 0, 1) := by decide +kernel
theorem d289_586 : decode code 586 = .ok (.iload 5, 2) := by decide +kernel
theorem d289_588 : decode code 588 = .ok (.iconst 1, 1) := by decide +kernel
theorem d289_589 : decode code 589 = .ok (.iadd, 1) := by decide +kernel
theorem d289_590 : decode code 590 = .ok (.iaload, 1) := by decide +kernel
theorem d289_591 : decode code 591 = .ok (.i2c, 1) := by decide +kernel
theorem d289_592 : decode code 592 = .ok (.aload_n 0, 1) := by decide +kernel
theorem d289_593 : decode code 593 = .ok (.iload 5, 2) := by decide +kernel
theorem d289_595 : decode code 595 = .ok (.iconst 2, 1) := by decide +kernel
theorem d289_596 : decode code 596 = .ok (.iadd, 1) := by decide +kernel
theorem d289_597 : decode code 597 = .ok (.iaload, 1) := by decide +kernel
theorem d289_598 : decode code 598 = .ok (.invokevirtual 189, 3) := by decide +kernel
theorem d289_601 : decode code 601 = .ok (.istore 7, 2) := by decide +kernel
theorem d289_603 : decode code 603 = .ok (.aload_n 2, 1) := by decide +kernel
theorem d289_604 : decode code 604 = .ok (.invokevirtual 172, 3) := by decide +kernel
theorem d289_607 : decode code 607 = .ok (.iload 6, 2) := by decide +kernel
theorem d289_609 : decode code 609 = .ok (.if_icmp .eq 5, 3) := by decide +kernel
theorem d289_612 : decode code 612 = .ok (.iconst 0, 1) := by decide +kernel
theorem d289_613 : decode code 613 = .ok (.ireturn, 1) := by decide +kernel
theorem d289_614 : decode code 614 = .ok (.iload 6, 2) := by decide +kernel
theorem d289_616 : decode code 616 = .ok (.ifCond .ne 15, 3) := by decide +kernel
theorem d289_619 : decode code 619 = .ok (.aload_n 3, 1) := by decide +kernel
theorem d289_620 : decode code 620 = .ok (.iconst 0, 1) := by decide +kernel
theorem d289_621 : decode code 621 = .ok (.laload, 1) := by decide +kernel
theorem d289_622 : decode code 622 = .ok (.iload 7, 2) := by decide +kernel
theorem d289_624 : decode code 624 = .ok (.i2l, 1) := by decide +kernel
theorem d289_625 : decode code 625 = .ok (.lcmp, 1) := by decide +kernel
theorem d289_626 : decode code 626 = .ok (.ifCond .eq 5, 3) := by decide +kernel
theorem d289_629 : decode code 629 = .ok (.iconst 0, 1) := by decide +kernel
theorem d289_630 : decode code 630 = .ok (.ireturn, 1) := by decide +kernel
theorem d289_631 : decode code 631 = .ok (.goto 2370, 3) := by decide +kernel
theorem d289_634 : decode code 634 = .ok (.aload_n 1, 1) := by decide +kernel
theorem d289_635 : decode code 635 = .ok (.aload_n 0, 1) := by decide +kernel
theorem d289_636 : decode code 636 = .ok (.iload 5, 2) := by decide +kernel
theorem d289_638 : decode code 638 = .ok (.iconst 1, 1) := by decide +kernel
theorem d289_639 : decode code 639 = .ok (.iadd, 1) := by decide +kernel
theorem d289_640 : decode code 640 = .ok (.iaload, 1) := by decide +kernel
theorem d289_641 : decode code 641 = .ok (.aload_n 0, 1) := by decide +kernel
theorem d289_642 : decode code 642 = .ok (.iload 5, 2) := by decide +kernel
theorem d289_644 : decode code 644 = .ok (.iconst 2, 1) := by decide +kernel
theorem d289_645 : decode code 645 = .ok (.iadd, 1) := by decide +kernel
theorem d289_646 : decode code 646 = .ok (.iaload, 1) := by decide +kernel
theorem d289_647 : decode code 647 = .ok (.i2c, 1) := by decide +kernel
theorem d289_648 : decode code 648 = .ok (.aload_n 0, 1) := by decide +kernel
theorem d289_649 : decode code 649 = .ok (.iload 5, 2) := by decide +kernel
theorem d289_651 : decode code 651 = .ok (.iconst 3, 1) := by decide +kernel
theorem d289_652 : decode code 652 = .ok (.iadd, 1) := by decide +kernel
theorem d289_653 : decode code 653 = .ok (.iaload, 1) := by decide +kernel
theorem d289_654 : decode code 654 = .ok (.aload_n 3, 1) := by decide +kernel
theorem d289_655 : decode code 655 = .ok (.invokestatic 190, 3) := by decide +kernel
theorem d289_658 : decode code 658 = .ok (.istore 6, 2) := by decide +kernel
theorem d289_660 : decode code 660 = .ok (.aload_n 2, 1) := by decide +kernel
theorem d289_661 : decode code 661 = .ok (.aload_n 0, 1) := by decide +kernel
theorem d289_662 : decode code 662 = .ok (.iload 5, 2) := by decide +kernel
theorem d289_664 : decode code 664 = .ok (.iconst 1, 1) := by decide +kernel
theorem d289_665 : decode code 665 = .ok (.iadd, 1) := by decide +kernel
theorem d289_666 : decode code 666 = .ok (.iaload, 1) := by decide +kernel
theorem d289_667 : decode code 667 = .ok (.aload_n 0, 1) := by decide +kernel
theorem d289_668 : decode code 668 = .ok (.iload 5, 2) := by decide +kernel
theorem d289_670 : decode code 670 = .ok (.iconst 2, 1) := by decide +kernel
theorem d289_671 : decode code 671 = .ok (.iadd, 1) := by decide +kernel
theorem d289_672 : decode code 672 = .ok (.iaload, 1) := by decide +kernel
theorem d289_673 : decode code 673 = .ok (.i2c, 1) := by decide +kernel
theorem d289_674 : decode code 674 = .ok (.aload_n 0, 1) := by decide +kernel
theorem d289_675 : decode code 675 = .ok (.iload 5, 2) := by decide +kernel
theorem d289_677 : decode code 677 = .ok (.iconst 3, 1) := by decide +kernel
theorem d289_678 : decode code 678 = .ok (.iadd, 1) := by decide +kernel
theorem d289_679 : decode code 679 = .ok (.iaload, 1) := by decide +kernel
theorem d289_680 : decode code 680 = .ok (.invokevirtual 193, 3) := by decide +kernel
theorem d289_683 : decode code 683 = .ok (.istore 7, 2) := by decide +kernel
theorem d289_685 : decode code 685 = .ok (.aload_n 2, 1) := by decide +kernel
theorem d289_686 : decode code 686 = .ok (.invokevirtual 172, 3) := by decide +kernel
theorem d289_689 : decode code 689 = .ok (.iload 6, 2) := by decide +kernel
theorem d289_691 : decode code 691 = .ok (.if_icmp .eq 5, 3) := by decide +kernel
theorem d289_694 : decode code 694 = .ok (.iconst 0, 1) := by decide +kernel
theorem d289_695 : decode code 695 = .ok (.ireturn, 1) := by decide +kernel
theorem d289_696 : decode code 696 = .ok (.iload 6, 2) := by decide +kernel
theorem d289_698 : decode code 698 = .ok (.ifCond .ne 15, 3) := by decide +kernel
theorem d289_701 : decode code 701 = .ok (.aload_n 3, 1) := by decide +kernel
theorem d289_702 : decode code 702 = .ok (.iconst 0, 1) := by decide +kernel
theorem d289_703 : decode code 703 = .ok (.laload, 1) := by decide +kernel
theorem d289_704 : decode code 704 = .ok (.iload 7, 2) := by decide +kernel
theorem d289_706 : decode code 706 = .ok (.i2l, 1) := by decide +kernel
theorem d289_707 : decode code 707 = .ok (.lcmp, 1) := by decide +kernel
theorem d289_708 : decode code 708 = .ok (.ifCond .eq 5, 3) := by decide +kernel
theorem d289_711 : decode code 711 = .ok (.iconst 0, 1) := by decide +kernel
theorem d289_712 : decode code 712 = .ok (.ireturn, 1) := by decide +kernel
theorem d289_713 : decode code 713 = .ok (.goto 2288, 3) := by decide +kernel
theorem d289_716 : decode code 716 = .ok (.aload_n 1, 1) := by decide +kernel
theorem d289_717 : decode code 717 = .ok (.aload_n 0, 1) := by decide +kernel
theorem d289_718 : decode code 718 = .ok (.iload 5, 2) := by decide +kernel
theorem d289_720 : decode code 720 = .ok (.iconst 1, 1) := by decide +kernel
theorem d289_721 : decode code 721 = .ok (.iadd, 1) := by decide +kernel
theorem d289_722 : decode code 722 = .ok (.iaload, 1) := by decide +kernel
theorem d289_723 : decode code 723 = .ok (.aload_n 0, 1) := by decide +kernel
theorem d289_724 : decode code 724 = .ok (.iload 5, 2) := by decide +kernel
theorem d289_726 : decode code 726 = .ok (.iconst 2, 1) := by decide +kernel
theorem d289_727 : decode code 727 = .ok (.iadd, 1) := by decide +kernel
theorem d289_728 : decode code 728 = .ok (.iaload, 1) := by decide +kernel
theorem d289_729 : decode code 729 = .ok (.aload_n 3, 1) := by decide +kernel
theorem d289_730 : decode code 730 = .ok (.invokestatic 194, 3) := by decide +kernel
theorem d289_733 : decode code 733 = .ok (.istore 6, 2) := by decide +kernel
theorem d289_735 : decode code 735 = .ok (.aload_n 2, 1) := by decide +kernel
theorem d289_736 : decode code 736 = .ok (.aload_n 0, 1) := by decide +kernel
theorem d289_737 : decode code 737 = .ok (.iload 5, 2) := by decide +kernel
theorem d289_739 : decode code 739 = .ok (.iconst 1, 1) := by decide +kernel
theorem d289_740 : decode code 740 = .ok (.iadd, 1) := by decide +kernel
theorem d289_741 : decode code 741 = .ok (.iaload, 1) := by decide +kernel
theorem d289_742 : decode code 742 = .ok (.aload_n 0, 1) := by decide +kernel
theorem d289_743 : decode code 743 = .ok (.iload 5, 2) := by decide +kernel
theorem d289_745 : decode code 745 = .ok (.iconst 2, 1) := by decide +kernel
theorem d289_746 : decode code 746 = .ok (.iadd, 1) := by decide +kernel
theorem d289_747 : decode code 747 = .ok (.iaload, 1) := by decide +kernel
theorem d289_748 : decode code 748 = .ok (.invokevirtual 196, 3) := by decide +kernel
theorem d289_751 : decode code 751 = .ok (.istore 7, 2) := by decide +kernel
theorem d289_753 : decode code 753 = .ok (.aload_n 2, 1) := by decide +kernel
theorem d289_754 : decode code 754 = .ok (.invokevirtual 172, 3) := by decide +kernel
theorem d289_757 : decode code 757 = .ok (.iload 6, 2) := by decide +kernel
theorem d289_759 : decode code 759 = .ok (.if_icmp .eq 5, 3) := by decide +kernel
theorem d289_762 : decode code 762 = .ok (.iconst 0, 1) := by decide +kernel
theorem d289_763 : decode code 763 = .ok (.ireturn, 1) := by decide +kernel
theorem d289_764 : decode code 764 = .ok (.iload 6, 2) := by decide +kernel
theorem d289_766 : decode code 766 = .ok (.ifCond .ne 15, 3) := by decide +kernel
theorem d289_769 : decode code 769 = .ok (.aload_n 3, 1) := by decide +kernel
theorem d289_770 : decode code 770 = .ok (.iconst 0, 1) := by decide +kernel
theorem d289_771 : decode code 771 = .ok (.laload, 1) := by decide +kernel
theorem d289_772 : decode code 772 = .ok (.iload 7, 2) := by decide +kernel
theorem d289_774 : decode code 774 = .ok (.i2l, 1) := by decide +kernel
theorem d289_775 : decode code 775 = .ok (.lcmp, 1) := by decide +kernel
theorem d289_776 : decode code 776 = .ok (.ifCond .eq 5, 3) := by decide +kernel
theorem d289_779 : decode code 779 = .ok (.iconst 0, 1) := by decide +kernel
theorem d289_780 : decode code 780 = .ok (.ireturn, 1) := by decide +kernel
theorem d289_781 : decode code 781 = .ok (.goto 2220, 3) := by decide +kernel
theorem d289_784 : decode code 784 = .ok (.aload_n 1, 1) := by decide +kernel
theorem d289_785 : decode code 785 = .ok (.aload_n 0, 1) := by decide +kernel
theorem d289_786 : decode code 786 = .ok (.iload 5, 2) := by decide +kernel
theorem d289_788 : decode code 788 = .ok (.iconst 1, 1) := by decide +kernel
theorem d289_789 : decode code 789 = .ok (.iadd, 1) := by decide +kernel
theorem d289_790 : decode code 790 = .ok (.iaload, 1) := by decide +kernel
theorem d289_791 : decode code 791 = .ok (.aload_n 0, 1) := by decide +kernel
theorem d289_792 : decode code 792 = .ok (.iload 5, 2) := by decide +kernel
theorem d289_794 : decode code 794 = .ok (.iconst 2, 1) := by decide +kernel
theorem d289_795 : decode code 795 = .ok (.iadd, 1) := by decide +kernel
theorem d289_796 : decode code 796 = .ok (.iaload, 1) := by decide +kernel
theorem d289_797 : decode code 797 = .ok (.aload_n 3, 1) := by decide +kernel
theorem d289_798 : decode code 798 = .ok (.invokestatic 197, 3) := by decide +kernel
theorem d289_801 : decode code 801 = .ok (.istore 6, 2) := by decide +kernel
theorem d289_803 : decode code 803 = .ok (.aload_n 2, 1) := by decide +kernel
theorem d289_804 : decode code 804 = .ok (.aload_n 0, 1) := by decide +kernel
theorem d289_805 : decode code 805 = .ok (.iload 5, 2) := by decide +kernel
theorem d289_807 : decode code 807 = .ok (.iconst 1, 1) := by decide +kernel
theorem d289_808 : decode code 808 = .ok (.iadd, 1) := by decide +kernel
theorem d289_809 : decode code 809 = .ok (.iaload, 1) := by decide +kernel
theorem d289_810 : decode code 810 = .ok (.aload_n 0, 1) := by decide +kernel
theorem d289_811 : decode code 811 = .ok (.iload 5, 2) := by decide +kernel
theorem d289_813 : decode code 813 = .ok (.iconst 2, 1) := by decide +kernel
theorem d289_814 : decode code 814 = .ok (.iadd, 1) := by decide +kernel
theorem d289_815 : decode code 815 = .ok (.iaload, 1) := by decide +kernel
theorem d289_816 : decode code 816 = .ok (.invokevirtual 199, 3) := by decide +kernel
theorem d289_819 : decode code 819 = .ok (.istore 7, 2) := by decide +kernel
theorem d289_821 : decode code 821 = .ok (.aload_n 2, 1) := by decide +kernel
theorem d289_822 : decode code 822 = .ok (.invokevirtual 172, 3) := by decide +kernel
theorem d289_825 : decode code 825 = .ok (.iload 6, 2) := by decide +kernel
theorem d289_827 : decode code 827 = .ok (.if_icmp .eq 5, 3) := by decide +kernel
theorem d289_830 : decode code 830 = .ok (.iconst 0, 1) := by decide +kernel
theorem d289_831 : decode code 831 = .ok (.ireturn, 1) := by decide +kernel
theorem d289_832 : decode code 832 = .ok (.iload 6, 2) := by decide +kernel
theorem d289_834 : decode code 834 = .ok (.ifCond .ne 15, 3) := by decide +kernel
theorem d289_837 : decode code 837 = .ok (.aload_n 3, 1) := by decide +kernel
theorem d289_838 : decode code 838 = .ok (.iconst 0, 1) := by decide +kernel
theorem d289_839 : decode code 839 = .ok (.laload, 1) := by decide +kernel
theorem d289_840 : decode code 840 = .ok (.iload 7, 2) := by decide +kernel
theorem d289_842 : decode code 842 = .ok (.i2l, 1) := by decide +kernel
theorem d289_843 : decode code 843 = .ok (.lcmp, 1) := by decide +kernel
theorem d289_844 : decode code 844 = .ok (.ifCond .eq 5, 3) := by decide +kernel
theorem d289_847 : decode code 847 = .ok (.iconst 0, 1) := by decide +kernel
theorem d289_848 : decode code 848 = .ok (.ireturn, 1) := by decide +kernel
theorem d289_849 : decode code 849 = .ok (.goto 2152, 3) := by decide +kernel
theorem d289_852 : decode code 852 = .ok (.aload_n 1, 1) := by decide +kernel
theorem d289_853 : decode code 853 = .ok (.aload_n 0, 1) := by decide +kernel
theorem d289_854 : decode code 854 = .ok (.iload 5, 2) := by decide +kernel
theorem d289_856 : decode code 856 = .ok (.iconst 1, 1) := by decide +kernel
theorem d289_857 : decode code 857 = .ok (.iadd, 1) := by decide +kernel
theorem d289_858 : decode code 858 = .ok (.iaload, 1) := by decide +kernel
theorem d289_859 : decode code 859 = .ok (.aload_n 0, 1) := by decide +kernel
theorem d289_860 : decode code 860 = .ok (.iload 5, 2) := by decide +kernel
theorem d289_862 : decode code 862 = .ok (.iconst 2, 1) := by decide +kernel
theorem d289_863 : decode code 863 = .ok (.iadd, 1) := by decide +kernel
theorem d289_864 : decode code 864 = .ok (.iaload, 1) := by decide +kernel
theorem d289_865 : decode code 865 = .ok (.aload_n 3, 1) := by decide +kernel
theorem d289_866 : decode code 866 = .ok (.invokestatic 200, 3) := by decide +kernel
theorem d289_869 : decode code 869 = .ok (.istore 6, 2) := by decide +kernel
theorem d289_871 : decode code 871 = .ok (.aload_n 2, 1) := by decide +kernel
theorem d289_872 : decode code 872 = .ok (.aload_n 0, 1) := by decide +kernel
theorem d289_873 : decode code 873 = .ok (.iload 5, 2) := by decide +kernel
theorem d289_875 : decode code 875 = .ok (.iconst 1, 1) := by decide +kernel
theorem d289_876 : decode code 876 = .ok (.iadd, 1) := by decide +kernel
theorem d289_877 : decode code 877 = .ok (.iaload, 1) := by decide +kernel
theorem d289_878 : decode code 878 = .ok (.aload_n 0, 1) := by decide +kernel
theorem d289_879 : decode code 879 = .ok (.iload 5, 2) := by decide +kernel
theorem d289_881 : decode code 881 = .ok (.iconst 2, 1) := by decide +kernel
theorem d289_882 : decode code 882 = .ok (.iadd, 1) := by decide +kernel
theorem d289_883 : decode code 883 = .ok (.iaload, 1) := by decide +kernel
theorem d289_884 : decode code 884 = .ok (.invokevirtual 202, 3) := by decide +kernel
theorem d289_887 : decode code 887 = .ok (.istore 7, 2) := by decide +kernel
theorem d289_889 : decode code 889 = .ok (.aload_n 2, 1) := by decide +kernel
theorem d289_890 : decode code 890 = .ok (.invokevirtual 172, 3) := by decide +kernel
theorem d289_893 : decode code 893 = .ok (.iload 6, 2) := by decide +kernel
theorem d289_895 : decode code 895 = .ok (.if_icmp .eq 5, 3) := by decide +kernel
theorem d289_898 : decode code 898 = .ok (.iconst 0, 1) := by decide +kernel
theorem d289_899 : decode code 899 = .ok (.ireturn, 1) := by decide +kernel
theorem d289_900 : decode code 900 = .ok (.iload 6, 2) := by decide +kernel
theorem d289_902 : decode code 902 = .ok (.ifCond .ne 15, 3) := by decide +kernel
theorem d289_905 : decode code 905 = .ok (.aload_n 3, 1) := by decide +kernel
theorem d289_906 : decode code 906 = .ok (.iconst 0, 1) := by decide +kernel
theorem d289_907 : decode code 907 = .ok (.laload, 1) := by decide +kernel
theorem d289_908 : decode code 908 = .ok (.iload 7, 2) := by decide +kernel
theorem d289_910 : decode code 910 = .ok (.i2l, 1) := by decide +kernel
theorem d289_911 : decode code 911 = .ok (.lcmp, 1) := by decide +kernel
theorem d289_912 : decode code 912 = .ok (.ifCond .eq 5, 3) := by decide +kernel
theorem d289_915 : decode code 915 = .ok (.iconst 0, 1) := by decide +kernel
theorem d289_916 : decode code 916 = .ok (.ireturn, 1) := by decide +kernel
theorem d289_917 : decode code 917 = .ok (.goto 2084, 3) := by decide +kernel
theorem d289_920 : decode code 920 = .ok (.aload_n 1, 1) := by decide +kernel
theorem d289_921 : decode code 921 = .ok (.aload_n 0, 1) := by decide +kernel
theorem d289_922 : decode code 922 = .ok (.iload 5, 2) := by decide +kernel
theorem d289_924 : decode code 924 = .ok (.iconst 1, 1) := by decide +kernel
theorem d289_925 : decode code 925 = .ok (.iadd, 1) := by decide +kernel
theorem d289_926 : decode code 926 = .ok (.iaload, 1) := by decide +kernel
theorem d289_927 : decode code 927 = .ok (.aload_n 3, 1) := by decide +kernel
theorem d289_928 : decode code 928 = .ok (.invokestatic 203, 3) := by decide +kernel
theorem d289_931 : decode code 931 = .ok (.istore 6, 2) := by decide +kernel
theorem d289_933 : decode code 933 = .ok (.aload_n 2, 1) := by decide +kernel
theorem d289_934 : decode code 934 = .ok (.aload_n 0, 1) := by decide +kernel
theorem d289_935 : decode code 935 = .ok (.iload 5, 2) := by decide +kernel
theorem d289_937 : decode code 937 = .ok (.iconst 1, 1) := by decide +kernel
theorem d289_938 : decode code 938 = .ok (.iadd, 1) := by decide +kernel
theorem d289_939 : decode code 939 = .ok (.iaload, 1) := by decide +kernel
theorem d289_940 : decode code 940 = .ok (.invokevirtual 205, 3) := by decide +kernel
theorem d289_943 : decode code 943 = .ok (.istore 7, 2) := by decide +kernel
theorem d289_945 : decode code 945 = .ok (.aload_n 2, 1) := by decide +kernel
theorem d289_946 : decode code 946 = .ok (.invokevirtual 172, 3) := by decide +kernel
theorem d289_949 : decode code 949 = .ok (.iload 6, 2) := by decide +kernel
theorem d289_951 : decode code 951 = .ok (.if_icmp .eq 5, 3) := by decide +kernel
theorem d289_954 : decode code 954 = .ok (.iconst 0, 1) := by decide +kernel
theorem d289_955 : decode code 955 = .ok (.ireturn, 1) := by decide +kernel
theorem d289_956 : decode code 956 = .ok (.iload 6, 2) := by decide +kernel
theorem d289_958 : decode code 958 = .ok (.ifCond .ne 15, 3) := by decide +kernel
theorem d289_961 : decode code 961 = .ok (.aload_n 3, 1) := by decide +kernel
theorem d289_962 : decode code 962 = .ok (.iconst 0, 1) := by decide +kernel
theorem d289_963 : decode code 963 = .ok (.laload, 1) := by decide +kernel
theorem d289_964 : decode code 964 = .ok (.iload 7, 2) := by decide +kernel
theorem d289_966 : decode code 966 = .ok (.i2l, 1) := by decide +kernel
theorem d289_967 : decode code 967 = .ok (.lcmp, 1) := by decide +kernel
theorem d289_968 : decode code 968 = .ok (.ifCond .eq 5, 3) := by decide +kernel
theorem d289_971 : decode code 971 = .ok (.iconst 0, 1) := by decide +kernel
theorem d289_972 : decode code 972 = .ok (.ireturn, 1) := by decide +kernel
theorem d289_973 : decode code 973 = .ok (.goto 2028, 3) := by decide +kernel
theorem d289_976 : decode code 976 = .ok (.aload_n 1, 1) := by decide +kernel
theorem d289_977 : decode code 977 = .ok (.aload_n 0, 1) := by decide +kernel
theorem d289_978 : decode code 978 = .ok (.iload 5, 2) := by decide +kernel
theorem d289_980 : decode code 980 = .ok (.iconst 1, 1) := by decide +kernel
theorem d289_981 : decode code 981 = .ok (.iadd, 1) := by decide +kernel
theorem d289_982 : decode code 982 = .ok (.iaload, 1) := by decide +kernel
theorem d289_983 : decode code 983 = .ok (.aload_n 0, 1) := by decide +kernel
theorem d289_984 : decode code 984 = .ok (.iload 5, 2) := by decide +kernel
theorem d289_986 : decode code 986 = .ok (.iconst 2, 1) := by decide +kernel
theorem d289_987 : decode code 987 = .ok (.iadd, 1) := by decide +kernel
theorem d289_988 : decode code 988 = .ok (.iaload, 1) := by decide +kernel
theorem d289_989 : decode code 989 = .ok (.aload_n 3, 1) := by decide +kernel
theorem d289_990 : decode code 990 = .ok (.invokestatic 206, 3) := by decide +kernel
theorem d289_993 : decode code 993 = .ok (.istore 6, 2) := by decide +kernel
theorem d289_995 : decode code 995 = .ok (.aload_n 2, 1) := by decide +kernel
theorem d289_996 : decode code 996 = .ok (.aload_n 0, 1) := by decide +kernel
theorem d289_997 : decode code 997 = .ok (.iload 5, 2) := by decide +kernel
theorem d289_999 : decode code 999 = .ok (.iconst 1, 1) := by decide +kernel
theorem d289_1000 : decode code 1000 = .ok (.iadd, 1) := by decide +kernel
theorem d289_1001 : decode code 1001 = .ok (.iaload, 1) := by decide +kernel
theorem d289_1002 : decode code 1002 = .ok (.aload_n 0, 1) := by decide +kernel
theorem d289_1003 : decode code 1003 = .ok (.iload 5, 2) := by decide +kernel
theorem d289_1005 : decode code 1005 = .ok (.iconst 2, 1) := by decide +kernel
theorem d289_1006 : decode code 1006 = .ok (.iadd, 1) := by decide +kernel
theorem d289_1007 : decode code 1007 = .ok (.iaload, 1) := by decide +kernel
theorem d289_1008 : decode code 1008 = .ok (.invokevirtual 208, 3) := by decide +kernel
theorem d289_1011 : decode code 1011 = .ok (.istore 7, 2) := by decide +kernel
theorem d289_1013 : decode code 1013 = .ok (.aload_n 2, 1) := by decide +kernel
theorem d289_1014 : decode code 1014 = .ok (.invokevirtual 172, 3) := by decide +kernel
theorem d289_1017 : decode code 1017 = .ok (.iload 6, 2) := by decide +kernel
theorem d289_1019 : decode code 1019 = .ok (.if_icmp .eq 5, 3) := by decide +kernel
theorem d289_1022 : decode code 1022 = .ok (.iconst 0, 1) := by decide +kernel
theorem d289_1023 : decode code 1023 = .ok (.ireturn, 1) := by decide +kernel
theorem d289_1024 : decode code 1024 = .ok (.iload 6, 2) := by decide +kernel
theorem d289_1026 : decode code 1026 = .ok (.ifCond .ne 15, 3) := by decide +kernel
theorem d289_1029 : decode code 1029 = .ok (.aload_n 3, 1) := by decide +kernel
theorem d289_1030 : decode code 1030 = .ok (.iconst 0, 1) := by decide +kernel
theorem d289_1031 : decode code 1031 = .ok (.laload, 1) := by decide +kernel
theorem d289_1032 : decode code 1032 = .ok (.iload 7, 2) := by decide +kernel
theorem d289_1034 : decode code 1034 = .ok (.i2l, 1) := by decide +kernel
theorem d289_1035 : decode code 1035 = .ok (.lcmp, 1) := by decide +kernel
theorem d289_1036 : decode code 1036 = .ok (.ifCond .eq 5, 3) := by decide +kernel
theorem d289_1039 : decode code 1039 = .ok (.iconst 0, 1) := by decide +kernel
theorem d289_1040 : decode code 1040 = .ok (.ireturn, 1) := by decide +kernel
theorem d289_1041 : decode code 1041 = .ok (.goto 1960, 3) := by decide +kernel
theorem d289_1044 : decode code 1044 = .ok (.aload_n 1, 1) := by decide +kernel
theorem d289_1045 : decode code 1045 = .ok (.invokevirtual 209, 3) := by decide +kernel
theorem d289_1048 : decode code 1048 = .ok (.aload_n 2, 1) := by decide +kernel
theorem d289_1049 : decode code 1049 = .ok (.invokevirtual 212, 3) := by decide +kernel
theorem d289_1052 : decode code 1052 = .ok (.if_icmp .eq 1949, 3) := by decide +kernel
theorem d289_1055 : decode code 1055 = .ok (.iconst 0, 1) := by decide +kernel
theorem d289_1056 : decode code 1056 = .ok (.ireturn, 1) := by decide +kernel
theorem d289_1057 : decode code 1057 = .ok (.aload_n 1, 1) := by decide +kernel
theorem d289_1058 : decode code 1058 = .ok (.aload_n 0, 1) := by decide +kernel
theorem d289_1059 : decode code 1059 = .ok (.iload 5, 2) := by decide +kernel
theorem d289_1061 : decode code 1061 = .ok (.iconst 1, 1) := by decide +kernel
theorem d289_1062 : decode code 1062 = .ok (.iadd, 1) := by decide +kernel
theorem d289_1063 : decode code 1063 = .ok (.iaload, 1) := by decide +kernel
theorem d289_1064 : decode code 1064 = .ok (.invokevirtual 213, 3) := by decide +kernel
theorem d289_1067 : decode code 1067 = .ok (.aload_n 2, 1) := by decide +kernel
theorem d289_1068 : decode code 1068 = .ok (.aload_n 0, 1) := by decide +kernel
theorem d289_1069 : decode code 1069 = .ok (.iload 5, 2) := by decide +kernel
theorem d289_1071 : decode code 1071 = .ok (.iconst 1, 1) := by decide +kernel
theorem d289_1072 : decode code 1072 = .ok (.iadd, 1) := by decide +kernel
theorem d289_1073 : decode code 1073 = .ok (.iaload, 1) := by decide +kernel
theorem d289_1074 : decode code 1074 = .ok (.invokevirtual 216, 3) := by decide +kernel
theorem d289_1077 : decode code 1077 = .ok (.if_icmp .eq 1924, 3) := by decide +kernel
theorem d289_1080 : decode code 1080 = .ok (.iconst 0, 1) := by decide +kernel
theorem d289_1081 : decode code 1081 = .ok (.ireturn, 1) := by decide +kernel
theorem d289_1082 : decode code 1082 = .ok (.aload_n 1, 1) := by decide +kernel
theorem d289_1083 : decode code 1083 = .ok (.aload_n 0, 1) := by decide +kernel
theorem d289_1084 : decode code 1084 = .ok (.iload 5, 2) := by decide +kernel
theorem d289_1086 : decode code 1086 = .ok (.iconst 1, 1) := by decide +kernel
theorem d289_1087 : decode code 1087 = .ok (.iadd, 1) := by decide +kernel
theorem d289_1088 : decode code 1088 = .ok (.iaload, 1) := by decide +kernel
theorem d289_1089 : decode code 1089 = .ok (.aload_n 3, 1) := by decide +kernel
theorem d289_1090 : decode code 1090 = .ok (.invokestatic 217, 3) := by decide +kernel
theorem d289_1093 : decode code 1093 = .ok (.istore 6, 2) := by decide +kernel
theorem d289_1095 : decode code 1095 = .ok (.aload_n 2, 1) := by decide +kernel
theorem d289_1096 : decode code 1096 = .ok (.aload_n 0, 1) := by decide +kernel
theorem d289_1097 : decode code 1097 = .ok (.iload 5, 2) := by decide +kernel
theorem d289_1099 : decode code 1099 = .ok (.iconst 1, 1) := by decide +kernel
theorem d289_1100 : decode code 1100 = .ok (.iadd, 1) := by decide +kernel
theorem d289_1101 : decode code 1101 = .ok (.iaload, 1) := by decide +kernel
theorem d289_1102 : decode code 1102 = .ok (.invokevirtual 219, 3) := by decide +kernel
theorem d289_1105 : decode code 1105 = .ok (.istore 7, 2) := by decide +kernel
theorem d289_1107 : decode code 1107 = .ok (.aload_n 2, 1) := by decide +kernel
theorem d289_1108 : decode code 1108 = .ok (.invokevirtual 172, 3) := by decide +kernel
theorem d289_1111 : decode code 1111 = .ok (.iload 6, 2) := by decide +kernel
theorem d289_1113 : decode code 1113 = .ok (.if_icmp .eq 5, 3) := by decide +kernel
theorem d289_1116 : decode code 1116 = .ok (.iconst 0, 1) := by decide +kernel
theorem d289_1117 : decode code 1117 = .ok (.ireturn, 1) := by decide +kernel
theorem d289_1118 : decode code 1118 = .ok (.iload 6, 2) := by decide +kernel
theorem d289_1120 : decode code 1120 = .ok (.ifCond .ne 15, 3) := by decide +kernel
theorem d289_1123 : decode code 1123 = .ok (.aload_n 3, 1) := by decide +kernel
theorem d289_1124 : decode code 1124 = .ok (.iconst 0, 1) := by decide +kernel
theorem d289_1125 : decode code 1125 = .ok (.laload, 1) := by decide +kernel
theorem d289_1126 : decode code 1126 = .ok (.iload 7, 2) := by decide +kernel
theorem d289_1128 : decode code 1128 = .ok (.i2l, 1) := by decide +kernel
theorem d289_1129 : decode code 1129 = .ok (.lcmp, 1) := by decide +kernel
theorem d289_1130 : decode code 1130 = .ok (.ifCond .eq 5, 3) := by decide +kernel
theorem d289_1133 : decode code 1133 = .ok (.iconst 0, 1) := by decide +kernel
theorem d289_1134 : decode code 1134 = .ok (.ireturn, 1) := by decide +kernel
theorem d289_1135 : decode code 1135 = .ok (.goto 1866, 3) := by decide +kernel
theorem d289_1138 : decode code 1138 = .ok (.aload_n 1, 1) := by decide +kernel
theorem d289_1139 : decode code 1139 = .ok (.aload_n 0, 1) := by decide +kernel
theorem d289_1140 : decode code 1140 = .ok (.iload 5, 2) := by decide +kernel
theorem d289_1142 : decode code 1142 = .ok (.iconst 1, 1) := by decide +kernel
theorem d289_1143 : decode code 1143 = .ok (.iadd, 1) := by decide +kernel
theorem d289_1144 : decode code 1144 = .ok (.iaload, 1) := by decide +kernel
theorem d289_1145 : decode code 1145 = .ok (.aload_n 3, 1) := by decide +kernel
theorem d289_1146 : decode code 1146 = .ok (.invokestatic 220, 3) := by decide +kernel
theorem d289_1149 : decode code 1149 = .ok (.istore 6, 2) := by decide +kernel
theorem d289_1151 : decode code 1151 = .ok (.aload_n 2, 1) := by decide +kernel
theorem d289_1152 : decode code 1152 = .ok (.aload_n 0, 1) := by decide +kernel
theorem d289_1153 : decode code 1153 = .ok (.iload 5, 2) := by decide +kernel
theorem d289_1155 : decode code 1155 = .ok (.iconst 1, 1) := by decide +kernel
theorem d289_1156 : decode code 1156 = .ok (.iadd, 1) := by decide +kernel
theorem d289_1157 : decode code 1157 = .ok (.iaload, 1) := by decide +kernel
theorem d289_1158 : decode code 1158 = .ok (.invokevirtual 222, 3) := by decide +kernel
theorem d289_1161 : decode code 1161 = .ok (.istore 7, 2) := by decide +kernel
theorem d289_1163 : decode code 1163 = .ok (.aload_n 2, 1) := by decide +kernel
theorem d289_1164 : decode code 1164 = .ok (.invokevirtual 172, 3) := by decide +kernel
theorem d289_1167 : decode code 1167 = .ok (.iload 6, 2) := by decide +kernel
theorem d289_1169 : decode code 1169 = .ok (.if_icmp .eq 5, 3) := by decide +kernel
theorem d289_1172 : decode code 1172 = .ok (.iconst 0, 1) := by decide +kernel
theorem d289_1173 : decode code 1173 = .ok (.ireturn, 1) := by decide +kernel
theorem d289_1174 : decode code 1174 = .ok (.iload 6, 2) := by decide +kernel
theorem d289_1176 : decode code 1176 = .ok (.ifCond .ne 15, 3) := by decide +kernel
theorem d289_1179 : decode code 1179 = .ok (.aload_n 3, 1) := by decide +kernel
theorem d289_1180 : decode code 1180 = .ok (.iconst 0, 1) := by decide +kernel
theorem d289_1181 : decode code 1181 = .ok (.laload, 1) := by decide +kernel
theorem d289_1182 : decode code 1182 = .ok (.iload 7, 2) := by decide +kernel
theorem d289_1184 : decode code 1184 = .ok (.i2l, 1) := by decide +kernel
theorem d289_1185 : decode code 1185 = .ok (.lcmp, 1) := by decide +kernel
theorem d289_1186 : decode code 1186 = .ok (.ifCond .eq 5, 3) := by decide +kernel
theorem d289_1189 : decode code 1189 = .ok (.iconst 0, 1) := by decide +kernel
theorem d289_1190 : decode code 1190 = .ok (.ireturn, 1) := by decide +kernel
theorem d289_1191 : decode code 1191 = .ok (.goto 1810, 3) := by decide +kernel
theorem d289_1194 : decode code 1194 = .ok (.aload_n 1, 1) := by decide +kernel
theorem d289_1195 : decode code 1195 = .ok (.aload_n 0, 1) := by decide +kernel
theorem d289_1196 : decode code 1196 = .ok (.iload 5, 2) := by decide +kernel
theorem d289_1198 : decode code 1198 = .ok (.iconst 1, 1) := by decide +kernel
theorem d289_1199 : decode code 1199 = .ok (.iadd, 1) := by decide +kernel
theorem d289_1200 : decode code 1200 = .ok (.iaload, 1) := by decide +kernel
theorem d289_1201 : decode code 1201 = .ok (.aload_n 3, 1) := by decide +kernel
theorem d289_1202 : decode code 1202 = .ok (.invokestatic 223, 3) := by decide +kernel
theorem d289_1205 : decode code 1205 = .ok (.istore 6, 2) := by decide +kernel
theorem d289_1207 : decode code 1207 = .ok (.aload_n 2, 1) := by decide +kernel
theorem d289_1208 : decode code 1208 = .ok (.aload_n 0, 1) := by decide +kernel
theorem d289_1209 : decode code 1209 = .ok (.iload 5, 2) := by decide +kernel
theorem d289_1211 : decode code 1211 = .ok (.iconst 1, 1) := by decide +kernel
theorem d289_1212 : decode code 1212 = .ok (.iadd, 1) := by decide +kernel
theorem d289_1213 : decode code 1213 = .ok (.iaload, 1) := by decide +kernel
theorem d289_1214 : decode code 1214 = .ok (.invokevirtual 225, 3) := by decide +kernel
theorem d289_1217 : decode code 1217 = .ok (.istore 7, 2) := by decide +kernel
theorem d289_1219 : decode code 1219 = .ok (.aload_n 2, 1) := by decide +kernel
theorem d289_1220 : decode code 1220 = .ok (.invokevirtual 172, 3) := by decide +kernel
theorem d289_1223 : decode code 1223 = .ok (.iload 6, 2) := by decide +kernel
theorem d289_1225 : decode code 1225 = .ok (.if_icmp .eq 5, 3) := by decide +kernel
theorem d289_1228 : decode code 1228 = .ok (.iconst 0, 1) := by decide +kernel
theorem d289_1229 : decode code 1229 = .ok (.ireturn, 1) := by decide +kernel
theorem d289_1230 : decode code 1230 = .ok (.iload 6, 2) := by decide +kernel
theorem d289_1232 : decode code 1232 = .ok (.ifCond .ne 15, 3) := by decide +kernel
theorem d289_1235 : decode code 1235 = .ok (.aload_n 3, 1) := by decide +kernel
theorem d289_1236 : decode code 1236 = .ok (.iconst 0, 1) := by decide +kernel
theorem d289_1237 : decode code 1237 = .ok (.laload, 1) := by decide +kernel
theorem d289_1238 : decode code 1238 = .ok (.iload 7, 2) := by decide +kernel
theorem d289_1240 : decode code 1240 = .ok (.i2l, 1) := by decide +kernel
theorem d289_1241 : decode code 1241 = .ok (.lcmp, 1) := by decide +kernel
theorem d289_1242 : decode code 1242 = .ok (.ifCond .eq 5, 3) := by decide +kernel
theorem d289_1245 : decode code 1245 = .ok (.iconst 0, 1) := by decide +kernel
theorem d289_1246 : decode code 1246 = .ok (.ireturn, 1) := by decide +kernel
theorem d289_1247 : decode code 1247 = .ok (.goto 1754, 3) := by decide +kernel
theorem d289_1250 : decode code 1250 = .ok (.aload_n 1, 1) := by decide +kernel
theorem d289_1251 : decode code 1251 = .ok (.aload_n 0, 1) := by decide +kernel
theorem d289_1252 : decode code 1252 = .ok (.iload 5, 2) := by decide +kernel
theorem d289_1254 : decode code 1254 = .ok (.iconst 1, 1) := by decide +kernel
theorem d289_1255 : decode code 1255 = .ok (.iadd, 1) := by decide +kernel
theorem d289_1256 : decode code 1256 = .ok (.iaload, 1) := by decide +kernel
theorem d289_1257 : decode code 1257 = .ok (.aload_n 3, 1) := by decide +kernel
theorem d289_1258 : decode code 1258 = .ok (.invokestatic 226, 3) := by decide +kernel
theorem d289_1261 : decode code 1261 = .ok (.istore 6, 2) := by decide +kernel
theorem d289_1263 : decode code 1263 = .ok (.aload_n 2, 1) := by decide +kernel
theorem d289_1264 : decode code 1264 = .ok (.aload_n 0, 1) := by decide +kernel
theorem d289_1265 : decode code 1265 = .ok (.iload 5, 2) := by decide +kernel
theorem d289_1267 : decode code 1267 = .ok (.iconst 1, 1) := by decide +kernel
theorem d289_1268 : decode code 1268 = .ok (.iadd, 1) := by decide +kernel
theorem d289_1269 : decode code 1269 = .ok (.iaload, 1) := by decide +kernel
theorem d289_1270 : decode code 1270 = .ok (.invokevirtual 228, 3) := by decide +kernel
theorem d289_1273 : decode code 1273 = .ok (.istore 7, 2) := by decide +kernel
theorem d289_1275 : decode code 1275 = .ok (.aload_n 2, 1) := by decide +kernel
theorem d289_1276 : decode code 1276 = .ok (.invokevirtual 172, 3) := by decide +kernel
theorem d289_1279 : decode code 1279 = .ok (.iload 6, 2) := by decide +kernel
theorem d289_1281 : decode code 1281 = .ok (.if_icmp .eq 5, 3) := by decide +kernel
theorem d289_1284 : decode code 1284 = .ok (.iconst 0, 1) := by decide +kernel
theorem d289_1285 : decode code 1285 = .ok (.ireturn, 1) := by decide +kernel
theorem d289_1286 : decode code 1286 = .ok (.iload 6, 2) := by decide +kernel
theorem d289_1288 : decode code 1288 = .ok (.ifCond .ne 15, 3) := by decide +kernel
theorem d289_1291 : decode code 1291 = .ok (.aload_n 3, 1) := by decide +kernel
theorem d289_1292 : decode code 1292 = .ok (.iconst 0, 1) := by decide +kernel
theorem d289_1293 : decode code 1293 = .ok (.laload, 1) := by decide +kernel
theorem d289_1294 : decode code 1294 = .ok (.iload 7, 2) := by decide +kernel
theorem d289_1296 : decode code 1296 = .ok (.i2l, 1) := by decide +kernel
theorem d289_1297 : decode code 1297 = .ok (.lcmp, 1) := by decide +kernel
theorem d289_1298 : decode code 1298 = .ok (.ifCond .eq 5, 3) := by decide +kernel
theorem d289_1301 : decode code 1301 = .ok (.iconst 0, 1) := by decide +kernel
theorem d289_1302 : decode code 1302 = .ok (.ireturn, 1) := by decide +kernel
theorem d289_1303 : decode code 1303 = .ok (.goto 1698, 3) := by decide +kernel
theorem d289_1306 : decode code 1306 = .ok (.aload_n 1, 1) := by decide +kernel
theorem d289_1307 : decode code 1307 = .ok (.aload_n 0, 1) := by decide +kernel
theorem d289_1308 : decode code 1308 = .ok (.iload 5, 2) := by decide +kernel
theorem d289_1310 : decode code 1310 = .ok (.iconst 1, 1) := by decide +kernel
theorem d289_1311 : decode code 1311 = .ok (.iadd, 1) := by decide +kernel
theorem d289_1312 : decode code 1312 = .ok (.iaload, 1) := by decide +kernel
theorem d289_1313 : decode code 1313 = .ok (.aload_n 3, 1) := by decide +kernel
theorem d289_1314 : decode code 1314 = .ok (.invokestatic 229, 3) := by decide +kernel
theorem d289_1317 : decode code 1317 = .ok (.istore 6, 2) := by decide +kernel
theorem d289_1319 : decode code 1319 = .ok (.aload_n 2, 1) := by decide +kernel
theorem d289_1320 : decode code 1320 = .ok (.aload_n 0, 1) := by decide +kernel
theorem d289_1321 : decode code 1321 = .ok (.iload 5, 2) := by decide +kernel
theorem d289_1323 : decode code 1323 = .ok (.iconst 1, 1) := by decide +kernel
theorem d289_1324 : decode code 1324 = .ok (.iadd, 1) := by decide +kernel
theorem d289_1325 : decode code 1325 = .ok (.iaload, 1) := by decide +kernel
theorem d289_1326 : decode code 1326 = .ok (.invokevirtual 231, 3) := by decide +kernel
theorem d289_1329 : decode code 1329 = .ok (.istore 7, 2) := by decide +kernel
theorem d289_1331 : decode code 1331 = .ok (.aload_n 2, 1) := by decide +kernel
theorem d289_1332 : decode code 1332 = .ok (.invokevirtual 172, 3) := by decide +kernel
theorem d289_1335 : decode code 1335 = .ok (.iload 6, 2) := by decide +kernel
theorem d289_1337 : decode code 1337 = .ok (.if_icmp .eq 5, 3) := by decide +kernel
theorem d289_1340 : decode code 1340 = .ok (.iconst 0, 1) := by decide +kernel
theorem d289_1341 : decode code 1341 = .ok (.ireturn, 1) := by decide +kernel
theorem d289_1342 : decode code 1342 = .ok (.iload 6, 2) := by decide +kernel
theorem d289_1344 : decode code 1344 = .ok (.ifCond .ne 15, 3) := by decide +kernel
theorem d289_1347 : decode code 1347 = .ok (.aload_n 3, 1) := by decide +kernel
theorem d289_1348 : decode code 1348 = .ok (.iconst 0, 1) := by decide +kernel
theorem d289_1349 : decode code 1349 = .ok (.laload, 1) := by decide +kernel
theorem d289_1350 : decode code 1350 = .ok (.iload 7, 2) := by decide +kernel
theorem d289_1352 : decode code 1352 = .ok (.i2l, 1) := by decide +kernel
theorem d289_1353 : decode code 1353 = .ok (.lcmp, 1) := by decide +kernel
theorem d289_1354 : decode code 1354 = .ok (.ifCond .eq 5, 3) := by decide +kernel
theorem d289_1357 : decode code 1357 = .ok (.iconst 0, 1) := by decide +kernel
theorem d289_1358 : decode code 1358 = .ok (.ireturn, 1) := by decide +kernel
theorem d289_1359 : decode code 1359 = .ok (.goto 1642, 3) := by decide +kernel
theorem d289_1362 : decode code 1362 = .ok (.aload_n 1, 1) := by decide +kernel
theorem d289_1363 : decode code 1363 = .ok (.aload_n 0, 1) := by decide +kernel
theorem d289_1364 : decode code 1364 = .ok (.iload 5, 2) := by decide +kernel
theorem d289_1366 : decode code 1366 = .ok (.iconst 1, 1) := by decide +kernel
theorem d289_1367 : decode code 1367 = .ok (.iadd, 1) := by decide +kernel
theorem d289_1368 : decode code 1368 = .ok (.iaload, 1) := by decide +kernel
theorem d289_1369 : decode code 1369 = .ok (.i2c, 1) := by decide +kernel
theorem d289_1370 : decode code 1370 = .ok (.aload_n 3, 1) := by decide +kernel
theorem d289_1371 : decode code 1371 = .ok (.invokestatic 232, 3) := by decide +kernel
theorem d289_1374 : decode code 1374 = .ok (.istore 6, 2) := by decide +kernel
theorem d289_1376 : decode code 1376 = .ok (.aload_n 2, 1) := by decide +kernel
theorem d289_1377 : decode code 1377 = .ok (.aload_n 0, 1) := by decide +kernel
theorem d289_1378 : decode code 1378 = .ok (.iload 5, 2) := by decide +kernel
theorem d289_1380 : decode code 1380 = .ok (.iconst 1, 1) := by decide +kernel
theorem d289_1381 : decode code 1381 = .ok (.iadd, 1) := by decide +kernel
theorem d289_1382 : decode code 1382 = .ok (.iaload, 1) := by decide +kernel
theorem d289_1383 : decode code 1383 = .ok (.i2c, 1) := by decide +kernel
theorem d289_1384 : decode code 1384 = .ok (.invokevirtual 235, 3) := by decide +kernel
theorem d289_1387 : decode code 1387 = .ok (.istore 7, 2) := by decide +kernel
theorem d289_1389 : decode code 1389 = .ok (.aload_n 2, 1) := by decide +kernel
theorem d289_1390 : decode code 1390 = .ok (.invokevirtual 172, 3) := by decide +kernel
theorem d289_1393 : decode code 1393 = .ok (.iload 6, 2) := by decide +kernel
theorem d289_1395 : decode code 1395 = .ok (.if_icmp .eq 5, 3) := by decide +kernel
theorem d289_1398 : decode code 1398 = .ok (.iconst 0, 1) := by decide +kernel
theorem d289_1399 : decode code 1399 = .ok (.ireturn, 1) := by decide +kernel
theorem d289_1400 : decode code 1400 = .ok (.iload 6, 2) := by decide +kernel
theorem d289_1402 : decode code 1402 = .ok (.ifCond .ne 15, 3) := by decide +kernel
theorem d289_1405 : decode code 1405 = .ok (.aload_n 3, 1) := by decide +kernel
theorem d289_1406 : decode code 1406 = .ok (.iconst 0, 1) := by decide +kernel
theorem d289_1407 : decode code 1407 = .ok (.laload, 1) := by decide +kernel
theorem d289_1408 : decode code 1408 = .ok (.iload 7, 2) := by decide +kernel
theorem d289_1410 : decode code 1410 = .ok (.i2l, 1) := by decide +kernel
theorem d289_1411 : decode code 1411 = .ok (.lcmp, 1) := by decide +kernel
theorem d289_1412 : decode code 1412 = .ok (.ifCond .eq 5, 3) := by decide +kernel
theorem d289_1415 : decode code 1415 = .ok (.iconst 0, 1) := by decide +kernel
theorem d289_1416 : decode code 1416 = .ok (.ireturn, 1) := by decide +kernel
theorem d289_1417 : decode code 1417 = .ok (.goto 1584, 3) := by decide +kernel
theorem d289_1420 : decode code 1420 = .ok (.aload_n 1, 1) := by decide +kernel
theorem d289_1421 : decode code 1421 = .ok (.aload_n 0, 1) := by decide +kernel
theorem d289_1422 : decode code 1422 = .ok (.iload 5, 2) := by decide +kernel
theorem d289_1424 : decode code 1424 = .ok (.iconst 1, 1) := by decide +kernel
theorem d289_1425 : decode code 1425 = .ok (.iadd, 1) := by decide +kernel
theorem d289_1426 : decode code 1426 = .ok (.iaload, 1) := by decide +kernel
theorem d289_1427 : decode code 1427 = .ok (.aload_n 0, 1) := by decide +kernel
theorem d289_1428 : decode code 1428 = .ok (.iload 5, 2) := by decide +kernel
theorem d289_1430 : decode code 1430 = .ok (.iconst 2, 1) := by decide +kernel
theorem d289_1431 : decode code 1431 = .ok (.iadd, 1) := by decide +kernel
theorem d289_1432 : decode code 1432 = .ok (.iaload, 1) := by decide +kernel
theorem d289_1433 : decode code 1433 = .ok (.i2c, 1) := by decide +kernel
theorem d289_1434 : decode code 1434 = .ok (.aload_n 3, 1) := by decide +kernel
theorem d289_1435 : decode code 1435 = .ok (.invokestatic 236, 3) := by decide +kernel
theorem d289_1438 : decode code 1438 = .ok (.istore 6, 2) := by decide +kernel
theorem d289_1440 : decode code 1440 = .ok (.aload_n 2, 1) := by decide +kernel
theorem d289_1441 : decode code 1441 = .ok (.aload_n 0, 1) := by decide +kernel
theorem d289_1442 : decode code 1442 = .ok (.iload 5, 2) := by decide +kernel
theorem d289_1444 : decode code 1444 = .ok (.iconst 1, 1) := by decide +kernel
theorem d289_1445 : decode code 1445 = .ok (.iadd, 1) := by decide +kernel
theorem d289_1446 : decode code 1446 = .ok (.iaload, 1) := by decide +kernel
theorem d289_1447 : decode code 1447 = .ok (.aload_n 0, 1) := by decide +kernel
theorem d289_1448 : decode code 1448 = .ok (.iload 5, 2) := by decide +kernel
theorem d289_1450 : decode code 1450 = .ok (.iconst 2, 1) := by decide +kernel
theorem d289_1451 : decode code 1451 = .ok (.iadd, 1) := by decide +kernel
theorem d289_1452 : decode code 1452 = .ok (.iaload, 1) := by decide +kernel
theorem d289_1453 : decode code 1453 = .ok (.i2c, 1) := by decide +kernel
theorem d289_1454 : decode code 1454 = .ok (.invokevirtual 239, 3) := by decide +kernel
theorem d289_1457 : decode code 1457 = .ok (.istore 7, 2) := by decide +kernel
theorem d289_1459 : decode code 1459 = .ok (.aload_n 2, 1) := by decide +kernel
theorem d289_1460 : decode code 1460 = .ok (.invokevirtual 172, 3) := by decide +kernel
theorem d289_1463 : decode code 1463 = .ok (.iload 6, 2) := by decide +kernel
theorem d289_1465 : decode code 1465 = .ok (.if_icmp .eq 5, 3) := by decide +kernel
theorem d289_1468 : decode code 1468 = .ok (.iconst 0, 1) := by decide +kernel
theorem d289_1469 : decode code 1469 = .ok (.ireturn, 1) := by decide +kernel
theorem d289_1470 : decode code 1470 = .ok (.iload 6, 2) := by decide +kernel
theorem d289_1472 : decode code 1472 = .ok (.ifCond .ne 15, 3) := by decide +kernel
theorem d289_1475 : decode code 1475 = .ok (.aload_n 3, 1) := by decide +kernel
theorem d289_1476 : decode code 1476 = .ok (.iconst 0, 1) := by decide +kernel
theorem d289_1477 : decode code 1477 = .ok (.laload, 1) := by decide +kernel
theorem d289_1478 : decode code 1478 = .ok (.iload 7, 2) := by decide +kernel
theorem d289_1480 : decode code 1480 = .ok (.i2l, 1) := by decide +kernel
theorem d289_1481 : decode code 1481 = .ok (.lcmp, 1) := by decide +kernel
theorem d289_1482 : decode code 1482 = .ok (.ifCond .eq 5, 3) := by decide +kernel
theorem d289_1485 : decode code 1485 = .ok (.iconst 0, 1) := by decide +kernel
theorem d289_1486 : decode code 1486 = .ok (.ireturn, 1) := by decide +kernel
theorem d289_1487 : decode code 1487 = .ok (.goto 1514, 3) := by decide +kernel
theorem d289_1490 : decode code 1490 = .ok (.aload_n 1, 1) := by decide +kernel
theorem d289_1491 : decode code 1491 = .ok (.aload_n 0, 1) := by decide +kernel
theorem d289_1492 : decode code 1492 = .ok (.iload 5, 2) := by decide +kernel
theorem d289_1494 : decode code 1494 = .ok (.iconst 1, 1) := by decide +kernel
theorem d289_1495 : decode code 1495 = .ok (.iadd, 1) := by decide +kernel
theorem d289_1496 : decode code 1496 = .ok (.iaload, 1) := by decide +kernel
theorem d289_1497 : decode code 1497 = .ok (.aload_n 3, 1) := by decide +kernel
theorem d289_1498 : decode code 1498 = .ok (.invokestatic 240, 3) := by decide +kernel
theorem d289_1501 : decode code 1501 = .ok (.istore 6, 2) := by decide +kernel
theorem d289_1503 : decode code 1503 = .ok (.aload_n 2, 1) := by decide +kernel
theorem d289_1504 : decode code 1504 = .ok (.aload_n 0, 1) := by decide +kernel
theorem d289_1505 : decode code 1505 = .ok (.iload 5, 2) := by decide +kernel
theorem d289_1507 : decode code 1507 = .ok (.iconst 1, 1) := by decide +kernel
theorem d289_1508 : decode code 1508 = .ok (.iadd, 1) := by decide +kernel
theorem d289_1509 : decode code 1509 = .ok (.iaload, 1) := by decide +kernel
theorem d289_1510 : decode code 1510 = .ok (.invokevirtual 242, 3) := by decide +kernel
theorem d289_1513 : decode code 1513 = .ok (.istore 7, 2) := by decide +kernel
theorem d289_1515 : decode code 1515 = .ok (.aload_n 2, 1) := by decide +kernel
theorem d289_1516 : decode code 1516 = .ok (.invokevirtual 172, 3) := by decide +kernel
theorem d289_1519 : decode code 1519 = .ok (.iload 6, 2) := by decide +kernel
theorem d289_1521 : decode code 1521 = .ok (.if_icmp .eq 5, 3) := by decide +kernel
theorem d289_1524 : decode code 1524 = .ok (.iconst 0, 1) := by decide +kernel
theorem d289_1525 : decode code 1525 = .ok (.ireturn, 1) := by decide +kernel
theorem d289_1526 : decode code 1526 = .ok (.iload 6, 2) := by decide +kernel
theorem d289_1528 : decode code 1528 = .ok (.ifCond .ne 15, 3) := by decide +kernel
theorem d289_1531 : decode code 1531 = .ok (.aload_n 3, 1) := by decide +kernel
theorem d289_1532 : decode code 1532 = .ok (.iconst 0, 1) := by decide +kernel
theorem d289_1533 : decode code 1533 = .ok (.laload, 1) := by decide +kernel
theorem d289_1534 : decode code 1534 = .ok (.iload 7, 2) := by decide +kernel
theorem d289_1536 : decode code 1536 = .ok (.i2l, 1) := by decide +kernel
theorem d289_1537 : decode code 1537 = .ok (.lcmp, 1) := by decide +kernel
theorem d289_1538 : decode code 1538 = .ok (.ifCond .eq 5, 3) := by decide +kernel
theorem d289_1541 : decode code 1541 = .ok (.iconst 0, 1) := by decide +kernel
theorem d289_1542 : decode code 1542 = .ok (.ireturn, 1) := by decide +kernel
theorem d289_1543 : decode code 1543 = .ok (.goto 1458, 3) := by decide +kernel
theorem d289_1546 : decode code 1546 = .ok (.aload_n 1, 1) := by decide +kernel
theorem d289_1547 : decode code 1547 = .ok (.aload_n 0, 1) := by decide +kernel
theorem d289_1548 : decode code 1548 = .ok (.iload 5, 2) := by decide +kernel
theorem d289_1550 : decode code 1550 = .ok (.iconst 1, 1) := by decide +kernel
theorem d289_1551 : decode code 1551 = .ok (.iadd, 1) := by decide +kernel
theorem d289_1552 : decode code 1552 = .ok (.iaload, 1) := by decide +kernel
theorem d289_1553 : decode code 1553 = .ok (.aload_n 3, 1) := by decide +kernel
theorem d289_1554 : decode code 1554 = .ok (.invokestatic 243, 3) := by decide +kernel
theorem d289_1557 : decode code 1557 = .ok (.istore 6, 2) := by decide +kernel
theorem d289_1559 : decode code 1559 = .ok (.aload_n 2, 1) := by decide +kernel
theorem d289_1560 : decode code 1560 = .ok (.aload_n 0, 1) := by decide +kernel
theorem d289_1561 : decode code 1561 = .ok (.iload 5, 2) := by decide +kernel
theorem d289_1563 : decode code 1563 = .ok (.iconst 1, 1) := by decide +kernel
theorem d289_1564 : decode code 1564 = .ok (.iadd, 1) := by decide +kernel
theorem d289_1565 : decode code 1565 = .ok (.iaload, 1) := by decide +kernel
theorem d289_1566 : decode code 1566 = .ok (.invokevirtual 245, 3) := by decide +kernel
theorem d289_1569 : decode code 1569 = .ok (.istore 7, 2) := by decide +kernel
theorem d289_1571 : decode code 1571 = .ok (.aload_n 2, 1) := by decide +kernel
theorem d289_1572 : decode code 1572 = .ok (.invokevirtual 172, 3) := by decide +kernel
theorem d289_1575 : decode code 1575 = .ok (.iload 6, 2) := by decide +kernel
theorem d289_1577 : decode code 1577 = .ok (.if_icmp .eq 5, 3) := by decide +kernel
theorem d289_1580 : decode code 1580 = .ok (.iconst 0, 1) := by decide +kernel
theorem d289_1581 : decode code 1581 = .ok (.ireturn, 1) := by decide +kernel
theorem d289_1582 : decode code 1582 = .ok (.iload 6, 2) := by decide +kernel
theorem d289_1584 : decode code 1584 = .ok (.ifCond .ne 15, 3) := by decide +kernel
theorem d289_1587 : decode code 1587 = .ok (.aload_n 3, 1) := by decide +kernel
theorem d289_1588 : decode code 1588 = .ok (.iconst 0, 1) := by decide +kernel
theorem d289_1589 : decode code 1589 = .ok (.laload, 1) := by decide +kernel
theorem d289_1590 : decode code 1590 = .ok (.iload 7, 2) := by decide +kernel
theorem d289_1592 : decode code 1592 = .ok (.i2l, 1) := by decide +kernel
theorem d289_1593 : decode code 1593 = .ok (.lcmp, 1) := by decide +kernel
theorem d289_1594 : decode code 1594 = .ok (.ifCond .eq 5, 3) := by decide +kernel
theorem d289_1597 : decode code 1597 = .ok (.iconst 0, 1) := by decide +kernel
theorem d289_1598 : decode code 1598 = .ok (.ireturn, 1) := by decide +kernel
theorem d289_1599 : decode code 1599 = .ok (.goto 1402, 3) := by decide +kernel
theorem d289_1602 : decode code 1602 = .ok (.aload_n 1, 1) := by decide +kernel
theorem d289_1603 : decode code 1603 = .ok (.aload_n 0, 1) := by decide +kernel
theorem d289_1604 : decode code 1604 = .ok (.iload 5, 2) := by decide +kernel
theorem d289_1606 : decode code 1606 = .ok (.iconst 1, 1) := by decide +kernel
theorem d289_1607 : decode code 1607 = .ok (.iadd, 1) := by decide +kernel
theorem d289_1608 : decode code 1608 = .ok (.iaload, 1) := by decide +kernel
theorem d289_1609 : decode code 1609 = .ok (.aload_n 3, 1) := by decide +kernel
theorem d289_1610 : decode code 1610 = .ok (.invokestatic 246, 3) := by decide +kernel
theorem d289_1613 : decode code 1613 = .ok (.istore 6, 2) := by decide +kernel
theorem d289_1615 : decode code 1615 = .ok (.aload_n 2, 1) := by decide +kernel
theorem d289_1616 : decode code 1616 = .ok (.aload_n 0, 1) := by decide +kernel
theorem d289_1617 : decode code 1617 = .ok (.iload 5, 2) := by decide +kernel
theorem d289_1619 : decode code 1619 = .ok (.iconst 1, 1) := by decide +kernel
theorem d289_1620 : decode code 1620 = .ok (.iadd, 1) := by decide +kernel
theorem d289_1621 : decode code 1621 = .ok (.iaload, 1) := by decide +kernel
theorem d289_1622 : decode code 1622 = .ok (.invokevirtual 248, 3) := by decide +kernel
theorem d289_1625 : decode code 1625 = .ok (.istore 7, 2) := by decide +kernel
theorem d289_1627 : decode code 1627 = .ok (.aload_n 2, 1) := by decide +kernel
theorem d289_1628 : decode code 1628 = .ok (.invokevirtual 172, 3) := by decide +kernel
theorem d289_1631 : decode code 1631 = .ok (.iload 6, 2) := by decide +kernel
theorem d289_1633 : decode code 1633 = .ok (.if_icmp .eq 5, 3) := by decide +kernel
theorem d289_1636 : decode code 1636 = .ok (.iconst 0, 1) := by decide +kernel
theorem d289_1637 : decode code 1637 = .ok (.ireturn, 1) := by decide +kernel
theorem d289_1638 : decode code 1638 = .ok (.iload 6, 2) := by decide +kernel
theorem d289_1640 : decode code 1640 = .ok (.ifCond .ne 15, 3) := by decide +kernel
theorem d289_1643 : decode code 1643 = .ok (.aload_n 3, 1) := by decide +kernel
theorem d289_1644 : decode code 1644 = .ok (.iconst 0, 1) := by decide +kernel
theorem d289_1645 : decode code 1645 = .ok (.laload, 1) := by decide +kernel
theorem d289_1646 : decode code 1646 = .ok (.iload 7, 2) := by decide +kernel
theorem d289_1648 : decode code 1648 = .ok (.i2l, 1) := by decide +kernel
theorem d289_1649 : decode code 1649 = .ok (.lcmp, 1) := by decide +kernel
theorem d289_1650 : decode code 1650 = .ok (.ifCond .eq 5, 3) := by decide +kernel
theorem d289_1653 : decode code 1653 = .ok (.iconst 0, 1) := by decide +kernel
theorem d289_1654 : decode code 1654 = .ok (.ireturn, 1) := by decide +kernel
theorem d289_1655 : decode code 1655 = .ok (.goto 1346, 3) := by decide +kernel
theorem d289_1658 : decode code 1658 = .ok (.aload_n 1, 1) := by decide +kernel
theorem d289_1659 : decode code 1659 = .ok (.aload_n 0, 1) := by decide +kernel
theorem d289_1660 : decode code 1660 = .ok (.iload 5, 2) := by decide +kernel
theorem d289_1662 : decode code 1662 = .ok (.iconst 1, 1) := by decide +kernel
theorem d289_1663 : decode code 1663 = .ok (.iadd, 1) := by decide +kernel
theorem d289_1664 : decode code 1664 = .ok (.iaload, 1) := by decide +kernel
theorem d289_1665 : decode code 1665 = .ok (.aload_n 3, 1) := by decide +kernel
theorem d289_1666 : decode code 1666 = .ok (.invokestatic 249, 3) := by decide +kernel
theorem d289_1669 : decode code 1669 = .ok (.istore 6, 2) := by decide +kernel
theorem d289_1671 : decode code 1671 = .ok (.aload_n 2, 1) := by decide +kernel
theorem d289_1672 : decode code 1672 = .ok (.aload_n 0, 1) := by decide +kernel
theorem d289_1673 : decode code 1673 = .ok (.iload 5, 2) := by decide +kernel
theorem d289_1675 : decode code 1675 = .ok (.iconst 1, 1) := by decide +kernel
theorem d289_1676 : decode code 1676 = .ok (.iadd, 1) := by decide +kernel
theorem d289_1677 : decode code 1677 = .ok (.iaload, 1) := by decide +kernel
theorem d289_1678 : decode code 1678 = .ok (.invokevirtual 251, 3) := by decide +kernel
theorem d289_1681 : decode code 1681 = .ok (.istore 7, 2) := by decide +kernel
theorem d289_1683 : decode code 1683 = .ok (.aload_n 2, 1) := by decide +kernel
theorem d289_1684 : decode code 1684 = .ok (.invokevirtual 172, 3) := by decide +kernel
theorem d289_1687 : decode code 1687 = .ok (.iload 6, 2) := by decide +kernel
theorem d289_1689 : decode code 1689 = .ok (.if_icmp .eq 5, 3) := by decide +kernel
theorem d289_1692 : decode code 1692 = .ok (.iconst 0, 1) := by decide +kernel
theorem d289_1693 : decode code 1693 = .ok (.ireturn, 1) := by decide +kernel
theorem d289_1694 : decode code 1694 = .ok (.iload 6, 2) := by decide +kernel
theorem d289_1696 : decode code 1696 = .ok (.ifCond .ne 15, 3) := by decide +kernel
theorem d289_1699 : decode code 1699 = .ok (.aload_n 3, 1) := by decide +kernel
theorem d289_1700 : decode code 1700 = .ok (.iconst 0, 1) := by decide +kernel
theorem d289_1701 : decode code 1701 = .ok (.laload, 1) := by decide +kernel
theorem d289_1702 : decode code 1702 = .ok (.iload 7, 2) := by decide +kernel
theorem d289_1704 : decode code 1704 = .ok (.i2l, 1) := by decide +kernel
theorem d289_1705 : decode code 1705 = .ok (.lcmp, 1) := by decide +kernel
theorem d289_1706 : decode code 1706 = .ok (.ifCond .eq 5, 3) := by decide +kernel
theorem d289_1709 : decode code 1709 = .ok (.iconst 0, 1) := by decide +kernel
theorem d289_1710 : decode code 1710 = .ok (.ireturn, 1) := by decide +kernel
theorem d289_1711 : decode code 1711 = .ok (.goto 1290, 3) := by decide +kernel
theorem d289_1714 : decode code 1714 = .ok (.aload_n 1, 1) := by decide +kernel
theorem d289_1715 : decode code 1715 = .ok (.aload_n 0, 1) := by decide +kernel
theorem d289_1716 : decode code 1716 = .ok (.iload 5, 2) := by decide +kernel
theorem d289_1718 : decode code 1718 = .ok (.iconst 1, 1) := by decide +kernel
theorem d289_1719 : decode code 1719 = .ok (.iadd, 1) := by decide +kernel
theorem d289_1720 : decode code 1720 = .ok (.iaload, 1) := by decide +kernel
theorem d289_1721 : decode code 1721 = .ok (.aload_n 3, 1) := by decide +kernel
theorem d289_1722 : decode code 1722 = .ok (.invokestatic 252, 3) := by decide +kernel
theorem d289_1725 : decode code 1725 = .ok (.istore 6, 2) := by decide +kernel
theorem d289_1727 : decode code 1727 = .ok (.aload_n 2, 1) := by decide +kernel
theorem d289_1728 : decode code 1728 = .ok (.aload_n 0, 1) := by decide +kernel
theorem d289_1729 : decode code 1729 = .ok (.iload 5, 2) := by decide +kernel
theorem d289_1731 : decode code 1731 = .ok (.iconst 1, 1) := by decide +kernel
theorem d289_1732 : decode code 1732 = .ok (.iadd, 1) := by decide +kernel
theorem d289_1733 : decode code 1733 = .ok (.iaload, 1) := by decide +kernel
theorem d289_1734 : decode code 1734 = .ok (.invokevirtual 254, 3) := by decide +kernel
theorem d289_1737 : decode code 1737 = .ok (.istore 7, 2) := by decide +kernel
theorem d289_1739 : decode code 1739 = .ok (.aload_n 2, 1) := by decide +kernel
theorem d289_1740 : decode code 1740 = .ok (.invokevirtual 172, 3) := by decide +kernel
theorem d289_1743 : decode code 1743 = .ok (.iload 6, 2) := by decide +kernel
theorem d289_1745 : decode code 1745 = .ok (.if_icmp .eq 5, 3) := by decide +kernel
theorem d289_1748 : decode code 1748 = .ok (.iconst 0, 1) := by decide +kernel
theorem d289_1749 : decode code 1749 = .ok (.ireturn, 1) := by decide +kernel
theorem d289_1750 : decode code 1750 = .ok (.iload 6, 2) := by decide +kernel
theorem d289_1752 : decode code 1752 = .ok (.ifCond .ne 15, 3) := by decide +kernel
theorem d289_1755 : decode code 1755 = .ok (.aload_n 3, 1) := by decide +kernel
theorem d289_1756 : decode code 1756 = .ok (.iconst 0, 1) := by decide +kernel
theorem d289_1757 : decode code 1757 = .ok (.laload, 1) := by decide +kernel
theorem d289_1758 : decode code 1758 = .ok (.iload 7, 2) := by decide +kernel
theorem d289_1760 : decode code 1760 = .ok (.i2l, 1) := by decide +kernel
theorem d289_1761 : decode code 1761 = .ok (.lcmp, 1) := by decide +kernel
theorem d289_1762 : decode code 1762 = .ok (.ifCond .eq 5, 3) := by decide +kernel
theorem d289_1765 : decode code 1765 = .ok (.iconst 0, 1) := by decide +kernel
theorem d289_1766 : decode code 1766 = .ok (.ireturn, 1) := by decide +kernel
theorem d289_1767 : decode code 1767 = .ok (.goto 1234, 3) := by decide +kernel
theorem d289_1770 : decode code 1770 = .ok (.aload_n 1, 1) := by decide +kernel
theorem d289_1771 : decode code 1771 = .ok (.aload_n 0, 1) := by decide +kernel
theorem d289_1772 : decode code 1772 = .ok (.iload 5, 2) := by decide +kernel
theorem d289_1774 : decode code 1774 = .ok (.iconst 1, 1) := by decide +kernel
theorem d289_1775 : decode code 1775 = .ok (.iadd, 1) := by decide +kernel
theorem d289_1776 : decode code 1776 = .ok (.iaload, 1) := by decide +kernel
theorem d289_1777 : decode code 1777 = .ok (.aload_n 3, 1) := by decide +kernel
theorem d289_1778 : decode code 1778 = .ok (.invokestatic 255, 3) := by decide +kernel
theorem d289_1781 : decode code 1781 = .ok (.istore 6, 2) := by decide +kernel
theorem d289_1783 : decode code 1783 = .ok (.aload_n 2, 1) := by decide +kernel
theorem d289_1784 : decode code 1784 = .ok (.aload_n 0, 1) := by decide +kernel
theorem d289_1785 : decode code 1785 = .ok (.iload 5, 2) := by decide +kernel
theorem d289_1787 : decode code 1787 = .ok (.iconst 1, 1) := by decide +kernel
theorem d289_1788 : decode code 1788 = .ok (.iadd, 1) := by decide +kernel
theorem d289_1789 : decode code 1789 = .ok (.iaload, 1) := by decide +kernel
theorem d289_1790 : decode code 1790 = .ok (.invokevirtual 257, 3) := by decide +kernel
theorem d289_1793 : decode code 1793 = .ok (.istore 7, 2) := by decide +kernel
theorem d289_1795 : decode code 1795 = .ok (.aload_n 2, 1) := by decide +kernel
theorem d289_1796 : decode code 1796 = .ok (.invokevirtual 172, 3) := by decide +kernel
theorem d289_1799 : decode code 1799 = .ok (.iload 6, 2) := by decide +kernel
theorem d289_1801 : decode code 1801 = .ok (.if_icmp .eq 5, 3) := by decide +kernel
theorem d289_1804 : decode code 1804 = .ok (.iconst 0, 1) := by decide +kernel
theorem d289_1805 : decode code 1805 = .ok (.ireturn, 1) := by decide +kernel
theorem d289_1806 : decode code 1806 = .ok (.iload 6, 2) := by decide +kernel
theorem d289_1808 : decode code 1808 = .ok (.ifCond .ne 22, 3) := by decide +kernel
theorem d289_1811 : decode code 1811 = .ok (.aload_n 3, 1) := by decide +kernel
theorem d289_1812 : decode code 1812 = .ok (.iconst 0, 1) := by decide +kernel
theorem d289_1813 : decode code 1813 = .ok (.laload, 1) := by decide +kernel
theorem d289_1814 : decode code 1814 = .ok (.iload 7, 2) := by decide +kernel
theorem d289_1816 : decode code 1816 = .ok (.ifCond .eq 7, 3) := by decide +kernel
theorem d289_1819 : decode code 1819 = .ok (.lconst 1, 1) := by decide +kernel
theorem d289_1820 : decode code 1820 = .ok (.goto 4, 3) := by decide +kernel
theorem d289_1823 : decode code 1823 = .ok (.lconst 0, 1) := by decide +kernel
theorem d289_1824 : decode code 1824 = .ok (.lcmp, 1) := by decide +kernel
theorem d289_1825 : decode code 1825 = .ok (.ifCond .eq 5, 3) := by decide +kernel
theorem d289_1828 : decode code 1828 = .ok (.iconst 0, 1) := by decide +kernel
theorem d289_1829 : decode code 1829 = .ok (.ireturn, 1) := by decide +kernel
theorem d289_1830 : decode code 1830 = .ok (.goto 1171, 3) := by decide +kernel
theorem d289_1833 : decode code 1833 = .ok (.aload_n 1, 1) := by decide +kernel
theorem d289_1834 : decode code 1834 = .ok (.aload_n 0, 1) := by decide +kernel
theorem d289_1835 : decode code 1835 = .ok (.iload 5, 2) := by decide +kernel
theorem d289_1837 : decode code 1837 = .ok (.iconst 1, 1) := by decide +kernel
theorem d289_1838 : decode code 1838 = .ok (.iadd, 1) := by decide +kernel
theorem d289_1839 : decode code 1839 = .ok (.iaload, 1) := by decide +kernel
theorem d289_1840 : decode code 1840 = .ok (.aload_n 3, 1) := by decide +kernel
theorem d289_1841 : decode code 1841 = .ok (.invokestatic 258, 3) := by decide +kernel
theorem d289_1844 : decode code 1844 = .ok (.istore 6, 2) := by decide +kernel
theorem d289_1846 : decode code 1846 = .ok (.aload_n 2, 1) := by decide +kernel
theorem d289_1847 : decode code 1847 = .ok (.aload_n 0, 1) := by decide +kernel
theorem d289_1848 : decode code 1848 = .ok (.iload 5, 2) := by decide +kernel
theorem d289_1850 : decode code 1850 = .ok (.iconst 1, 1) := by decide +kernel
theorem d289_1851 : decode code 1851 = .ok (.iadd, 1) := by decide +kernel
theorem d289_1852 : decode code 1852 = .ok (.iaload, 1) := by decide +kernel
theorem d289_1853 : decode code 1853 = .ok (.invokevirtual 260, 3) := by decide +kernel
theorem d289_1856 : decode code 1856 = .ok (.istore 7, 2) := by decide +kernel
theorem d289_1858 : decode code 1858 = .ok (.aload_n 2, 1) := by decide +kernel
theorem d289_1859 : decode code 1859 = .ok (.invokevirtual 172, 3) := by decide +kernel
theorem d289_1862 : decode code 1862 = .ok (.iload 6, 2) := by decide +kernel
theorem d289_1864 : decode code 1864 = .ok (.if_icmp .eq 5, 3) := by decide +kernel
theorem d289_1867 : decode code 1867 = .ok (.iconst 0, 1) := by decide +kernel
theorem d289_1868 : decode code 1868 = .ok (.ireturn, 1) := by decide +kernel
theorem d289_1869 : decode code 1869 = .ok (.iload 6, 2) := by decide +kernel
theorem d289_1871 : decode code 1871 = .ok (.ifCond .ne 15, 3) := by decide +kernel
theorem d289_1874 : decode code 1874 = .ok (.aload_n 3, 1) := by decide +kernel
theorem d289_1875 : decode code 1875 = .ok (.iconst 0, 1) := by decide +kernel
theorem d289_1876 : decode code 1876 = .ok (.laload, 1) := by decide +kernel
theorem d289_1877 : decode code 1877 = .ok (.iload 7, 2) := by decide +kernel
theorem d289_1879 : decode code 1879 = .ok (.i2l, 1) := by decide +kernel
theorem d289_1880 : decode code 1880 = .ok (.lcmp, 1) := by decide +kernel
theorem d289_1881 : decode code 1881 = .ok (.ifCond .eq 5, 3) := by decide +kernel
theorem d289_1884 : decode code 1884 = .ok (.iconst 0, 1) := by decide +kernel
theorem d289_1885 : decode code 1885 = .ok (.ireturn, 1) := by decide +kernel
theorem d289_1886 : decode code 1886 = .ok (.goto 1115, 3) := by decide +kernel
theorem d289_1889 : decode code 1889 = .ok (.aload_n 1, 1) := by decide +kernel
theorem d289_1890 : decode code 1890 = .ok (.aload_n 0, 1) := by decide +kernel
theorem d289_1891 : decode code 1891 = .ok (.iload 5, 2) := by decide +kernel
theorem d289_1893 : decode code 1893 = .ok (.iconst 1, 1) := by decide +kernel
theorem d289_1894 : decode code 1894 = .ok (.iadd, 1) := by decide +kernel
theorem d289_1895 : decode code 1895 = .ok (.iaload, 1) := by decide +kernel
theorem d289_1896 : decode code 1896 = .ok (.aload_n 0, 1) := by decide +kernel
theorem d289_1897 : decode code 1897 = .ok (.iload 5, 2) := by decide +kernel
theorem d289_1899 : decode code 1899 = .ok (.iconst 2, 1) := by decide +kernel
theorem d289_1900 : decode code 1900 = .ok (.iadd, 1) := by decide +kernel
theorem d289_1901 : decode code 1901 = .ok (.iaload, 1) := by decide +kernel
theorem d289_1902 : decode code 1902 = .ok (.aload_n 3, 1) := by decide +kernel
theorem d289_1903 : decode code 1903 = .ok (.invokestatic 261, 3) := by decide +kernel
theorem d289_1906 : decode code 1906 = .ok (.istore 6, 2) := by decide +kernel
theorem d289_1908 : decode code 1908 = .ok (.aload_n 2, 1) := by decide +kernel
theorem d289_1909 : decode code 1909 = .ok (.aload_n 0, 1) := by decide +kernel
theorem d289_1910 : decode code 1910 = .ok (.iload 5, 2) := by decide +kernel
theorem d289_1912 : decode code 1912 = .ok (.iconst 1, 1) := by decide +kernel
theorem d289_1913 : decode code 1913 = .ok (.iadd, 1) := by decide +kernel
theorem d289_1914 : decode code 1914 = .ok (.iaload, 1) := by decide +kernel
theorem d289_1915 : decode code 1915 = .ok (.aload_n 0, 1) := by decide +kernel
theorem d289_1916 : decode code 1916 = .ok (.iload 5, 2) := by decide +kernel
theorem d289_1918 : decode code 1918 = .ok (.iconst 2, 1) := by decide +kernel
theorem d289_1919 : decode code 1919 = .ok (.iadd, 1) := by decide +kernel
theorem d289_1920 : decode code 1920 = .ok (.iaload, 1) := by decide +kernel
theorem d289_1921 : decode code 1921 = .ok (.invokevirtual 263, 3) := by decide +kernel
theorem d289_1924 : decode code 1924 = .ok (.istore 7, 2) := by decide +kernel
theorem d289_1926 : decode code 1926 = .ok (.aload_n 2, 1) := by decide +kernel
theorem d289_1927 : decode code 1927 = .ok (.invokevirtual 172, 3) := by decide +kernel
theorem d289_1930 : decode code 1930 = .ok (.iload 6, 2) := by decide +kernel
theorem d289_1932 : decode code 1932 = .ok (.if_icmp .eq 5, 3) := by decide +kernel
theorem d289_1935 : decode code 1935 = .ok (.iconst 0, 1) := by decide +kernel
theorem d289_1936 : decode code 1936 = .ok (.ireturn, 1) := by decide +kernel
theorem d289_1937 : decode code 1937 = .ok (.iload 6, 2) := by decide +kernel
theorem d289_1939 : decode code 1939 = .ok (.ifCond .ne 22, 3) := by decide +kernel
theorem d289_1942 : decode code 1942 = .ok (.aload_n 3, 1) := by decide +kernel
theorem d289_1943 : decode code 1943 = .ok (.iconst 0, 1) := by decide +kernel
theorem d289_1944 : decode code 1944 = .ok (.laload, 1) := by decide +kernel
theorem d289_1945 : decode code 1945 = .ok (.iload 7, 2) := by decide +kernel
theorem d289_1947 : decode code 1947 = .ok (.ifCond .eq 7, 3) := by decide +kernel
theorem d289_1950 : decode code 1950 = .ok (.lconst 1, 1) := by decide +kernel
theorem d289_1951 : decode code 1951 = .ok (.goto 4, 3) := by decide +kernel
theorem d289_1954 : decode code 1954 = .ok (.lconst 0, 1) := by decide +kernel
theorem d289_1955 : decode code 1955 = .ok (.lcmp, 1) := by decide +kernel
theorem d289_1956 : decode code 1956 = .ok (.ifCond .eq 5, 3) := by decide +kernel
theorem d289_1959 : decode code 1959 = .ok (.iconst 0, 1) := by decide +kernel
theorem d289_1960 : decode code 1960 = .ok (.ireturn, 1) := by decide +kernel
theorem d289_1961 : decode code 1961 = .ok (.goto 1040, 3) := by decide +kernel
theorem d289_1964 : decode code 1964 = .ok (.aload_n 1, 1) := by decide +kernel
theorem d289_1965 : decode code 1965 = .ok (.aload_n 0, 1) := by decide +kernel
theorem d289_1966 : decode code 1966 = .ok (.iload 5, 2) := by decide +kernel
theorem d289_1968 : decode code 1968 = .ok (.iconst 1, 1) := by decide +kernel
theorem d289_1969 : decode code 1969 = .ok (.iadd, 1) := by decide +kernel
theorem d289_1970 : decode code 1970 = .ok (.iaload, 1) := by decide +kernel
theorem d289_1971 : decode code 1971 = .ok (.aload_n 0, 1) := by decide +kernel
theorem d289_1972 : decode code 1972 = .ok (.iload 5, 2) := by decide +kernel
theorem d289_1974 : decode code 1974 = .ok (.iconst 2, 1) := by decide +kernel
theorem d289_1975 : decode code 1975 = .ok (.iadd, 1) := by decide +kernel
theorem d289_1976 : decode code 1976 = .ok (.iaload, 1) := by decide +kernel
theorem d289_1977 : decode code 1977 = .ok (.aload_n 3, 1) := by decide +kernel
theorem d289_1978 : decode code 1978 = .ok (.invokestatic 264, 3) := by decide +kernel
theorem d289_1981 : decode code 1981 = .ok (.istore 6, 2) := by decide +kernel
theorem d289_1983 : decode code 1983 = .ok (.aload_n 2, 1) := by decide +kernel
theorem d289_1984 : decode code 1984 = .ok (.aload_n 0, 1) := by decide +kernel
theorem d289_1985 : decode code 1985 = .ok (.iload 5, 2) := by decide +kernel
theorem d289_1987 : decode code 1987 = .ok (.iconst 1, 1) := by decide +kernel
theorem d289_1988 : decode code 1988 = .ok (.iadd, 1) := by decide +kernel
theorem d289_1989 : decode code 1989 = .ok (.iaload, 1) := by decide +kernel
theorem d289_1990 : decode code 1990 = .ok (.aload_n 0, 1) := by decide +kernel
theorem d289_1991 : decode code 1991 = .ok (.iload 5, 2) := by decide +kernel
theorem d289_1993 : decode code 1993 = .ok (.iconst 2, 1) := by decide +kernel
theorem d289_1994 : decode code 1994 = .ok (.iadd, 1) := by decide +kernel
theorem d289_1995 : decode code 1995 = .ok (.iaload, 1) := by decide +kernel
theorem d289_1996 : decode code 1996 = .ok (.invokevirtual 266, 3) := by decide +kernel
theorem d289_1999 : decode code 1999 = .ok (.istore 7, 2) := by decide +kernel
theorem d289_2001 : decode code 2001 = .ok (.aload_n 2, 1) := by decide +kernel
theorem d289_2002 : decode code 2002 = .ok (.invokevirtual 172, 3) := by decide +kernel
theorem d289_2005 : decode code 2005 = .ok (.iload 6, 2) := by decide +kernel
theorem d289_2007 : decode code 2007 = .ok (.if_icmp .eq 5, 3) := by decide +kernel
theorem d289_2010 : decode code 2010 = .ok (.iconst 0, 1) := by decide +kernel
theorem d289_2011 : decode code 2011 = .ok (.ireturn, 1) := by decide +kernel
theorem d289_2012 : decode code 2012 = .ok (.iload 6, 2) := by decide +kernel
theorem d289_2014 : decode code 2014 = .ok (.ifCond .ne 15, 3) := by decide +kernel
theorem d289_2017 : decode code 2017 = .ok (.aload_n 3, 1) := by decide +kernel
theorem d289_2018 : decode code 2018 = .ok (.iconst 0, 1) := by decide +kernel
theorem d289_2019 : decode code 2019 = .ok (.laload, 1) := by decide +kernel
theorem d289_2020 : decode code 2020 = .ok (.iload 7, 2) := by decide +kernel
theorem d289_2022 : decode code 2022 = .ok (.i2l, 1) := by decide +kernel
theorem d289_2023 : decode code 2023 = .ok (.lcmp, 1) := by decide +kernel
theorem d289_2024 : decode code 2024 = .ok (.ifCond .eq 5, 3) := by decide +kernel
theorem d289_2027 : decode code 2027 = .ok (.iconst 0, 1) := by decide +kernel
theorem d289_2028 : decode code 2028 = .ok (.ireturn, 1) := by decide +kernel
theorem d289_2029 : decode code 2029 = .ok (.goto 972, 3) := by decide +kernel
theorem d289_2032 : decode code 2032 = .ok (.aload_n 1, 1) := by decide +kernel
theorem d289_2033 : decode code 2033 = .ok (.aload_n 0, 1) := by decide +kernel
theorem d289_2034 : decode code 2034 = .ok (.iload 5, 2) := by decide +kernel
theorem d289_2036 : decode code 2036 = .ok (.iconst 1, 1) := by decide +kernel
theorem d289_2037 : decode code 2037 = .ok (.iadd, 1) := by decide +kernel
theorem d289_2038 : decode code 2038 = .ok (.iaload, 1) := by decide +kernel
theorem d289_2039 : decode code 2039 = .ok (.aload_n 3, 1) := by decide +kernel
theorem d289_2040 : decode code 2040 = .ok (.invokestatic 267, 3) := by decide +kernel
theorem d289_2043 : decode code 2043 = .ok (.istore 6, 2) := by decide +kernel
theorem d289_2045 : decode code 2045 = .ok (.aload_n 2, 1) := by decide +kernel
theorem d289_2046 : decode code 2046 = .ok (.aload_n 0, 1) := by decide +kernel
theorem d289_2047 : decode code 2047 = .ok (.iload 5, 2) := by decide +kernel
theorem d289_2049 : decode code 2049 = .ok (.iconst 1, 1) := by decide +kernel
theorem d289_2050 : decode code 2050 = .ok (.iadd, 1) := by decide +kernel
theorem d289_2051 : decode code 2051 = .ok (.iaload, 1) := by decide +kernel
theorem d289_2052 : decode code 2052 = .ok (.invokevirtual 269, 3) := by decide +kernel
theorem d289_2055 : decode code 2055 = .ok (.istore 7, 2) := by decide +kernel
theorem d289_2057 : decode code 2057 = .ok (.aload_n 2, 1) := by decide +kernel
theorem d289_2058 : decode code 2058 = .ok (.invokevirtual 172, 3) := by decide +kernel
theorem d289_2061 : decode code 2061 = .ok (.iload 6, 2) := by decide +kernel
theorem d289_2063 : decode code 2063 = .ok (.if_icmp .eq 5, 3) := by decide +kernel
theorem d289_2066 : decode code 2066 = .ok (.iconst 0, 1) := by decide +kernel
theorem d289_2067 : decode code 2067 = .ok (.ireturn, 1) := by decide +kernel
theorem d289_2068 : decode code 2068 = .ok (.iload 6, 2) := by decide +kernel
theorem d289_2070 : decode code 2070 = .ok (.ifCond .ne 15, 3) := by decide +kernel
theorem d289_2073 : decode code 2073 = .ok (.aload_n 3, 1) := by decide +kernel
theorem d289_2074 : decode code 2074 = .ok (.iconst 0, 1) := by decide +kernel
theorem d289_2075 : decode code 2075 = .ok (.laload, 1) := by decide +kernel
theorem d289_2076 : decode code 2076 = .ok (.iload 7, 2) := by decide +kernel
theorem d289_2078 : decode code 2078 = .ok (.i2l, 1) := by decide +kernel
theorem d289_2079 : decode code 2079 = .ok (.lcmp, 1) := by decide +kernel
theorem d289_2080 : decode code 2080 = .ok (.ifCond .eq 5, 3) := by decide +kernel
theorem d289_2083 : decode code 2083 = .ok (.iconst 0, 1) := by decide +kernel
theorem d289_2084 : decode code 2084 = .ok (.ireturn, 1) := by decide +kernel
theorem d289_2085 : decode code 2085 = .ok (.goto 916, 3) := by decide +kernel
theorem d289_2088 : decode code 2088 = .ok (.aload_n 1, 1) := by decide +kernel
theorem d289_2089 : decode code 2089 = .ok (.aload_n 0, 1) := by decide +kernel
theorem d289_2090 : decode code 2090 = .ok (.iload 5, 2) := by decide +kernel
theorem d289_2092 : decode code 2092 = .ok (.iconst 1, 1) := by decide +kernel
theorem d289_2093 : decode code 2093 = .ok (.iadd, 1) := by decide +kernel
theorem d289_2094 : decode code 2094 = .ok (.iaload, 1) := by decide +kernel
theorem d289_2095 : decode code 2095 = .ok (.aload_n 3, 1) := by decide +kernel
theorem d289_2096 : decode code 2096 = .ok (.invokestatic 270, 3) := by decide +kernel
theorem d289_2099 : decode code 2099 = .ok (.istore 6, 2) := by decide +kernel
theorem d289_2101 : decode code 2101 = .ok (.aload_n 2, 1) := by decide +kernel
theorem d289_2102 : decode code 2102 = .ok (.aload_n 0, 1) := by decide +kernel
theorem d289_2103 : decode code 2103 = .ok (.iload 5, 2) := by decide +kernel
theorem d289_2105 : decode code 2105 = .ok (.iconst 1, 1) := by decide +kernel
theorem d289_2106 : decode code 2106 = .ok (.iadd, 1) := by decide +kernel
theorem d289_2107 : decode code 2107 = .ok (.iaload, 1) := by decide +kernel
theorem d289_2108 : decode code 2108 = .ok (.invokevirtual 272, 3) := by decide +kernel
theorem d289_2111 : decode code 2111 = .ok (.istore 7, 2) := by decide +kernel
theorem d289_2113 : decode code 2113 = .ok (.aload_n 2, 1) := by decide +kernel
theorem d289_2114 : decode code 2114 = .ok (.invokevirtual 172, 3) := by decide +kernel
theorem d289_2117 : decode code 2117 = .ok (.iload 6, 2) := by decide +kernel
theorem d289_2119 : decode code 2119 = .ok (.if_icmp .eq 5, 3) := by decide +kernel
theorem d289_2122 : decode code 2122 = .ok (.iconst 0, 1) := by decide +kernel
theorem d289_2123 : decode code 2123 = .ok (.ireturn, 1) := by decide +kernel
theorem d289_2124 : decode code 2124 = .ok (.iload 6, 2) := by decide +kernel
theorem d289_2126 : decode code 2126 = .ok (.ifCond .ne 15, 3) := by decide +kernel
theorem d289_2129 : decode code 2129 = .ok (.aload_n 3, 1) := by decide +kernel
theorem d289_2130 : decode code 2130 = .ok (.iconst 0, 1) := by decide +kernel
theorem d289_2131 : decode code 2131 = .ok (.laload, 1) := by decide +kernel
theorem d289_2132 : decode code 2132 = .ok (.iload 7, 2) := by decide +kernel
theorem d289_2134 : decode code 2134 = .ok (.i2l, 1) := by decide +kernel
theorem d289_2135 : decode code 2135 = .ok (.lcmp, 1) := by decide +kernel
theorem d289_2136 : decode code 2136 = .ok (.ifCond .eq 5, 3) := by decide +kernel
theorem d289_2139 : decode code 2139 = .ok (.iconst 0, 1) := by decide +kernel
theorem d289_2140 : decode code 2140 = .ok (.ireturn, 1) := by decide +kernel
theorem d289_2141 : decode code 2141 = .ok (.goto 860, 3) := by decide +kernel
theorem d289_2144 : decode code 2144 = .ok (.aload_n 1, 1) := by decide +kernel
theorem d289_2145 : decode code 2145 = .ok (.aload_n 0, 1) := by decide +kernel
theorem d289_2146 : decode code 2146 = .ok (.iload 5, 2) := by decide +kernel
theorem d289_2148 : decode code 2148 = .ok (.iconst 1, 1) := by decide +kernel
theorem d289_2149 : decode code 2149 = .ok (.iadd, 1) := by decide +kernel
theorem d289_2150 : decode code 2150 = .ok (.iaload, 1) := by decide +kernel
theorem d289_2151 : decode code 2151 = .ok (.aload_n 3, 1) := by decide +kernel
theorem d289_2152 : decode code 2152 = .ok (.invokestatic 273, 3) := by decide +kernel
theorem d289_2155 : decode code 2155 = .ok (.istore 6, 2) := by decide +kernel
theorem d289_2157 : decode code 2157 = .ok (.aload_n 2, 1) := by decide +kernel
theorem d289_2158 : decode code 2158 = .ok (.aload_n 0, 1) := by decide +kernel
theorem d289_2159 : decode code 2159 = .ok (.iload 5, 2) := by decide +kernel
theorem d289_2161 : decode code 2161 = .ok (.iconst 1, 1) := by decide +kernel
theorem d289_2162 : decode code 2162 = .ok (.iadd, 1) := by decide +kernel
theorem d289_2163 : decode code 2163 = .ok (.iaload, 1) := by decide +kernel
theorem d289_2164 : decode code 2164 = .ok (.invokevirtual 275, 3) := by decide +kernel
theorem d289_2167 : decode code 2167 = .ok (.istore 7, 2) := by decide +kernel
theorem d289_2169 : decode code 2169 = .ok (.aload_n 2, 1) := by decide +kernel
theorem d289_2170 : decode code 2170 = .ok (.invokevirtual 172, 3) := by decide +kernel
theorem d289_2173 : decode code 2173 = .ok (.iload 6, 2) := by decide +kernel
theorem d289_2175 : decode code 2175 = .ok (.if_icmp .eq 5, 3) := by decide +kernel
theorem d289_2178 : decode code 2178 = .ok (.iconst 0, 1) := by decide +kernel
theorem d289_2179 : decode code 2179 = .ok (.ireturn, 1) := by decide +kernel
theorem d289_2180 : decode code 2180 = .ok (.iload 6, 2) := by decide +kernel
theorem d289_2182 : decode code 2182 = .ok (.ifCond .ne 15, 3) := by decide +kernel
theorem d289_2185 : decode code 2185 = .ok (.aload_n 3, 1) := by decide +kernel
theorem d289_2186 : decode code 2186 = .ok (.iconst 0, 1) := by decide +kernel
theorem d289_2187 : decode code 2187 = .ok (.laload, 1) := by decide +kernel
theorem d289_2188 : decode code 2188 = .ok (.iload 7, 2) := by decide +kernel
theorem d289_2190 : decode code 2190 = .ok (.i2l, 1) := by decide +kernel
theorem d289_2191 : decode code 2191 = .ok (.lcmp, 1) := by decide +kernel
theorem d289_2192 : decode code 2192 = .ok (.ifCond .eq 5, 3) := by decide +kernel
theorem d289_2195 : decode code 2195 = .ok (.iconst 0, 1) := by decide +kernel
theorem d289_2196 : decode code 2196 = .ok (.ireturn, 1) := by decide +kernel
theorem d289_2197 : decode code 2197 = .ok (.goto 804, 3) := by decide +kernel
theorem d289_2200 : decode code 2200 = .ok (.aload_n 1, 1) := by decide +kernel
theorem d289_2201 : decode code 2201 = .ok (.aload_n 0, 1) := by decide +kernel
theorem d289_2202 : decode code 2202 = .ok (.iload 5, 2) := by decide +kernel
theorem d289_2204 : decode code 2204 = .ok (.iconst 1, 1) := by decide +kernel
theorem d289_2205 : decode code 2205 = .ok (.iadd, 1) := by decide +kernel
theorem d289_2206 : decode code 2206 = .ok (.iaload, 1) := by decide +kernel
theorem d289_2207 : decode code 2207 = .ok (.aload_n 0, 1) := by decide +kernel
theorem d289_2208 : decode code 2208 = .ok (.iload 5, 2) := by decide +kernel
theorem d289_2210 : decode code 2210 = .ok (.iconst 2, 1) := by decide +kernel
theorem d289_2211 : decode code 2211 = .ok (.iadd, 1) := by decide +kernel
theorem d289_2212 : decode code 2212 = .ok (.iaload, 1) := by decide +kernel
theorem d289_2213 : decode code 2213 = .ok (.aload_n 3, 1) := by decide +kernel
theorem d289_2214 : decode code 2214 = .ok (.invokestatic 276, 3) := by decide +kernel
theorem d289_2217 : decode code 2217 = .ok (.istore 6, 2) := by decide +kernel
theorem d289_2219 : decode code 2219 = .ok (.aload_n 2, 1) := by decide +kernel
theorem d289_2220 : decode code 2220 = .ok (.aload_n 0, 1) := by decide +kernel
theorem d289_2221 : decode code 2221 = .ok (.iload 5, 2) := by decide +kernel
theorem d289_2223 : decode code 2223 = .ok (.iconst 1, 1) := by decide +kernel
theorem d289_2224 : decode code 2224 = .ok (.iadd, 1) := by decide +kernel
theorem d289_2225 : decode code 2225 = .ok (.iaload, 1) := by decide +kernel
theorem d289_2226 : decode code 2226 = .ok (.aload_n 0, 1) := by decide +kernel
theorem d289_2227 : decode code 2227 = .ok (.iload 5, 2) := by decide +kernel
theorem d289_2229 : decode code 2229 = .ok (.iconst 2, 1) := by decide +kernel
theorem d289_2230 : decode code 2230 = .ok (.iadd, 1) := by decide +kernel
theorem d289_2231 : decode code 2231 = .ok (.iaload, 1) := by decide +kernel
theorem d289_2232 : decode code 2232 = .ok (.invokevirtual 278, 3) := by decide +kernel
theorem d289_2235 : decode code 2235 = .ok (.istore 7, 2) := by decide +kernel
theorem d289_2237 : decode code 2237 = .ok (.aload_n 2, 1) := by decide +kernel
theorem d289_2238 : decode code 2238 = .ok (.invokevirtual 172, 3) := by decide +kernel
theorem d289_2241 : decode code 2241 = .ok (.iload 6, 2) := by decide +kernel
theorem d289_2243 : decode code 2243 = .ok (.if_icmp .eq 5, 3) := by decide +kernel
theorem d289_2246 : decode code 2246 = .ok (.iconst 0, 1) := by decide +kernel
theorem d289_2247 : decode code 2247 = .ok (.ireturn, 1) := by decide +kernel
theorem d289_2248 : decode code 2248 = .ok (.iload 6, 2) := by decide +kernel
theorem d289_2250 : decode code 2250 = .ok (.ifCond .ne 15, 3) := by decide +kernel
theorem d289_2253 : decode code 2253 = .ok (.aload_n 3, 1) := by decide +kernel
theorem d289_2254 : decode code 2254 = .ok (.iconst 0, 1) := by decide +kernel
theorem d289_2255 : decode code 2255 = .ok (.laload, 1) := by decide +kernel
theorem d289_2256 : decode code 2256 = .ok (.iload 7, 2) := by decide +kernel
theorem d289_2258 : decode code 2258 = .ok (.i2l, 1) := by decide +kernel
theorem d289_2259 : decode code 2259 = .ok (.lcmp, 1) := by decide +kernel
theorem d289_2260 : decode code 2260 = .ok (.ifCond .eq 5, 3) := by decide +kernel
theorem d289_2263 : decode code 2263 = .ok (.iconst 0, 1) := by decide +kernel
theorem d289_2264 : decode code 2264 = .ok (.ireturn, 1) := by decide +kernel
theorem d289_2265 : decode code 2265 = .ok (.goto 736, 3) := by decide +kernel
theorem d289_2268 : decode code 2268 = .ok (.aload_n 1, 1) := by decide +kernel
theorem d289_2269 : decode code 2269 = .ok (.aload_n 0, 1) := by decide +kernel
theorem d289_2270 : decode code 2270 = .ok (.iload 5, 2) := by decide +kernel
theorem d289_2272 : decode code 2272 = .ok (.iconst 1, 1) := by decide +kernel
theorem d289_2273 : decode code 2273 = .ok (.iadd, 1) := by decide +kernel
theorem d289_2274 : decode code 2274 = .ok (.iaload, 1) := by decide +kernel
theorem d289_2275 : decode code 2275 = .ok (.aload_n 3, 1) := by decide +kernel
theorem d289_2276 : decode code 2276 = .ok (.invokestatic 279, 3) := by decide +kernel
theorem d289_2279 : decode code 2279 = .ok (.istore 6, 2) := by decide +kernel
theorem d289_2281 : decode code 2281 = .ok (.aload_n 2, 1) := by decide +kernel
theorem d289_2282 : decode code 2282 = .ok (.aload_n 0, 1) := by decide +kernel
theorem d289_2283 : decode code 2283 = .ok (.iload 5, 2) := by decide +kernel
theorem d289_2285 : decode code 2285 = .ok (.iconst 1, 1) := by decide +kernel
theorem d289_2286 : decode code 2286 = .ok (.iadd, 1) := by decide +kernel
theorem d289_2287 : decode code 2287 = .ok (.iaload, 1) := by decide +kernel
theorem d289_2288 : decode code 2288 = .ok (.invokevirtual 281, 3) := by decide +kernel
theorem d289_2291 : decode code 2291 = .ok (.istore 7, 2) := by decide +kernel
theorem d289_2293 : decode code 2293 = .ok (.aload_n 2, 1) := by decide +kernel
theorem d289_2294 : decode code 2294 = .ok (.invokevirtual 172, 3) := by decide +kernel
theorem d289_2297 : decode code 2297 = .ok (.iload 6, 2) := by decide +kernel
theorem d289_2299 : decode code 2299 = .ok (.if_icmp .eq 5, 3) := by decide +kernel
theorem d289_2302 : decode code 2302 = .ok (.iconst 0, 1) := by decide +kernel
theorem d289_2303 : decode code 2303 = .ok (.ireturn, 1) := by decide +kernel
theorem d289_2304 : decode code 2304 = .ok (.iload 6, 2) := by decide +kernel
theorem d289_2306 : decode code 2306 = .ok (.ifCond .ne 15, 3) := by decide +kernel
theorem d289_2309 : decode code 2309 = .ok (.aload_n 3, 1) := by decide +kernel
theorem d289_2310 : decode code 2310 = .ok (.iconst 0, 1) := by decide +kernel
theorem d289_2311 : decode code 2311 = .ok (.laload, 1) := by decide +kernel
theorem d289_2312 : decode code 2312 = .ok (.iload 7, 2) := by decide +kernel
theorem d289_2314 : decode code 2314 = .ok (.i2l, 1) := by decide +kernel
theorem d289_2315 : decode code 2315 = .ok (.lcmp, 1) := by decide +kernel
theorem d289_2316 : decode code 2316 = .ok (.ifCond .eq 5, 3) := by decide +kernel
theorem d289_2319 : decode code 2319 = .ok (.iconst 0, 1) := by decide +kernel
theorem d289_2320 : decode code 2320 = .ok (.ireturn, 1) := by decide +kernel
theorem d289_2321 : decode code 2321 = .ok (.goto 680, 3) := by decide +kernel
theorem d289_2324 : decode code 2324 = .ok (.aload_n 1, 1) := by decide +kernel
theorem d289_2325 : decode code 2325 = .ok (.invokevirtual 282, 3) := by decide +kernel
theorem d289_2328 : decode code 2328 = .ok (.aload_n 2, 1) := by decide +kernel
theorem d289_2329 : decode code 2329 = .ok (.invokevirtual 286, 3) := by decide +kernel
theorem d289_2332 : decode code 2332 = .ok (.lcmp, 1) := by decide +kernel
theorem d289_2333 : decode code 2333 = .ok (.ifCond .eq 668, 3) := by decide +kernel
theorem d289_2336 : decode code 2336 = .ok (.iconst 0, 1) := by decide +kernel
theorem d289_2337 : decode code 2337 = .ok (.ireturn, 1) := by decide +kernel
theorem d289_2338 : decode code 2338 = .ok (.aload_n 1, 1) := by decide +kernel
theorem d289_2339 : decode code 2339 = .ok (.invokevirtual 287, 3) := by decide +kernel
theorem d289_2342 : decode code 2342 = .ok (.aload_n 2, 1) := by decide +kernel
theorem d289_2343 : decode code 2343 = .ok (.invokevirtual 290, 3) := by decide +kernel
theorem d289_2346 : decode code 2346 = .ok (.lcmp, 1) := by decide +kernel
theorem d289_2347 : decode code 2347 = .ok (.ifCond .eq 654, 3) := by decide +kernel
theorem d289_2350 : decode code 2350 = .ok (.iconst 0, 1) := by decide +kernel
theorem d289_2351 : decode code 2351 = .ok (.ireturn, 1) := by decide +kernel
theorem d289_2352 : decode code 2352 = .ok (.aload_n 1, 1) := by decide +kernel
theorem d289_2353 : decode code 2353 = .ok (.invokevirtual 291, 3) := by decide +kernel
theorem d289_2356 : decode code 2356 = .ok (.aload_n 2, 1) := by decide +kernel
theorem d289_2357 : decode code 2357 = .ok (.invokevirtual 294, 3) := by decide +kernel
theorem d289_2360 : decode code 2360 = .ok (.if_icmp .eq 641, 3) := by decide +kernel
theorem d289_2363 : decode code 2363 = .ok (.iconst 0, 1) := by decide +kernel
theorem d289_2364 : decode code 2364 = .ok (.ireturn, 1) := by decide +kernel
theorem d289_2365 : decode code 2365 = .ok (.aload_n 1, 1) := by decide +kernel
theorem d289_2366 : decode code 2366 = .ok (.aload 4, 2) := by decide +kernel
theorem d289_2368 : decode code 2368 = .ok (.invokestatic 295, 3) := by decide +kernel
theorem d289_2371 : decode code 2371 = .ok (.istore 6, 2) := by decide +kernel
theorem d289_2373 : decode code 2373 = .ok (.aload_n 2, 1) := by decide +kernel
theorem d289_2374 : decode code 2374 = .ok (.invokevirtual 298, 3) := by decide +kernel
theorem d289_2377 : decode code 2377 = .ok (.dstore 7, 2) := by decide +kernel
theorem d289_2379 : decode code 2379 = .ok (.aload_n 2, 1) := by decide +kernel
theorem d289_2380 : decode code 2380 = .ok (.invokevirtual 172, 3) := by decide +kernel
theorem d289_2383 : decode code 2383 = .ok (.iload 6, 2) := by decide +kernel
theorem d289_2385 : decode code 2385 = .ok (.if_icmp .eq 5, 3) := by decide +kernel
theorem d289_2388 : decode code 2388 = .ok (.iconst 0, 1) := by decide +kernel
theorem d289_2389 : decode code 2389 = .ok (.ireturn, 1) := by decide +kernel
theorem d289_2390 : decode code 2390 = .ok (.iload 6, 2) := by decide +kernel
theorem d289_2392 : decode code 2392 = .ok (.ifCond .ne 35, 3) := by decide +kernel
theorem d289_2395 : decode code 2395 = .ok (.aload 4, 2) := by decide +kernel
theorem d289_2397 : decode code 2397 = .ok (.iconst 0, 1) := by decide +kernel
theorem d289_2398 : decode code 2398 = .ok (.daload, 1) := by decide +kernel
theorem d289_2399 : decode code 2399 = .ok (.dload 7, 2) := by decide +kernel
theorem d289_2401 : decode code 2401 = .ok (.dcmp .l, 1) := by decide +kernel
theorem d289_2402 : decode code 2402 = .ok (.ifCond .eq 25, 3) := by decide +kernel
theorem d289_2405 : decode code 2405 = .ok (.aload 4, 2) := by decide +kernel
theorem d289_2407 : decode code 2407 = .ok (.iconst 0, 1) := by decide +kernel
theorem d289_2408 : decode code 2408 = .ok (.daload, 1) := by decide +kernel
theorem d289_2409 : decode code 2409 = .ok (.aload 4, 2) := by decide +kernel
theorem d289_2411 : decode code 2411 = .ok (.iconst 0, 1) := by decide +kernel
theorem d289_2412 : decode code 2412 = .ok (.daload, 1) := by decide +kernel
theorem d289_2413 : decode code 2413 = .ok (.dcmp .l, 1) := by decide +kernel
theorem d289_2414 : decode code 2414 = .ok (.ifCond .eq 11, 3) := by decide +kernel
theorem d289_2417 : decode code 2417 = .ok (.dload 7, 2) := by decide +kernel
theorem d289_2419 : decode code 2419 = .ok (.dload 7, 2) := by decide +kernel
theorem d289_2421 : decode code 2421 = .ok (.dcmp .l, 1) := by decide +kernel
theorem d289_2422 : decode code 2422 = .ok (.ifCond .ne 5, 3) := by decide +kernel
theorem d289_2425 : decode code 2425 = .ok (.iconst 0, 1) := by decide +kernel
theorem d289_2426 : decode code 2426 = .ok (.ireturn, 1) := by decide +kernel
theorem d289_2427 : decode code 2427 = .ok (.goto 574, 3) := by decide +kernel
theorem d289_2430 : decode code 2430 = .ok (.aload_n 1, 1) := by decide +kernel
theorem d289_2431 : decode code 2431 = .ok (.invokevirtual 299, 3) := by decide +kernel
theorem d289_2434 : decode code 2434 = .ok (.f2d, 1) := by decide +kernel
theorem d289_2435 : decode code 2435 = .ok (.dstore 6, 2) := by decide +kernel
theorem d289_2437 : decode code 2437 = .ok (.aload_n 2, 1) := by decide +kernel
theorem d289_2438 : decode code 2438 = .ok (.invokevirtual 303, 3) := by decide +kernel
theorem d289_2441 : decode code 2441 = .ok (.f2d, 1) := by decide +kernel
theorem d289_2442 : decode code 2442 = .ok (.dstore 8, 2) := by decide +kernel
theorem d289_2444 : decode code 2444 = .ok (.dload 6, 2) := by decide +kernel
theorem d289_2446 : decode code 2446 = .ok (.dload 8, 2) := by decide +kernel
theorem d289_2448 : decode code 2448 = .ok (.dcmp .l, 1) := by decide +kernel
theorem d289_2449 : decode code 2449 = .ok (.ifCond .eq 21, 3) := by decide +kernel
theorem d289_2452 : decode code 2452 = .ok (.dload 6, 2) := by decide +kernel
theorem d289_2454 : decode code 2454 = .ok (.dload 6, 2) := by decide +kernel
theorem d289_2456 : decode code 2456 = .ok (.dcmp .l, 1) := by decide +kernel
theorem d289_2457 : decode code 2457 = .ok (.ifCond .eq 11, 3) := by decide +kernel
theorem d289_2460 : decode code 2460 = .ok (.dload 8, 2) := by decide +kernel
theorem d289_2462 : decode code 2462 = .ok (.dload 8, 2) := by decide +kernel
theorem d289_2464 : decode code 2464 = .ok (.dcmp .l, 1) := by decide +kernel
theorem d289_2465 : decode code 2465 = .ok (.ifCond .ne 5, 3) := by decide +kernel
theorem d289_2468 : decode code 2468 = .ok (.iconst 0, 1) := by decide +kernel
theorem d289_2469 : decode code 2469 = .ok (.ireturn, 1) := by decide +kernel
theorem d289_2470 : decode code 2470 = .ok (.goto 531, 3) := by decide +kernel
theorem d289_2473 : decode code 2473 = .ok (.aload_n 1, 1) := by decide +kernel
theorem d289_2474 : decode code 2474 = .ok (.aload_n 0, 1) := by decide +kernel
theorem d289_2475 : decode code 2475 = .ok (.iload 5, 2) := by decide +kernel
theorem d289_2477 : decode code 2477 = .ok (.iconst 1, 1) := by decide +kernel
theorem d289_2478 : decode code 2478 = .ok (.iadd, 1) := by decide +kernel
theorem d289_2479 : decode code 2479 = .ok (.iaload, 1) := by decide +kernel
theorem d289_2480 : decode code 2480 = .ok (.aload_n 3, 1) := by decide +kernel
theorem d289_2481 : decode code 2481 = .ok (.invokestatic 304, 3) := by decide +kernel
theorem d289_2484 : decode code 2484 = .ok (.istore 6, 2) := by decide +kernel
theorem d289_2486 : decode code 2486 = .ok (.aload_n 2, 1) := by decide +kernel
theorem d289_2487 : decode code 2487 = .ok (.aload_n 0, 1) := by decide +kernel
theorem d289_2488 : decode code 2488 = .ok (.iload 5, 2) := by decide +kernel
theorem d289_2490 : decode code 2490 = .ok (.iconst 1, 1) := by decide +kernel
theorem d289_2491 : decode code 2491 = .ok (.iadd, 1) := by decide +kernel
theorem d289_2492 : decode code 2492 = .ok (.iaload, 1) := by decide +kernel
theorem d289_2493 : decode code 2493 = .ok (.invokevirtual 306, 3) := by decide +kernel
theorem d289_2496 : decode code 2496 = .ok (.istore 7, 2) := by decide +kernel
theorem d289_2498 : decode code 2498 = .ok (.aload_n 2, 1) := by decide +kernel
theorem d289_2499 : decode code 2499 = .ok (.invokevirtual 172, 3) := by decide +kernel
theorem d289_2502 : decode code 2502 = .ok (.iload 6, 2) := by decide +kernel
theorem d289_2504 : decode code 2504 = .ok (.if_icmp .eq 5, 3) := by decide +kernel
theorem d289_2507 : decode code 2507 = .ok (.iconst 0, 1) := by decide +kernel
theorem d289_2508 : decode code 2508 = .ok (.ireturn, 1) := by decide +kernel
theorem d289_2509 : decode code 2509 = .ok (.iload 6, 2) := by decide +kernel
theorem d289_2511 : decode code 2511 = .ok (.ifCond .ne 15, 3) := by decide +kernel
theorem d289_2514 : decode code 2514 = .ok (.aload_n 3, 1) := by decide +kernel
theorem d289_2515 : decode code 2515 = .ok (.iconst 0, 1) := by decide +kernel
theorem d289_2516 : decode code 2516 = .ok (.laload, 1) := by decide +kernel
theorem d289_2517 : decode code 2517 = .ok (.iload 7, 2) := by decide +kernel
theorem d289_2519 : decode code 2519 = .ok (.i2l, 1) := by decide +kernel
theorem d289_2520 : decode code 2520 = .ok (.lcmp, 1) := by decide +kernel
theorem d289_2521 : decode code 2521 = .ok (.ifCond .eq 5, 3) := by decide +kernel
theorem d289_2524 : decode code 2524 = .ok (.iconst 0, 1) := by decide +kernel
theorem d289_2525 : decode code 2525 = .ok (.ireturn, 1) := by decide +kernel
theorem d289_2526 : decode code 2526 = .ok (.goto 475, 3) := by decide +kernel
theorem d289_2529 : decode code 2529 = .ok (.aload_n 1, 1) := by decide +kernel
theorem d289_2530 : decode code 2530 = .ok (.invokevirtual 307, 3) := by decide +kernel
theorem d289_2533 : decode code 2533 = .ok (.aload_n 2, 1) := by decide +kernel
theorem d289_2534 : decode code 2534 = .ok (.invokevirtual 311, 3) := by decide +kernel
theorem d289_2537 : decode code 2537 = .ok (.if_icmp .eq 464, 3) := by decide +kernel
theorem d289_2540 : decode code 2540 = .ok (.iconst 0, 1) := by decide +kernel
theorem d289_2541 : decode code 2541 = .ok (.ireturn, 1) := by decide +kernel
theorem d289_2542 : decode code 2542 = .ok (.aload_n 1, 1) := by decide +kernel
theorem d289_2543 : decode code 2543 = .ok (.aload_n 0, 1) := by decide +kernel
theorem d289_2544 : decode code 2544 = .ok (.iload 5, 2) := by decide +kernel
theorem d289_2546 : decode code 2546 = .ok (.iconst 1, 1) := by decide +kernel
theorem d289_2547 : decode code 2547 = .ok (.iadd, 1) := by decide +kernel
theorem d289_2548 : decode code 2548 = .ok (.iaload, 1) := by decide +kernel
theorem d289_2549 : decode code 2549 = .ok (.aload_n 3, 1) := by decide +kernel
theorem d289_2550 : decode code 2550 = .ok (.invokestatic 312, 3) := by decide +kernel
theorem d289_2553 : decode code 2553 = .ok (.istore 6, 2) := by decide +kernel
theorem d289_2555 : decode code 2555 = .ok (.aload_n 2, 1) := by decide +kernel
theorem d289_2556 : decode code 2556 = .ok (.aload_n 0, 1) := by decide +kernel
theorem d289_2557 : decode code 2557 = .ok (.iload 5, 2) := by decide +kernel
theorem d289_2559 : decode code 2559 = .ok (.iconst 1, 1) := by decide +kernel
theorem d289_2560 : decode code 2560 = .ok (.iadd, 1) := by decide +kernel
theorem d289_2561 : decode code 2561 = .ok (.iaload, 1) := by decide +kernel
theorem d289_2562 : decode code 2562 = .ok (.invokevirtual 314, 3) := by decide +kernel
theorem d289_2565 : decode code 2565 = .ok (.istore 7, 2) := by decide +kernel
theorem d289_2567 : decode code 2567 = .ok (.aload_n 2, 1) := by decide +kernel
theorem d289_2568 : decode code 2568 = .ok (.invokevirtual 172, 3) := by decide +kernel
theorem d289_2571 : decode code 2571 = .ok (.iload 6, 2) := by decide +kernel
theorem d289_2573 : decode code 2573 = .ok (.if_icmp .eq 5, 3) := by decide +kernel
theorem d289_2576 : decode code 2576 = .ok (.iconst 0, 1) := by decide +kernel
theorem d289_2577 : decode code 2577 = .ok (.ireturn, 1) := by decide +kernel
theorem d289_2578 : decode code 2578 = .ok (.iload 6, 2) := by decide +kernel
theorem d289_2580 : decode code 2580 = .ok (.ifCond .ne 15, 3) := by decide +kernel
theorem d289_2583 : decode code 2583 = .ok (.aload_n 3, 1) := by decide +kernel
theorem d289_2584 : decode code 2584 = .ok (.iconst 0, 1) := by decide +kernel
theorem d289_2585 : decode code 2585 = .ok (.laload, 1) := by decide +kernel
theorem d289_2586 : decode code 2586 = .ok (.iload 7, 2) := by decide +kernel
theorem d289_2588 : decode code 2588 = .ok (.i2l, 1) := by decide +kernel
theorem d289_2589 : decode code 2589 = .ok (.lcmp, 1) := by decide +kernel
theorem d289_2590 : decode code 2590 = .ok (.ifCond .eq 5, 3) := by decide +kernel
theorem d289_2593 : decode code 2593 = .ok (.iconst 0, 1) := by decide +kernel
theorem d289_2594 : decode code 2594 = .ok (.ireturn, 1) := by decide +kernel
theorem d289_2595 : decode code 2595 = .ok (.goto 406, 3) := by decide +kernel
theorem d289_2598 : decode code 2598 = .ok (.aload_n 1, 1) := by decide +kernel
theorem d289_2599 : decode code 2599 = .ok (.aload_n 0, 1) := by decide +kernel
theorem d289_2600 : decode code 2600 = .ok (.iload 5, 2) := by decide +kernel
theorem d289_2602 : decode code 2602 = .ok (.iconst 1, 1) := by decide +kernel
theorem d289_2603 : decode code 2603 = .ok (.iadd, 1) := by decide +kernel
theorem d289_2604 : decode code 2604 = .ok (.iaload, 1) := by decide +kernel
theorem d289_2605 : decode code 2605 = .ok (.aload_n 3, 1) := by decide +kernel
theorem d289_2606 : decode code 2606 = .ok (.invokestatic 315, 3) := by decide +kernel
theorem d289_2609 : decode code 2609 = .ok (.istore 6, 2) := by decide +kernel
theorem d289_2611 : decode code 2611 = .ok (.aload_n 2, 1) := by decide +kernel
theorem d289_2612 : decode code 2612 = .ok (.aload_n 0, 1) := by decide +kernel
theorem d289_2613 : decode code 2613 = .ok (.iload 5, 2) := by decide +kernel
theorem d289_2615 : decode code 2615 = .ok (.iconst 1, 1) := by decide +kernel
theorem d289_2616 : decode code 2616 = .ok (.iadd, 1) := by decide +kernel
theorem d289_2617 : decode code 2617 = .ok (.iaload, 1) := by decide +kernel
theorem d289_2618 : decode code 2618 = .ok (.invokevirtual 317, 3) := by decide +kernel
theorem d289_2621 : decode code 2621 = .ok (.istore 7, 2) := by decide +kernel
theorem d289_2623 : decode code 2623 = .ok (.aload_n 2, 1) := by decide +kernel
theorem d289_2624 : decode code 2624 = .ok (.invokevirtual 172, 3) := by decide +kernel
theorem d289_2627 : decode code 2627 = .ok (.iload 6, 2) := by decide +kernel
theorem d289_2629 : decode code 2629 = .ok (.if_icmp .eq 5, 3) := by decide +kernel
theorem d289_2632 : decode code 2632 = .ok (.iconst 0, 1) := by decide +kernel
theorem d289_2633 : decode code 2633 = .ok (.ireturn, 1) := by decide +kernel
theorem d289_2634 : decode code 2634 = .ok (.iload 6, 2) := by decide +kernel
theorem d289_2636 : decode code 2636 = .ok (.ifCond .ne 15, 3) := by decide +kernel
theorem d289_2639 : decode code 2639 = .ok (.aload_n 3, 1) := by decide +kernel
theorem d289_2640 : decode code 2640 = .ok (.iconst 0, 1) := by decide +kernel
theorem d289_2641 : decode code 2641 = .ok (.laload, 1) := by decide +kernel
theorem d289_2642 : decode code 2642 = .ok (.iload 7, 2) := by decide +kernel
theorem d289_2644 : decode code 2644 = .ok (.i2l, 1) := by decide +kernel
theorem d289_2645 : decode code 2645 = .ok (.lcmp, 1) := by decide +kernel
theorem d289_2646 : decode code 2646 = .ok (.ifCond .eq 5, 3) := by decide +kernel
theorem d289_2649 : decode code 2649 = .ok (.iconst 0, 1) := by decide +kernel
theorem d289_2650 : decode code 2650 = .ok (.ireturn, 1) := by decide +kernel
theorem d289_2651 : decode code 2651 = .ok (.goto 350, 3) := by decide +kernel
theorem d289_2654 : decode code 2654 = .ok (.aload_n 1, 1) := by decide +kernel
theorem d289_2655 : decode code 2655 = .ok (.aload_n 0, 1) := by decide +kernel
theorem d289_2656 : decode code 2656 = .ok (.iload 5, 2) := by decide +kernel
theorem d289_2658 : decode code 2658 = .ok (.iconst 1, 1) := by decide +kernel
theorem d289_2659 : decode code 2659 = .ok (.iadd, 1) := by decide +kernel
theorem d289_2660 : decode code 2660 = .ok (.iaload, 1) := by decide +kernel
theorem d289_2661 : decode code 2661 = .ok (.aload_n 3, 1) := by decide +kernel
theorem d289_2662 : decode code 2662 = .ok (.invokestatic 318, 3) := by decide +kernel
theorem d289_2665 : decode code 2665 = .ok (.istore 6, 2) := by decide +kernel
theorem d289_2667 : decode code 2667 = .ok (.aload_n 2, 1) := by decide +kernel
theorem d289_2668 : decode code 2668 = .ok (.aload_n 0, 1) := by decide +kernel
theorem d289_2669 : decode code 2669 = .ok (.iload 5, 2) := by decide +kernel
theorem d289_2671 : decode code 2671 = .ok (.iconst 1, 1) := by decide +kernel
theorem d289_2672 : decode code 2672 = .ok (.iadd, 1) := by decide +kernel
theorem d289_2673 : decode code 2673 = .ok (.iaload, 1) := by decide +kernel
theorem d289_2674 : decode code 2674 = .ok (.invokevirtual 320, 3) := by decide +kernel
theorem d289_2677 : decode code 2677 = .ok (.istore 7, 2) := by decide +kernel
theorem d289_2679 : decode code 2679 = .ok (.aload_n 2, 1) := by decide +kernel
theorem d289_2680 : decode code 2680 = .ok (.invokevirtual 172, 3) := by decide +kernel
theorem d289_2683 : decode code 2683 = .ok (.iload 6, 2) := by decide +kernel
theorem d289_2685 : decode code 2685 = .ok (.if_icmp .eq 5, 3) := by decide +kernel
theorem d289_2688 : decode code 2688 = .ok (.iconst 0, 1) := by decide +kernel
theorem d289_2689 : decode code 2689 = .ok (.ireturn, 1) := by decide +kernel
theorem d289_2690 : decode code 2690 = .ok (.iload 6, 2) := by decide +kernel
theorem d289_2692 : decode code 2692 = .ok (.ifCond .ne 15, 3) := by decide +kernel
theorem d289_2695 : decode code 2695 = .ok (.aload_n 3, 1) := by decide +kernel
theorem d289_2696 : decode code 2696 = .ok (.iconst 0, 1) := by decide +kernel
theorem d289_2697 : decode code 2697 = .ok (.laload, 1) := by decide +kernel
theorem d289_2698 : decode code 2698 = .ok (.iload 7, 2) := by decide +kernel
theorem d289_2700 : decode code 2700 = .ok (.i2l, 1) := by decide +kernel
theorem d289_2701 : decode code 2701 = .ok (.lcmp, 1) := by decide +kernel
theorem d289_2702 : decode code 2702 = .ok (.ifCond .eq 5, 3) := by decide +kernel
theorem d289_2705 : decode code 2705 = .ok (.iconst 0, 1) := by decide +kernel
theorem d289_2706 : decode code 2706 = .ok (.ireturn, 1) := by decide +kernel
theorem d289_2707 : decode code 2707 = .ok (.goto 294, 3) := by decide +kernel
theorem d289_2710 : decode code 2710 = .ok (.aload_n 1, 1) := by decide +kernel
theorem d289_2711 : decode code 2711 = .ok (.aload_n 0, 1) := by decide +kernel
theorem d289_2712 : decode code 2712 = .ok (.iload 5, 2) := by decide +kernel
theorem d289_2714 : decode code 2714 = .ok (.iconst 1, 1) := by decide +kernel
theorem d289_2715 : decode code 2715 = .ok (.iadd, 1) := by decide +kernel
theorem d289_2716 : decode code 2716 = .ok (.iaload, 1) := by decide +kernel
theorem d289_2717 : decode code 2717 = .ok (.i2c, 1) := by decide +kernel
theorem d289_2718 : decode code 2718 = .ok (.aload_n 3, 1) := by decide +kernel
theorem d289_2719 : decode code 2719 = .ok (.invokestatic 321, 3) := by decide +kernel
theorem d289_2722 : decode code 2722 = .ok (.istore 6, 2) := by decide +kernel
theorem d289_2724 : decode code 2724 = .ok (.aload_n 2, 1) := by decide +kernel
theorem d289_2725 : decode code 2725 = .ok (.aload_n 0, 1) := by decide +kernel
theorem d289_2726 : decode code 2726 = .ok (.iload 5, 2) := by decide +kernel
theorem d289_2728 : decode code 2728 = .ok (.iconst 1, 1) := by decide +kernel
theorem d289_2729 : decode code 2729 = .ok (.iadd, 1) := by decide +kernel
theorem d289_2730 : decode code 2730 = .ok (.iaload, 1) := by decide +kernel
theorem d289_2731 : decode code 2731 = .ok (.i2c, 1) := by decide +kernel
theorem d289_2732 : decode code 2732 = .ok (.invokevirtual 323, 3) := by decide +kernel
theorem d289_2735 : decode code 2735 = .ok (.istore 7, 2) := by decide +kernel
theorem d289_2737 : decode code 2737 = .ok (.aload_n 2, 1) := by decide +kernel
theorem d289_2738 : decode code 2738 = .ok (.invokevirtual 172, 3) := by decide +kernel
theorem d289_2741 : decode code 2741 = .ok (.iload 6, 2) := by decide +kernel
theorem d289_2743 : decode code 2743 = .ok (.if_icmp .eq 5, 3) := by decide +kernel
theorem d289_2746 : decode code 2746 = .ok (.iconst 0, 1) := by decide +kernel
theorem d289_2747 : decode code 2747 = .ok (.ireturn, 1) := by decide +kernel
theorem d289_2748 : decode code 2748 = .ok (.iload 6, 2) := by decide +kernel
theorem d289_2750 : decode code 2750 = .ok (.ifCond .ne 15, 3) := by decide +kernel
theorem d289_2753 : decode code 2753 = .ok (.aload_n 3, 1) := by decide +kernel
theorem d289_2754 : decode code 2754 = .ok (.iconst 0, 1) := by decide +kernel
theorem d289_2755 : decode code 2755 = .ok (.laload, 1) := by decide +kernel
theorem d289_2756 : decode code 2756 = .ok (.iload 7, 2) := by decide +kernel
theorem d289_2758 : decode code 2758 = .ok (.i2l, 1) := by decide +kernel
theorem d289_2759 : decode code 2759 = .ok (.lcmp, 1) := by decide +kernel
theorem d289_2760 : decode code 2760 = .ok (.ifCond .eq 5, 3) := by decide +kernel
theorem d289_2763 : decode code 2763 = .ok (.iconst 0, 1) := by decide +kernel
theorem d289_2764 : decode code 2764 = .ok (.ireturn, 1) := by decide +kernel
theorem d289_2765 : decode code 2765 = .ok (.goto 236, 3) := by decide +kernel
theorem d289_2768 : decode code 2768 = .ok (.aload_n 1, 1) := by decide +kernel
theorem d289_2769 : decode code 2769 = .ok (.aload_n 3, 1) := by decide +kernel
theorem d289_2770 : decode code 2770 = .ok (.invokestatic 324, 3) := by decide +kernel
theorem d289_2773 : decode code 2773 = .ok (.istore 6, 2) := by decide +kernel
theorem d289_2775 : decode code 2775 = .ok (.aload_n 2, 1) := by decide +kernel
theorem d289_2776 : decode code 2776 = .ok (.invokevirtual 327, 3) := by decide +kernel
theorem d289_2779 : decode code 2779 = .ok (.istore 7, 2) := by decide +kernel
theorem d289_2781 : decode code 2781 = .ok (.aload_n 2, 1) := by decide +kernel
theorem d289_2782 : decode code 2782 = .ok (.invokevirtual 172, 3) := by decide +kernel
theorem d289_2785 : decode code 2785 = .ok (.iload 6, 2) := by decide +kernel
theorem d289_2787 : decode code 2787 = .ok (.if_icmp .eq 5, 3) := by decide +kernel
theorem d289_2790 : decode code 2790 = .ok (.iconst 0, 1) := by decide +kernel
theorem d289_2791 : decode code 2791 = .ok (.ireturn, 1) := by decide +kernel
theorem d289_2792 : decode code 2792 = .ok (.iload 6, 2) := by decide +kernel
theorem d289_2794 : decode code 2794 = .ok (.ifCond .ne 15, 3) := by decide +kernel
theorem d289_2797 : decode code 2797 = .ok (.aload_n 3, 1) := by decide +kernel
theorem d289_2798 : decode code 2798 = .ok (.iconst 0, 1) := by decide +kernel
theorem d289_2799 : decode code 2799 = .ok (.laload, 1) := by decide +kernel
theorem d289_2800 : decode code 2800 = .ok (.iload 7, 2) := by decide +kernel
theorem d289_2802 : decode code 2802 = .ok (.i2l, 1) := by decide +kernel
theorem d289_2803 : decode code 2803 = .ok (.lcmp, 1) := by decide +kernel
theorem d289_2804 : decode code 2804 = .ok (.ifCond .eq 5, 3) := by decide +kernel
theorem d289_2807 : decode code 2807 = .ok (.iconst 0, 1) := by decide +kernel
theorem d289_2808 : decode code 2808 = .ok (.ireturn, 1) := by decide +kernel
theorem d289_2809 : decode code 2809 = .ok (.goto 192, 3) := by decide +kernel
theorem d289_2812 : decode code 2812 = .ok (.aload_n 1, 1) := by decide +kernel
theorem d289_2813 : decode code 2813 = .ok (.aload_n 3, 1) := by decide +kernel
theorem d289_2814 : decode code 2814 = .ok (.invokestatic 328, 3) := by decide +kernel
theorem d289_2817 : decode code 2817 = .ok (.istore 6, 2) := by decide +kernel
theorem d289_2819 : decode code 2819 = .ok (.aload_n 2, 1) := by decide +kernel
theorem d289_2820 : decode code 2820 = .ok (.invokevirtual 330, 3) := by decide +kernel
theorem d289_2823 : decode code 2823 = .ok (.istore 7, 2) := by decide +kernel
theorem d289_2825 : decode code 2825 = .ok (.aload_n 2, 1) := by decide +kernel
theorem d289_2826 : decode code 2826 = .ok (.invokevirtual 172, 3) := by decide +kernel
theorem d289_2829 : decode code 2829 = .ok (.iload 6, 2) := by decide +kernel
theorem d289_2831 : decode code 2831 = .ok (.if_icmp .eq 5, 3) := by decide +kernel
theorem d289_2834 : decode code 2834 = .ok (.iconst 0, 1) := by decide +kernel
theorem d289_2835 : decode code 2835 = .ok (.ireturn, 1) := by decide +kernel
theorem d289_2836 : decode code 2836 = .ok (.iload 6, 2) := by decide +kernel
theorem d289_2838 : decode code 2838 = .ok (.ifCond .ne 15, 3) := by decide +kernel
theorem d289_2841 : decode code 2841 = .ok (.aload_n 3, 1) := by decide +kernel
theorem d289_2842 : decode code 2842 = .ok (.iconst 0, 1) := by decide +kernel
theorem d289_2843 : decode code 2843 = .ok (.laload, 1) := by decide +kernel
theorem d289_2844 : decode code 2844 = .ok (.iload 7, 2) := by decide +kernel
theorem d289_2846 : decode code 2846 = .ok (.i2l, 1) := by decide +kernel
theorem d289_2847 : decode code 2847 = .ok (.lcmp, 1) := by decide +kernel
theorem d289_2848 : decode code 2848 = .ok (.ifCond .eq 5, 3) := by decide +kernel
theorem d289_2851 : decode code 2851 = .ok (.iconst 0, 1) := by decide +kernel
theorem d289_2852 : decode code 2852 = .ok (.ireturn, 1) := by decide +kernel
theorem d289_2853 : decode code 2853 = .ok (.goto 148, 3) := by decide +kernel
theorem d289_2856 : decode code 2856 = .ok (.aload_n 1, 1) := by decide +kernel
theorem d289_2857 : decode code 2857 = .ok (.aload_n 3, 1) := by decide +kernel
theorem d289_2858 : decode code 2858 = .ok (.invokestatic 331, 3) := by decide +kernel
theorem d289_2861 : decode code 2861 = .ok (.istore 6, 2) := by decide +kernel
theorem d289_2863 : decode code 2863 = .ok (.aload_n 2, 1) := by decide +kernel
theorem d289_2864 : decode code 2864 = .ok (.invokevirtual 333, 3) := by decide +kernel
theorem d289_2867 : decode code 2867 = .ok (.istore 7, 2) := by decide +kernel
theorem d289_2869 : decode code 2869 = .ok (.aload_n 2, 1) := by decide +kernel
theorem d289_2870 : decode code 2870 = .ok (.invokevirtual 172, 3) := by decide +kernel
theorem d289_2873 : decode code 2873 = .ok (.iload 6, 2) := by decide +kernel
theorem d289_2875 : decode code 2875 = .ok (.if_icmp .eq 5, 3) := by decide +kernel
theorem d289_2878 : decode code 2878 = .ok (.iconst 0, 1) := by decide +kernel
theorem d289_2879 : decode code 2879 = .ok (.ireturn, 1) := by decide +kernel
theorem d289_2880 : decode code 2880 = .ok (.iload 6, 2) := by decide +kernel
theorem d289_2882 : decode code 2882 = .ok (.ifCond .ne 15, 3) := by decide +kernel
theorem d289_2885 : decode code 2885 = .ok (.aload_n 3, 1) := by decide +kernel
theorem d289_2886 : decode code 2886 = .ok (.iconst 0, 1) := by decide +kernel
theorem d289_2887 : decode code 2887 = .ok (.laload, 1) := by decide +kernel
theorem d289_2888 : decode code 2888 = .ok (.iload 7, 2) := by decide +kernel
theorem d289_2890 : decode code 2890 = .ok (.i2l, 1) := by decide +kernel
theorem d289_2891 : decode code 2891 = .ok (.lcmp, 1) := by decide +kernel
theorem d289_2892 : decode code 2892 = .ok (.ifCond .eq 5, 3) := by decide +kernel
theorem d289_2895 : decode code 2895 = .ok (.iconst 0, 1) := by decide +kernel
theorem d289_2896 : decode code 2896 = .ok (.ireturn, 1) := by decide +kernel
theorem d289_2897 : decode code 2897 = .ok (.goto 104, 3) := by decide +kernel
theorem d289_2900 : decode code 2900 = .ok (.aload_n 1, 1) := by decide +kernel
theorem d289_2901 : decode code 2901 = .ok (.aload_n 3, 1) := by decide +kernel
theorem d289_2902 : decode code 2902 = .ok (.invokestatic 334, 3) := by decide +kernel
theorem d289_2905 : decode code 2905 = .ok (.istore 6, 2) := by decide +kernel
theorem d289_2907 : decode code 2907 = .ok (.aload_n 2, 1) := by decide +kernel
theorem d289_2908 : decode code 2908 = .ok (.invokevirtual 336, 3) := by decide +kernel
theorem d289_2911 : decode code 2911 = .ok (.istore 7, 2) := by decide +kernel
theorem d289_2913 : decode code 2913 = .ok (.aload_n 2, 1) := by decide +kernel
theorem d289_2914 : decode code 2914 = .ok (.invokevirtual 172, 3) := by decide +kernel
theorem d289_2917 : decode code 2917 = .ok (.iload 6, 2) := by decide +kernel
theorem d289_2919 : decode code 2919 = .ok (.if_icmp .eq 5, 3) := by decide +kernel
theorem d289_2922 : decode code 2922 = .ok (.iconst 0, 1) := by decide +kernel
theorem d289_2923 : decode code 2923 = .ok (.ireturn, 1) := by decide +kernel
theorem d289_2924 : decode code 2924 = .ok (.iload 6, 2) := by decide +kernel
theorem d289_2926 : decode code 2926 = .ok (.ifCond .ne 15, 3) := by decide +kernel
theorem d289_2929 : decode code 2929 = .ok (.aload_n 3, 1) := by decide +kernel
theorem d289_2930 : decode code 2930 = .ok (.iconst 0, 1) := by decide +kernel
theorem d289_2931 : decode code 2931 = .ok (.laload, 1) := by decide +kernel
theorem d289_2932 : decode code 2932 = .ok (.iload 7, 2) := by decide +kernel
theorem d289_2934 : decode code 2934 = .ok (.i2l, 1) := by decide +kernel
theorem d289_2935 : decode code 2935 = .ok (.lcmp, 1) := by decide +kernel
theorem d289_2936 : decode code 2936 = .ok (.ifCond .eq 5, 3) := by decide +kernel
theorem d289_2939 : decode code 2939 = .ok (.iconst 0, 1) := by decide +kernel
theorem d289_2940 : decode code 2940 = .ok (.ireturn, 1) := by decide +kernel
theorem d289_2941 : decode code 2941 = .ok (.goto 60, 3) := by decide +kernel
theorem d289_2944 : decode code 2944 = .ok (.aload_n 1, 1) := by decide +kernel
theorem d289_2945 : decode code 2945 = .ok (.invokevirtual 337, 3) := by decide +kernel
theorem d289_2948 : decode code 2948 = .ok (.aload_n 2, 1) := by decide +kernel
theorem d289_2949 : decode code 2949 = .ok (.invokevirtual 340, 3) := by decide +kernel
theorem d289_2952 : decode code 2952 = .ok (.if_icmp .eq 49, 3) := by decide +kernel
theorem d289_2955 : decode code 2955 = .ok (.iconst 0, 1) := by decide +kernel
theorem d289_2956 : decode code 2956 = .ok (.ireturn, 1) := by decide +kernel
theorem d289_2957 : decode code 2957 = .ok (.aload_n 1, 1) := by decide +kernel
theorem d289_2958 : decode code 2958 = .ok (.aload_n 3, 1) := by decide +kernel
theorem d289_2959 : decode code 2959 = .ok (.invokestatic 341, 3) := by decide +kernel
theorem d289_2962 : decode code 2962 = .ok (.istore 6, 2) := by decide +kernel
theorem d289_2964 : decode code 2964 = .ok (.aload_n 2, 1) := by decide +kernel
theorem d289_2965 : decode code 2965 = .ok (.invokevirtual 343, 3) := by decide +kernel
theorem d289_2968 : decode code 2968 = .ok (.istore 7, 2) := by decide +kernel
theorem d289_2970 : decode code 2970 = .ok (.aload_n 2, 1) := by decide +kernel
theorem d289_2971 : decode code 2971 = .ok (.invokevirtual 172, 3) := by decide +kernel
theorem d289_2974 : decode code 2974 = .ok (.iload 6, 2) := by decide +kernel
theorem d289_2976 : decode code 2976 = .ok (.if_icmp .eq 5, 3) := by decide +kernel
theorem d289_2979 : decode code 2979 = .ok (.iconst 0, 1) := by decide +kernel
theorem d289_2980 : decode code 2980 = .ok (.ireturn, 1) := by decide +kernel
theorem d289_2981 : decode code 2981 = .ok (.iload 6, 2) := by decide +kernel
theorem d289_2983 : decode code 2983 = .ok (.ifCond .ne 15, 3) := by decide +kernel
theorem d289_2986 : decode code 2986 = .ok (.aload_n 3, 1) := by decide +kernel
theorem d289_2987 : decode code 2987 = .ok (.iconst 0, 1) := by decide +kernel
theorem d289_2988 : decode code 2988 = .ok (.laload, 1) := by decide +kernel
theorem d289_2989 : decode code 2989 = .ok (.iload 7, 2) := by decide +kernel
theorem d289_2991 : decode code 2991 = .ok (.i2l, 1) := by decide +kernel
theorem d289_2992 : decode code 2992 = .ok (.lcmp, 1) := by decide +kernel
theorem d289_2993 : decode code 2993 = .ok (.ifCond .eq 5, 3) := by decide +kernel
theorem d289_2996 : decode code 2996 = .ok (.iconst 0, 1) := by decide +kernel
theorem d289_2997 : decode code 2997 = .ok (.ireturn, 1) := by decide +kernel
theorem d289_2998 : decode code 2998 = .ok (.goto 3, 3) := by decide +kernel
theorem d289_3001 : decode code 3001 = .ok (.iinc 5 7, 3) := by decide +kernel
theorem d289_3004 : decode code 3004 = .ok (.goto (-2976), 3) := by decide +kernel
theorem d289_3007 : decode code 3007 = .ok (.iconst 1, 1) := by decide +kernel
theorem d289_3008 : decode code 3008 = .ok (.ireturn, 1) := by decide +kernel
