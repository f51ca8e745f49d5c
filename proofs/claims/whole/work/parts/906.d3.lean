/-! decode rows -/
theorem d247_0 : decode method_3_code 0 = .ok (.aload 7, 2) := by decide +kernel
theorem d247_2 : decode method_3_code 2 = .ok (.iconst 0, 1) := by decide +kernel
theorem d247_3 : decode method_3_code 3 = .ok (.aload_n 0, 1) := by decide +kernel
theorem d247_4 : decode method_3_code 4 = .ok (.iload_n 1, 1) := by decide +kernel
theorem d247_5 : decode method_3_code 5 = .ok (.iload_n 2, 1) := by decide +kernel
theorem d247_6 : decode method_3_code 6 = .ok (.iload_n 3, 1) := by decide +kernel
theorem d247_7 : decode method_3_code 7 = .ok (.iload 4, 2) := by decide +kernel
theorem d247_9 : decode method_3_code 9 = .ok (.iload 5, 2) := by decide +kernel
theorem d247_11 : decode method_3_code 11 = .ok (.iload 6, 2) := by decide +kernel
theorem d247_13 : decode method_3_code 13 = .ok (.invokevirtual 7, 3) := by decide +kernel
theorem d247_16 : decode method_3_code 16 = .ok (.i2l, 1) := by decide +kernel
theorem d247_17 : decode method_3_code 17 = .ok (.lastore, 1) := by decide +kernel
theorem d247_18 : decode method_3_code 18 = .ok (.goto 11, 3) := by decide +kernel
theorem d247_21 : decode method_3_code 21 = .ok (.astore 8, 2) := by decide +kernel
theorem d247_23 : decode method_3_code 23 = .ok (.iconst 1, 1) := by decide +kernel
theorem d247_24 : decode method_3_code 24 = .ok (.ireturn, 1) := by decide +kernel
theorem d247_25 : decode method_3_code 25 = .ok (.astore 8, 2) := by decide +kernel
theorem d247_27 : decode method_3_code 27 = .ok (.iconst 2, 1) := by decide +kernel
theorem d247_28 : decode method_3_code 28 = .ok (.ireturn, 1) := by decide +kernel
theorem d247_29 : decode method_3_code 29 = .ok (.iconst 0, 1) := by decide +kernel
theorem d247_30 : decode method_3_code 30 = .ok (.ireturn, 1) := by decide +kernel
theorem d248_0 : decode method_4_code 0 = .ok (.aload_n 2, 1) := by decide +kernel
theorem d248_1 : decode method_4_code 1 = .ok (.iconst 0, 1) := by decide +kernel
theorem d248_2 : decode method_4_code 2 = .ok (.aload_n 0, 1) := by decide +kernel
theorem d248_3 : decode method_4_code 3 = .ok (.iload_n 1, 1) := by decide +kernel
theorem d248_4 : decode method_4_code 4 = .ok (.invokevirtual 17, 3) := by decide +kernel
theorem d248_7 : decode method_4_code 7 = .ok (.i2l, 1) := by decide +kernel
theorem d248_8 : decode method_4_code 8 = .ok (.lastore, 1) := by decide +kernel
theorem d248_9 : decode method_4_code 9 = .ok (.goto 6, 3) := by decide +kernel
theorem d248_12 : decode method_4_code 12 = .ok (.astore_n 3, 1) := by decide +kernel
theorem d248_13 : decode method_4_code 13 = .ok (.iconst 1, 1) := by decide +kernel
theorem d248_14 : decode method_4_code 14 = .ok (.ireturn, 1) := by decide +kernel
theorem d248_15 : decode method_4_code 15 = .ok (.iconst 0, 1) := by decide +kernel
theorem d248_16 : decode method_4_code 16 = .ok (.ireturn, 1) := by decide +kernel
theorem d249_0 : decode method_5_code 0 = .ok (.aload_n 3, 1) := by decide +kernel
theorem d249_1 : decode method_5_code 1 = .ok (.iconst 0, 1) := by decide +kernel
theorem d249_2 : decode method_5_code 2 = .ok (.aload_n 0, 1) := by decide +kernel
theorem d249_3 : decode method_5_code 3 = .ok (.iload_n 1, 1) := by decide +kernel
theorem d249_4 : decode method_5_code 4 = .ok (.iload_n 2, 1) := by decide +kernel
theorem d249_5 : decode method_5_code 5 = .ok (.invokevirtual 23, 3) := by decide +kernel
theorem d249_8 : decode method_5_code 8 = .ok (.i2l, 1) := by decide +kernel
theorem d249_9 : decode method_5_code 9 = .ok (.lastore, 1) := by decide +kernel
theorem d249_10 : decode method_5_code 10 = .ok (.goto 15, 3) := by decide +kernel
theorem d249_13 : decode method_5_code 13 = .ok (.astore 4, 2) := by decide +kernel
theorem d249_15 : decode method_5_code 15 = .ok (.iconst 1, 1) := by decide +kernel
theorem d249_16 : decode method_5_code 16 = .ok (.ireturn, 1) := by decide +kernel
theorem d249_17 : decode method_5_code 17 = .ok (.astore 4, 2) := by decide +kernel
theorem d249_19 : decode method_5_code 19 = .ok (.iconst 2, 1) := by decide +kernel
theorem d249_20 : decode method_5_code 20 = .ok (.ireturn, 1) := by decide +kernel
theorem d249_21 : decode method_5_code 21 = .ok (.astore 4, 2) := by decide +kernel
theorem d249_23 : decode method_5_code 23 = .ok (.iconst 3, 1) := by decide +kernel
theorem d249_24 : decode method_5_code 24 = .ok (.ireturn, 1) := by decide +kernel
theorem d249_25 : decode method_5_code 25 = .ok (.iconst 0, 1) := by decide +kernel
theorem d249_26 : decode method_5_code 26 = .ok (.ireturn, 1) := by decide +kernel
theorem d250_0 : decode method_6_code 0 = .ok (.aload_n 2, 1) := by decide +kernel
theorem d250_1 : decode method_6_code 1 = .ok (.iconst 0, 1) := by decide +kernel
theorem d250_2 : decode method_6_code 2 = .ok (.aload_n 0, 1) := by decide +kernel
theorem d250_3 : decode method_6_code 3 = .ok (.iload_n 1, 1) := by decide +kernel
theorem d250_4 : decode method_6_code 4 = .ok (.invokevirtual 29, 3) := by decide +kernel
theorem d250_7 : decode method_6_code 7 = .ok (.i2l, 1) := by decide +kernel
theorem d250_8 : decode method_6_code 8 = .ok (.lastore, 1) := by decide +kernel
theorem d250_9 : decode method_6_code 9 = .ok (.goto 9, 3) := by decide +kernel
theorem d250_12 : decode method_6_code 12 = .ok (.astore_n 3, 1) := by decide +kernel
theorem d250_13 : decode method_6_code 13 = .ok (.iconst 1, 1) := by decide +kernel
theorem d250_14 : decode method_6_code 14 = .ok (.ireturn, 1) := by decide +kernel
theorem d250_15 : decode method_6_code 15 = .ok (.astore_n 3, 1) := by decide +kernel
theorem d250_16 : decode method_6_code 16 = .ok (.iconst 2, 1) := by decide +kernel
theorem d250_17 : decode method_6_code 17 = .ok (.ireturn, 1) := by decide +kernel
theorem d250_18 : decode method_6_code 18 = .ok (.iconst 0, 1) := by decide +kernel
theorem d250_19 : decode method_6_code 19 = .ok (.ireturn, 1) := by decide +kernel
theorem d251_0 : decode method_7_code 0 = .ok (.aload_n 3, 1) := by decide +kernel
theorem d251_1 : decode method_7_code 1 = .ok (.iconst 0, 1) := by decide +kernel
theorem d251_2 : decode method_7_code 2 = .ok (.aload_n 0, 1) := by decide +kernel
theorem d251_3 : decode method_7_code 3 = .ok (.iload_n 1, 1) := by decide +kernel
theorem d251_4 : decode method_7_code 4 = .ok (.iload_n 2, 1) := by decide +kernel
theorem d251_5 : decode method_7_code 5 = .ok (.invokevirtual 32, 3) := by decide +kernel
theorem d251_8 : decode method_7_code 8 = .ok (.i2l, 1) := by decide +kernel
theorem d251_9 : decode method_7_code 9 = .ok (.lastore, 1) := by decide +kernel
theorem d251_10 : decode method_7_code 10 = .ok (.goto 11, 3) := by decide +kernel
theorem d251_13 : decode method_7_code 13 = .ok (.astore 4, 2) := by decide +kernel
theorem d251_15 : decode method_7_code 15 = .ok (.iconst 1, 1) := by decide +kernel
theorem d251_16 : decode method_7_code 16 = .ok (.ireturn, 1) := by decide +kernel
theorem d251_17 : decode method_7_code 17 = .ok (.astore 4, 2) := by decide +kernel
theorem d251_19 : decode method_7_code 19 = .ok (.iconst 2, 1) := by decide +kernel
theorem d251_20 : decode method_7_code 20 = .ok (.ireturn, 1) := by decide +kernel
theorem d251_21 : decode method_7_code 21 = .ok (.iconst 0, 1) := by decide +kernel
theorem d251_22 : decode method_7_code 22 = .ok (.ireturn, 1) := by decide +kernel
theorem d252_0 : decode method_8_code 0 = .ok (.aload 4, 2) := by decide +kernel
theorem d252_2 : decode method_8_code 2 = .ok (.iconst 0, 1) := by decide +kernel
theorem d252_3 : decode method_8_code 3 = .ok (.aload_n 0, 1) := by decide +kernel
theorem d252_4 : decode method_8_code 4 = .ok (.iload_n 1, 1) := by decide +kernel
theorem d252_5 : decode method_8_code 5 = .ok (.iload_n 2, 1) := by decide +kernel
theorem d252_6 : decode method_8_code 6 = .ok (.iload_n 3, 1) := by decide +kernel
theorem d252_7 : decode method_8_code 7 = .ok (.invokevirtual 36, 3) := by decide +kernel
theorem d252_10 : decode method_8_code 10 = .ok (.i2l, 1) := by decide +kernel
theorem d252_11 : decode method_8_code 11 = .ok (.lastore, 1) := by decide +kernel
theorem d252_12 : decode method_8_code 12 = .ok (.goto 19, 3) := by decide +kernel
theorem d252_15 : decode method_8_code 15 = .ok (.astore 5, 2) := by decide +kernel
theorem d252_17 : decode method_8_code 17 = .ok (.iconst 1, 1) := by decide +kernel
theorem d252_18 : decode method_8_code 18 = .ok (.ireturn, 1) := by decide +kernel
theorem d252_19 : decode method_8_code 19 = .ok (.astore 5, 2) := by decide +kernel
theorem d252_21 : decode method_8_code 21 = .ok (.iconst 2, 1) := by decide +kernel
theorem d252_22 : decode method_8_code 22 = .ok (.ireturn, 1) := by decide +kernel
theorem d252_23 : decode method_8_code 23 = .ok (.astore 5, 2) := by decide +kernel
theorem d252_25 : decode method_8_code 25 = .ok (.iconst 3, 1) := by decide +kernel
theorem d252_26 : decode method_8_code 26 = .ok (.ireturn, 1) := by decide +kernel
theorem d252_27 : decode method_8_code 27 = .ok (.astore 5, 2) := by decide +kernel
theorem d252_29 : decode method_8_code 29 = .ok (.iconst 4, 1) := by decide +kernel
theorem d252_30 : decode method_8_code 30 = .ok (.ireturn, 1) := by decide +kernel
theorem d252_31 : decode method_8_code 31 = .ok (.iconst 0, 1) := by decide +kernel
theorem d252_32 : decode method_8_code 32 = .ok (.ireturn, 1) := by decide +kernel
theorem d253_0 : decode method_9_code 0 = .ok (.aload_n 3, 1) := by decide +kernel
theorem d253_1 : decode method_9_code 1 = .ok (.iconst 0, 1) := by decide +kernel
theorem d253_2 : decode method_9_code 2 = .ok (.aload_n 0, 1) := by decide +kernel
theorem d253_3 : decode method_9_code 3 = .ok (.iload_n 1, 1) := by decide +kernel
theorem d253_4 : decode method_9_code 4 = .ok (.iload_n 2, 1) := by decide +kernel
theorem d253_5 : decode method_9_code 5 = .ok (.invokevirtual 42, 3) := by decide +kernel
theorem d253_8 : decode method_9_code 8 = .ok (.i2l, 1) := by decide +kernel
theorem d253_9 : decode method_9_code 9 = .ok (.lastore, 1) := by decide +kernel
theorem d253_10 : decode method_9_code 10 = .ok (.goto 11, 3) := by decide +kernel
theorem d253_13 : decode method_9_code 13 = .ok (.astore 4, 2) := by decide +kernel
theorem d253_15 : decode method_9_code 15 = .ok (.iconst 1, 1) := by decide +kernel
theorem d253_16 : decode method_9_code 16 = .ok (.ireturn, 1) := by decide +kernel
theorem d253_17 : decode method_9_code 17 = .ok (.astore 4, 2) := by decide +kernel
theorem d253_19 : decode method_9_code 19 = .ok (.iconst 2, 1) := by decide +kernel
theorem d253_20 : decode method_9_code 20 = .ok (.ireturn, 1) := by decide +kernel
theorem d253_21 : decode method_9_code 21 = .ok (.iconst 0, 1) := by decide +kernel
theorem d253_22 : decode method_9_code 22 = .ok (.ireturn, 1) := by decide +kernel
theorem d254_0 : decode method_10_code 0 = .ok (.aload_n 3, 1) := by decide +kernel
theorem d254_1 : decode method_10_code 1 = .ok (.iconst 0, 1) := by decide +kernel
theorem d254_2 : decode method_10_code 2 = .ok (.aload_n 0, 1) := by decide +kernel
theorem d254_3 : decode method_10_code 3 = .ok (.iload_n 1, 1) := by decide +kernel
theorem d254_4 : decode method_10_code 4 = .ok (.iload_n 2, 1) := by decide +kernel
theorem d254_5 : decode method_10_code 5 = .ok (.invokevirtual 45, 3) := by decide +kernel
theorem d254_8 : decode method_10_code 8 = .ok (.i2l, 1) := by decide +kernel
theorem d254_9 : decode method_10_code 9 = .ok (.lastore, 1) := by decide +kernel
theorem d254_10 : decode method_10_code 10 = .ok (.goto 11, 3) := by decide +kernel
theorem d254_13 : decode method_10_code 13 = .ok (.astore 4, 2) := by decide +kernel
theorem d254_15 : decode method_10_code 15 = .ok (.iconst 1, 1) := by decide +kernel
theorem d254_16 : decode method_10_code 16 = .ok (.ireturn, 1) := by decide +kernel
theorem d254_17 : decode method_10_code 17 = .ok (.astore 4, 2) := by decide +kernel
theorem d254_19 : decode method_10_code 19 = .ok (.iconst 2, 1) := by decide +kernel
theorem d254_20 : decode method_10_code 20 = .ok (.ireturn, 1) := by decide +kernel
theorem d254_21 : decode method_10_code 21 = .ok (.iconst 0, 1) := by decide +kernel
theorem d254_22 : decode method_10_code 22 = .ok (.ireturn, 1) := by decide +kernel
theorem d255_0 : decode method_11_code 0 = .ok (.aload_n 3, 1) := by decide +kernel
theorem d255_1 : decode method_11_code 1 = .ok (.iconst 0, 1) := by decide +kernel
theorem d255_2 : decode method_11_code 2 = .ok (.aload_n 0, 1) := by decide +kernel
theorem d255_3 : decode method_11_code 3 = .ok (.iload_n 1, 1) := by decide +kernel
theorem d255_4 : decode method_11_code 4 = .ok (.iload_n 2, 1) := by decide +kernel
theorem d255_5 : decode method_11_code 5 = .ok (.invokevirtual 48, 3) := by decide +kernel
theorem d255_8 : decode method_11_code 8 = .ok (.i2l, 1) := by decide +kernel
theorem d255_9 : decode method_11_code 9 = .ok (.lastore, 1) := by decide +kernel
theorem d255_10 : decode method_11_code 10 = .ok (.goto 19, 3) := by decide +kernel
theorem d255_13 : decode method_11_code 13 = .ok (.astore 4, 2) := by decide +kernel
theorem d255_15 : decode method_11_code 15 = .ok (.iconst 1, 1) := by decide +kernel
theorem d255_16 : decode method_11_code 16 = .ok (.ireturn, 1) := by decide +kernel
theorem d255_17 : decode method_11_code 17 = .ok (.astore 4, 2) := by decide +kernel
theorem d255_19 : decode method_11_code 19 = .ok (.iconst 2, 1) := by decide +kernel
theorem d255_20 : decode method_11_code 20 = .ok (.ireturn, 1) := by decide +kernel
theorem d255_21 : decode method_11_code 21 = .ok (.astore 4, 2) := by decide +kernel
theorem d255_23 : decode method_11_code 23 = .ok (.iconst 3, 1) := by decide +kernel
theorem d255_24 : decode method_11_code 24 = .ok (.ireturn, 1) := by decide +kernel
theorem d255_25 : decode method_11_code 25 = .ok (.astore 4, 2) := by decide +kernel
theorem d255_27 : decode method_11_code 27 = .ok (.iconst 4, 1) := by decide +kernel
theorem d255_28 : decode method_11_code 28 = .ok (.ireturn, 1) := by decide +kernel
theorem d255_29 : decode method_11_code 29 = .ok (.iconst 0, 1) := by decide +kernel
theorem d255_30 : decode method_11_code 30 = .ok (.ireturn, 1) := by decide +kernel
theorem d256_0 : decode method_12_code 0 = .ok (.aload_n 2, 1) := by decide +kernel
theorem d256_1 : decode method_12_code 1 = .ok (.iconst 0, 1) := by decide +kernel
theorem d256_2 : decode method_12_code 2 = .ok (.aload_n 0, 1) := by decide +kernel
theorem d256_3 : decode method_12_code 3 = .ok (.iload_n 1, 1) := by decide +kernel
theorem d256_4 : decode method_12_code 4 = .ok (.invokevirtual 51, 3) := by decide +kernel
theorem d256_7 : decode method_12_code 7 = .ok (.i2l, 1) := by decide +kernel
theorem d256_8 : decode method_12_code 8 = .ok (.lastore, 1) := by decide +kernel
theorem d256_9 : decode method_12_code 9 = .ok (.goto 6, 3) := by decide +kernel
theorem d256_12 : decode method_12_code 12 = .ok (.astore_n 3, 1) := by decide +kernel
theorem d256_13 : decode method_12_code 13 = .ok (.iconst 1, 1) := by decide +kernel
theorem d256_14 : decode method_12_code 14 = .ok (.ireturn, 1) := by decide +kernel
theorem d256_15 : decode method_12_code 15 = .ok (.iconst 0, 1) := by decide +kernel
theorem d256_16 : decode method_12_code 16 = .ok (.ireturn, 1) := by decide +kernel
theorem d257_0 : decode method_13_code 0 = .ok (.aload_n 3, 1) := by decide +kernel
theorem d257_1 : decode method_13_code 1 = .ok (.iconst 0, 1) := by decide +kernel
theorem d257_2 : decode method_13_code 2 = .ok (.aload_n 0, 1) := by decide +kernel
theorem d257_3 : decode method_13_code 3 = .ok (.iload_n 1, 1) := by decide +kernel
theorem d257_4 : decode method_13_code 4 = .ok (.iload_n 2, 1) := by decide +kernel
theorem d257_5 : decode method_13_code 5 = .ok (.invokevirtual 54, 3) := by decide +kernel
theorem d257_8 : decode method_13_code 8 = .ok (.i2l, 1) := by decide +kernel
theorem d257_9 : decode method_13_code 9 = .ok (.lastore, 1) := by decide +kernel
theorem d257_10 : decode method_13_code 10 = .ok (.goto 11, 3) := by decide +kernel
theorem d257_13 : decode method_13_code 13 = .ok (.astore 4, 2) := by decide +kernel
theorem d257_15 : decode method_13_code 15 = .ok (.iconst 1, 1) := by decide +kernel
theorem d257_16 : decode method_13_code 16 = .ok (.ireturn, 1) := by decide +kernel
theorem d257_17 : decode method_13_code 17 = .ok (.astore 4, 2) := by decide +kernel
theorem d257_19 : decode method_13_code 19 = .ok (.iconst 2, 1) := by decide +kernel
theorem d257_20 : decode method_13_code 20 = .ok (.ireturn, 1) := by decide +kernel
theorem d257_21 : decode method_13_code 21 = .ok (.iconst 0, 1) := by decide +kernel
theorem d257_22 : decode method_13_code 22 = .ok (.ireturn, 1) := by decide +kernel
theorem d258_0 : decode method_14_code 0 = .ok (.aload_n 2, 1) := by decide +kernel
theorem d258_1 : decode method_14_code 1 = .ok (.iconst 0, 1) := by decide +kernel
theorem d258_2 : decode method_14_code 2 = .ok (.aload_n 0, 1) := by decide +kernel
theorem d258_3 : decode method_14_code 3 = .ok (.iload_n 1, 1) := by decide +kernel
theorem d258_4 : decode method_14_code 4 = .ok (.invokevirtual 57, 3) := by decide +kernel
theorem d258_7 : decode method_14_code 7 = .ok (.i2l, 1) := by decide +kernel
theorem d258_8 : decode method_14_code 8 = .ok (.lastore, 1) := by decide +kernel
theorem d258_9 : decode method_14_code 9 = .ok (.goto 6, 3) := by decide +kernel
theorem d258_12 : decode method_14_code 12 = .ok (.astore_n 3, 1) := by decide +kernel
theorem d258_13 : decode method_14_code 13 = .ok (.iconst 1, 1) := by decide +kernel
theorem d258_14 : decode method_14_code 14 = .ok (.ireturn, 1) := by decide +kernel
theorem d258_15 : decode method_14_code 15 = .ok (.iconst 0, 1) := by decide +kernel
theorem d258_16 : decode method_14_code 16 = .ok (.ireturn, 1) := by decide +kernel
theorem d259_0 : decode method_15_code 0 = .ok (.aload_n 2, 1) := by decide +kernel
theorem d259_1 : decode method_15_code 1 = .ok (.iconst 0, 1) := by decide +kernel
theorem d259_2 : decode method_15_code 2 = .ok (.aload_n 0, 1) := by decide +kernel
theorem d259_3 : decode method_15_code 3 = .ok (.iload_n 1, 1) := by decide +kernel
theorem d259_4 : decode method_15_code 4 = .ok (.invokevirtual 61, 3) := by decide +kernel
theorem d259_7 : decode method_15_code 7 = .ok (.i2l, 1) := by decide +kernel
theorem d259_8 : decode method_15_code 8 = .ok (.lastore, 1) := by decide +kernel
theorem d259_9 : decode method_15_code 9 = .ok (.goto 6, 3) := by decide +kernel
theorem d259_12 : decode method_15_code 12 = .ok (.astore_n 3, 1) := by decide +kernel
theorem d259_13 : decode method_15_code 13 = .ok (.iconst 1, 1) := by decide +kernel
theorem d259_14 : decode method_15_code 14 = .ok (.ireturn, 1) := by decide +kernel
theorem d259_15 : decode method_15_code 15 = .ok (.iconst 0, 1) := by decide +kernel
theorem d259_16 : decode method_15_code 16 = .ok (.ireturn, 1) := by decide +kernel
theorem d260_0 : decode method_16_code 0 = .ok (.aload_n 2, 1) := by decide +kernel
theorem d260_1 : decode method_16_code 1 = .ok (.iconst 0, 1) := by decide +kernel
theorem d260_2 : decode method_16_code 2 = .ok (.aload_n 0, 1) := by decide +kernel
theorem d260_3 : decode method_16_code 3 = .ok (.iload_n 1, 1) := by decide +kernel
theorem d260_4 : decode method_16_code 4 = .ok (.invokevirtual 64, 3) := by decide +kernel
theorem d260_7 : decode method_16_code 7 = .ok (.i2l, 1) := by decide +kernel
theorem d260_8 : decode method_16_code 8 = .ok (.lastore, 1) := by decide +kernel
theorem d260_9 : decode method_16_code 9 = .ok (.goto 6, 3) := by decide +kernel
theorem d260_12 : decode method_16_code 12 = .ok (.astore_n 3, 1) := by decide +kernel
theorem d260_13 : decode method_16_code 13 = .ok (.iconst 1, 1) := by decide +kernel
theorem d260_14 : decode method_16_code 14 = .ok (.ireturn, 1) := by decide +kernel
theorem d260_15 : decode method_16_code 15 = .ok (.iconst 0, 1) := by decide +kernel
theorem d260_16 : decode method_16_code 16 = .ok (.ireturn, 1) := by decide +kernel
theorem d261_0 : decode method_17_code 0 = .ok (.aload_n 2, 1) := by decide +kernel
theorem d261_1 : decode method_17_code 1 = .ok (.iconst 0, 1) := by decide +kernel
theorem d261_2 : decode method_17_code 2 = .ok (.aload_n 0, 1) := by decide +kernel
theorem d261_3 : decode method_17_code 3 = .ok (.iload_n 1, 1) := by decide +kernel
theorem d261_4 : decode method_17_code 4 = .ok (.invokevirtual 67, 3) := by decide +kernel
theorem d261_7 : decode method_17_code 7 = .ok (.i2l, 1) := by decide +kernel
theorem d261_8 : decode method_17_code 8 = .ok (.lastore, 1) := by decide +kernel
theorem d261_9 : decode method_17_code 9 = .ok (.goto 6, 3) := by decide +kernel
theorem d261_12 : decode method_17_code 12 = .ok (.astore_n 3, 1) := by decide +kernel
theorem d261_13 : decode method_17_code 13 = .ok (.iconst 1, 1) := by decide +kernel
theorem d261_14 : decode method_17_code 14 = .ok (.ireturn, 1) := by decide +kernel
theorem d261_15 : decode method_17_code 15 = .ok (.iconst 0, 1) := by decide +kernel
theorem d261_16 : decode method_17_code 16 = .ok (.ireturn, 1) := by decide +kernel
theorem d262_0 : decode method_18_code 0 = .ok (.aload_n 2, 1) := by decide +kernel
theorem d262_1 : decode method_18_code 1 = .ok (.iconst 0, 1) := by decide +kernel
theorem d262_2 : decode method_18_code 2 = .ok (.aload_n 0, 1) := by decide +kernel
theorem d262_3 : decode method_18_code 3 = .ok (.iload_n 1, 1) := by decide +kernel
theorem d262_4 : decode method_18_code 4 = .ok (.invokevirtual 70, 3) := by decide +kernel
theorem d262_7 : decode method_18_code 7 = .ok (.i2l, 1) := by decide +kernel
theorem d262_8 : decode method_18_code 8 = .ok (.lastore, 1) := by decide +kernel
theorem d262_9 : decode method_18_code 9 = .ok (.goto 6, 3) := by decide +kernel
theorem d262_12 : decode method_18_code 12 = .ok (.astore_n 3, 1) := by decide +kernel
theorem d262_13 : decode method_18_code 13 = .ok (.iconst 1, 1) := by decide +kernel
theorem d262_14 : decode method_18_code 14 = .ok (.ireturn, 1) := by decide +kernel
theorem d262_15 : decode method_18_code 15 = .ok (.iconst 0, 1) := by decide +kernel
theorem d262_16 : decode method_18_code 16 = .ok (.ireturn, 1) := by decide +kernel
theorem d263_0 : decode method_19_code 0 = .ok (.aload_n 2, 1) := by decide +kernel
theorem d263_1 : decode method_19_code 1 = .ok (.iconst 0, 1) := by decide +kernel
theorem d263_2 : decode method_19_code 2 = .ok (.aload_n 0, 1) := by decide +kernel
theorem d263_3 : decode method_19_code 3 = .ok (.iload_n 1, 1) := by decide +kernel
theorem d263_4 : decode method_19_code 4 = .ok (.invokevirtual 73, 3) := by decide +kernel
theorem d263_7 : decode method_19_code 7 = .ok (.i2l, 1) := by decide +kernel
theorem d263_8 : decode method_19_code 8 = .ok (.lastore, 1) := by decide +kernel
theorem d263_9 : decode method_19_code 9 = .ok (.goto 6, 3) := by decide +kernel
theorem d263_12 : decode method_19_code 12 = .ok (.astore_n 3, 1) := by decide +kernel
theorem d263_13 : decode method_19_code 13 = .ok (.iconst 1, 1) := by decide +kernel
theorem d263_14 : decode method_19_code 14 = .ok (.ireturn, 1) := by decide +kernel
theorem d263_15 : decode method_19_code 15 = .ok (.iconst 0, 1) := by decide +kernel
theorem d263_16 : decode method_19_code 16 = .ok (.ireturn, 1) := by decide +kernel
theorem d264_0 : decode method_20_code 0 = .ok (.aload_n 3, 1) := by decide +kernel
theorem d264_1 : decode method_20_code 1 = .ok (.iconst 0, 1) := by decide +kernel
theorem d264_2 : decode method_20_code 2 = .ok (.aload_n 0, 1) := by decide +kernel
theorem d264_3 : decode method_20_code 3 = .ok (.iload_n 1, 1) := by decide +kernel
theorem d264_4 : decode method_20_code 4 = .ok (.iload_n 2, 1) := by decide +kernel
theorem d264_5 : decode method_20_code 5 = .ok (.invokevirtual 77, 3) := by decide +kernel
theorem d264_8 : decode method_20_code 8 = .ok (.i2l, 1) := by decide +kernel
theorem d264_9 : decode method_20_code 9 = .ok (.lastore, 1) := by decide +kernel
theorem d264_10 : decode method_20_code 10 = .ok (.goto 11, 3) := by decide +kernel
theorem d264_13 : decode method_20_code 13 = .ok (.astore 4, 2) := by decide +kernel
theorem d264_15 : decode method_20_code 15 = .ok (.iconst 1, 1) := by decide +kernel
theorem d264_16 : decode method_20_code 16 = .ok (.ireturn, 1) := by decide +kernel
theorem d264_17 : decode method_20_code 17 = .ok (.astore 4, 2) := by decide +kernel
theorem d264_19 : decode method_20_code 19 = .ok (.iconst 2, 1) := by decide +kernel
theorem d264_20 : decode method_20_code 20 = .ok (.ireturn, 1) := by decide +kernel
theorem d264_21 : decode method_20_code 21 = .ok (.iconst 0, 1) := by decide +kernel
theorem d264_22 : decode method_20_code 22 = .ok (.ireturn, 1) := by decide +kernel
theorem d265_0 : decode method_21_code 0 = .ok (.aload_n 2, 1) := by decide +kernel
theorem d265_1 : decode method_21_code 1 = .ok (.iconst 0, 1) := by decide +kernel
theorem d265_2 : decode method_21_code 2 = .ok (.aload_n 0, 1) := by decide +kernel
theorem d265_3 : decode method_21_code 3 = .ok (.iload_n 1, 1) := by decide +kernel
theorem d265_4 : decode method_21_code 4 = .ok (.invokevirtual 81, 3) := by decide +kernel
theorem d265_7 : decode method_21_code 7 = .ok (.i2l, 1) := by decide +kernel
theorem d265_8 : decode method_21_code 8 = .ok (.lastore, 1) := by decide +kernel
theorem d265_9 : decode method_21_code 9 = .ok (.goto 6, 3) := by decide +kernel
theorem d265_12 : decode method_21_code 12 = .ok (.astore_n 3, 1) := by decide +kernel
theorem d265_13 : decode method_21_code 13 = .ok (.iconst 1, 1) := by decide +kernel
theorem d265_14 : decode method_21_code 14 = .ok (.ireturn, 1) := by decide +kernel
theorem d265_15 : decode method_21_code 15 = .ok (.iconst 0, 1) := by decide +kernel
theorem d265_16 : decode method_21_code 16 = .ok (.ireturn, 1) := by decide +kernel
theorem d266_0 : decode method_22_code 0 = .ok (.aload_n 2, 1) := by decide +kernel
theorem d266_1 : decode method_22_code 1 = .ok (.iconst 0, 1) := by decide +kernel
theorem d266_2 : decode method_22_code 2 = .ok (.aload_n 0, 1) := by decide +kernel
theorem d266_3 : decode method_22_code 3 = .ok (.iload_n 1, 1) := by decide +kernel
theorem d266_4 : decode method_22_code 4 = .ok (.invokevirtual 84, 3) := by decide +kernel
theorem d266_7 : decode method_22_code 7 = .ok (.i2l, 1) := by decide +kernel
theorem d266_8 : decode method_22_code 8 = .ok (.lastore, 1) := by decide +kernel
theorem d266_9 : decode method_22_code 9 = .ok (.goto 9, 3) := by decide +kernel
theorem d266_12 : decode method_22_code 12 = .ok (.astore_n 3, 1) := by decide +kernel
theorem d266_13 : decode method_22_code 13 = .ok (.iconst 1, 1) := by decide +kernel
theorem d266_14 : decode method_22_code 14 = .ok (.ireturn, 1) := by decide +kernel
theorem d266_15 : decode method_22_code 15 = .ok (.astore_n 3, 1) := by decide +kernel
theorem d266_16 : decode method_22_code 16 = .ok (.iconst 2, 1) := by decide +kernel
theorem d266_17 : decode method_22_code 17 = .ok (.ireturn, 1) := by decide +kernel
theorem d266_18 : decode method_22_code 18 = .ok (.iconst 0, 1) := by decide +kernel
theorem d266_19 : decode method_22_code 19 = .ok (.ireturn, 1) := by decide +kernel
theorem d267_0 : decode method_23_code 0 = .ok (.aload_n 2, 1) := by decide +kernel
theorem d267_1 : decode method_23_code 1 = .ok (.iconst 0, 1) := by decide +kernel
theorem d267_2 : decode method_23_code 2 = .ok (.aload_n 0, 1) := by decide +kernel
theorem d267_3 : decode method_23_code 3 = .ok (.iload_n 1, 1) := by decide +kernel
theorem d267_4 : decode method_23_code 4 = .ok (.invokevirtual 87, 3) := by decide +kernel
theorem d267_7 : decode method_23_code 7 = .ok (.i2l, 1) := by decide +kernel
theorem d267_8 : decode method_23_code 8 = .ok (.lastore, 1) := by decide +kernel
theorem d267_9 : decode method_23_code 9 = .ok (.goto 6, 3) := by decide +kernel
theorem d267_12 : decode method_23_code 12 = .ok (.astore_n 3, 1) := by decide +kernel
theorem d267_13 : decode method_23_code 13 = .ok (.iconst 1, 1) := by decide +kernel
theorem d267_14 : decode method_23_code 14 = .ok (.ireturn, 1) := by decide +kernel
theorem d267_15 : decode method_23_code 15 = .ok (.iconst 0, 1) := by decide +kernel
theorem d267_16 : decode method_23_code 16 = .ok (.ireturn, 1) := by decide +kernel
theorem d268_0 : decode method_24_code 0 = .ok (.aload_n 2, 1) := by decide +kernel
theorem d268_1 : decode method_24_code 1 = .ok (.iconst 0, 1) := by decide +kernel
theorem d268_2 : decode method_24_code 2 = .ok (.aload_n 0, 1) := by decide +kernel
theorem d268_3 : decode method_24_code 3 = .ok (.iload_n 1, 1) := by decide +kernel
theorem d268_4 : decode method_24_code 4 = .ok (.invokevirtual 90, 3) := by decide +kernel
theorem d268_7 : decode method_24_code 7 = .ok (.i2l, 1) := by decide +kernel
theorem d268_8 : decode method_24_code 8 = .ok (.lastore, 1) := by decide +kernel
theorem d268_9 : decode method_24_code 9 = .ok (.goto 6, 3) := by decide +kernel
theorem d268_12 : decode method_24_code 12 = .ok (.astore_n 3, 1) := by decide +kernel
theorem d268_13 : decode method_24_code 13 = .ok (.iconst 1, 1) := by decide +kernel
theorem d268_14 : decode method_24_code 14 = .ok (.ireturn, 1) := by decide +kernel
theorem d268_15 : decode method_24_code 15 = .ok (.iconst 0, 1) := by decide +kernel
theorem d268_16 : decode method_24_code 16 = .ok (.ireturn, 1) := by decide +kernel
theorem d269_0 : decode method_25_code 0 = .ok (.aload_n 2, 1) := by decide +kernel
theorem d269_1 : decode method_25_code 1 = .ok (.iconst 0, 1) := by decide +kernel
theorem d269_2 : decode method_25_code 2 = .ok (.aload_n 0, 1) := by decide +kernel
theorem d269_3 : decode method_25_code 3 = .ok (.iload_n 1, 1) := by decide +kernel
theorem d269_4 : decode method_25_code 4 = .ok (.invokevirtual 93, 3) := by decide +kernel
theorem d269_7 : decode method_25_code 7 = .ok (.i2l, 1) := by decide +kernel
theorem d269_8 : decode method_25_code 8 = .ok (.lastore, 1) := by decide +kernel
theorem d269_9 : decode method_25_code 9 = .ok (.goto 6, 3) := by decide +kernel
theorem d269_12 : decode method_25_code 12 = .ok (.astore_n 3, 1) := by decide +kernel
theorem d269_13 : decode method_25_code 13 = .ok (.iconst 1, 1) := by decide +kernel
theorem d269_14 : decode method_25_code 14 = .ok (.ireturn, 1) := by decide +kernel
theorem d269_15 : decode method_25_code 15 = .ok (.iconst 0, 1) := by decide +kernel
theorem d269_16 : decode method_25_code 16 = .ok (.ireturn, 1) := by decide +kernel
theorem d270_0 : decode method_26_code 0 = .ok (.aload_n 2, 1) := by decide +kernel
theorem d270_1 : decode method_26_code 1 = .ok (.iconst 0, 1) := by decide +kernel
theorem d270_2 : decode method_26_code 2 = .ok (.aload_n 0, 1) := by decide +kernel
theorem d270_3 : decode method_26_code 3 = .ok (.iload_n 1, 1) := by decide +kernel
theorem d270_4 : decode method_26_code 4 = .ok (.invokevirtual 96, 3) := by decide +kernel
theorem d270_7 : decode method_26_code 7 = .ok (.ifCond .eq 7, 3) := by decide +kernel
theorem d270_10 : decode method_26_code 10 = .ok (.lconst 1, 1) := by decide +kernel
theorem d270_11 : decode method_26_code 11 = .ok (.goto 4, 3) := by decide +kernel
theorem d270_14 : decode method_26_code 14 = .ok (.lconst 0, 1) := by decide +kernel
theorem d270_15 : decode method_26_code 15 = .ok (.lastore, 1) := by decide +kernel
theorem d270_16 : decode method_26_code 16 = .ok (.goto 6, 3) := by decide +kernel
theorem d270_19 : decode method_26_code 19 = .ok (.astore_n 3, 1) := by decide +kernel
theorem d270_20 : decode method_26_code 20 = .ok (.iconst 1, 1) := by decide +kernel
theorem d270_21 : decode method_26_code 21 = .ok (.ireturn, 1) := by decide +kernel
theorem d270_22 : decode method_26_code 22 = .ok (.iconst 0, 1) := by decide +kernel
theorem d270_23 : decode method_26_code 23 = .ok (.ireturn, 1) := by decide +kernel
theorem d271_0 : decode method_27_code 0 = .ok (.aload_n 2, 1) := by decide +kernel
theorem d271_1 : decode method_27_code 1 = .ok (.iconst 0, 1) := by decide +kernel
theorem d271_2 : decode method_27_code 2 = .ok (.aload_n 0, 1) := by decide +kernel
theorem d271_3 : decode method_27_code 3 = .ok (.iload_n 1, 1) := by decide +kernel
theorem d271_4 : decode method_27_code 4 = .ok (.invokevirtual 100, 3) := by decide +kernel
theorem d271_7 : decode method_27_code 7 = .ok (.i2l, 1) := by decide +kernel
theorem d271_8 : decode method_27_code 8 = .ok (.lastore, 1) := by decide +kernel
theorem d271_9 : decode method_27_code 9 = .ok (.goto 6, 3) := by decide +kernel
theorem d271_12 : decode method_27_code 12 = .ok (.astore_n 3, 1) := by decide +kernel
theorem d271_13 : decode method_27_code 13 = .ok (.iconst 1, 1) := by decide +kernel
theorem d271_14 : decode method_27_code 14 = .ok (.ireturn, 1) := by decide +kernel
theorem d271_15 : decode method_27_code 15 = .ok (.iconst 0, 1) := by decide +kernel
theorem d271_16 : decode method_27_code 16 = .ok (.ireturn, 1) := by decide +kernel
theorem d272_0 : decode method_28_code 0 = .ok (.aload_n 3, 1) := by decide +kernel
theorem d272_1 : decode method_28_code 1 = .ok (.iconst 0, 1) := by decide +kernel
theorem d272_2 : decode method_28_code 2 = .ok (.aload_n 0, 1) := by decide +kernel
theorem d272_3 : decode method_28_code 3 = .ok (.iload_n 1, 1) := by decide +kernel
theorem d272_4 : decode method_28_code 4 = .ok (.iload_n 2, 1) := by decide +kernel
theorem d272_5 : decode method_28_code 5 = .ok (.invokevirtual 103, 3) := by decide +kernel
theorem d272_8 : decode method_28_code 8 = .ok (.ifCond .eq 7, 3) := by decide +kernel
theorem d272_11 : decode method_28_code 11 = .ok (.lconst 1, 1) := by decide +kernel
theorem d272_12 : decode method_28_code 12 = .ok (.goto 4, 3) := by decide +kernel
theorem d272_15 : decode method_28_code 15 = .ok (.lconst 0, 1) := by decide +kernel
theorem d272_16 : decode method_28_code 16 = .ok (.lastore, 1) := by decide +kernel
theorem d272_17 : decode method_28_code 17 = .ok (.goto 11, 3) := by decide +kernel
theorem d272_20 : decode method_28_code 20 = .ok (.astore 4, 2) := by decide +kernel
theorem d272_22 : decode method_28_code 22 = .ok (.iconst 1, 1) := by decide +kernel
theorem d272_23 : decode method_28_code 23 = .ok (.ireturn, 1) := by decide +kernel
theorem d272_24 : decode method_28_code 24 = .ok (.astore 4, 2) := by decide +kernel
theorem d272_26 : decode method_28_code 26 = .ok (.iconst 2, 1) := by decide +kernel
theorem d272_27 : decode method_28_code 27 = .ok (.ireturn, 1) := by decide +kernel
theorem d272_28 : decode method_28_code 28 = .ok (.iconst 0, 1) := by decide +kernel
theorem d272_29 : decode method_28_code 29 = .ok (.ireturn, 1) := by decide +kernel
theorem d273_0 : decode method_29_code 0 = .ok (.aload_n 3, 1) := by decide +kernel
theorem d273_1 : decode method_29_code 1 = .ok (.iconst 0, 1) := by decide +kernel
theorem d273_2 : decode method_29_code 2 = .ok (.aload_n 0, 1) := by decide +kernel
theorem d273_3 : decode method_29_code 3 = .ok (.iload_n 1, 1) := by decide +kernel
theorem d273_4 : decode method_29_code 4 = .ok (.iload_n 2, 1) := by decide +kernel
theorem d273_5 : decode method_29_code 5 = .ok (.invokevirtual 107, 3) := by decide +kernel
theorem d273_8 : decode method_29_code 8 = .ok (.i2l, 1) := by decide +kernel
theorem d273_9 : decode method_29_code 9 = .ok (.lastore, 1) := by decide +kernel
theorem d273_10 : decode method_29_code 10 = .ok (.goto 11, 3) := by decide +kernel
theorem d273_13 : decode method_29_code 13 = .ok (.astore 4, 2) := by decide +kernel
theorem d273_15 : decode method_29_code 15 = .ok (.iconst 1, 1) := by decide +kernel
theorem d273_16 : decode method_29_code 16 = .ok (.ireturn, 1) := by decide +kernel
theorem d273_17 : decode method_29_code 17 = .ok (.astore 4, 2) := by decide +kernel
theorem d273_19 : decode method_29_code 19 = .ok (.iconst 2, 1) := by decide +kernel
theorem d273_20 : decode method_29_code 20 = .ok (.ireturn, 1) := by decide +kernel
theorem d273_21 : decode method_29_code 21 = .ok (.iconst 0, 1) := by decide +kernel
theorem d273_22 : decode method_29_code 22 = .ok (.ireturn, 1) := by decide +kernel
theorem d274_0 : decode method_30_code 0 = .ok (.aload_n 2, 1) := by decide +kernel
theorem d274_1 : decode method_30_code 1 = .ok (.iconst 0, 1) := by decide +kernel
theorem d274_2 : decode method_30_code 2 = .ok (.aload_n 0, 1) := by decide +kernel
theorem d274_3 : decode method_30_code 3 = .ok (.iload_n 1, 1) := by decide +kernel
theorem d274_4 : decode method_30_code 4 = .ok (.invokevirtual 110, 3) := by decide +kernel
theorem d274_7 : decode method_30_code 7 = .ok (.i2l, 1) := by decide +kernel
theorem d274_8 : decode method_30_code 8 = .ok (.lastore, 1) := by decide +kernel
theorem d274_9 : decode method_30_code 9 = .ok (.goto 6, 3) := by decide +kernel
theorem d274_12 : decode method_30_code 12 = .ok (.astore_n 3, 1) := by decide +kernel
theorem d274_13 : decode method_30_code 13 = .ok (.iconst 1, 1) := by decide +kernel
theorem d274_14 : decode method_30_code 14 = .ok (.ireturn, 1) := by decide +kernel
theorem d274_15 : decode method_30_code 15 = .ok (.iconst 0, 1) := by decide +kernel
theorem d274_16 : decode method_30_code 16 = .ok (.ireturn, 1) := by decide +kernel
theorem d275_0 : decode method_31_code 0 = .ok (.aload_n 2, 1) := by decide +kernel
theorem d275_1 : decode method_31_code 1 = .ok (.iconst 0, 1) := by decide +kernel
theorem d275_2 : decode method_31_code 2 = .ok (.aload_n 0, 1) := by decide +kernel
theorem d275_3 : decode method_31_code 3 = .ok (.iload_n 1, 1) := by decide +kernel
theorem d275_4 : decode method_31_code 4 = .ok (.invokevirtual 113, 3) := by decide +kernel
theorem d275_7 : decode method_31_code 7 = .ok (.i2l, 1) := by decide +kernel
theorem d275_8 : decode method_31_code 8 = .ok (.lastore, 1) := by decide +kernel
theorem d275_9 : decode method_31_code 9 = .ok (.goto 6, 3) := by decide +kernel
theorem d275_12 : decode method_31_code 12 = .ok (.astore_n 3, 1) := by decide +kernel
theorem d275_13 : decode method_31_code 13 = .ok (.iconst 1, 1) := by decide +kernel
theorem d275_14 : decode method_31_code 14 = .ok (.ireturn, 1) := by decide +kernel
theorem d275_15 : decode method_31_code 15 = .ok (.iconst 0, 1) := by decide +kernel
theorem d275_16 : decode method_31_code 16 = .ok (.ireturn, 1) := by decide +kernel
theorem d276_0 : decode method_32_code 0 = .ok (.aload_n 2, 1) := by decide +kernel
theorem d276_1 : decode method_32_code 1 = .ok (.iconst 0, 1) := by decide +kernel
theorem d276_2 : decode method_32_code 2 = .ok (.aload_n 0, 1) := by decide +kernel
theorem d276_3 : decode method_32_code 3 = .ok (.iload_n 1, 1) := by decide +kernel
theorem d276_4 : decode method_32_code 4 = .ok (.invokevirtual 116, 3) := by decide +kernel
theorem d276_7 : decode method_32_code 7 = .ok (.i2l, 1) := by decide +kernel
theorem d276_8 : decode method_32_code 8 = .ok (.lastore, 1) := by decide +kernel
theorem d276_9 : decode method_32_code 9 = .ok (.goto 6, 3) := by decide +kernel
theorem d276_12 : decode method_32_code 12 = .ok (.astore_n 3, 1) := by decide +kernel
theorem d276_13 : decode method_32_code 13 = .ok (.iconst 1, 1) := by decide +kernel
theorem d276_14 : decode method_32_code 14 = .ok (.ireturn, 1) := by decide +kernel
theorem d276_15 : decode method_32_code 15 = .ok (.iconst 0, 1) := by decide +kernel
theorem d276_16 : decode method_32_code 16 = .ok (.ireturn, 1) := by decide +kernel
theorem d277_0 : decode method_33_code 0 = .ok (.aload_n 3, 1) := by decide +kernel
theorem d277_1 : decode method_33_code 1 = .ok (.iconst 0, 1) := by decide +kernel
theorem d277_2 : decode method_33_code 2 = .ok (.aload_n 0, 1) := by decide +kernel
theorem d277_3 : decode method_33_code 3 = .ok (.iload_n 1, 1) := by decide +kernel
theorem d277_4 : decode method_33_code 4 = .ok (.iload_n 2, 1) := by decide +kernel
theorem d277_5 : decode method_33_code 5 = .ok (.invokevirtual 119, 3) := by decide +kernel
theorem d277_8 : decode method_33_code 8 = .ok (.i2l, 1) := by decide +kernel
theorem d277_9 : decode method_33_code 9 = .ok (.lastore, 1) := by decide +kernel
theorem d277_10 : decode method_33_code 10 = .ok (.goto 11, 3) := by decide +kernel
theorem d277_13 : decode method_33_code 13 = .ok (.astore 4, 2) := by decide +kernel
theorem d277_15 : decode method_33_code 15 = .ok (.iconst 1, 1) := by decide +kernel
theorem d277_16 : decode method_33_code 16 = .ok (.ireturn, 1) := by decide +kernel
theorem d277_17 : decode method_33_code 17 = .ok (.astore 4, 2) := by decide +kernel
theorem d277_19 : decode method_33_code 19 = .ok (.iconst 2, 1) := by decide +kernel
theorem d277_20 : decode method_33_code 20 = .ok (.ireturn, 1) := by decide +kernel
theorem d277_21 : decode method_33_code 21 = .ok (.iconst 0, 1) := by decide +kernel
theorem d277_22 : decode method_33_code 22 = .ok (.ireturn, 1) := by decide +kernel
theorem d278_0 : decode method_34_code 0 = .ok (.aload_n 2, 1) := by decide +kernel
theorem d278_1 : decode method_34_code 1 = .ok (.iconst 0, 1) := by decide +kernel
theorem d278_2 : decode method_34_code 2 = .ok (.aload_n 0, 1) := by decide +kernel
theorem d278_3 : decode method_34_code 3 = .ok (.iload_n 1, 1) := by decide +kernel
theorem d278_4 : decode method_34_code 4 = .ok (.invokevirtual 122, 3) := by decide +kernel
theorem d278_7 : decode method_34_code 7 = .ok (.i2l, 1) := by decide +kernel
theorem d278_8 : decode method_34_code 8 = .ok (.lastore, 1) := by decide +kernel
theorem d278_9 : decode method_34_code 9 = .ok (.goto 6, 3) := by decide +kernel
theorem d278_12 : decode method_34_code 12 = .ok (.astore_n 3, 1) := by decide +kernel
theorem d278_13 : decode method_34_code 13 = .ok (.iconst 1, 1) := by decide +kernel
theorem d278_14 : decode method_34_code 14 = .ok (.ireturn, 1) := by decide +kernel
theorem d278_15 : decode method_34_code 15 = .ok (.iconst 0, 1) := by decide +kernel
theorem d278_16 : decode method_34_code 16 = .ok (.ireturn, 1) := by decide +kernel
theorem d279_0 : decode method_35_code 0 = .ok (.aload_n 1, 1) := by decide +kernel
theorem d279_1 : decode method_35_code 1 = .ok (.iconst 0, 1) := by decide +kernel
theorem d279_2 : decode method_35_code 2 = .ok (.aload_n 0, 1) := by decide +kernel
theorem d279_3 : decode method_35_code 3 = .ok (.invokevirtual 125, 3) := by decide +kernel
theorem d279_6 : decode method_35_code 6 = .ok (.dastore, 1) := by decide +kernel
theorem d279_7 : decode method_35_code 7 = .ok (.goto 6, 3) := by decide +kernel
theorem d279_10 : decode method_35_code 10 = .ok (.astore_n 2, 1) := by decide +kernel
theorem d279_11 : decode method_35_code 11 = .ok (.iconst 1, 1) := by decide +kernel
theorem d279_12 : decode method_35_code 12 = .ok (.ireturn, 1) := by decide +kernel
theorem d279_13 : decode method_35_code 13 = .ok (.iconst 0, 1) := by decide +kernel
theorem d279_14 : decode method_35_code 14 = .ok (.ireturn, 1) := by decide +kernel
theorem d280_0 : decode method_36_code 0 = .ok (.aload_n 2, 1) := by decide +kernel
theorem d280_1 : decode method_36_code 1 = .ok (.iconst 0, 1) := by decide +kernel
theorem d280_2 : decode method_36_code 2 = .ok (.aload_n 0, 1) := by decide +kernel
theorem d280_3 : decode method_36_code 3 = .ok (.iload_n 1, 1) := by decide +kernel
theorem d280_4 : decode method_36_code 4 = .ok (.invokevirtual 131, 3) := by decide +kernel
theorem d280_7 : decode method_36_code 7 = .ok (.i2l, 1) := by decide +kernel
theorem d280_8 : decode method_36_code 8 = .ok (.lastore, 1) := by decide +kernel
theorem d280_9 : decode method_36_code 9 = .ok (.goto 6, 3) := by decide +kernel
theorem d280_12 : decode method_36_code 12 = .ok (.astore_n 3, 1) := by decide +kernel
theorem d280_13 : decode method_36_code 13 = .ok (.iconst 1, 1) := by decide +kernel
theorem d280_14 : decode method_36_code 14 = .ok (.ireturn, 1) := by decide +kernel
theorem d280_15 : decode method_36_code 15 = .ok (.iconst 0, 1) := by decide +kernel
theorem d280_16 : decode method_36_code 16 = .ok (.ireturn, 1) := by decide +kernel
theorem d281_0 : decode method_37_code 0 = .ok (.aload_n 2, 1) := by decide +kernel
theorem d281_1 : decode method_37_code 1 = .ok (.iconst 0, 1) := by decide +kernel
theorem d281_2 : decode method_37_code 2 = .ok (.aload_n 0, 1) := by decide +kernel
theorem d281_3 : decode method_37_code 3 = .ok (.iload_n 1, 1) := by decide +kernel
theorem d281_4 : decode method_37_code 4 = .ok (.invokevirtual 134, 3) := by decide +kernel
theorem d281_7 : decode method_37_code 7 = .ok (.i2l, 1) := by decide +kernel
theorem d281_8 : decode method_37_code 8 = .ok (.lastore, 1) := by decide +kernel
theorem d281_9 : decode method_37_code 9 = .ok (.goto 6, 3) := by decide +kernel
theorem d281_12 : decode method_37_code 12 = .ok (.astore_n 3, 1) := by decide +kernel
theorem d281_13 : decode method_37_code 13 = .ok (.iconst 1, 1) := by decide +kernel
theorem d281_14 : decode method_37_code 14 = .ok (.ireturn, 1) := by decide +kernel
theorem d281_15 : decode method_37_code 15 = .ok (.iconst 0, 1) := by decide +kernel
theorem d281_16 : decode method_37_code 16 = .ok (.ireturn, 1) := by decide +kernel
theorem d282_0 : decode method_38_code 0 = .ok (.aload_n 2, 1) := by decide +kernel
theorem d282_1 : decode method_38_code 1 = .ok (.iconst 0, 1) := by decide +kernel
theorem d282_2 : decode method_38_code 2 = .ok (.aload_n 0, 1) := by decide +kernel
theorem d282_3 : decode method_38_code 3 = .ok (.iload_n 1, 1) := by decide +kernel
theorem d282_4 : decode method_38_code 4 = .ok (.invokevirtual 137, 3) := by decide +kernel
theorem d282_7 : decode method_38_code 7 = .ok (.i2l, 1) := by decide +kernel
theorem d282_8 : decode method_38_code 8 = .ok (.lastore, 1) := by decide +kernel
theorem d282_9 : decode method_38_code 9 = .ok (.goto 6, 3) := by decide +kernel
theorem d282_12 : decode method_38_code 12 = .ok (.astore_n 3, 1) := by decide +kernel
theorem d282_13 : decode method_38_code 13 = .ok (.iconst 1, 1) := by decide +kernel
theorem d282_14 : decode method_38_code 14 = .ok (.ireturn, 1) := by decide +kernel
theorem d282_15 : decode method_38_code 15 = .ok (.iconst 0, 1) := by decide +kernel
theorem d282_16 : decode method_38_code 16 = .ok (.ireturn, 1) := by decide +kernel
theorem d283_0 : decode method_39_code 0 = .ok (.aload_n 2, 1) := by decide +kernel
theorem d283_1 : decode method_39_code 1 = .ok (.iconst 0, 1) := by decide +kernel
theorem d283_2 : decode method_39_code 2 = .ok (.aload_n 0, 1) := by decide +kernel
theorem d283_3 : decode method_39_code 3 = .ok (.iload_n 1, 1) := by decide +kernel
theorem d283_4 : decode method_39_code 4 = .ok (.invokevirtual 140, 3) := by decide +kernel
theorem d283_7 : decode method_39_code 7 = .ok (.i2l, 1) := by decide +kernel
theorem d283_8 : decode method_39_code 8 = .ok (.lastore, 1) := by decide +kernel
theorem d283_9 : decode method_39_code 9 = .ok (.goto 6, 3) := by decide +kernel
theorem d283_12 : decode method_39_code 12 = .ok (.astore_n 3, 1) := by decide +kernel
theorem d283_13 : decode method_39_code 13 = .ok (.iconst 1, 1) := by decide +kernel
theorem d283_14 : decode method_39_code 14 = .ok (.ireturn, 1) := by decide +kernel
theorem d283_15 : decode method_39_code 15 = .ok (.iconst 0, 1) := by decide +kernel
theorem d283_16 : decode method_39_code 16 = .ok (.ireturn, 1) := by decide +kernel
theorem d284_0 : decode method_40_code 0 = .ok (.aload_n 2, 1) := by decide +kernel
theorem d284_1 : decode method_40_code 1 = .ok (.iconst 0, 1) := by decide +kernel
theorem d284_2 : decode method_40_code 2 = .ok (.aload_n 0, 1) := by decide +kernel
theorem d284_3 : decode method_40_code 3 = .ok (.iload_n 1, 1) := by decide +kernel
theorem d284_4 : decode method_40_code 4 = .ok (.invokevirtual 143, 3) := by decide +kernel
theorem d284_7 : decode method_40_code 7 = .ok (.i2l, 1) := by decide +kernel
theorem d284_8 : decode method_40_code 8 = .ok (.lastore, 1) := by decide +kernel
theorem d284_9 : decode method_40_code 9 = .ok (.goto 6, 3) := by decide +kernel
theorem d284_12 : decode method_40_code 12 = .ok (.astore_n 3, 1) := by decide +kernel
theorem d284_13 : decode method_40_code 13 = .ok (.iconst 1, 1) := by decide +kernel
theorem d284_14 : decode method_40_code 14 = .ok (.ireturn, 1) := by decide +kernel
theorem d284_15 : decode method_40_code 15 = .ok (.iconst 0, 1) := by decide +kernel
theorem d284_16 : decode method_40_code 16 = .ok (.ireturn, 1) := by decide +kernel
theorem d285_0 : decode method_41_code 0 = .ok (.aload_n 1, 1) := by decide +kernel
theorem d285_1 : decode method_41_code 1 = .ok (.iconst 0, 1) := by decide +kernel
theorem d285_2 : decode method_41_code 2 = .ok (.aload_n 0, 1) := by decide +kernel
theorem d285_3 : decode method_41_code 3 = .ok (.invokevirtual 146, 3) := by decide +kernel
theorem d285_6 : decode method_41_code 6 = .ok (.i2l, 1) := by decide +kernel
theorem d285_7 : decode method_41_code 7 = .ok (.lastore, 1) := by decide +kernel
theorem d285_8 : decode method_41_code 8 = .ok (.goto 9, 3) := by decide +kernel
theorem d285_11 : decode method_41_code 11 = .ok (.astore_n 2, 1) := by decide +kernel
theorem d285_12 : decode method_41_code 12 = .ok (.iconst 1, 1) := by decide +kernel
theorem d285_13 : decode method_41_code 13 = .ok (.ireturn, 1) := by decide +kernel
theorem d285_14 : decode method_41_code 14 = .ok (.astore_n 2, 1) := by decide +kernel
theorem d285_15 : decode method_41_code 15 = .ok (.iconst 2, 1) := by decide +kernel
theorem d285_16 : decode method_41_code 16 = .ok (.ireturn, 1) := by decide +kernel
theorem d285_17 : decode method_41_code 17 = .ok (.iconst 0, 1) := by decide +kernel
theorem d285_18 : decode method_41_code 18 = .ok (.ireturn, 1) := by decide +kernel
theorem d286_0 : decode method_42_code 0 = .ok (.aload_n 1, 1) := by decide +kernel
theorem d286_1 : decode method_42_code 1 = .ok (.iconst 0, 1) := by decide +kernel
theorem d286_2 : decode method_42_code 2 = .ok (.aload_n 0, 1) := by decide +kernel
theorem d286_3 : decode method_42_code 3 = .ok (.invokevirtual 150, 3) := by decide +kernel
theorem d286_6 : decode method_42_code 6 = .ok (.i2l, 1) := by decide +kernel
theorem d286_7 : decode method_42_code 7 = .ok (.lastore, 1) := by decide +kernel
theorem d286_8 : decode method_42_code 8 = .ok (.goto 6, 3) := by decide +kernel
theorem d286_11 : decode method_42_code 11 = .ok (.astore_n 2, 1) := by decide +kernel
theorem d286_12 : decode method_42_code 12 = .ok (.iconst 1, 1) := by decide +kernel
theorem d286_13 : decode method_42_code 13 = .ok (.ireturn, 1) := by decide +kernel
theorem d286_14 : decode method_42_code 14 = .ok (.iconst 0, 1) := by decide +kernel
theorem d286_15 : decode method_42_code 15 = .ok (.ireturn, 1) := by decide +kernel
theorem d287_0 : decode method_43_code 0 = .ok (.aload_n 1, 1) := by decide +kernel
theorem d287_1 : decode method_43_code 1 = .ok (.iconst 0, 1) := by decide +kernel
theorem d287_2 : decode method_43_code 2 = .ok (.aload_n 0, 1) := by decide +kernel
theorem d287_3 : decode method_43_code 3 = .ok (.invokevirtual 153, 3) := by decide +kernel
theorem d287_6 : decode method_43_code 6 = .ok (.i2l, 1) := by decide +kernel
theorem d287_7 : decode method_43_code 7 = .ok (.lastore, 1) := by decide +kernel
theorem d287_8 : decode method_43_code 8 = .ok (.goto 6, 3) := by decide +kernel
theorem d287_11 : decode method_43_code 11 = .ok (.astore_n 2, 1) := by decide +kernel
theorem d287_12 : decode method_43_code 12 = .ok (.iconst 1, 1) := by decide +kernel
theorem d287_13 : decode method_43_code 13 = .ok (.ireturn, 1) := by decide +kernel
theorem d287_14 : decode method_43_code 14 = .ok (.iconst 0, 1) := by decide +kernel
theorem d287_15 : decode method_43_code 15 = .ok (.ireturn, 1) := by decide +kernel
theorem d288_0 : decode method_44_code 0 = .ok (.aload_n 1, 1) := by decide +kernel
theorem d288_1 : decode method_44_code 1 = .ok (.iconst 0, 1) := by decide +kernel
theorem d288_2 : decode method_44_code 2 = .ok (.aload_n 0, 1) := by decide +kernel
theorem d288_3 : decode method_44_code 3 = .ok (.invokevirtual 156, 3) := by decide +kernel
theorem d288_6 : decode method_44_code 6 = .ok (.i2l, 1) := by decide +kernel
theorem d288_7 : decode method_44_code 7 = .ok (.lastore, 1) := by decide +kernel
theorem d288_8 : decode method_44_code 8 = .ok (.goto 6, 3) := by decide +kernel
theorem d288_11 : decode method_44_code 11 = .ok (.astore_n 2, 1) := by decide +kernel
theorem d288_12 : decode method_44_code 12 = .ok (.iconst 1, 1) := by decide +kernel
theorem d288_13 : decode method_44_code 13 = .ok (.ireturn, 1) := by decide +kernel
theorem d288_14 : decode method_44_code 14 = .ok (.iconst 0, 1) := by decide +kernel
theorem d288_15 : decode method_44_code 15 = .ok (.ireturn, 1) := by decide +kernel
theorem d289_0 : decode method_45_code 0 = .ok (.aload_n 1, 1) := by decide +kernel
theorem d289_1 : decode method_45_code 1 = .ok (.iconst 0, 1) := by decide +kernel
theorem d289_2 : decode method_45_code 2 = .ok (.aload_n 0, 1) := by decide +kernel
theorem d289_3 : decode method_45_code 3 = .ok (.invokevirtual 159, 3) := by decide +kernel
theorem d289_6 : decode method_45_code 6 = .ok (.i2l, 1) := by decide +kernel
theorem d289_7 : decode method_45_code 7 = .ok (.lastore, 1) := by decide +kernel
theorem d289_8 : decode method_45_code 8 = .ok (.goto 6, 3) := by decide +kernel
theorem d289_11 : decode method_45_code 11 = .ok (.astore_n 2, 1) := by decide +kernel
theorem d289_12 : decode method_45_code 12 = .ok (.iconst 1, 1) := by decide +kernel
theorem d289_13 : decode method_45_code 13 = .ok (.ireturn, 1) := by decide +kernel
theorem d289_14 : decode method_45_code 14 = .ok (.iconst 0, 1) := by decide +kernel
theorem d289_15 : decode method_45_code 15 = .ok (.ireturn, 1) := by decide +kernel
