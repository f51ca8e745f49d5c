/-! decode rows -/
theorem d0_0 : decode prog_3_method_1_code 0 = .ok (.aload_n 0, 1) := by decide +kernel
theorem d0_1 : decode prog_3_method_1_code 1 = .ok (.invokespecial 3, 3) := by decide +kernel
theorem d0_4 : decode prog_3_method_1_code 4 = .ok (.aload_n 0, 1) := by decide +kernel
theorem d0_5 : decode prog_3_method_1_code 5 = .ok (.iconst 4, 1) := by decide +kernel
theorem d0_6 : decode prog_3_method_1_code 6 = .ok (.newarray .int, 2) := by decide +kernel
theorem d0_8 : decode prog_3_method_1_code 8 = .ok (.putfield 9, 3) := by decide +kernel
theorem d0_11 : decode prog_3_method_1_code 11 = .ok (.return_, 1) := by decide +kernel
theorem d1_0 : decode prog_3_method_4_code 0 = .ok (.iconst 0, 1) := by decide +kernel
theorem d1_1 : decode prog_3_method_4_code 1 = .ok (.istore_n 1, 1) := by decide +kernel
theorem d1_2 : decode prog_3_method_4_code 2 = .ok (.aload_n 0, 1) := by decide +kernel
theorem d1_3 : decode prog_3_method_4_code 3 = .ok (.getfield 9, 3) := by decide +kernel
theorem d1_6 : decode prog_3_method_4_code 6 = .ok (.astore_n 2, 1) := by decide +kernel
theorem d1_7 : decode prog_3_method_4_code 7 = .ok (.aload_n 2, 1) := by decide +kernel
theorem d1_8 : decode prog_3_method_4_code 8 = .ok (.arraylength, 1) := by decide +kernel
theorem d1_9 : decode prog_3_method_4_code 9 = .ok (.istore_n 3, 1) := by decide +kernel
theorem d1_10 : decode prog_3_method_4_code 10 = .ok (.iconst 0, 1) := by decide +kernel
theorem d1_11 : decode prog_3_method_4_code 11 = .ok (.istore 4, 2) := by decide +kernel
theorem d1_13 : decode prog_3_method_4_code 13 = .ok (.iload 4, 2) := by decide +kernel
theorem d1_15 : decode prog_3_method_4_code 15 = .ok (.iload_n 3, 1) := by decide +kernel
theorem d1_16 : decode prog_3_method_4_code 16 = .ok (.if_icmp .ge 20, 3) := by decide +kernel
theorem d1_19 : decode prog_3_method_4_code 19 = .ok (.aload_n 2, 1) := by decide +kernel
theorem d1_20 : decode prog_3_method_4_code 20 = .ok (.iload 4, 2) := by decide +kernel
theorem d1_22 : decode prog_3_method_4_code 22 = .ok (.iaload, 1) := by decide +kernel
theorem d1_23 : decode prog_3_method_4_code 23 = .ok (.istore 5, 2) := by decide +kernel
theorem d1_25 : decode prog_3_method_4_code 25 = .ok (.iload_n 1, 1) := by decide +kernel
theorem d1_26 : decode prog_3_method_4_code 26 = .ok (.iload 5, 2) := by decide +kernel
theorem d1_28 : decode prog_3_method_4_code 28 = .ok (.iadd, 1) := by decide +kernel
theorem d1_29 : decode prog_3_method_4_code 29 = .ok (.istore_n 1, 1) := by decide +kernel
theorem d1_30 : decode prog_3_method_4_code 30 = .ok (.iinc 4 1, 3) := by decide +kernel
theorem d1_33 : decode prog_3_method_4_code 33 = .ok (.goto (-20), 3) := by decide +kernel
theorem d1_36 : decode prog_3_method_4_code 36 = .ok (.iload_n 1, 1) := by decide +kernel
theorem d1_37 : decode prog_3_method_4_code 37 = .ok (.ireturn, 1) := by decide +kernel
theorem d2_0 : decode prog_3_method_2_code 0 = .ok (.aload_n 0, 1) := by decide +kernel
theorem d2_1 : decode prog_3_method_2_code 1 = .ok (.aload_n 1, 1) := by decide +kernel
theorem d2_2 : decode prog_3_method_2_code 2 = .ok (.getfield 15, 3) := by decide +kernel
theorem d2_5 : decode prog_3_method_2_code 5 = .ok (.putfield 15, 3) := by decide +kernel
theorem d2_8 : decode prog_3_method_2_code 8 = .ok (.aload_n 0, 1) := by decide +kernel
theorem d2_9 : decode prog_3_method_2_code 9 = .ok (.aload_n 1, 1) := by decide +kernel
theorem d2_10 : decode prog_3_method_2_code 10 = .ok (.getfield 19, 3) := by decide +kernel
theorem d2_13 : decode prog_3_method_2_code 13 = .ok (.putfield 19, 3) := by decide +kernel
theorem d2_16 : decode prog_3_method_2_code 16 = .ok (.aload_n 0, 1) := by decide +kernel
theorem d2_17 : decode prog_3_method_2_code 17 = .ok (.aload_n 1, 1) := by decide +kernel
theorem d2_18 : decode prog_3_method_2_code 18 = .ok (.getfield 22, 3) := by decide +kernel
theorem d2_21 : decode prog_3_method_2_code 21 = .ok (.putfield 22, 3) := by decide +kernel
theorem d2_24 : decode prog_3_method_2_code 24 = .ok (.aload_n 0, 1) := by decide +kernel
theorem d2_25 : decode prog_3_method_2_code 25 = .ok (.aload_n 1, 1) := by decide +kernel
theorem d2_26 : decode prog_3_method_2_code 26 = .ok (.getfield 25, 3) := by decide +kernel
theorem d2_29 : decode prog_3_method_2_code 29 = .ok (.putfield 25, 3) := by decide +kernel
theorem d2_32 : decode prog_3_method_2_code 32 = .ok (.aload_n 1, 1) := by decide +kernel
theorem d2_33 : decode prog_3_method_2_code 33 = .ok (.getfield 9, 3) := by decide +kernel
theorem d2_36 : decode prog_3_method_2_code 36 = .ok (.iconst 0, 1) := by decide +kernel
theorem d2_37 : decode prog_3_method_2_code 37 = .ok (.aload_n 0, 1) := by decide +kernel
theorem d2_38 : decode prog_3_method_2_code 38 = .ok (.getfield 9, 3) := by decide +kernel
theorem d2_41 : decode prog_3_method_2_code 41 = .ok (.iconst 0, 1) := by decide +kernel
theorem d2_42 : decode prog_3_method_2_code 42 = .ok (.iconst 4, 1) := by decide +kernel
theorem d2_43 : decode prog_3_method_2_code 43 = .ok (.invokestatic 28, 3) := by decide +kernel
theorem d2_46 : decode prog_3_method_2_code 46 = .ok (.return_, 1) := by decide +kernel
theorem d3_0 : decode prog_3_method_3_code 0 = .ok (.aload_n 0, 1) := by decide +kernel
theorem d3_1 : decode prog_3_method_3_code 1 = .ok (.getfield 15, 3) := by decide +kernel
theorem d3_4 : decode prog_3_method_3_code 4 = .ok (.ifCond .ne 14, 3) := by decide +kernel
theorem d3_7 : decode prog_3_method_3_code 7 = .ok (.aload_n 0, 1) := by decide +kernel
theorem d3_8 : decode prog_3_method_3_code 8 = .ok (.getfield 19, 3) := by decide +kernel
theorem d3_11 : decode prog_3_method_3_code 11 = .ok (.ifCond .ne 7, 3) := by decide +kernel
theorem d3_14 : decode prog_3_method_3_code 14 = .ok (.iconst 1, 1) := by decide +kernel
theorem d3_15 : decode prog_3_method_3_code 15 = .ok (.goto 4, 3) := by decide +kernel
theorem d3_18 : decode prog_3_method_3_code 18 = .ok (.iconst 0, 1) := by decide +kernel
theorem d3_19 : decode prog_3_method_3_code 19 = .ok (.ireturn, 1) := by decide +kernel
theorem d4_0 : decode prog_3_method_6_code 0 = .ok (.aload_n 1, 1) := by decide +kernel
theorem d4_1 : decode prog_3_method_6_code 1 = .ok (.aload_n 0, 1) := by decide +kernel
theorem d4_2 : decode prog_3_method_6_code 2 = .ok (.getfield 15, 3) := by decide +kernel
theorem d4_5 : decode prog_3_method_6_code 5 = .ok (.aload_n 0, 1) := by decide +kernel
theorem d4_6 : decode prog_3_method_6_code 6 = .ok (.getfield 19, 3) := by decide +kernel
theorem d4_9 : decode prog_3_method_6_code 9 = .ok (.aload_n 0, 1) := by decide +kernel
theorem d4_10 : decode prog_3_method_6_code 10 = .ok (.getfield 22, 3) := by decide +kernel
theorem d4_13 : decode prog_3_method_6_code 13 = .ok (.invokevirtual 38, 3) := by decide +kernel
theorem d4_16 : decode prog_3_method_6_code 16 = .ok (.ireturn, 1) := by decide +kernel
theorem d5_0 : decode prog_3_method_5_code 0 = .ok (.iload_n 1, 1) := by decide +kernel
theorem d5_1 : decode prog_3_method_5_code 1 = .ok (.invokestatic 34, 3) := by decide +kernel
theorem d5_4 : decode prog_3_method_5_code 4 = .ok (.ifCond .eq 13, 3) := by decide +kernel
theorem d5_7 : decode prog_3_method_5_code 7 = .ok (.aload_n 0, 1) := by decide +kernel
theorem d5_8 : decode prog_3_method_5_code 8 = .ok (.getfield 9, 3) := by decide +kernel
theorem d5_11 : decode prog_3_method_5_code 11 = .ok (.iload_n 1, 1) := by decide +kernel
theorem d5_12 : decode prog_3_method_5_code 12 = .ok (.dup2, 1) := by decide +kernel
theorem d5_13 : decode prog_3_method_5_code 13 = .ok (.iaload, 1) := by decide +kernel
theorem d5_14 : decode prog_3_method_5_code 14 = .ok (.iconst 1, 1) := by decide +kernel
theorem d5_15 : decode prog_3_method_5_code 15 = .ok (.isub, 1) := by decide +kernel
theorem d5_16 : decode prog_3_method_5_code 16 = .ok (.iastore, 1) := by decide +kernel
theorem d5_17 : decode prog_3_method_5_code 17 = .ok (.return_, 1) := by decide +kernel
theorem d6_0 : decode prog_3_method_7_code 0 = .ok (.aload_n 0, 1) := by decide +kernel
theorem d6_1 : decode prog_3_method_7_code 1 = .ok (.getfield 25, 3) := by decide +kernel
theorem d6_4 : decode prog_3_method_7_code 4 = .ok (.aload_n 1, 1) := by decide +kernel
theorem d6_5 : decode prog_3_method_7_code 5 = .ok (.getfield 25, 3) := by decide +kernel
theorem d6_8 : decode prog_3_method_7_code 8 = .ok (.if_icmp .gt 25, 3) := by decide +kernel
theorem d6_11 : decode prog_3_method_7_code 11 = .ok (.aload_n 0, 1) := by decide +kernel
theorem d6_12 : decode prog_3_method_7_code 12 = .ok (.getfield 25, 3) := by decide +kernel
theorem d6_15 : decode prog_3_method_7_code 15 = .ok (.aload_n 1, 1) := by decide +kernel
theorem d6_16 : decode prog_3_method_7_code 16 = .ok (.getfield 25, 3) := by decide +kernel
theorem d6_19 : decode prog_3_method_7_code 19 = .ok (.if_icmp .ne 18, 3) := by decide +kernel
theorem d6_22 : decode prog_3_method_7_code 22 = .ok (.aload_n 0, 1) := by decide +kernel
theorem d6_23 : decode prog_3_method_7_code 23 = .ok (.getfield 22, 3) := by decide +kernel
theorem d6_26 : decode prog_3_method_7_code 26 = .ok (.aload_n 1, 1) := by decide +kernel
theorem d6_27 : decode prog_3_method_7_code 27 = .ok (.getfield 22, 3) := by decide +kernel
theorem d6_30 : decode prog_3_method_7_code 30 = .ok (.if_icmp .ge 7, 3) := by decide +kernel
theorem d6_33 : decode prog_3_method_7_code 33 = .ok (.iconst 1, 1) := by decide +kernel
theorem d6_34 : decode prog_3_method_7_code 34 = .ok (.goto 4, 3) := by decide +kernel
theorem d6_37 : decode prog_3_method_7_code 37 = .ok (.iconst 0, 1) := by decide +kernel
theorem d6_38 : decode prog_3_method_7_code 38 = .ok (.ireturn, 1) := by decide +kernel
theorem d7_0 : decode prog_4_method_1_code 0 = .ok (.aload_n 0, 1) := by decide +kernel
theorem d7_1 : decode prog_4_method_1_code 1 = .ok (.invokespecial 3, 3) := by decide +kernel
theorem d7_4 : decode prog_4_method_1_code 4 = .ok (.aload_n 0, 1) := by decide +kernel
theorem d7_5 : decode prog_4_method_1_code 5 = .ok (.getstatic 9, 3) := by decide +kernel
theorem d7_8 : decode prog_4_method_1_code 8 = .ok (.putfield 15, 3) := by decide +kernel
theorem d7_11 : decode prog_4_method_1_code 11 = .ok (.aload_n 0, 1) := by decide +kernel
theorem d7_12 : decode prog_4_method_1_code 12 = .ok (.bipush 6, 2) := by decide +kernel
theorem d7_14 : decode prog_4_method_1_code 14 = .ok (.newarray .int, 2) := by decide +kernel
theorem d7_16 : decode prog_4_method_1_code 16 = .ok (.putfield 20, 3) := by decide +kernel
theorem d7_19 : decode prog_4_method_1_code 19 = .ok (.return_, 1) := by decide +kernel
theorem d8_0 : decode prog_5_method_1_code 0 = .ok (.aload_n 0, 1) := by decide +kernel
theorem d8_1 : decode prog_5_method_1_code 1 = .ok (.invokespecial 3, 3) := by decide +kernel
theorem d8_4 : decode prog_5_method_1_code 4 = .ok (.aload_n 0, 1) := by decide +kernel
theorem d8_5 : decode prog_5_method_1_code 5 = .ok (.bipush 9, 2) := by decide +kernel
theorem d8_7 : decode prog_5_method_1_code 7 = .ok (.anewarray 11, 3) := by decide +kernel
theorem d8_10 : decode prog_5_method_1_code 10 = .ok (.putfield 13, 3) := by decide +kernel
theorem d8_13 : decode prog_5_method_1_code 13 = .ok (.aload_n 0, 1) := by decide +kernel
theorem d8_14 : decode prog_5_method_1_code 14 = .ok (.iconst 0, 1) := by decide +kernel
theorem d8_15 : decode prog_5_method_1_code 15 = .ok (.putfield 17, 3) := by decide +kernel
theorem d8_18 : decode prog_5_method_1_code 18 = .ok (.aload_n 0, 1) := by decide +kernel
theorem d8_19 : decode prog_5_method_1_code 19 = .ok (.iconst 0, 1) := by decide +kernel
theorem d8_20 : decode prog_5_method_1_code 20 = .ok (.putfield 21, 3) := by decide +kernel
theorem d8_23 : decode prog_5_method_1_code 23 = .ok (.iconst 0, 1) := by decide +kernel
theorem d8_24 : decode prog_5_method_1_code 24 = .ok (.istore_n 1, 1) := by decide +kernel
theorem d8_25 : decode prog_5_method_1_code 25 = .ok (.iload_n 1, 1) := by decide +kernel
theorem d8_26 : decode prog_5_method_1_code 26 = .ok (.bipush 9, 2) := by decide +kernel
theorem d8_28 : decode prog_5_method_1_code 28 = .ok (.if_icmp .ge 22, 3) := by decide +kernel
theorem d8_31 : decode prog_5_method_1_code 31 = .ok (.aload_n 0, 1) := by decide +kernel
theorem d8_32 : decode prog_5_method_1_code 32 = .ok (.getfield 13, 3) := by decide +kernel
theorem d8_35 : decode prog_5_method_1_code 35 = .ok (.iload_n 1, 1) := by decide +kernel
theorem d8_36 : decode prog_5_method_1_code 36 = .ok (.new 11, 3) := by decide +kernel
theorem d8_39 : decode prog_5_method_1_code 39 = .ok (.dup, 1) := by decide +kernel
theorem d8_40 : decode prog_5_method_1_code 40 = .ok (.invokespecial 24, 3) := by decide +kernel
theorem d8_43 : decode prog_5_method_1_code 43 = .ok (.aastore, 1) := by decide +kernel
theorem d8_44 : decode prog_5_method_1_code 44 = .ok (.iinc 1 1, 3) := by decide +kernel
theorem d8_47 : decode prog_5_method_1_code 47 = .ok (.goto (-22), 3) := by decide +kernel
theorem d8_50 : decode prog_5_method_1_code 50 = .ok (.return_, 1) := by decide +kernel
theorem d9_0 : decode prog_5_method_2_code 0 = .ok (.aload_n 0, 1) := by decide +kernel
theorem d9_1 : decode prog_5_method_2_code 1 = .ok (.getfield 13, 3) := by decide +kernel
theorem d9_4 : decode prog_5_method_2_code 4 = .ok (.aload_n 0, 1) := by decide +kernel
theorem d9_5 : decode prog_5_method_2_code 5 = .ok (.getfield 17, 3) := by decide +kernel
theorem d9_8 : decode prog_5_method_2_code 8 = .ok (.aaload, 1) := by decide +kernel
theorem d9_9 : decode prog_5_method_2_code 9 = .ok (.aload_n 1, 1) := by decide +kernel
theorem d9_10 : decode prog_5_method_2_code 10 = .ok (.invokevirtual 25, 3) := by decide +kernel
theorem d9_13 : decode prog_5_method_2_code 13 = .ok (.return_, 1) := by decide +kernel
theorem d10_0 : decode prog_5_method_3_code 0 = .ok (.aload_n 0, 1) := by decide +kernel
theorem d10_1 : decode prog_5_method_3_code 1 = .ok (.aload_n 0, 1) := by decide +kernel
theorem d10_2 : decode prog_5_method_3_code 2 = .ok (.getfield 17, 3) := by decide +kernel
theorem d10_5 : decode prog_5_method_3_code 5 = .ok (.iconst 1, 1) := by decide +kernel
theorem d10_6 : decode prog_5_method_3_code 6 = .ok (.iadd, 1) := by decide +kernel
theorem d10_7 : decode prog_5_method_3_code 7 = .ok (.bipush 9, 2) := by decide +kernel
theorem d10_9 : decode prog_5_method_3_code 9 = .ok (.if_icmp .ge 12, 3) := by decide +kernel
theorem d10_12 : decode prog_5_method_3_code 12 = .ok (.aload_n 0, 1) := by decide +kernel
theorem d10_13 : decode prog_5_method_3_code 13 = .ok (.getfield 17, 3) := by decide +kernel
theorem d10_16 : decode prog_5_method_3_code 16 = .ok (.iconst 1, 1) := by decide +kernel
theorem d10_17 : decode prog_5_method_3_code 17 = .ok (.iadd, 1) := by decide +kernel
theorem d10_18 : decode prog_5_method_3_code 18 = .ok (.goto 4, 3) := by decide +kernel
theorem d10_21 : decode prog_5_method_3_code 21 = .ok (.iconst 0, 1) := by decide +kernel
theorem d10_22 : decode prog_5_method_3_code 22 = .ok (.putfield 17, 3) := by decide +kernel
theorem d10_25 : decode prog_5_method_3_code 25 = .ok (.aload_n 0, 1) := by decide +kernel
theorem d10_26 : decode prog_5_method_3_code 26 = .ok (.aload_n 0, 1) := by decide +kernel
theorem d10_27 : decode prog_5_method_3_code 27 = .ok (.getfield 21, 3) := by decide +kernel
theorem d10_30 : decode prog_5_method_3_code 30 = .ok (.iconst 1, 1) := by decide +kernel
theorem d10_31 : decode prog_5_method_3_code 31 = .ok (.iadd, 1) := by decide +kernel
theorem d10_32 : decode prog_5_method_3_code 32 = .ok (.bipush 8, 2) := by decide +kernel
theorem d10_34 : decode prog_5_method_3_code 34 = .ok (.invokestatic 29, 3) := by decide +kernel
theorem d10_37 : decode prog_5_method_3_code 37 = .ok (.putfield 21, 3) := by decide +kernel
theorem d10_40 : decode prog_5_method_3_code 40 = .ok (.return_, 1) := by decide +kernel
theorem d11_0 : decode prog_5_method_4_code 0 = .ok (.aload_n 1, 1) := by decide +kernel
theorem d11_1 : decode prog_5_method_4_code 1 = .ok (.aload_n 0, 1) := by decide +kernel
theorem d11_2 : decode prog_5_method_4_code 2 = .ok (.getfield 13, 3) := by decide +kernel
theorem d11_5 : decode prog_5_method_4_code 5 = .ok (.aload_n 0, 1) := by decide +kernel
theorem d11_6 : decode prog_5_method_4_code 6 = .ok (.getfield 17, 3) := by decide +kernel
theorem d11_9 : decode prog_5_method_4_code 9 = .ok (.aaload, 1) := by decide +kernel
theorem d11_10 : decode prog_5_method_4_code 10 = .ok (.invokevirtual 25, 3) := by decide +kernel
theorem d11_13 : decode prog_5_method_4_code 13 = .ok (.return_, 1) := by decide +kernel
theorem d12_0 : decode prog_5_method_5_code 0 = .ok (.aload_n 0, 1) := by decide +kernel
theorem d12_1 : decode prog_5_method_5_code 1 = .ok (.aload_n 0, 1) := by decide +kernel
theorem d12_2 : decode prog_5_method_5_code 2 = .ok (.getfield 17, 3) := by decide +kernel
theorem d12_5 : decode prog_5_method_5_code 5 = .ok (.ifCond .le 12, 3) := by decide +kernel
theorem d12_8 : decode prog_5_method_5_code 8 = .ok (.aload_n 0, 1) := by decide +kernel
theorem d12_9 : decode prog_5_method_5_code 9 = .ok (.getfield 17, 3) := by decide +kernel
theorem d12_12 : decode prog_5_method_5_code 12 = .ok (.iconst 1, 1) := by decide +kernel
theorem d12_13 : decode prog_5_method_5_code 13 = .ok (.isub, 1) := by decide +kernel
theorem d12_14 : decode prog_5_method_5_code 14 = .ok (.goto 5, 3) := by decide +kernel
theorem d12_17 : decode prog_5_method_5_code 17 = .ok (.bipush 8, 2) := by decide +kernel
theorem d12_19 : decode prog_5_method_5_code 19 = .ok (.putfield 17, 3) := by decide +kernel
theorem d12_22 : decode prog_5_method_5_code 22 = .ok (.aload_n 0, 1) := by decide +kernel
theorem d12_23 : decode prog_5_method_5_code 23 = .ok (.dup, 1) := by decide +kernel
theorem d12_24 : decode prog_5_method_5_code 24 = .ok (.getfield 21, 3) := by decide +kernel
theorem d12_27 : decode prog_5_method_5_code 27 = .ok (.iconst 1, 1) := by decide +kernel
theorem d12_28 : decode prog_5_method_5_code 28 = .ok (.isub, 1) := by decide +kernel
theorem d12_29 : decode prog_5_method_5_code 29 = .ok (.putfield 21, 3) := by decide +kernel
theorem d12_32 : decode prog_5_method_5_code 32 = .ok (.aload_n 1, 1) := by decide +kernel
theorem d12_33 : decode prog_5_method_5_code 33 = .ok (.aload_n 0, 1) := by decide +kernel
theorem d12_34 : decode prog_5_method_5_code 34 = .ok (.getfield 13, 3) := by decide +kernel
theorem d12_37 : decode prog_5_method_5_code 37 = .ok (.aload_n 0, 1) := by decide +kernel
theorem d12_38 : decode prog_5_method_5_code 38 = .ok (.getfield 17, 3) := by decide +kernel
theorem d12_41 : decode prog_5_method_5_code 41 = .ok (.aaload, 1) := by decide +kernel
theorem d12_42 : decode prog_5_method_5_code 42 = .ok (.invokevirtual 25, 3) := by decide +kernel
theorem d12_45 : decode prog_5_method_5_code 45 = .ok (.return_, 1) := by decide +kernel
theorem d13_0 : decode prog_5_method_6_code 0 = .ok (.aload_n 0, 1) := by decide +kernel
theorem d13_1 : decode prog_5_method_6_code 1 = .ok (.iconst 0, 1) := by decide +kernel
theorem d13_2 : decode prog_5_method_6_code 2 = .ok (.putfield 21, 3) := by decide +kernel
theorem d13_5 : decode prog_5_method_6_code 5 = .ok (.return_, 1) := by decide +kernel
theorem d14_0 : decode prog_6_method_1_code 0 = .ok (.aload_n 0, 1) := by decide +kernel
theorem d14_1 : decode prog_6_method_1_code 1 = .ok (.invokespecial 3, 3) := by decide +kernel
theorem d14_4 : decode prog_6_method_1_code 4 = .ok (.aload_n 0, 1) := by decide +kernel
theorem d14_5 : decode prog_6_method_1_code 5 = .ok (.iconst (-1), 1) := by decide +kernel
theorem d14_6 : decode prog_6_method_1_code 6 = .ok (.putfield 9, 3) := by decide +kernel
theorem d14_9 : decode prog_6_method_1_code 9 = .ok (.return_, 1) := by decide +kernel
theorem d15_0 : decode prog_6_method_2_code 0 = .ok (.aload_n 0, 1) := by decide +kernel
theorem d15_1 : decode prog_6_method_2_code 1 = .ok (.aload_n 1, 1) := by decide +kernel
theorem d15_2 : decode prog_6_method_2_code 2 = .ok (.getfield 15, 3) := by decide +kernel
theorem d15_5 : decode prog_6_method_2_code 5 = .ok (.putfield 15, 3) := by decide +kernel
theorem d15_8 : decode prog_6_method_2_code 8 = .ok (.aload_n 0, 1) := by decide +kernel
theorem d15_9 : decode prog_6_method_2_code 9 = .ok (.aload_n 1, 1) := by decide +kernel
theorem d15_10 : decode prog_6_method_2_code 10 = .ok (.getfield 18, 3) := by decide +kernel
theorem d15_13 : decode prog_6_method_2_code 13 = .ok (.putfield 18, 3) := by decide +kernel
theorem d15_16 : decode prog_6_method_2_code 16 = .ok (.aload_n 0, 1) := by decide +kernel
theorem d15_17 : decode prog_6_method_2_code 17 = .ok (.aload_n 1, 1) := by decide +kernel
theorem d15_18 : decode prog_6_method_2_code 18 = .ok (.getfield 21, 3) := by decide +kernel
theorem d15_21 : decode prog_6_method_2_code 21 = .ok (.putfield 21, 3) := by decide +kernel
theorem d15_24 : decode prog_6_method_2_code 24 = .ok (.aload_n 0, 1) := by decide +kernel
theorem d15_25 : decode prog_6_method_2_code 25 = .ok (.aload_n 1, 1) := by decide +kernel
theorem d15_26 : decode prog_6_method_2_code 26 = .ok (.getfield 24, 3) := by decide +kernel
theorem d15_29 : decode prog_6_method_2_code 29 = .ok (.putfield 24, 3) := by decide +kernel
theorem d15_32 : decode prog_6_method_2_code 32 = .ok (.aload_n 0, 1) := by decide +kernel
theorem d15_33 : decode prog_6_method_2_code 33 = .ok (.aload_n 1, 1) := by decide +kernel
theorem d15_34 : decode prog_6_method_2_code 34 = .ok (.getfield 27, 3) := by decide +kernel
theorem d15_37 : decode prog_6_method_2_code 37 = .ok (.putfield 27, 3) := by decide +kernel
theorem d15_40 : decode prog_6_method_2_code 40 = .ok (.aload_n 0, 1) := by decide +kernel
theorem d15_41 : decode prog_6_method_2_code 41 = .ok (.aload_n 1, 1) := by decide +kernel
theorem d15_42 : decode prog_6_method_2_code 42 = .ok (.getfield 30, 3) := by decide +kernel
theorem d15_45 : decode prog_6_method_2_code 45 = .ok (.putfield 30, 3) := by decide +kernel
theorem d15_48 : decode prog_6_method_2_code 48 = .ok (.aload_n 0, 1) := by decide +kernel
theorem d15_49 : decode prog_6_method_2_code 49 = .ok (.aload_n 1, 1) := by decide +kernel
theorem d15_50 : decode prog_6_method_2_code 50 = .ok (.getfield 33, 3) := by decide +kernel
theorem d15_53 : decode prog_6_method_2_code 53 = .ok (.putfield 33, 3) := by decide +kernel
theorem d15_56 : decode prog_6_method_2_code 56 = .ok (.aload_n 0, 1) := by decide +kernel
theorem d15_57 : decode prog_6_method_2_code 57 = .ok (.aload_n 1, 1) := by decide +kernel
theorem d15_58 : decode prog_6_method_2_code 58 = .ok (.getfield 9, 3) := by decide +kernel
theorem d15_61 : decode prog_6_method_2_code 61 = .ok (.putfield 9, 3) := by decide +kernel
theorem d15_64 : decode prog_6_method_2_code 64 = .ok (.return_, 1) := by decide +kernel
theorem d16_0 : decode prog_6_method_3_code 0 = .ok (.iload_n 3, 1) := by decide +kernel
theorem d16_1 : decode prog_6_method_3_code 1 = .ok (.iload_n 1, 1) := by decide +kernel
theorem d16_2 : decode prog_6_method_3_code 2 = .ok (.iload_n 2, 1) := by decide +kernel
theorem d16_3 : decode prog_6_method_3_code 3 = .ok (.aload_n 0, 1) := by decide +kernel
theorem d16_4 : decode prog_6_method_3_code 4 = .ok (.getfield 18, 3) := by decide +kernel
theorem d16_7 : decode prog_6_method_3_code 7 = .ok (.aload_n 0, 1) := by decide +kernel
theorem d16_8 : decode prog_6_method_3_code 8 = .ok (.getfield 21, 3) := by decide +kernel
theorem d16_11 : decode prog_6_method_3_code 11 = .ok (.invokestatic 36, 3) := by decide +kernel
theorem d16_14 : decode prog_6_method_3_code 14 = .ok (.iadd, 1) := by decide +kernel
theorem d16_15 : decode prog_6_method_3_code 15 = .ok (.aload_n 0, 1) := by decide +kernel
theorem d16_16 : decode prog_6_method_3_code 16 = .ok (.getfield 30, 3) := by decide +kernel
theorem d16_19 : decode prog_6_method_3_code 19 = .ok (.iadd, 1) := by decide +kernel
theorem d16_20 : decode prog_6_method_3_code 20 = .ok (.ireturn, 1) := by decide +kernel
theorem d17_0 : decode prog_6_method_4_code 0 = .ok (.iload_n 1, 1) := by decide +kernel
theorem d17_1 : decode prog_6_method_4_code 1 = .ok (.aload_n 0, 1) := by decide +kernel
theorem d17_2 : decode prog_6_method_4_code 2 = .ok (.getfield 33, 3) := by decide +kernel
theorem d17_5 : decode prog_6_method_4_code 5 = .ok (.isub, 1) := by decide +kernel
theorem d17_6 : decode prog_6_method_4_code 6 = .ok (.iconst 0, 1) := by decide +kernel
theorem d17_7 : decode prog_6_method_4_code 7 = .ok (.invokestatic 40, 3) := by decide +kernel
theorem d17_10 : decode prog_6_method_4_code 10 = .ok (.ireturn, 1) := by decide +kernel
theorem d18_0 : decode prog_6_method_5_code 0 = .ok (.aload_n 0, 1) := by decide +kernel
theorem d18_1 : decode prog_6_method_5_code 1 = .ok (.getfield 33, 3) := by decide +kernel
theorem d18_4 : decode prog_6_method_5_code 4 = .ok (.aload_n 1, 1) := by decide +kernel
theorem d18_5 : decode prog_6_method_5_code 5 = .ok (.getfield 33, 3) := by decide +kernel
theorem d18_8 : decode prog_6_method_5_code 8 = .ok (.if_icmp .lt 25, 3) := by decide +kernel
theorem d18_11 : decode prog_6_method_5_code 11 = .ok (.aload_n 0, 1) := by decide +kernel
theorem d18_12 : decode prog_6_method_5_code 12 = .ok (.getfield 33, 3) := by decide +kernel
theorem d18_15 : decode prog_6_method_5_code 15 = .ok (.aload_n 1, 1) := by decide +kernel
theorem d18_16 : decode prog_6_method_5_code 16 = .ok (.getfield 33, 3) := by decide +kernel
theorem d18_19 : decode prog_6_method_5_code 19 = .ok (.if_icmp .ne 18, 3) := by decide +kernel
theorem d18_22 : decode prog_6_method_5_code 22 = .ok (.aload_n 0, 1) := by decide +kernel
theorem d18_23 : decode prog_6_method_5_code 23 = .ok (.getfield 15, 3) := by decide +kernel
theorem d18_26 : decode prog_6_method_5_code 26 = .ok (.aload_n 1, 1) := by decide +kernel
theorem d18_27 : decode prog_6_method_5_code 27 = .ok (.getfield 15, 3) := by decide +kernel
theorem d18_30 : decode prog_6_method_5_code 30 = .ok (.if_icmp .ge 7, 3) := by decide +kernel
theorem d18_33 : decode prog_6_method_5_code 33 = .ok (.iconst 1, 1) := by decide +kernel
theorem d18_34 : decode prog_6_method_5_code 34 = .ok (.goto 4, 3) := by decide +kernel
theorem d18_37 : decode prog_6_method_5_code 37 = .ok (.iconst 0, 1) := by decide +kernel
theorem d18_38 : decode prog_6_method_5_code 38 = .ok (.ireturn, 1) := by decide +kernel
theorem d19_0 : decode prog_7_method_1_code 0 = .ok (.aload_n 0, 1) := by decide +kernel
theorem d19_1 : decode prog_7_method_1_code 1 = .ok (.invokespecial 3, 3) := by decide +kernel
theorem d19_4 : decode prog_7_method_1_code 4 = .ok (.aload_n 0, 1) := by decide +kernel
theorem d19_5 : decode prog_7_method_1_code 5 = .ok (.bipush 6, 2) := by decide +kernel
theorem d19_7 : decode prog_7_method_1_code 7 = .ok (.anewarray 9, 3) := by decide +kernel
theorem d19_10 : decode prog_7_method_1_code 10 = .ok (.putfield 11, 3) := by decide +kernel
theorem d19_13 : decode prog_7_method_1_code 13 = .ok (.aload_n 0, 1) := by decide +kernel
theorem d19_14 : decode prog_7_method_1_code 14 = .ok (.bipush 6, 2) := by decide +kernel
theorem d19_16 : decode prog_7_method_1_code 16 = .ok (.newarray .boolean, 2) := by decide +kernel
theorem d19_18 : decode prog_7_method_1_code 18 = .ok (.putfield 17, 3) := by decide +kernel
theorem d19_21 : decode prog_7_method_1_code 21 = .ok (.aload_n 0, 1) := by decide +kernel
theorem d19_22 : decode prog_7_method_1_code 22 = .ok (.bipush 6, 2) := by decide +kernel
theorem d19_24 : decode prog_7_method_1_code 24 = .ok (.newarray .int, 2) := by decide +kernel
theorem d19_26 : decode prog_7_method_1_code 26 = .ok (.putfield 21, 3) := by decide +kernel
theorem d19_29 : decode prog_7_method_1_code 29 = .ok (.aload_n 0, 1) := by decide +kernel
theorem d19_30 : decode prog_7_method_1_code 30 = .ok (.bipush 6, 2) := by decide +kernel
theorem d19_32 : decode prog_7_method_1_code 32 = .ok (.newarray .int, 2) := by decide +kernel
theorem d19_34 : decode prog_7_method_1_code 34 = .ok (.putfield 25, 3) := by decide +kernel
theorem d19_37 : decode prog_7_method_1_code 37 = .ok (.aload_n 0, 1) := by decide +kernel
theorem d19_38 : decode prog_7_method_1_code 38 = .ok (.iconst 0, 1) := by decide +kernel
theorem d19_39 : decode prog_7_method_1_code 39 = .ok (.putfield 28, 3) := by decide +kernel
theorem d19_42 : decode prog_7_method_1_code 42 = .ok (.aload_n 0, 1) := by decide +kernel
theorem d19_43 : decode prog_7_method_1_code 43 = .ok (.iconst 0, 1) := by decide +kernel
theorem d19_44 : decode prog_7_method_1_code 44 = .ok (.putfield 32, 3) := by decide +kernel
theorem d19_47 : decode prog_7_method_1_code 47 = .ok (.aload_n 0, 1) := by decide +kernel
theorem d19_48 : decode prog_7_method_1_code 48 = .ok (.bipush 6, 2) := by decide +kernel
theorem d19_50 : decode prog_7_method_1_code 50 = .ok (.newarray .int, 2) := by decide +kernel
theorem d19_52 : decode prog_7_method_1_code 52 = .ok (.putfield 36, 3) := by decide +kernel
theorem d19_55 : decode prog_7_method_1_code 55 = .ok (.aload_n 0, 1) := by decide +kernel
theorem d19_56 : decode prog_7_method_1_code 56 = .ok (.bipush 6, 2) := by decide +kernel
theorem d19_58 : decode prog_7_method_1_code 58 = .ok (.newarray .int, 2) := by decide +kernel
theorem d19_60 : decode prog_7_method_1_code 60 = .ok (.putfield 39, 3) := by decide +kernel
theorem d19_63 : decode prog_7_method_1_code 63 = .ok (.aload_n 0, 1) := by decide +kernel
theorem d19_64 : decode prog_7_method_1_code 64 = .ok (.iconst 0, 1) := by decide +kernel
theorem d19_65 : decode prog_7_method_1_code 65 = .ok (.putfield 42, 3) := by decide +kernel
theorem d19_68 : decode prog_7_method_1_code 68 = .ok (.iconst 0, 1) := by decide +kernel
theorem d19_69 : decode prog_7_method_1_code 69 = .ok (.istore_n 1, 1) := by decide +kernel
theorem d19_70 : decode prog_7_method_1_code 70 = .ok (.iload_n 1, 1) := by decide +kernel
theorem d19_71 : decode prog_7_method_1_code 71 = .ok (.bipush 6, 2) := by decide +kernel
theorem d19_73 : decode prog_7_method_1_code 73 = .ok (.if_icmp .ge 22, 3) := by decide +kernel
theorem d19_76 : decode prog_7_method_1_code 76 = .ok (.aload_n 0, 1) := by decide +kernel
theorem d19_77 : decode prog_7_method_1_code 77 = .ok (.getfield 11, 3) := by decide +kernel
theorem d19_80 : decode prog_7_method_1_code 80 = .ok (.iload_n 1, 1) := by decide +kernel
theorem d19_81 : decode prog_7_method_1_code 81 = .ok (.new 9, 3) := by decide +kernel
theorem d19_84 : decode prog_7_method_1_code 84 = .ok (.dup, 1) := by decide +kernel
theorem d19_85 : decode prog_7_method_1_code 85 = .ok (.invokespecial 45, 3) := by decide +kernel
theorem d19_88 : decode prog_7_method_1_code 88 = .ok (.aastore, 1) := by decide +kernel
theorem d19_89 : decode prog_7_method_1_code 89 = .ok (.iinc 1 1, 3) := by decide +kernel
theorem d19_92 : decode prog_7_method_1_code 92 = .ok (.goto (-22), 3) := by decide +kernel
theorem d19_95 : decode prog_7_method_1_code 95 = .ok (.return_, 1) := by decide +kernel
theorem d20_0 : decode prog_7_method_2_code 0 = .ok (.aload_n 0, 1) := by decide +kernel
theorem d20_1 : decode prog_7_method_2_code 1 = .ok (.aload_n 1, 1) := by decide +kernel
theorem d20_2 : decode prog_7_method_2_code 2 = .ok (.iload_n 2, 1) := by decide +kernel
theorem d20_3 : decode prog_7_method_2_code 3 = .ok (.invokevirtual 46, 3) := by decide +kernel
theorem d20_6 : decode prog_7_method_2_code 6 = .ok (.aload_n 0, 1) := by decide +kernel
theorem d20_7 : decode prog_7_method_2_code 7 = .ok (.iconst 0, 1) := by decide +kernel
theorem d20_8 : decode prog_7_method_2_code 8 = .ok (.putfield 28, 3) := by decide +kernel
theorem d20_11 : decode prog_7_method_2_code 11 = .ok (.aload_n 0, 1) := by decide +kernel
theorem d20_12 : decode prog_7_method_2_code 12 = .ok (.iconst 0, 1) := by decide +kernel
theorem d20_13 : decode prog_7_method_2_code 13 = .ok (.putfield 32, 3) := by decide +kernel
theorem d20_16 : decode prog_7_method_2_code 16 = .ok (.iload_n 2, 1) := by decide +kernel
theorem d20_17 : decode prog_7_method_2_code 17 = .ok (.invokestatic 50, 3) := by decide +kernel
theorem d20_20 : decode prog_7_method_2_code 20 = .ok (.ifCond .eq 28, 3) := by decide +kernel
theorem d20_23 : decode prog_7_method_2_code 23 = .ok (.aload_n 1, 1) := by decide +kernel
theorem d20_24 : decode prog_7_method_2_code 24 = .ok (.getfield 54, 3) := by decide +kernel
theorem d20_27 : decode prog_7_method_2_code 27 = .ok (.iload_n 2, 1) := by decide +kernel
theorem d20_28 : decode prog_7_method_2_code 28 = .ok (.aaload, 1) := by decide +kernel
theorem d20_29 : decode prog_7_method_2_code 29 = .ok (.astore_n 3, 1) := by decide +kernel
theorem d20_30 : decode prog_7_method_2_code 30 = .ok (.aload_n 0, 1) := by decide +kernel
theorem d20_31 : decode prog_7_method_2_code 31 = .ok (.iconst 0, 1) := by decide +kernel
theorem d20_32 : decode prog_7_method_2_code 32 = .ok (.aload_n 3, 1) := by decide +kernel
theorem d20_33 : decode prog_7_method_2_code 33 = .ok (.getfield 60, 3) := by decide +kernel
theorem d20_36 : decode prog_7_method_2_code 36 = .ok (.aload_n 3, 1) := by decide +kernel
theorem d20_37 : decode prog_7_method_2_code 37 = .ok (.getfield 65, 3) := by decide +kernel
theorem d20_40 : decode prog_7_method_2_code 40 = .ok (.aload_n 3, 1) := by decide +kernel
theorem d20_41 : decode prog_7_method_2_code 41 = .ok (.getfield 68, 3) := by decide +kernel
theorem d20_44 : decode prog_7_method_2_code 44 = .ok (.iconst 0, 1) := by decide +kernel
theorem d20_45 : decode prog_7_method_2_code 45 = .ok (.invokevirtual 71, 3) := by decide +kernel
theorem d20_48 : decode prog_7_method_2_code 48 = .ok (.aload_n 0, 1) := by decide +kernel
theorem d20_49 : decode prog_7_method_2_code 49 = .ok (.getfield 32, 3) := by decide +kernel
theorem d20_52 : decode prog_7_method_2_code 52 = .ok (.ireturn, 1) := by decide +kernel
theorem d21_0 : decode prog_7_method_4_code 0 = .ok (.aload_n 0, 1) := by decide +kernel
theorem d21_1 : decode prog_7_method_4_code 1 = .ok (.iconst 0, 1) := by decide +kernel
theorem d21_2 : decode prog_7_method_4_code 2 = .ok (.putfield 42, 3) := by decide +kernel
theorem d21_5 : decode prog_7_method_4_code 5 = .ok (.iconst 0, 1) := by decide +kernel
theorem d21_6 : decode prog_7_method_4_code 6 = .ok (.istore_n 3, 1) := by decide +kernel
theorem d21_7 : decode prog_7_method_4_code 7 = .ok (.iload_n 3, 1) := by decide +kernel
theorem d21_8 : decode prog_7_method_4_code 8 = .ok (.aload_n 1, 1) := by decide +kernel
theorem d21_9 : decode prog_7_method_4_code 9 = .ok (.getfield 89, 3) := by decide +kernel
theorem d21_12 : decode prog_7_method_4_code 12 = .ok (.if_icmp .ge 59, 3) := by decide +kernel
theorem d21_15 : decode prog_7_method_4_code 15 = .ok (.aload_n 1, 1) := by decide +kernel
theorem d21_16 : decode prog_7_method_4_code 16 = .ok (.getfield 92, 3) := by decide +kernel
theorem d21_19 : decode prog_7_method_4_code 19 = .ok (.iload_n 3, 1) := by decide +kernel
theorem d21_20 : decode prog_7_method_4_code 20 = .ok (.aaload, 1) := by decide +kernel
theorem d21_21 : decode prog_7_method_4_code 21 = .ok (.getfield 93, 3) := by decide +kernel
theorem d21_24 : decode prog_7_method_4_code 24 = .ok (.iload_n 2, 1) := by decide +kernel
theorem d21_25 : decode prog_7_method_4_code 25 = .ok (.if_icmp .ne 40, 3) := by decide +kernel
theorem d21_28 : decode prog_7_method_4_code 28 = .ok (.aload_n 0, 1) := by decide +kernel
theorem d21_29 : decode prog_7_method_4_code 29 = .ok (.getfield 42, 3) := by decide +kernel
theorem d21_32 : decode prog_7_method_4_code 32 = .ok (.bipush 6, 2) := by decide +kernel
theorem d21_34 : decode prog_7_method_4_code 34 = .ok (.if_icmp .ge 31, 3) := by decide +kernel
theorem d21_37 : decode prog_7_method_4_code 37 = .ok (.aload_n 0, 1) := by decide +kernel
theorem d21_38 : decode prog_7_method_4_code 38 = .ok (.getfield 11, 3) := by decide +kernel
theorem d21_41 : decode prog_7_method_4_code 41 = .ok (.aload_n 0, 1) := by decide +kernel
theorem d21_42 : decode prog_7_method_4_code 42 = .ok (.getfield 42, 3) := by decide +kernel
theorem d21_45 : decode prog_7_method_4_code 45 = .ok (.aaload, 1) := by decide +kernel
theorem d21_46 : decode prog_7_method_4_code 46 = .ok (.aload_n 1, 1) := by decide +kernel
theorem d21_47 : decode prog_7_method_4_code 47 = .ok (.getfield 92, 3) := by decide +kernel
theorem d21_50 : decode prog_7_method_4_code 50 = .ok (.iload_n 3, 1) := by decide +kernel
theorem d21_51 : decode prog_7_method_4_code 51 = .ok (.aaload, 1) := by decide +kernel
theorem d21_52 : decode prog_7_method_4_code 52 = .ok (.invokevirtual 96, 3) := by decide +kernel
theorem d21_55 : decode prog_7_method_4_code 55 = .ok (.aload_n 0, 1) := by decide +kernel
theorem d21_56 : decode prog_7_method_4_code 56 = .ok (.dup, 1) := by decide +kernel
theorem d21_57 : decode prog_7_method_4_code 57 = .ok (.getfield 42, 3) := by decide +kernel
theorem d21_60 : decode prog_7_method_4_code 60 = .ok (.iconst 1, 1) := by decide +kernel
theorem d21_61 : decode prog_7_method_4_code 61 = .ok (.iadd, 1) := by decide +kernel
theorem d21_62 : decode prog_7_method_4_code 62 = .ok (.putfield 42, 3) := by decide +kernel
theorem d21_65 : decode prog_7_method_4_code 65 = .ok (.iinc 3 1, 3) := by decide +kernel
theorem d21_68 : decode prog_7_method_4_code 68 = .ok (.goto (-61), 3) := by decide +kernel
theorem d21_71 : decode prog_7_method_4_code 71 = .ok (.return_, 1) := by decide +kernel
theorem d22_0 : decode prog_7_method_5_code 0 = .ok (.iload_n 1, 1) := by decide +kernel
theorem d22_1 : decode prog_7_method_5_code 1 = .ok (.aload_n 0, 1) := by decide +kernel
theorem d22_2 : decode prog_7_method_5_code 2 = .ok (.getfield 42, 3) := by decide +kernel
theorem d22_5 : decode prog_7_method_5_code 5 = .ok (.if_icmp .ge 9, 3) := by decide +kernel
theorem d22_8 : decode prog_7_method_5_code 8 = .ok (.iload_n 1, 1) := by decide +kernel
theorem d22_9 : decode prog_7_method_5_code 9 = .ok (.bipush 6, 2) := by decide +kernel
theorem d22_11 : decode prog_7_method_5_code 11 = .ok (.if_icmp .lt 10, 3) := by decide +kernel
theorem d22_14 : decode prog_7_method_5_code 14 = .ok (.aload_n 0, 1) := by decide +kernel
theorem d22_15 : decode prog_7_method_5_code 15 = .ok (.iload 5, 2) := by decide +kernel
theorem d22_17 : decode prog_7_method_5_code 17 = .ok (.invokevirtual 100, 3) := by decide +kernel
theorem d22_20 : decode prog_7_method_5_code 20 = .ok (.return_, 1) := by decide +kernel
theorem d22_21 : decode prog_7_method_5_code 21 = .ok (.iconst 0, 1) := by decide +kernel
theorem d22_22 : decode prog_7_method_5_code 22 = .ok (.istore 6, 2) := by decide +kernel
theorem d22_24 : decode prog_7_method_5_code 24 = .ok (.iload 6, 2) := by decide +kernel
theorem d22_26 : decode prog_7_method_5_code 26 = .ok (.aload_n 0, 1) := by decide +kernel
theorem d22_27 : decode prog_7_method_5_code 27 = .ok (.getfield 42, 3) := by decide +kernel
theorem d22_30 : decode prog_7_method_5_code 30 = .ok (.if_icmp .ge 103, 3) := by decide +kernel
theorem d22_33 : decode prog_7_method_5_code 33 = .ok (.aload_n 0, 1) := by decide +kernel
theorem d22_34 : decode prog_7_method_5_code 34 = .ok (.getfield 17, 3) := by decide +kernel
theorem d22_37 : decode prog_7_method_5_code 37 = .ok (.iload 6, 2) := by decide +kernel
theorem d22_39 : decode prog_7_method_5_code 39 = .ok (.baload, 1) := by decide +kernel
theorem d22_40 : decode prog_7_method_5_code 40 = .ok (.ifCond .ne 87, 3) := by decide +kernel
theorem d22_43 : decode prog_7_method_5_code 43 = .ok (.aload_n 0, 1) := by decide +kernel
theorem d22_44 : decode prog_7_method_5_code 44 = .ok (.getfield 11, 3) := by decide +kernel
theorem d22_47 : decode prog_7_method_5_code 47 = .ok (.iload 6, 2) := by decide +kernel
theorem d22_49 : decode prog_7_method_5_code 49 = .ok (.aaload, 1) := by decide +kernel
theorem d22_50 : decode prog_7_method_5_code 50 = .ok (.astore 7, 2) := by decide +kernel
theorem d22_52 : decode prog_7_method_5_code 52 = .ok (.aload 7, 2) := by decide +kernel
theorem d22_54 : decode prog_7_method_5_code 54 = .ok (.iload_n 2, 1) := by decide +kernel
theorem d22_55 : decode prog_7_method_5_code 55 = .ok (.iload_n 3, 1) := by decide +kernel
theorem d22_56 : decode prog_7_method_5_code 56 = .ok (.iload 4, 2) := by decide +kernel
theorem d22_58 : decode prog_7_method_5_code 58 = .ok (.invokevirtual 104, 3) := by decide +kernel
theorem d22_61 : decode prog_7_method_5_code 61 = .ok (.istore 8, 2) := by decide +kernel
theorem d22_63 : decode prog_7_method_5_code 63 = .ok (.aload_n 0, 1) := by decide +kernel
theorem d22_64 : decode prog_7_method_5_code 64 = .ok (.getfield 17, 3) := by decide +kernel
theorem d22_67 : decode prog_7_method_5_code 67 = .ok (.iload 6, 2) := by decide +kernel
theorem d22_69 : decode prog_7_method_5_code 69 = .ok (.iconst 1, 1) := by decide +kernel
theorem d22_70 : decode prog_7_method_5_code 70 = .ok (.bastore, 1) := by decide +kernel
theorem d22_71 : decode prog_7_method_5_code 71 = .ok (.aload_n 0, 1) := by decide +kernel
theorem d22_72 : decode prog_7_method_5_code 72 = .ok (.getfield 21, 3) := by decide +kernel
theorem d22_75 : decode prog_7_method_5_code 75 = .ok (.iload_n 1, 1) := by decide +kernel
theorem d22_76 : decode prog_7_method_5_code 76 = .ok (.aload 7, 2) := by decide +kernel
theorem d22_78 : decode prog_7_method_5_code 78 = .ok (.getfield 108, 3) := by decide +kernel
theorem d22_81 : decode prog_7_method_5_code 81 = .ok (.iastore, 1) := by decide +kernel
theorem d22_82 : decode prog_7_method_5_code 82 = .ok (.aload_n 0, 1) := by decide +kernel
theorem d22_83 : decode prog_7_method_5_code 83 = .ok (.getfield 25, 3) := by decide +kernel
theorem d22_86 : decode prog_7_method_5_code 86 = .ok (.iload_n 1, 1) := by decide +kernel
theorem d22_87 : decode prog_7_method_5_code 87 = .ok (.iload 8, 2) := by decide +kernel
theorem d22_89 : decode prog_7_method_5_code 89 = .ok (.iastore, 1) := by decide +kernel
theorem d22_90 : decode prog_7_method_5_code 90 = .ok (.aload_n 0, 1) := by decide +kernel
theorem d22_91 : decode prog_7_method_5_code 91 = .ok (.iload_n 1, 1) := by decide +kernel
theorem d22_92 : decode prog_7_method_5_code 92 = .ok (.iconst 1, 1) := by decide +kernel
theorem d22_93 : decode prog_7_method_5_code 93 = .ok (.iadd, 1) := by decide +kernel
theorem d22_94 : decode prog_7_method_5_code 94 = .ok (.aload 7, 2) := by decide +kernel
theorem d22_96 : decode prog_7_method_5_code 96 = .ok (.getfield 111, 3) := by decide +kernel
theorem d22_99 : decode prog_7_method_5_code 99 = .ok (.aload 7, 2) := by decide +kernel
theorem d22_101 : decode prog_7_method_5_code 101 = .ok (.getfield 112, 3) := by decide +kernel
theorem d22_104 : decode prog_7_method_5_code 104 = .ok (.iload 8, 2) := by decide +kernel
theorem d22_106 : decode prog_7_method_5_code 106 = .ok (.iload 5, 2) := by decide +kernel
theorem d22_108 : decode prog_7_method_5_code 108 = .ok (.aload 7, 2) := by decide +kernel
theorem d22_110 : decode prog_7_method_5_code 110 = .ok (.iload 8, 2) := by decide +kernel
theorem d22_112 : decode prog_7_method_5_code 112 = .ok (.invokevirtual 113, 3) := by decide +kernel
theorem d22_115 : decode prog_7_method_5_code 115 = .ok (.iadd, 1) := by decide +kernel
theorem d22_116 : decode prog_7_method_5_code 116 = .ok (.invokevirtual 71, 3) := by decide +kernel
theorem d22_119 : decode prog_7_method_5_code 119 = .ok (.aload_n 0, 1) := by decide +kernel
theorem d22_120 : decode prog_7_method_5_code 120 = .ok (.getfield 17, 3) := by decide +kernel
theorem d22_123 : decode prog_7_method_5_code 123 = .ok (.iload 6, 2) := by decide +kernel
theorem d22_125 : decode prog_7_method_5_code 125 = .ok (.iconst 0, 1) := by decide +kernel
theorem d22_126 : decode prog_7_method_5_code 126 = .ok (.bastore, 1) := by decide +kernel
theorem d22_127 : decode prog_7_method_5_code 127 = .ok (.iinc 6 1, 3) := by decide +kernel
theorem d22_130 : decode prog_7_method_5_code 130 = .ok (.goto (-106), 3) := by decide +kernel
theorem d22_133 : decode prog_7_method_5_code 133 = .ok (.return_, 1) := by decide +kernel
theorem d23_0 : decode prog_7_method_6_code 0 = .ok (.aload_n 0, 1) := by decide +kernel
theorem d23_1 : decode prog_7_method_6_code 1 = .ok (.getfield 28, 3) := by decide +kernel
theorem d23_4 : decode prog_7_method_6_code 4 = .ok (.ifCond .eq 11, 3) := by decide +kernel
theorem d23_7 : decode prog_7_method_6_code 7 = .ok (.iload_n 1, 1) := by decide +kernel
theorem d23_8 : decode prog_7_method_6_code 8 = .ok (.aload_n 0, 1) := by decide +kernel
theorem d23_9 : decode prog_7_method_6_code 9 = .ok (.getfield 32, 3) := by decide +kernel
theorem d23_12 : decode prog_7_method_6_code 12 = .ok (.if_icmp .ge 43, 3) := by decide +kernel
theorem d23_15 : decode prog_7_method_6_code 15 = .ok (.aload_n 0, 1) := by decide +kernel
theorem d23_16 : decode prog_7_method_6_code 16 = .ok (.iconst 1, 1) := by decide +kernel
theorem d23_17 : decode prog_7_method_6_code 17 = .ok (.putfield 28, 3) := by decide +kernel
theorem d23_20 : decode prog_7_method_6_code 20 = .ok (.aload_n 0, 1) := by decide +kernel
theorem d23_21 : decode prog_7_method_6_code 21 = .ok (.iload_n 1, 1) := by decide +kernel
theorem d23_22 : decode prog_7_method_6_code 22 = .ok (.putfield 32, 3) := by decide +kernel
theorem d23_25 : decode prog_7_method_6_code 25 = .ok (.aload_n 0, 1) := by decide +kernel
theorem d23_26 : decode prog_7_method_6_code 26 = .ok (.getfield 21, 3) := by decide +kernel
theorem d23_29 : decode prog_7_method_6_code 29 = .ok (.iconst 0, 1) := by decide +kernel
theorem d23_30 : decode prog_7_method_6_code 30 = .ok (.aload_n 0, 1) := by decide +kernel
theorem d23_31 : decode prog_7_method_6_code 31 = .ok (.getfield 36, 3) := by decide +kernel
theorem d23_34 : decode prog_7_method_6_code 34 = .ok (.iconst 0, 1) := by decide +kernel
theorem d23_35 : decode prog_7_method_6_code 35 = .ok (.bipush 6, 2) := by decide +kernel
theorem d23_37 : decode prog_7_method_6_code 37 = .ok (.invokestatic 117, 3) := by decide +kernel
theorem d23_40 : decode prog_7_method_6_code 40 = .ok (.aload_n 0, 1) := by decide +kernel
theorem d23_41 : decode prog_7_method_6_code 41 = .ok (.getfield 25, 3) := by decide +kernel
theorem d23_44 : decode prog_7_method_6_code 44 = .ok (.iconst 0, 1) := by decide +kernel
theorem d23_45 : decode prog_7_method_6_code 45 = .ok (.aload_n 0, 1) := by decide +kernel
theorem d23_46 : decode prog_7_method_6_code 46 = .ok (.getfield 39, 3) := by decide +kernel
theorem d23_49 : decode prog_7_method_6_code 49 = .ok (.iconst 0, 1) := by decide +kernel
theorem d23_50 : decode prog_7_method_6_code 50 = .ok (.bipush 6, 2) := by decide +kernel
theorem d23_52 : decode prog_7_method_6_code 52 = .ok (.invokestatic 117, 3) := by decide +kernel
theorem d23_55 : decode prog_7_method_6_code 55 = .ok (.return_, 1) := by decide +kernel
theorem d24_0 : decode prog_7_method_3_code 0 = .ok (.aload_n 0, 1) := by decide +kernel
theorem d24_1 : decode prog_7_method_3_code 1 = .ok (.aload_n 1, 1) := by decide +kernel
theorem d24_2 : decode prog_7_method_3_code 2 = .ok (.iload_n 2, 1) := by decide +kernel
theorem d24_3 : decode prog_7_method_3_code 3 = .ok (.invokevirtual 46, 3) := by decide +kernel
theorem d24_6 : decode prog_7_method_3_code 6 = .ok (.iload_n 2, 1) := by decide +kernel
theorem d24_7 : decode prog_7_method_3_code 7 = .ok (.invokestatic 50, 3) := by decide +kernel
theorem d24_10 : decode prog_7_method_3_code 10 = .ok (.ifCond .ne 5, 3) := by decide +kernel
theorem d24_13 : decode prog_7_method_3_code 13 = .ok (.iconst 0, 1) := by decide +kernel
theorem d24_14 : decode prog_7_method_3_code 14 = .ok (.ireturn, 1) := by decide +kernel
theorem d24_15 : decode prog_7_method_3_code 15 = .ok (.aload_n 0, 1) := by decide +kernel
theorem d24_16 : decode prog_7_method_3_code 16 = .ok (.aload_n 1, 1) := by decide +kernel
theorem d24_17 : decode prog_7_method_3_code 17 = .ok (.getfield 54, 3) := by decide +kernel
theorem d24_20 : decode prog_7_method_3_code 20 = .ok (.iload_n 2, 1) := by decide +kernel
theorem d24_21 : decode prog_7_method_3_code 21 = .ok (.aaload, 1) := by decide +kernel
theorem d24_22 : decode prog_7_method_3_code 22 = .ok (.invokevirtual 75, 3) := by decide +kernel
theorem d24_25 : decode prog_7_method_3_code 25 = .ok (.istore_n 3, 1) := by decide +kernel
theorem d24_26 : decode prog_7_method_3_code 26 = .ok (.iconst 1, 1) := by decide +kernel
theorem d24_27 : decode prog_7_method_3_code 27 = .ok (.istore 4, 2) := by decide +kernel
theorem d24_29 : decode prog_7_method_3_code 29 = .ok (.iload 4, 2) := by decide +kernel
theorem d24_31 : decode prog_7_method_3_code 31 = .ok (.sipush 720, 3) := by decide +kernel
theorem d24_34 : decode prog_7_method_3_code 34 = .ok (.if_icmp .ge 31, 3) := by decide +kernel
theorem d24_37 : decode prog_7_method_3_code 37 = .ok (.aload_n 0, 1) := by decide +kernel
theorem d24_38 : decode prog_7_method_3_code 38 = .ok (.invokevirtual 79, 3) := by decide +kernel
theorem d24_41 : decode prog_7_method_3_code 41 = .ok (.ifCond .eq 24, 3) := by decide +kernel
theorem d24_44 : decode prog_7_method_3_code 44 = .ok (.iload_n 3, 1) := by decide +kernel
theorem d24_45 : decode prog_7_method_3_code 45 = .ok (.aload_n 0, 1) := by decide +kernel
theorem d24_46 : decode prog_7_method_3_code 46 = .ok (.aload_n 1, 1) := by decide +kernel
theorem d24_47 : decode prog_7_method_3_code 47 = .ok (.getfield 54, 3) := by decide +kernel
theorem d24_50 : decode prog_7_method_3_code 50 = .ok (.iload_n 2, 1) := by decide +kernel
theorem d24_51 : decode prog_7_method_3_code 51 = .ok (.aaload, 1) := by decide +kernel
theorem d24_52 : decode prog_7_method_3_code 52 = .ok (.invokevirtual 75, 3) := by decide +kernel
theorem d24_55 : decode prog_7_method_3_code 55 = .ok (.invokestatic 83, 3) := by decide +kernel
theorem d24_58 : decode prog_7_method_3_code 58 = .ok (.istore_n 3, 1) := by decide +kernel
theorem d24_59 : decode prog_7_method_3_code 59 = .ok (.iinc 4 1, 3) := by decide +kernel
theorem d24_62 : decode prog_7_method_3_code 62 = .ok (.goto (-33), 3) := by decide +kernel
theorem d24_65 : decode prog_7_method_3_code 65 = .ok (.iload_n 3, 1) := by decide +kernel
theorem d24_66 : decode prog_7_method_3_code 66 = .ok (.ireturn, 1) := by decide +kernel
theorem d25_0 : decode prog_7_method_7_code 0 = .ok (.aload_n 1, 1) := by decide +kernel
theorem d25_1 : decode prog_7_method_7_code 1 = .ok (.getfield 60, 3) := by decide +kernel
theorem d25_4 : decode prog_7_method_7_code 4 = .ok (.istore_n 2, 1) := by decide +kernel
theorem d25_5 : decode prog_7_method_7_code 5 = .ok (.aload_n 1, 1) := by decide +kernel
theorem d25_6 : decode prog_7_method_7_code 6 = .ok (.getfield 65, 3) := by decide +kernel
theorem d25_9 : decode prog_7_method_7_code 9 = .ok (.istore_n 3, 1) := by decide +kernel
theorem d25_10 : decode prog_7_method_7_code 10 = .ok (.aload_n 1, 1) := by decide +kernel
theorem d25_11 : decode prog_7_method_7_code 11 = .ok (.getfield 68, 3) := by decide +kernel
theorem d25_14 : decode prog_7_method_7_code 14 = .ok (.istore 4, 2) := by decide +kernel
theorem d25_16 : decode prog_7_method_7_code 16 = .ok (.iconst 0, 1) := by decide +kernel
theorem d25_17 : decode prog_7_method_7_code 17 = .ok (.istore 5, 2) := by decide +kernel
theorem d25_19 : decode prog_7_method_7_code 19 = .ok (.iconst 0, 1) := by decide +kernel
theorem d25_20 : decode prog_7_method_7_code 20 = .ok (.istore 6, 2) := by decide +kernel
theorem d25_22 : decode prog_7_method_7_code 22 = .ok (.iload 6, 2) := by decide +kernel
theorem d25_24 : decode prog_7_method_7_code 24 = .ok (.aload_n 0, 1) := by decide +kernel
theorem d25_25 : decode prog_7_method_7_code 25 = .ok (.getfield 42, 3) := by decide +kernel
theorem d25_28 : decode prog_7_method_7_code 28 = .ok (.if_icmp .ge 53, 3) := by decide +kernel
theorem d25_31 : decode prog_7_method_7_code 31 = .ok (.aload_n 0, 1) := by decide +kernel
theorem d25_32 : decode prog_7_method_7_code 32 = .ok (.getfield 11, 3) := by decide +kernel
theorem d25_35 : decode prog_7_method_7_code 35 = .ok (.iload 6, 2) := by decide +kernel
theorem d25_37 : decode prog_7_method_7_code 37 = .ok (.aaload, 1) := by decide +kernel
theorem d25_38 : decode prog_7_method_7_code 38 = .ok (.astore 7, 2) := by decide +kernel
theorem d25_40 : decode prog_7_method_7_code 40 = .ok (.aload 7, 2) := by decide +kernel
theorem d25_42 : decode prog_7_method_7_code 42 = .ok (.iload_n 2, 1) := by decide +kernel
theorem d25_43 : decode prog_7_method_7_code 43 = .ok (.iload_n 3, 1) := by decide +kernel
theorem d25_44 : decode prog_7_method_7_code 44 = .ok (.iload 4, 2) := by decide +kernel
theorem d25_46 : decode prog_7_method_7_code 46 = .ok (.invokevirtual 104, 3) := by decide +kernel
theorem d25_49 : decode prog_7_method_7_code 49 = .ok (.istore 4, 2) := by decide +kernel
theorem d25_51 : decode prog_7_method_7_code 51 = .ok (.iload 5, 2) := by decide +kernel
theorem d25_53 : decode prog_7_method_7_code 53 = .ok (.aload 7, 2) := by decide +kernel
theorem d25_55 : decode prog_7_method_7_code 55 = .ok (.iload 4, 2) := by decide +kernel
theorem d25_57 : decode prog_7_method_7_code 57 = .ok (.invokevirtual 113, 3) := by decide +kernel
theorem d25_60 : decode prog_7_method_7_code 60 = .ok (.iadd, 1) := by decide +kernel
theorem d25_61 : decode prog_7_method_7_code 61 = .ok (.istore 5, 2) := by decide +kernel
theorem d25_63 : decode prog_7_method_7_code 63 = .ok (.aload 7, 2) := by decide +kernel
theorem d25_65 : decode prog_7_method_7_code 65 = .ok (.getfield 111, 3) := by decide +kernel
theorem d25_68 : decode prog_7_method_7_code 68 = .ok (.istore_n 2, 1) := by decide +kernel
theorem d25_69 : decode prog_7_method_7_code 69 = .ok (.aload 7, 2) := by decide +kernel
theorem d25_71 : decode prog_7_method_7_code 71 = .ok (.getfield 112, 3) := by decide +kernel
theorem d25_74 : decode prog_7_method_7_code 74 = .ok (.istore_n 3, 1) := by decide +kernel
theorem d25_75 : decode prog_7_method_7_code 75 = .ok (.iinc 6 1, 3) := by decide +kernel
theorem d25_78 : decode prog_7_method_7_code 78 = .ok (.goto (-56), 3) := by decide +kernel
theorem d25_81 : decode prog_7_method_7_code 81 = .ok (.iload 5, 2) := by decide +kernel
theorem d25_83 : decode prog_7_method_7_code 83 = .ok (.ireturn, 1) := by decide +kernel
theorem d26_0 : decode prog_7_method_8_code 0 = .ok (.aload_n 0, 1) := by decide +kernel
theorem d26_1 : decode prog_7_method_8_code 1 = .ok (.getfield 42, 3) := by decide +kernel
theorem d26_4 : decode prog_7_method_8_code 4 = .ok (.iconst 2, 1) := by decide +kernel
theorem d26_5 : decode prog_7_method_8_code 5 = .ok (.isub, 1) := by decide +kernel
theorem d26_6 : decode prog_7_method_8_code 6 = .ok (.istore_n 1, 1) := by decide +kernel
theorem d26_7 : decode prog_7_method_8_code 7 = .ok (.iload_n 1, 1) := by decide +kernel
theorem d26_8 : decode prog_7_method_8_code 8 = .ok (.ifCond .lt 32, 3) := by decide +kernel
theorem d26_11 : decode prog_7_method_8_code 11 = .ok (.aload_n 0, 1) := by decide +kernel
theorem d26_12 : decode prog_7_method_8_code 12 = .ok (.getfield 11, 3) := by decide +kernel
theorem d26_15 : decode prog_7_method_8_code 15 = .ok (.iload_n 1, 1) := by decide +kernel
theorem d26_16 : decode prog_7_method_8_code 16 = .ok (.aaload, 1) := by decide +kernel
theorem d26_17 : decode prog_7_method_8_code 17 = .ok (.getfield 108, 3) := by decide +kernel
theorem d26_20 : decode prog_7_method_8_code 20 = .ok (.aload_n 0, 1) := by decide +kernel
theorem d26_21 : decode prog_7_method_8_code 21 = .ok (.getfield 11, 3) := by decide +kernel
theorem d26_24 : decode prog_7_method_8_code 24 = .ok (.iload_n 1, 1) := by decide +kernel
theorem d26_25 : decode prog_7_method_8_code 25 = .ok (.iconst 1, 1) := by decide +kernel
theorem d26_26 : decode prog_7_method_8_code 26 = .ok (.iadd, 1) := by decide +kernel
theorem d26_27 : decode prog_7_method_8_code 27 = .ok (.aaload, 1) := by decide +kernel
theorem d26_28 : decode prog_7_method_8_code 28 = .ok (.getfield 108, 3) := by decide +kernel
theorem d26_31 : decode prog_7_method_8_code 31 = .ok (.if_icmp .le 9, 3) := by decide +kernel
theorem d26_34 : decode prog_7_method_8_code 34 = .ok (.iinc 1 (-1), 3) := by decide +kernel
theorem d26_37 : decode prog_7_method_8_code 37 = .ok (.goto (-30), 3) := by decide +kernel
theorem d26_40 : decode prog_7_method_8_code 40 = .ok (.iload_n 1, 1) := by decide +kernel
theorem d26_41 : decode prog_7_method_8_code 41 = .ok (.ifCond .ge 5, 3) := by decide +kernel
theorem d26_44 : decode prog_7_method_8_code 44 = .ok (.iconst 0, 1) := by decide +kernel
theorem d26_45 : decode prog_7_method_8_code 45 = .ok (.ireturn, 1) := by decide +kernel
theorem d26_46 : decode prog_7_method_8_code 46 = .ok (.aload_n 0, 1) := by decide +kernel
theorem d26_47 : decode prog_7_method_8_code 47 = .ok (.getfield 42, 3) := by decide +kernel
theorem d26_50 : decode prog_7_method_8_code 50 = .ok (.iconst 1, 1) := by decide +kernel
theorem d26_51 : decode prog_7_method_8_code 51 = .ok (.isub, 1) := by decide +kernel
theorem d26_52 : decode prog_7_method_8_code 52 = .ok (.istore_n 2, 1) := by decide +kernel
theorem d26_53 : decode prog_7_method_8_code 53 = .ok (.iload_n 2, 1) := by decide +kernel
theorem d26_54 : decode prog_7_method_8_code 54 = .ok (.iload_n 1, 1) := by decide +kernel
theorem d26_55 : decode prog_7_method_8_code 55 = .ok (.if_icmp .le 30, 3) := by decide +kernel
theorem d26_58 : decode prog_7_method_8_code 58 = .ok (.aload_n 0, 1) := by decide +kernel
theorem d26_59 : decode prog_7_method_8_code 59 = .ok (.getfield 11, 3) := by decide +kernel
theorem d26_62 : decode prog_7_method_8_code 62 = .ok (.iload_n 2, 1) := by decide +kernel
theorem d26_63 : decode prog_7_method_8_code 63 = .ok (.aaload, 1) := by decide +kernel
theorem d26_64 : decode prog_7_method_8_code 64 = .ok (.getfield 108, 3) := by decide +kernel
theorem d26_67 : decode prog_7_method_8_code 67 = .ok (.aload_n 0, 1) := by decide +kernel
theorem d26_68 : decode prog_7_method_8_code 68 = .ok (.getfield 11, 3) := by decide +kernel
theorem d26_71 : decode prog_7_method_8_code 71 = .ok (.iload_n 1, 1) := by decide +kernel
theorem d26_72 : decode prog_7_method_8_code 72 = .ok (.aaload, 1) := by decide +kernel
theorem d26_73 : decode prog_7_method_8_code 73 = .ok (.getfield 108, 3) := by decide +kernel
theorem d26_76 : decode prog_7_method_8_code 76 = .ok (.if_icmp .ge 9, 3) := by decide +kernel
theorem d26_79 : decode prog_7_method_8_code 79 = .ok (.iinc 2 (-1), 3) := by decide +kernel
theorem d26_82 : decode prog_7_method_8_code 82 = .ok (.goto (-29), 3) := by decide +kernel
theorem d26_85 : decode prog_7_method_8_code 85 = .ok (.aload_n 0, 1) := by decide +kernel
theorem d26_86 : decode prog_7_method_8_code 86 = .ok (.iload_n 1, 1) := by decide +kernel
theorem d26_87 : decode prog_7_method_8_code 87 = .ok (.iload_n 2, 1) := by decide +kernel
theorem d26_88 : decode prog_7_method_8_code 88 = .ok (.invokevirtual 123, 3) := by decide +kernel
theorem d26_91 : decode prog_7_method_8_code 91 = .ok (.iload_n 1, 1) := by decide +kernel
theorem d26_92 : decode prog_7_method_8_code 92 = .ok (.iconst 1, 1) := by decide +kernel
theorem d26_93 : decode prog_7_method_8_code 93 = .ok (.iadd, 1) := by decide +kernel
theorem d26_94 : decode prog_7_method_8_code 94 = .ok (.istore_n 3, 1) := by decide +kernel
theorem d26_95 : decode prog_7_method_8_code 95 = .ok (.aload_n 0, 1) := by decide +kernel
theorem d26_96 : decode prog_7_method_8_code 96 = .ok (.getfield 42, 3) := by decide +kernel
theorem d26_99 : decode prog_7_method_8_code 99 = .ok (.iconst 1, 1) := by decide +kernel
theorem d26_100 : decode prog_7_method_8_code 100 = .ok (.isub, 1) := by decide +kernel
theorem d26_101 : decode prog_7_method_8_code 101 = .ok (.istore 4, 2) := by decide +kernel
theorem d26_103 : decode prog_7_method_8_code 103 = .ok (.iload_n 3, 1) := by decide +kernel
theorem d26_104 : decode prog_7_method_8_code 104 = .ok (.iload 4, 2) := by decide +kernel
theorem d26_106 : decode prog_7_method_8_code 106 = .ok (.if_icmp .ge 19, 3) := by decide +kernel
theorem d26_109 : decode prog_7_method_8_code 109 = .ok (.aload_n 0, 1) := by decide +kernel
theorem d26_110 : decode prog_7_method_8_code 110 = .ok (.iload_n 3, 1) := by decide +kernel
theorem d26_111 : decode prog_7_method_8_code 111 = .ok (.iload 4, 2) := by decide +kernel
theorem d26_113 : decode prog_7_method_8_code 113 = .ok (.invokevirtual 123, 3) := by decide +kernel
theorem d26_116 : decode prog_7_method_8_code 116 = .ok (.iinc 3 1, 3) := by decide +kernel
theorem d26_119 : decode prog_7_method_8_code 119 = .ok (.iinc 4 (-1), 3) := by decide +kernel
theorem d26_122 : decode prog_7_method_8_code 122 = .ok (.goto (-19), 3) := by decide +kernel
theorem d26_125 : decode prog_7_method_8_code 125 = .ok (.iconst 1, 1) := by decide +kernel
theorem d26_126 : decode prog_7_method_8_code 126 = .ok (.ireturn, 1) := by decide +kernel
theorem d27_0 : decode prog_7_method_9_code 0 = .ok (.aload_n 0, 1) := by decide +kernel
theorem d27_1 : decode prog_7_method_9_code 1 = .ok (.getfield 11, 3) := by decide +kernel
theorem d27_4 : decode prog_7_method_9_code 4 = .ok (.iload_n 1, 1) := by decide +kernel
theorem d27_5 : decode prog_7_method_9_code 5 = .ok (.aaload, 1) := by decide +kernel
theorem d27_6 : decode prog_7_method_9_code 6 = .ok (.astore_n 3, 1) := by decide +kernel
theorem d27_7 : decode prog_7_method_9_code 7 = .ok (.aload_n 0, 1) := by decide +kernel
theorem d27_8 : decode prog_7_method_9_code 8 = .ok (.getfield 11, 3) := by decide +kernel
theorem d27_11 : decode prog_7_method_9_code 11 = .ok (.iload_n 1, 1) := by decide +kernel
theorem d27_12 : decode prog_7_method_9_code 12 = .ok (.aload_n 0, 1) := by decide +kernel
theorem d27_13 : decode prog_7_method_9_code 13 = .ok (.getfield 11, 3) := by decide +kernel
theorem d27_16 : decode prog_7_method_9_code 16 = .ok (.iload_n 2, 1) := by decide +kernel
theorem d27_17 : decode prog_7_method_9_code 17 = .ok (.aaload, 1) := by decide +kernel
theorem d27_18 : decode prog_7_method_9_code 18 = .ok (.aastore, 1) := by decide +kernel
theorem d27_19 : decode prog_7_method_9_code 19 = .ok (.aload_n 0, 1) := by decide +kernel
theorem d27_20 : decode prog_7_method_9_code 20 = .ok (.getfield 11, 3) := by decide +kernel
theorem d27_23 : decode prog_7_method_9_code 23 = .ok (.iload_n 2, 1) := by decide +kernel
theorem d27_24 : decode prog_7_method_9_code 24 = .ok (.aload_n 3, 1) := by decide +kernel
theorem d27_25 : decode prog_7_method_9_code 25 = .ok (.aastore, 1) := by decide +kernel
theorem d27_26 : decode prog_7_method_9_code 26 = .ok (.return_, 1) := by decide +kernel
theorem d28_0 : decode prog_8_method_1_code 0 = .ok (.aload_n 0, 1) := by decide +kernel
theorem d28_1 : decode prog_8_method_1_code 1 = .ok (.invokespecial 3, 3) := by decide +kernel
theorem d28_4 : decode prog_8_method_1_code 4 = .ok (.aload_n 0, 1) := by decide +kernel
theorem d28_5 : decode prog_8_method_1_code 5 = .ok (.bipush 60, 2) := by decide +kernel
theorem d28_7 : decode prog_8_method_1_code 7 = .ok (.newarray .char, 2) := by decide +kernel
theorem d28_9 : decode prog_8_method_1_code 9 = .ok (.putfield 9, 3) := by decide +kernel
theorem d28_12 : decode prog_8_method_1_code 12 = .ok (.aload_n 0, 1) := by decide +kernel
theorem d28_13 : decode prog_8_method_1_code 13 = .ok (.iconst 0, 1) := by decide +kernel
theorem d28_14 : decode prog_8_method_1_code 14 = .ok (.putfield 15, 3) := by decide +kernel
theorem d28_17 : decode prog_8_method_1_code 17 = .ok (.aload_n 0, 1) := by decide +kernel
theorem d28_18 : decode prog_8_method_1_code 18 = .ok (.iconst 0, 1) := by decide +kernel
theorem d28_19 : decode prog_8_method_1_code 19 = .ok (.putfield 19, 3) := by decide +kernel
theorem d28_22 : decode prog_8_method_1_code 22 = .ok (.aload_n 0, 1) := by decide +kernel
theorem d28_23 : decode prog_8_method_1_code 23 = .ok (.bipush 9, 2) := by decide +kernel
theorem d28_25 : decode prog_8_method_1_code 25 = .ok (.anewarray 22, 3) := by decide +kernel
theorem d28_28 : decode prog_8_method_1_code 28 = .ok (.putfield 24, 3) := by decide +kernel
theorem d28_31 : decode prog_8_method_1_code 31 = .ok (.aload_n 0, 1) := by decide +kernel
theorem d28_32 : decode prog_8_method_1_code 32 = .ok (.iconst 0, 1) := by decide +kernel
theorem d28_33 : decode prog_8_method_1_code 33 = .ok (.putfield 28, 3) := by decide +kernel
theorem d28_36 : decode prog_8_method_1_code 36 = .ok (.iconst 0, 1) := by decide +kernel
theorem d28_37 : decode prog_8_method_1_code 37 = .ok (.istore_n 1, 1) := by decide +kernel
theorem d28_38 : decode prog_8_method_1_code 38 = .ok (.iload_n 1, 1) := by decide +kernel
theorem d28_39 : decode prog_8_method_1_code 39 = .ok (.bipush 9, 2) := by decide +kernel
theorem d28_41 : decode prog_8_method_1_code 41 = .ok (.if_icmp .ge 22, 3) := by decide +kernel
theorem d28_44 : decode prog_8_method_1_code 44 = .ok (.aload_n 0, 1) := by decide +kernel
theorem d28_45 : decode prog_8_method_1_code 45 = .ok (.getfield 24, 3) := by decide +kernel
theorem d28_48 : decode prog_8_method_1_code 48 = .ok (.iload_n 1, 1) := by decide +kernel
theorem d28_49 : decode prog_8_method_1_code 49 = .ok (.new 22, 3) := by decide +kernel
theorem d28_52 : decode prog_8_method_1_code 52 = .ok (.dup, 1) := by decide +kernel
theorem d28_53 : decode prog_8_method_1_code 53 = .ok (.invokespecial 31, 3) := by decide +kernel
theorem d28_56 : decode prog_8_method_1_code 56 = .ok (.aastore, 1) := by decide +kernel
theorem d28_57 : decode prog_8_method_1_code 57 = .ok (.iinc 1 1, 3) := by decide +kernel
theorem d28_60 : decode prog_8_method_1_code 60 = .ok (.goto (-22), 3) := by decide +kernel
theorem d28_63 : decode prog_8_method_1_code 63 = .ok (.return_, 1) := by decide +kernel
theorem d29_0 : decode prog_8_method_2_code 0 = .ok (.aload_n 0, 1) := by decide +kernel
theorem d29_1 : decode prog_8_method_2_code 1 = .ok (.getfield 15, 3) := by decide +kernel
theorem d29_4 : decode prog_8_method_2_code 4 = .ok (.bipush 60, 2) := by decide +kernel
theorem d29_6 : decode prog_8_method_2_code 6 = .ok (.if_icmp .lt 7, 3) := by decide +kernel
theorem d29_9 : decode prog_8_method_2_code 9 = .ok (.iconst 1, 1) := by decide +kernel
theorem d29_10 : decode prog_8_method_2_code 10 = .ok (.goto 4, 3) := by decide +kernel
theorem d29_13 : decode prog_8_method_2_code 13 = .ok (.iconst 0, 1) := by decide +kernel
theorem d29_14 : decode prog_8_method_2_code 14 = .ok (.ireturn, 1) := by decide +kernel
theorem d30_0 : decode prog_8_method_3_code 0 = .ok (.aload_n 0, 1) := by decide +kernel
theorem d30_1 : decode prog_8_method_3_code 1 = .ok (.getfield 15, 3) := by decide +kernel
theorem d30_4 : decode prog_8_method_3_code 4 = .ok (.bipush 60, 2) := by decide +kernel
theorem d30_6 : decode prog_8_method_3_code 6 = .ok (.if_icmp .ge 23, 3) := by decide +kernel
theorem d30_9 : decode prog_8_method_3_code 9 = .ok (.aload_n 0, 1) := by decide +kernel
theorem d30_10 : decode prog_8_method_3_code 10 = .ok (.getfield 9, 3) := by decide +kernel
theorem d30_13 : decode prog_8_method_3_code 13 = .ok (.aload_n 0, 1) := by decide +kernel
theorem d30_14 : decode prog_8_method_3_code 14 = .ok (.getfield 15, 3) := by decide +kernel
theorem d30_17 : decode prog_8_method_3_code 17 = .ok (.iload_n 1, 1) := by decide +kernel
theorem d30_18 : decode prog_8_method_3_code 18 = .ok (.castore, 1) := by decide +kernel
theorem d30_19 : decode prog_8_method_3_code 19 = .ok (.aload_n 0, 1) := by decide +kernel
theorem d30_20 : decode prog_8_method_3_code 20 = .ok (.dup, 1) := by decide +kernel
theorem d30_21 : decode prog_8_method_3_code 21 = .ok (.getfield 15, 3) := by decide +kernel
theorem d30_24 : decode prog_8_method_3_code 24 = .ok (.iconst 1, 1) := by decide +kernel
theorem d30_25 : decode prog_8_method_3_code 25 = .ok (.iadd, 1) := by decide +kernel
theorem d30_26 : decode prog_8_method_3_code 26 = .ok (.putfield 15, 3) := by decide +kernel
theorem d30_29 : decode prog_8_method_3_code 29 = .ok (.aload_n 0, 1) := by decide +kernel
theorem d30_30 : decode prog_8_method_3_code 30 = .ok (.getfield 15, 3) := by decide +kernel
theorem d30_33 : decode prog_8_method_3_code 33 = .ok (.ireturn, 1) := by decide +kernel
theorem d31_0 : decode prog_8_method_5_code 0 = .ok (.aload_n 0, 1) := by decide +kernel
theorem d31_1 : decode prog_8_method_5_code 1 = .ok (.iconst 0, 1) := by decide +kernel
theorem d31_2 : decode prog_8_method_5_code 2 = .ok (.putfield 19, 3) := by decide +kernel
theorem d31_5 : decode prog_8_method_5_code 5 = .ok (.aload_n 0, 1) := by decide +kernel
theorem d31_6 : decode prog_8_method_5_code 6 = .ok (.iconst 0, 1) := by decide +kernel
theorem d31_7 : decode prog_8_method_5_code 7 = .ok (.putfield 28, 3) := by decide +kernel
theorem d31_10 : decode prog_8_method_5_code 10 = .ok (.iconst 0, 1) := by decide +kernel
theorem d31_11 : decode prog_8_method_5_code 11 = .ok (.istore_n 1, 1) := by decide +kernel
theorem d31_12 : decode prog_8_method_5_code 12 = .ok (.iload_n 1, 1) := by decide +kernel
theorem d31_13 : decode prog_8_method_5_code 13 = .ok (.bipush 9, 2) := by decide +kernel
theorem d31_15 : decode prog_8_method_5_code 15 = .ok (.if_icmp .ge 61, 3) := by decide +kernel
theorem d31_18 : decode prog_8_method_5_code 18 = .ok (.aload_n 0, 1) := by decide +kernel
theorem d31_19 : decode prog_8_method_5_code 19 = .ok (.aload_n 0, 1) := by decide +kernel
theorem d31_20 : decode prog_8_method_5_code 20 = .ok (.getfield 24, 3) := by decide +kernel
theorem d31_23 : decode prog_8_method_5_code 23 = .ok (.iload_n 1, 1) := by decide +kernel
theorem d31_24 : decode prog_8_method_5_code 24 = .ok (.aaload, 1) := by decide +kernel
theorem d31_25 : decode prog_8_method_5_code 25 = .ok (.invokevirtual 32, 3) := by decide +kernel
theorem d31_28 : decode prog_8_method_5_code 28 = .ok (.ifCond .ne 8, 3) := by decide +kernel
theorem d31_31 : decode prog_8_method_5_code 31 = .ok (.aload_n 0, 1) := by decide +kernel
theorem d31_32 : decode prog_8_method_5_code 32 = .ok (.getfield 19, 3) := by decide +kernel
theorem d31_35 : decode prog_8_method_5_code 35 = .ok (.ireturn, 1) := by decide +kernel
theorem d31_36 : decode prog_8_method_5_code 36 = .ok (.aload_n 0, 1) := by decide +kernel
theorem d31_37 : decode prog_8_method_5_code 37 = .ok (.iload_n 1, 1) := by decide +kernel
theorem d31_38 : decode prog_8_method_5_code 38 = .ok (.iconst 1, 1) := by decide +kernel
theorem d31_39 : decode prog_8_method_5_code 39 = .ok (.iadd, 1) := by decide +kernel
theorem d31_40 : decode prog_8_method_5_code 40 = .ok (.putfield 28, 3) := by decide +kernel
theorem d31_43 : decode prog_8_method_5_code 43 = .ok (.aload_n 0, 1) := by decide +kernel
theorem d31_44 : decode prog_8_method_5_code 44 = .ok (.getfield 19, 3) := by decide +kernel
theorem d31_47 : decode prog_8_method_5_code 47 = .ok (.aload_n 0, 1) := by decide +kernel
theorem d31_48 : decode prog_8_method_5_code 48 = .ok (.getfield 15, 3) := by decide +kernel
theorem d31_51 : decode prog_8_method_5_code 51 = .ok (.if_icmp .lt 5, 3) := by decide +kernel
theorem d31_54 : decode prog_8_method_5_code 54 = .ok (.iconst (-1), 1) := by decide +kernel
theorem d31_55 : decode prog_8_method_5_code 55 = .ok (.ireturn, 1) := by decide +kernel
theorem d31_56 : decode prog_8_method_5_code 56 = .ok (.aload_n 0, 1) := by decide +kernel
theorem d31_57 : decode prog_8_method_5_code 57 = .ok (.bipush 59, 2) := by decide +kernel
theorem d31_59 : decode prog_8_method_5_code 59 = .ok (.invokevirtual 36, 3) := by decide +kernel
theorem d31_62 : decode prog_8_method_5_code 62 = .ok (.ifCond .ne 8, 3) := by decide +kernel
theorem d31_65 : decode prog_8_method_5_code 65 = .ok (.aload_n 0, 1) := by decide +kernel
theorem d31_66 : decode prog_8_method_5_code 66 = .ok (.getfield 19, 3) := by decide +kernel
theorem d31_69 : decode prog_8_method_5_code 69 = .ok (.ireturn, 1) := by decide +kernel
theorem d31_70 : decode prog_8_method_5_code 70 = .ok (.iinc 1 1, 3) := by decide +kernel
theorem d31_73 : decode prog_8_method_5_code 73 = .ok (.goto (-61), 3) := by decide +kernel
theorem d31_76 : decode prog_8_method_5_code 76 = .ok (.aload_n 0, 1) := by decide +kernel
theorem d31_77 : decode prog_8_method_5_code 77 = .ok (.getfield 19, 3) := by decide +kernel
theorem d31_80 : decode prog_8_method_5_code 80 = .ok (.ireturn, 1) := by decide +kernel
theorem d32_0 : decode prog_8_method_6_code 0 = .ok (.aload_n 0, 1) := by decide +kernel
theorem d32_1 : decode prog_8_method_6_code 1 = .ok (.getfield 19, 3) := by decide +kernel
theorem d32_4 : decode prog_8_method_6_code 4 = .ok (.istore_n 2, 1) := by decide +kernel
theorem d32_5 : decode prog_8_method_6_code 5 = .ok (.aload_n 0, 1) := by decide +kernel
theorem d32_6 : decode prog_8_method_6_code 6 = .ok (.getfield 19, 3) := by decide +kernel
theorem d32_9 : decode prog_8_method_6_code 9 = .ok (.istore_n 3, 1) := by decide +kernel
theorem d32_10 : decode prog_8_method_6_code 10 = .ok (.getstatic 40, 3) := by decide +kernel
theorem d32_13 : decode prog_8_method_6_code 13 = .ok (.astore 4, 2) := by decide +kernel
theorem d32_15 : decode prog_8_method_6_code 15 = .ok (.aload 4, 2) := by decide +kernel
theorem d32_17 : decode prog_8_method_6_code 17 = .ok (.arraylength, 1) := by decide +kernel
theorem d32_18 : decode prog_8_method_6_code 18 = .ok (.istore 5, 2) := by decide +kernel
theorem d32_20 : decode prog_8_method_6_code 20 = .ok (.iconst 0, 1) := by decide +kernel
theorem d32_21 : decode prog_8_method_6_code 21 = .ok (.istore 6, 2) := by decide +kernel
theorem d32_23 : decode prog_8_method_6_code 23 = .ok (.iload 6, 2) := by decide +kernel
theorem d32_25 : decode prog_8_method_6_code 25 = .ok (.iload 5, 2) := by decide +kernel
theorem d32_27 : decode prog_8_method_6_code 27 = .ok (.if_icmp .ge 54, 3) := by decide +kernel
theorem d32_30 : decode prog_8_method_6_code 30 = .ok (.aload 4, 2) := by decide +kernel
theorem d32_32 : decode prog_8_method_6_code 32 = .ok (.iload 6, 2) := by decide +kernel
theorem d32_34 : decode prog_8_method_6_code 34 = .ok (.aaload, 1) := by decide +kernel
theorem d32_35 : decode prog_8_method_6_code 35 = .ok (.astore 7, 2) := by decide +kernel
theorem d32_37 : decode prog_8_method_6_code 37 = .ok (.aload_n 0, 1) := by decide +kernel
theorem d32_38 : decode prog_8_method_6_code 38 = .ok (.iload_n 2, 1) := by decide +kernel
theorem d32_39 : decode prog_8_method_6_code 39 = .ok (.putfield 19, 3) := by decide +kernel
theorem d32_42 : decode prog_8_method_6_code 42 = .ok (.aload_n 0, 1) := by decide +kernel
theorem d32_43 : decode prog_8_method_6_code 43 = .ok (.aload 7, 2) := by decide +kernel
theorem d32_45 : decode prog_8_method_6_code 45 = .ok (.getfield 44, 3) := by decide +kernel
theorem d32_48 : decode prog_8_method_6_code 48 = .ok (.aload_n 1, 1) := by decide +kernel
theorem d32_49 : decode prog_8_method_6_code 49 = .ok (.getfield 50, 3) := by decide +kernel
theorem d32_52 : decode prog_8_method_6_code 52 = .ok (.invokevirtual 54, 3) := by decide +kernel
theorem d32_55 : decode prog_8_method_6_code 55 = .ok (.ifCond .eq 11, 3) := by decide +kernel
theorem d32_58 : decode prog_8_method_6_code 58 = .ok (.aload_n 1, 1) := by decide +kernel
theorem d32_59 : decode prog_8_method_6_code 59 = .ok (.aload 7, 2) := by decide +kernel
theorem d32_61 : decode prog_8_method_6_code 61 = .ok (.putfield 58, 3) := by decide +kernel
theorem d32_64 : decode prog_8_method_6_code 64 = .ok (.iconst 1, 1) := by decide +kernel
theorem d32_65 : decode prog_8_method_6_code 65 = .ok (.ireturn, 1) := by decide +kernel
theorem d32_66 : decode prog_8_method_6_code 66 = .ok (.iload_n 3, 1) := by decide +kernel
theorem d32_67 : decode prog_8_method_6_code 67 = .ok (.aload_n 0, 1) := by decide +kernel
theorem d32_68 : decode prog_8_method_6_code 68 = .ok (.getfield 19, 3) := by decide +kernel
theorem d32_71 : decode prog_8_method_6_code 71 = .ok (.invokestatic 62, 3) := by decide +kernel
theorem d32_74 : decode prog_8_method_6_code 74 = .ok (.istore_n 3, 1) := by decide +kernel
theorem d32_75 : decode prog_8_method_6_code 75 = .ok (.iinc 6 1, 3) := by decide +kernel
theorem d32_78 : decode prog_8_method_6_code 78 = .ok (.goto (-55), 3) := by decide +kernel
theorem d32_81 : decode prog_8_method_6_code 81 = .ok (.aload_n 0, 1) := by decide +kernel
theorem d32_82 : decode prog_8_method_6_code 82 = .ok (.iload_n 3, 1) := by decide +kernel
theorem d32_83 : decode prog_8_method_6_code 83 = .ok (.putfield 19, 3) := by decide +kernel
theorem d32_86 : decode prog_8_method_6_code 86 = .ok (.iconst 0, 1) := by decide +kernel
theorem d32_87 : decode prog_8_method_6_code 87 = .ok (.ireturn, 1) := by decide +kernel
theorem d33_0 : decode prog_8_method_7_code 0 = .ok (.iconst 0, 1) := by decide +kernel
theorem d33_1 : decode prog_8_method_7_code 1 = .ok (.istore_n 3, 1) := by decide +kernel
theorem d33_2 : decode prog_8_method_7_code 2 = .ok (.iconst 0, 1) := by decide +kernel
theorem d33_3 : decode prog_8_method_7_code 3 = .ok (.istore 4, 2) := by decide +kernel
theorem d33_5 : decode prog_8_method_7_code 5 = .ok (.iload 4, 2) := by decide +kernel
theorem d33_7 : decode prog_8_method_7_code 7 = .ok (.aload_n 1, 1) := by decide +kernel
theorem d33_8 : decode prog_8_method_7_code 8 = .ok (.invokevirtual 68, 3) := by decide +kernel
theorem d33_11 : decode prog_8_method_7_code 11 = .ok (.if_icmp .ge 82, 3) := by decide +kernel
theorem d33_14 : decode prog_8_method_7_code 14 = .ok (.aload_n 1, 1) := by decide +kernel
theorem d33_15 : decode prog_8_method_7_code 15 = .ok (.iload 4, 2) := by decide +kernel
theorem d33_17 : decode prog_8_method_7_code 17 = .ok (.invokevirtual 73, 3) := by decide +kernel
theorem d33_20 : decode prog_8_method_7_code 20 = .ok (.istore 5, 2) := by decide +kernel
theorem d33_22 : decode prog_8_method_7_code 22 = .ok (.iload 5, 2) := by decide +kernel
theorem d33_24 : decode prog_8_method_7_code 24 = .ok (.bipush 35, 2) := by decide +kernel
theorem d33_26 : decode prog_8_method_7_code 26 = .ok (.if_icmp .eq 17, 3) := by decide +kernel
theorem d33_29 : decode prog_8_method_7_code 29 = .ok (.iload 5, 2) := by decide +kernel
theorem d33_31 : decode prog_8_method_7_code 31 = .ok (.bipush 37, 2) := by decide +kernel
theorem d33_33 : decode prog_8_method_7_code 33 = .ok (.if_icmp .eq 10, 3) := by decide +kernel
theorem d33_36 : decode prog_8_method_7_code 36 = .ok (.iload 5, 2) := by decide +kernel
theorem d33_38 : decode prog_8_method_7_code 38 = .ok (.bipush 63, 2) := by decide +kernel
theorem d33_40 : decode prog_8_method_7_code 40 = .ok (.if_icmp .ne 36, 3) := by decide +kernel
theorem d33_43 : decode prog_8_method_7_code 43 = .ok (.aload_n 0, 1) := by decide +kernel
theorem d33_44 : decode prog_8_method_7_code 44 = .ok (.iload 5, 2) := by decide +kernel
theorem d33_46 : decode prog_8_method_7_code 46 = .ok (.invokevirtual 77, 3) := by decide +kernel
theorem d33_49 : decode prog_8_method_7_code 49 = .ok (.istore 6, 2) := by decide +kernel
theorem d33_51 : decode prog_8_method_7_code 51 = .ok (.iload 6, 2) := by decide +kernel
theorem d33_53 : decode prog_8_method_7_code 53 = .ok (.iconst (-1), 1) := by decide +kernel
theorem d33_54 : decode prog_8_method_7_code 54 = .ok (.if_icmp .eq 9, 3) := by decide +kernel
theorem d33_57 : decode prog_8_method_7_code 57 = .ok (.iload_n 3, 1) := by decide +kernel
theorem d33_58 : decode prog_8_method_7_code 58 = .ok (.aload_n 2, 1) := by decide +kernel
theorem d33_59 : decode prog_8_method_7_code 59 = .ok (.arraylength, 1) := by decide +kernel
theorem d33_60 : decode prog_8_method_7_code 60 = .ok (.if_icmp .lt 5, 3) := by decide +kernel
theorem d33_63 : decode prog_8_method_7_code 63 = .ok (.iconst 0, 1) := by decide +kernel
theorem d33_64 : decode prog_8_method_7_code 64 = .ok (.ireturn, 1) := by decide +kernel
theorem d33_65 : decode prog_8_method_7_code 65 = .ok (.aload_n 2, 1) := by decide +kernel
theorem d33_66 : decode prog_8_method_7_code 66 = .ok (.iload_n 3, 1) := by decide +kernel
theorem d33_67 : decode prog_8_method_7_code 67 = .ok (.iload 6, 2) := by decide +kernel
theorem d33_69 : decode prog_8_method_7_code 69 = .ok (.iastore, 1) := by decide +kernel
theorem d33_70 : decode prog_8_method_7_code 70 = .ok (.iinc 3 1, 3) := by decide +kernel
theorem d33_73 : decode prog_8_method_7_code 73 = .ok (.goto 14, 3) := by decide +kernel
theorem d33_76 : decode prog_8_method_7_code 76 = .ok (.aload_n 0, 1) := by decide +kernel
theorem d33_77 : decode prog_8_method_7_code 77 = .ok (.iload 5, 2) := by decide +kernel
theorem d33_79 : decode prog_8_method_7_code 79 = .ok (.invokevirtual 36, 3) := by decide +kernel
theorem d33_82 : decode prog_8_method_7_code 82 = .ok (.ifCond .ne 5, 3) := by decide +kernel
theorem d33_85 : decode prog_8_method_7_code 85 = .ok (.iconst 0, 1) := by decide +kernel
theorem d33_86 : decode prog_8_method_7_code 86 = .ok (.ireturn, 1) := by decide +kernel
theorem d33_87 : decode prog_8_method_7_code 87 = .ok (.iinc 4 1, 3) := by decide +kernel
theorem d33_90 : decode prog_8_method_7_code 90 = .ok (.goto (-85), 3) := by decide +kernel
theorem d33_93 : decode prog_8_method_7_code 93 = .ok (.iconst 1, 1) := by decide +kernel
theorem d33_94 : decode prog_8_method_7_code 94 = .ok (.ireturn, 1) := by decide +kernel
theorem d34_0 : decode prog_8_method_8_code 0 = .ok (.iload_n 1, 1) := by decide +kernel
theorem d34_1 : decode prog_8_method_8_code 1 = .ok (.bipush 35, 2) := by decide +kernel
theorem d34_3 : decode prog_8_method_8_code 3 = .ok (.if_icmp .ne 8, 3) := by decide +kernel
theorem d34_6 : decode prog_8_method_8_code 6 = .ok (.aload_n 0, 1) := by decide +kernel
theorem d34_7 : decode prog_8_method_8_code 7 = .ok (.invokevirtual 81, 3) := by decide +kernel
theorem d34_10 : decode prog_8_method_8_code 10 = .ok (.ireturn, 1) := by decide +kernel
theorem d34_11 : decode prog_8_method_8_code 11 = .ok (.iload_n 1, 1) := by decide +kernel
theorem d34_12 : decode prog_8_method_8_code 12 = .ok (.bipush 37, 2) := by decide +kernel
theorem d34_14 : decode prog_8_method_8_code 14 = .ok (.if_icmp .ne 10, 3) := by decide +kernel
theorem d34_17 : decode prog_8_method_8_code 17 = .ok (.aload_n 0, 1) := by decide +kernel
theorem d34_18 : decode prog_8_method_8_code 18 = .ok (.invokevirtual 84, 3) := by decide +kernel
theorem d34_21 : decode prog_8_method_8_code 21 = .ok (.goto 7, 3) := by decide +kernel
theorem d34_24 : decode prog_8_method_8_code 24 = .ok (.aload_n 0, 1) := by decide +kernel
theorem d34_25 : decode prog_8_method_8_code 25 = .ok (.invokevirtual 87, 3) := by decide +kernel
theorem d34_28 : decode prog_8_method_8_code 28 = .ok (.ireturn, 1) := by decide +kernel
theorem d35_0 : decode prog_8_method_9_code 0 = .ok (.aload_n 0, 1) := by decide +kernel
theorem d35_1 : decode prog_8_method_9_code 1 = .ok (.invokevirtual 84, 3) := by decide +kernel
theorem d35_4 : decode prog_8_method_9_code 4 = .ok (.istore_n 1, 1) := by decide +kernel
theorem d35_5 : decode prog_8_method_9_code 5 = .ok (.iload_n 1, 1) := by decide +kernel
theorem d35_6 : decode prog_8_method_9_code 6 = .ok (.istore_n 2, 1) := by decide +kernel
theorem d35_7 : decode prog_8_method_9_code 7 = .ok (.iconst 1, 1) := by decide +kernel
theorem d35_8 : decode prog_8_method_9_code 8 = .ok (.istore_n 3, 1) := by decide +kernel
theorem d35_9 : decode prog_8_method_9_code 9 = .ok (.iload_n 3, 1) := by decide +kernel
theorem d35_10 : decode prog_8_method_9_code 10 = .ok (.iconst 3, 1) := by decide +kernel
theorem d35_11 : decode prog_8_method_9_code 11 = .ok (.if_icmp .ge 31, 3) := by decide +kernel
theorem d35_14 : decode prog_8_method_9_code 14 = .ok (.iload_n 2, 1) := by decide +kernel
theorem d35_15 : decode prog_8_method_9_code 15 = .ok (.iconst (-1), 1) := by decide +kernel
theorem d35_16 : decode prog_8_method_9_code 16 = .ok (.if_icmp .eq 26, 3) := by decide +kernel
theorem d35_19 : decode prog_8_method_9_code 19 = .ok (.aload_n 0, 1) := by decide +kernel
theorem d35_20 : decode prog_8_method_9_code 20 = .ok (.invokevirtual 84, 3) := by decide +kernel
theorem d35_23 : decode prog_8_method_9_code 23 = .ok (.istore_n 2, 1) := by decide +kernel
theorem d35_24 : decode prog_8_method_9_code 24 = .ok (.iload_n 2, 1) := by decide +kernel
theorem d35_25 : decode prog_8_method_9_code 25 = .ok (.iconst (-1), 1) := by decide +kernel
theorem d35_26 : decode prog_8_method_9_code 26 = .ok (.if_icmp .eq 10, 3) := by decide +kernel
theorem d35_29 : decode prog_8_method_9_code 29 = .ok (.bipush 10, 2) := by decide +kernel
theorem d35_31 : decode prog_8_method_9_code 31 = .ok (.iload_n 1, 1) := by decide +kernel
theorem d35_32 : decode prog_8_method_9_code 32 = .ok (.imul, 1) := by decide +kernel
theorem d35_33 : decode prog_8_method_9_code 33 = .ok (.iload_n 2, 1) := by decide +kernel
theorem d35_34 : decode prog_8_method_9_code 34 = .ok (.iadd, 1) := by decide +kernel
theorem d35_35 : decode prog_8_method_9_code 35 = .ok (.istore_n 1, 1) := by decide +kernel
theorem d35_36 : decode prog_8_method_9_code 36 = .ok (.iinc 3 1, 3) := by decide +kernel
theorem d35_39 : decode prog_8_method_9_code 39 = .ok (.goto (-30), 3) := by decide +kernel
theorem d35_42 : decode prog_8_method_9_code 42 = .ok (.iload_n 1, 1) := by decide +kernel
theorem d35_43 : decode prog_8_method_9_code 43 = .ok (.ireturn, 1) := by decide +kernel
theorem d36_0 : decode prog_8_method_10_code 0 = .ok (.aload_n 0, 1) := by decide +kernel
theorem d36_1 : decode prog_8_method_10_code 1 = .ok (.getfield 19, 3) := by decide +kernel
theorem d36_4 : decode prog_8_method_10_code 4 = .ok (.aload_n 0, 1) := by decide +kernel
theorem d36_5 : decode prog_8_method_10_code 5 = .ok (.getfield 15, 3) := by decide +kernel
theorem d36_8 : decode prog_8_method_10_code 8 = .ok (.if_icmp .ge 31, 3) := by decide +kernel
theorem d36_11 : decode prog_8_method_10_code 11 = .ok (.aload_n 0, 1) := by decide +kernel
theorem d36_12 : decode prog_8_method_10_code 12 = .ok (.getfield 9, 3) := by decide +kernel
theorem d36_15 : decode prog_8_method_10_code 15 = .ok (.aload_n 0, 1) := by decide +kernel
theorem d36_16 : decode prog_8_method_10_code 16 = .ok (.getfield 19, 3) := by decide +kernel
theorem d36_19 : decode prog_8_method_10_code 19 = .ok (.caload, 1) := by decide +kernel
theorem d36_20 : decode prog_8_method_10_code 20 = .ok (.bipush 48, 2) := by decide +kernel
theorem d36_22 : decode prog_8_method_10_code 22 = .ok (.if_icmp .lt 17, 3) := by decide +kernel
theorem d36_25 : decode prog_8_method_10_code 25 = .ok (.aload_n 0, 1) := by decide +kernel
theorem d36_26 : decode prog_8_method_10_code 26 = .ok (.getfield 9, 3) := by decide +kernel
theorem d36_29 : decode prog_8_method_10_code 29 = .ok (.aload_n 0, 1) := by decide +kernel
theorem d36_30 : decode prog_8_method_10_code 30 = .ok (.getfield 19, 3) := by decide +kernel
theorem d36_33 : decode prog_8_method_10_code 33 = .ok (.caload, 1) := by decide +kernel
theorem d36_34 : decode prog_8_method_10_code 34 = .ok (.bipush 57, 2) := by decide +kernel
theorem d36_36 : decode prog_8_method_10_code 36 = .ok (.if_icmp .le 5, 3) := by decide +kernel
theorem d36_39 : decode prog_8_method_10_code 39 = .ok (.iconst (-1), 1) := by decide +kernel
theorem d36_40 : decode prog_8_method_10_code 40 = .ok (.ireturn, 1) := by decide +kernel
theorem d36_41 : decode prog_8_method_10_code 41 = .ok (.aload_n 0, 1) := by decide +kernel
theorem d36_42 : decode prog_8_method_10_code 42 = .ok (.getfield 9, 3) := by decide +kernel
theorem d36_45 : decode prog_8_method_10_code 45 = .ok (.aload_n 0, 1) := by decide +kernel
theorem d36_46 : decode prog_8_method_10_code 46 = .ok (.getfield 19, 3) := by decide +kernel
theorem d36_49 : decode prog_8_method_10_code 49 = .ok (.caload, 1) := by decide +kernel
theorem d36_50 : decode prog_8_method_10_code 50 = .ok (.bipush 48, 2) := by decide +kernel
theorem d36_52 : decode prog_8_method_10_code 52 = .ok (.isub, 1) := by decide +kernel
theorem d36_53 : decode prog_8_method_10_code 53 = .ok (.istore_n 1, 1) := by decide +kernel
theorem d36_54 : decode prog_8_method_10_code 54 = .ok (.aload_n 0, 1) := by decide +kernel
theorem d36_55 : decode prog_8_method_10_code 55 = .ok (.dup, 1) := by decide +kernel
theorem d36_56 : decode prog_8_method_10_code 56 = .ok (.getfield 19, 3) := by decide +kernel
theorem d36_59 : decode prog_8_method_10_code 59 = .ok (.iconst 1, 1) := by decide +kernel
theorem d36_60 : decode prog_8_method_10_code 60 = .ok (.iadd, 1) := by decide +kernel
theorem d36_61 : decode prog_8_method_10_code 61 = .ok (.putfield 19, 3) := by decide +kernel
theorem d36_64 : decode prog_8_method_10_code 64 = .ok (.iload_n 1, 1) := by decide +kernel
theorem d36_65 : decode prog_8_method_10_code 65 = .ok (.ireturn, 1) := by decide +kernel
theorem d37_0 : decode prog_8_method_11_code 0 = .ok (.aload_n 0, 1) := by decide +kernel
theorem d37_1 : decode prog_8_method_11_code 1 = .ok (.getfield 19, 3) := by decide +kernel
theorem d37_4 : decode prog_8_method_11_code 4 = .ok (.aload_n 0, 1) := by decide +kernel
theorem d37_5 : decode prog_8_method_11_code 5 = .ok (.getfield 15, 3) := by decide +kernel
theorem d37_8 : decode prog_8_method_11_code 8 = .ok (.if_icmp .ge 18, 3) := by decide +kernel
theorem d37_11 : decode prog_8_method_11_code 11 = .ok (.aload_n 0, 1) := by decide +kernel
theorem d37_12 : decode prog_8_method_11_code 12 = .ok (.getfield 9, 3) := by decide +kernel
theorem d37_15 : decode prog_8_method_11_code 15 = .ok (.aload_n 0, 1) := by decide +kernel
theorem d37_16 : decode prog_8_method_11_code 16 = .ok (.getfield 19, 3) := by decide +kernel
theorem d37_19 : decode prog_8_method_11_code 19 = .ok (.caload, 1) := by decide +kernel
theorem d37_20 : decode prog_8_method_11_code 20 = .ok (.invokestatic 90, 3) := by decide +kernel
theorem d37_23 : decode prog_8_method_11_code 23 = .ok (.goto 4, 3) := by decide +kernel
theorem d37_26 : decode prog_8_method_11_code 26 = .ok (.iconst (-1), 1) := by decide +kernel
theorem d37_27 : decode prog_8_method_11_code 27 = .ok (.istore_n 1, 1) := by decide +kernel
theorem d37_28 : decode prog_8_method_11_code 28 = .ok (.iload_n 1, 1) := by decide +kernel
theorem d37_29 : decode prog_8_method_11_code 29 = .ok (.iconst (-1), 1) := by decide +kernel
theorem d37_30 : decode prog_8_method_11_code 30 = .ok (.if_icmp .eq 13, 3) := by decide +kernel
theorem d37_33 : decode prog_8_method_11_code 33 = .ok (.aload_n 0, 1) := by decide +kernel
theorem d37_34 : decode prog_8_method_11_code 34 = .ok (.dup, 1) := by decide +kernel
theorem d37_35 : decode prog_8_method_11_code 35 = .ok (.getfield 19, 3) := by decide +kernel
theorem d37_38 : decode prog_8_method_11_code 38 = .ok (.iconst 1, 1) := by decide +kernel
theorem d37_39 : decode prog_8_method_11_code 39 = .ok (.iadd, 1) := by decide +kernel
theorem d37_40 : decode prog_8_method_11_code 40 = .ok (.putfield 19, 3) := by decide +kernel
theorem d37_43 : decode prog_8_method_11_code 43 = .ok (.iload_n 1, 1) := by decide +kernel
theorem d37_44 : decode prog_8_method_11_code 44 = .ok (.ireturn, 1) := by decide +kernel
theorem d38_0 : decode prog_8_method_12_code 0 = .ok (.aload_n 0, 1) := by decide +kernel
theorem d38_1 : decode prog_8_method_12_code 1 = .ok (.getfield 19, 3) := by decide +kernel
theorem d38_4 : decode prog_8_method_12_code 4 = .ok (.aload_n 0, 1) := by decide +kernel
theorem d38_5 : decode prog_8_method_12_code 5 = .ok (.getfield 15, 3) := by decide +kernel
theorem d38_8 : decode prog_8_method_12_code 8 = .ok (.if_icmp .ge 16, 3) := by decide +kernel
theorem d38_11 : decode prog_8_method_12_code 11 = .ok (.aload_n 0, 1) := by decide +kernel
theorem d38_12 : decode prog_8_method_12_code 12 = .ok (.getfield 9, 3) := by decide +kernel
theorem d38_15 : decode prog_8_method_12_code 15 = .ok (.aload_n 0, 1) := by decide +kernel
theorem d38_16 : decode prog_8_method_12_code 16 = .ok (.getfield 19, 3) := by decide +kernel
theorem d38_19 : decode prog_8_method_12_code 19 = .ok (.caload, 1) := by decide +kernel
theorem d38_20 : decode prog_8_method_12_code 20 = .ok (.iload_n 1, 1) := by decide +kernel
theorem d38_21 : decode prog_8_method_12_code 21 = .ok (.if_icmp .eq 5, 3) := by decide +kernel
theorem d38_24 : decode prog_8_method_12_code 24 = .ok (.iconst 0, 1) := by decide +kernel
theorem d38_25 : decode prog_8_method_12_code 25 = .ok (.ireturn, 1) := by decide +kernel
theorem d38_26 : decode prog_8_method_12_code 26 = .ok (.aload_n 0, 1) := by decide +kernel
theorem d38_27 : decode prog_8_method_12_code 27 = .ok (.dup, 1) := by decide +kernel
theorem d38_28 : decode prog_8_method_12_code 28 = .ok (.getfield 19, 3) := by decide +kernel
theorem d38_31 : decode prog_8_method_12_code 31 = .ok (.iconst 1, 1) := by decide +kernel
theorem d38_32 : decode prog_8_method_12_code 32 = .ok (.iadd, 1) := by decide +kernel
theorem d38_33 : decode prog_8_method_12_code 33 = .ok (.putfield 19, 3) := by decide +kernel
theorem d38_36 : decode prog_8_method_12_code 36 = .ok (.iconst 1, 1) := by decide +kernel
theorem d38_37 : decode prog_8_method_12_code 37 = .ok (.ireturn, 1) := by decide +kernel
theorem d39_0 : decode prog_8_method_4_code 0 = .ok (.aload_n 0, 1) := by decide +kernel
theorem d39_1 : decode prog_8_method_4_code 1 = .ok (.iconst 0, 1) := by decide +kernel
theorem d39_2 : decode prog_8_method_4_code 2 = .ok (.putfield 15, 3) := by decide +kernel
theorem d39_5 : decode prog_8_method_4_code 5 = .ok (.return_, 1) := by decide +kernel
theorem d40_0 : decode prog_9_method_1_code 0 = .ok (.aload_n 0, 1) := by decide +kernel
theorem d40_1 : decode prog_9_method_1_code 1 = .ok (.invokespecial 3, 3) := by decide +kernel
theorem d40_4 : decode prog_9_method_1_code 4 = .ok (.aload_n 0, 1) := by decide +kernel
theorem d40_5 : decode prog_9_method_1_code 5 = .ok (.bipush 12, 2) := by decide +kernel
theorem d40_7 : decode prog_9_method_1_code 7 = .ok (.anewarray 9, 3) := by decide +kernel
theorem d40_10 : decode prog_9_method_1_code 10 = .ok (.putfield 11, 3) := by decide +kernel
theorem d40_13 : decode prog_9_method_1_code 13 = .ok (.aload_n 0, 1) := by decide +kernel
theorem d40_14 : decode prog_9_method_1_code 14 = .ok (.iconst 0, 1) := by decide +kernel
theorem d40_15 : decode prog_9_method_1_code 15 = .ok (.putfield 17, 3) := by decide +kernel
theorem d40_18 : decode prog_9_method_1_code 18 = .ok (.aload_n 0, 1) := by decide +kernel
theorem d40_19 : decode prog_9_method_1_code 19 = .ok (.iconst 0, 1) := by decide +kernel
theorem d40_20 : decode prog_9_method_1_code 20 = .ok (.putfield 21, 3) := by decide +kernel
theorem d40_23 : decode prog_9_method_1_code 23 = .ok (.aload_n 0, 1) := by decide +kernel
theorem d40_24 : decode prog_9_method_1_code 24 = .ok (.iconst 3, 1) := by decide +kernel
theorem d40_25 : decode prog_9_method_1_code 25 = .ok (.anewarray 24, 3) := by decide +kernel
theorem d40_28 : decode prog_9_method_1_code 28 = .ok (.putfield 26, 3) := by decide +kernel
theorem d40_31 : decode prog_9_method_1_code 31 = .ok (.aload_n 0, 1) := by decide +kernel
theorem d40_32 : decode prog_9_method_1_code 32 = .ok (.iconst 4, 1) := by decide +kernel
theorem d40_33 : decode prog_9_method_1_code 33 = .ok (.newarray .int, 2) := by decide +kernel
theorem d40_35 : decode prog_9_method_1_code 35 = .ok (.putfield 30, 3) := by decide +kernel
theorem d40_38 : decode prog_9_method_1_code 38 = .ok (.aload_n 0, 1) := by decide +kernel
theorem d40_39 : decode prog_9_method_1_code 39 = .ok (.bipush 6, 2) := by decide +kernel
theorem d40_41 : decode prog_9_method_1_code 41 = .ok (.newarray .int, 2) := by decide +kernel
theorem d40_43 : decode prog_9_method_1_code 43 = .ok (.putfield 34, 3) := by decide +kernel
theorem d40_46 : decode prog_9_method_1_code 46 = .ok (.aload_n 0, 1) := by decide +kernel
theorem d40_47 : decode prog_9_method_1_code 47 = .ok (.iconst 0, 1) := by decide +kernel
theorem d40_48 : decode prog_9_method_1_code 48 = .ok (.putfield 37, 3) := by decide +kernel
theorem d40_51 : decode prog_9_method_1_code 51 = .ok (.aload_n 0, 1) := by decide +kernel
theorem d40_52 : decode prog_9_method_1_code 52 = .ok (.lconst 0, 1) := by decide +kernel
theorem d40_53 : decode prog_9_method_1_code 53 = .ok (.putfield 40, 3) := by decide +kernel
theorem d40_56 : decode prog_9_method_1_code 56 = .ok (.aload_n 0, 1) := by decide +kernel
theorem d40_57 : decode prog_9_method_1_code 57 = .ok (.lconst 0, 1) := by decide +kernel
theorem d40_58 : decode prog_9_method_1_code 58 = .ok (.putfield 44, 3) := by decide +kernel
theorem d40_61 : decode prog_9_method_1_code 61 = .ok (.iconst 0, 1) := by decide +kernel
theorem d40_62 : decode prog_9_method_1_code 62 = .ok (.istore_n 1, 1) := by decide +kernel
theorem d40_63 : decode prog_9_method_1_code 63 = .ok (.iload_n 1, 1) := by decide +kernel
theorem d40_64 : decode prog_9_method_1_code 64 = .ok (.bipush 12, 2) := by decide +kernel
theorem d40_66 : decode prog_9_method_1_code 66 = .ok (.if_icmp .ge 22, 3) := by decide +kernel
theorem d40_69 : decode prog_9_method_1_code 69 = .ok (.aload_n 0, 1) := by decide +kernel
theorem d40_70 : decode prog_9_method_1_code 70 = .ok (.getfield 11, 3) := by decide +kernel
theorem d40_73 : decode prog_9_method_1_code 73 = .ok (.iload_n 1, 1) := by decide +kernel
theorem d40_74 : decode prog_9_method_1_code 74 = .ok (.new 9, 3) := by decide +kernel
theorem d40_77 : decode prog_9_method_1_code 77 = .ok (.dup, 1) := by decide +kernel
theorem d40_78 : decode prog_9_method_1_code 78 = .ok (.invokespecial 47, 3) := by decide +kernel
theorem d40_81 : decode prog_9_method_1_code 81 = .ok (.aastore, 1) := by decide +kernel
theorem d40_82 : decode prog_9_method_1_code 82 = .ok (.iinc 1 1, 3) := by decide +kernel
theorem d40_85 : decode prog_9_method_1_code 85 = .ok (.goto (-22), 3) := by decide +kernel
theorem d40_88 : decode prog_9_method_1_code 88 = .ok (.iconst 0, 1) := by decide +kernel
theorem d40_89 : decode prog_9_method_1_code 89 = .ok (.istore_n 1, 1) := by decide +kernel
theorem d40_90 : decode prog_9_method_1_code 90 = .ok (.iload_n 1, 1) := by decide +kernel
theorem d40_91 : decode prog_9_method_1_code 91 = .ok (.iconst 3, 1) := by decide +kernel
theorem d40_92 : decode prog_9_method_1_code 92 = .ok (.if_icmp .ge 22, 3) := by decide +kernel
theorem d40_95 : decode prog_9_method_1_code 95 = .ok (.aload_n 0, 1) := by decide +kernel
theorem d40_96 : decode prog_9_method_1_code 96 = .ok (.getfield 26, 3) := by decide +kernel
theorem d40_99 : decode prog_9_method_1_code 99 = .ok (.iload_n 1, 1) := by decide +kernel
theorem d40_100 : decode prog_9_method_1_code 100 = .ok (.new 24, 3) := by decide +kernel
theorem d40_103 : decode prog_9_method_1_code 103 = .ok (.dup, 1) := by decide +kernel
theorem d40_104 : decode prog_9_method_1_code 104 = .ok (.invokespecial 48, 3) := by decide +kernel
theorem d40_107 : decode prog_9_method_1_code 107 = .ok (.aastore, 1) := by decide +kernel
theorem d40_108 : decode prog_9_method_1_code 108 = .ok (.iinc 1 1, 3) := by decide +kernel
theorem d40_111 : decode prog_9_method_1_code 111 = .ok (.goto (-21), 3) := by decide +kernel
theorem d40_114 : decode prog_9_method_1_code 114 = .ok (.iconst 0, 1) := by decide +kernel
theorem d40_115 : decode prog_9_method_1_code 115 = .ok (.istore_n 1, 1) := by decide +kernel
theorem d40_116 : decode prog_9_method_1_code 116 = .ok (.iload_n 1, 1) := by decide +kernel
theorem d40_117 : decode prog_9_method_1_code 117 = .ok (.bipush 6, 2) := by decide +kernel
theorem d40_119 : decode prog_9_method_1_code 119 = .ok (.if_icmp .ge 16, 3) := by decide +kernel
theorem d40_122 : decode prog_9_method_1_code 122 = .ok (.aload_n 0, 1) := by decide +kernel
theorem d40_123 : decode prog_9_method_1_code 123 = .ok (.getfield 34, 3) := by decide +kernel
theorem d40_126 : decode prog_9_method_1_code 126 = .ok (.iload_n 1, 1) := by decide +kernel
theorem d40_127 : decode prog_9_method_1_code 127 = .ok (.iconst (-1), 1) := by decide +kernel
theorem d40_128 : decode prog_9_method_1_code 128 = .ok (.iastore, 1) := by decide +kernel
theorem d40_129 : decode prog_9_method_1_code 129 = .ok (.iinc 1 1, 3) := by decide +kernel
theorem d40_132 : decode prog_9_method_1_code 132 = .ok (.goto (-16), 3) := by decide +kernel
theorem d40_135 : decode prog_9_method_1_code 135 = .ok (.return_, 1) := by decide +kernel
theorem d41_0 : decode prog_9_method_14_code 0 = .ok (.iconst 0, 1) := by decide +kernel
theorem d41_1 : decode prog_9_method_14_code 1 = .ok (.istore_n 2, 1) := by decide +kernel
theorem d41_2 : decode prog_9_method_14_code 2 = .ok (.iload_n 2, 1) := by decide +kernel
theorem d41_3 : decode prog_9_method_14_code 3 = .ok (.aload_n 0, 1) := by decide +kernel
theorem d41_4 : decode prog_9_method_14_code 4 = .ok (.getfield 17, 3) := by decide +kernel
theorem d41_7 : decode prog_9_method_14_code 7 = .ok (.if_icmp .ge 29, 3) := by decide +kernel
theorem d41_10 : decode prog_9_method_14_code 10 = .ok (.aload_n 0, 1) := by decide +kernel
theorem d41_11 : decode prog_9_method_14_code 11 = .ok (.getfield 11, 3) := by decide +kernel
theorem d41_14 : decode prog_9_method_14_code 14 = .ok (.iload_n 2, 1) := by decide +kernel
theorem d41_15 : decode prog_9_method_14_code 15 = .ok (.aaload, 1) := by decide +kernel
theorem d41_16 : decode prog_9_method_14_code 16 = .ok (.getfield 72, 3) := by decide +kernel
theorem d41_19 : decode prog_9_method_14_code 19 = .ok (.iload_n 1, 1) := by decide +kernel
theorem d41_20 : decode prog_9_method_14_code 20 = .ok (.if_icmp .ne 10, 3) := by decide +kernel
theorem d41_23 : decode prog_9_method_14_code 23 = .ok (.aload_n 0, 1) := by decide +kernel
theorem d41_24 : decode prog_9_method_14_code 24 = .ok (.getfield 11, 3) := by decide +kernel
theorem d41_27 : decode prog_9_method_14_code 27 = .ok (.iload_n 2, 1) := by decide +kernel
theorem d41_28 : decode prog_9_method_14_code 28 = .ok (.aaload, 1) := by decide +kernel
theorem d41_29 : decode prog_9_method_14_code 29 = .ok (.areturn, 1) := by decide +kernel
theorem d41_30 : decode prog_9_method_14_code 30 = .ok (.iinc 2 1, 3) := by decide +kernel
theorem d41_33 : decode prog_9_method_14_code 33 = .ok (.goto (-31), 3) := by decide +kernel
theorem d41_36 : decode prog_9_method_14_code 36 = .ok (.aconst_null, 1) := by decide +kernel
theorem d41_37 : decode prog_9_method_14_code 37 = .ok (.areturn, 1) := by decide +kernel
theorem d42_0 : decode prog_9_method_18_code 0 = .ok (.iconst 0, 1) := by decide +kernel
theorem d42_1 : decode prog_9_method_18_code 1 = .ok (.istore_n 2, 1) := by decide +kernel
theorem d42_2 : decode prog_9_method_18_code 2 = .ok (.iconst 0, 1) := by decide +kernel
theorem d42_3 : decode prog_9_method_18_code 3 = .ok (.istore_n 3, 1) := by decide +kernel
theorem d42_4 : decode prog_9_method_18_code 4 = .ok (.iload_n 3, 1) := by decide +kernel
theorem d42_5 : decode prog_9_method_18_code 5 = .ok (.aload_n 0, 1) := by decide +kernel
theorem d42_6 : decode prog_9_method_18_code 6 = .ok (.getfield 17, 3) := by decide +kernel
theorem d42_9 : decode prog_9_method_18_code 9 = .ok (.if_icmp .ge 25, 3) := by decide +kernel
theorem d42_12 : decode prog_9_method_18_code 12 = .ok (.aload_n 0, 1) := by decide +kernel
theorem d42_13 : decode prog_9_method_18_code 13 = .ok (.getfield 11, 3) := by decide +kernel
theorem d42_16 : decode prog_9_method_18_code 16 = .ok (.iload_n 3, 1) := by decide +kernel
theorem d42_17 : decode prog_9_method_18_code 17 = .ok (.aaload, 1) := by decide +kernel
theorem d42_18 : decode prog_9_method_18_code 18 = .ok (.getfield 93, 3) := by decide +kernel
theorem d42_21 : decode prog_9_method_18_code 21 = .ok (.iload_n 1, 1) := by decide +kernel
theorem d42_22 : decode prog_9_method_18_code 22 = .ok (.if_icmp .ne 6, 3) := by decide +kernel
theorem d42_25 : decode prog_9_method_18_code 25 = .ok (.iinc 2 1, 3) := by decide +kernel
theorem d42_28 : decode prog_9_method_18_code 28 = .ok (.iinc 3 1, 3) := by decide +kernel
theorem d42_31 : decode prog_9_method_18_code 31 = .ok (.goto (-27), 3) := by decide +kernel
theorem d42_34 : decode prog_9_method_18_code 34 = .ok (.iload_n 2, 1) := by decide +kernel
theorem d42_35 : decode prog_9_method_18_code 35 = .ok (.ireturn, 1) := by decide +kernel
theorem d43_0 : decode prog_9_method_2_code 0 = .ok (.iconst 0, 1) := by decide +kernel
theorem d43_1 : decode prog_9_method_2_code 1 = .ok (.istore_n 2, 1) := by decide +kernel
theorem d43_2 : decode prog_9_method_2_code 2 = .ok (.iload_n 2, 1) := by decide +kernel
theorem d43_3 : decode prog_9_method_2_code 3 = .ok (.bipush 12, 2) := by decide +kernel
theorem d43_5 : decode prog_9_method_2_code 5 = .ok (.if_icmp .ge 24, 3) := by decide +kernel
theorem d43_8 : decode prog_9_method_2_code 8 = .ok (.aload_n 0, 1) := by decide +kernel
theorem d43_9 : decode prog_9_method_2_code 9 = .ok (.getfield 11, 3) := by decide +kernel
theorem d43_12 : decode prog_9_method_2_code 12 = .ok (.iload_n 2, 1) := by decide +kernel
theorem d43_13 : decode prog_9_method_2_code 13 = .ok (.aaload, 1) := by decide +kernel
theorem d43_14 : decode prog_9_method_2_code 14 = .ok (.aload_n 1, 1) := by decide +kernel
theorem d43_15 : decode prog_9_method_2_code 15 = .ok (.getfield 11, 3) := by decide +kernel
theorem d43_18 : decode prog_9_method_2_code 18 = .ok (.iload_n 2, 1) := by decide +kernel
theorem d43_19 : decode prog_9_method_2_code 19 = .ok (.aaload, 1) := by decide +kernel
theorem d43_20 : decode prog_9_method_2_code 20 = .ok (.invokevirtual 49, 3) := by decide +kernel
theorem d43_23 : decode prog_9_method_2_code 23 = .ok (.iinc 2 1, 3) := by decide +kernel
theorem d43_26 : decode prog_9_method_2_code 26 = .ok (.goto (-24), 3) := by decide +kernel
theorem d43_29 : decode prog_9_method_2_code 29 = .ok (.aload_n 0, 1) := by decide +kernel
theorem d43_30 : decode prog_9_method_2_code 30 = .ok (.aload_n 1, 1) := by decide +kernel
theorem d43_31 : decode prog_9_method_2_code 31 = .ok (.getfield 17, 3) := by decide +kernel
theorem d43_34 : decode prog_9_method_2_code 34 = .ok (.putfield 17, 3) := by decide +kernel
theorem d43_37 : decode prog_9_method_2_code 37 = .ok (.aload_n 0, 1) := by decide +kernel
theorem d43_38 : decode prog_9_method_2_code 38 = .ok (.aload_n 1, 1) := by decide +kernel
theorem d43_39 : decode prog_9_method_2_code 39 = .ok (.getfield 21, 3) := by decide +kernel
theorem d43_42 : decode prog_9_method_2_code 42 = .ok (.putfield 21, 3) := by decide +kernel
theorem d43_45 : decode prog_9_method_2_code 45 = .ok (.iconst 0, 1) := by decide +kernel
theorem d43_46 : decode prog_9_method_2_code 46 = .ok (.istore_n 2, 1) := by decide +kernel
theorem d43_47 : decode prog_9_method_2_code 47 = .ok (.iload_n 2, 1) := by decide +kernel
theorem d43_48 : decode prog_9_method_2_code 48 = .ok (.iconst 3, 1) := by decide +kernel
theorem d43_49 : decode prog_9_method_2_code 49 = .ok (.if_icmp .ge 24, 3) := by decide +kernel
theorem d43_52 : decode prog_9_method_2_code 52 = .ok (.aload_n 0, 1) := by decide +kernel
theorem d43_53 : decode prog_9_method_2_code 53 = .ok (.getfield 26, 3) := by decide +kernel
theorem d43_56 : decode prog_9_method_2_code 56 = .ok (.iload_n 2, 1) := by decide +kernel
theorem d43_57 : decode prog_9_method_2_code 57 = .ok (.aaload, 1) := by decide +kernel
theorem d43_58 : decode prog_9_method_2_code 58 = .ok (.aload_n 1, 1) := by decide +kernel
theorem d43_59 : decode prog_9_method_2_code 59 = .ok (.getfield 26, 3) := by decide +kernel
theorem d43_62 : decode prog_9_method_2_code 62 = .ok (.iload_n 2, 1) := by decide +kernel
theorem d43_63 : decode prog_9_method_2_code 63 = .ok (.aaload, 1) := by decide +kernel
theorem d43_64 : decode prog_9_method_2_code 64 = .ok (.invokevirtual 53, 3) := by decide +kernel
theorem d43_67 : decode prog_9_method_2_code 67 = .ok (.iinc 2 1, 3) := by decide +kernel
theorem d43_70 : decode prog_9_method_2_code 70 = .ok (.goto (-23), 3) := by decide +kernel
theorem d43_73 : decode prog_9_method_2_code 73 = .ok (.aload_n 1, 1) := by decide +kernel
theorem d43_74 : decode prog_9_method_2_code 74 = .ok (.getfield 30, 3) := by decide +kernel
theorem d43_77 : decode prog_9_method_2_code 77 = .ok (.iconst 0, 1) := by decide +kernel
theorem d43_78 : decode prog_9_method_2_code 78 = .ok (.aload_n 0, 1) := by decide +kernel
theorem d43_79 : decode prog_9_method_2_code 79 = .ok (.getfield 30, 3) := by decide +kernel
theorem d43_82 : decode prog_9_method_2_code 82 = .ok (.iconst 0, 1) := by decide +kernel
theorem d43_83 : decode prog_9_method_2_code 83 = .ok (.iconst 4, 1) := by decide +kernel
theorem d43_84 : decode prog_9_method_2_code 84 = .ok (.invokestatic 56, 3) := by decide +kernel
theorem d43_87 : decode prog_9_method_2_code 87 = .ok (.aload_n 1, 1) := by decide +kernel
theorem d43_88 : decode prog_9_method_2_code 88 = .ok (.getfield 34, 3) := by decide +kernel
theorem d43_91 : decode prog_9_method_2_code 91 = .ok (.iconst 0, 1) := by decide +kernel
theorem d43_92 : decode prog_9_method_2_code 92 = .ok (.aload_n 0, 1) := by decide +kernel
theorem d43_93 : decode prog_9_method_2_code 93 = .ok (.getfield 34, 3) := by decide +kernel
theorem d43_96 : decode prog_9_method_2_code 96 = .ok (.iconst 0, 1) := by decide +kernel
theorem d43_97 : decode prog_9_method_2_code 97 = .ok (.bipush 6, 2) := by decide +kernel
theorem d43_99 : decode prog_9_method_2_code 99 = .ok (.invokestatic 56, 3) := by decide +kernel
theorem d43_102 : decode prog_9_method_2_code 102 = .ok (.aload_n 0, 1) := by decide +kernel
theorem d43_103 : decode prog_9_method_2_code 103 = .ok (.aload_n 1, 1) := by decide +kernel
theorem d43_104 : decode prog_9_method_2_code 104 = .ok (.getfield 37, 3) := by decide +kernel
theorem d43_107 : decode prog_9_method_2_code 107 = .ok (.putfield 37, 3) := by decide +kernel
theorem d43_110 : decode prog_9_method_2_code 110 = .ok (.aload_n 0, 1) := by decide +kernel
theorem d43_111 : decode prog_9_method_2_code 111 = .ok (.aload_n 1, 1) := by decide +kernel
theorem d43_112 : decode prog_9_method_2_code 112 = .ok (.getfield 40, 3) := by decide +kernel
theorem d43_115 : decode prog_9_method_2_code 115 = .ok (.putfield 40, 3) := by decide +kernel
theorem d43_118 : decode prog_9_method_2_code 118 = .ok (.aload_n 0, 1) := by decide +kernel
theorem d43_119 : decode prog_9_method_2_code 119 = .ok (.aload_n 1, 1) := by decide +kernel
theorem d43_120 : decode prog_9_method_2_code 120 = .ok (.getfield 44, 3) := by decide +kernel
theorem d43_123 : decode prog_9_method_2_code 123 = .ok (.putfield 44, 3) := by decide +kernel
theorem d43_126 : decode prog_9_method_2_code 126 = .ok (.return_, 1) := by decide +kernel
theorem d44_0 : decode prog_9_method_3_code 0 = .ok (.iload_n 1, 1) := by decide +kernel
theorem d44_1 : decode prog_9_method_3_code 1 = .ok (.invokestatic 62, 3) := by decide +kernel
theorem d44_4 : decode prog_9_method_3_code 4 = .ok (.ifCond .eq 51, 3) := by decide +kernel
theorem d44_7 : decode prog_9_method_3_code 7 = .ok (.iload_n 2, 1) := by decide +kernel
theorem d44_8 : decode prog_9_method_3_code 8 = .ok (.invokestatic 62, 3) := by decide +kernel
theorem d44_11 : decode prog_9_method_3_code 11 = .ok (.ifCond .eq 44, 3) := by decide +kernel
theorem d44_14 : decode prog_9_method_3_code 14 = .ok (.iload_n 3, 1) := by decide +kernel
theorem d44_15 : decode prog_9_method_3_code 15 = .ok (.invokestatic 66, 3) := by decide +kernel
theorem d44_18 : decode prog_9_method_3_code 18 = .ok (.ifCond .eq 37, 3) := by decide +kernel
theorem d44_21 : decode prog_9_method_3_code 21 = .ok (.iload 4, 2) := by decide +kernel
theorem d44_23 : decode prog_9_method_3_code 23 = .ok (.invokestatic 69, 3) := by decide +kernel
theorem d44_26 : decode prog_9_method_3_code 26 = .ok (.ifCond .eq 29, 3) := by decide +kernel
theorem d44_29 : decode prog_9_method_3_code 29 = .ok (.iload 5, 2) := by decide +kernel
theorem d44_31 : decode prog_9_method_3_code 31 = .ok (.iconst 1, 1) := by decide +kernel
theorem d44_32 : decode prog_9_method_3_code 32 = .ok (.if_icmp .lt 23, 3) := by decide +kernel
theorem d44_35 : decode prog_9_method_3_code 35 = .ok (.iload 5, 2) := by decide +kernel
theorem d44_37 : decode prog_9_method_3_code 37 = .ok (.iconst 4, 1) := by decide +kernel
theorem d44_38 : decode prog_9_method_3_code 38 = .ok (.if_icmp .gt 17, 3) := by decide +kernel
theorem d44_41 : decode prog_9_method_3_code 41 = .ok (.iload 6, 2) := by decide +kernel
theorem d44_43 : decode prog_9_method_3_code 43 = .ok (.iconst 1, 1) := by decide +kernel
theorem d44_44 : decode prog_9_method_3_code 44 = .ok (.if_icmp .lt 11, 3) := by decide +kernel
theorem d44_47 : decode prog_9_method_3_code 47 = .ok (.iload 6, 2) := by decide +kernel
theorem d44_49 : decode prog_9_method_3_code 49 = .ok (.sipush 199, 3) := by decide +kernel
theorem d44_52 : decode prog_9_method_3_code 52 = .ok (.if_icmp .le 5, 3) := by decide +kernel
theorem d44_55 : decode prog_9_method_3_code 55 = .ok (.iconst (-1), 1) := by decide +kernel
theorem d44_56 : decode prog_9_method_3_code 56 = .ok (.ireturn, 1) := by decide +kernel
theorem d44_57 : decode prog_9_method_3_code 57 = .ok (.aload_n 0, 1) := by decide +kernel
theorem d44_58 : decode prog_9_method_3_code 58 = .ok (.getfield 17, 3) := by decide +kernel
theorem d44_61 : decode prog_9_method_3_code 61 = .ok (.bipush 12, 2) := by decide +kernel
theorem d44_63 : decode prog_9_method_3_code 63 = .ok (.if_icmp .lt 6, 3) := by decide +kernel
theorem d44_66 : decode prog_9_method_3_code 66 = .ok (.bipush (-2), 2) := by decide +kernel
theorem d44_68 : decode prog_9_method_3_code 68 = .ok (.ireturn, 1) := by decide +kernel
theorem d44_69 : decode prog_9_method_3_code 69 = .ok (.aload_n 0, 1) := by decide +kernel
theorem d44_70 : decode prog_9_method_3_code 70 = .ok (.getfield 11, 3) := by decide +kernel
theorem d44_73 : decode prog_9_method_3_code 73 = .ok (.aload_n 0, 1) := by decide +kernel
theorem d44_74 : decode prog_9_method_3_code 74 = .ok (.getfield 17, 3) := by decide +kernel
theorem d44_77 : decode prog_9_method_3_code 77 = .ok (.aaload, 1) := by decide +kernel
theorem d44_78 : decode prog_9_method_3_code 78 = .ok (.astore 7, 2) := by decide +kernel
theorem d44_80 : decode prog_9_method_3_code 80 = .ok (.aload 7, 2) := by decide +kernel
theorem d44_82 : decode prog_9_method_3_code 82 = .ok (.aload_n 0, 1) := by decide +kernel
theorem d44_83 : decode prog_9_method_3_code 83 = .ok (.getfield 21, 3) := by decide +kernel
theorem d44_86 : decode prog_9_method_3_code 86 = .ok (.putfield 72, 3) := by decide +kernel
theorem d44_89 : decode prog_9_method_3_code 89 = .ok (.aload 7, 2) := by decide +kernel
theorem d44_91 : decode prog_9_method_3_code 91 = .ok (.iload_n 1, 1) := by decide +kernel
theorem d44_92 : decode prog_9_method_3_code 92 = .ok (.putfield 75, 3) := by decide +kernel
theorem d44_95 : decode prog_9_method_3_code 95 = .ok (.aload 7, 2) := by decide +kernel
theorem d44_97 : decode prog_9_method_3_code 97 = .ok (.iload_n 2, 1) := by decide +kernel
theorem d44_98 : decode prog_9_method_3_code 98 = .ok (.putfield 78, 3) := by decide +kernel
theorem d44_101 : decode prog_9_method_3_code 101 = .ok (.aload 7, 2) := by decide +kernel
theorem d44_103 : decode prog_9_method_3_code 103 = .ok (.iload_n 3, 1) := by decide +kernel
theorem d44_104 : decode prog_9_method_3_code 104 = .ok (.putfield 81, 3) := by decide +kernel
theorem d44_107 : decode prog_9_method_3_code 107 = .ok (.aload 7, 2) := by decide +kernel
theorem d44_109 : decode prog_9_method_3_code 109 = .ok (.iload 4, 2) := by decide +kernel
theorem d44_111 : decode prog_9_method_3_code 111 = .ok (.putfield 84, 3) := by decide +kernel
theorem d44_114 : decode prog_9_method_3_code 114 = .ok (.aload 7, 2) := by decide +kernel
theorem d44_116 : decode prog_9_method_3_code 116 = .ok (.iload 5, 2) := by decide +kernel
theorem d44_118 : decode prog_9_method_3_code 118 = .ok (.putfield 87, 3) := by decide +kernel
theorem d44_121 : decode prog_9_method_3_code 121 = .ok (.aload 7, 2) := by decide +kernel
theorem d44_123 : decode prog_9_method_3_code 123 = .ok (.iload 6, 2) := by decide +kernel
theorem d44_125 : decode prog_9_method_3_code 125 = .ok (.putfield 90, 3) := by decide +kernel
theorem d44_128 : decode prog_9_method_3_code 128 = .ok (.aload 7, 2) := by decide +kernel
theorem d44_130 : decode prog_9_method_3_code 130 = .ok (.iconst (-1), 1) := by decide +kernel
theorem d44_131 : decode prog_9_method_3_code 131 = .ok (.putfield 93, 3) := by decide +kernel
theorem d44_134 : decode prog_9_method_3_code 134 = .ok (.aload_n 0, 1) := by decide +kernel
theorem d44_135 : decode prog_9_method_3_code 135 = .ok (.dup, 1) := by decide +kernel
theorem d44_136 : decode prog_9_method_3_code 136 = .ok (.getfield 17, 3) := by decide +kernel
theorem d44_139 : decode prog_9_method_3_code 139 = .ok (.iconst 1, 1) := by decide +kernel
theorem d44_140 : decode prog_9_method_3_code 140 = .ok (.iadd, 1) := by decide +kernel
theorem d44_141 : decode prog_9_method_3_code 141 = .ok (.putfield 17, 3) := by decide +kernel
theorem d44_144 : decode prog_9_method_3_code 144 = .ok (.aload_n 0, 1) := by decide +kernel
theorem d44_145 : decode prog_9_method_3_code 145 = .ok (.dup, 1) := by decide +kernel
theorem d44_146 : decode prog_9_method_3_code 146 = .ok (.getfield 21, 3) := by decide +kernel
theorem d44_149 : decode prog_9_method_3_code 149 = .ok (.iconst 1, 1) := by decide +kernel
theorem d44_150 : decode prog_9_method_3_code 150 = .ok (.iadd, 1) := by decide +kernel
theorem d44_151 : decode prog_9_method_3_code 151 = .ok (.putfield 21, 3) := by decide +kernel
theorem d44_154 : decode prog_9_method_3_code 154 = .ok (.aload 7, 2) := by decide +kernel
theorem d44_156 : decode prog_9_method_3_code 156 = .ok (.getfield 72, 3) := by decide +kernel
theorem d44_159 : decode prog_9_method_3_code 159 = .ok (.ireturn, 1) := by decide +kernel
theorem d45_0 : decode prog_9_method_4_code 0 = .ok (.aload_n 0, 1) := by decide +kernel
theorem d45_1 : decode prog_9_method_4_code 1 = .ok (.iload_n 1, 1) := by decide +kernel
theorem d45_2 : decode prog_9_method_4_code 2 = .ok (.invokevirtual 96, 3) := by decide +kernel
theorem d45_5 : decode prog_9_method_4_code 5 = .ok (.astore_n 2, 1) := by decide +kernel
theorem d45_6 : decode prog_9_method_4_code 6 = .ok (.aload_n 2, 1) := by decide +kernel
theorem d45_7 : decode prog_9_method_4_code 7 = .ok (.ifnonnull 6, 3) := by decide +kernel
theorem d45_10 : decode prog_9_method_4_code 10 = .ok (.bipush (-4), 2) := by decide +kernel
theorem d45_12 : decode prog_9_method_4_code 12 = .ok (.ireturn, 1) := by decide +kernel
theorem d45_13 : decode prog_9_method_4_code 13 = .ok (.aload_n 0, 1) := by decide +kernel
theorem d45_14 : decode prog_9_method_4_code 14 = .ok (.aload_n 2, 1) := by decide +kernel
theorem d45_15 : decode prog_9_method_4_code 15 = .ok (.invokevirtual 100, 3) := by decide +kernel
theorem d45_18 : decode prog_9_method_4_code 18 = .ok (.aload_n 0, 1) := by decide +kernel
theorem d45_19 : decode prog_9_method_4_code 19 = .ok (.getfield 17, 3) := by decide +kernel
theorem d45_22 : decode prog_9_method_4_code 22 = .ok (.ireturn, 1) := by decide +kernel
theorem d46_0 : decode prog_9_method_15_code 0 = .ok (.iconst 0, 1) := by decide +kernel
theorem d46_1 : decode prog_9_method_15_code 1 = .ok (.istore_n 2, 1) := by decide +kernel
theorem d46_2 : decode prog_9_method_15_code 2 = .ok (.iconst 0, 1) := by decide +kernel
theorem d46_3 : decode prog_9_method_15_code 3 = .ok (.istore_n 3, 1) := by decide +kernel
theorem d46_4 : decode prog_9_method_15_code 4 = .ok (.iload_n 3, 1) := by decide +kernel
theorem d46_5 : decode prog_9_method_15_code 5 = .ok (.aload_n 0, 1) := by decide +kernel
theorem d46_6 : decode prog_9_method_15_code 6 = .ok (.getfield 17, 3) := by decide +kernel
theorem d46_9 : decode prog_9_method_15_code 9 = .ok (.if_icmp .ge 34, 3) := by decide +kernel
theorem d46_12 : decode prog_9_method_15_code 12 = .ok (.aload_n 0, 1) := by decide +kernel
theorem d46_13 : decode prog_9_method_15_code 13 = .ok (.getfield 11, 3) := by decide +kernel
theorem d46_16 : decode prog_9_method_15_code 16 = .ok (.iload_n 3, 1) := by decide +kernel
theorem d46_17 : decode prog_9_method_15_code 17 = .ok (.aaload, 1) := by decide +kernel
theorem d46_18 : decode prog_9_method_15_code 18 = .ok (.aload_n 1, 1) := by decide +kernel
theorem d46_19 : decode prog_9_method_15_code 19 = .ok (.if_acmp .eq 18, 3) := by decide +kernel
theorem d46_22 : decode prog_9_method_15_code 22 = .ok (.aload_n 0, 1) := by decide +kernel
theorem d46_23 : decode prog_9_method_15_code 23 = .ok (.getfield 11, 3) := by decide +kernel
theorem d46_26 : decode prog_9_method_15_code 26 = .ok (.iload_n 2, 1) := by decide +kernel
theorem d46_27 : decode prog_9_method_15_code 27 = .ok (.aload_n 0, 1) := by decide +kernel
theorem d46_28 : decode prog_9_method_15_code 28 = .ok (.getfield 11, 3) := by decide +kernel
theorem d46_31 : decode prog_9_method_15_code 31 = .ok (.iload_n 3, 1) := by decide +kernel
theorem d46_32 : decode prog_9_method_15_code 32 = .ok (.aaload, 1) := by decide +kernel
theorem d46_33 : decode prog_9_method_15_code 33 = .ok (.aastore, 1) := by decide +kernel
theorem d46_34 : decode prog_9_method_15_code 34 = .ok (.iinc 2 1, 3) := by decide +kernel
theorem d46_37 : decode prog_9_method_15_code 37 = .ok (.iinc 3 1, 3) := by decide +kernel
theorem d46_40 : decode prog_9_method_15_code 40 = .ok (.goto (-36), 3) := by decide +kernel
theorem d46_43 : decode prog_9_method_15_code 43 = .ok (.iload_n 2, 1) := by decide +kernel
theorem d46_44 : decode prog_9_method_15_code 44 = .ok (.aload_n 0, 1) := by decide +kernel
theorem d46_45 : decode prog_9_method_15_code 45 = .ok (.getfield 17, 3) := by decide +kernel
theorem d46_48 : decode prog_9_method_15_code 48 = .ok (.if_icmp .ge 15, 3) := by decide +kernel
theorem d46_51 : decode prog_9_method_15_code 51 = .ok (.aload_n 0, 1) := by decide +kernel
theorem d46_52 : decode prog_9_method_15_code 52 = .ok (.getfield 11, 3) := by decide +kernel
theorem d46_55 : decode prog_9_method_15_code 55 = .ok (.iload_n 2, 1) := by decide +kernel
theorem d46_56 : decode prog_9_method_15_code 56 = .ok (.aload_n 1, 1) := by decide +kernel
theorem d46_57 : decode prog_9_method_15_code 57 = .ok (.aastore, 1) := by decide +kernel
theorem d46_58 : decode prog_9_method_15_code 58 = .ok (.aload_n 0, 1) := by decide +kernel
theorem d46_59 : decode prog_9_method_15_code 59 = .ok (.iload_n 2, 1) := by decide +kernel
theorem d46_60 : decode prog_9_method_15_code 60 = .ok (.putfield 17, 3) := by decide +kernel
theorem d46_63 : decode prog_9_method_15_code 63 = .ok (.return_, 1) := by decide +kernel
theorem d47_0 : decode prog_9_method_5_code 0 = .ok (.aload_n 0, 1) := by decide +kernel
theorem d47_1 : decode prog_9_method_5_code 1 = .ok (.iload_n 1, 1) := by decide +kernel
theorem d47_2 : decode prog_9_method_5_code 2 = .ok (.invokevirtual 96, 3) := by decide +kernel
theorem d47_5 : decode prog_9_method_5_code 5 = .ok (.astore_n 3, 1) := by decide +kernel
theorem d47_6 : decode prog_9_method_5_code 6 = .ok (.aload_n 3, 1) := by decide +kernel
theorem d47_7 : decode prog_9_method_5_code 7 = .ok (.ifnonnull 6, 3) := by decide +kernel
theorem d47_10 : decode prog_9_method_5_code 10 = .ok (.bipush (-4), 2) := by decide +kernel
theorem d47_12 : decode prog_9_method_5_code 12 = .ok (.ireturn, 1) := by decide +kernel
theorem d47_13 : decode prog_9_method_5_code 13 = .ok (.iload_n 2, 1) := by decide +kernel
theorem d47_14 : decode prog_9_method_5_code 14 = .ok (.invokestatic 103, 3) := by decide +kernel
theorem d47_17 : decode prog_9_method_5_code 17 = .ok (.ifCond .ne 6, 3) := by decide +kernel
theorem d47_20 : decode prog_9_method_5_code 20 = .ok (.bipush (-3), 2) := by decide +kernel
theorem d47_22 : decode prog_9_method_5_code 22 = .ok (.ireturn, 1) := by decide +kernel
theorem d47_23 : decode prog_9_method_5_code 23 = .ok (.aload_n 3, 1) := by decide +kernel
theorem d47_24 : decode prog_9_method_5_code 24 = .ok (.getfield 93, 3) := by decide +kernel
theorem d47_27 : decode prog_9_method_5_code 27 = .ok (.iload_n 2, 1) := by decide +kernel
theorem d47_28 : decode prog_9_method_5_code 28 = .ok (.if_icmp .eq 13, 3) := by decide +kernel
theorem d47_31 : decode prog_9_method_5_code 31 = .ok (.aload_n 0, 1) := by decide +kernel
theorem d47_32 : decode prog_9_method_5_code 32 = .ok (.iload_n 2, 1) := by decide +kernel
theorem d47_33 : decode prog_9_method_5_code 33 = .ok (.invokevirtual 106, 3) := by decide +kernel
theorem d47_36 : decode prog_9_method_5_code 36 = .ok (.bipush 6, 2) := by decide +kernel
theorem d47_38 : decode prog_9_method_5_code 38 = .ok (.if_icmp .lt 6, 3) := by decide +kernel
theorem d47_41 : decode prog_9_method_5_code 41 = .ok (.bipush (-2), 2) := by decide +kernel
theorem d47_43 : decode prog_9_method_5_code 43 = .ok (.ireturn, 1) := by decide +kernel
theorem d47_44 : decode prog_9_method_5_code 44 = .ok (.aload_n 3, 1) := by decide +kernel
theorem d47_45 : decode prog_9_method_5_code 45 = .ok (.iload_n 2, 1) := by decide +kernel
theorem d47_46 : decode prog_9_method_5_code 46 = .ok (.putfield 93, 3) := by decide +kernel
theorem d47_49 : decode prog_9_method_5_code 49 = .ok (.aload_n 0, 1) := by decide +kernel
theorem d47_50 : decode prog_9_method_5_code 50 = .ok (.iload_n 2, 1) := by decide +kernel
theorem d47_51 : decode prog_9_method_5_code 51 = .ok (.invokevirtual 106, 3) := by decide +kernel
theorem d47_54 : decode prog_9_method_5_code 54 = .ok (.ireturn, 1) := by decide +kernel
theorem d48_0 : decode prog_9_method_6_code 0 = .ok (.aload_n 0, 1) := by decide +kernel
theorem d48_1 : decode prog_9_method_6_code 1 = .ok (.iload_n 1, 1) := by decide +kernel
theorem d48_2 : decode prog_9_method_6_code 2 = .ok (.invokevirtual 96, 3) := by decide +kernel
theorem d48_5 : decode prog_9_method_6_code 5 = .ok (.astore_n 2, 1) := by decide +kernel
theorem d48_6 : decode prog_9_method_6_code 6 = .ok (.aload_n 2, 1) := by decide +kernel
theorem d48_7 : decode prog_9_method_6_code 7 = .ok (.ifnonnull 6, 3) := by decide +kernel
theorem d48_10 : decode prog_9_method_6_code 10 = .ok (.bipush (-4), 2) := by decide +kernel
theorem d48_12 : decode prog_9_method_6_code 12 = .ok (.ireturn, 1) := by decide +kernel
theorem d48_13 : decode prog_9_method_6_code 13 = .ok (.aload_n 2, 1) := by decide +kernel
theorem d48_14 : decode prog_9_method_6_code 14 = .ok (.getfield 93, 3) := by decide +kernel
theorem d48_17 : decode prog_9_method_6_code 17 = .ok (.iconst (-1), 1) := by decide +kernel
theorem d48_18 : decode prog_9_method_6_code 18 = .ok (.if_icmp .ne 6, 3) := by decide +kernel
theorem d48_21 : decode prog_9_method_6_code 21 = .ok (.bipush (-2), 2) := by decide +kernel
theorem d48_23 : decode prog_9_method_6_code 23 = .ok (.ireturn, 1) := by decide +kernel
theorem d48_24 : decode prog_9_method_6_code 24 = .ok (.aload_n 2, 1) := by decide +kernel
theorem d48_25 : decode prog_9_method_6_code 25 = .ok (.getfield 93, 3) := by decide +kernel
theorem d48_28 : decode prog_9_method_6_code 28 = .ok (.istore_n 3, 1) := by decide +kernel
theorem d48_29 : decode prog_9_method_6_code 29 = .ok (.aload_n 2, 1) := by decide +kernel
theorem d48_30 : decode prog_9_method_6_code 30 = .ok (.iconst (-1), 1) := by decide +kernel
theorem d48_31 : decode prog_9_method_6_code 31 = .ok (.putfield 93, 3) := by decide +kernel
theorem d48_34 : decode prog_9_method_6_code 34 = .ok (.iload_n 3, 1) := by decide +kernel
theorem d48_35 : decode prog_9_method_6_code 35 = .ok (.ireturn, 1) := by decide +kernel
theorem d49_0 : decode prog_9_method_7_code 0 = .ok (.iload_n 1, 1) := by decide +kernel
theorem d49_1 : decode prog_9_method_7_code 1 = .ok (.invokestatic 66, 3) := by decide +kernel
theorem d49_4 : decode prog_9_method_7_code 4 = .ok (.ifCond .eq 14, 3) := by decide +kernel
theorem d49_7 : decode prog_9_method_7_code 7 = .ok (.iload_n 2, 1) := by decide +kernel
theorem d49_8 : decode prog_9_method_7_code 8 = .ok (.iconst 1, 1) := by decide +kernel
theorem d49_9 : decode prog_9_method_7_code 9 = .ok (.if_icmp .lt 9, 3) := by decide +kernel
theorem d49_12 : decode prog_9_method_7_code 12 = .ok (.iload_n 2, 1) := by decide +kernel
theorem d49_13 : decode prog_9_method_7_code 13 = .ok (.bipush 99, 2) := by decide +kernel
theorem d49_15 : decode prog_9_method_7_code 15 = .ok (.if_icmp .le 5, 3) := by decide +kernel
theorem d49_18 : decode prog_9_method_7_code 18 = .ok (.iconst (-1), 1) := by decide +kernel
theorem d49_19 : decode prog_9_method_7_code 19 = .ok (.ireturn, 1) := by decide +kernel
theorem d49_20 : decode prog_9_method_7_code 20 = .ok (.aload_n 0, 1) := by decide +kernel
theorem d49_21 : decode prog_9_method_7_code 21 = .ok (.getfield 30, 3) := by decide +kernel
theorem d49_24 : decode prog_9_method_7_code 24 = .ok (.iload_n 1, 1) := by decide +kernel
theorem d49_25 : decode prog_9_method_7_code 25 = .ok (.iaload, 1) := by decide +kernel
theorem d49_26 : decode prog_9_method_7_code 26 = .ok (.iload_n 2, 1) := by decide +kernel
theorem d49_27 : decode prog_9_method_7_code 27 = .ok (.iadd, 1) := by decide +kernel
theorem d49_28 : decode prog_9_method_7_code 28 = .ok (.bipush 99, 2) := by decide +kernel
theorem d49_30 : decode prog_9_method_7_code 30 = .ok (.if_icmp .le 6, 3) := by decide +kernel
theorem d49_33 : decode prog_9_method_7_code 33 = .ok (.bipush (-2), 2) := by decide +kernel
theorem d49_35 : decode prog_9_method_7_code 35 = .ok (.ireturn, 1) := by decide +kernel
theorem d49_36 : decode prog_9_method_7_code 36 = .ok (.aload_n 0, 1) := by decide +kernel
theorem d49_37 : decode prog_9_method_7_code 37 = .ok (.getfield 30, 3) := by decide +kernel
theorem d49_40 : decode prog_9_method_7_code 40 = .ok (.iload_n 1, 1) := by decide +kernel
theorem d49_41 : decode prog_9_method_7_code 41 = .ok (.dup2, 1) := by decide +kernel
theorem d49_42 : decode prog_9_method_7_code 42 = .ok (.iaload, 1) := by decide +kernel
theorem d49_43 : decode prog_9_method_7_code 43 = .ok (.iload_n 2, 1) := by decide +kernel
theorem d49_44 : decode prog_9_method_7_code 44 = .ok (.iadd, 1) := by decide +kernel
theorem d49_45 : decode prog_9_method_7_code 45 = .ok (.iastore, 1) := by decide +kernel
theorem d49_46 : decode prog_9_method_7_code 46 = .ok (.aload_n 0, 1) := by decide +kernel
theorem d49_47 : decode prog_9_method_7_code 47 = .ok (.getfield 30, 3) := by decide +kernel
theorem d49_50 : decode prog_9_method_7_code 50 = .ok (.iload_n 1, 1) := by decide +kernel
theorem d49_51 : decode prog_9_method_7_code 51 = .ok (.iaload, 1) := by decide +kernel
theorem d49_52 : decode prog_9_method_7_code 52 = .ok (.ireturn, 1) := by decide +kernel
theorem d50_0 : decode prog_9_method_8_code 0 = .ok (.iload_n 1, 1) := by decide +kernel
theorem d50_1 : decode prog_9_method_8_code 1 = .ok (.invokestatic 103, 3) := by decide +kernel
theorem d50_4 : decode prog_9_method_8_code 4 = .ok (.ifCond .ne 6, 3) := by decide +kernel
theorem d50_7 : decode prog_9_method_8_code 7 = .ok (.bipush (-3), 2) := by decide +kernel
theorem d50_9 : decode prog_9_method_8_code 9 = .ok (.ireturn, 1) := by decide +kernel
theorem d50_10 : decode prog_9_method_8_code 10 = .ok (.iload_n 2, 1) := by decide +kernel
theorem d50_11 : decode prog_9_method_8_code 11 = .ok (.invokestatic 66, 3) := by decide +kernel
theorem d50_14 : decode prog_9_method_8_code 14 = .ok (.ifCond .eq 14, 3) := by decide +kernel
theorem d50_17 : decode prog_9_method_8_code 17 = .ok (.iload_n 3, 1) := by decide +kernel
theorem d50_18 : decode prog_9_method_8_code 18 = .ok (.iconst 1, 1) := by decide +kernel
theorem d50_19 : decode prog_9_method_8_code 19 = .ok (.if_icmp .lt 9, 3) := by decide +kernel
theorem d50_22 : decode prog_9_method_8_code 22 = .ok (.iload_n 3, 1) := by decide +kernel
theorem d50_23 : decode prog_9_method_8_code 23 = .ok (.bipush 10, 2) := by decide +kernel
theorem d50_25 : decode prog_9_method_8_code 25 = .ok (.if_icmp .le 5, 3) := by decide +kernel
theorem d50_28 : decode prog_9_method_8_code 28 = .ok (.iconst (-1), 1) := by decide +kernel
theorem d50_29 : decode prog_9_method_8_code 29 = .ok (.ireturn, 1) := by decide +kernel
theorem d50_30 : decode prog_9_method_8_code 30 = .ok (.aload_n 0, 1) := by decide +kernel
theorem d50_31 : decode prog_9_method_8_code 31 = .ok (.getfield 26, 3) := by decide +kernel
theorem d50_34 : decode prog_9_method_8_code 34 = .ok (.iload_n 1, 1) := by decide +kernel
theorem d50_35 : decode prog_9_method_8_code 35 = .ok (.aaload, 1) := by decide +kernel
theorem d50_36 : decode prog_9_method_8_code 36 = .ok (.astore 4, 2) := by decide +kernel
theorem d50_38 : decode prog_9_method_8_code 38 = .ok (.aload 4, 2) := by decide +kernel
theorem d50_40 : decode prog_9_method_8_code 40 = .ok (.invokevirtual 110, 3) := by decide +kernel
theorem d50_43 : decode prog_9_method_8_code 43 = .ok (.ifCond .eq 15, 3) := by decide +kernel
theorem d50_46 : decode prog_9_method_8_code 46 = .ok (.aload 4, 2) := by decide +kernel
theorem d50_48 : decode prog_9_method_8_code 48 = .ok (.invokevirtual 114, 3) := by decide +kernel
theorem d50_51 : decode prog_9_method_8_code 51 = .ok (.iload_n 3, 1) := by decide +kernel
theorem d50_52 : decode prog_9_method_8_code 52 = .ok (.iadd, 1) := by decide +kernel
theorem d50_53 : decode prog_9_method_8_code 53 = .ok (.bipush 10, 2) := by decide +kernel
theorem d50_55 : decode prog_9_method_8_code 55 = .ok (.if_icmp .le 6, 3) := by decide +kernel
theorem d50_58 : decode prog_9_method_8_code 58 = .ok (.bipush (-2), 2) := by decide +kernel
theorem d50_60 : decode prog_9_method_8_code 60 = .ok (.ireturn, 1) := by decide +kernel
theorem d50_61 : decode prog_9_method_8_code 61 = .ok (.aload_n 0, 1) := by decide +kernel
theorem d50_62 : decode prog_9_method_8_code 62 = .ok (.getfield 30, 3) := by decide +kernel
theorem d50_65 : decode prog_9_method_8_code 65 = .ok (.iload_n 2, 1) := by decide +kernel
theorem d50_66 : decode prog_9_method_8_code 66 = .ok (.iaload, 1) := by decide +kernel
theorem d50_67 : decode prog_9_method_8_code 67 = .ok (.iload_n 3, 1) := by decide +kernel
theorem d50_68 : decode prog_9_method_8_code 68 = .ok (.if_icmp .ge 6, 3) := by decide +kernel
theorem d50_71 : decode prog_9_method_8_code 71 = .ok (.bipush (-5), 2) := by decide +kernel
theorem d50_73 : decode prog_9_method_8_code 73 = .ok (.ireturn, 1) := by decide +kernel
theorem d50_74 : decode prog_9_method_8_code 74 = .ok (.aload_n 0, 1) := by decide +kernel
theorem d50_75 : decode prog_9_method_8_code 75 = .ok (.getfield 30, 3) := by decide +kernel
theorem d50_78 : decode prog_9_method_8_code 78 = .ok (.iload_n 2, 1) := by decide +kernel
theorem d50_79 : decode prog_9_method_8_code 79 = .ok (.dup2, 1) := by decide +kernel
theorem d50_80 : decode prog_9_method_8_code 80 = .ok (.iaload, 1) := by decide +kernel
theorem d50_81 : decode prog_9_method_8_code 81 = .ok (.iload_n 3, 1) := by decide +kernel
theorem d50_82 : decode prog_9_method_8_code 82 = .ok (.isub, 1) := by decide +kernel
theorem d50_83 : decode prog_9_method_8_code 83 = .ok (.iastore, 1) := by decide +kernel
theorem d50_84 : decode prog_9_method_8_code 84 = .ok (.aload 4, 2) := by decide +kernel
theorem d50_86 : decode prog_9_method_8_code 86 = .ok (.getfield 118, 3) := by decide +kernel
theorem d50_89 : decode prog_9_method_8_code 89 = .ok (.iload_n 2, 1) := by decide +kernel
theorem d50_90 : decode prog_9_method_8_code 90 = .ok (.dup2, 1) := by decide +kernel
theorem d50_91 : decode prog_9_method_8_code 91 = .ok (.iaload, 1) := by decide +kernel
theorem d50_92 : decode prog_9_method_8_code 92 = .ok (.iload_n 3, 1) := by decide +kernel
theorem d50_93 : decode prog_9_method_8_code 93 = .ok (.iadd, 1) := by decide +kernel
theorem d50_94 : decode prog_9_method_8_code 94 = .ok (.iastore, 1) := by decide +kernel
theorem d50_95 : decode prog_9_method_8_code 95 = .ok (.aload 4, 2) := by decide +kernel
theorem d50_97 : decode prog_9_method_8_code 97 = .ok (.invokevirtual 114, 3) := by decide +kernel
theorem d50_100 : decode prog_9_method_8_code 100 = .ok (.ireturn, 1) := by decide +kernel
theorem d51_0 : decode prog_9_method_9_code 0 = .ok (.iload_n 1, 1) := by decide +kernel
theorem d51_1 : decode prog_9_method_9_code 1 = .ok (.invokestatic 103, 3) := by decide +kernel
theorem d51_4 : decode prog_9_method_9_code 4 = .ok (.ifCond .eq 10, 3) := by decide +kernel
theorem d51_7 : decode prog_9_method_9_code 7 = .ok (.iload_n 2, 1) := by decide +kernel
theorem d51_8 : decode prog_9_method_9_code 8 = .ok (.invokestatic 69, 3) := by decide +kernel
theorem d51_11 : decode prog_9_method_9_code 11 = .ok (.ifCond .ne 6, 3) := by decide +kernel
theorem d51_14 : decode prog_9_method_9_code 14 = .ok (.bipush (-3), 2) := by decide +kernel
theorem d51_16 : decode prog_9_method_9_code 16 = .ok (.ireturn, 1) := by decide +kernel
theorem d51_17 : decode prog_9_method_9_code 17 = .ok (.aload_n 0, 1) := by decide +kernel
theorem d51_18 : decode prog_9_method_9_code 18 = .ok (.getfield 26, 3) := by decide +kernel
theorem d51_21 : decode prog_9_method_9_code 21 = .ok (.iload_n 1, 1) := by decide +kernel
theorem d51_22 : decode prog_9_method_9_code 22 = .ok (.aaload, 1) := by decide +kernel
theorem d51_23 : decode prog_9_method_9_code 23 = .ok (.invokevirtual 110, 3) := by decide +kernel
theorem d51_26 : decode prog_9_method_9_code 26 = .ok (.ifCond .eq 13, 3) := by decide +kernel
theorem d51_29 : decode prog_9_method_9_code 29 = .ok (.aload_n 0, 1) := by decide +kernel
theorem d51_30 : decode prog_9_method_9_code 30 = .ok (.getfield 34, 3) := by decide +kernel
theorem d51_33 : decode prog_9_method_9_code 33 = .ok (.iload_n 2, 1) := by decide +kernel
theorem d51_34 : decode prog_9_method_9_code 34 = .ok (.iaload, 1) := by decide +kernel
theorem d51_35 : decode prog_9_method_9_code 35 = .ok (.iconst (-1), 1) := by decide +kernel
theorem d51_36 : decode prog_9_method_9_code 36 = .ok (.if_icmp .eq 6, 3) := by decide +kernel
theorem d51_39 : decode prog_9_method_9_code 39 = .ok (.bipush (-2), 2) := by decide +kernel
theorem d51_41 : decode prog_9_method_9_code 41 = .ok (.ireturn, 1) := by decide +kernel
theorem d51_42 : decode prog_9_method_9_code 42 = .ok (.aload_n 0, 1) := by decide +kernel
theorem d51_43 : decode prog_9_method_9_code 43 = .ok (.getfield 34, 3) := by decide +kernel
theorem d51_46 : decode prog_9_method_9_code 46 = .ok (.iload_n 2, 1) := by decide +kernel
theorem d51_47 : decode prog_9_method_9_code 47 = .ok (.iload_n 1, 1) := by decide +kernel
theorem d51_48 : decode prog_9_method_9_code 48 = .ok (.iastore, 1) := by decide +kernel
theorem d51_49 : decode prog_9_method_9_code 49 = .ok (.aload_n 0, 1) := by decide +kernel
theorem d51_50 : decode prog_9_method_9_code 50 = .ok (.iload_n 1, 1) := by decide +kernel
theorem d51_51 : decode prog_9_method_9_code 51 = .ok (.invokevirtual 121, 3) := by decide +kernel
theorem d51_54 : decode prog_9_method_9_code 54 = .ok (.ireturn, 1) := by decide +kernel
theorem d52_0 : decode prog_9_method_19_code 0 = .ok (.iconst 0, 1) := by decide +kernel
theorem d52_1 : decode prog_9_method_19_code 1 = .ok (.istore_n 2, 1) := by decide +kernel
theorem d52_2 : decode prog_9_method_19_code 2 = .ok (.aload_n 0, 1) := by decide +kernel
theorem d52_3 : decode prog_9_method_19_code 3 = .ok (.getfield 34, 3) := by decide +kernel
theorem d52_6 : decode prog_9_method_19_code 6 = .ok (.astore_n 3, 1) := by decide +kernel
theorem d52_7 : decode prog_9_method_19_code 7 = .ok (.aload_n 3, 1) := by decide +kernel
theorem d52_8 : decode prog_9_method_19_code 8 = .ok (.arraylength, 1) := by decide +kernel
theorem d52_9 : decode prog_9_method_19_code 9 = .ok (.istore 4, 2) := by decide +kernel
theorem d52_11 : decode prog_9_method_19_code 11 = .ok (.iconst 0, 1) := by decide +kernel
theorem d52_12 : decode prog_9_method_19_code 12 = .ok (.istore 5, 2) := by decide +kernel
theorem d52_14 : decode prog_9_method_19_code 14 = .ok (.iload 5, 2) := by decide +kernel
theorem d52_16 : decode prog_9_method_19_code 16 = .ok (.iload 4, 2) := by decide +kernel
theorem d52_18 : decode prog_9_method_19_code 18 = .ok (.if_icmp .ge 24, 3) := by decide +kernel
theorem d52_21 : decode prog_9_method_19_code 21 = .ok (.aload_n 3, 1) := by decide +kernel
theorem d52_22 : decode prog_9_method_19_code 22 = .ok (.iload 5, 2) := by decide +kernel
theorem d52_24 : decode prog_9_method_19_code 24 = .ok (.iaload, 1) := by decide +kernel
theorem d52_25 : decode prog_9_method_19_code 25 = .ok (.istore 6, 2) := by decide +kernel
theorem d52_27 : decode prog_9_method_19_code 27 = .ok (.iload 6, 2) := by decide +kernel
theorem d52_29 : decode prog_9_method_19_code 29 = .ok (.iload_n 1, 1) := by decide +kernel
theorem d52_30 : decode prog_9_method_19_code 30 = .ok (.if_icmp .ne 6, 3) := by decide +kernel
theorem d52_33 : decode prog_9_method_19_code 33 = .ok (.iinc 2 1, 3) := by decide +kernel
theorem d52_36 : decode prog_9_method_19_code 36 = .ok (.iinc 5 1, 3) := by decide +kernel
theorem d52_39 : decode prog_9_method_19_code 39 = .ok (.goto (-25), 3) := by decide +kernel
theorem d52_42 : decode prog_9_method_19_code 42 = .ok (.iload_n 2, 1) := by decide +kernel
theorem d52_43 : decode prog_9_method_19_code 43 = .ok (.ireturn, 1) := by decide +kernel
theorem d53_0 : decode prog_9_method_10_code 0 = .ok (.iload_n 1, 1) := by decide +kernel
theorem d53_1 : decode prog_9_method_10_code 1 = .ok (.invokestatic 103, 3) := by decide +kernel
theorem d53_4 : decode prog_9_method_10_code 4 = .ok (.ifCond .eq 10, 3) := by decide +kernel
theorem d53_7 : decode prog_9_method_10_code 7 = .ok (.iload_n 2, 1) := by decide +kernel
theorem d53_8 : decode prog_9_method_10_code 8 = .ok (.invokestatic 69, 3) := by decide +kernel
theorem d53_11 : decode prog_9_method_10_code 11 = .ok (.ifCond .ne 6, 3) := by decide +kernel
theorem d53_14 : decode prog_9_method_10_code 14 = .ok (.bipush (-3), 2) := by decide +kernel
theorem d53_16 : decode prog_9_method_10_code 16 = .ok (.ireturn, 1) := by decide +kernel
theorem d53_17 : decode prog_9_method_10_code 17 = .ok (.aload_n 0, 1) := by decide +kernel
theorem d53_18 : decode prog_9_method_10_code 18 = .ok (.getfield 26, 3) := by decide +kernel
theorem d53_21 : decode prog_9_method_10_code 21 = .ok (.iload_n 1, 1) := by decide +kernel
theorem d53_22 : decode prog_9_method_10_code 22 = .ok (.aaload, 1) := by decide +kernel
theorem d53_23 : decode prog_9_method_10_code 23 = .ok (.invokevirtual 110, 3) := by decide +kernel
theorem d53_26 : decode prog_9_method_10_code 26 = .ok (.ifCond .eq 13, 3) := by decide +kernel
theorem d53_29 : decode prog_9_method_10_code 29 = .ok (.aload_n 0, 1) := by decide +kernel
theorem d53_30 : decode prog_9_method_10_code 30 = .ok (.getfield 34, 3) := by decide +kernel
theorem d53_33 : decode prog_9_method_10_code 33 = .ok (.iload_n 2, 1) := by decide +kernel
theorem d53_34 : decode prog_9_method_10_code 34 = .ok (.iaload, 1) := by decide +kernel
theorem d53_35 : decode prog_9_method_10_code 35 = .ok (.iload_n 1, 1) := by decide +kernel
theorem d53_36 : decode prog_9_method_10_code 36 = .ok (.if_icmp .eq 6, 3) := by decide +kernel
theorem d53_39 : decode prog_9_method_10_code 39 = .ok (.bipush (-2), 2) := by decide +kernel
theorem d53_41 : decode prog_9_method_10_code 41 = .ok (.ireturn, 1) := by decide +kernel
theorem d53_42 : decode prog_9_method_10_code 42 = .ok (.aload_n 0, 1) := by decide +kernel
theorem d53_43 : decode prog_9_method_10_code 43 = .ok (.getfield 34, 3) := by decide +kernel
theorem d53_46 : decode prog_9_method_10_code 46 = .ok (.iload_n 2, 1) := by decide +kernel
theorem d53_47 : decode prog_9_method_10_code 47 = .ok (.iconst (-1), 1) := by decide +kernel
theorem d53_48 : decode prog_9_method_10_code 48 = .ok (.iastore, 1) := by decide +kernel
theorem d53_49 : decode prog_9_method_10_code 49 = .ok (.aload_n 0, 1) := by decide +kernel
theorem d53_50 : decode prog_9_method_10_code 50 = .ok (.iload_n 1, 1) := by decide +kernel
theorem d53_51 : decode prog_9_method_10_code 51 = .ok (.invokevirtual 121, 3) := by decide +kernel
theorem d53_54 : decode prog_9_method_10_code 54 = .ok (.ireturn, 1) := by decide +kernel
theorem d54_0 : decode prog_9_method_11_code 0 = .ok (.iload_n 1, 1) := by decide +kernel
theorem d54_1 : decode prog_9_method_11_code 1 = .ok (.invokestatic 103, 3) := by decide +kernel
theorem d54_4 : decode prog_9_method_11_code 4 = .ok (.ifCond .ne 6, 3) := by decide +kernel
theorem d54_7 : decode prog_9_method_11_code 7 = .ok (.bipush (-3), 2) := by decide +kernel
theorem d54_9 : decode prog_9_method_11_code 9 = .ok (.ireturn, 1) := by decide +kernel
theorem d54_10 : decode prog_9_method_11_code 10 = .ok (.aload_n 0, 1) := by decide +kernel
theorem d54_11 : decode prog_9_method_11_code 11 = .ok (.iload_n 2, 1) := by decide +kernel
theorem d54_12 : decode prog_9_method_11_code 12 = .ok (.invokevirtual 96, 3) := by decide +kernel
theorem d54_15 : decode prog_9_method_11_code 15 = .ok (.astore_n 3, 1) := by decide +kernel
theorem d54_16 : decode prog_9_method_11_code 16 = .ok (.aload_n 3, 1) := by decide +kernel
theorem d54_17 : decode prog_9_method_11_code 17 = .ok (.ifnonnull 6, 3) := by decide +kernel
theorem d54_20 : decode prog_9_method_11_code 20 = .ok (.bipush (-4), 2) := by decide +kernel
theorem d54_22 : decode prog_9_method_11_code 22 = .ok (.ireturn, 1) := by decide +kernel
theorem d54_23 : decode prog_9_method_11_code 23 = .ok (.aload_n 0, 1) := by decide +kernel
theorem d54_24 : decode prog_9_method_11_code 24 = .ok (.iload_n 1, 1) := by decide +kernel
theorem d54_25 : decode prog_9_method_11_code 25 = .ok (.aload_n 3, 1) := by decide +kernel
theorem d54_26 : decode prog_9_method_11_code 26 = .ok (.invokevirtual 124, 3) := by decide +kernel
theorem d54_29 : decode prog_9_method_11_code 29 = .ok (.ifCond .ne 6, 3) := by decide +kernel
theorem d54_32 : decode prog_9_method_11_code 32 = .ok (.bipush (-2), 2) := by decide +kernel
theorem d54_34 : decode prog_9_method_11_code 34 = .ok (.ireturn, 1) := by decide +kernel
theorem d54_35 : decode prog_9_method_11_code 35 = .ok (.aload_n 0, 1) := by decide +kernel
theorem d54_36 : decode prog_9_method_11_code 36 = .ok (.iload_n 1, 1) := by decide +kernel
theorem d54_37 : decode prog_9_method_11_code 37 = .ok (.aload_n 3, 1) := by decide +kernel
theorem d54_38 : decode prog_9_method_11_code 38 = .ok (.invokevirtual 128, 3) := by decide +kernel
theorem d54_41 : decode prog_9_method_11_code 41 = .ok (.ifCond .ne 6, 3) := by decide +kernel
theorem d54_44 : decode prog_9_method_11_code 44 = .ok (.bipush (-5), 2) := by decide +kernel
theorem d54_46 : decode prog_9_method_11_code 46 = .ok (.ireturn, 1) := by decide +kernel
theorem d54_47 : decode prog_9_method_11_code 47 = .ok (.aload_n 0, 1) := by decide +kernel
theorem d54_48 : decode prog_9_method_11_code 48 = .ok (.getfield 26, 3) := by decide +kernel
theorem d54_51 : decode prog_9_method_11_code 51 = .ok (.iload_n 1, 1) := by decide +kernel
theorem d54_52 : decode prog_9_method_11_code 52 = .ok (.aaload, 1) := by decide +kernel
theorem d54_53 : decode prog_9_method_11_code 53 = .ok (.astore 4, 2) := by decide +kernel
theorem d54_55 : decode prog_9_method_11_code 55 = .ok (.aload 4, 2) := by decide +kernel
theorem d54_57 : decode prog_9_method_11_code 57 = .ok (.aload_n 3, 1) := by decide +kernel
theorem d54_58 : decode prog_9_method_11_code 58 = .ok (.invokevirtual 131, 3) := by decide +kernel
theorem d54_61 : decode prog_9_method_11_code 61 = .ok (.istore 5, 2) := by decide +kernel
theorem d54_63 : decode prog_9_method_11_code 63 = .ok (.aload_n 3, 1) := by decide +kernel
theorem d54_64 : decode prog_9_method_11_code 64 = .ok (.iload 5, 2) := by decide +kernel
theorem d54_66 : decode prog_9_method_11_code 66 = .ok (.invokevirtual 135, 3) := by decide +kernel
theorem d54_69 : decode prog_9_method_11_code 69 = .ok (.istore 6, 2) := by decide +kernel
theorem d54_71 : decode prog_9_method_11_code 71 = .ok (.aload 4, 2) := by decide +kernel
theorem d54_73 : decode prog_9_method_11_code 73 = .ok (.iload 5, 2) := by decide +kernel
theorem d54_75 : decode prog_9_method_11_code 75 = .ok (.putfield 138, 3) := by decide +kernel
theorem d54_78 : decode prog_9_method_11_code 78 = .ok (.aload 4, 2) := by decide +kernel
theorem d54_80 : decode prog_9_method_11_code 80 = .ok (.aload_n 3, 1) := by decide +kernel
theorem d54_81 : decode prog_9_method_11_code 81 = .ok (.getfield 75, 3) := by decide +kernel
theorem d54_84 : decode prog_9_method_11_code 84 = .ok (.putfield 141, 3) := by decide +kernel
theorem d54_87 : decode prog_9_method_11_code 87 = .ok (.aload 4, 2) := by decide +kernel
theorem d54_89 : decode prog_9_method_11_code 89 = .ok (.aload_n 3, 1) := by decide +kernel
theorem d54_90 : decode prog_9_method_11_code 90 = .ok (.getfield 78, 3) := by decide +kernel
theorem d54_93 : decode prog_9_method_11_code 93 = .ok (.putfield 142, 3) := by decide +kernel
theorem d54_96 : decode prog_9_method_11_code 96 = .ok (.aload 4, 2) := by decide +kernel
theorem d54_98 : decode prog_9_method_11_code 98 = .ok (.aload_n 3, 1) := by decide +kernel
theorem d54_99 : decode prog_9_method_11_code 99 = .ok (.getfield 81, 3) := by decide +kernel
theorem d54_102 : decode prog_9_method_11_code 102 = .ok (.invokevirtual 143, 3) := by decide +kernel
theorem d54_105 : decode prog_9_method_11_code 105 = .ok (.aload 4, 2) := by decide +kernel
theorem d54_107 : decode prog_9_method_11_code 107 = .ok (.dup, 1) := by decide +kernel
theorem d54_108 : decode prog_9_method_11_code 108 = .ok (.getfield 147, 3) := by decide +kernel
theorem d54_111 : decode prog_9_method_11_code 111 = .ok (.bipush 10, 2) := by decide +kernel
theorem d54_113 : decode prog_9_method_11_code 113 = .ok (.aload_n 3, 1) := by decide +kernel
theorem d54_114 : decode prog_9_method_11_code 114 = .ok (.getfield 87, 3) := by decide +kernel
theorem d54_117 : decode prog_9_method_11_code 117 = .ok (.imul, 1) := by decide +kernel
theorem d54_118 : decode prog_9_method_11_code 118 = .ok (.iconst 2, 1) := by decide +kernel
theorem d54_119 : decode prog_9_method_11_code 119 = .ok (.iload 6, 2) := by decide +kernel
theorem d54_121 : decode prog_9_method_11_code 121 = .ok (.imul, 1) := by decide +kernel
theorem d54_122 : decode prog_9_method_11_code 122 = .ok (.isub, 1) := by decide +kernel
theorem d54_123 : decode prog_9_method_11_code 123 = .ok (.iadd, 1) := by decide +kernel
theorem d54_124 : decode prog_9_method_11_code 124 = .ok (.putfield 147, 3) := by decide +kernel
theorem d54_127 : decode prog_9_method_11_code 127 = .ok (.aload_n 0, 1) := by decide +kernel
theorem d54_128 : decode prog_9_method_11_code 128 = .ok (.dup, 1) := by decide +kernel
theorem d54_129 : decode prog_9_method_11_code 129 = .ok (.getfield 40, 3) := by decide +kernel
theorem d54_132 : decode prog_9_method_11_code 132 = .ok (.aload_n 3, 1) := by decide +kernel
theorem d54_133 : decode prog_9_method_11_code 133 = .ok (.getfield 87, 3) := by decide +kernel
theorem d54_136 : decode prog_9_method_11_code 136 = .ok (.i2l, 1) := by decide +kernel
theorem d54_137 : decode prog_9_method_11_code 137 = .ok (.ladd, 1) := by decide +kernel
theorem d54_138 : decode prog_9_method_11_code 138 = .ok (.putfield 40, 3) := by decide +kernel
theorem d54_141 : decode prog_9_method_11_code 141 = .ok (.aload_n 0, 1) := by decide +kernel
theorem d54_142 : decode prog_9_method_11_code 142 = .ok (.dup, 1) := by decide +kernel
theorem d54_143 : decode prog_9_method_11_code 143 = .ok (.getfield 44, 3) := by decide +kernel
theorem d54_146 : decode prog_9_method_11_code 146 = .ok (.iload 6, 2) := by decide +kernel
theorem d54_148 : decode prog_9_method_11_code 148 = .ok (.i2l, 1) := by decide +kernel
theorem d54_149 : decode prog_9_method_11_code 149 = .ok (.ladd, 1) := by decide +kernel
theorem d54_150 : decode prog_9_method_11_code 150 = .ok (.putfield 44, 3) := by decide +kernel
theorem d54_153 : decode prog_9_method_11_code 153 = .ok (.aload_n 0, 1) := by decide +kernel
theorem d54_154 : decode prog_9_method_11_code 154 = .ok (.dup, 1) := by decide +kernel
theorem d54_155 : decode prog_9_method_11_code 155 = .ok (.getfield 37, 3) := by decide +kernel
theorem d54_158 : decode prog_9_method_11_code 158 = .ok (.iconst 1, 1) := by decide +kernel
theorem d54_159 : decode prog_9_method_11_code 159 = .ok (.iadd, 1) := by decide +kernel
theorem d54_160 : decode prog_9_method_11_code 160 = .ok (.putfield 37, 3) := by decide +kernel
theorem d54_163 : decode prog_9_method_11_code 163 = .ok (.aload_n 0, 1) := by decide +kernel
theorem d54_164 : decode prog_9_method_11_code 164 = .ok (.aload_n 3, 1) := by decide +kernel
theorem d54_165 : decode prog_9_method_11_code 165 = .ok (.invokevirtual 100, 3) := by decide +kernel
theorem d54_168 : decode prog_9_method_11_code 168 = .ok (.iconst 2, 1) := by decide +kernel
theorem d54_169 : decode prog_9_method_11_code 169 = .ok (.iload 6, 2) := by decide +kernel
theorem d54_171 : decode prog_9_method_11_code 171 = .ok (.imul, 1) := by decide +kernel
theorem d54_172 : decode prog_9_method_11_code 172 = .ok (.ireturn, 1) := by decide +kernel
theorem d55_0 : decode prog_9_method_20_code 0 = .ok (.aload_n 2, 1) := by decide +kernel
theorem d55_1 : decode prog_9_method_20_code 1 = .ok (.getfield 84, 3) := by decide +kernel
theorem d55_4 : decode prog_9_method_20_code 4 = .ok (.invokestatic 69, 3) := by decide +kernel
theorem d55_7 : decode prog_9_method_20_code 7 = .ok (.ifCond .eq 20, 3) := by decide +kernel
theorem d55_10 : decode prog_9_method_20_code 10 = .ok (.aload_n 0, 1) := by decide +kernel
theorem d55_11 : decode prog_9_method_20_code 11 = .ok (.getfield 34, 3) := by decide +kernel
theorem d55_14 : decode prog_9_method_20_code 14 = .ok (.aload_n 2, 1) := by decide +kernel
theorem d55_15 : decode prog_9_method_20_code 15 = .ok (.getfield 84, 3) := by decide +kernel
theorem d55_18 : decode prog_9_method_20_code 18 = .ok (.iaload, 1) := by decide +kernel
theorem d55_19 : decode prog_9_method_20_code 19 = .ok (.iload_n 1, 1) := by decide +kernel
theorem d55_20 : decode prog_9_method_20_code 20 = .ok (.if_icmp .ne 7, 3) := by decide +kernel
theorem d55_23 : decode prog_9_method_20_code 23 = .ok (.iconst 1, 1) := by decide +kernel
theorem d55_24 : decode prog_9_method_20_code 24 = .ok (.goto 4, 3) := by decide +kernel
theorem d55_27 : decode prog_9_method_20_code 27 = .ok (.iconst 0, 1) := by decide +kernel
theorem d55_28 : decode prog_9_method_20_code 28 = .ok (.ireturn, 1) := by decide +kernel
theorem d56_0 : decode prog_9_method_21_code 0 = .ok (.iload_n 1, 1) := by decide +kernel
theorem d56_1 : decode prog_9_method_21_code 1 = .ok (.invokestatic 103, 3) := by decide +kernel
theorem d56_4 : decode prog_9_method_21_code 4 = .ok (.ifCond .eq 34, 3) := by decide +kernel
theorem d56_7 : decode prog_9_method_21_code 7 = .ok (.aload_n 2, 1) := by decide +kernel
theorem d56_8 : decode prog_9_method_21_code 8 = .ok (.getfield 81, 3) := by decide +kernel
theorem d56_11 : decode prog_9_method_21_code 11 = .ok (.invokestatic 66, 3) := by decide +kernel
theorem d56_14 : decode prog_9_method_21_code 14 = .ok (.ifCond .eq 24, 3) := by decide +kernel
theorem d56_17 : decode prog_9_method_21_code 17 = .ok (.aload_n 0, 1) := by decide +kernel
theorem d56_18 : decode prog_9_method_21_code 18 = .ok (.getfield 26, 3) := by decide +kernel
theorem d56_21 : decode prog_9_method_21_code 21 = .ok (.iload_n 1, 1) := by decide +kernel
theorem d56_22 : decode prog_9_method_21_code 22 = .ok (.aaload, 1) := by decide +kernel
theorem d56_23 : decode prog_9_method_21_code 23 = .ok (.getfield 118, 3) := by decide +kernel
theorem d56_26 : decode prog_9_method_21_code 26 = .ok (.aload_n 2, 1) := by decide +kernel
theorem d56_27 : decode prog_9_method_21_code 27 = .ok (.getfield 81, 3) := by decide +kernel
theorem d56_30 : decode prog_9_method_21_code 30 = .ok (.iaload, 1) := by decide +kernel
theorem d56_31 : decode prog_9_method_21_code 31 = .ok (.ifCond .le 7, 3) := by decide +kernel
theorem d56_34 : decode prog_9_method_21_code 34 = .ok (.iconst 1, 1) := by decide +kernel
theorem d56_35 : decode prog_9_method_21_code 35 = .ok (.goto 4, 3) := by decide +kernel
theorem d56_38 : decode prog_9_method_21_code 38 = .ok (.iconst 0, 1) := by decide +kernel
theorem d56_39 : decode prog_9_method_21_code 39 = .ok (.ireturn, 1) := by decide +kernel
theorem d57_0 : decode prog_9_method_12_code 0 = .ok (.iload_n 1, 1) := by decide +kernel
theorem d57_1 : decode prog_9_method_12_code 1 = .ok (.invokestatic 103, 3) := by decide +kernel
theorem d57_4 : decode prog_9_method_12_code 4 = .ok (.ifCond .ne 6, 3) := by decide +kernel
theorem d57_7 : decode prog_9_method_12_code 7 = .ok (.bipush (-3), 2) := by decide +kernel
theorem d57_9 : decode prog_9_method_12_code 9 = .ok (.ireturn, 1) := by decide +kernel
theorem d57_10 : decode prog_9_method_12_code 10 = .ok (.aload_n 0, 1) := by decide +kernel
theorem d57_11 : decode prog_9_method_12_code 11 = .ok (.getfield 26, 3) := by decide +kernel
theorem d57_14 : decode prog_9_method_12_code 14 = .ok (.iload_n 1, 1) := by decide +kernel
theorem d57_15 : decode prog_9_method_12_code 15 = .ok (.aaload, 1) := by decide +kernel
theorem d57_16 : decode prog_9_method_12_code 16 = .ok (.astore_n 2, 1) := by decide +kernel
theorem d57_17 : decode prog_9_method_12_code 17 = .ok (.aload_n 2, 1) := by decide +kernel
theorem d57_18 : decode prog_9_method_12_code 18 = .ok (.dup, 1) := by decide +kernel
theorem d57_19 : decode prog_9_method_12_code 19 = .ok (.getfield 138, 3) := by decide +kernel
theorem d57_22 : decode prog_9_method_12_code 22 = .ok (.aload_n 2, 1) := by decide +kernel
theorem d57_23 : decode prog_9_method_12_code 23 = .ok (.getfield 141, 3) := by decide +kernel
theorem d57_26 : decode prog_9_method_12_code 26 = .ok (.aload_n 2, 1) := by decide +kernel
theorem d57_27 : decode prog_9_method_12_code 27 = .ok (.getfield 142, 3) := by decide +kernel
theorem d57_30 : decode prog_9_method_12_code 30 = .ok (.iconst 0, 1) := by decide +kernel
theorem d57_31 : decode prog_9_method_12_code 31 = .ok (.iconst 0, 1) := by decide +kernel
theorem d57_32 : decode prog_9_method_12_code 32 = .ok (.invokestatic 150, 3) := by decide +kernel
theorem d57_35 : decode prog_9_method_12_code 35 = .ok (.iadd, 1) := by decide +kernel
theorem d57_36 : decode prog_9_method_12_code 36 = .ok (.putfield 138, 3) := by decide +kernel
theorem d57_39 : decode prog_9_method_12_code 39 = .ok (.aload_n 2, 1) := by decide +kernel
theorem d57_40 : decode prog_9_method_12_code 40 = .ok (.iconst 0, 1) := by decide +kernel
theorem d57_41 : decode prog_9_method_12_code 41 = .ok (.putfield 141, 3) := by decide +kernel
theorem d57_44 : decode prog_9_method_12_code 44 = .ok (.aload_n 2, 1) := by decide +kernel
theorem d57_45 : decode prog_9_method_12_code 45 = .ok (.iconst 0, 1) := by decide +kernel
theorem d57_46 : decode prog_9_method_12_code 46 = .ok (.putfield 142, 3) := by decide +kernel
theorem d57_49 : decode prog_9_method_12_code 49 = .ok (.aload_n 2, 1) := by decide +kernel
theorem d57_50 : decode prog_9_method_12_code 50 = .ok (.getfield 138, 3) := by decide +kernel
theorem d57_53 : decode prog_9_method_12_code 53 = .ok (.ireturn, 1) := by decide +kernel
theorem d58_0 : decode prog_9_method_13_code 0 = .ok (.iload_n 1, 1) := by decide +kernel
theorem d58_1 : decode prog_9_method_13_code 1 = .ok (.invokestatic 103, 3) := by decide +kernel
theorem d58_4 : decode prog_9_method_13_code 4 = .ok (.ifCond .ne 6, 3) := by decide +kernel
theorem d58_7 : decode prog_9_method_13_code 7 = .ok (.bipush (-3), 2) := by decide +kernel
theorem d58_9 : decode prog_9_method_13_code 9 = .ok (.ireturn, 1) := by decide +kernel
theorem d58_10 : decode prog_9_method_13_code 10 = .ok (.iload_n 2, 1) := by decide +kernel
theorem d58_11 : decode prog_9_method_13_code 11 = .ok (.iconst 1, 1) := by decide +kernel
theorem d58_12 : decode prog_9_method_13_code 12 = .ok (.if_icmp .lt 9, 3) := by decide +kernel
theorem d58_15 : decode prog_9_method_13_code 15 = .ok (.iload_n 2, 1) := by decide +kernel
theorem d58_16 : decode prog_9_method_13_code 16 = .ok (.bipush 99, 2) := by decide +kernel
theorem d58_18 : decode prog_9_method_13_code 18 = .ok (.if_icmp .le 5, 3) := by decide +kernel
theorem d58_21 : decode prog_9_method_13_code 21 = .ok (.iconst (-1), 1) := by decide +kernel
theorem d58_22 : decode prog_9_method_13_code 22 = .ok (.ireturn, 1) := by decide +kernel
theorem d58_23 : decode prog_9_method_13_code 23 = .ok (.aload_n 0, 1) := by decide +kernel
theorem d58_24 : decode prog_9_method_13_code 24 = .ok (.getfield 26, 3) := by decide +kernel
theorem d58_27 : decode prog_9_method_13_code 27 = .ok (.iload_n 1, 1) := by decide +kernel
theorem d58_28 : decode prog_9_method_13_code 28 = .ok (.aaload, 1) := by decide +kernel
theorem d58_29 : decode prog_9_method_13_code 29 = .ok (.dup, 1) := by decide +kernel
theorem d58_30 : decode prog_9_method_13_code 30 = .ok (.getfield 138, 3) := by decide +kernel
theorem d58_33 : decode prog_9_method_13_code 33 = .ok (.iload_n 2, 1) := by decide +kernel
theorem d58_34 : decode prog_9_method_13_code 34 = .ok (.iadd, 1) := by decide +kernel
theorem d58_35 : decode prog_9_method_13_code 35 = .ok (.putfield 138, 3) := by decide +kernel
theorem d58_38 : decode prog_9_method_13_code 38 = .ok (.aload_n 0, 1) := by decide +kernel
theorem d58_39 : decode prog_9_method_13_code 39 = .ok (.getfield 26, 3) := by decide +kernel
theorem d58_42 : decode prog_9_method_13_code 42 = .ok (.iload_n 1, 1) := by decide +kernel
theorem d58_43 : decode prog_9_method_13_code 43 = .ok (.aaload, 1) := by decide +kernel
theorem d58_44 : decode prog_9_method_13_code 44 = .ok (.getfield 138, 3) := by decide +kernel
theorem d58_47 : decode prog_9_method_13_code 47 = .ok (.ireturn, 1) := by decide +kernel
theorem d59_0 : decode prog_9_method_16_code 0 = .ok (.iconst 0, 1) := by decide +kernel
theorem d59_1 : decode prog_9_method_16_code 1 = .ok (.istore_n 2, 1) := by decide +kernel
theorem d59_2 : decode prog_9_method_16_code 2 = .ok (.iconst 0, 1) := by decide +kernel
theorem d59_3 : decode prog_9_method_16_code 3 = .ok (.istore_n 3, 1) := by decide +kernel
theorem d59_4 : decode prog_9_method_16_code 4 = .ok (.iload_n 3, 1) := by decide +kernel
theorem d59_5 : decode prog_9_method_16_code 5 = .ok (.aload_n 0, 1) := by decide +kernel
theorem d59_6 : decode prog_9_method_16_code 6 = .ok (.getfield 17, 3) := by decide +kernel
theorem d59_9 : decode prog_9_method_16_code 9 = .ok (.if_icmp .ge 25, 3) := by decide +kernel
theorem d59_12 : decode prog_9_method_16_code 12 = .ok (.aload_n 0, 1) := by decide +kernel
theorem d59_13 : decode prog_9_method_16_code 13 = .ok (.getfield 11, 3) := by decide +kernel
theorem d59_16 : decode prog_9_method_16_code 16 = .ok (.iload_n 3, 1) := by decide +kernel
theorem d59_17 : decode prog_9_method_16_code 17 = .ok (.aaload, 1) := by decide +kernel
theorem d59_18 : decode prog_9_method_16_code 18 = .ok (.aload_n 1, 1) := by decide +kernel
theorem d59_19 : decode prog_9_method_16_code 19 = .ok (.invokevirtual 154, 3) := by decide +kernel
theorem d59_22 : decode prog_9_method_16_code 22 = .ok (.ifCond .eq 6, 3) := by decide +kernel
theorem d59_25 : decode prog_9_method_16_code 25 = .ok (.iinc 2 1, 3) := by decide +kernel
theorem d59_28 : decode prog_9_method_16_code 28 = .ok (.iinc 3 1, 3) := by decide +kernel
theorem d59_31 : decode prog_9_method_16_code 31 = .ok (.goto (-27), 3) := by decide +kernel
theorem d59_34 : decode prog_9_method_16_code 34 = .ok (.iload_n 2, 1) := by decide +kernel
theorem d59_35 : decode prog_9_method_16_code 35 = .ok (.ireturn, 1) := by decide +kernel
theorem d60_0 : decode prog_9_method_17_code 0 = .ok (.iconst 0, 1) := by decide +kernel
theorem d60_1 : decode prog_9_method_17_code 1 = .ok (.istore_n 2, 1) := by decide +kernel
theorem d60_2 : decode prog_9_method_17_code 2 = .ok (.iconst 0, 1) := by decide +kernel
theorem d60_3 : decode prog_9_method_17_code 3 = .ok (.istore_n 3, 1) := by decide +kernel
theorem d60_4 : decode prog_9_method_17_code 4 = .ok (.iload_n 3, 1) := by decide +kernel
theorem d60_5 : decode prog_9_method_17_code 5 = .ok (.iconst 3, 1) := by decide +kernel
theorem d60_6 : decode prog_9_method_17_code 6 = .ok (.if_icmp .ge 65, 3) := by decide +kernel
theorem d60_9 : decode prog_9_method_17_code 9 = .ok (.iload_n 3, 1) := by decide +kernel
theorem d60_10 : decode prog_9_method_17_code 10 = .ok (.iload_n 1, 1) := by decide +kernel
theorem d60_11 : decode prog_9_method_17_code 11 = .ok (.if_icmp .ge 25, 3) := by decide +kernel
theorem d60_14 : decode prog_9_method_17_code 14 = .ok (.aload_n 0, 1) := by decide +kernel
theorem d60_15 : decode prog_9_method_17_code 15 = .ok (.getfield 26, 3) := by decide +kernel
theorem d60_18 : decode prog_9_method_17_code 18 = .ok (.iload_n 1, 1) := by decide +kernel
theorem d60_19 : decode prog_9_method_17_code 19 = .ok (.aaload, 1) := by decide +kernel
theorem d60_20 : decode prog_9_method_17_code 20 = .ok (.aload_n 0, 1) := by decide +kernel
theorem d60_21 : decode prog_9_method_17_code 21 = .ok (.getfield 26, 3) := by decide +kernel
theorem d60_24 : decode prog_9_method_17_code 24 = .ok (.iload_n 3, 1) := by decide +kernel
theorem d60_25 : decode prog_9_method_17_code 25 = .ok (.aaload, 1) := by decide +kernel
theorem d60_26 : decode prog_9_method_17_code 26 = .ok (.invokevirtual 158, 3) := by decide +kernel
theorem d60_29 : decode prog_9_method_17_code 29 = .ok (.ifCond .ne 7, 3) := by decide +kernel
theorem d60_32 : decode prog_9_method_17_code 32 = .ok (.iconst 1, 1) := by decide +kernel
theorem d60_33 : decode prog_9_method_17_code 33 = .ok (.goto 4, 3) := by decide +kernel
theorem d60_36 : decode prog_9_method_17_code 36 = .ok (.iconst 0, 1) := by decide +kernel
theorem d60_37 : decode prog_9_method_17_code 37 = .ok (.istore 4, 2) := by decide +kernel
theorem d60_39 : decode prog_9_method_17_code 39 = .ok (.iload 4, 2) := by decide +kernel
theorem d60_41 : decode prog_9_method_17_code 41 = .ok (.ifCond .ne 21, 3) := by decide +kernel
theorem d60_44 : decode prog_9_method_17_code 44 = .ok (.aload_n 0, 1) := by decide +kernel
theorem d60_45 : decode prog_9_method_17_code 45 = .ok (.getfield 26, 3) := by decide +kernel
theorem d60_48 : decode prog_9_method_17_code 48 = .ok (.iload_n 3, 1) := by decide +kernel
theorem d60_49 : decode prog_9_method_17_code 49 = .ok (.aaload, 1) := by decide +kernel
theorem d60_50 : decode prog_9_method_17_code 50 = .ok (.aload_n 0, 1) := by decide +kernel
theorem d60_51 : decode prog_9_method_17_code 51 = .ok (.getfield 26, 3) := by decide +kernel
theorem d60_54 : decode prog_9_method_17_code 54 = .ok (.iload_n 1, 1) := by decide +kernel
theorem d60_55 : decode prog_9_method_17_code 55 = .ok (.aaload, 1) := by decide +kernel
theorem d60_56 : decode prog_9_method_17_code 56 = .ok (.invokevirtual 158, 3) := by decide +kernel
theorem d60_59 : decode prog_9_method_17_code 59 = .ok (.ifCond .eq 6, 3) := by decide +kernel
theorem d60_62 : decode prog_9_method_17_code 62 = .ok (.iinc 2 1, 3) := by decide +kernel
theorem d60_65 : decode prog_9_method_17_code 65 = .ok (.iinc 3 1, 3) := by decide +kernel
theorem d60_68 : decode prog_9_method_17_code 68 = .ok (.goto (-64), 3) := by decide +kernel
theorem d60_71 : decode prog_9_method_17_code 71 = .ok (.iload_n 2, 1) := by decide +kernel
theorem d60_72 : decode prog_9_method_17_code 72 = .ok (.ireturn, 1) := by decide +kernel
theorem d61_0 : decode prog_1_method_1_code 0 = .ok (.aload_n 0, 1) := by decide +kernel
theorem d61_1 : decode prog_1_method_1_code 1 = .ok (.invokespecial 1, 3) := by decide +kernel
theorem d61_4 : decode prog_1_method_1_code 4 = .ok (.aload_n 0, 1) := by decide +kernel
theorem d61_5 : decode prog_1_method_1_code 5 = .ok (.new 7, 3) := by decide +kernel
theorem d61_8 : decode prog_1_method_1_code 8 = .ok (.dup, 1) := by decide +kernel
theorem d61_9 : decode prog_1_method_1_code 9 = .ok (.invokespecial 9, 3) := by decide +kernel
theorem d61_12 : decode prog_1_method_1_code 12 = .ok (.putfield 10, 3) := by decide +kernel
theorem d61_15 : decode prog_1_method_1_code 15 = .ok (.aload_n 0, 1) := by decide +kernel
theorem d61_16 : decode prog_1_method_1_code 16 = .ok (.new 7, 3) := by decide +kernel
theorem d61_19 : decode prog_1_method_1_code 19 = .ok (.dup, 1) := by decide +kernel
theorem d61_20 : decode prog_1_method_1_code 20 = .ok (.invokespecial 9, 3) := by decide +kernel
theorem d61_23 : decode prog_1_method_1_code 23 = .ok (.putfield 16, 3) := by decide +kernel
theorem d61_26 : decode prog_1_method_1_code 26 = .ok (.aload_n 0, 1) := by decide +kernel
theorem d61_27 : decode prog_1_method_1_code 27 = .ok (.iconst 0, 1) := by decide +kernel
theorem d61_28 : decode prog_1_method_1_code 28 = .ok (.putfield 19, 3) := by decide +kernel
theorem d61_31 : decode prog_1_method_1_code 31 = .ok (.aload_n 0, 1) := by decide +kernel
theorem d61_32 : decode prog_1_method_1_code 32 = .ok (.new 23, 3) := by decide +kernel
theorem d61_35 : decode prog_1_method_1_code 35 = .ok (.dup, 1) := by decide +kernel
theorem d61_36 : decode prog_1_method_1_code 36 = .ok (.invokespecial 25, 3) := by decide +kernel
theorem d61_39 : decode prog_1_method_1_code 39 = .ok (.putfield 26, 3) := by decide +kernel
theorem d61_42 : decode prog_1_method_1_code 42 = .ok (.aload_n 0, 1) := by decide +kernel
theorem d61_43 : decode prog_1_method_1_code 43 = .ok (.new 30, 3) := by decide +kernel
theorem d61_46 : decode prog_1_method_1_code 46 = .ok (.dup, 1) := by decide +kernel
theorem d61_47 : decode prog_1_method_1_code 47 = .ok (.invokespecial 32, 3) := by decide +kernel
theorem d61_50 : decode prog_1_method_1_code 50 = .ok (.putfield 33, 3) := by decide +kernel
theorem d61_53 : decode prog_1_method_1_code 53 = .ok (.aload_n 0, 1) := by decide +kernel
theorem d61_54 : decode prog_1_method_1_code 54 = .ok (.new 37, 3) := by decide +kernel
theorem d61_57 : decode prog_1_method_1_code 57 = .ok (.dup, 1) := by decide +kernel
theorem d61_58 : decode prog_1_method_1_code 58 = .ok (.invokespecial 39, 3) := by decide +kernel
theorem d61_61 : decode prog_1_method_1_code 61 = .ok (.putfield 40, 3) := by decide +kernel
theorem d61_64 : decode prog_1_method_1_code 64 = .ok (.aload_n 0, 1) := by decide +kernel
theorem d61_65 : decode prog_1_method_1_code 65 = .ok (.new 44, 3) := by decide +kernel
theorem d61_68 : decode prog_1_method_1_code 68 = .ok (.dup, 1) := by decide +kernel
theorem d61_69 : decode prog_1_method_1_code 69 = .ok (.invokespecial 46, 3) := by decide +kernel
theorem d61_72 : decode prog_1_method_1_code 72 = .ok (.putfield 47, 3) := by decide +kernel
theorem d61_75 : decode prog_1_method_1_code 75 = .ok (.aload_n 0, 1) := by decide +kernel
theorem d61_76 : decode prog_1_method_1_code 76 = .ok (.iconst (-1), 1) := by decide +kernel
theorem d61_77 : decode prog_1_method_1_code 77 = .ok (.putfield 51, 3) := by decide +kernel
theorem d61_80 : decode prog_1_method_1_code 80 = .ok (.aload_n 0, 1) := by decide +kernel
theorem d61_81 : decode prog_1_method_1_code 81 = .ok (.iconst (-1), 1) := by decide +kernel
theorem d61_82 : decode prog_1_method_1_code 82 = .ok (.putfield 55, 3) := by decide +kernel
theorem d61_85 : decode prog_1_method_1_code 85 = .ok (.return_, 1) := by decide +kernel
theorem d62_0 : decode prog_1_method_13_code 0 = .ok (.aload_n 0, 1) := by decide +kernel
theorem d62_1 : decode prog_1_method_13_code 1 = .ok (.getfield 10, 3) := by decide +kernel
theorem d62_4 : decode prog_1_method_13_code 4 = .ok (.getfield 106, 3) := by decide +kernel
theorem d62_7 : decode prog_1_method_13_code 7 = .ok (.ireturn, 1) := by decide +kernel
theorem d63_0 : decode prog_1_method_14_code 0 = .ok (.aload_n 0, 1) := by decide +kernel
theorem d63_1 : decode prog_1_method_14_code 1 = .ok (.getfield 10, 3) := by decide +kernel
theorem d63_4 : decode prog_1_method_14_code 4 = .ok (.iload_n 1, 1) := by decide +kernel
theorem d63_5 : decode prog_1_method_14_code 5 = .ok (.invokevirtual 109, 3) := by decide +kernel
theorem d63_8 : decode prog_1_method_14_code 8 = .ok (.ifnull 7, 3) := by decide +kernel
theorem d63_11 : decode prog_1_method_14_code 11 = .ok (.iconst 1, 1) := by decide +kernel
theorem d63_12 : decode prog_1_method_14_code 12 = .ok (.goto 4, 3) := by decide +kernel
theorem d63_15 : decode prog_1_method_14_code 15 = .ok (.iconst 0, 1) := by decide +kernel
theorem d63_16 : decode prog_1_method_14_code 16 = .ok (.ireturn, 1) := by decide +kernel
theorem d64_0 : decode prog_1_method_36_code 0 = .ok (.lconst 0, 1) := by decide +kernel
theorem d64_1 : decode prog_1_method_36_code 1 = .ok (.lstore_n 1, 1) := by decide +kernel
theorem d64_2 : decode prog_1_method_36_code 2 = .ok (.aload_n 0, 1) := by decide +kernel
theorem d64_3 : decode prog_1_method_36_code 3 = .ok (.getfield 10, 3) := by decide +kernel
theorem d64_6 : decode prog_1_method_36_code 6 = .ok (.getfield 203, 3) := by decide +kernel
theorem d64_9 : decode prog_1_method_36_code 9 = .ok (.astore_n 3, 1) := by decide +kernel
theorem d64_10 : decode prog_1_method_36_code 10 = .ok (.aload_n 3, 1) := by decide +kernel
theorem d64_11 : decode prog_1_method_36_code 11 = .ok (.arraylength, 1) := by decide +kernel
theorem d64_12 : decode prog_1_method_36_code 12 = .ok (.istore 4, 2) := by decide +kernel
theorem d64_14 : decode prog_1_method_36_code 14 = .ok (.iconst 0, 1) := by decide +kernel
theorem d64_15 : decode prog_1_method_36_code 15 = .ok (.istore 5, 2) := by decide +kernel
theorem d64_17 : decode prog_1_method_36_code 17 = .ok (.iload 5, 2) := by decide +kernel
theorem d64_19 : decode prog_1_method_36_code 19 = .ok (.iload 4, 2) := by decide +kernel
theorem d64_21 : decode prog_1_method_36_code 21 = .ok (.if_icmp .ge 24, 3) := by decide +kernel
theorem d64_24 : decode prog_1_method_36_code 24 = .ok (.aload_n 3, 1) := by decide +kernel
theorem d64_25 : decode prog_1_method_36_code 25 = .ok (.iload 5, 2) := by decide +kernel
theorem d64_27 : decode prog_1_method_36_code 27 = .ok (.aaload, 1) := by decide +kernel
theorem d64_28 : decode prog_1_method_36_code 28 = .ok (.astore 6, 2) := by decide +kernel
theorem d64_30 : decode prog_1_method_36_code 30 = .ok (.lload_n 1, 1) := by decide +kernel
theorem d64_31 : decode prog_1_method_36_code 31 = .ok (.aload 6, 2) := by decide +kernel
theorem d64_33 : decode prog_1_method_36_code 33 = .ok (.getfield 220, 3) := by decide +kernel
theorem d64_36 : decode prog_1_method_36_code 36 = .ok (.i2l, 1) := by decide +kernel
theorem d64_37 : decode prog_1_method_36_code 37 = .ok (.ladd, 1) := by decide +kernel
theorem d64_38 : decode prog_1_method_36_code 38 = .ok (.lstore_n 1, 1) := by decide +kernel
theorem d64_39 : decode prog_1_method_36_code 39 = .ok (.iinc 5 1, 3) := by decide +kernel
theorem d64_42 : decode prog_1_method_36_code 42 = .ok (.goto (-25), 3) := by decide +kernel
theorem d64_45 : decode prog_1_method_36_code 45 = .ok (.lload_n 1, 1) := by decide +kernel
theorem d64_46 : decode prog_1_method_36_code 46 = .ok (.lreturn, 1) := by decide +kernel
theorem d65_0 : decode prog_1_method_37_code 0 = .ok (.ldc2_w 223, 3) := by decide +kernel
theorem d65_3 : decode prog_1_method_37_code 3 = .ok (.aload_n 0, 1) := by decide +kernel
theorem d65_4 : decode prog_1_method_37_code 4 = .ok (.getfield 10, 3) := by decide +kernel
theorem d65_7 : decode prog_1_method_37_code 7 = .ok (.getfield 225, 3) := by decide +kernel
theorem d65_10 : decode prog_1_method_37_code 10 = .ok (.lmul, 1) := by decide +kernel
theorem d65_11 : decode prog_1_method_37_code 11 = .ok (.ldc2_w 229, 3) := by decide +kernel
theorem d65_14 : decode prog_1_method_37_code 14 = .ok (.aload_n 0, 1) := by decide +kernel
theorem d65_15 : decode prog_1_method_37_code 15 = .ok (.getfield 10, 3) := by decide +kernel
theorem d65_18 : decode prog_1_method_37_code 18 = .ok (.getfield 231, 3) := by decide +kernel
theorem d65_21 : decode prog_1_method_37_code 21 = .ok (.lmul, 1) := by decide +kernel
theorem d65_22 : decode prog_1_method_37_code 22 = .ok (.lsub, 1) := by decide +kernel
theorem d65_23 : decode prog_1_method_37_code 23 = .ok (.lreturn, 1) := by decide +kernel
theorem d66_0 : decode prog_1_method_38_code 0 = .ok (.aload_n 0, 1) := by decide +kernel
theorem d66_1 : decode prog_1_method_38_code 1 = .ok (.getfield 10, 3) := by decide +kernel
theorem d66_4 : decode prog_1_method_38_code 4 = .ok (.getfield 234, 3) := by decide +kernel
theorem d66_7 : decode prog_1_method_38_code 7 = .ok (.ireturn, 1) := by decide +kernel
theorem d67_0 : decode prog_1_method_40_code 0 = .ok (.iconst 0, 1) := by decide +kernel
theorem d67_1 : decode prog_1_method_40_code 1 = .ok (.istore_n 1, 1) := by decide +kernel
theorem d67_2 : decode prog_1_method_40_code 2 = .ok (.aload_n 0, 1) := by decide +kernel
theorem d67_3 : decode prog_1_method_40_code 3 = .ok (.getfield 10, 3) := by decide +kernel
theorem d67_6 : decode prog_1_method_40_code 6 = .ok (.getfield 174, 3) := by decide +kernel
theorem d67_9 : decode prog_1_method_40_code 9 = .ok (.astore_n 2, 1) := by decide +kernel
theorem d67_10 : decode prog_1_method_40_code 10 = .ok (.aload_n 2, 1) := by decide +kernel
theorem d67_11 : decode prog_1_method_40_code 11 = .ok (.arraylength, 1) := by decide +kernel
theorem d67_12 : decode prog_1_method_40_code 12 = .ok (.istore_n 3, 1) := by decide +kernel
theorem d67_13 : decode prog_1_method_40_code 13 = .ok (.iconst 0, 1) := by decide +kernel
theorem d67_14 : decode prog_1_method_40_code 14 = .ok (.istore 4, 2) := by decide +kernel
theorem d67_16 : decode prog_1_method_40_code 16 = .ok (.iload 4, 2) := by decide +kernel
theorem d67_18 : decode prog_1_method_40_code 18 = .ok (.iload_n 3, 1) := by decide +kernel
theorem d67_19 : decode prog_1_method_40_code 19 = .ok (.if_icmp .ge 24, 3) := by decide +kernel
theorem d67_22 : decode prog_1_method_40_code 22 = .ok (.aload_n 2, 1) := by decide +kernel
theorem d67_23 : decode prog_1_method_40_code 23 = .ok (.iload 4, 2) := by decide +kernel
theorem d67_25 : decode prog_1_method_40_code 25 = .ok (.iaload, 1) := by decide +kernel
theorem d67_26 : decode prog_1_method_40_code 26 = .ok (.istore 5, 2) := by decide +kernel
theorem d67_28 : decode prog_1_method_40_code 28 = .ok (.iload 5, 2) := by decide +kernel
theorem d67_30 : decode prog_1_method_40_code 30 = .ok (.iconst (-1), 1) := by decide +kernel
theorem d67_31 : decode prog_1_method_40_code 31 = .ok (.if_icmp .eq 6, 3) := by decide +kernel
theorem d67_34 : decode prog_1_method_40_code 34 = .ok (.iinc 1 1, 3) := by decide +kernel
theorem d67_37 : decode prog_1_method_40_code 37 = .ok (.iinc 4 1, 3) := by decide +kernel
theorem d67_40 : decode prog_1_method_40_code 40 = .ok (.goto (-24), 3) := by decide +kernel
theorem d67_43 : decode prog_1_method_40_code 43 = .ok (.iload_n 1, 1) := by decide +kernel
theorem d67_44 : decode prog_1_method_40_code 44 = .ok (.i2f, 1) := by decide +kernel
theorem d67_45 : decode prog_1_method_40_code 45 = .ok (.ldc 240, 2) := by decide +kernel
theorem d67_47 : decode prog_1_method_40_code 47 = .ok (.fdiv, 1) := by decide +kernel
theorem d67_48 : decode prog_1_method_40_code 48 = .ok (.freturn, 1) := by decide +kernel
theorem d68_0 : decode prog_1_method_42_code 0 = .ok (.iconst 0, 1) := by decide +kernel
theorem d68_1 : decode prog_1_method_42_code 1 = .ok (.istore_n 1, 1) := by decide +kernel
theorem d68_2 : decode prog_1_method_42_code 2 = .ok (.iload_n 1, 1) := by decide +kernel
theorem d68_3 : decode prog_1_method_42_code 3 = .ok (.iconst 3, 1) := by decide +kernel
theorem d68_4 : decode prog_1_method_42_code 4 = .ok (.if_icmp .ge 68, 3) := by decide +kernel
theorem d68_7 : decode prog_1_method_42_code 7 = .ok (.aload_n 0, 1) := by decide +kernel
theorem d68_8 : decode prog_1_method_42_code 8 = .ok (.getfield 33, 3) := by decide +kernel
theorem d68_11 : decode prog_1_method_42_code 11 = .ok (.aload_n 0, 1) := by decide +kernel
theorem d68_12 : decode prog_1_method_42_code 12 = .ok (.getfield 10, 3) := by decide +kernel
theorem d68_15 : decode prog_1_method_42_code 15 = .ok (.iload_n 1, 1) := by decide +kernel
theorem d68_16 : decode prog_1_method_42_code 16 = .ok (.invokevirtual 207, 3) := by decide +kernel
theorem d68_19 : decode prog_1_method_42_code 19 = .ok (.aload_n 0, 1) := by decide +kernel
theorem d68_20 : decode prog_1_method_42_code 20 = .ok (.getfield 33, 3) := by decide +kernel
theorem d68_23 : decode prog_1_method_42_code 23 = .ok (.aload_n 0, 1) := by decide +kernel
theorem d68_24 : decode prog_1_method_42_code 24 = .ok (.getfield 10, 3) := by decide +kernel
theorem d68_27 : decode prog_1_method_42_code 27 = .ok (.iload_n 1, 1) := by decide +kernel
theorem d68_28 : decode prog_1_method_42_code 28 = .ok (.invokevirtual 211, 3) := by decide +kernel
theorem d68_31 : decode prog_1_method_42_code 31 = .ok (.if_icmp .ne 33, 3) := by decide +kernel
theorem d68_34 : decode prog_1_method_42_code 34 = .ok (.aload_n 0, 1) := by decide +kernel
theorem d68_35 : decode prog_1_method_42_code 35 = .ok (.getfield 10, 3) := by decide +kernel
theorem d68_38 : decode prog_1_method_42_code 38 = .ok (.getfield 203, 3) := by decide +kernel
theorem d68_41 : decode prog_1_method_42_code 41 = .ok (.iload_n 1, 1) := by decide +kernel
theorem d68_42 : decode prog_1_method_42_code 42 = .ok (.aaload, 1) := by decide +kernel
theorem d68_43 : decode prog_1_method_42_code 43 = .ok (.invokevirtual 244, 3) := by decide +kernel
theorem d68_46 : decode prog_1_method_42_code 46 = .ok (.bipush 10, 2) := by decide +kernel
theorem d68_48 : decode prog_1_method_42_code 48 = .ok (.if_icmp .gt 16, 3) := by decide +kernel
theorem d68_51 : decode prog_1_method_42_code 51 = .ok (.aload_n 0, 1) := by decide +kernel
theorem d68_52 : decode prog_1_method_42_code 52 = .ok (.getfield 10, 3) := by decide +kernel
theorem d68_55 : decode prog_1_method_42_code 55 = .ok (.iload_n 1, 1) := by decide +kernel
theorem d68_56 : decode prog_1_method_42_code 56 = .ok (.invokevirtual 190, 3) := by decide +kernel
theorem d68_59 : decode prog_1_method_42_code 59 = .ok (.bipush 6, 2) := by decide +kernel
theorem d68_61 : decode prog_1_method_42_code 61 = .ok (.if_icmp .le 5, 3) := by decide +kernel
theorem d68_64 : decode prog_1_method_42_code 64 = .ok (.iconst 0, 1) := by decide +kernel
theorem d68_65 : decode prog_1_method_42_code 65 = .ok (.ireturn, 1) := by decide +kernel
theorem d68_66 : decode prog_1_method_42_code 66 = .ok (.iinc 1 1, 3) := by decide +kernel
theorem d68_69 : decode prog_1_method_42_code 69 = .ok (.goto (-67), 3) := by decide +kernel
theorem d68_72 : decode prog_1_method_42_code 72 = .ok (.aload_n 0, 1) := by decide +kernel
theorem d68_73 : decode prog_1_method_42_code 73 = .ok (.invokevirtual 248, 3) := by decide +kernel
theorem d68_76 : decode prog_1_method_42_code 76 = .ok (.aload_n 0, 1) := by decide +kernel
theorem d68_77 : decode prog_1_method_42_code 77 = .ok (.invokevirtual 252, 3) := by decide +kernel
theorem d68_80 : decode prog_1_method_42_code 80 = .ok (.lcmp, 1) := by decide +kernel
theorem d68_81 : decode prog_1_method_42_code 81 = .ok (.ifCond .ne 7, 3) := by decide +kernel
theorem d68_84 : decode prog_1_method_42_code 84 = .ok (.iconst 1, 1) := by decide +kernel
theorem d68_85 : decode prog_1_method_42_code 85 = .ok (.goto 4, 3) := by decide +kernel
theorem d68_88 : decode prog_1_method_42_code 88 = .ok (.iconst 0, 1) := by decide +kernel
theorem d68_89 : decode prog_1_method_42_code 89 = .ok (.ireturn, 1) := by decide +kernel
theorem d69_0 : decode prog_1_method_63_code 0 = .ok (.iload_n 0, 1) := by decide +kernel
theorem d69_1 : decode prog_1_method_63_code 1 = .ok (.ifCond .lt 12, 3) := by decide +kernel
theorem d69_4 : decode prog_1_method_63_code 4 = .ok (.iload_n 0, 1) := by decide +kernel
theorem d69_5 : decode prog_1_method_63_code 5 = .ok (.iconst 3, 1) := by decide +kernel
theorem d69_6 : decode prog_1_method_63_code 6 = .ok (.if_icmp .ge 7, 3) := by decide +kernel
theorem d69_9 : decode prog_1_method_63_code 9 = .ok (.iconst 1, 1) := by decide +kernel
theorem d69_10 : decode prog_1_method_63_code 10 = .ok (.goto 4, 3) := by decide +kernel
theorem d69_13 : decode prog_1_method_63_code 13 = .ok (.iconst 0, 1) := by decide +kernel
theorem d69_14 : decode prog_1_method_63_code 14 = .ok (.ireturn, 1) := by decide +kernel
theorem d70_0 : decode prog_1_method_65_code 0 = .ok (.iload_n 0, 1) := by decide +kernel
theorem d70_1 : decode prog_1_method_65_code 1 = .ok (.iload_n 2, 1) := by decide +kernel
theorem d70_2 : decode prog_1_method_65_code 2 = .ok (.isub, 1) := by decide +kernel
theorem d70_3 : decode prog_1_method_65_code 3 = .ok (.invokestatic 353, 3) := by decide +kernel
theorem d70_6 : decode prog_1_method_65_code 6 = .ok (.iload_n 1, 1) := by decide +kernel
theorem d70_7 : decode prog_1_method_65_code 7 = .ok (.iload_n 3, 1) := by decide +kernel
theorem d70_8 : decode prog_1_method_65_code 8 = .ok (.isub, 1) := by decide +kernel
theorem d70_9 : decode prog_1_method_65_code 9 = .ok (.invokestatic 353, 3) := by decide +kernel
theorem d70_12 : decode prog_1_method_65_code 12 = .ok (.iadd, 1) := by decide +kernel
theorem d70_13 : decode prog_1_method_65_code 13 = .ok (.ireturn, 1) := by decide +kernel
theorem d71_0 : decode prog_1_method_51_code 0 = .ok (.aload_n 0, 1) := by decide +kernel
theorem d71_1 : decode prog_1_method_51_code 1 = .ok (.getfield 16, 3) := by decide +kernel
theorem d71_4 : decode prog_1_method_51_code 4 = .ok (.aload_n 0, 1) := by decide +kernel
theorem d71_5 : decode prog_1_method_51_code 5 = .ok (.getfield 10, 3) := by decide +kernel
theorem d71_8 : decode prog_1_method_51_code 8 = .ok (.invokevirtual 314, 3) := by decide +kernel
theorem d71_11 : decode prog_1_method_51_code 11 = .ok (.aload_n 0, 1) := by decide +kernel
theorem d71_12 : decode prog_1_method_51_code 12 = .ok (.iconst 1, 1) := by decide +kernel
theorem d71_13 : decode prog_1_method_51_code 13 = .ok (.putfield 19, 3) := by decide +kernel
theorem d71_16 : decode prog_1_method_51_code 16 = .ok (.aload_n 0, 1) := by decide +kernel
theorem d71_17 : decode prog_1_method_51_code 17 = .ok (.getfield 10, 3) := by decide +kernel
theorem d71_20 : decode prog_1_method_51_code 20 = .ok (.getfield 106, 3) := by decide +kernel
theorem d71_23 : decode prog_1_method_51_code 23 = .ok (.ireturn, 1) := by decide +kernel
theorem d72_0 : decode prog_1_method_2_code 0 = .ok (.aload_n 0, 1) := by decide +kernel
theorem d72_1 : decode prog_1_method_2_code 1 = .ok (.getfield 26, 3) := by decide +kernel
theorem d72_4 : decode prog_1_method_2_code 4 = .ok (.aload_n 0, 1) := by decide +kernel
theorem d72_5 : decode prog_1_method_2_code 5 = .ok (.getfield 10, 3) := by decide +kernel
theorem d72_8 : decode prog_1_method_2_code 8 = .ok (.invokevirtual 58, 3) := by decide +kernel
theorem d72_11 : decode prog_1_method_2_code 11 = .ok (.aload_n 0, 1) := by decide +kernel
theorem d72_12 : decode prog_1_method_2_code 12 = .ok (.aload_n 0, 1) := by decide +kernel
theorem d72_13 : decode prog_1_method_2_code 13 = .ok (.getfield 10, 3) := by decide +kernel
theorem d72_16 : decode prog_1_method_2_code 16 = .ok (.iload_n 1, 1) := by decide +kernel
theorem d72_17 : decode prog_1_method_2_code 17 = .ok (.iload_n 2, 1) := by decide +kernel
theorem d72_18 : decode prog_1_method_2_code 18 = .ok (.iload_n 3, 1) := by decide +kernel
theorem d72_19 : decode prog_1_method_2_code 19 = .ok (.invokestatic 62, 3) := by decide +kernel
theorem d72_22 : decode prog_1_method_2_code 22 = .ok (.iload 4, 2) := by decide +kernel
theorem d72_24 : decode prog_1_method_2_code 24 = .ok (.iload 5, 2) := by decide +kernel
theorem d72_26 : decode prog_1_method_2_code 26 = .ok (.iload 6, 2) := by decide +kernel
theorem d72_28 : decode prog_1_method_2_code 28 = .ok (.invokevirtual 66, 3) := by decide +kernel
theorem d72_31 : decode prog_1_method_2_code 31 = .ok (.invokevirtual 70, 3) := by decide +kernel
theorem d72_34 : decode prog_1_method_2_code 34 = .ok (.ireturn, 1) := by decide +kernel
theorem d73_0 : decode prog_1_method_59_code 0 = .ok (.iload_n 0, 1) := by decide +kernel
theorem d73_1 : decode prog_1_method_59_code 1 = .ok (.bipush 97, 2) := by decide +kernel
theorem d73_3 : decode prog_1_method_59_code 3 = .ok (.if_icmp .lt 16, 3) := by decide +kernel
theorem d73_6 : decode prog_1_method_59_code 6 = .ok (.iload_n 0, 1) := by decide +kernel
theorem d73_7 : decode prog_1_method_59_code 7 = .ok (.bipush 101, 2) := by decide +kernel
theorem d73_9 : decode prog_1_method_59_code 9 = .ok (.if_icmp .ge 10, 3) := by decide +kernel
theorem d73_12 : decode prog_1_method_59_code 12 = .ok (.iload_n 0, 1) := by decide +kernel
theorem d73_13 : decode prog_1_method_59_code 13 = .ok (.bipush 97, 2) := by decide +kernel
theorem d73_15 : decode prog_1_method_59_code 15 = .ok (.isub, 1) := by decide +kernel
theorem d73_16 : decode prog_1_method_59_code 16 = .ok (.goto 4, 3) := by decide +kernel
theorem d73_19 : decode prog_1_method_59_code 19 = .ok (.iconst (-1), 1) := by decide +kernel
theorem d73_20 : decode prog_1_method_59_code 20 = .ok (.ireturn, 1) := by decide +kernel
theorem d74_0 : decode prog_1_method_64_code 0 = .ok (.iload_n 0, 1) := by decide +kernel
theorem d74_1 : decode prog_1_method_64_code 1 = .ok (.ifCond .lt 13, 3) := by decide +kernel
theorem d74_4 : decode prog_1_method_64_code 4 = .ok (.iload_n 0, 1) := by decide +kernel
theorem d74_5 : decode prog_1_method_64_code 5 = .ok (.bipush 20, 2) := by decide +kernel
theorem d74_7 : decode prog_1_method_64_code 7 = .ok (.if_icmp .gt 7, 3) := by decide +kernel
theorem d74_10 : decode prog_1_method_64_code 10 = .ok (.iconst 1, 1) := by decide +kernel
theorem d74_11 : decode prog_1_method_64_code 11 = .ok (.goto 4, 3) := by decide +kernel
theorem d74_14 : decode prog_1_method_64_code 14 = .ok (.iconst 0, 1) := by decide +kernel
theorem d74_15 : decode prog_1_method_64_code 15 = .ok (.ireturn, 1) := by decide +kernel
theorem d75_0 : decode prog_1_method_61_code 0 = .ok (.iload_n 0, 1) := by decide +kernel
theorem d75_1 : decode prog_1_method_61_code 1 = .ok (.ifCond .lt 12, 3) := by decide +kernel
theorem d75_4 : decode prog_1_method_61_code 4 = .ok (.iload_n 0, 1) := by decide +kernel
theorem d75_5 : decode prog_1_method_61_code 5 = .ok (.iconst 4, 1) := by decide +kernel
theorem d75_6 : decode prog_1_method_61_code 6 = .ok (.if_icmp .ge 7, 3) := by decide +kernel
theorem d75_9 : decode prog_1_method_61_code 9 = .ok (.iconst 1, 1) := by decide +kernel
theorem d75_10 : decode prog_1_method_61_code 10 = .ok (.goto 4, 3) := by decide +kernel
theorem d75_13 : decode prog_1_method_61_code 13 = .ok (.iconst 0, 1) := by decide +kernel
theorem d75_14 : decode prog_1_method_61_code 14 = .ok (.ireturn, 1) := by decide +kernel
theorem d76_0 : decode prog_1_method_62_code 0 = .ok (.iload_n 0, 1) := by decide +kernel
theorem d76_1 : decode prog_1_method_62_code 1 = .ok (.ifCond .lt 13, 3) := by decide +kernel
theorem d76_4 : decode prog_1_method_62_code 4 = .ok (.iload_n 0, 1) := by decide +kernel
theorem d76_5 : decode prog_1_method_62_code 5 = .ok (.bipush 6, 2) := by decide +kernel
theorem d76_7 : decode prog_1_method_62_code 7 = .ok (.if_icmp .ge 7, 3) := by decide +kernel
theorem d76_10 : decode prog_1_method_62_code 10 = .ok (.iconst 1, 1) := by decide +kernel
theorem d76_11 : decode prog_1_method_62_code 11 = .ok (.goto 4, 3) := by decide +kernel
theorem d76_14 : decode prog_1_method_62_code 14 = .ok (.iconst 0, 1) := by decide +kernel
theorem d76_15 : decode prog_1_method_62_code 15 = .ok (.ireturn, 1) := by decide +kernel
theorem d77_0 : decode prog_1_method_53_code 0 = .ok (.iload_n 1, 1) := by decide +kernel
theorem d77_1 : decode prog_1_method_53_code 1 = .ok (.tableswitch 75 (-5) (-1) #[67, 59, 51, 43, 35], 35) := by decide +kernel
theorem d77_36 : decode prog_1_method_53_code 36 = .ok (.new 294, 3) := by decide +kernel
theorem d77_39 : decode prog_1_method_53_code 39 = .ok (.dup, 1) := by decide +kernel
theorem d77_40 : decode prog_1_method_53_code 40 = .ok (.invokespecial 296, 3) := by decide +kernel
theorem d77_43 : decode prog_1_method_53_code 43 = .ok (.athrow, 1) := by decide +kernel
theorem d77_44 : decode prog_1_method_53_code 44 = .ok (.new 283, 3) := by decide +kernel
theorem d77_47 : decode prog_1_method_53_code 47 = .ok (.dup, 1) := by decide +kernel
theorem d77_48 : decode prog_1_method_53_code 48 = .ok (.invokespecial 285, 3) := by decide +kernel
theorem d77_51 : decode prog_1_method_53_code 51 = .ok (.athrow, 1) := by decide +kernel
theorem d77_52 : decode prog_1_method_53_code 52 = .ok (.new 171, 3) := by decide +kernel
theorem d77_55 : decode prog_1_method_53_code 55 = .ok (.dup, 1) := by decide +kernel
theorem d77_56 : decode prog_1_method_53_code 56 = .ok (.invokespecial 173, 3) := by decide +kernel
theorem d77_59 : decode prog_1_method_53_code 59 = .ok (.athrow, 1) := by decide +kernel
theorem d77_60 : decode prog_1_method_53_code 60 = .ok (.new 134, 3) := by decide +kernel
theorem d77_63 : decode prog_1_method_53_code 63 = .ok (.dup, 1) := by decide +kernel
theorem d77_64 : decode prog_1_method_53_code 64 = .ok (.invokespecial 136, 3) := by decide +kernel
theorem d77_67 : decode prog_1_method_53_code 67 = .ok (.athrow, 1) := by decide +kernel
theorem d77_68 : decode prog_1_method_53_code 68 = .ok (.new 303, 3) := by decide +kernel
theorem d77_71 : decode prog_1_method_53_code 71 = .ok (.dup, 1) := by decide +kernel
theorem d77_72 : decode prog_1_method_53_code 72 = .ok (.invokespecial 305, 3) := by decide +kernel
theorem d77_75 : decode prog_1_method_53_code 75 = .ok (.athrow, 1) := by decide +kernel
theorem d77_76 : decode prog_1_method_53_code 76 = .ok (.aload_n 0, 1) := by decide +kernel
theorem d77_77 : decode prog_1_method_53_code 77 = .ok (.getfield 26, 3) := by decide +kernel
theorem d77_80 : decode prog_1_method_53_code 80 = .ok (.invokevirtual 306, 3) := by decide +kernel
theorem d77_83 : decode prog_1_method_53_code 83 = .ok (.iload_n 1, 1) := by decide +kernel
theorem d77_84 : decode prog_1_method_53_code 84 = .ok (.ireturn, 1) := by decide +kernel
theorem d78_0 : decode prog_1_method_3_code 0 = .ok (.aload_n 0, 1) := by decide +kernel
theorem d78_1 : decode prog_1_method_3_code 1 = .ok (.getfield 26, 3) := by decide +kernel
theorem d78_4 : decode prog_1_method_3_code 4 = .ok (.aload_n 0, 1) := by decide +kernel
theorem d78_5 : decode prog_1_method_3_code 5 = .ok (.getfield 10, 3) := by decide +kernel
theorem d78_8 : decode prog_1_method_3_code 8 = .ok (.invokevirtual 58, 3) := by decide +kernel
theorem d78_11 : decode prog_1_method_3_code 11 = .ok (.aload_n 0, 1) := by decide +kernel
theorem d78_12 : decode prog_1_method_3_code 12 = .ok (.aload_n 0, 1) := by decide +kernel
theorem d78_13 : decode prog_1_method_3_code 13 = .ok (.getfield 10, 3) := by decide +kernel
theorem d78_16 : decode prog_1_method_3_code 16 = .ok (.iload_n 1, 1) := by decide +kernel
theorem d78_17 : decode prog_1_method_3_code 17 = .ok (.invokevirtual 74, 3) := by decide +kernel
theorem d78_20 : decode prog_1_method_3_code 20 = .ok (.invokevirtual 70, 3) := by decide +kernel
theorem d78_23 : decode prog_1_method_3_code 23 = .ok (.ireturn, 1) := by decide +kernel
theorem d79_0 : decode prog_1_method_4_code 0 = .ok (.aload_n 0, 1) := by decide +kernel
theorem d79_1 : decode prog_1_method_4_code 1 = .ok (.getfield 26, 3) := by decide +kernel
theorem d79_4 : decode prog_1_method_4_code 4 = .ok (.aload_n 0, 1) := by decide +kernel
theorem d79_5 : decode prog_1_method_4_code 5 = .ok (.getfield 10, 3) := by decide +kernel
theorem d79_8 : decode prog_1_method_4_code 8 = .ok (.invokevirtual 58, 3) := by decide +kernel
theorem d79_11 : decode prog_1_method_4_code 11 = .ok (.aload_n 0, 1) := by decide +kernel
theorem d79_12 : decode prog_1_method_4_code 12 = .ok (.aload_n 0, 1) := by decide +kernel
theorem d79_13 : decode prog_1_method_4_code 13 = .ok (.getfield 10, 3) := by decide +kernel
theorem d79_16 : decode prog_1_method_4_code 16 = .ok (.iload_n 1, 1) := by decide +kernel
theorem d79_17 : decode prog_1_method_4_code 17 = .ok (.iload_n 2, 1) := by decide +kernel
theorem d79_18 : decode prog_1_method_4_code 18 = .ok (.invokevirtual 77, 3) := by decide +kernel
theorem d79_21 : decode prog_1_method_4_code 21 = .ok (.invokevirtual 70, 3) := by decide +kernel
theorem d79_24 : decode prog_1_method_4_code 24 = .ok (.ireturn, 1) := by decide +kernel
theorem d80_0 : decode prog_1_method_5_code 0 = .ok (.aload_n 0, 1) := by decide +kernel
theorem d80_1 : decode prog_1_method_5_code 1 = .ok (.getfield 26, 3) := by decide +kernel
theorem d80_4 : decode prog_1_method_5_code 4 = .ok (.aload_n 0, 1) := by decide +kernel
theorem d80_5 : decode prog_1_method_5_code 5 = .ok (.getfield 10, 3) := by decide +kernel
theorem d80_8 : decode prog_1_method_5_code 8 = .ok (.invokevirtual 58, 3) := by decide +kernel
theorem d80_11 : decode prog_1_method_5_code 11 = .ok (.aload_n 0, 1) := by decide +kernel
theorem d80_12 : decode prog_1_method_5_code 12 = .ok (.aload_n 0, 1) := by decide +kernel
theorem d80_13 : decode prog_1_method_5_code 13 = .ok (.getfield 10, 3) := by decide +kernel
theorem d80_16 : decode prog_1_method_5_code 16 = .ok (.iload_n 1, 1) := by decide +kernel
theorem d80_17 : decode prog_1_method_5_code 17 = .ok (.invokevirtual 81, 3) := by decide +kernel
theorem d80_20 : decode prog_1_method_5_code 20 = .ok (.invokevirtual 70, 3) := by decide +kernel
theorem d80_23 : decode prog_1_method_5_code 23 = .ok (.ireturn, 1) := by decide +kernel
theorem d81_0 : decode prog_1_method_6_code 0 = .ok (.aload_n 0, 1) := by decide +kernel
theorem d81_1 : decode prog_1_method_6_code 1 = .ok (.getfield 26, 3) := by decide +kernel
theorem d81_4 : decode prog_1_method_6_code 4 = .ok (.aload_n 0, 1) := by decide +kernel
theorem d81_5 : decode prog_1_method_6_code 5 = .ok (.getfield 10, 3) := by decide +kernel
theorem d81_8 : decode prog_1_method_6_code 8 = .ok (.invokevirtual 58, 3) := by decide +kernel
theorem d81_11 : decode prog_1_method_6_code 11 = .ok (.aload_n 0, 1) := by decide +kernel
theorem d81_12 : decode prog_1_method_6_code 12 = .ok (.aload_n 0, 1) := by decide +kernel
theorem d81_13 : decode prog_1_method_6_code 13 = .ok (.getfield 10, 3) := by decide +kernel
theorem d81_16 : decode prog_1_method_6_code 16 = .ok (.iload_n 1, 1) := by decide +kernel
theorem d81_17 : decode prog_1_method_6_code 17 = .ok (.invokestatic 62, 3) := by decide +kernel
theorem d81_20 : decode prog_1_method_6_code 20 = .ok (.iload_n 2, 1) := by decide +kernel
theorem d81_21 : decode prog_1_method_6_code 21 = .ok (.invokevirtual 84, 3) := by decide +kernel
theorem d81_24 : decode prog_1_method_6_code 24 = .ok (.invokevirtual 70, 3) := by decide +kernel
theorem d81_27 : decode prog_1_method_6_code 27 = .ok (.ireturn, 1) := by decide +kernel
theorem d82_0 : decode prog_1_method_7_code 0 = .ok (.aload_n 0, 1) := by decide +kernel
theorem d82_1 : decode prog_1_method_7_code 1 = .ok (.getfield 26, 3) := by decide +kernel
theorem d82_4 : decode prog_1_method_7_code 4 = .ok (.aload_n 0, 1) := by decide +kernel
theorem d82_5 : decode prog_1_method_7_code 5 = .ok (.getfield 10, 3) := by decide +kernel
theorem d82_8 : decode prog_1_method_7_code 8 = .ok (.invokevirtual 58, 3) := by decide +kernel
theorem d82_11 : decode prog_1_method_7_code 11 = .ok (.aload_n 0, 1) := by decide +kernel
theorem d82_12 : decode prog_1_method_7_code 12 = .ok (.aload_n 0, 1) := by decide +kernel
theorem d82_13 : decode prog_1_method_7_code 13 = .ok (.getfield 10, 3) := by decide +kernel
theorem d82_16 : decode prog_1_method_7_code 16 = .ok (.iload_n 1, 1) := by decide +kernel
theorem d82_17 : decode prog_1_method_7_code 17 = .ok (.iload_n 2, 1) := by decide +kernel
theorem d82_18 : decode prog_1_method_7_code 18 = .ok (.invokestatic 62, 3) := by decide +kernel
theorem d82_21 : decode prog_1_method_7_code 21 = .ok (.iload_n 3, 1) := by decide +kernel
theorem d82_22 : decode prog_1_method_7_code 22 = .ok (.invokevirtual 87, 3) := by decide +kernel
theorem d82_25 : decode prog_1_method_7_code 25 = .ok (.invokevirtual 70, 3) := by decide +kernel
theorem d82_28 : decode prog_1_method_7_code 28 = .ok (.ireturn, 1) := by decide +kernel
theorem d83_0 : decode prog_1_method_8_code 0 = .ok (.aload_n 0, 1) := by decide +kernel
theorem d83_1 : decode prog_1_method_8_code 1 = .ok (.getfield 26, 3) := by decide +kernel
theorem d83_4 : decode prog_1_method_8_code 4 = .ok (.aload_n 0, 1) := by decide +kernel
theorem d83_5 : decode prog_1_method_8_code 5 = .ok (.getfield 10, 3) := by decide +kernel
theorem d83_8 : decode prog_1_method_8_code 8 = .ok (.invokevirtual 58, 3) := by decide +kernel
theorem d83_11 : decode prog_1_method_8_code 11 = .ok (.aload_n 0, 1) := by decide +kernel
theorem d83_12 : decode prog_1_method_8_code 12 = .ok (.aload_n 0, 1) := by decide +kernel
theorem d83_13 : decode prog_1_method_8_code 13 = .ok (.getfield 10, 3) := by decide +kernel
theorem d83_16 : decode prog_1_method_8_code 16 = .ok (.iload_n 1, 1) := by decide +kernel
theorem d83_17 : decode prog_1_method_8_code 17 = .ok (.iload_n 2, 1) := by decide +kernel
theorem d83_18 : decode prog_1_method_8_code 18 = .ok (.invokevirtual 91, 3) := by decide +kernel
theorem d83_21 : decode prog_1_method_8_code 21 = .ok (.invokevirtual 70, 3) := by decide +kernel
theorem d83_24 : decode prog_1_method_8_code 24 = .ok (.ireturn, 1) := by decide +kernel
theorem d84_0 : decode prog_1_method_9_code 0 = .ok (.aload_n 0, 1) := by decide +kernel
theorem d84_1 : decode prog_1_method_9_code 1 = .ok (.getfield 26, 3) := by decide +kernel
theorem d84_4 : decode prog_1_method_9_code 4 = .ok (.aload_n 0, 1) := by decide +kernel
theorem d84_5 : decode prog_1_method_9_code 5 = .ok (.getfield 10, 3) := by decide +kernel
theorem d84_8 : decode prog_1_method_9_code 8 = .ok (.invokevirtual 58, 3) := by decide +kernel
theorem d84_11 : decode prog_1_method_9_code 11 = .ok (.aload_n 0, 1) := by decide +kernel
theorem d84_12 : decode prog_1_method_9_code 12 = .ok (.aload_n 0, 1) := by decide +kernel
theorem d84_13 : decode prog_1_method_9_code 13 = .ok (.getfield 10, 3) := by decide +kernel
theorem d84_16 : decode prog_1_method_9_code 16 = .ok (.iload_n 1, 1) := by decide +kernel
theorem d84_17 : decode prog_1_method_9_code 17 = .ok (.iload_n 2, 1) := by decide +kernel
theorem d84_18 : decode prog_1_method_9_code 18 = .ok (.invokevirtual 94, 3) := by decide +kernel
theorem d84_21 : decode prog_1_method_9_code 21 = .ok (.invokevirtual 70, 3) := by decide +kernel
theorem d84_24 : decode prog_1_method_9_code 24 = .ok (.ireturn, 1) := by decide +kernel
theorem d85_0 : decode prog_1_method_10_code 0 = .ok (.aload_n 0, 1) := by decide +kernel
theorem d85_1 : decode prog_1_method_10_code 1 = .ok (.getfield 26, 3) := by decide +kernel
theorem d85_4 : decode prog_1_method_10_code 4 = .ok (.aload_n 0, 1) := by decide +kernel
theorem d85_5 : decode prog_1_method_10_code 5 = .ok (.getfield 10, 3) := by decide +kernel
theorem d85_8 : decode prog_1_method_10_code 8 = .ok (.invokevirtual 58, 3) := by decide +kernel
theorem d85_11 : decode prog_1_method_10_code 11 = .ok (.aload_n 0, 1) := by decide +kernel
theorem d85_12 : decode prog_1_method_10_code 12 = .ok (.aload_n 0, 1) := by decide +kernel
theorem d85_13 : decode prog_1_method_10_code 13 = .ok (.getfield 10, 3) := by decide +kernel
theorem d85_16 : decode prog_1_method_10_code 16 = .ok (.iload_n 1, 1) := by decide +kernel
theorem d85_17 : decode prog_1_method_10_code 17 = .ok (.iload_n 2, 1) := by decide +kernel
theorem d85_18 : decode prog_1_method_10_code 18 = .ok (.invokevirtual 97, 3) := by decide +kernel
theorem d85_21 : decode prog_1_method_10_code 21 = .ok (.invokevirtual 70, 3) := by decide +kernel
theorem d85_24 : decode prog_1_method_10_code 24 = .ok (.ireturn, 1) := by decide +kernel
theorem d86_0 : decode prog_1_method_11_code 0 = .ok (.aload_n 0, 1) := by decide +kernel
theorem d86_1 : decode prog_1_method_11_code 1 = .ok (.getfield 26, 3) := by decide +kernel
theorem d86_4 : decode prog_1_method_11_code 4 = .ok (.aload_n 0, 1) := by decide +kernel
theorem d86_5 : decode prog_1_method_11_code 5 = .ok (.getfield 10, 3) := by decide +kernel
theorem d86_8 : decode prog_1_method_11_code 8 = .ok (.invokevirtual 58, 3) := by decide +kernel
theorem d86_11 : decode prog_1_method_11_code 11 = .ok (.aload_n 0, 1) := by decide +kernel
theorem d86_12 : decode prog_1_method_11_code 12 = .ok (.aload_n 0, 1) := by decide +kernel
theorem d86_13 : decode prog_1_method_11_code 13 = .ok (.getfield 10, 3) := by decide +kernel
theorem d86_16 : decode prog_1_method_11_code 16 = .ok (.iload_n 1, 1) := by decide +kernel
theorem d86_17 : decode prog_1_method_11_code 17 = .ok (.invokevirtual 100, 3) := by decide +kernel
theorem d86_20 : decode prog_1_method_11_code 20 = .ok (.invokevirtual 70, 3) := by decide +kernel
theorem d86_23 : decode prog_1_method_11_code 23 = .ok (.ireturn, 1) := by decide +kernel
theorem d87_0 : decode prog_1_method_12_code 0 = .ok (.aload_n 0, 1) := by decide +kernel
theorem d87_1 : decode prog_1_method_12_code 1 = .ok (.getfield 26, 3) := by decide +kernel
theorem d87_4 : decode prog_1_method_12_code 4 = .ok (.aload_n 0, 1) := by decide +kernel
theorem d87_5 : decode prog_1_method_12_code 5 = .ok (.getfield 10, 3) := by decide +kernel
theorem d87_8 : decode prog_1_method_12_code 8 = .ok (.invokevirtual 58, 3) := by decide +kernel
theorem d87_11 : decode prog_1_method_12_code 11 = .ok (.aload_n 0, 1) := by decide +kernel
theorem d87_12 : decode prog_1_method_12_code 12 = .ok (.aload_n 0, 1) := by decide +kernel
theorem d87_13 : decode prog_1_method_12_code 13 = .ok (.getfield 10, 3) := by decide +kernel
theorem d87_16 : decode prog_1_method_12_code 16 = .ok (.iload_n 1, 1) := by decide +kernel
theorem d87_17 : decode prog_1_method_12_code 17 = .ok (.iload_n 2, 1) := by decide +kernel
theorem d87_18 : decode prog_1_method_12_code 18 = .ok (.invokevirtual 103, 3) := by decide +kernel
theorem d87_21 : decode prog_1_method_12_code 21 = .ok (.invokevirtual 70, 3) := by decide +kernel
theorem d87_24 : decode prog_1_method_12_code 24 = .ok (.ireturn, 1) := by decide +kernel
theorem d88_0 : decode prog_1_method_15_code 0 = .ok (.aload_n 0, 1) := by decide +kernel
theorem d88_1 : decode prog_1_method_15_code 1 = .ok (.iload_n 1, 1) := by decide +kernel
theorem d88_2 : decode prog_1_method_15_code 2 = .ok (.invokevirtual 113, 3) := by decide +kernel
theorem d88_5 : decode prog_1_method_15_code 5 = .ok (.getfield 116, 3) := by decide +kernel
theorem d88_8 : decode prog_1_method_15_code 8 = .ok (.invokestatic 121, 3) := by decide +kernel
theorem d88_11 : decode prog_1_method_15_code 11 = .ok (.ireturn, 1) := by decide +kernel
theorem d89_0 : decode prog_1_method_57_code 0 = .ok (.aload_n 0, 1) := by decide +kernel
theorem d89_1 : decode prog_1_method_57_code 1 = .ok (.getfield 10, 3) := by decide +kernel
theorem d89_4 : decode prog_1_method_57_code 4 = .ok (.iload_n 1, 1) := by decide +kernel
theorem d89_5 : decode prog_1_method_57_code 5 = .ok (.invokevirtual 109, 3) := by decide +kernel
theorem d89_8 : decode prog_1_method_57_code 8 = .ok (.astore_n 2, 1) := by decide +kernel
theorem d89_9 : decode prog_1_method_57_code 9 = .ok (.aload_n 2, 1) := by decide +kernel
theorem d89_10 : decode prog_1_method_57_code 10 = .ok (.ifnonnull 11, 3) := by decide +kernel
theorem d89_13 : decode prog_1_method_57_code 13 = .ok (.new 134, 3) := by decide +kernel
theorem d89_16 : decode prog_1_method_57_code 16 = .ok (.dup, 1) := by decide +kernel
theorem d89_17 : decode prog_1_method_57_code 17 = .ok (.invokespecial 136, 3) := by decide +kernel
theorem d89_20 : decode prog_1_method_57_code 20 = .ok (.athrow, 1) := by decide +kernel
theorem d89_21 : decode prog_1_method_57_code 21 = .ok (.aload_n 2, 1) := by decide +kernel
theorem d89_22 : decode prog_1_method_57_code 22 = .ok (.areturn, 1) := by decide +kernel
theorem d90_0 : decode prog_1_method_60_code 0 = .ok (.bipush 97, 2) := by decide +kernel
theorem d90_2 : decode prog_1_method_60_code 2 = .ok (.iload_n 0, 1) := by decide +kernel
theorem d90_3 : decode prog_1_method_60_code 3 = .ok (.iadd, 1) := by decide +kernel
theorem d90_4 : decode prog_1_method_60_code 4 = .ok (.i2c, 1) := by decide +kernel
theorem d90_5 : decode prog_1_method_60_code 5 = .ok (.ireturn, 1) := by decide +kernel
theorem d91_0 : decode prog_1_method_16_code 0 = .ok (.aload_n 0, 1) := by decide +kernel
theorem d91_1 : decode prog_1_method_16_code 1 = .ok (.iload_n 1, 1) := by decide +kernel
theorem d91_2 : decode prog_1_method_16_code 2 = .ok (.invokevirtual 113, 3) := by decide +kernel
theorem d91_5 : decode prog_1_method_16_code 5 = .ok (.getfield 125, 3) := by decide +kernel
theorem d91_8 : decode prog_1_method_16_code 8 = .ok (.ireturn, 1) := by decide +kernel
theorem d92_0 : decode prog_1_method_17_code 0 = .ok (.aload_n 0, 1) := by decide +kernel
theorem d92_1 : decode prog_1_method_17_code 1 = .ok (.iload_n 1, 1) := by decide +kernel
theorem d92_2 : decode prog_1_method_17_code 2 = .ok (.invokevirtual 113, 3) := by decide +kernel
theorem d92_5 : decode prog_1_method_17_code 5 = .ok (.getfield 128, 3) := by decide +kernel
theorem d92_8 : decode prog_1_method_17_code 8 = .ok (.ireturn, 1) := by decide +kernel
theorem d93_0 : decode prog_1_method_18_code 0 = .ok (.aload_n 0, 1) := by decide +kernel
theorem d93_1 : decode prog_1_method_18_code 1 = .ok (.iload_n 1, 1) := by decide +kernel
theorem d93_2 : decode prog_1_method_18_code 2 = .ok (.invokevirtual 113, 3) := by decide +kernel
theorem d93_5 : decode prog_1_method_18_code 5 = .ok (.getfield 131, 3) := by decide +kernel
theorem d93_8 : decode prog_1_method_18_code 8 = .ok (.istore_n 2, 1) := by decide +kernel
theorem d93_9 : decode prog_1_method_18_code 9 = .ok (.iload_n 2, 1) := by decide +kernel
theorem d93_10 : decode prog_1_method_18_code 10 = .ok (.iconst (-1), 1) := by decide +kernel
theorem d93_11 : decode prog_1_method_18_code 11 = .ok (.if_icmp .ne 11, 3) := by decide +kernel
theorem d93_14 : decode prog_1_method_18_code 14 = .ok (.new 134, 3) := by decide +kernel
theorem d93_17 : decode prog_1_method_18_code 17 = .ok (.dup, 1) := by decide +kernel
theorem d93_18 : decode prog_1_method_18_code 18 = .ok (.invokespecial 136, 3) := by decide +kernel
theorem d93_21 : decode prog_1_method_18_code 21 = .ok (.athrow, 1) := by decide +kernel
theorem d93_22 : decode prog_1_method_18_code 22 = .ok (.iload_n 2, 1) := by decide +kernel
theorem d93_23 : decode prog_1_method_18_code 23 = .ok (.ireturn, 1) := by decide +kernel
theorem d94_0 : decode prog_1_method_19_code 0 = .ok (.iconst 0, 1) := by decide +kernel
theorem d94_1 : decode prog_1_method_19_code 1 = .ok (.istore_n 2, 1) := by decide +kernel
theorem d94_2 : decode prog_1_method_19_code 2 = .ok (.iload_n 2, 1) := by decide +kernel
theorem d94_3 : decode prog_1_method_19_code 3 = .ok (.aload_n 0, 1) := by decide +kernel
theorem d94_4 : decode prog_1_method_19_code 4 = .ok (.getfield 10, 3) := by decide +kernel
theorem d94_7 : decode prog_1_method_19_code 7 = .ok (.getfield 106, 3) := by decide +kernel
theorem d94_10 : decode prog_1_method_19_code 10 = .ok (.if_icmp .ge 36, 3) := by decide +kernel
theorem d94_13 : decode prog_1_method_19_code 13 = .ok (.aload_n 0, 1) := by decide +kernel
theorem d94_14 : decode prog_1_method_19_code 14 = .ok (.getfield 10, 3) := by decide +kernel
theorem d94_17 : decode prog_1_method_19_code 17 = .ok (.getfield 137, 3) := by decide +kernel
theorem d94_20 : decode prog_1_method_19_code 20 = .ok (.iload_n 2, 1) := by decide +kernel
theorem d94_21 : decode prog_1_method_19_code 21 = .ok (.aaload, 1) := by decide +kernel
theorem d94_22 : decode prog_1_method_19_code 22 = .ok (.astore_n 3, 1) := by decide +kernel
theorem d94_23 : decode prog_1_method_19_code 23 = .ok (.aload_n 0, 1) := by decide +kernel
theorem d94_24 : decode prog_1_method_19_code 24 = .ok (.getfield 10, 3) := by decide +kernel
theorem d94_27 : decode prog_1_method_19_code 27 = .ok (.aload_n 3, 1) := by decide +kernel
theorem d94_28 : decode prog_1_method_19_code 28 = .ok (.invokevirtual 141, 3) := by decide +kernel
theorem d94_31 : decode prog_1_method_19_code 31 = .ok (.iload_n 1, 1) := by decide +kernel
theorem d94_32 : decode prog_1_method_19_code 32 = .ok (.if_icmp .ne 8, 3) := by decide +kernel
theorem d94_35 : decode prog_1_method_19_code 35 = .ok (.aload_n 3, 1) := by decide +kernel
theorem d94_36 : decode prog_1_method_19_code 36 = .ok (.getfield 145, 3) := by decide +kernel
theorem d94_39 : decode prog_1_method_19_code 39 = .ok (.ireturn, 1) := by decide +kernel
theorem d94_40 : decode prog_1_method_19_code 40 = .ok (.iinc 2 1, 3) := by decide +kernel
theorem d94_43 : decode prog_1_method_19_code 43 = .ok (.goto (-41), 3) := by decide +kernel
theorem d94_46 : decode prog_1_method_19_code 46 = .ok (.new 134, 3) := by decide +kernel
theorem d94_49 : decode prog_1_method_19_code 49 = .ok (.dup, 1) := by decide +kernel
theorem d94_50 : decode prog_1_method_19_code 50 = .ok (.invokespecial 136, 3) := by decide +kernel
theorem d94_53 : decode prog_1_method_19_code 53 = .ok (.athrow, 1) := by decide +kernel
theorem d95_0 : decode prog_1_method_20_code 0 = .ok (.aload_n 0, 1) := by decide +kernel
theorem d95_1 : decode prog_1_method_20_code 1 = .ok (.getfield 10, 3) := by decide +kernel
theorem d95_4 : decode prog_1_method_20_code 4 = .ok (.getfield 148, 3) := by decide +kernel
theorem d95_7 : decode prog_1_method_20_code 7 = .ok (.iload_n 1, 1) := by decide +kernel
theorem d95_8 : decode prog_1_method_20_code 8 = .ok (.invokestatic 152, 3) := by decide +kernel
theorem d95_11 : decode prog_1_method_20_code 11 = .ok (.iaload, 1) := by decide +kernel
theorem d95_12 : decode prog_1_method_20_code 12 = .ok (.ireturn, 1) := by decide +kernel
theorem d96_0 : decode prog_1_method_58_code 0 = .ok (.iload_n 0, 1) := by decide +kernel
theorem d96_1 : decode prog_1_method_58_code 1 = .ok (.invokestatic 62, 3) := by decide +kernel
theorem d96_4 : decode prog_1_method_58_code 4 = .ok (.istore_n 1, 1) := by decide +kernel
theorem d96_5 : decode prog_1_method_58_code 5 = .ok (.iload_n 1, 1) := by decide +kernel
theorem d96_6 : decode prog_1_method_58_code 6 = .ok (.invokestatic 350, 3) := by decide +kernel
theorem d96_9 : decode prog_1_method_58_code 9 = .ok (.ifCond .ne 11, 3) := by decide +kernel
theorem d96_12 : decode prog_1_method_58_code 12 = .ok (.new 294, 3) := by decide +kernel
theorem d96_15 : decode prog_1_method_58_code 15 = .ok (.dup, 1) := by decide +kernel
theorem d96_16 : decode prog_1_method_58_code 16 = .ok (.invokespecial 296, 3) := by decide +kernel
theorem d96_19 : decode prog_1_method_58_code 19 = .ok (.athrow, 1) := by decide +kernel
theorem d96_20 : decode prog_1_method_58_code 20 = .ok (.iload_n 1, 1) := by decide +kernel
theorem d96_21 : decode prog_1_method_58_code 21 = .ok (.ireturn, 1) := by decide +kernel
theorem d97_0 : decode prog_1_method_21_code 0 = .ok (.aload_n 0, 1) := by decide +kernel
theorem d97_1 : decode prog_1_method_21_code 1 = .ok (.iload_n 1, 1) := by decide +kernel
theorem d97_2 : decode prog_1_method_21_code 2 = .ok (.invokevirtual 155, 3) := by decide +kernel
theorem d97_5 : decode prog_1_method_21_code 5 = .ok (.astore_n 3, 1) := by decide +kernel
theorem d97_6 : decode prog_1_method_21_code 6 = .ok (.aload_n 3, 1) := by decide +kernel
theorem d97_7 : decode prog_1_method_21_code 7 = .ok (.getfield 159, 3) := by decide +kernel
theorem d97_10 : decode prog_1_method_21_code 10 = .ok (.iload_n 2, 1) := by decide +kernel
theorem d97_11 : decode prog_1_method_21_code 11 = .ok (.invokestatic 152, 3) := by decide +kernel
theorem d97_14 : decode prog_1_method_21_code 14 = .ok (.iaload, 1) := by decide +kernel
theorem d97_15 : decode prog_1_method_21_code 15 = .ok (.ireturn, 1) := by decide +kernel
theorem d98_0 : decode prog_1_method_56_code 0 = .ok (.iload_n 1, 1) := by decide +kernel
theorem d98_1 : decode prog_1_method_56_code 1 = .ok (.invokestatic 347, 3) := by decide +kernel
theorem d98_4 : decode prog_1_method_56_code 4 = .ok (.ifCond .ne 11, 3) := by decide +kernel
theorem d98_7 : decode prog_1_method_56_code 7 = .ok (.new 171, 3) := by decide +kernel
theorem d98_10 : decode prog_1_method_56_code 10 = .ok (.dup, 1) := by decide +kernel
theorem d98_11 : decode prog_1_method_56_code 11 = .ok (.invokespecial 173, 3) := by decide +kernel
theorem d98_14 : decode prog_1_method_56_code 14 = .ok (.athrow, 1) := by decide +kernel
theorem d98_15 : decode prog_1_method_56_code 15 = .ok (.aload_n 0, 1) := by decide +kernel
theorem d98_16 : decode prog_1_method_56_code 16 = .ok (.getfield 10, 3) := by decide +kernel
theorem d98_19 : decode prog_1_method_56_code 19 = .ok (.getfield 203, 3) := by decide +kernel
theorem d98_22 : decode prog_1_method_56_code 22 = .ok (.iload_n 1, 1) := by decide +kernel
theorem d98_23 : decode prog_1_method_56_code 23 = .ok (.aaload, 1) := by decide +kernel
theorem d98_24 : decode prog_1_method_56_code 24 = .ok (.areturn, 1) := by decide +kernel
theorem d99_0 : decode prog_1_method_22_code 0 = .ok (.aload_n 0, 1) := by decide +kernel
theorem d99_1 : decode prog_1_method_22_code 1 = .ok (.iload_n 1, 1) := by decide +kernel
theorem d99_2 : decode prog_1_method_22_code 2 = .ok (.invokevirtual 155, 3) := by decide +kernel
theorem d99_5 : decode prog_1_method_22_code 5 = .ok (.pop, 1) := by decide +kernel
theorem d99_6 : decode prog_1_method_22_code 6 = .ok (.aload_n 0, 1) := by decide +kernel
theorem d99_7 : decode prog_1_method_22_code 7 = .ok (.getfield 10, 3) := by decide +kernel
theorem d99_10 : decode prog_1_method_22_code 10 = .ok (.iload_n 1, 1) := by decide +kernel
theorem d99_11 : decode prog_1_method_22_code 11 = .ok (.invokevirtual 164, 3) := by decide +kernel
theorem d99_14 : decode prog_1_method_22_code 14 = .ok (.ireturn, 1) := by decide +kernel
theorem d100_0 : decode prog_1_method_23_code 0 = .ok (.iload_n 1, 1) := by decide +kernel
theorem d100_1 : decode prog_1_method_23_code 1 = .ok (.invokestatic 167, 3) := by decide +kernel
theorem d100_4 : decode prog_1_method_23_code 4 = .ok (.ifCond .ne 11, 3) := by decide +kernel
theorem d100_7 : decode prog_1_method_23_code 7 = .ok (.new 171, 3) := by decide +kernel
theorem d100_10 : decode prog_1_method_23_code 10 = .ok (.dup, 1) := by decide +kernel
theorem d100_11 : decode prog_1_method_23_code 11 = .ok (.invokespecial 173, 3) := by decide +kernel
theorem d100_14 : decode prog_1_method_23_code 14 = .ok (.athrow, 1) := by decide +kernel
theorem d100_15 : decode prog_1_method_23_code 15 = .ok (.aload_n 0, 1) := by decide +kernel
theorem d100_16 : decode prog_1_method_23_code 16 = .ok (.getfield 10, 3) := by decide +kernel
theorem d100_19 : decode prog_1_method_23_code 19 = .ok (.getfield 174, 3) := by decide +kernel
theorem d100_22 : decode prog_1_method_23_code 22 = .ok (.iload_n 1, 1) := by decide +kernel
theorem d100_23 : decode prog_1_method_23_code 23 = .ok (.iaload, 1) := by decide +kernel
theorem d100_24 : decode prog_1_method_23_code 24 = .ok (.istore_n 2, 1) := by decide +kernel
theorem d100_25 : decode prog_1_method_23_code 25 = .ok (.iload_n 2, 1) := by decide +kernel
theorem d100_26 : decode prog_1_method_23_code 26 = .ok (.iconst (-1), 1) := by decide +kernel
theorem d100_27 : decode prog_1_method_23_code 27 = .ok (.if_icmp .ne 11, 3) := by decide +kernel
theorem d100_30 : decode prog_1_method_23_code 30 = .ok (.new 134, 3) := by decide +kernel
theorem d100_33 : decode prog_1_method_23_code 33 = .ok (.dup, 1) := by decide +kernel
theorem d100_34 : decode prog_1_method_23_code 34 = .ok (.invokespecial 136, 3) := by decide +kernel
theorem d100_37 : decode prog_1_method_23_code 37 = .ok (.athrow, 1) := by decide +kernel
theorem d100_38 : decode prog_1_method_23_code 38 = .ok (.iload_n 2, 1) := by decide +kernel
theorem d100_39 : decode prog_1_method_23_code 39 = .ok (.ireturn, 1) := by decide +kernel
theorem d101_0 : decode prog_1_method_24_code 0 = .ok (.aload_n 0, 1) := by decide +kernel
theorem d101_1 : decode prog_1_method_24_code 1 = .ok (.iload_n 1, 1) := by decide +kernel
theorem d101_2 : decode prog_1_method_24_code 2 = .ok (.invokevirtual 155, 3) := by decide +kernel
theorem d101_5 : decode prog_1_method_24_code 5 = .ok (.getfield 177, 3) := by decide +kernel
theorem d101_8 : decode prog_1_method_24_code 8 = .ok (.ireturn, 1) := by decide +kernel
theorem d102_0 : decode prog_1_method_25_code 0 = .ok (.aload_n 0, 1) := by decide +kernel
theorem d102_1 : decode prog_1_method_25_code 1 = .ok (.iload_n 1, 1) := by decide +kernel
theorem d102_2 : decode prog_1_method_25_code 2 = .ok (.invokevirtual 155, 3) := by decide +kernel
theorem d102_5 : decode prog_1_method_25_code 5 = .ok (.getfield 180, 3) := by decide +kernel
theorem d102_8 : decode prog_1_method_25_code 8 = .ok (.ireturn, 1) := by decide +kernel
theorem d103_0 : decode prog_1_method_26_code 0 = .ok (.aload_n 0, 1) := by decide +kernel
theorem d103_1 : decode prog_1_method_26_code 1 = .ok (.iload_n 1, 1) := by decide +kernel
theorem d103_2 : decode prog_1_method_26_code 2 = .ok (.invokevirtual 155, 3) := by decide +kernel
theorem d103_5 : decode prog_1_method_26_code 5 = .ok (.getfield 183, 3) := by decide +kernel
theorem d103_8 : decode prog_1_method_26_code 8 = .ok (.ireturn, 1) := by decide +kernel
theorem d104_0 : decode prog_1_method_27_code 0 = .ok (.aload_n 0, 1) := by decide +kernel
theorem d104_1 : decode prog_1_method_27_code 1 = .ok (.iload_n 1, 1) := by decide +kernel
theorem d104_2 : decode prog_1_method_27_code 2 = .ok (.invokevirtual 155, 3) := by decide +kernel
theorem d104_5 : decode prog_1_method_27_code 5 = .ok (.invokevirtual 186, 3) := by decide +kernel
theorem d104_8 : decode prog_1_method_27_code 8 = .ok (.ireturn, 1) := by decide +kernel
theorem d105_0 : decode prog_1_method_28_code 0 = .ok (.aload_n 0, 1) := by decide +kernel
theorem d105_1 : decode prog_1_method_28_code 1 = .ok (.iload_n 1, 1) := by decide +kernel
theorem d105_2 : decode prog_1_method_28_code 2 = .ok (.invokevirtual 155, 3) := by decide +kernel
theorem d105_5 : decode prog_1_method_28_code 5 = .ok (.pop, 1) := by decide +kernel
theorem d105_6 : decode prog_1_method_28_code 6 = .ok (.aload_n 0, 1) := by decide +kernel
theorem d105_7 : decode prog_1_method_28_code 7 = .ok (.getfield 10, 3) := by decide +kernel
theorem d105_10 : decode prog_1_method_28_code 10 = .ok (.iload_n 1, 1) := by decide +kernel
theorem d105_11 : decode prog_1_method_28_code 11 = .ok (.invokevirtual 190, 3) := by decide +kernel
theorem d105_14 : decode prog_1_method_28_code 14 = .ok (.ireturn, 1) := by decide +kernel
theorem d106_0 : decode prog_1_method_29_code 0 = .ok (.aload_n 0, 1) := by decide +kernel
theorem d106_1 : decode prog_1_method_29_code 1 = .ok (.iload_n 1, 1) := by decide +kernel
theorem d106_2 : decode prog_1_method_29_code 2 = .ok (.invokevirtual 155, 3) := by decide +kernel
theorem d106_5 : decode prog_1_method_29_code 5 = .ok (.pop, 1) := by decide +kernel
theorem d106_6 : decode prog_1_method_29_code 6 = .ok (.aload_n 0, 1) := by decide +kernel
theorem d106_7 : decode prog_1_method_29_code 7 = .ok (.iload_n 2, 1) := by decide +kernel
theorem d106_8 : decode prog_1_method_29_code 8 = .ok (.invokevirtual 113, 3) := by decide +kernel
theorem d106_11 : decode prog_1_method_29_code 11 = .ok (.astore_n 3, 1) := by decide +kernel
theorem d106_12 : decode prog_1_method_29_code 12 = .ok (.aload_n 0, 1) := by decide +kernel
theorem d106_13 : decode prog_1_method_29_code 13 = .ok (.getfield 10, 3) := by decide +kernel
theorem d106_16 : decode prog_1_method_29_code 16 = .ok (.iload_n 1, 1) := by decide +kernel
theorem d106_17 : decode prog_1_method_29_code 17 = .ok (.aload_n 3, 1) := by decide +kernel
theorem d106_18 : decode prog_1_method_29_code 18 = .ok (.invokevirtual 193, 3) := by decide +kernel
theorem d106_21 : decode prog_1_method_29_code 21 = .ok (.ifCond .eq 19, 3) := by decide +kernel
theorem d106_24 : decode prog_1_method_29_code 24 = .ok (.aload_n 0, 1) := by decide +kernel
theorem d106_25 : decode prog_1_method_29_code 25 = .ok (.getfield 10, 3) := by decide +kernel
theorem d106_28 : decode prog_1_method_29_code 28 = .ok (.iload_n 1, 1) := by decide +kernel
theorem d106_29 : decode prog_1_method_29_code 29 = .ok (.aload_n 3, 1) := by decide +kernel
theorem d106_30 : decode prog_1_method_29_code 30 = .ok (.invokevirtual 197, 3) := by decide +kernel
theorem d106_33 : decode prog_1_method_29_code 33 = .ok (.ifCond .eq 7, 3) := by decide +kernel
theorem d106_36 : decode prog_1_method_29_code 36 = .ok (.iconst 1, 1) := by decide +kernel
theorem d106_37 : decode prog_1_method_29_code 37 = .ok (.goto 4, 3) := by decide +kernel
theorem d106_40 : decode prog_1_method_29_code 40 = .ok (.iconst 0, 1) := by decide +kernel
theorem d106_41 : decode prog_1_method_29_code 41 = .ok (.ireturn, 1) := by decide +kernel
theorem d107_0 : decode prog_1_method_30_code 0 = .ok (.aload_n 0, 1) := by decide +kernel
theorem d107_1 : decode prog_1_method_30_code 1 = .ok (.iload_n 1, 1) := by decide +kernel
theorem d107_2 : decode prog_1_method_30_code 2 = .ok (.invokevirtual 155, 3) := by decide +kernel
theorem d107_5 : decode prog_1_method_30_code 5 = .ok (.astore_n 3, 1) := by decide +kernel
theorem d107_6 : decode prog_1_method_30_code 6 = .ok (.aload_n 3, 1) := by decide +kernel
theorem d107_7 : decode prog_1_method_30_code 7 = .ok (.aload_n 0, 1) := by decide +kernel
theorem d107_8 : decode prog_1_method_30_code 8 = .ok (.iload_n 2, 1) := by decide +kernel
theorem d107_9 : decode prog_1_method_30_code 9 = .ok (.invokevirtual 113, 3) := by decide +kernel
theorem d107_12 : decode prog_1_method_30_code 12 = .ok (.invokevirtual 200, 3) := by decide +kernel
theorem d107_15 : decode prog_1_method_30_code 15 = .ok (.ireturn, 1) := by decide +kernel
theorem d108_0 : decode prog_1_method_31_code 0 = .ok (.aload_n 0, 1) := by decide +kernel
theorem d108_1 : decode prog_1_method_31_code 1 = .ok (.iload_n 1, 1) := by decide +kernel
theorem d108_2 : decode prog_1_method_31_code 2 = .ok (.invokevirtual 113, 3) := by decide +kernel
theorem d108_5 : decode prog_1_method_31_code 5 = .ok (.astore_n 2, 1) := by decide +kernel
theorem d108_6 : decode prog_1_method_31_code 6 = .ok (.iconst 0, 1) := by decide +kernel
theorem d108_7 : decode prog_1_method_31_code 7 = .ok (.istore_n 3, 1) := by decide +kernel
theorem d108_8 : decode prog_1_method_31_code 8 = .ok (.iconst 1, 1) := by decide +kernel
theorem d108_9 : decode prog_1_method_31_code 9 = .ok (.istore 4, 2) := by decide +kernel
theorem d108_11 : decode prog_1_method_31_code 11 = .ok (.iload 4, 2) := by decide +kernel
theorem d108_13 : decode prog_1_method_31_code 13 = .ok (.iconst 3, 1) := by decide +kernel
theorem d108_14 : decode prog_1_method_31_code 14 = .ok (.if_icmp .ge 42, 3) := by decide +kernel
theorem d108_17 : decode prog_1_method_31_code 17 = .ok (.aload_n 0, 1) := by decide +kernel
theorem d108_18 : decode prog_1_method_31_code 18 = .ok (.getfield 10, 3) := by decide +kernel
theorem d108_21 : decode prog_1_method_31_code 21 = .ok (.getfield 203, 3) := by decide +kernel
theorem d108_24 : decode prog_1_method_31_code 24 = .ok (.iload 4, 2) := by decide +kernel
theorem d108_26 : decode prog_1_method_31_code 26 = .ok (.aaload, 1) := by decide +kernel
theorem d108_27 : decode prog_1_method_31_code 27 = .ok (.aload_n 2, 1) := by decide +kernel
theorem d108_28 : decode prog_1_method_31_code 28 = .ok (.invokevirtual 200, 3) := by decide +kernel
theorem d108_31 : decode prog_1_method_31_code 31 = .ok (.aload_n 0, 1) := by decide +kernel
theorem d108_32 : decode prog_1_method_31_code 32 = .ok (.getfield 10, 3) := by decide +kernel
theorem d108_35 : decode prog_1_method_31_code 35 = .ok (.getfield 203, 3) := by decide +kernel
theorem d108_38 : decode prog_1_method_31_code 38 = .ok (.iload_n 3, 1) := by decide +kernel
theorem d108_39 : decode prog_1_method_31_code 39 = .ok (.aaload, 1) := by decide +kernel
theorem d108_40 : decode prog_1_method_31_code 40 = .ok (.aload_n 2, 1) := by decide +kernel
theorem d108_41 : decode prog_1_method_31_code 41 = .ok (.invokevirtual 200, 3) := by decide +kernel
theorem d108_44 : decode prog_1_method_31_code 44 = .ok (.if_icmp .ge 6, 3) := by decide +kernel
theorem d108_47 : decode prog_1_method_31_code 47 = .ok (.iload 4, 2) := by decide +kernel
theorem d108_49 : decode prog_1_method_31_code 49 = .ok (.istore_n 3, 1) := by decide +kernel
theorem d108_50 : decode prog_1_method_31_code 50 = .ok (.iinc 4 1, 3) := by decide +kernel
theorem d108_53 : decode prog_1_method_31_code 53 = .ok (.goto (-42), 3) := by decide +kernel
theorem d108_56 : decode prog_1_method_31_code 56 = .ok (.iload_n 3, 1) := by decide +kernel
theorem d108_57 : decode prog_1_method_31_code 57 = .ok (.ireturn, 1) := by decide +kernel
theorem d109_0 : decode prog_1_method_32_code 0 = .ok (.aload_n 0, 1) := by decide +kernel
theorem d109_1 : decode prog_1_method_32_code 1 = .ok (.iload_n 1, 1) := by decide +kernel
theorem d109_2 : decode prog_1_method_32_code 2 = .ok (.invokevirtual 155, 3) := by decide +kernel
theorem d109_5 : decode prog_1_method_32_code 5 = .ok (.pop, 1) := by decide +kernel
theorem d109_6 : decode prog_1_method_32_code 6 = .ok (.aload_n 0, 1) := by decide +kernel
theorem d109_7 : decode prog_1_method_32_code 7 = .ok (.getfield 33, 3) := by decide +kernel
theorem d109_10 : decode prog_1_method_32_code 10 = .ok (.aload_n 0, 1) := by decide +kernel
theorem d109_11 : decode prog_1_method_32_code 11 = .ok (.getfield 10, 3) := by decide +kernel
theorem d109_14 : decode prog_1_method_32_code 14 = .ok (.iload_n 1, 1) := by decide +kernel
theorem d109_15 : decode prog_1_method_32_code 15 = .ok (.invokevirtual 207, 3) := by decide +kernel
theorem d109_18 : decode prog_1_method_32_code 18 = .ok (.ireturn, 1) := by decide +kernel
theorem d110_0 : decode prog_1_method_33_code 0 = .ok (.aload_n 0, 1) := by decide +kernel
theorem d110_1 : decode prog_1_method_33_code 1 = .ok (.iload_n 1, 1) := by decide +kernel
theorem d110_2 : decode prog_1_method_33_code 2 = .ok (.invokevirtual 155, 3) := by decide +kernel
theorem d110_5 : decode prog_1_method_33_code 5 = .ok (.pop, 1) := by decide +kernel
theorem d110_6 : decode prog_1_method_33_code 6 = .ok (.aload_n 0, 1) := by decide +kernel
theorem d110_7 : decode prog_1_method_33_code 7 = .ok (.getfield 33, 3) := by decide +kernel
theorem d110_10 : decode prog_1_method_33_code 10 = .ok (.aload_n 0, 1) := by decide +kernel
theorem d110_11 : decode prog_1_method_33_code 11 = .ok (.getfield 10, 3) := by decide +kernel
theorem d110_14 : decode prog_1_method_33_code 14 = .ok (.iload_n 1, 1) := by decide +kernel
theorem d110_15 : decode prog_1_method_33_code 15 = .ok (.invokevirtual 211, 3) := by decide +kernel
theorem d110_18 : decode prog_1_method_33_code 18 = .ok (.ireturn, 1) := by decide +kernel
theorem d111_0 : decode prog_1_method_34_code 0 = .ok (.aload_n 0, 1) := by decide +kernel
theorem d111_1 : decode prog_1_method_34_code 1 = .ok (.iload_n 1, 1) := by decide +kernel
theorem d111_2 : decode prog_1_method_34_code 2 = .ok (.invokevirtual 155, 3) := by decide +kernel
theorem d111_5 : decode prog_1_method_34_code 5 = .ok (.pop, 1) := by decide +kernel
theorem d111_6 : decode prog_1_method_34_code 6 = .ok (.aload_n 0, 1) := by decide +kernel
theorem d111_7 : decode prog_1_method_34_code 7 = .ok (.getfield 33, 3) := by decide +kernel
theorem d111_10 : decode prog_1_method_34_code 10 = .ok (.aload_n 0, 1) := by decide +kernel
theorem d111_11 : decode prog_1_method_34_code 11 = .ok (.getfield 10, 3) := by decide +kernel
theorem d111_14 : decode prog_1_method_34_code 14 = .ok (.iload_n 1, 1) := by decide +kernel
theorem d111_15 : decode prog_1_method_34_code 15 = .ok (.invokevirtual 207, 3) := by decide +kernel
theorem d111_18 : decode prog_1_method_34_code 18 = .ok (.pop, 1) := by decide +kernel
theorem d111_19 : decode prog_1_method_34_code 19 = .ok (.iload_n 2, 1) := by decide +kernel
theorem d111_20 : decode prog_1_method_34_code 20 = .ok (.ifCond .lt 14, 3) := by decide +kernel
theorem d111_23 : decode prog_1_method_34_code 23 = .ok (.iload_n 2, 1) := by decide +kernel
theorem d111_24 : decode prog_1_method_34_code 24 = .ok (.aload_n 0, 1) := by decide +kernel
theorem d111_25 : decode prog_1_method_34_code 25 = .ok (.getfield 33, 3) := by decide +kernel
theorem d111_28 : decode prog_1_method_34_code 28 = .ok (.getfield 214, 3) := by decide +kernel
theorem d111_31 : decode prog_1_method_34_code 31 = .ok (.if_icmp .lt 11, 3) := by decide +kernel
theorem d111_34 : decode prog_1_method_34_code 34 = .ok (.new 134, 3) := by decide +kernel
theorem d111_37 : decode prog_1_method_34_code 37 = .ok (.dup, 1) := by decide +kernel
theorem d111_38 : decode prog_1_method_34_code 38 = .ok (.invokespecial 136, 3) := by decide +kernel
theorem d111_41 : decode prog_1_method_34_code 41 = .ok (.athrow, 1) := by decide +kernel
theorem d111_42 : decode prog_1_method_34_code 42 = .ok (.aload_n 0, 1) := by decide +kernel
theorem d111_43 : decode prog_1_method_34_code 43 = .ok (.getfield 33, 3) := by decide +kernel
theorem d111_46 : decode prog_1_method_34_code 46 = .ok (.getfield 217, 3) := by decide +kernel
theorem d111_49 : decode prog_1_method_34_code 49 = .ok (.iload_n 2, 1) := by decide +kernel
theorem d111_50 : decode prog_1_method_34_code 50 = .ok (.iaload, 1) := by decide +kernel
theorem d111_51 : decode prog_1_method_34_code 51 = .ok (.ireturn, 1) := by decide +kernel
theorem d112_0 : decode prog_1_method_35_code 0 = .ok (.aload_n 0, 1) := by decide +kernel
theorem d112_1 : decode prog_1_method_35_code 1 = .ok (.iload_n 1, 1) := by decide +kernel
theorem d112_2 : decode prog_1_method_35_code 2 = .ok (.invokevirtual 155, 3) := by decide +kernel
theorem d112_5 : decode prog_1_method_35_code 5 = .ok (.getfield 220, 3) := by decide +kernel
theorem d112_8 : decode prog_1_method_35_code 8 = .ok (.ireturn, 1) := by decide +kernel
theorem d113_0 : decode prog_1_method_39_code 0 = .ok (.aload_n 0, 1) := by decide +kernel
theorem d113_1 : decode prog_1_method_39_code 1 = .ok (.getfield 10, 3) := by decide +kernel
theorem d113_4 : decode prog_1_method_39_code 4 = .ok (.getfield 234, 3) := by decide +kernel
theorem d113_7 : decode prog_1_method_39_code 7 = .ok (.ifCond .ne 11, 3) := by decide +kernel
theorem d113_10 : decode prog_1_method_39_code 10 = .ok (.new 237, 3) := by decide +kernel
theorem d113_13 : decode prog_1_method_39_code 13 = .ok (.dup, 1) := by decide +kernel
theorem d113_14 : decode prog_1_method_39_code 14 = .ok (.invokespecial 239, 3) := by decide +kernel
theorem d113_17 : decode prog_1_method_39_code 17 = .ok (.athrow, 1) := by decide +kernel
theorem d113_18 : decode prog_1_method_39_code 18 = .ok (.aload_n 0, 1) := by decide +kernel
theorem d113_19 : decode prog_1_method_39_code 19 = .ok (.getfield 10, 3) := by decide +kernel
theorem d113_22 : decode prog_1_method_39_code 22 = .ok (.getfield 231, 3) := by decide +kernel
theorem d113_25 : decode prog_1_method_39_code 25 = .ok (.l2d, 1) := by decide +kernel
theorem d113_26 : decode prog_1_method_39_code 26 = .ok (.aload_n 0, 1) := by decide +kernel
theorem d113_27 : decode prog_1_method_39_code 27 = .ok (.getfield 10, 3) := by decide +kernel
theorem d113_30 : decode prog_1_method_39_code 30 = .ok (.getfield 234, 3) := by decide +kernel
theorem d113_33 : decode prog_1_method_39_code 33 = .ok (.i2d, 1) := by decide +kernel
theorem d113_34 : decode prog_1_method_39_code 34 = .ok (.ddiv, 1) := by decide +kernel
theorem d113_35 : decode prog_1_method_39_code 35 = .ok (.dreturn, 1) := by decide +kernel
theorem d114_0 : decode prog_1_method_41_code 0 = .ok (.iconst 0, 1) := by decide +kernel
theorem d114_1 : decode prog_1_method_41_code 1 = .ok (.istore_n 2, 1) := by decide +kernel
theorem d114_2 : decode prog_1_method_41_code 2 = .ok (.iload_n 2, 1) := by decide +kernel
theorem d114_3 : decode prog_1_method_41_code 3 = .ok (.iconst 3, 1) := by decide +kernel
theorem d114_4 : decode prog_1_method_41_code 4 = .ok (.if_icmp .ge 23, 3) := by decide +kernel
theorem d114_7 : decode prog_1_method_41_code 7 = .ok (.aload_n 0, 1) := by decide +kernel
theorem d114_8 : decode prog_1_method_41_code 8 = .ok (.getfield 10, 3) := by decide +kernel
theorem d114_11 : decode prog_1_method_41_code 11 = .ok (.iload_n 2, 1) := by decide +kernel
theorem d114_12 : decode prog_1_method_41_code 12 = .ok (.invokevirtual 241, 3) := by decide +kernel
theorem d114_15 : decode prog_1_method_41_code 15 = .ok (.iload_n 1, 1) := by decide +kernel
theorem d114_16 : decode prog_1_method_41_code 16 = .ok (.if_icmp .ne 5, 3) := by decide +kernel
theorem d114_19 : decode prog_1_method_41_code 19 = .ok (.iload_n 2, 1) := by decide +kernel
theorem d114_20 : decode prog_1_method_41_code 20 = .ok (.ireturn, 1) := by decide +kernel
theorem d114_21 : decode prog_1_method_41_code 21 = .ok (.iinc 2 1, 3) := by decide +kernel
theorem d114_24 : decode prog_1_method_41_code 24 = .ok (.goto (-22), 3) := by decide +kernel
theorem d114_27 : decode prog_1_method_41_code 27 = .ok (.new 134, 3) := by decide +kernel
theorem d114_30 : decode prog_1_method_41_code 30 = .ok (.dup, 1) := by decide +kernel
theorem d114_31 : decode prog_1_method_41_code 31 = .ok (.invokespecial 136, 3) := by decide +kernel
theorem d114_34 : decode prog_1_method_41_code 34 = .ok (.athrow, 1) := by decide +kernel
theorem d115_0 : decode prog_1_method_43_code 0 = .ok (.aload_n 0, 1) := by decide +kernel
theorem d115_1 : decode prog_1_method_43_code 1 = .ok (.iload_n 1, 1) := by decide +kernel
theorem d115_2 : decode prog_1_method_43_code 2 = .ok (.invokevirtual 155, 3) := by decide +kernel
theorem d115_5 : decode prog_1_method_43_code 5 = .ok (.astore_n 2, 1) := by decide +kernel
theorem d115_6 : decode prog_1_method_43_code 6 = .ok (.aload_n 0, 1) := by decide +kernel
theorem d115_7 : decode prog_1_method_43_code 7 = .ok (.getfield 47, 3) := by decide +kernel
theorem d115_10 : decode prog_1_method_43_code 10 = .ok (.iconst 0, 1) := by decide +kernel
theorem d115_11 : decode prog_1_method_43_code 11 = .ok (.invokevirtual 255, 3) := by decide +kernel
theorem d115_14 : decode prog_1_method_43_code 14 = .ok (.aload_n 0, 1) := by decide +kernel
theorem d115_15 : decode prog_1_method_43_code 15 = .ok (.getfield 47, 3) := by decide +kernel
theorem d115_18 : decode prog_1_method_43_code 18 = .ok (.iload_n 1, 1) := by decide +kernel
theorem d115_19 : decode prog_1_method_43_code 19 = .ok (.invokevirtual 259, 3) := by decide +kernel
theorem d115_22 : decode prog_1_method_43_code 22 = .ok (.bipush 64, 2) := by decide +kernel
theorem d115_24 : decode prog_1_method_43_code 24 = .ok (.invokevirtual 263, 3) := by decide +kernel
theorem d115_27 : decode prog_1_method_43_code 27 = .ok (.aload_n 2, 1) := by decide +kernel
theorem d115_28 : decode prog_1_method_43_code 28 = .ok (.getfield 177, 3) := by decide +kernel
theorem d115_31 : decode prog_1_method_43_code 31 = .ok (.invokevirtual 259, 3) := by decide +kernel
theorem d115_34 : decode prog_1_method_43_code 34 = .ok (.bipush 44, 2) := by decide +kernel
theorem d115_36 : decode prog_1_method_43_code 36 = .ok (.invokevirtual 263, 3) := by decide +kernel
theorem d115_39 : decode prog_1_method_43_code 39 = .ok (.aload_n 2, 1) := by decide +kernel
theorem d115_40 : decode prog_1_method_43_code 40 = .ok (.getfield 180, 3) := by decide +kernel
theorem d115_43 : decode prog_1_method_43_code 43 = .ok (.invokevirtual 259, 3) := by decide +kernel
theorem d115_46 : decode prog_1_method_43_code 46 = .ok (.pop, 1) := by decide +kernel
theorem d115_47 : decode prog_1_method_43_code 47 = .ok (.aload_n 0, 1) := by decide +kernel
theorem d115_48 : decode prog_1_method_43_code 48 = .ok (.getfield 47, 3) := by decide +kernel
theorem d115_51 : decode prog_1_method_43_code 51 = .ok (.bipush 43, 2) := by decide +kernel
theorem d115_53 : decode prog_1_method_43_code 53 = .ok (.invokevirtual 263, 3) := by decide +kernel
theorem d115_56 : decode prog_1_method_43_code 56 = .ok (.aload_n 2, 1) := by decide +kernel
theorem d115_57 : decode prog_1_method_43_code 57 = .ok (.getfield 183, 3) := by decide +kernel
theorem d115_60 : decode prog_1_method_43_code 60 = .ok (.invokevirtual 259, 3) := by decide +kernel
theorem d115_63 : decode prog_1_method_43_code 63 = .ok (.pop, 1) := by decide +kernel
theorem d115_64 : decode prog_1_method_43_code 64 = .ok (.iconst 0, 1) := by decide +kernel
theorem d115_65 : decode prog_1_method_43_code 65 = .ok (.istore_n 3, 1) := by decide +kernel
theorem d115_66 : decode prog_1_method_43_code 66 = .ok (.iload_n 3, 1) := by decide +kernel
theorem d115_67 : decode prog_1_method_43_code 67 = .ok (.bipush 6, 2) := by decide +kernel
theorem d115_69 : decode prog_1_method_43_code 69 = .ok (.if_icmp .ge 37, 3) := by decide +kernel
theorem d115_72 : decode prog_1_method_43_code 72 = .ok (.aload_n 0, 1) := by decide +kernel
theorem d115_73 : decode prog_1_method_43_code 73 = .ok (.getfield 10, 3) := by decide +kernel
theorem d115_76 : decode prog_1_method_43_code 76 = .ok (.getfield 174, 3) := by decide +kernel
theorem d115_79 : decode prog_1_method_43_code 79 = .ok (.iload_n 3, 1) := by decide +kernel
theorem d115_80 : decode prog_1_method_43_code 80 = .ok (.iaload, 1) := by decide +kernel
theorem d115_81 : decode prog_1_method_43_code 81 = .ok (.iload_n 1, 1) := by decide +kernel
theorem d115_82 : decode prog_1_method_43_code 82 = .ok (.if_icmp .ne 18, 3) := by decide +kernel
theorem d115_85 : decode prog_1_method_43_code 85 = .ok (.aload_n 0, 1) := by decide +kernel
theorem d115_86 : decode prog_1_method_43_code 86 = .ok (.getfield 47, 3) := by decide +kernel
theorem d115_89 : decode prog_1_method_43_code 89 = .ok (.ldc_w 266, 3) := by decide +kernel
theorem d115_92 : decode prog_1_method_43_code 92 = .ok (.invokevirtual 268, 3) := by decide +kernel
theorem d115_95 : decode prog_1_method_43_code 95 = .ok (.iload_n 3, 1) := by decide +kernel
theorem d115_96 : decode prog_1_method_43_code 96 = .ok (.invokevirtual 259, 3) := by decide +kernel
theorem d115_99 : decode prog_1_method_43_code 99 = .ok (.pop, 1) := by decide +kernel
theorem d115_100 : decode prog_1_method_43_code 100 = .ok (.iinc 3 1, 3) := by decide +kernel
theorem d115_103 : decode prog_1_method_43_code 103 = .ok (.goto (-37), 3) := by decide +kernel
theorem d115_106 : decode prog_1_method_43_code 106 = .ok (.iconst 0, 1) := by decide +kernel
theorem d115_107 : decode prog_1_method_43_code 107 = .ok (.istore_n 3, 1) := by decide +kernel
theorem d115_108 : decode prog_1_method_43_code 108 = .ok (.iload_n 3, 1) := by decide +kernel
theorem d115_109 : decode prog_1_method_43_code 109 = .ok (.iconst 4, 1) := by decide +kernel
theorem d115_110 : decode prog_1_method_43_code 110 = .ok (.if_icmp .ge 44, 3) := by decide +kernel
theorem d115_113 : decode prog_1_method_43_code 113 = .ok (.aload_n 2, 1) := by decide +kernel
theorem d115_114 : decode prog_1_method_43_code 114 = .ok (.getfield 159, 3) := by decide +kernel
theorem d115_117 : decode prog_1_method_43_code 117 = .ok (.iload_n 3, 1) := by decide +kernel
theorem d115_118 : decode prog_1_method_43_code 118 = .ok (.iaload, 1) := by decide +kernel
theorem d115_119 : decode prog_1_method_43_code 119 = .ok (.ifCond .le 29, 3) := by decide +kernel
theorem d115_122 : decode prog_1_method_43_code 122 = .ok (.aload_n 0, 1) := by decide +kernel
theorem d115_123 : decode prog_1_method_43_code 123 = .ok (.getfield 47, 3) := by decide +kernel
theorem d115_126 : decode prog_1_method_43_code 126 = .ok (.bipush 32, 2) := by decide +kernel
theorem d115_128 : decode prog_1_method_43_code 128 = .ok (.invokevirtual 263, 3) := by decide +kernel
theorem d115_131 : decode prog_1_method_43_code 131 = .ok (.iload_n 3, 1) := by decide +kernel
theorem d115_132 : decode prog_1_method_43_code 132 = .ok (.invokestatic 121, 3) := by decide +kernel
theorem d115_135 : decode prog_1_method_43_code 135 = .ok (.invokevirtual 263, 3) := by decide +kernel
theorem d115_138 : decode prog_1_method_43_code 138 = .ok (.aload_n 2, 1) := by decide +kernel
theorem d115_139 : decode prog_1_method_43_code 139 = .ok (.getfield 159, 3) := by decide +kernel
theorem d115_142 : decode prog_1_method_43_code 142 = .ok (.iload_n 3, 1) := by decide +kernel
theorem d115_143 : decode prog_1_method_43_code 143 = .ok (.iaload, 1) := by decide +kernel
theorem d115_144 : decode prog_1_method_43_code 144 = .ok (.invokevirtual 259, 3) := by decide +kernel
theorem d115_147 : decode prog_1_method_43_code 147 = .ok (.pop, 1) := by decide +kernel
theorem d115_148 : decode prog_1_method_43_code 148 = .ok (.iinc 3 1, 3) := by decide +kernel
theorem d115_151 : decode prog_1_method_43_code 151 = .ok (.goto (-43), 3) := by decide +kernel
theorem d115_154 : decode prog_1_method_43_code 154 = .ok (.aload_n 0, 1) := by decide +kernel
theorem d115_155 : decode prog_1_method_43_code 155 = .ok (.getfield 47, 3) := by decide +kernel
theorem d115_158 : decode prog_1_method_43_code 158 = .ok (.invokevirtual 271, 3) := by decide +kernel
theorem d115_161 : decode prog_1_method_43_code 161 = .ok (.ireturn, 1) := by decide +kernel
theorem d116_0 : decode prog_1_method_44_code 0 = .ok (.aload_n 0, 1) := by decide +kernel
theorem d116_1 : decode prog_1_method_44_code 1 = .ok (.iload_n 1, 1) := by decide +kernel
theorem d116_2 : decode prog_1_method_44_code 2 = .ok (.invokevirtual 155, 3) := by decide +kernel
theorem d116_5 : decode prog_1_method_44_code 5 = .ok (.pop, 1) := by decide +kernel
theorem d116_6 : decode prog_1_method_44_code 6 = .ok (.aload_n 0, 1) := by decide +kernel
theorem d116_7 : decode prog_1_method_44_code 7 = .ok (.getfield 33, 3) := by decide +kernel
theorem d116_10 : decode prog_1_method_44_code 10 = .ok (.aload_n 0, 1) := by decide +kernel
theorem d116_11 : decode prog_1_method_44_code 11 = .ok (.getfield 10, 3) := by decide +kernel
theorem d116_14 : decode prog_1_method_44_code 14 = .ok (.iload_n 1, 1) := by decide +kernel
theorem d116_15 : decode prog_1_method_44_code 15 = .ok (.invokevirtual 207, 3) := by decide +kernel
theorem d116_18 : decode prog_1_method_44_code 18 = .ok (.pop, 1) := by decide +kernel
theorem d116_19 : decode prog_1_method_44_code 19 = .ok (.aload_n 0, 1) := by decide +kernel
theorem d116_20 : decode prog_1_method_44_code 20 = .ok (.getfield 47, 3) := by decide +kernel
theorem d116_23 : decode prog_1_method_44_code 23 = .ok (.iconst 0, 1) := by decide +kernel
theorem d116_24 : decode prog_1_method_44_code 24 = .ok (.invokevirtual 255, 3) := by decide +kernel
theorem d116_27 : decode prog_1_method_44_code 27 = .ok (.iconst 0, 1) := by decide +kernel
theorem d116_28 : decode prog_1_method_44_code 28 = .ok (.istore_n 2, 1) := by decide +kernel
theorem d116_29 : decode prog_1_method_44_code 29 = .ok (.iload_n 2, 1) := by decide +kernel
theorem d116_30 : decode prog_1_method_44_code 30 = .ok (.aload_n 0, 1) := by decide +kernel
theorem d116_31 : decode prog_1_method_44_code 31 = .ok (.getfield 33, 3) := by decide +kernel
theorem d116_34 : decode prog_1_method_44_code 34 = .ok (.getfield 214, 3) := by decide +kernel
theorem d116_37 : decode prog_1_method_44_code 37 = .ok (.if_icmp .ge 57, 3) := by decide +kernel
theorem d116_40 : decode prog_1_method_44_code 40 = .ok (.iload_n 2, 1) := by decide +kernel
theorem d116_41 : decode prog_1_method_44_code 41 = .ok (.ifCond .le 13, 3) := by decide +kernel
theorem d116_44 : decode prog_1_method_44_code 44 = .ok (.aload_n 0, 1) := by decide +kernel
theorem d116_45 : decode prog_1_method_44_code 45 = .ok (.getfield 47, 3) := by decide +kernel
theorem d116_48 : decode prog_1_method_44_code 48 = .ok (.bipush 62, 2) := by decide +kernel
theorem d116_50 : decode prog_1_method_44_code 50 = .ok (.invokevirtual 263, 3) := by decide +kernel
theorem d116_53 : decode prog_1_method_44_code 53 = .ok (.pop, 1) := by decide +kernel
theorem d116_54 : decode prog_1_method_44_code 54 = .ok (.aload_n 0, 1) := by decide +kernel
theorem d116_55 : decode prog_1_method_44_code 55 = .ok (.getfield 47, 3) := by decide +kernel
theorem d116_58 : decode prog_1_method_44_code 58 = .ok (.aload_n 0, 1) := by decide +kernel
theorem d116_59 : decode prog_1_method_44_code 59 = .ok (.getfield 33, 3) := by decide +kernel
theorem d116_62 : decode prog_1_method_44_code 62 = .ok (.getfield 217, 3) := by decide +kernel
theorem d116_65 : decode prog_1_method_44_code 65 = .ok (.iload_n 2, 1) := by decide +kernel
theorem d116_66 : decode prog_1_method_44_code 66 = .ok (.iaload, 1) := by decide +kernel
theorem d116_67 : decode prog_1_method_44_code 67 = .ok (.invokevirtual 259, 3) := by decide +kernel
theorem d116_70 : decode prog_1_method_44_code 70 = .ok (.bipush 58, 2) := by decide +kernel
theorem d116_72 : decode prog_1_method_44_code 72 = .ok (.invokevirtual 263, 3) := by decide +kernel
theorem d116_75 : decode prog_1_method_44_code 75 = .ok (.aload_n 0, 1) := by decide +kernel
theorem d116_76 : decode prog_1_method_44_code 76 = .ok (.getfield 33, 3) := by decide +kernel
theorem d116_79 : decode prog_1_method_44_code 79 = .ok (.getfield 274, 3) := by decide +kernel
theorem d116_82 : decode prog_1_method_44_code 82 = .ok (.iload_n 2, 1) := by decide +kernel
theorem d116_83 : decode prog_1_method_44_code 83 = .ok (.iaload, 1) := by decide +kernel
theorem d116_84 : decode prog_1_method_44_code 84 = .ok (.invokevirtual 259, 3) := by decide +kernel
theorem d116_87 : decode prog_1_method_44_code 87 = .ok (.pop, 1) := by decide +kernel
theorem d116_88 : decode prog_1_method_44_code 88 = .ok (.iinc 2 1, 3) := by decide +kernel
theorem d116_91 : decode prog_1_method_44_code 91 = .ok (.goto (-62), 3) := by decide +kernel
theorem d116_94 : decode prog_1_method_44_code 94 = .ok (.aload_n 0, 1) := by decide +kernel
theorem d116_95 : decode prog_1_method_44_code 95 = .ok (.getfield 47, 3) := by decide +kernel
theorem d116_98 : decode prog_1_method_44_code 98 = .ok (.invokevirtual 271, 3) := by decide +kernel
theorem d116_101 : decode prog_1_method_44_code 101 = .ok (.ireturn, 1) := by decide +kernel
theorem d117_0 : decode prog_1_method_45_code 0 = .ok (.iload_n 1, 1) := by decide +kernel
theorem d117_1 : decode prog_1_method_45_code 1 = .ok (.ifCond .lt 14, 3) := by decide +kernel
theorem d117_4 : decode prog_1_method_45_code 4 = .ok (.iload_n 1, 1) := by decide +kernel
theorem d117_5 : decode prog_1_method_45_code 5 = .ok (.aload_n 0, 1) := by decide +kernel
theorem d117_6 : decode prog_1_method_45_code 6 = .ok (.getfield 47, 3) := by decide +kernel
theorem d117_9 : decode prog_1_method_45_code 9 = .ok (.invokevirtual 271, 3) := by decide +kernel
theorem d117_12 : decode prog_1_method_45_code 12 = .ok (.if_icmp .lt 11, 3) := by decide +kernel
theorem d117_15 : decode prog_1_method_45_code 15 = .ok (.new 171, 3) := by decide +kernel
theorem d117_18 : decode prog_1_method_45_code 18 = .ok (.dup, 1) := by decide +kernel
theorem d117_19 : decode prog_1_method_45_code 19 = .ok (.invokespecial 173, 3) := by decide +kernel
theorem d117_22 : decode prog_1_method_45_code 22 = .ok (.athrow, 1) := by decide +kernel
theorem d117_23 : decode prog_1_method_45_code 23 = .ok (.aload_n 0, 1) := by decide +kernel
theorem d117_24 : decode prog_1_method_45_code 24 = .ok (.getfield 47, 3) := by decide +kernel
theorem d117_27 : decode prog_1_method_45_code 27 = .ok (.iload_n 1, 1) := by decide +kernel
theorem d117_28 : decode prog_1_method_45_code 28 = .ok (.invokevirtual 277, 3) := by decide +kernel
theorem d117_31 : decode prog_1_method_45_code 31 = .ok (.ireturn, 1) := by decide +kernel
theorem d118_0 : decode prog_1_method_46_code 0 = .ok (.aload_n 0, 1) := by decide +kernel
theorem d118_1 : decode prog_1_method_46_code 1 = .ok (.getfield 40, 3) := by decide +kernel
theorem d118_4 : decode prog_1_method_46_code 4 = .ok (.invokevirtual 280, 3) := by decide +kernel
theorem d118_7 : decode prog_1_method_46_code 7 = .ok (.ifCond .eq 11, 3) := by decide +kernel
theorem d118_10 : decode prog_1_method_46_code 10 = .ok (.new 283, 3) := by decide +kernel
theorem d118_13 : decode prog_1_method_46_code 13 = .ok (.dup, 1) := by decide +kernel
theorem d118_14 : decode prog_1_method_46_code 14 = .ok (.invokespecial 285, 3) := by decide +kernel
theorem d118_17 : decode prog_1_method_46_code 17 = .ok (.athrow, 1) := by decide +kernel
theorem d118_18 : decode prog_1_method_46_code 18 = .ok (.aload_n 0, 1) := by decide +kernel
theorem d118_19 : decode prog_1_method_46_code 19 = .ok (.getfield 40, 3) := by decide +kernel
theorem d118_22 : decode prog_1_method_46_code 22 = .ok (.iload_n 1, 1) := by decide +kernel
theorem d118_23 : decode prog_1_method_46_code 23 = .ok (.invokevirtual 286, 3) := by decide +kernel
theorem d118_26 : decode prog_1_method_46_code 26 = .ok (.ireturn, 1) := by decide +kernel
theorem d119_0 : decode prog_1_method_47_code 0 = .ok (.aload_n 0, 1) := by decide +kernel
theorem d119_1 : decode prog_1_method_47_code 1 = .ok (.getfield 40, 3) := by decide +kernel
theorem d119_4 : decode prog_1_method_47_code 4 = .ok (.invokevirtual 288, 3) := by decide +kernel
theorem d119_7 : decode prog_1_method_47_code 7 = .ok (.istore_n 1, 1) := by decide +kernel
theorem d119_8 : decode prog_1_method_47_code 8 = .ok (.aload_n 0, 1) := by decide +kernel
theorem d119_9 : decode prog_1_method_47_code 9 = .ok (.getfield 40, 3) := by decide +kernel
theorem d119_12 : decode prog_1_method_47_code 12 = .ok (.invokevirtual 291, 3) := by decide +kernel
theorem d119_15 : decode prog_1_method_47_code 15 = .ok (.iload_n 1, 1) := by decide +kernel
theorem d119_16 : decode prog_1_method_47_code 16 = .ok (.iconst (-1), 1) := by decide +kernel
theorem d119_17 : decode prog_1_method_47_code 17 = .ok (.if_icmp .eq 16, 3) := by decide +kernel
theorem d119_20 : decode prog_1_method_47_code 20 = .ok (.aload_n 0, 1) := by decide +kernel
theorem d119_21 : decode prog_1_method_47_code 21 = .ok (.iload_n 1, 1) := by decide +kernel
theorem d119_22 : decode prog_1_method_47_code 22 = .ok (.putfield 51, 3) := by decide +kernel
theorem d119_25 : decode prog_1_method_47_code 25 = .ok (.new 294, 3) := by decide +kernel
theorem d119_28 : decode prog_1_method_47_code 28 = .ok (.dup, 1) := by decide +kernel
theorem d119_29 : decode prog_1_method_47_code 29 = .ok (.invokespecial 296, 3) := by decide +kernel
theorem d119_32 : decode prog_1_method_47_code 32 = .ok (.athrow, 1) := by decide +kernel
theorem d119_33 : decode prog_1_method_47_code 33 = .ok (.aload_n 0, 1) := by decide +kernel
theorem d119_34 : decode prog_1_method_47_code 34 = .ok (.getfield 26, 3) := by decide +kernel
theorem d119_37 : decode prog_1_method_47_code 37 = .ok (.aload_n 0, 1) := by decide +kernel
theorem d119_38 : decode prog_1_method_47_code 38 = .ok (.getfield 10, 3) := by decide +kernel
theorem d119_41 : decode prog_1_method_47_code 41 = .ok (.invokevirtual 58, 3) := by decide +kernel
theorem d119_44 : decode prog_1_method_47_code 44 = .ok (.aload_n 0, 1) := by decide +kernel
theorem d119_45 : decode prog_1_method_47_code 45 = .ok (.invokevirtual 297, 3) := by decide +kernel
theorem d119_48 : decode prog_1_method_47_code 48 = .ok (.istore_n 2, 1) := by decide +kernel
theorem d119_49 : decode prog_1_method_47_code 49 = .ok (.iload_n 2, 1) := by decide +kernel
theorem d119_50 : decode prog_1_method_47_code 50 = .ok (.iconst (-1), 1) := by decide +kernel
theorem d119_51 : decode prog_1_method_47_code 51 = .ok (.if_icmp .eq 27, 3) := by decide +kernel
theorem d119_54 : decode prog_1_method_47_code 54 = .ok (.aload_n 0, 1) := by decide +kernel
theorem d119_55 : decode prog_1_method_47_code 55 = .ok (.getfield 26, 3) := by decide +kernel
theorem d119_58 : decode prog_1_method_47_code 58 = .ok (.aload_n 0, 1) := by decide +kernel
theorem d119_59 : decode prog_1_method_47_code 59 = .ok (.getfield 10, 3) := by decide +kernel
theorem d119_62 : decode prog_1_method_47_code 62 = .ok (.invokevirtual 300, 3) := by decide +kernel
theorem d119_65 : decode prog_1_method_47_code 65 = .ok (.aload_n 0, 1) := by decide +kernel
theorem d119_66 : decode prog_1_method_47_code 66 = .ok (.iload_n 2, 1) := by decide +kernel
theorem d119_67 : decode prog_1_method_47_code 67 = .ok (.putfield 55, 3) := by decide +kernel
theorem d119_70 : decode prog_1_method_47_code 70 = .ok (.new 303, 3) := by decide +kernel
theorem d119_73 : decode prog_1_method_47_code 73 = .ok (.dup, 1) := by decide +kernel
theorem d119_74 : decode prog_1_method_47_code 74 = .ok (.invokespecial 305, 3) := by decide +kernel
theorem d119_77 : decode prog_1_method_47_code 77 = .ok (.athrow, 1) := by decide +kernel
theorem d119_78 : decode prog_1_method_47_code 78 = .ok (.aload_n 0, 1) := by decide +kernel
theorem d119_79 : decode prog_1_method_47_code 79 = .ok (.getfield 26, 3) := by decide +kernel
theorem d119_82 : decode prog_1_method_47_code 82 = .ok (.invokevirtual 306, 3) := by decide +kernel
theorem d119_85 : decode prog_1_method_47_code 85 = .ok (.aload_n 0, 1) := by decide +kernel
theorem d119_86 : decode prog_1_method_47_code 86 = .ok (.getfield 40, 3) := by decide +kernel
theorem d119_89 : decode prog_1_method_47_code 89 = .ok (.getfield 309, 3) := by decide +kernel
theorem d119_92 : decode prog_1_method_47_code 92 = .ok (.ireturn, 1) := by decide +kernel
theorem d120_0 : decode prog_1_method_54_code 0 = .ok (.iconst 0, 1) := by decide +kernel
theorem d120_1 : decode prog_1_method_54_code 1 = .ok (.istore_n 1, 1) := by decide +kernel
theorem d120_2 : decode prog_1_method_54_code 2 = .ok (.iload_n 1, 1) := by decide +kernel
theorem d120_3 : decode prog_1_method_54_code 3 = .ok (.aload_n 0, 1) := by decide +kernel
theorem d120_4 : decode prog_1_method_54_code 4 = .ok (.getfield 40, 3) := by decide +kernel
theorem d120_7 : decode prog_1_method_54_code 7 = .ok (.getfield 309, 3) := by decide +kernel
theorem d120_10 : decode prog_1_method_54_code 10 = .ok (.if_icmp .ge 27, 3) := by decide +kernel
theorem d120_13 : decode prog_1_method_54_code 13 = .ok (.aload_n 0, 1) := by decide +kernel
theorem d120_14 : decode prog_1_method_54_code 14 = .ok (.aload_n 0, 1) := by decide +kernel
theorem d120_15 : decode prog_1_method_54_code 15 = .ok (.getfield 40, 3) := by decide +kernel
theorem d120_18 : decode prog_1_method_54_code 18 = .ok (.getfield 320, 3) := by decide +kernel
theorem d120_21 : decode prog_1_method_54_code 21 = .ok (.iload_n 1, 1) := by decide +kernel
theorem d120_22 : decode prog_1_method_54_code 22 = .ok (.aaload, 1) := by decide +kernel
theorem d120_23 : decode prog_1_method_54_code 23 = .ok (.invokevirtual 324, 3) := by decide +kernel
theorem d120_26 : decode prog_1_method_54_code 26 = .ok (.ifCond .ge 5, 3) := by decide +kernel
theorem d120_29 : decode prog_1_method_54_code 29 = .ok (.iload_n 1, 1) := by decide +kernel
theorem d120_30 : decode prog_1_method_54_code 30 = .ok (.ireturn, 1) := by decide +kernel
theorem d120_31 : decode prog_1_method_54_code 31 = .ok (.iinc 1 1, 3) := by decide +kernel
theorem d120_34 : decode prog_1_method_54_code 34 = .ok (.goto (-32), 3) := by decide +kernel
theorem d120_37 : decode prog_1_method_54_code 37 = .ok (.iconst (-1), 1) := by decide +kernel
theorem d120_38 : decode prog_1_method_54_code 38 = .ok (.ireturn, 1) := by decide +kernel
theorem d121_0 : decode prog_1_method_55_code 0 = .ok (.aload_n 1, 1) := by decide +kernel
theorem d121_1 : decode prog_1_method_55_code 1 = .ok (.getfield 328, 3) := by decide +kernel
theorem d121_4 : decode prog_1_method_55_code 4 = .ok (.astore_n 2, 1) := by decide +kernel
theorem d121_5 : decode prog_1_method_55_code 5 = .ok (.getstatic 333, 3) := by decide +kernel
theorem d121_8 : decode prog_1_method_55_code 8 = .ok (.aload_n 1, 1) := by decide +kernel
theorem d121_9 : decode prog_1_method_55_code 9 = .ok (.getfield 338, 3) := by decide +kernel
theorem d121_12 : decode prog_1_method_55_code 12 = .ok (.invokevirtual 342, 3) := by decide +kernel
theorem d121_15 : decode prog_1_method_55_code 15 = .ok (.iaload, 1) := by decide +kernel
theorem d121_16 : decode prog_1_method_55_code 16 = .ok (.tableswitch 202 1 10 #[56, 82, 93, 107, 118, 132, 149, 163, 177, 191], 56) := by decide +kernel
theorem d121_72 : decode prog_1_method_55_code 72 = .ok (.aload_n 0, 1) := by decide +kernel
theorem d121_73 : decode prog_1_method_55_code 73 = .ok (.getfield 10, 3) := by decide +kernel
theorem d121_76 : decode prog_1_method_55_code 76 = .ok (.aload_n 2, 1) := by decide +kernel
theorem d121_77 : decode prog_1_method_55_code 77 = .ok (.iconst 0, 1) := by decide +kernel
theorem d121_78 : decode prog_1_method_55_code 78 = .ok (.iaload, 1) := by decide +kernel
theorem d121_79 : decode prog_1_method_55_code 79 = .ok (.aload_n 2, 1) := by decide +kernel
theorem d121_80 : decode prog_1_method_55_code 80 = .ok (.iconst 1, 1) := by decide +kernel
theorem d121_81 : decode prog_1_method_55_code 81 = .ok (.iaload, 1) := by decide +kernel
theorem d121_82 : decode prog_1_method_55_code 82 = .ok (.aload_n 2, 1) := by decide +kernel
theorem d121_83 : decode prog_1_method_55_code 83 = .ok (.iconst 2, 1) := by decide +kernel
theorem d121_84 : decode prog_1_method_55_code 84 = .ok (.iaload, 1) := by decide +kernel
theorem d121_85 : decode prog_1_method_55_code 85 = .ok (.aload_n 2, 1) := by decide +kernel
theorem d121_86 : decode prog_1_method_55_code 86 = .ok (.iconst 3, 1) := by decide +kernel
theorem d121_87 : decode prog_1_method_55_code 87 = .ok (.iaload, 1) := by decide +kernel
theorem d121_88 : decode prog_1_method_55_code 88 = .ok (.aload_n 2, 1) := by decide +kernel
theorem d121_89 : decode prog_1_method_55_code 89 = .ok (.iconst 4, 1) := by decide +kernel
theorem d121_90 : decode prog_1_method_55_code 90 = .ok (.iaload, 1) := by decide +kernel
theorem d121_91 : decode prog_1_method_55_code 91 = .ok (.aload_n 2, 1) := by decide +kernel
theorem d121_92 : decode prog_1_method_55_code 92 = .ok (.iconst 5, 1) := by decide +kernel
theorem d121_93 : decode prog_1_method_55_code 93 = .ok (.iaload, 1) := by decide +kernel
theorem d121_94 : decode prog_1_method_55_code 94 = .ok (.invokevirtual 66, 3) := by decide +kernel
theorem d121_97 : decode prog_1_method_55_code 97 = .ok (.ireturn, 1) := by decide +kernel
theorem d121_98 : decode prog_1_method_55_code 98 = .ok (.aload_n 0, 1) := by decide +kernel
theorem d121_99 : decode prog_1_method_55_code 99 = .ok (.getfield 10, 3) := by decide +kernel
theorem d121_102 : decode prog_1_method_55_code 102 = .ok (.aload_n 2, 1) := by decide +kernel
theorem d121_103 : decode prog_1_method_55_code 103 = .ok (.iconst 0, 1) := by decide +kernel
theorem d121_104 : decode prog_1_method_55_code 104 = .ok (.iaload, 1) := by decide +kernel
theorem d121_105 : decode prog_1_method_55_code 105 = .ok (.invokevirtual 74, 3) := by decide +kernel
theorem d121_108 : decode prog_1_method_55_code 108 = .ok (.ireturn, 1) := by decide +kernel
theorem d121_109 : decode prog_1_method_55_code 109 = .ok (.aload_n 0, 1) := by decide +kernel
theorem d121_110 : decode prog_1_method_55_code 110 = .ok (.getfield 10, 3) := by decide +kernel
theorem d121_113 : decode prog_1_method_55_code 113 = .ok (.aload_n 2, 1) := by decide +kernel
theorem d121_114 : decode prog_1_method_55_code 114 = .ok (.iconst 0, 1) := by decide +kernel
theorem d121_115 : decode prog_1_method_55_code 115 = .ok (.iaload, 1) := by decide +kernel
theorem d121_116 : decode prog_1_method_55_code 116 = .ok (.aload_n 2, 1) := by decide +kernel
theorem d121_117 : decode prog_1_method_55_code 117 = .ok (.iconst 1, 1) := by decide +kernel
theorem d121_118 : decode prog_1_method_55_code 118 = .ok (.iaload, 1) := by decide +kernel
theorem d121_119 : decode prog_1_method_55_code 119 = .ok (.invokevirtual 77, 3) := by decide +kernel
theorem d121_122 : decode prog_1_method_55_code 122 = .ok (.ireturn, 1) := by decide +kernel
theorem d121_123 : decode prog_1_method_55_code 123 = .ok (.aload_n 0, 1) := by decide +kernel
theorem d121_124 : decode prog_1_method_55_code 124 = .ok (.getfield 10, 3) := by decide +kernel
theorem d121_127 : decode prog_1_method_55_code 127 = .ok (.aload_n 2, 1) := by decide +kernel
theorem d121_128 : decode prog_1_method_55_code 128 = .ok (.iconst 0, 1) := by decide +kernel
theorem d121_129 : decode prog_1_method_55_code 129 = .ok (.iaload, 1) := by decide +kernel
theorem d121_130 : decode prog_1_method_55_code 130 = .ok (.invokevirtual 81, 3) := by decide +kernel
theorem d121_133 : decode prog_1_method_55_code 133 = .ok (.ireturn, 1) := by decide +kernel
theorem d121_134 : decode prog_1_method_55_code 134 = .ok (.aload_n 0, 1) := by decide +kernel
theorem d121_135 : decode prog_1_method_55_code 135 = .ok (.getfield 10, 3) := by decide +kernel
theorem d121_138 : decode prog_1_method_55_code 138 = .ok (.aload_n 2, 1) := by decide +kernel
theorem d121_139 : decode prog_1_method_55_code 139 = .ok (.iconst 0, 1) := by decide +kernel
theorem d121_140 : decode prog_1_method_55_code 140 = .ok (.iaload, 1) := by decide +kernel
theorem d121_141 : decode prog_1_method_55_code 141 = .ok (.aload_n 2, 1) := by decide +kernel
theorem d121_142 : decode prog_1_method_55_code 142 = .ok (.iconst 1, 1) := by decide +kernel
theorem d121_143 : decode prog_1_method_55_code 143 = .ok (.iaload, 1) := by decide +kernel
theorem d121_144 : decode prog_1_method_55_code 144 = .ok (.invokevirtual 84, 3) := by decide +kernel
theorem d121_147 : decode prog_1_method_55_code 147 = .ok (.ireturn, 1) := by decide +kernel
theorem d121_148 : decode prog_1_method_55_code 148 = .ok (.aload_n 0, 1) := by decide +kernel
theorem d121_149 : decode prog_1_method_55_code 149 = .ok (.getfield 10, 3) := by decide +kernel
theorem d121_152 : decode prog_1_method_55_code 152 = .ok (.aload_n 2, 1) := by decide +kernel
theorem d121_153 : decode prog_1_method_55_code 153 = .ok (.iconst 0, 1) := by decide +kernel
theorem d121_154 : decode prog_1_method_55_code 154 = .ok (.iaload, 1) := by decide +kernel
theorem d121_155 : decode prog_1_method_55_code 155 = .ok (.aload_n 2, 1) := by decide +kernel
theorem d121_156 : decode prog_1_method_55_code 156 = .ok (.iconst 1, 1) := by decide +kernel
theorem d121_157 : decode prog_1_method_55_code 157 = .ok (.iaload, 1) := by decide +kernel
theorem d121_158 : decode prog_1_method_55_code 158 = .ok (.aload_n 2, 1) := by decide +kernel
theorem d121_159 : decode prog_1_method_55_code 159 = .ok (.iconst 2, 1) := by decide +kernel
theorem d121_160 : decode prog_1_method_55_code 160 = .ok (.iaload, 1) := by decide +kernel
theorem d121_161 : decode prog_1_method_55_code 161 = .ok (.invokevirtual 87, 3) := by decide +kernel
theorem d121_164 : decode prog_1_method_55_code 164 = .ok (.ireturn, 1) := by decide +kernel
theorem d121_165 : decode prog_1_method_55_code 165 = .ok (.aload_n 0, 1) := by decide +kernel
theorem d121_166 : decode prog_1_method_55_code 166 = .ok (.getfield 10, 3) := by decide +kernel
theorem d121_169 : decode prog_1_method_55_code 169 = .ok (.aload_n 2, 1) := by decide +kernel
theorem d121_170 : decode prog_1_method_55_code 170 = .ok (.iconst 0, 1) := by decide +kernel
theorem d121_171 : decode prog_1_method_55_code 171 = .ok (.iaload, 1) := by decide +kernel
theorem d121_172 : decode prog_1_method_55_code 172 = .ok (.aload_n 2, 1) := by decide +kernel
theorem d121_173 : decode prog_1_method_55_code 173 = .ok (.iconst 1, 1) := by decide +kernel
theorem d121_174 : decode prog_1_method_55_code 174 = .ok (.iaload, 1) := by decide +kernel
theorem d121_175 : decode prog_1_method_55_code 175 = .ok (.invokevirtual 91, 3) := by decide +kernel
theorem d121_178 : decode prog_1_method_55_code 178 = .ok (.ireturn, 1) := by decide +kernel
theorem d121_179 : decode prog_1_method_55_code 179 = .ok (.aload_n 0, 1) := by decide +kernel
theorem d121_180 : decode prog_1_method_55_code 180 = .ok (.getfield 10, 3) := by decide +kernel
theorem d121_183 : decode prog_1_method_55_code 183 = .ok (.aload_n 2, 1) := by decide +kernel
theorem d121_184 : decode prog_1_method_55_code 184 = .ok (.iconst 0, 1) := by decide +kernel
theorem d121_185 : decode prog_1_method_55_code 185 = .ok (.iaload, 1) := by decide +kernel
theorem d121_186 : decode prog_1_method_55_code 186 = .ok (.aload_n 2, 1) := by decide +kernel
theorem d121_187 : decode prog_1_method_55_code 187 = .ok (.iconst 1, 1) := by decide +kernel
theorem d121_188 : decode prog_1_method_55_code 188 = .ok (.iaload, 1) := by decide +kernel
theorem d121_189 : decode prog_1_method_55_code 189 = .ok (.invokevirtual 94, 3) := by decide +kernel
theorem d121_192 : decode prog_1_method_55_code 192 = .ok (.ireturn, 1) := by decide +kernel
theorem d121_193 : decode prog_1_method_55_code 193 = .ok (.aload_n 0, 1) := by decide +kernel
theorem d121_194 : decode prog_1_method_55_code 194 = .ok (.getfield 10, 3) := by decide +kernel
theorem d121_197 : decode prog_1_method_55_code 197 = .ok (.aload_n 2, 1) := by decide +kernel
theorem d121_198 : decode prog_1_method_55_code 198 = .ok (.iconst 0, 1) := by decide +kernel
theorem d121_199 : decode prog_1_method_55_code 199 = .ok (.iaload, 1) := by decide +kernel
theorem d121_200 : decode prog_1_method_55_code 200 = .ok (.aload_n 2, 1) := by decide +kernel
theorem d121_201 : decode prog_1_method_55_code 201 = .ok (.iconst 1, 1) := by decide +kernel
theorem d121_202 : decode prog_1_method_55_code 202 = .ok (.iaload, 1) := by decide +kernel
theorem d121_203 : decode prog_1_method_55_code 203 = .ok (.invokevirtual 97, 3) := by decide +kernel
theorem d121_206 : decode prog_1_method_55_code 206 = .ok (.ireturn, 1) := by decide +kernel
theorem d121_207 : decode prog_1_method_55_code 207 = .ok (.aload_n 0, 1) := by decide +kernel
theorem d121_208 : decode prog_1_method_55_code 208 = .ok (.getfield 10, 3) := by decide +kernel
theorem d121_211 : decode prog_1_method_55_code 211 = .ok (.aload_n 2, 1) := by decide +kernel
theorem d121_212 : decode prog_1_method_55_code 212 = .ok (.iconst 0, 1) := by decide +kernel
theorem d121_213 : decode prog_1_method_55_code 213 = .ok (.iaload, 1) := by decide +kernel
theorem d121_214 : decode prog_1_method_55_code 214 = .ok (.invokevirtual 100, 3) := by decide +kernel
theorem d121_217 : decode prog_1_method_55_code 217 = .ok (.ireturn, 1) := by decide +kernel
theorem d121_218 : decode prog_1_method_55_code 218 = .ok (.aload_n 0, 1) := by decide +kernel
theorem d121_219 : decode prog_1_method_55_code 219 = .ok (.getfield 10, 3) := by decide +kernel
theorem d121_222 : decode prog_1_method_55_code 222 = .ok (.aload_n 2, 1) := by decide +kernel
theorem d121_223 : decode prog_1_method_55_code 223 = .ok (.iconst 0, 1) := by decide +kernel
theorem d121_224 : decode prog_1_method_55_code 224 = .ok (.iaload, 1) := by decide +kernel
theorem d121_225 : decode prog_1_method_55_code 225 = .ok (.aload_n 2, 1) := by decide +kernel
theorem d121_226 : decode prog_1_method_55_code 226 = .ok (.iconst 1, 1) := by decide +kernel
theorem d121_227 : decode prog_1_method_55_code 227 = .ok (.iaload, 1) := by decide +kernel
theorem d121_228 : decode prog_1_method_55_code 228 = .ok (.invokevirtual 103, 3) := by decide +kernel
theorem d121_231 : decode prog_1_method_55_code 231 = .ok (.ireturn, 1) := by decide +kernel
theorem d122_0 : decode prog_1_method_48_code 0 = .ok (.aload_n 0, 1) := by decide +kernel
theorem d122_1 : decode prog_1_method_48_code 1 = .ok (.getfield 51, 3) := by decide +kernel
theorem d122_4 : decode prog_1_method_48_code 4 = .ok (.iconst (-1), 1) := by decide +kernel
theorem d122_5 : decode prog_1_method_48_code 5 = .ok (.if_icmp .ne 11, 3) := by decide +kernel
theorem d122_8 : decode prog_1_method_48_code 8 = .ok (.new 134, 3) := by decide +kernel
theorem d122_11 : decode prog_1_method_48_code 11 = .ok (.dup, 1) := by decide +kernel
theorem d122_12 : decode prog_1_method_48_code 12 = .ok (.invokespecial 136, 3) := by decide +kernel
theorem d122_15 : decode prog_1_method_48_code 15 = .ok (.athrow, 1) := by decide +kernel
theorem d122_16 : decode prog_1_method_48_code 16 = .ok (.aload_n 0, 1) := by decide +kernel
theorem d122_17 : decode prog_1_method_48_code 17 = .ok (.getfield 51, 3) := by decide +kernel
theorem d122_20 : decode prog_1_method_48_code 20 = .ok (.ireturn, 1) := by decide +kernel
theorem d123_0 : decode prog_1_method_49_code 0 = .ok (.aload_n 0, 1) := by decide +kernel
theorem d123_1 : decode prog_1_method_49_code 1 = .ok (.getfield 55, 3) := by decide +kernel
theorem d123_4 : decode prog_1_method_49_code 4 = .ok (.iconst (-1), 1) := by decide +kernel
theorem d123_5 : decode prog_1_method_49_code 5 = .ok (.if_icmp .ne 11, 3) := by decide +kernel
theorem d123_8 : decode prog_1_method_49_code 8 = .ok (.new 134, 3) := by decide +kernel
theorem d123_11 : decode prog_1_method_49_code 11 = .ok (.dup, 1) := by decide +kernel
theorem d123_12 : decode prog_1_method_49_code 12 = .ok (.invokespecial 136, 3) := by decide +kernel
theorem d123_15 : decode prog_1_method_49_code 15 = .ok (.athrow, 1) := by decide +kernel
theorem d123_16 : decode prog_1_method_49_code 16 = .ok (.aload_n 0, 1) := by decide +kernel
theorem d123_17 : decode prog_1_method_49_code 17 = .ok (.getfield 55, 3) := by decide +kernel
theorem d123_20 : decode prog_1_method_49_code 20 = .ok (.ireturn, 1) := by decide +kernel
theorem d124_0 : decode prog_1_method_50_code 0 = .ok (.aload_n 0, 1) := by decide +kernel
theorem d124_1 : decode prog_1_method_50_code 1 = .ok (.getfield 26, 3) := by decide +kernel
theorem d124_4 : decode prog_1_method_50_code 4 = .ok (.getfield 310, 3) := by decide +kernel
theorem d124_7 : decode prog_1_method_50_code 7 = .ok (.ifCond .ne 11, 3) := by decide +kernel
theorem d124_10 : decode prog_1_method_50_code 10 = .ok (.new 283, 3) := by decide +kernel
theorem d124_13 : decode prog_1_method_50_code 13 = .ok (.dup, 1) := by decide +kernel
theorem d124_14 : decode prog_1_method_50_code 14 = .ok (.invokespecial 285, 3) := by decide +kernel
theorem d124_17 : decode prog_1_method_50_code 17 = .ok (.athrow, 1) := by decide +kernel
theorem d124_18 : decode prog_1_method_50_code 18 = .ok (.aload_n 0, 1) := by decide +kernel
theorem d124_19 : decode prog_1_method_50_code 19 = .ok (.getfield 26, 3) := by decide +kernel
theorem d124_22 : decode prog_1_method_50_code 22 = .ok (.aload_n 0, 1) := by decide +kernel
theorem d124_23 : decode prog_1_method_50_code 23 = .ok (.getfield 10, 3) := by decide +kernel
theorem d124_26 : decode prog_1_method_50_code 26 = .ok (.invokevirtual 311, 3) := by decide +kernel
theorem d124_29 : decode prog_1_method_50_code 29 = .ok (.aload_n 0, 1) := by decide +kernel
theorem d124_30 : decode prog_1_method_50_code 30 = .ok (.getfield 26, 3) := by decide +kernel
theorem d124_33 : decode prog_1_method_50_code 33 = .ok (.getfield 310, 3) := by decide +kernel
theorem d124_36 : decode prog_1_method_50_code 36 = .ok (.ireturn, 1) := by decide +kernel
theorem d125_0 : decode prog_1_method_52_code 0 = .ok (.aload_n 0, 1) := by decide +kernel
theorem d125_1 : decode prog_1_method_52_code 1 = .ok (.getfield 19, 3) := by decide +kernel
theorem d125_4 : decode prog_1_method_52_code 4 = .ok (.ifCond .ne 11, 3) := by decide +kernel
theorem d125_7 : decode prog_1_method_52_code 7 = .ok (.new 283, 3) := by decide +kernel
theorem d125_10 : decode prog_1_method_52_code 10 = .ok (.dup, 1) := by decide +kernel
theorem d125_11 : decode prog_1_method_52_code 11 = .ok (.invokespecial 285, 3) := by decide +kernel
theorem d125_14 : decode prog_1_method_52_code 14 = .ok (.athrow, 1) := by decide +kernel
theorem d125_15 : decode prog_1_method_52_code 15 = .ok (.aload_n 0, 1) := by decide +kernel
theorem d125_16 : decode prog_1_method_52_code 16 = .ok (.getfield 10, 3) := by decide +kernel
theorem d125_19 : decode prog_1_method_52_code 19 = .ok (.aload_n 0, 1) := by decide +kernel
theorem d125_20 : decode prog_1_method_52_code 20 = .ok (.getfield 16, 3) := by decide +kernel
theorem d125_23 : decode prog_1_method_52_code 23 = .ok (.invokevirtual 314, 3) := by decide +kernel
theorem d125_26 : decode prog_1_method_52_code 26 = .ok (.aload_n 0, 1) := by decide +kernel
theorem d125_27 : decode prog_1_method_52_code 27 = .ok (.getfield 26, 3) := by decide +kernel
theorem d125_30 : decode prog_1_method_52_code 30 = .ok (.invokevirtual 317, 3) := by decide +kernel
theorem d125_33 : decode prog_1_method_52_code 33 = .ok (.aload_n 0, 1) := by decide +kernel
theorem d125_34 : decode prog_1_method_52_code 34 = .ok (.getfield 10, 3) := by decide +kernel
theorem d125_37 : decode prog_1_method_52_code 37 = .ok (.getfield 106, 3) := by decide +kernel
theorem d125_40 : decode prog_1_method_52_code 40 = .ok (.ireturn, 1) := by decide +kernel
theorem d290_0 : decode prog_14_method_2_code 0 = .ok (.aload_n 0, 1) := by decide +kernel
theorem d290_1 : decode prog_14_method_2_code 1 = .ok (.invokespecial 3, 3) := by decide +kernel
theorem d290_4 : decode prog_14_method_2_code 4 = .ok (.getstatic 18, 3) := by decide +kernel
theorem d290_7 : decode prog_14_method_2_code 7 = .ok (.ifCond .eq 18, 3) := by decide +kernel
theorem d290_10 : decode prog_14_method_2_code 10 = .ok (.aload_n 0, 1) := by decide +kernel
theorem d290_11 : decode prog_14_method_2_code 11 = .ok (.iload_n 1, 1) := by decide +kernel
theorem d290_12 : decode prog_14_method_2_code 12 = .ok (.newarray .byte, 2) := by decide +kernel
theorem d290_14 : decode prog_14_method_2_code 14 = .ok (.putfield 15, 3) := by decide +kernel
theorem d290_17 : decode prog_14_method_2_code 17 = .ok (.aload_n 0, 1) := by decide +kernel
theorem d290_18 : decode prog_14_method_2_code 18 = .ok (.iconst 0, 1) := by decide +kernel
theorem d290_19 : decode prog_14_method_2_code 19 = .ok (.putfield 22, 3) := by decide +kernel
theorem d290_22 : decode prog_14_method_2_code 22 = .ok (.goto 16, 3) := by decide +kernel
theorem d290_25 : decode prog_14_method_2_code 25 = .ok (.aload_n 0, 1) := by decide +kernel
theorem d290_26 : decode prog_14_method_2_code 26 = .ok (.iload_n 1, 1) := by decide +kernel
theorem d290_27 : decode prog_14_method_2_code 27 = .ok (.invokestatic 26, 3) := by decide +kernel
theorem d290_30 : decode prog_14_method_2_code 30 = .ok (.putfield 15, 3) := by decide +kernel
theorem d290_33 : decode prog_14_method_2_code 33 = .ok (.aload_n 0, 1) := by decide +kernel
theorem d290_34 : decode prog_14_method_2_code 34 = .ok (.iconst 1, 1) := by decide +kernel
theorem d290_35 : decode prog_14_method_2_code 35 = .ok (.putfield 22, 3) := by decide +kernel
theorem d290_38 : decode prog_14_method_2_code 38 = .ok (.return_, 1) := by decide +kernel
theorem d291_0 : decode prog_14_method_13_code 0 = .ok (.iload_n 1, 1) := by decide +kernel
theorem d291_1 : decode prog_14_method_13_code 1 = .ok (.ifCond .ge 12, 3) := by decide +kernel
theorem d291_4 : decode prog_14_method_13_code 4 = .ok (.new 129, 3) := by decide +kernel
theorem d291_7 : decode prog_14_method_13_code 7 = .ok (.dup, 1) := by decide +kernel
theorem d291_8 : decode prog_14_method_13_code 8 = .ok (.iload_n 1, 1) := by decide +kernel
theorem d291_9 : decode prog_14_method_13_code 9 = .ok (.invokespecial 131, 3) := by decide +kernel
theorem d291_12 : decode prog_14_method_13_code 12 = .ok (.athrow, 1) := by decide +kernel
theorem d291_13 : decode prog_14_method_13_code 13 = .ok (.aload_n 0, 1) := by decide +kernel
theorem d291_14 : decode prog_14_method_13_code 14 = .ok (.iload_n 1, 1) := by decide +kernel
theorem d291_15 : decode prog_14_method_13_code 15 = .ok (.invokevirtual 100, 3) := by decide +kernel
theorem d291_18 : decode prog_14_method_13_code 18 = .ok (.aload_n 0, 1) := by decide +kernel
theorem d291_19 : decode prog_14_method_13_code 19 = .ok (.getfield 79, 3) := by decide +kernel
theorem d291_22 : decode prog_14_method_13_code 22 = .ok (.iload_n 1, 1) := by decide +kernel
theorem d291_23 : decode prog_14_method_13_code 23 = .ok (.if_icmp .ge 40, 3) := by decide +kernel
theorem d291_26 : decode prog_14_method_13_code 26 = .ok (.aload_n 0, 1) := by decide +kernel
theorem d291_27 : decode prog_14_method_13_code 27 = .ok (.invokevirtual 83, 3) := by decide +kernel
theorem d291_30 : decode prog_14_method_13_code 30 = .ok (.ifCond .eq 18, 3) := by decide +kernel
theorem d291_33 : decode prog_14_method_13_code 33 = .ok (.aload_n 0, 1) := by decide +kernel
theorem d291_34 : decode prog_14_method_13_code 34 = .ok (.getfield 15, 3) := by decide +kernel
theorem d291_37 : decode prog_14_method_13_code 37 = .ok (.aload_n 0, 1) := by decide +kernel
theorem d291_38 : decode prog_14_method_13_code 38 = .ok (.getfield 79, 3) := by decide +kernel
theorem d291_41 : decode prog_14_method_13_code 41 = .ok (.iload_n 1, 1) := by decide +kernel
theorem d291_42 : decode prog_14_method_13_code 42 = .ok (.invokestatic 133, 3) := by decide +kernel
theorem d291_45 : decode prog_14_method_13_code 45 = .ok (.goto 31, 3) := by decide +kernel
theorem d291_48 : decode prog_14_method_13_code 48 = .ok (.aload_n 0, 1) := by decide +kernel
theorem d291_49 : decode prog_14_method_13_code 49 = .ok (.getfield 15, 3) := by decide +kernel
theorem d291_52 : decode prog_14_method_13_code 52 = .ok (.aload_n 0, 1) := by decide +kernel
theorem d291_53 : decode prog_14_method_13_code 53 = .ok (.getfield 79, 3) := by decide +kernel
theorem d291_56 : decode prog_14_method_13_code 56 = .ok (.iload_n 1, 1) := by decide +kernel
theorem d291_57 : decode prog_14_method_13_code 57 = .ok (.invokestatic 137, 3) := by decide +kernel
theorem d291_60 : decode prog_14_method_13_code 60 = .ok (.goto 16, 3) := by decide +kernel
theorem d291_63 : decode prog_14_method_13_code 63 = .ok (.aload_n 0, 1) := by decide +kernel
theorem d291_64 : decode prog_14_method_13_code 64 = .ok (.getfield 79, 3) := by decide +kernel
theorem d291_67 : decode prog_14_method_13_code 67 = .ok (.iload_n 1, 1) := by decide +kernel
theorem d291_68 : decode prog_14_method_13_code 68 = .ok (.if_icmp .le 8, 3) := by decide +kernel
theorem d291_71 : decode prog_14_method_13_code 71 = .ok (.aload_n 0, 1) := by decide +kernel
theorem d291_72 : decode prog_14_method_13_code 72 = .ok (.iconst 1, 1) := by decide +kernel
theorem d291_73 : decode prog_14_method_13_code 73 = .ok (.putfield 73, 3) := by decide +kernel
theorem d291_76 : decode prog_14_method_13_code 76 = .ok (.aload_n 0, 1) := by decide +kernel
theorem d291_77 : decode prog_14_method_13_code 77 = .ok (.iload_n 1, 1) := by decide +kernel
theorem d291_78 : decode prog_14_method_13_code 78 = .ok (.putfield 79, 3) := by decide +kernel
theorem d291_81 : decode prog_14_method_13_code 81 = .ok (.return_, 1) := by decide +kernel
theorem d292_0 : decode prog_14_method_22_code 0 = .ok (.aload_n 1, 1) := by decide +kernel
theorem d292_1 : decode prog_14_method_22_code 1 = .ok (.ifnonnull 8, 3) := by decide +kernel
theorem d292_4 : decode prog_14_method_22_code 4 = .ok (.aload_n 0, 1) := by decide +kernel
theorem d292_5 : decode prog_14_method_22_code 5 = .ok (.invokevirtual 204, 3) := by decide +kernel
theorem d292_8 : decode prog_14_method_22_code 8 = .ok (.areturn, 1) := by decide +kernel
theorem d292_9 : decode prog_14_method_22_code 9 = .ok (.aload_n 1, 1) := by decide +kernel
theorem d292_10 : decode prog_14_method_22_code 10 = .ok (.invokevirtual 32, 3) := by decide +kernel
theorem d292_13 : decode prog_14_method_22_code 13 = .ok (.istore_n 2, 1) := by decide +kernel
theorem d292_14 : decode prog_14_method_22_code 14 = .ok (.aload_n 0, 1) := by decide +kernel
theorem d292_15 : decode prog_14_method_22_code 15 = .ok (.aload_n 0, 1) := by decide +kernel
theorem d292_16 : decode prog_14_method_22_code 16 = .ok (.getfield 79, 3) := by decide +kernel
theorem d292_19 : decode prog_14_method_22_code 19 = .ok (.iload_n 2, 1) := by decide +kernel
theorem d292_20 : decode prog_14_method_22_code 20 = .ok (.iadd, 1) := by decide +kernel
theorem d292_21 : decode prog_14_method_22_code 21 = .ok (.invokevirtual 100, 3) := by decide +kernel
theorem d292_24 : decode prog_14_method_22_code 24 = .ok (.aload_n 0, 1) := by decide +kernel
theorem d292_25 : decode prog_14_method_22_code 25 = .ok (.aload_n 0, 1) := by decide +kernel
theorem d292_26 : decode prog_14_method_22_code 26 = .ok (.getfield 79, 3) := by decide +kernel
theorem d292_29 : decode prog_14_method_22_code 29 = .ok (.aload_n 1, 1) := by decide +kernel
theorem d292_30 : decode prog_14_method_22_code 30 = .ok (.invokevirtual 208, 3) := by decide +kernel
theorem d292_33 : decode prog_14_method_22_code 33 = .ok (.aload_n 0, 1) := by decide +kernel
theorem d292_34 : decode prog_14_method_22_code 34 = .ok (.dup, 1) := by decide +kernel
theorem d292_35 : decode prog_14_method_22_code 35 = .ok (.getfield 79, 3) := by decide +kernel
theorem d292_38 : decode prog_14_method_22_code 38 = .ok (.iload_n 2, 1) := by decide +kernel
theorem d292_39 : decode prog_14_method_22_code 39 = .ok (.iadd, 1) := by decide +kernel
theorem d292_40 : decode prog_14_method_22_code 40 = .ok (.putfield 79, 3) := by decide +kernel
theorem d292_43 : decode prog_14_method_22_code 43 = .ok (.aload_n 0, 1) := by decide +kernel
theorem d292_44 : decode prog_14_method_22_code 44 = .ok (.areturn, 1) := by decide +kernel
theorem d293_0 : decode prog_14_method_9_code 0 = .ok (.aload_n 0, 1) := by decide +kernel
theorem d293_1 : decode prog_14_method_9_code 1 = .ok (.getfield 15, 3) := by decide +kernel
theorem d293_4 : decode prog_14_method_9_code 4 = .ok (.arraylength, 1) := by decide +kernel
theorem d293_5 : decode prog_14_method_9_code 5 = .ok (.aload_n 0, 1) := by decide +kernel
theorem d293_6 : decode prog_14_method_9_code 6 = .ok (.getfield 22, 3) := by decide +kernel
theorem d293_9 : decode prog_14_method_9_code 9 = .ok (.ishr, 1) := by decide +kernel
theorem d293_10 : decode prog_14_method_9_code 10 = .ok (.istore_n 2, 1) := by decide +kernel
theorem d293_11 : decode prog_14_method_9_code 11 = .ok (.iload_n 1, 1) := by decide +kernel
theorem d293_12 : decode prog_14_method_9_code 12 = .ok (.iload_n 2, 1) := by decide +kernel
theorem d293_13 : decode prog_14_method_9_code 13 = .ok (.isub, 1) := by decide +kernel
theorem d293_14 : decode prog_14_method_9_code 14 = .ok (.ifCond .le 24, 3) := by decide +kernel
theorem d293_17 : decode prog_14_method_9_code 17 = .ok (.aload_n 0, 1) := by decide +kernel
theorem d293_18 : decode prog_14_method_9_code 18 = .ok (.aload_n 0, 1) := by decide +kernel
theorem d293_19 : decode prog_14_method_9_code 19 = .ok (.getfield 15, 3) := by decide +kernel
theorem d293_22 : decode prog_14_method_9_code 22 = .ok (.aload_n 0, 1) := by decide +kernel
theorem d293_23 : decode prog_14_method_9_code 23 = .ok (.iload_n 1, 1) := by decide +kernel
theorem d293_24 : decode prog_14_method_9_code 24 = .ok (.invokevirtual 104, 3) := by decide +kernel
theorem d293_27 : decode prog_14_method_9_code 27 = .ok (.aload_n 0, 1) := by decide +kernel
theorem d293_28 : decode prog_14_method_9_code 28 = .ok (.getfield 22, 3) := by decide +kernel
theorem d293_31 : decode prog_14_method_9_code 31 = .ok (.ishl, 1) := by decide +kernel
theorem d293_32 : decode prog_14_method_9_code 32 = .ok (.invokestatic 108, 3) := by decide +kernel
theorem d293_35 : decode prog_14_method_9_code 35 = .ok (.putfield 15, 3) := by decide +kernel
theorem d293_38 : decode prog_14_method_9_code 38 = .ok (.return_, 1) := by decide +kernel
theorem d294_0 : decode prog_14_method_10_code 0 = .ok (.aload_n 0, 1) := by decide +kernel
theorem d294_1 : decode prog_14_method_10_code 1 = .ok (.getfield 15, 3) := by decide +kernel
theorem d294_4 : decode prog_14_method_10_code 4 = .ok (.arraylength, 1) := by decide +kernel
theorem d294_5 : decode prog_14_method_10_code 5 = .ok (.istore_n 2, 1) := by decide +kernel
theorem d294_6 : decode prog_14_method_10_code 6 = .ok (.iload_n 1, 1) := by decide +kernel
theorem d294_7 : decode prog_14_method_10_code 7 = .ok (.aload_n 0, 1) := by decide +kernel
theorem d294_8 : decode prog_14_method_10_code 8 = .ok (.getfield 22, 3) := by decide +kernel
theorem d294_11 : decode prog_14_method_10_code 11 = .ok (.ishl, 1) := by decide +kernel
theorem d294_12 : decode prog_14_method_10_code 12 = .ok (.istore_n 3, 1) := by decide +kernel
theorem d294_13 : decode prog_14_method_10_code 13 = .ok (.iload_n 3, 1) := by decide +kernel
theorem d294_14 : decode prog_14_method_10_code 14 = .ok (.iload_n 2, 1) := by decide +kernel
theorem d294_15 : decode prog_14_method_10_code 15 = .ok (.isub, 1) := by decide +kernel
theorem d294_16 : decode prog_14_method_10_code 16 = .ok (.istore 4, 2) := by decide +kernel
theorem d294_18 : decode prog_14_method_10_code 18 = .ok (.iload_n 2, 1) := by decide +kernel
theorem d294_19 : decode prog_14_method_10_code 19 = .ok (.iload 4, 2) := by decide +kernel
theorem d294_21 : decode prog_14_method_10_code 21 = .ok (.iload_n 2, 1) := by decide +kernel
theorem d294_22 : decode prog_14_method_10_code 22 = .ok (.iconst 2, 1) := by decide +kernel
theorem d294_23 : decode prog_14_method_10_code 23 = .ok (.aload_n 0, 1) := by decide +kernel
theorem d294_24 : decode prog_14_method_10_code 24 = .ok (.getfield 22, 3) := by decide +kernel
theorem d294_27 : decode prog_14_method_10_code 27 = .ok (.ishl, 1) := by decide +kernel
theorem d294_28 : decode prog_14_method_10_code 28 = .ok (.iadd, 1) := by decide +kernel
theorem d294_29 : decode prog_14_method_10_code 29 = .ok (.invokestatic 114, 3) := by decide +kernel
theorem d294_32 : decode prog_14_method_10_code 32 = .ok (.istore 5, 2) := by decide +kernel
theorem d294_34 : decode prog_14_method_10_code 34 = .ok (.iload 5, 2) := by decide +kernel
theorem d294_36 : decode prog_14_method_10_code 36 = .ok (.ldc 39, 2) := by decide +kernel
theorem d294_38 : decode prog_14_method_10_code 38 = .ok (.if_icmp .ne 13, 3) := by decide +kernel
theorem d294_41 : decode prog_14_method_10_code 41 = .ok (.new 120, 3) := by decide +kernel
theorem d294_44 : decode prog_14_method_10_code 44 = .ok (.dup, 1) := by decide +kernel
theorem d294_45 : decode prog_14_method_10_code 45 = .ok (.ldc 122, 2) := by decide +kernel
theorem d294_47 : decode prog_14_method_10_code 47 = .ok (.invokespecial 124, 3) := by decide +kernel
theorem d294_50 : decode prog_14_method_10_code 50 = .ok (.athrow, 1) := by decide +kernel
theorem d294_51 : decode prog_14_method_10_code 51 = .ok (.iload 5, 2) := by decide +kernel
theorem d294_53 : decode prog_14_method_10_code 53 = .ok (.aload_n 0, 1) := by decide +kernel
theorem d294_54 : decode prog_14_method_10_code 54 = .ok (.getfield 22, 3) := by decide +kernel
theorem d294_57 : decode prog_14_method_10_code 57 = .ok (.ishr, 1) := by decide +kernel
theorem d294_58 : decode prog_14_method_10_code 58 = .ok (.ireturn, 1) := by decide +kernel
theorem d295_0 : decode prog_14_method_68_code 0 = .ok (.getstatic 18, 3) := by decide +kernel
theorem d295_3 : decode prog_14_method_68_code 3 = .ok (.ifCond .eq 14, 3) := by decide +kernel
theorem d295_6 : decode prog_14_method_68_code 6 = .ok (.aload_n 0, 1) := by decide +kernel
theorem d295_7 : decode prog_14_method_68_code 7 = .ok (.getfield 22, 3) := by decide +kernel
theorem d295_10 : decode prog_14_method_68_code 10 = .ok (.ifCond .ne 7, 3) := by decide +kernel
theorem d295_13 : decode prog_14_method_68_code 13 = .ok (.iconst 1, 1) := by decide +kernel
theorem d295_14 : decode prog_14_method_68_code 14 = .ok (.goto 4, 3) := by decide +kernel
theorem d295_17 : decode prog_14_method_68_code 17 = .ok (.iconst 0, 1) := by decide +kernel
theorem d295_18 : decode prog_14_method_68_code 18 = .ok (.ireturn, 1) := by decide +kernel
theorem d296_0 : decode prog_14_method_73_code 0 = .ok (.aload_n 0, 1) := by decide +kernel
theorem d296_1 : decode prog_14_method_73_code 1 = .ok (.aload_n 2, 1) := by decide +kernel
theorem d296_2 : decode prog_14_method_73_code 2 = .ok (.invokevirtual 397, 3) := by decide +kernel
theorem d296_5 : decode prog_14_method_73_code 5 = .ok (.aload_n 2, 1) := by decide +kernel
theorem d296_6 : decode prog_14_method_73_code 6 = .ok (.aload_n 0, 1) := by decide +kernel
theorem d296_7 : decode prog_14_method_73_code 7 = .ok (.getfield 15, 3) := by decide +kernel
theorem d296_10 : decode prog_14_method_73_code 10 = .ok (.iload_n 1, 1) := by decide +kernel
theorem d296_11 : decode prog_14_method_73_code 11 = .ok (.aload_n 0, 1) := by decide +kernel
theorem d296_12 : decode prog_14_method_73_code 12 = .ok (.getfield 22, 3) := by decide +kernel
theorem d296_15 : decode prog_14_method_73_code 15 = .ok (.invokevirtual 399, 3) := by decide +kernel
theorem d296_18 : decode prog_14_method_73_code 18 = .ok (.return_, 1) := by decide +kernel
theorem d297_0 : decode prog_14_method_71_code 0 = .ok (.getstatic 18, 3) := by decide +kernel
theorem d297_3 : decode prog_14_method_71_code 3 = .ok (.ifCond .eq 18, 3) := by decide +kernel
theorem d297_6 : decode prog_14_method_71_code 6 = .ok (.aload_n 0, 1) := by decide +kernel
theorem d297_7 : decode prog_14_method_71_code 7 = .ok (.getfield 22, 3) := by decide +kernel
theorem d297_10 : decode prog_14_method_71_code 10 = .ok (.aload_n 1, 1) := by decide +kernel
theorem d297_11 : decode prog_14_method_71_code 11 = .ok (.invokevirtual 40, 3) := by decide +kernel
theorem d297_14 : decode prog_14_method_71_code 14 = .ok (.if_icmp .eq 7, 3) := by decide +kernel
theorem d297_17 : decode prog_14_method_71_code 17 = .ok (.aload_n 0, 1) := by decide +kernel
theorem d297_18 : decode prog_14_method_71_code 18 = .ok (.invokevirtual 195, 3) := by decide +kernel
theorem d297_21 : decode prog_14_method_71_code 21 = .ok (.return_, 1) := by decide +kernel
theorem d298_0 : decode prog_14_method_32_code 0 = .ok (.aload_n 0, 1) := by decide +kernel
theorem d298_1 : decode prog_14_method_32_code 1 = .ok (.getfield 79, 3) := by decide +kernel
theorem d298_4 : decode prog_14_method_32_code 4 = .ok (.istore_n 2, 1) := by decide +kernel
theorem d298_5 : decode prog_14_method_32_code 5 = .ok (.iload_n 2, 1) := by decide +kernel
theorem d298_6 : decode prog_14_method_32_code 6 = .ok (.iload_n 1, 1) := by decide +kernel
theorem d298_7 : decode prog_14_method_32_code 7 = .ok (.invokestatic 245, 3) := by decide +kernel
theorem d298_10 : decode prog_14_method_32_code 10 = .ok (.iadd, 1) := by decide +kernel
theorem d298_11 : decode prog_14_method_32_code 11 = .ok (.istore_n 3, 1) := by decide +kernel
theorem d298_12 : decode prog_14_method_32_code 12 = .ok (.aload_n 0, 1) := by decide +kernel
theorem d298_13 : decode prog_14_method_32_code 13 = .ok (.iload_n 3, 1) := by decide +kernel
theorem d298_14 : decode prog_14_method_32_code 14 = .ok (.invokevirtual 100, 3) := by decide +kernel
theorem d298_17 : decode prog_14_method_32_code 17 = .ok (.aload_n 0, 1) := by decide +kernel
theorem d298_18 : decode prog_14_method_32_code 18 = .ok (.invokevirtual 83, 3) := by decide +kernel
theorem d298_21 : decode prog_14_method_32_code 21 = .ok (.ifCond .eq 16, 3) := by decide +kernel
theorem d298_24 : decode prog_14_method_32_code 24 = .ok (.iload_n 1, 1) := by decide +kernel
theorem d298_25 : decode prog_14_method_32_code 25 = .ok (.iload_n 3, 1) := by decide +kernel
theorem d298_26 : decode prog_14_method_32_code 26 = .ok (.aload_n 0, 1) := by decide +kernel
theorem d298_27 : decode prog_14_method_32_code 27 = .ok (.getfield 15, 3) := by decide +kernel
theorem d298_30 : decode prog_14_method_32_code 30 = .ok (.invokestatic 248, 3) := by decide +kernel
theorem d298_33 : decode prog_14_method_32_code 33 = .ok (.pop, 1) := by decide +kernel
theorem d298_34 : decode prog_14_method_32_code 34 = .ok (.goto 14, 3) := by decide +kernel
theorem d298_37 : decode prog_14_method_32_code 37 = .ok (.iload_n 1, 1) := by decide +kernel
theorem d298_38 : decode prog_14_method_32_code 38 = .ok (.iload_n 2, 1) := by decide +kernel
theorem d298_39 : decode prog_14_method_32_code 39 = .ok (.iload_n 3, 1) := by decide +kernel
theorem d298_40 : decode prog_14_method_32_code 40 = .ok (.aload_n 0, 1) := by decide +kernel
theorem d298_41 : decode prog_14_method_32_code 41 = .ok (.getfield 15, 3) := by decide +kernel
theorem d298_44 : decode prog_14_method_32_code 44 = .ok (.invokestatic 251, 3) := by decide +kernel
theorem d298_47 : decode prog_14_method_32_code 47 = .ok (.pop, 1) := by decide +kernel
theorem d298_48 : decode prog_14_method_32_code 48 = .ok (.aload_n 0, 1) := by decide +kernel
theorem d298_49 : decode prog_14_method_32_code 49 = .ok (.iload_n 3, 1) := by decide +kernel
theorem d298_50 : decode prog_14_method_32_code 50 = .ok (.putfield 79, 3) := by decide +kernel
theorem d298_53 : decode prog_14_method_32_code 53 = .ok (.aload_n 0, 1) := by decide +kernel
theorem d298_54 : decode prog_14_method_32_code 54 = .ok (.areturn, 1) := by decide +kernel
theorem d299_0 : decode prog_14_method_6_code 0 = .ok (.aload_n 0, 1) := by decide +kernel
theorem d299_1 : decode prog_14_method_6_code 1 = .ok (.getfield 79, 3) := by decide +kernel
theorem d299_4 : decode prog_14_method_6_code 4 = .ok (.ireturn, 1) := by decide +kernel
theorem d300_0 : decode prog_14_method_31_code 0 = .ok (.aload_n 0, 1) := by decide +kernel
theorem d300_1 : decode prog_14_method_31_code 1 = .ok (.aload_n 0, 1) := by decide +kernel
theorem d300_2 : decode prog_14_method_31_code 2 = .ok (.getfield 79, 3) := by decide +kernel
theorem d300_5 : decode prog_14_method_31_code 5 = .ok (.iconst 1, 1) := by decide +kernel
theorem d300_6 : decode prog_14_method_31_code 6 = .ok (.iadd, 1) := by decide +kernel
theorem d300_7 : decode prog_14_method_31_code 7 = .ok (.invokevirtual 100, 3) := by decide +kernel
theorem d300_10 : decode prog_14_method_31_code 10 = .ok (.aload_n 0, 1) := by decide +kernel
theorem d300_11 : decode prog_14_method_31_code 11 = .ok (.invokevirtual 83, 3) := by decide +kernel
theorem d300_14 : decode prog_14_method_31_code 14 = .ok (.ifCond .eq 31, 3) := by decide +kernel
theorem d300_17 : decode prog_14_method_31_code 17 = .ok (.iload_n 1, 1) := by decide +kernel
theorem d300_18 : decode prog_14_method_31_code 18 = .ok (.invokestatic 191, 3) := by decide +kernel
theorem d300_21 : decode prog_14_method_31_code 21 = .ok (.ifCond .eq 24, 3) := by decide +kernel
theorem d300_24 : decode prog_14_method_31_code 24 = .ok (.aload_n 0, 1) := by decide +kernel
theorem d300_25 : decode prog_14_method_31_code 25 = .ok (.getfield 15, 3) := by decide +kernel
theorem d300_28 : decode prog_14_method_31_code 28 = .ok (.aload_n 0, 1) := by decide +kernel
theorem d300_29 : decode prog_14_method_31_code 29 = .ok (.dup, 1) := by decide +kernel
theorem d300_30 : decode prog_14_method_31_code 30 = .ok (.getfield 79, 3) := by decide +kernel
theorem d300_33 : decode prog_14_method_31_code 33 = .ok (.dup_x1, 1) := by decide +kernel
theorem d300_34 : decode prog_14_method_31_code 34 = .ok (.iconst 1, 1) := by decide +kernel
theorem d300_35 : decode prog_14_method_31_code 35 = .ok (.iadd, 1) := by decide +kernel
theorem d300_36 : decode prog_14_method_31_code 36 = .ok (.putfield 79, 3) := by decide +kernel
theorem d300_39 : decode prog_14_method_31_code 39 = .ok (.iload_n 1, 1) := by decide +kernel
theorem d300_40 : decode prog_14_method_31_code 40 = .ok (.i2b, 1) := by decide +kernel
theorem d300_41 : decode prog_14_method_31_code 41 = .ok (.bastore, 1) := by decide +kernel
theorem d300_42 : decode prog_14_method_31_code 42 = .ok (.goto 33, 3) := by decide +kernel
theorem d300_45 : decode prog_14_method_31_code 45 = .ok (.aload_n 0, 1) := by decide +kernel
theorem d300_46 : decode prog_14_method_31_code 46 = .ok (.invokevirtual 83, 3) := by decide +kernel
theorem d300_49 : decode prog_14_method_31_code 49 = .ok (.ifCond .eq 7, 3) := by decide +kernel
theorem d300_52 : decode prog_14_method_31_code 52 = .ok (.aload_n 0, 1) := by decide +kernel
theorem d300_53 : decode prog_14_method_31_code 53 = .ok (.invokevirtual 195, 3) := by decide +kernel
theorem d300_56 : decode prog_14_method_31_code 56 = .ok (.aload_n 0, 1) := by decide +kernel
theorem d300_57 : decode prog_14_method_31_code 57 = .ok (.getfield 15, 3) := by decide +kernel
theorem d300_60 : decode prog_14_method_31_code 60 = .ok (.aload_n 0, 1) := by decide +kernel
theorem d300_61 : decode prog_14_method_31_code 61 = .ok (.dup, 1) := by decide +kernel
theorem d300_62 : decode prog_14_method_31_code 62 = .ok (.getfield 79, 3) := by decide +kernel
theorem d300_65 : decode prog_14_method_31_code 65 = .ok (.dup_x1, 1) := by decide +kernel
theorem d300_66 : decode prog_14_method_31_code 66 = .ok (.iconst 1, 1) := by decide +kernel
theorem d300_67 : decode prog_14_method_31_code 67 = .ok (.iadd, 1) := by decide +kernel
theorem d300_68 : decode prog_14_method_31_code 68 = .ok (.putfield 79, 3) := by decide +kernel
theorem d300_71 : decode prog_14_method_31_code 71 = .ok (.iload_n 1, 1) := by decide +kernel
theorem d300_72 : decode prog_14_method_31_code 72 = .ok (.invokestatic 197, 3) := by decide +kernel
theorem d300_75 : decode prog_14_method_31_code 75 = .ok (.aload_n 0, 1) := by decide +kernel
theorem d300_76 : decode prog_14_method_31_code 76 = .ok (.areturn, 1) := by decide +kernel
theorem d301_0 : decode prog_14_method_14_code 0 = .ok (.aload_n 0, 1) := by decide +kernel
theorem d301_1 : decode prog_14_method_14_code 1 = .ok (.getfield 22, 3) := by decide +kernel
theorem d301_4 : decode prog_14_method_14_code 4 = .ok (.istore_n 2, 1) := by decide +kernel
theorem d301_5 : decode prog_14_method_14_code 5 = .ok (.aload_n 0, 1) := by decide +kernel
theorem d301_6 : decode prog_14_method_14_code 6 = .ok (.getfield 15, 3) := by decide +kernel
theorem d301_9 : decode prog_14_method_14_code 9 = .ok (.astore_n 3, 1) := by decide +kernel
theorem d301_10 : decode prog_14_method_14_code 10 = .ok (.aload_n 0, 1) := by decide +kernel
theorem d301_11 : decode prog_14_method_14_code 11 = .ok (.getfield 79, 3) := by decide +kernel
theorem d301_14 : decode prog_14_method_14_code 14 = .ok (.aload_n 3, 1) := by decide +kernel
theorem d301_15 : decode prog_14_method_14_code 15 = .ok (.arraylength, 1) := by decide +kernel
theorem d301_16 : decode prog_14_method_14_code 16 = .ok (.iload_n 2, 1) := by decide +kernel
theorem d301_17 : decode prog_14_method_14_code 17 = .ok (.ishr, 1) := by decide +kernel
theorem d301_18 : decode prog_14_method_14_code 18 = .ok (.invokestatic 138, 3) := by decide +kernel
theorem d301_21 : decode prog_14_method_14_code 21 = .ok (.istore 4, 2) := by decide +kernel
theorem d301_23 : decode prog_14_method_14_code 23 = .ok (.iload_n 1, 1) := by decide +kernel
theorem d301_24 : decode prog_14_method_14_code 24 = .ok (.iload 4, 2) := by decide +kernel
theorem d301_26 : decode prog_14_method_14_code 26 = .ok (.invokestatic 144, 3) := by decide +kernel
theorem d301_29 : decode prog_14_method_14_code 29 = .ok (.iload_n 2, 1) := by decide +kernel
theorem d301_30 : decode prog_14_method_14_code 30 = .ok (.ifCond .ne 12, 3) := by decide +kernel
theorem d301_33 : decode prog_14_method_14_code 33 = .ok (.aload_n 3, 1) := by decide +kernel
theorem d301_34 : decode prog_14_method_14_code 34 = .ok (.iload_n 1, 1) := by decide +kernel
theorem d301_35 : decode prog_14_method_14_code 35 = .ok (.baload, 1) := by decide +kernel
theorem d301_36 : decode prog_14_method_14_code 36 = .ok (.sipush 255, 3) := by decide +kernel
theorem d301_39 : decode prog_14_method_14_code 39 = .ok (.iand, 1) := by decide +kernel
theorem d301_40 : decode prog_14_method_14_code 40 = .ok (.i2c, 1) := by decide +kernel
theorem d301_41 : decode prog_14_method_14_code 41 = .ok (.ireturn, 1) := by decide +kernel
theorem d301_42 : decode prog_14_method_14_code 42 = .ok (.aload_n 3, 1) := by decide +kernel
theorem d301_43 : decode prog_14_method_14_code 43 = .ok (.iload_n 1, 1) := by decide +kernel
theorem d301_44 : decode prog_14_method_14_code 44 = .ok (.invokestatic 148, 3) := by decide +kernel
theorem d301_47 : decode prog_14_method_14_code 47 = .ok (.ireturn, 1) := by decide +kernel
theorem d302_0 : decode prog_31_method_1_code 0 = .ok (.aload_n 0, 1) := by decide +kernel
theorem d302_1 : decode prog_31_method_1_code 1 = .ok (.bipush 16, 2) := by decide +kernel
theorem d302_3 : decode prog_31_method_1_code 3 = .ok (.invokespecial 1, 3) := by decide +kernel
theorem d302_6 : decode prog_31_method_1_code 6 = .ok (.return_, 1) := by decide +kernel
theorem d303_0 : decode prog_31_method_89_code 0 = .ok (.aload_n 0, 1) := by decide +kernel
theorem d303_1 : decode prog_31_method_89_code 1 = .ok (.iload_n 1, 1) := by decide +kernel
theorem d303_2 : decode prog_31_method_89_code 2 = .ok (.invokespecial 333, 3) := by decide +kernel
theorem d303_5 : decode prog_31_method_89_code 5 = .ok (.return_, 1) := by decide +kernel
theorem d304_0 : decode prog_31_method_7_code 0 = .ok (.aload_n 0, 1) := by decide +kernel
theorem d304_1 : decode prog_31_method_7_code 1 = .ok (.aload_n 1, 1) := by decide +kernel
theorem d304_2 : decode prog_31_method_7_code 2 = .ok (.invokespecial 29, 3) := by decide +kernel
theorem d304_5 : decode prog_31_method_7_code 5 = .ok (.pop, 1) := by decide +kernel
theorem d304_6 : decode prog_31_method_7_code 6 = .ok (.aload_n 0, 1) := by decide +kernel
theorem d304_7 : decode prog_31_method_7_code 7 = .ok (.areturn, 1) := by decide +kernel
theorem d305_0 : decode prog_31_method_15_code 0 = .ok (.aload_n 0, 1) := by decide +kernel
theorem d305_1 : decode prog_31_method_15_code 1 = .ok (.iload_n 1, 1) := by decide +kernel
theorem d305_2 : decode prog_31_method_15_code 2 = .ok (.invokespecial 53, 3) := by decide +kernel
theorem d305_5 : decode prog_31_method_15_code 5 = .ok (.pop, 1) := by decide +kernel
theorem d305_6 : decode prog_31_method_15_code 6 = .ok (.aload_n 0, 1) := by decide +kernel
theorem d305_7 : decode prog_31_method_15_code 7 = .ok (.areturn, 1) := by decide +kernel
theorem d306_0 : decode prog_31_method_93_code 0 = .ok (.aload_n 0, 1) := by decide +kernel
theorem d306_1 : decode prog_31_method_93_code 1 = .ok (.invokespecial 343, 3) := by decide +kernel
theorem d306_4 : decode prog_31_method_93_code 4 = .ok (.ireturn, 1) := by decide +kernel
theorem d307_0 : decode prog_31_method_14_code 0 = .ok (.aload_n 0, 1) := by decide +kernel
theorem d307_1 : decode prog_31_method_14_code 1 = .ok (.iload_n 1, 1) := by decide +kernel
theorem d307_2 : decode prog_31_method_14_code 2 = .ok (.invokespecial 50, 3) := by decide +kernel
theorem d307_5 : decode prog_31_method_14_code 5 = .ok (.pop, 1) := by decide +kernel
theorem d307_6 : decode prog_31_method_14_code 6 = .ok (.aload_n 0, 1) := by decide +kernel
theorem d307_7 : decode prog_31_method_14_code 7 = .ok (.areturn, 1) := by decide +kernel
theorem d308_0 : decode prog_31_method_88_code 0 = .ok (.aload_n 0, 1) := by decide +kernel
theorem d308_1 : decode prog_31_method_88_code 1 = .ok (.iload_n 1, 1) := by decide +kernel
theorem d308_2 : decode prog_31_method_88_code 2 = .ok (.invokespecial 329, 3) := by decide +kernel
theorem d308_5 : decode prog_31_method_88_code 5 = .ok (.ireturn, 1) := by decide +kernel
theorem d309_0 : decode prog_30_method_54_code 0 = .ok (.aload_n 0, 1) := by decide +kernel
theorem d309_1 : decode prog_30_method_54_code 1 = .ok (.getfield 9, 3) := by decide +kernel
theorem d309_4 : decode prog_30_method_54_code 4 = .ok (.arraylength, 1) := by decide +kernel
theorem d309_5 : decode prog_30_method_54_code 5 = .ok (.aload_n 0, 1) := by decide +kernel
theorem d309_6 : decode prog_30_method_54_code 6 = .ok (.invokevirtual 335, 3) := by decide +kernel
theorem d309_9 : decode prog_30_method_54_code 9 = .ok (.ishr, 1) := by decide +kernel
theorem d309_10 : decode prog_30_method_54_code 10 = .ok (.ireturn, 1) := by decide +kernel
theorem d310_0 : decode prog_30_method_152_code 0 = .ok (.getstatic 38, 3) := by decide +kernel
theorem d310_3 : decode prog_30_method_152_code 3 = .ok (.ifCond .eq 10, 3) := by decide +kernel
theorem d310_6 : decode prog_30_method_152_code 6 = .ok (.aload_n 0, 1) := by decide +kernel
theorem d310_7 : decode prog_30_method_152_code 7 = .ok (.getfield 15, 3) := by decide +kernel
theorem d310_10 : decode prog_30_method_152_code 10 = .ok (.goto 4, 3) := by decide +kernel
theorem d310_13 : decode prog_30_method_152_code 13 = .ok (.iconst 1, 1) := by decide +kernel
theorem d310_14 : decode prog_30_method_152_code 14 = .ok (.ireturn, 1) := by decide +kernel
theorem d311_0 : decode prog_30_method_147_code 0 = .ok (.aload_n 0, 1) := by decide +kernel
theorem d311_1 : decode prog_30_method_147_code 1 = .ok (.invokevirtual 335, 3) := by decide +kernel
theorem d311_4 : decode prog_30_method_147_code 4 = .ok (.iload_n 3, 1) := by decide +kernel
theorem d311_5 : decode prog_30_method_147_code 5 = .ok (.if_icmp .ne 23, 3) := by decide +kernel
theorem d311_8 : decode prog_30_method_147_code 8 = .ok (.aload_n 0, 1) := by decide +kernel
theorem d311_9 : decode prog_30_method_147_code 9 = .ok (.getfield 9, 3) := by decide +kernel
theorem d311_12 : decode prog_30_method_147_code 12 = .ok (.iconst 0, 1) := by decide +kernel
theorem d311_13 : decode prog_30_method_147_code 13 = .ok (.aload_n 1, 1) := by decide +kernel
theorem d311_14 : decode prog_30_method_147_code 14 = .ok (.iload_n 2, 1) := by decide +kernel
theorem d311_15 : decode prog_30_method_147_code 15 = .ok (.iload_n 3, 1) := by decide +kernel
theorem d311_16 : decode prog_30_method_147_code 16 = .ok (.ishl, 1) := by decide +kernel
theorem d311_17 : decode prog_30_method_147_code 17 = .ok (.aload_n 0, 1) := by decide +kernel
theorem d311_18 : decode prog_30_method_147_code 18 = .ok (.getfield 9, 3) := by decide +kernel
theorem d311_21 : decode prog_30_method_147_code 21 = .ok (.arraylength, 1) := by decide +kernel
theorem d311_22 : decode prog_30_method_147_code 22 = .ok (.invokestatic 212, 3) := by decide +kernel
theorem d311_25 : decode prog_30_method_147_code 25 = .ok (.goto 18, 3) := by decide +kernel
theorem d311_28 : decode prog_30_method_147_code 28 = .ok (.aload_n 0, 1) := by decide +kernel
theorem d311_29 : decode prog_30_method_147_code 29 = .ok (.getfield 9, 3) := by decide +kernel
theorem d311_32 : decode prog_30_method_147_code 32 = .ok (.iconst 0, 1) := by decide +kernel
theorem d311_33 : decode prog_30_method_147_code 33 = .ok (.aload_n 1, 1) := by decide +kernel
theorem d311_34 : decode prog_30_method_147_code 34 = .ok (.iload_n 2, 1) := by decide +kernel
theorem d311_35 : decode prog_30_method_147_code 35 = .ok (.aload_n 0, 1) := by decide +kernel
theorem d311_36 : decode prog_30_method_147_code 36 = .ok (.getfield 9, 3) := by decide +kernel
theorem d311_39 : decode prog_30_method_147_code 39 = .ok (.arraylength, 1) := by decide +kernel
theorem d311_40 : decode prog_30_method_147_code 40 = .ok (.invokestatic 106, 3) := by decide +kernel
theorem d311_43 : decode prog_30_method_147_code 43 = .ok (.return_, 1) := by decide +kernel
theorem d312_0 : decode prog_30_method_155_code 0 = .ok (.iload_n 0, 1) := by decide +kernel
theorem d312_1 : decode prog_30_method_155_code 1 = .ok (.iload_n 1, 1) := by decide +kernel
theorem d312_2 : decode prog_30_method_155_code 2 = .ok (.getstatic 1053, 3) := by decide +kernel
theorem d312_5 : decode prog_30_method_155_code 5 = .ok (.invokestatic 1059, 3) := by decide +kernel
theorem d312_8 : decode prog_30_method_155_code 8 = .ok (.pop, 1) := by decide +kernel
theorem d312_9 : decode prog_30_method_155_code 9 = .ok (.return_, 1) := by decide +kernel
theorem d313_0 : decode prog_30_method_56_code 0 = .ok (.aload_n 0, 1) := by decide +kernel
theorem d313_1 : decode prog_30_method_56_code 1 = .ok (.invokevirtual 492, 3) := by decide +kernel
theorem d313_4 : decode prog_30_method_56_code 4 = .ok (.ifCond .eq 12, 3) := by decide +kernel
theorem d313_7 : decode prog_30_method_56_code 7 = .ok (.aload_n 0, 1) := by decide +kernel
theorem d313_8 : decode prog_30_method_56_code 8 = .ok (.getfield 9, 3) := by decide +kernel
theorem d313_11 : decode prog_30_method_56_code 11 = .ok (.iload_n 1, 1) := by decide +kernel
theorem d313_12 : decode prog_30_method_56_code 12 = .ok (.invokestatic 495, 3) := by decide +kernel
theorem d313_15 : decode prog_30_method_56_code 15 = .ok (.ireturn, 1) := by decide +kernel
theorem d313_16 : decode prog_30_method_56_code 16 = .ok (.aload_n 0, 1) := by decide +kernel
theorem d313_17 : decode prog_30_method_56_code 17 = .ok (.getfield 9, 3) := by decide +kernel
theorem d313_20 : decode prog_30_method_56_code 20 = .ok (.iload_n 1, 1) := by decide +kernel
theorem d313_21 : decode prog_30_method_56_code 21 = .ok (.invokestatic 498, 3) := by decide +kernel
theorem d313_24 : decode prog_30_method_56_code 24 = .ok (.ireturn, 1) := by decide +kernel
theorem d314_0 : decode prog_30_method_154_code 0 = .ok (.getstatic 38, 3) := by decide +kernel
theorem d314_3 : decode prog_30_method_154_code 3 = .ok (.ifCond .eq 14, 3) := by decide +kernel
theorem d314_6 : decode prog_30_method_154_code 6 = .ok (.aload_n 0, 1) := by decide +kernel
theorem d314_7 : decode prog_30_method_154_code 7 = .ok (.getfield 15, 3) := by decide +kernel
theorem d314_10 : decode prog_30_method_154_code 10 = .ok (.ifCond .ne 7, 3) := by decide +kernel
theorem d314_13 : decode prog_30_method_154_code 13 = .ok (.iconst 1, 1) := by decide +kernel
theorem d314_14 : decode prog_30_method_154_code 14 = .ok (.goto 4, 3) := by decide +kernel
theorem d314_17 : decode prog_30_method_154_code 17 = .ok (.iconst 0, 1) := by decide +kernel
theorem d314_18 : decode prog_30_method_154_code 18 = .ok (.ireturn, 1) := by decide +kernel
theorem d315_0 : decode prog_33_method_3_code 0 = .ok (.iload_n 0, 1) := by decide +kernel
theorem d315_1 : decode prog_33_method_3_code 1 = .ok (.sipush 255, 3) := by decide +kernel
theorem d315_4 : decode prog_33_method_3_code 4 = .ok (.if_icmp .gt 7, 3) := by decide +kernel
theorem d315_7 : decode prog_33_method_3_code 7 = .ok (.iconst 1, 1) := by decide +kernel
theorem d315_8 : decode prog_33_method_3_code 8 = .ok (.goto 4, 3) := by decide +kernel
theorem d315_11 : decode prog_33_method_3_code 11 = .ok (.iconst 0, 1) := by decide +kernel
theorem d315_12 : decode prog_33_method_3_code 12 = .ok (.ireturn, 1) := by decide +kernel
theorem d316_0 : decode prog_33_method_2_code 0 = .ok (.iload_n 1, 1) := by decide +kernel
theorem d316_1 : decode prog_33_method_2_code 1 = .ok (.aload_n 0, 1) := by decide +kernel
theorem d316_2 : decode prog_33_method_2_code 2 = .ok (.arraylength, 1) := by decide +kernel
theorem d316_3 : decode prog_33_method_2_code 3 = .ok (.invokestatic 9, 3) := by decide +kernel
theorem d316_6 : decode prog_33_method_2_code 6 = .ok (.aload_n 0, 1) := by decide +kernel
theorem d316_7 : decode prog_33_method_2_code 7 = .ok (.iload_n 1, 1) := by decide +kernel
theorem d316_8 : decode prog_33_method_2_code 8 = .ok (.baload, 1) := by decide +kernel
theorem d316_9 : decode prog_33_method_2_code 9 = .ok (.sipush 255, 3) := by decide +kernel
theorem d316_12 : decode prog_33_method_2_code 12 = .ok (.iand, 1) := by decide +kernel
theorem d316_13 : decode prog_33_method_2_code 13 = .ok (.i2c, 1) := by decide +kernel
theorem d316_14 : decode prog_33_method_2_code 14 = .ok (.ireturn, 1) := by decide +kernel
theorem d317_0 : decode prog_26_method_13_code 0 = .ok (.iconst 1, 1) := by decide +kernel
theorem d317_1 : decode prog_26_method_13_code 1 = .ok (.istore_n 1, 1) := by decide +kernel
theorem d317_2 : decode prog_26_method_13_code 2 = .ok (.iload_n 0, 1) := by decide +kernel
theorem d317_3 : decode prog_26_method_13_code 3 = .ok (.ifCond .lt 8, 3) := by decide +kernel
theorem d317_6 : decode prog_26_method_13_code 6 = .ok (.iconst 0, 1) := by decide +kernel
theorem d317_7 : decode prog_26_method_13_code 7 = .ok (.istore_n 1, 1) := by decide +kernel
theorem d317_8 : decode prog_26_method_13_code 8 = .ok (.iload_n 0, 1) := by decide +kernel
theorem d317_9 : decode prog_26_method_13_code 9 = .ok (.ineg, 1) := by decide +kernel
theorem d317_10 : decode prog_26_method_13_code 10 = .ok (.istore_n 0, 1) := by decide +kernel
theorem d317_11 : decode prog_26_method_13_code 11 = .ok (.bipush (-10), 2) := by decide +kernel
theorem d317_13 : decode prog_26_method_13_code 13 = .ok (.istore_n 2, 1) := by decide +kernel
theorem d317_14 : decode prog_26_method_13_code 14 = .ok (.iconst 1, 1) := by decide +kernel
theorem d317_15 : decode prog_26_method_13_code 15 = .ok (.istore_n 3, 1) := by decide +kernel
theorem d317_16 : decode prog_26_method_13_code 16 = .ok (.iload_n 3, 1) := by decide +kernel
theorem d317_17 : decode prog_26_method_13_code 17 = .ok (.bipush 10, 2) := by decide +kernel
theorem d317_19 : decode prog_26_method_13_code 19 = .ok (.if_icmp .ge 23, 3) := by decide +kernel
theorem d317_22 : decode prog_26_method_13_code 22 = .ok (.iload_n 0, 1) := by decide +kernel
theorem d317_23 : decode prog_26_method_13_code 23 = .ok (.iload_n 2, 1) := by decide +kernel
theorem d317_24 : decode prog_26_method_13_code 24 = .ok (.if_icmp .le 7, 3) := by decide +kernel
theorem d317_27 : decode prog_26_method_13_code 27 = .ok (.iload_n 3, 1) := by decide +kernel
theorem d317_28 : decode prog_26_method_13_code 28 = .ok (.iload_n 1, 1) := by decide +kernel
theorem d317_29 : decode prog_26_method_13_code 29 = .ok (.iadd, 1) := by decide +kernel
theorem d317_30 : decode prog_26_method_13_code 30 = .ok (.ireturn, 1) := by decide +kernel
theorem d317_31 : decode prog_26_method_13_code 31 = .ok (.bipush 10, 2) := by decide +kernel
theorem d317_33 : decode prog_26_method_13_code 33 = .ok (.iload_n 2, 1) := by decide +kernel
theorem d317_34 : decode prog_26_method_13_code 34 = .ok (.imul, 1) := by decide +kernel
theorem d317_35 : decode prog_26_method_13_code 35 = .ok (.istore_n 2, 1) := by decide +kernel
theorem d317_36 : decode prog_26_method_13_code 36 = .ok (.iinc 3 1, 3) := by decide +kernel
theorem d317_39 : decode prog_26_method_13_code 39 = .ok (.goto (-23), 3) := by decide +kernel
theorem d317_42 : decode prog_26_method_13_code 42 = .ok (.bipush 10, 2) := by decide +kernel
theorem d317_44 : decode prog_26_method_13_code 44 = .ok (.iload_n 1, 1) := by decide +kernel
theorem d317_45 : decode prog_26_method_13_code 45 = .ok (.iadd, 1) := by decide +kernel
theorem d317_46 : decode prog_26_method_13_code 46 = .ok (.ireturn, 1) := by decide +kernel
theorem d318_0 : decode prog_26_method_12_code 0 = .ok (.iload_n 1, 1) := by decide +kernel
theorem d318_1 : decode prog_26_method_12_code 1 = .ok (.istore 5, 2) := by decide +kernel
theorem d318_3 : decode prog_26_method_12_code 3 = .ok (.iload_n 0, 1) := by decide +kernel
theorem d318_4 : decode prog_26_method_12_code 4 = .ok (.ifCond .ge 7, 3) := by decide +kernel
theorem d318_7 : decode prog_26_method_12_code 7 = .ok (.iconst 1, 1) := by decide +kernel
theorem d318_8 : decode prog_26_method_12_code 8 = .ok (.goto 4, 3) := by decide +kernel
theorem d318_11 : decode prog_26_method_12_code 11 = .ok (.iconst 0, 1) := by decide +kernel
theorem d318_12 : decode prog_26_method_12_code 12 = .ok (.istore 6, 2) := by decide +kernel
theorem d318_14 : decode prog_26_method_12_code 14 = .ok (.iload 6, 2) := by decide +kernel
theorem d318_16 : decode prog_26_method_12_code 16 = .ok (.ifCond .ne 6, 3) := by decide +kernel
theorem d318_19 : decode prog_26_method_12_code 19 = .ok (.iload_n 0, 1) := by decide +kernel
theorem d318_20 : decode prog_26_method_12_code 20 = .ok (.ineg, 1) := by decide +kernel
theorem d318_21 : decode prog_26_method_12_code 21 = .ok (.istore_n 0, 1) := by decide +kernel
theorem d318_22 : decode prog_26_method_12_code 22 = .ok (.iload_n 0, 1) := by decide +kernel
theorem d318_23 : decode prog_26_method_12_code 23 = .ok (.bipush (-100), 2) := by decide +kernel
theorem d318_25 : decode prog_26_method_12_code 25 = .ok (.if_icmp .gt 47, 3) := by decide +kernel
theorem d318_28 : decode prog_26_method_12_code 28 = .ok (.iload_n 0, 1) := by decide +kernel
theorem d318_29 : decode prog_26_method_12_code 29 = .ok (.bipush 100, 2) := by decide +kernel
theorem d318_31 : decode prog_26_method_12_code 31 = .ok (.idiv, 1) := by decide +kernel
theorem d318_32 : decode prog_26_method_12_code 32 = .ok (.istore_n 3, 1) := by decide +kernel
theorem d318_33 : decode prog_26_method_12_code 33 = .ok (.iload_n 3, 1) := by decide +kernel
theorem d318_34 : decode prog_26_method_12_code 34 = .ok (.bipush 100, 2) := by decide +kernel
theorem d318_36 : decode prog_26_method_12_code 36 = .ok (.imul, 1) := by decide +kernel
theorem d318_37 : decode prog_26_method_12_code 37 = .ok (.iload_n 0, 1) := by decide +kernel
theorem d318_38 : decode prog_26_method_12_code 38 = .ok (.isub, 1) := by decide +kernel
theorem d318_39 : decode prog_26_method_12_code 39 = .ok (.istore 4, 2) := by decide +kernel
theorem d318_41 : decode prog_26_method_12_code 41 = .ok (.iload_n 3, 1) := by decide +kernel
theorem d318_42 : decode prog_26_method_12_code 42 = .ok (.istore_n 0, 1) := by decide +kernel
theorem d318_43 : decode prog_26_method_12_code 43 = .ok (.aload_n 2, 1) := by decide +kernel
theorem d318_44 : decode prog_26_method_12_code 44 = .ok (.iinc 5 (-1), 3) := by decide +kernel
theorem d318_47 : decode prog_26_method_12_code 47 = .ok (.iload 5, 2) := by decide +kernel
theorem d318_49 : decode prog_26_method_12_code 49 = .ok (.getstatic 83, 3) := by decide +kernel
theorem d318_52 : decode prog_26_method_12_code 52 = .ok (.iload 4, 2) := by decide +kernel
theorem d318_54 : decode prog_26_method_12_code 54 = .ok (.baload, 1) := by decide +kernel
theorem d318_55 : decode prog_26_method_12_code 55 = .ok (.bastore, 1) := by decide +kernel
theorem d318_56 : decode prog_26_method_12_code 56 = .ok (.aload_n 2, 1) := by decide +kernel
theorem d318_57 : decode prog_26_method_12_code 57 = .ok (.iinc 5 (-1), 3) := by decide +kernel
theorem d318_60 : decode prog_26_method_12_code 60 = .ok (.iload 5, 2) := by decide +kernel
theorem d318_62 : decode prog_26_method_12_code 62 = .ok (.getstatic 87, 3) := by decide +kernel
theorem d318_65 : decode prog_26_method_12_code 65 = .ok (.iload 4, 2) := by decide +kernel
theorem d318_67 : decode prog_26_method_12_code 67 = .ok (.baload, 1) := by decide +kernel
theorem d318_68 : decode prog_26_method_12_code 68 = .ok (.bastore, 1) := by decide +kernel
theorem d318_69 : decode prog_26_method_12_code 69 = .ok (.goto (-47), 3) := by decide +kernel
theorem d318_72 : decode prog_26_method_12_code 72 = .ok (.aload_n 2, 1) := by decide +kernel
theorem d318_73 : decode prog_26_method_12_code 73 = .ok (.iinc 5 (-1), 3) := by decide +kernel
theorem d318_76 : decode prog_26_method_12_code 76 = .ok (.iload 5, 2) := by decide +kernel
theorem d318_78 : decode prog_26_method_12_code 78 = .ok (.getstatic 83, 3) := by decide +kernel
theorem d318_81 : decode prog_26_method_12_code 81 = .ok (.iload_n 0, 1) := by decide +kernel
theorem d318_82 : decode prog_26_method_12_code 82 = .ok (.ineg, 1) := by decide +kernel
theorem d318_83 : decode prog_26_method_12_code 83 = .ok (.baload, 1) := by decide +kernel
theorem d318_84 : decode prog_26_method_12_code 84 = .ok (.bastore, 1) := by decide +kernel
theorem d318_85 : decode prog_26_method_12_code 85 = .ok (.iload_n 0, 1) := by decide +kernel
theorem d318_86 : decode prog_26_method_12_code 86 = .ok (.bipush (-9), 2) := by decide +kernel
theorem d318_88 : decode prog_26_method_12_code 88 = .ok (.if_icmp .ge 16, 3) := by decide +kernel
theorem d318_91 : decode prog_26_method_12_code 91 = .ok (.aload_n 2, 1) := by decide +kernel
theorem d318_92 : decode prog_26_method_12_code 92 = .ok (.iinc 5 (-1), 3) := by decide +kernel
theorem d318_95 : decode prog_26_method_12_code 95 = .ok (.iload 5, 2) := by decide +kernel
theorem d318_97 : decode prog_26_method_12_code 97 = .ok (.getstatic 87, 3) := by decide +kernel
theorem d318_100 : decode prog_26_method_12_code 100 = .ok (.iload_n 0, 1) := by decide +kernel
theorem d318_101 : decode prog_26_method_12_code 101 = .ok (.ineg, 1) := by decide +kernel
theorem d318_102 : decode prog_26_method_12_code 102 = .ok (.baload, 1) := by decide +kernel
theorem d318_103 : decode prog_26_method_12_code 103 = .ok (.bastore, 1) := by decide +kernel
theorem d318_104 : decode prog_26_method_12_code 104 = .ok (.iload 6, 2) := by decide +kernel
theorem d318_106 : decode prog_26_method_12_code 106 = .ok (.ifCond .eq 12, 3) := by decide +kernel
theorem d318_109 : decode prog_26_method_12_code 109 = .ok (.aload_n 2, 1) := by decide +kernel
theorem d318_110 : decode prog_26_method_12_code 110 = .ok (.iinc 5 (-1), 3) := by decide +kernel
theorem d318_113 : decode prog_26_method_12_code 113 = .ok (.iload 5, 2) := by decide +kernel
theorem d318_115 : decode prog_26_method_12_code 115 = .ok (.bipush 45, 2) := by decide +kernel
theorem d318_117 : decode prog_26_method_12_code 117 = .ok (.bastore, 1) := by decide +kernel
theorem d318_118 : decode prog_26_method_12_code 118 = .ok (.iload 5, 2) := by decide +kernel
theorem d318_120 : decode prog_26_method_12_code 120 = .ok (.ireturn, 1) := by decide +kernel
theorem d319_0 : decode prog_21_method_2_code 0 = .ok (.aload_n 0, 1) := by decide +kernel
theorem d319_1 : decode prog_21_method_2_code 1 = .ok (.getfield 7, 3) := by decide +kernel
theorem d319_4 : decode prog_21_method_2_code 4 = .ok (.ireturn, 1) := by decide +kernel
theorem d320_0 : decode prog_40_method_121_code 0 = .ok (.iload_n 1, 1) := by decide +kernel
theorem d320_1 : decode prog_40_method_121_code 1 = .ok (.aload_n 0, 1) := by decide +kernel
theorem d320_2 : decode prog_40_method_121_code 2 = .ok (.arraylength, 1) := by decide +kernel
theorem d320_3 : decode prog_40_method_121_code 3 = .ok (.if_icmp .ne 11, 3) := by decide +kernel
theorem d320_6 : decode prog_40_method_121_code 6 = .ok (.aload_n 0, 1) := by decide +kernel
theorem d320_7 : decode prog_40_method_121_code 7 = .ok (.invokevirtual 310, 3) := by decide +kernel
theorem d320_10 : decode prog_40_method_121_code 10 = .ok (.checkcast 311, 3) := by decide +kernel
theorem d320_13 : decode prog_40_method_121_code 13 = .ok (.areturn, 1) := by decide +kernel
theorem d320_14 : decode prog_40_method_121_code 14 = .ok (.iload_n 1, 1) := by decide +kernel
theorem d320_15 : decode prog_40_method_121_code 15 = .ok (.newarray .byte, 2) := by decide +kernel
theorem d320_17 : decode prog_40_method_121_code 17 = .ok (.astore_n 2, 1) := by decide +kernel
theorem d320_18 : decode prog_40_method_121_code 18 = .ok (.aload_n 0, 1) := by decide +kernel
theorem d320_19 : decode prog_40_method_121_code 19 = .ok (.iconst 0, 1) := by decide +kernel
theorem d320_20 : decode prog_40_method_121_code 20 = .ok (.aload_n 2, 1) := by decide +kernel
theorem d320_21 : decode prog_40_method_121_code 21 = .ok (.iconst 0, 1) := by decide +kernel
theorem d320_22 : decode prog_40_method_121_code 22 = .ok (.aload_n 0, 1) := by decide +kernel
theorem d320_23 : decode prog_40_method_121_code 23 = .ok (.arraylength, 1) := by decide +kernel
theorem d320_24 : decode prog_40_method_121_code 24 = .ok (.iload_n 1, 1) := by decide +kernel
theorem d320_25 : decode prog_40_method_121_code 25 = .ok (.invokestatic 304, 3) := by decide +kernel
theorem d320_28 : decode prog_40_method_121_code 28 = .ok (.invokestatic 150, 3) := by decide +kernel
theorem d320_31 : decode prog_40_method_121_code 31 = .ok (.aload_n 2, 1) := by decide +kernel
theorem d320_32 : decode prog_40_method_121_code 32 = .ok (.areturn, 1) := by decide +kernel
theorem d321_0 : decode prog_42_method_27_code 0 = .ok (.iload_n 0, 1) := by decide +kernel
theorem d321_1 : decode prog_42_method_27_code 1 = .ok (.iload_n 1, 1) := by decide +kernel
theorem d321_2 : decode prog_42_method_27_code 2 = .ok (.iload_n 2, 1) := by decide +kernel
theorem d321_3 : decode prog_42_method_27_code 3 = .ok (.invokestatic 194, 3) := by decide +kernel
theorem d321_6 : decode prog_42_method_27_code 6 = .ok (.iadd, 1) := by decide +kernel
theorem d321_7 : decode prog_42_method_27_code 7 = .ok (.istore_n 3, 1) := by decide +kernel
theorem d321_8 : decode prog_42_method_27_code 8 = .ok (.iconst 0, 1) := by decide +kernel
theorem d321_9 : decode prog_42_method_27_code 9 = .ok (.iload_n 3, 1) := by decide +kernel
theorem d321_10 : decode prog_42_method_27_code 10 = .ok (.if_icmp .ge 11, 3) := by decide +kernel
theorem d321_13 : decode prog_42_method_27_code 13 = .ok (.iload_n 3, 1) := by decide +kernel
theorem d321_14 : decode prog_42_method_27_code 14 = .ok (.ldc 200, 2) := by decide +kernel
theorem d321_16 : decode prog_42_method_27_code 16 = .ok (.if_icmp .gt 5, 3) := by decide +kernel
theorem d321_19 : decode prog_42_method_27_code 19 = .ok (.iload_n 3, 1) := by decide +kernel
theorem d321_20 : decode prog_42_method_27_code 20 = .ok (.ireturn, 1) := by decide +kernel
theorem d321_21 : decode prog_42_method_27_code 21 = .ok (.iload_n 0, 1) := by decide +kernel
theorem d321_22 : decode prog_42_method_27_code 22 = .ok (.iload_n 1, 1) := by decide +kernel
theorem d321_23 : decode prog_42_method_27_code 23 = .ok (.invokestatic 201, 3) := by decide +kernel
theorem d321_26 : decode prog_42_method_27_code 26 = .ok (.ireturn, 1) := by decide +kernel
theorem d322_0 : decode prog_43_method_11_code 0 = .ok (.iload_n 0, 1) := by decide +kernel
theorem d322_1 : decode prog_43_method_11_code 1 = .ok (.ifCond .lt 8, 3) := by decide +kernel
theorem d322_4 : decode prog_43_method_11_code 4 = .ok (.iload_n 0, 1) := by decide +kernel
theorem d322_5 : decode prog_43_method_11_code 5 = .ok (.iload_n 1, 1) := by decide +kernel
theorem d322_6 : decode prog_43_method_11_code 6 = .ok (.if_icmp .lt 10, 3) := by decide +kernel
theorem d322_9 : decode prog_43_method_11_code 9 = .ok (.aload_n 2, 1) := by decide +kernel
theorem d322_10 : decode prog_43_method_11_code 10 = .ok (.iload_n 0, 1) := by decide +kernel
theorem d322_11 : decode prog_43_method_11_code 11 = .ok (.iload_n 1, 1) := by decide +kernel
theorem d322_12 : decode prog_43_method_11_code 12 = .ok (.invokestatic 95, 3) := by decide +kernel
theorem d322_15 : decode prog_43_method_11_code 15 = .ok (.athrow, 1) := by decide +kernel
theorem d322_16 : decode prog_43_method_11_code 16 = .ok (.iload_n 0, 1) := by decide +kernel
theorem d322_17 : decode prog_43_method_11_code 17 = .ok (.ireturn, 1) := by decide +kernel
