/-! decode rows -/
theorem d0_0 : decode prog_3_method_1_code 0 = .ok (.aload_n 0, 1) := by decide +kernel
theorem d0_1 : decode prog_3_method_1_code 1 = .ok (.invokespecial 3, 3) := by decide +kernel
theorem d0_4 : decode prog_3_method_1_code 4 = .ok (.aload_n 0, 1) := by decide +kernel
theorem d0_5 : decode prog_3_method_1_code 5 = .ok (.iconst 4, 1) := by decide +kernel
theorem d0_6 : decode prog_3_method_1_code 6 = .ok (.newarray .int, 2) := by decide +kernel
theorem d0_8 : decode prog_3_method_1_code 8 = .ok (.putfield 9, 3) := by decide +kernel
theorem d0_11 : decode prog_3_method_1_code 11 = .ok (.return_, 1) := by decide +kernel
theorem d1_0 : decode prog_3_method_4_code 0 = .ok (.iconst 0, 1) := by decide +kernel
theorem d1_1 : decode prog_3_method_4_code 1 = .ok (.istore_n 1, 1) := by decide +kernel
theorem d1_2 : decode prog_3_method_4_code 2 = .ok (.aload_n 0, 1) := by decide +kernel
theorem d1_3 : decode prog_3_method_4_code 3 = .ok (.getfield 9, 3) := by decide +kernel
theorem d1_6 : decode prog_3_method_4_code 6 = .ok (.astore_n 2, 1) := by decide +kernel
theorem d1_7 : decode prog_3_method_4_code 7 = .ok (.aload_n 2, 1) := by decide +kernel
theorem d1_8 : decode prog_3_method_4_code 8 = .ok (.arraylength, 1) := by decide +kernel
theorem d1_9 : decode prog_3_method_4_code 9 = .ok (.istore_n 3, 1) := by decide +kernel
theorem d1_10 : decode prog_3_method_4_code 10 = .ok (.iconst 0, 1) := by decide +kernel
theorem d1_11 : decode prog_3_method_4_code 11 = .ok (.istore 4, 2) := by decide +kernel
theorem d1_13 : decode prog_3_method_4_code 13 = .ok (.iload 4, 2) := by decide +kernel
theorem d1_15 : decode prog_3_method_4_code 15 = .ok (.iload_n 3, 1) := by decide +kernel
theorem d1_16 : decode prog_3_method_4_code 16 = .ok (.if_icmp .ge 20, 3) := by decide +kernel
theorem d1_19 : decode prog_3_method_4_code 19 = .ok (.aload_n 2, 1) := by decide +kernel
theorem d1_20 : decode prog_3_method_4_code 20 = .ok (.iload 4, 2) := by decide +kernel
theorem d1_22 : decode prog_3_method_4_code 22 = .ok (.iaload, 1) := by decide +kernel
theorem d1_23 : decode prog_3_method_4_code 23 = .ok (.istore 5, 2) := by decide +kernel
theorem d1_25 : decode prog_3_method_4_code 25 = .ok (.iload_n 1, 1) := by decide +kernel
theorem d1_26 : decode prog_3_method_4_code 26 = .ok (.iload 5, 2) := by decide +kernel
theorem d1_28 : decode prog_3_method_4_code 28 = .ok (.iadd, 1) := by decide +kernel
theorem d1_29 : decode prog_3_method_4_code 29 = .ok (.istore_n 1, 1) := by decide +kernel
theorem d1_30 : decode prog_3_method_4_code 30 = .ok (.iinc 4 1, 3) := by decide +kernel
theorem d1_33 : decode prog_3_method_4_code 33 = .ok (.goto (-20), 3) := by decide +kernel
theorem d1_36 : decode prog_3_method_4_code 36 = .ok (.iload_n 1, 1) := by decide +kernel
theorem d1_37 : decode prog_3_method_4_code 37 = .ok (.ireturn, 1) := by decide +kernel
theorem d2_0 : decode prog_3_method_2_code 0 = .ok (.aload_n 0, 1) := by decide +kernel
theorem d2_1 : decode prog_3_method_2_code 1 = .ok (.aload_n 1, 1) := by decide +kernel
theorem d2_2 : decode prog_3_method_2_code 2 = .ok (.getfield 15, 3) := by decide +kernel
theorem d2_5 : decode prog_3_method_2_code 5 = .ok (.putfield 15, 3) := by decide +kernel
theorem d2_8 : decode prog_3_method_2_code 8 = .ok (.aload_n 0, 1) := by decide +kernel
theorem d2_9 : decode prog_3_method_2_code 9 = .ok (.aload_n 1, 1) := by decide +kernel
theorem d2_10 : decode prog_3_method_2_code 10 = .ok (.getfield 19, 3) := by decide +kernel
theorem d2_13 : decode prog_3_method_2_code 13 = .ok (.putfield 19, 3) := by decide +kernel
theorem d2_16 : decode prog_3_method_2_code 16 = .ok (.aload_n 0, 1) := by decide +kernel
theorem d2_17 : decode prog_3_method_2_code 17 = .ok (.aload_n 1, 1) := by decide +kernel
theorem d2_18 : decode prog_3_method_2_code 18 = .ok (.getfield 22, 3) := by decide +kernel
theorem d2_21 : decode prog_3_method_2_code 21 = .ok (.putfield 22, 3) := by decide +kernel
theorem d2_24 : decode prog_3_method_2_code 24 = .ok (.aload_n 0, 1) := by decide +kernel
theorem d2_25 : decode prog_3_method_2_code 25 = .ok (.aload_n 1, 1) := by decide +kernel
theorem d2_26 : decode prog_3_method_2_code 26 = .ok (.getfield 25, 3) := by decide +kernel
theorem d2_29 : decode prog_3_method_2_code 29 = .ok (.putfield 25, 3) := by decide +kernel
theorem d2_32 : decode prog_3_method_2_code 32 = .ok (.aload_n 1, 1) := by decide +kernel
theorem d2_33 : decode prog_3_method_2_code 33 = .ok (.getfield 9, 3) := by decide +kernel
theorem d2_36 : decode prog_3_method_2_code 36 = .ok (.iconst 0, 1) := by decide +kernel
theorem d2_37 : decode prog_3_method_2_code 37 = .ok (.aload_n 0, 1) := by decide +kernel
theorem d2_38 : decode prog_3_method_2_code 38 = .ok (.getfield 9, 3) := by decide +kernel
theorem d2_41 : decode prog_3_method_2_code 41 = .ok (.iconst 0, 1) := by decide +kernel
theorem d2_42 : decode prog_3_method_2_code 42 = .ok (.iconst 4, 1) := by decide +kernel
theorem d2_43 : decode prog_3_method_2_code 43 = .ok (.invokestatic 28, 3) := by decide +kernel
theorem d2_46 : decode prog_3_method_2_code 46 = .ok (.return_, 1) := by decide +kernel
theorem d3_0 : decode prog_3_method_3_code 0 = .ok (.aload_n 0, 1) := by decide +kernel
theorem d3_1 : decode prog_3_method_3_code 1 = .ok (.getfield 15, 3) := by decide +kernel
theorem d3_4 : decode prog_3_method_3_code 4 = .ok (.ifCond .ne 14, 3) := by decide +kernel
theorem d3_7 : decode prog_3_method_3_code 7 = .ok (.aload_n 0, 1) := by decide +kernel
theorem d3_8 : decode prog_3_method_3_code 8 = .ok (.getfield 19, 3) := by decide +kernel
theorem d3_11 : decode prog_3_method_3_code 11 = .ok (.ifCond .ne 7, 3) := by decide +kernel
theorem d3_14 : decode prog_3_method_3_code 14 = .ok (.iconst 1, 1) := by decide +kernel
theorem d3_15 : decode prog_3_method_3_code 15 = .ok (.goto 4, 3) := by decide +kernel
theorem d3_18 : decode prog_3_method_3_code 18 = .ok (.iconst 0, 1) := by decide +kernel
theorem d3_19 : decode prog_3_method_3_code 19 = .ok (.ireturn, 1) := by decide +kernel
theorem d4_0 : decode prog_3_method_6_code 0 = .ok (.aload_n 1, 1) := by decide +kernel
theorem d4_1 : decode prog_3_method_6_code 1 = .ok (.aload_n 0, 1) := by decide +kernel
theorem d4_2 : decode prog_3_method_6_code 2 = .ok (.getfield 15, 3) := by decide +kernel
theorem d4_5 : decode prog_3_method_6_code 5 = .ok (.aload_n 0, 1) := by decide +kernel
theorem d4_6 : decode prog_3_method_6_code 6 = .ok (.getfield 19, 3) := by decide +kernel
theorem d4_9 : decode prog_3_method_6_code 9 = .ok (.aload_n 0, 1) := by decide +kernel
theorem d4_10 : decode prog_3_method_6_code 10 = .ok (.getfield 22, 3) := by decide +kernel
theorem d4_13 : decode prog_3_method_6_code 13 = .ok (.invokevirtual 38, 3) := by decide +kernel
theorem d4_16 : decode prog_3_method_6_code 16 = .ok (.ireturn, 1) := by decide +kernel
theorem d5_0 : decode prog_3_method_5_code 0 = .ok (.iload_n 1, 1) := by decide +kernel
theorem d5_1 : decode prog_3_method_5_code 1 = .ok (.invokestatic 34, 3) := by decide +kernel
theorem d5_4 : decode prog_3_method_5_code 4 = .ok (.ifCond .eq 13, 3) := by decide +kernel
theorem d5_7 : decode prog_3_method_5_code 7 = .ok (.aload_n 0, 1) := by decide +kernel
theorem d5_8 : decode prog_3_method_5_code 8 = .ok (.getfield 9, 3) := by decide +kernel
theorem d5_11 : decode prog_3_method_5_code 11 = .ok (.iload_n 1, 1) := by decide +kernel
theorem d5_12 : decode prog_3_method_5_code 12 = .ok (.dup2, 1) := by decide +kernel
theorem d5_13 : decode prog_3_method_5_code 13 = .ok (.iaload, 1) := by decide +kernel
theorem d5_14 : decode prog_3_method_5_code 14 = .ok (.iconst 1, 1) := by decide +kernel
theorem d5_15 : decode prog_3_method_5_code 15 = .ok (.isub, 1) := by decide +kernel
theorem d5_16 : decode prog_3_method_5_code 16 = .ok (.iastore, 1) := by decide +kernel
theorem d5_17 : decode prog_3_method_5_code 17 = .ok (.return_, 1) := by decide +kernel
theorem d6_0 : decode prog_3_method_7_code 0 = .ok (.aload_n 0, 1) := by decide +kernel
theorem d6_1 : decode prog_3_method_7_code 1 = .ok (.getfield 25, 3) := by decide +kernel
theorem d6_4 : decode prog_3_method_7_code 4 = .ok (.aload_n 1, 1) := by decide +kernel
theorem d6_5 : decode prog_3_method_7_code 5 = .ok (.getfield 25, 3) := by decide +kernel
theorem d6_8 : decode prog_3_method_7_code 8 = .ok (.if_icmp .gt 25, 3) := by decide +kernel
theorem d6_11 : decode prog_3_method_7_code 11 = .ok (.aload_n 0, 1) := by decide +kernel
theorem d6_12 : decode prog_3_method_7_code 12 = .ok (.getfield 25, 3) := by decide +kernel
theorem d6_15 : decode prog_3_method_7_code 15 = .ok (.aload_n 1, 1) := by decide +kernel
theorem d6_16 : decode prog_3_method_7_code 16 = .ok (.getfield 25, 3) := by decide +kernel
theorem d6_19 : decode prog_3_method_7_code 19 = .ok (.if_icmp .ne 18, 3) := by decide +kernel
theorem d6_22 : decode prog_3_method_7_code 22 = .ok (.aload_n 0, 1) := by decide +kernel
theorem d6_23 : decode prog_3_method_7_code 23 = .ok (.getfield 22, 3) := by decide +kernel
theorem d6_26 : decode prog_3_method_7_code 26 = .ok (.aload_n 1, 1) := by decide +kernel
theorem d6_27 : decode prog_3_method_7_code 27 = .ok (.getfield 22, 3) := by decide +kernel
theorem d6_30 : decode prog_3_method_7_code 30 = .ok (.if_icmp .ge 7, 3) := by decide +kernel
theorem d6_33 : decode prog_3_method_7_code 33 = .ok (.iconst 1, 1) := by decide +kernel
theorem d6_34 : decode prog_3_method_7_code 34 = .ok (.goto 4, 3) := by decide +kernel
theorem d6_37 : decode prog_3_method_7_code 37 = .ok (.iconst 0, 1) := by decide +kernel
theorem d6_38 : decode prog_3_method_7_code 38 = .ok (.ireturn, 1) := by decide +kernel
theorem d7_0 : decode prog_4_method_1_code 0 = .ok (.aload_n 0, 1) := by decide +kernel
theorem d7_1 : decode prog_4_method_1_code 1 = .ok (.invokespecial 3, 3) := by decide +kernel
theorem d7_4 : decode prog_4_method_1_code 4 = .ok (.aload_n 0, 1) := by decide +kernel
theorem d7_5 : decode prog_4_method_1_code 5 = .ok (.getstatic 9, 3) := by decide +kernel
theorem d7_8 : decode prog_4_method_1_code 8 = .ok (.putfield 15, 3) := by decide +kernel
theorem d7_11 : decode prog_4_method_1_code 11 = .ok (.aload_n 0, 1) := by decide +kernel
theorem d7_12 : decode prog_4_method_1_code 12 = .ok (.bipush 6, 2) := by decide +kernel
theorem d7_14 : decode prog_4_method_1_code 14 = .ok (.newarray .int, 2) := by decide +kernel
theorem d7_16 : decode prog_4_method_1_code 16 = .ok (.putfield 20, 3) := by decide +kernel
theorem d7_19 : decode prog_4_method_1_code 19 = .ok (.return_, 1) := by decide +kernel
theorem d8_0 : decode prog_5_method_1_code 0 = .ok (.aload_n 0, 1) := by decide +kernel
theorem d8_1 : decode prog_5_method_1_code 1 = .ok (.invokespecial 3, 3) := by decide +kernel
theorem d8_4 : decode prog_5_method_1_code 4 = .ok (.aload_n 0, 1) := by decide +kernel
theorem d8_5 : decode prog_5_method_1_code 5 = .ok (.bipush 9, 2) := by decide +kernel
theorem d8_7 : decode prog_5_method_1_code 7 = .ok (.anewarray 11, 3) := by decide +kernel
theorem d8_10 : decode prog_5_method_1_code 10 = .ok (.putfield 13, 3) := by decide +kernel
theorem d8_13 : decode prog_5_method_1_code 13 = .ok (.aload_n 0, 1) := by decide +kernel
theorem d8_14 : decode prog_5_method_1_code 14 = .ok (.iconst 0, 1) := by decide +kernel
theorem d8_15 : decode prog_5_method_1_code 15 = .ok (.putfield 17, 3) := by decide +kernel
theorem d8_18 : decode prog_5_method_1_code 18 = .ok (.aload_n 0, 1) := by decide +kernel
theorem d8_19 : decode prog_5_method_1_code 19 = .ok (.iconst 0, 1) := by decide +kernel
theorem d8_20 : decode prog_5_method_1_code 20 = .ok (.putfield 21, 3) := by decide +kernel
theorem d8_23 : decode prog_5_method_1_code 23 = .ok (.iconst 0, 1) := by decide +kernel
theorem d8_24 : decode prog_5_method_1_code 24 = .ok (.istore_n 1, 1) := by decide +kernel
theorem d8_25 : decode prog_5_method_1_code 25 = .ok (.iload_n 1, 1) := by decide +kernel
theorem d8_26 : decode prog_5_method_1_code 26 = .ok (.bipush 9, 2) := by decide +kernel
theorem d8_28 : decode prog_5_method_1_code 28 = .ok (.if_icmp .ge 22, 3) := by decide +kernel
theorem d8_31 : decode prog_5_method_1_code 31 = .ok (.aload_n 0, 1) := by decide +kernel
theorem d8_32 : decode prog_5_method_1_code 32 = .ok (.getfield 13, 3) := by decide +kernel
theorem d8_35 : decode prog_5_method_1_code 35 = .ok (.iload_n 1, 1) := by decide +kernel
theorem d8_36 : decode prog_5_method_1_code 36 = .ok (.new 11, 3) := by decide +kernel
theorem d8_39 : decode prog_5_method_1_code 39 = .ok (.dup, 1) := by decide +kernel
theorem d8_40 : decode prog_5_method_1_code 40 = .ok (.invokespecial 24, 3) := by decide +kernel
theorem d8_43 : decode prog_5_method_1_code 43 = .ok (.aastore, 1) := by decide +kernel
theorem d8_44 : decode prog_5_method_1_code 44 = .ok (.iinc 1 1, 3) := by decide +kernel
theorem d8_47 : decode prog_5_method_1_code 47 = .ok (.goto (-22), 3) := by decide +kernel
theorem d8_50 : decode prog_5_method_1_code 50 = .ok (.return_, 1) := by decide +kernel
theorem d9_0 : decode prog_5_method_2_code 0 = .ok (.aload_n 0, 1) := by decide +kernel
theorem d9_1 : decode prog_5_method_2_code 1 = .ok (.getfield 13, 3) := by decide +kernel
theorem d9_4 : decode prog_5_method_2_code 4 = .ok (.aload_n 0, 1) := by decide +kernel
theorem d9_5 : decode prog_5_method_2_code 5 = .ok (.getfield 17, 3) := by decide +kernel
theorem d9_8 : decode prog_5_method_2_code 8 = .ok (.aaload, 1) := by decide +kernel
theorem d9_9 : decode prog_5_method_2_code 9 = .ok (.aload_n 1, 1) := by decide +kernel
theorem d9_10 : decode prog_5_method_2_code 10 = .ok (.invokevirtual 25, 3) := by decide +kernel
theorem d9_13 : decode prog_5_method_2_code 13 = .ok (.return_, 1) := by decide +kernel
theorem d10_0 : decode prog_5_method_3_code 0 = .ok (.aload_n 0, 1) := by decide +kernel
theorem d10_1 : decode prog_5_method_3_code 1 = .ok (.aload_n 0, 1) := by decide +kernel
theorem d10_2 : decode prog_5_method_3_code 2 = .ok (.getfield 17, 3) := by decide +kernel
theorem d10_5 : decode prog_5_method_3_code 5 = .ok (.iconst 1, 1) := by decide +kernel
theorem d10_6 : decode prog_5_method_3_code 6 = .ok (.iadd, 1) := by decide +kernel
theorem d10_7 : decode prog_5_method_3_code 7 = .ok (.bipush 9, 2) := by decide +kernel
theorem d10_9 : decode prog_5_method_3_code 9 = .ok (.if_icmp .ge 12, 3) := by decide +kernel
theorem d10_12 : decode prog_5_method_3_code 12 = .ok (.aload_n 0, 1) := by decide +kernel
theorem d10_13 : decode prog_5_method_3_code 13 = .ok (.getfield 17, 3) := by decide +kernel
theorem d10_16 : decode prog_5_method_3_code 16 = .ok (.iconst 1, 1) := by decide +kernel
theorem d10_17 : decode prog_5_method_3_code 17 = .ok (.iadd, 1) := by decide +kernel
theorem d10_18 : decode prog_5_method_3_code 18 = .ok (.goto 4, 3) := by decide +kernel
theorem d10_21 : decode prog_5_method_3_code 21 = .ok (.iconst 0, 1) := by decide +kernel
theorem d10_22 : decode prog_5_method_3_code 22 = .ok (.putfield 17, 3) := by decide +kernel
theorem d10_25 : decode prog_5_method_3_code 25 = .ok (.aload_n 0, 1) := by decide +kernel
theorem d10_26 : decode prog_5_method_3_code 26 = .ok (.aload_n 0, 1) := by decide +kernel
theorem d10_27 : decode prog_5_method_3_code 27 = .ok (.getfield 21, 3) := by decide +kernel
theorem d10_30 : decode prog_5_method_3_code 30 = .ok (.iconst 1, 1) := by decide +kernel
theorem d10_31 : decode prog_5_method_3_code 31 = .ok (.iadd, 1) := by decide +kernel
theorem d10_32 : decode prog_5_method_3_code 32 = .ok (.bipush 8, 2) := by decide +kernel
theorem d10_34 : decode prog_5_method_3_code 34 = .ok (.invokestatic 29, 3) := by decide +kernel
theorem d10_37 : decode prog_5_method_3_code 37 = .ok (.putfield 21, 3) := by decide +kernel
theorem d10_40 : decode prog_5_method_3_code 40 = .ok (.return_, 1) := by decide +kernel
theorem d11_0 : decode prog_5_method_4_code 0 = .ok (.aload_n 1, 1) := by decide +kernel
theorem d11_1 : decode prog_5_method_4_code 1 = .ok (.aload_n 0, 1) := by decide +kernel
theorem d11_2 : decode prog_5_method_4_code 2 = .ok (.getfield 13, 3) := by decide +kernel
theorem d11_5 : decode prog_5_method_4_code 5 = .ok (.aload_n 0, 1) := by decide +kernel
theorem d11_6 : decode prog_5_method_4_code 6 = .ok (.getfield 17, 3) := by decide +kernel
theorem d11_9 : decode prog_5_method_4_code 9 = .ok (.aaload, 1) := by decide +kernel
theorem d11_10 : decode prog_5_method_4_code 10 = .ok (.invokevirtual 25, 3) := by decide +kernel
theorem d11_13 : decode prog_5_method_4_code 13 = .ok (.return_, 1) := by decide +kernel
theorem d12_0 : decode prog_5_method_5_code 0 = .ok (.aload_n 0, 1) := by decide +kernel
theorem d12_1 : decode prog_5_method_5_code 1 = .ok (.aload_n 0, 1) := by decide +kernel
theorem d12_2 : decode prog_5_method_5_code 2 = .ok (.getfield 17, 3) := by decide +kernel
theorem d12_5 : decode prog_5_method_5_code 5 = .ok (.ifCond .le 12, 3) := by decide +kernel
theorem d12_8 : decode prog_5_method_5_code 8 = .ok (.aload_n 0, 1) := by decide +kernel
theorem d12_9 : decode prog_5_method_5_code 9 = .ok (.getfield 17, 3) := by decide +kernel
theorem d12_12 : decode prog_5_method_5_code 12 = .ok (.iconst 1, 1) := by decide +kernel
theorem d12_13 : decode prog_5_method_5_code 13 = .ok (.isub, 1) := by decide +kernel
theorem d12_14 : decode prog_5_method_5_code 14 = .ok (.goto 5, 3) := by decide +kernel
theorem d12_17 : decode prog_5_method_5_code 17 = .ok (.bipush 8, 2) := by decide +kernel
theorem d12_19 : decode prog_5_method_5_code 19 = .ok (.putfield 17, 3) := by decide +kernel
theorem d12_22 : decode prog_5_method_5_code 22 = .ok (.aload_n 0, 1) := by decide +kernel
theorem d12_23 : decode prog_5_method_5_code 23 = .ok (.dup, 1) := by decide +kernel
theorem d12_24 : decode prog_5_method_5_code 24 = .ok (.getfield 21, 3) := by decide +kernel
theorem d12_27 : decode prog_5_method_5_code 27 = .ok (.iconst 1, 1) := by decide +kernel
theorem d12_28 : decode prog_5_method_5_code 28 = .ok (.isub, 1) := by decide +kernel
theorem d12_29 : decode prog_5_method_5_code 29 = .ok (.putfield 21, 3) := by decide +kernel
theorem d12_32 : decode prog_5_method_5_code 32 = .ok (.aload_n 1, 1) := by decide +kernel
theorem d12_33 : decode prog_5_method_5_code 33 = .ok (.aload_n 0, 1) := by decide +kernel
theorem d12_34 : decode prog_5_method_5_code 34 = .ok (.getfield 13, 3) := by decide +kernel
theorem d12_37 : decode prog_5_method_5_code 37 = .ok (.aload_n 0, 1) := by decide +kernel
theorem d12_38 : decode prog_5_method_5_code 38 = .ok (.getfield 17, 3) := by decide +kernel
theorem d12_41 : decode prog_5_method_5_code 41 = .ok (.aaload, 1) := by decide +kernel
theorem d12_42 : decode prog_5_method_5_code 42 = .ok (.invokevirtual 25, 3) := by decide +kernel
theorem d12_45 : decode prog_5_method_5_code 45 = .ok (.return_, 1) := by decide +kernel
theorem d13_0 : decode prog_5_method_6_code 0 = .ok (.aload_n 0, 1) := by decide +kernel
theorem d13_1 : decode prog_5_method_6_code 1 = .ok (.iconst 0, 1) := by decide +kernel
theorem d13_2 : decode prog_5_method_6_code 2 = .ok (.putfield 21, 3) := by decide +kernel
theorem d13_5 : decode prog_5_method_6_code 5 = .ok (.return_, 1) := by decide +kernel
theorem d14_0 : decode prog_6_method_1_code 0 = .ok (.aload_n 0, 1) := by decide +kernel
theorem d14_1 : decode prog_6_method_1_code 1 = .ok (.invokespecial 3, 3) := by decide +kernel
theorem d14_4 : decode prog_6_method_1_code 4 = .ok (.aload_n 0, 1) := by decide +kernel
theorem d14_5 : decode prog_6_method_1_code 5 = .ok (.iconst (-1), 1) := by decide +kernel
theorem d14_6 : decode prog_6_method_1_code 6 = .ok (.putfield 9, 3) := by decide +kernel
theorem d14_9 : decode prog_6_method_1_code 9 = .ok (.return_, 1) := by decide +kernel
theorem d15_0 : decode prog_6_method_2_code 0 = .ok (.aload_n 0, 1) := by decide +kernel
theorem d15_1 : decode prog_6_method_2_code 1 = .ok (.aload_n 1, 1) := by decide +kernel
theorem d15_2 : decode prog_6_method_2_code 2 = .ok (.getfield 15, 3) := by decide +kernel
theorem d15_5 : decode prog_6_method_2_code 5 = .ok (.putfield 15, 3) := by decide +kernel
theorem d15_8 : decode prog_6_method_2_code 8 = .ok (.aload_n 0, 1) := by decide +kernel
theorem d15_9 : decode prog_6_method_2_code 9 = .ok (.aload_n 1, 1) := by decide +kernel
theorem d15_10 : decode prog_6_method_2_code 10 = .ok (.getfield 18, 3) := by decide +kernel
theorem d15_13 : decode prog_6_method_2_code 13 = .ok (.putfield 18, 3) := by decide +kernel
theorem d15_16 : decode prog_6_method_2_code 16 = .ok (.aload_n 0, 1) := by decide +kernel
theorem d15_17 : decode prog_6_method_2_code 17 = .ok (.aload_n 1, 1) := by decide +kernel
theorem d15_18 : decode prog_6_method_2_code 18 = .ok (.getfield 21, 3) := by decide +kernel
theorem d15_21 : decode prog_6_method_2_code 21 = .ok (.putfield 21, 3) := by decide +kernel
theorem d15_24 : decode prog_6_method_2_code 24 = .ok (.aload_n 0, 1) := by decide +kernel
theorem d15_25 : decode prog_6_method_2_code 25 = .ok (.aload_n 1, 1) := by decide +kernel
theorem d15_26 : decode prog_6_method_2_code 26 = .ok (.getfield 24, 3) := by decide +kernel
theorem d15_29 : decode prog_6_method_2_code 29 = .ok (.putfield 24, 3) := by decide +kernel
theorem d15_32 : decode prog_6_method_2_code 32 = .ok (.aload_n 0, 1) := by decide +kernel
theorem d15_33 : decode prog_6_method_2_code 33 = .ok (.aload_n 1, 1) := by decide +kernel
theorem d15_34 : decode prog_6_method_2_code 34 = .ok (.getfield 27, 3) := by decide +kernel
theorem d15_37 : decode prog_6_method_2_code 37 = .ok (.putfield 27, 3) := by decide +kernel
theorem d15_40 : decode prog_6_method_2_code 40 = .ok (.aload_n 0, 1) := by decide +kernel
theorem d15_41 : decode prog_6_method_2_code 41 = .ok (.aload_n 1, 1) := by decide +kernel
theorem d15_42 : decode prog_6_method_2_code 42 = .ok (.getfield 30, 3) := by decide +kernel
theorem d15_45 : decode prog_6_method_2_code 45 = .ok (.putfield 30, 3) := by decide +kernel
theorem d15_48 : decode prog_6_method_2_code 48 = .ok (.aload_n 0, 1) := by decide +kernel
theorem d15_49 : decode prog_6_method_2_code 49 = .ok (.aload_n 1, 1) := by decide +kernel
theorem d15_50 : decode prog_6_method_2_code 50 = .ok (.getfield 33, 3) := by decide +kernel
theorem d15_53 : decode prog_6_method_2_code 53 = .ok (.putfield 33, 3) := by decide +kernel
theorem d15_56 : decode prog_6_method_2_code 56 = .ok (.aload_n 0, 1) := by decide +kernel
theorem d15_57 : decode prog_6_method_2_code 57 = .ok (.aload_n 1, 1) := by decide +kernel
theorem d15_58 : decode prog_6_method_2_code 58 = .ok (.getfield 9, 3) := by decide +kernel
theorem d15_61 : decode prog_6_method_2_code 61 = .ok (.putfield 9, 3) := by decide +kernel
theorem d15_64 : decode prog_6_method_2_code 64 = .ok (.return_, 1) := by decide +kernel
theorem d16_0 : decode prog_6_method_3_code 0 = .ok (.iload_n 3, 1) := by decide +kernel
theorem d16_1 : decode prog_6_method_3_code 1 = .ok (.iload_n 1, 1) := by decide +kernel
theorem d16_2 : decode prog_6_method_3_code 2 = .ok (.iload_n 2, 1) := by decide +kernel
theorem d16_3 : decode prog_6_method_3_code 3 = .ok (.aload_n 0, 1) := by decide +kernel
theorem d16_4 : decode prog_6_method_3_code 4 = .ok (.getfield 18, 3) := by decide +kernel
theorem d16_7 : decode prog_6_method_3_code 7 = .ok (.aload_n 0, 1) := by decide +kernel
theorem d16_8 : decode prog_6_method_3_code 8 = .ok (.getfield 21, 3) := by decide +kernel
theorem d16_11 : decode prog_6_method_3_code 11 = .ok (.invokestatic 36, 3) := by decide +kernel
theorem d16_14 : decode prog_6_method_3_code 14 = .ok (.iadd, 1) := by decide +kernel
theorem d16_15 : decode prog_6_method_3_code 15 = .ok (.aload_n 0, 1) := by decide +kernel
theorem d16_16 : decode prog_6_method_3_code 16 = .ok (.getfield 30, 3) := by decide +kernel
theorem d16_19 : decode prog_6_method_3_code 19 = .ok (.iadd, 1) := by decide +kernel
theorem d16_20 : decode prog_6_method_3_code 20 = .ok (.ireturn, 1) := by decide +kernel
theorem d17_0 : decode prog_6_method_4_code 0 = .ok (.iload_n 1, 1) := by decide +kernel
theorem d17_1 : decode prog_6_method_4_code 1 = .ok (.aload_n 0, 1) := by decide +kernel
theorem d17_2 : decode prog_6_method_4_code 2 = .ok (.getfield 33, 3) := by decide +kernel
theorem d17_5 : decode prog_6_method_4_code 5 = .ok (.isub, 1) := by decide +kernel
theorem d17_6 : decode prog_6_method_4_code 6 = .ok (.iconst 0, 1) := by decide +kernel
theorem d17_7 : decode prog_6_method_4_code 7 = .ok (.invokestatic 40, 3) := by decide +kernel
theorem d17_10 : decode prog_6_method_4_code 10 = .ok (.ireturn, 1) := by decide +kernel
theorem d18_0 : decode prog_6_method_5_code 0 = .ok (.aload_n 0, 1) := by decide +kernel
theorem d18_1 : decode prog_6_method_5_code 1 = .ok (.getfield 33, 3) := by decide +kernel
theorem d18_4 : decode prog_6_method_5_code 4 = .ok (.aload_n 1, 1) := by decide +kernel
theorem d18_5 : decode prog_6_method_5_code 5 = .ok (.getfield 33, 3) := by decide +kernel
theorem d18_8 : decode prog_6_method_5_code 8 = .ok (.if_icmp .lt 25, 3) := by decide +kernel
theorem d18_11 : decode prog_6_method_5_code 11 = .ok (.aload_n 0, 1) := by decide +kernel
theorem d18_12 : decode prog_6_method_5_code 12 = .ok (.getfield 33, 3) := by decide +kernel
theorem d18_15 : decode prog_6_method_5_code 15 = .ok (.aload_n 1, 1) := by decide +kernel
theorem d18_16 : decode prog_6_method_5_code 16 = .ok (.getfield 33, 3) := by decide +kernel
theorem d18_19 : decode prog_6_method_5_code 19 = .ok (.if_icmp .ne 18, 3) := by decide +kernel
theorem d18_22 : decode prog_6_method_5_code 22 = .ok (.aload_n 0, 1) := by decide +kernel
theorem d18_23 : decode prog_6_method_5_code 23 = .ok (.getfield 15, 3) := by decide +kernel
theorem d18_26 : decode prog_6_method_5_code 26 = .ok (.aload_n 1, 1) := by decide +kernel
theorem d18_27 : decode prog_6_method_5_code 27 = .ok (.getfield 15, 3) := by decide +kernel
theorem d18_30 : decode prog_6_method_5_code 30 = .ok (.if_icmp .ge 7, 3) := by decide +kernel
theorem d18_33 : decode prog_6_method_5_code 33 = .ok (.iconst 1, 1) := by decide +kernel
theorem d18_34 : decode prog_6_method_5_code 34 = .ok (.goto 4, 3) := by decide +kernel
theorem d18_37 : decode prog_6_method_5_code 37 = .ok (.iconst 0, 1) := by decide +kernel
theorem d18_38 : decode prog_6_method_5_code 38 = .ok (.ireturn, 1) := by decide +kernel
theorem d19_0 : decode prog_7_method_1_code 0 = .ok (.aload_n 0, 1) := by decide +kernel
theorem d19_1 : decode prog_7_method_1_code 1 = .ok (.invokespecial 3, 3) := by decide +kernel
theorem d19_4 : decode prog_7_method_1_code 4 = .ok (.aload_n 0, 1) := by decide +kernel
theorem d19_5 : decode prog_7_method_1_code 5 = .ok (.bipush 6, 2) := by decide +kernel
theorem d19_7 : decode prog_7_method_1_code 7 = .ok (.anewarray 9, 3) := by decide +kernel
theorem d19_10 : decode prog_7_method_1_code 10 = .ok (.putfield 11, 3) := by decide +kernel
theorem d19_13 : decode prog_7_method_1_code 13 = .ok (.aload_n 0, 1) := by decide +kernel
theorem d19_14 : decode prog_7_method_1_code 14 = .ok (.bipush 6, 2) := by decide +kernel
theorem d19_16 : decode prog_7_method_1_code 16 = .ok (.newarray .boolean, 2) := by decide +kernel
theorem d19_18 : decode prog_7_method_1_code 18 = .ok (.putfield 17, 3) := by decide +kernel
theorem d19_21 : decode prog_7_method_1_code 21 = .ok (.aload_n 0, 1) := by decide +kernel
theorem d19_22 : decode prog_7_method_1_code 22 = .ok (.bipush 6, 2) := by decide +kernel
theorem d19_24 : decode prog_7_method_1_code 24 = .ok (.newarray .int, 2) := by decide +kernel
theorem d19_26 : decode prog_7_method_1_code 26 = .ok (.putfield 21, 3) := by decide +kernel
theorem d19_29 : decode prog_7_method_1_code 29 = .ok (.aload_n 0, 1) := by decide +kernel
theorem d19_30 : decode prog_7_method_1_code 30 = .ok (.bipush 6, 2) := by decide +kernel
theorem d19_32 : decode prog_7_method_1_code 32 = .ok (.newarray .int, 2) := by decide +kernel
theorem d19_34 : decode prog_7_method_1_code 34 = .ok (.putfield 25, 3) := by decide +kernel
theorem d19_37 : decode prog_7_method_1_code 37 = .ok (.aload_n 0, 1) := by decide +kernel
theorem d19_38 : decode prog_7_method_1_code 38 = .ok (.iconst 0, 1) := by decide +kernel
theorem d19_39 : decode prog_7_method_1_code 39 = .ok (.putfield 28, 3) := by decide +kernel
theorem d19_42 : decode prog_7_method_1_code 42 = .ok (.aload_n 0, 1) := by decide +kernel
theorem d19_43 : decode prog_7_method_1_code 43 = .ok (.iconst 0, 1) := by decide +kernel
theorem d19_44 : decode prog_7_method_1_code 44 = .ok (.putfield 32, 3) := by decide +kernel
theorem d19_47 : decode prog_7_method_1_code 47 = .ok (.aload_n 0, 1) := by decide +kernel
theorem d19_48 : decode prog_7_method_1_code 48 = .ok (.bipush 6, 2) := by decide +kernel
theorem d19_50 : decode prog_7_method_1_code 50 = .ok (.newarray .int, 2) := by decide +kernel
theorem d19_52 : decode prog_7_method_1_code 52 = .ok (.putfield 36, 3) := by decide +kernel
theorem d19_55 : decode prog_7_method_1_code 55 = .ok (.aload_n 0, 1) := by decide +kernel
theorem d19_56 : decode prog_7_method_1_code 56 = .ok (.bipush 6, 2) := by decide +kernel
theorem d19_58 : decode prog_7_method_1_code 58 = .ok (.newarray .int, 2) := by decide +kernel
theorem d19_60 : decode prog_7_method_1_code 60 = .ok (.putfield 39, 3) := by decide +kernel
theorem d19_63 : decode prog_7_method_1_code 63 = .ok (.aload_n 0, 1) := by decide +kernel
theorem d19_64 : decode prog_7_method_1_code 64 = .ok (.iconst 0, 1) := by decide +kernel
theorem d19_65 : decode prog_7_method_1_code 65 = .ok (.putfield 42, 3) := by decide +kernel
theorem d19_68 : decode prog_7_method_1_code 68 = .ok (.iconst 0, 1) := by decide +kernel
theorem d19_69 : decode prog_7_method_1_code 69 = .ok (.istore_n 1, 1) := by decide +kernel
theorem d19_70 : decode prog_7_method_1_code 70 = .ok (.iload_n 1, 1) := by decide +kernel
theorem d19_71 : decode prog_7_method_1_code 71 = .ok (.bipush 6, 2) := by decide +kernel
theorem d19_73 : decode prog_7_method_1_code 73 = .ok (.if_icmp .ge 22, 3) := by decide +kernel
theorem d19_76 : decode prog_7_method_1_code 76 = .ok (.aload_n 0, 1) := by decide +kernel
theorem d19_77 : decode prog_7_method_1_code 77 = .ok (.getfield 11, 3) := by decide +kernel
theorem d19_80 : decode prog_7_method_1_code 80 = .ok (.iload_n 1, 1) := by decide +kernel
theorem d19_81 : decode prog_7_method_1_code 81 = .ok (.new 9, 3) := by decide +kernel
theorem d19_84 : decode prog_7_method_1_code 84 = .ok (.dup, 1) := by decide +kernel
theorem d19_85 : decode prog_7_method_1_code 85 = .ok (.invokespecial 45, 3) := by decide +kernel
theorem d19_88 : decode prog_7_method_1_code 88 = .ok (.aastore, 1) := by decide +kernel
theorem d19_89 : decode prog_7_method_1_code 89 = .ok (.iinc 1 1, 3) := by decide +kernel
theorem d19_92 : decode prog_7_method_1_code 92 = .ok (.goto (-22), 3) := by decide +kernel
theorem d19_95 : decode prog_7_method_1_code 95 = .ok (.return_, 1) := by decide +kernel
theorem d20_0 : decode prog_7_method_2_code 0 = .ok (.aload_n 0, 1) := by decide +kernel
theorem d20_1 : decode prog_7_method_2_code 1 = .ok (.aload_n 1, 1) := by decide +kernel
theorem d20_2 : decode prog_7_method_2_code 2 = .ok (.iload_n 2, 1) := by decide +kernel
theorem d20_3 : decode prog_7_method_2_code 3 = .ok (.invokevirtual 46, 3) := by decide +kernel
theorem d20_6 : decode prog_7_method_2_code 6 = .ok (.aload_n 0, 1) := by decide +kernel
theorem d20_7 : decode prog_7_method_2_code 7 = .ok (.iconst 0, 1) := by decide +kernel
theorem d20_8 : decode prog_7_method_2_code 8 = .ok (.putfield 28, 3) := by decide +kernel
theorem d20_11 : decode prog_7_method_2_code 11 = .ok (.aload_n 0, 1) := by decide +kernel
theorem d20_12 : decode prog_7_method_2_code 12 = .ok (.iconst 0, 1) := by decide +kernel
theorem d20_13 : decode prog_7_method_2_code 13 = .ok (.putfield 32, 3) := by decide +kernel
theorem d20_16 : decode prog_7_method_2_code 16 = .ok (.iload_n 2, 1) := by decide +kernel
theorem d20_17 : decode prog_7_method_2_code 17 = .ok (.invokestatic 50, 3) := by decide +kernel
theorem d20_20 : decode prog_7_method_2_code 20 = .ok (.ifCond .eq 28, 3) := by decide +kernel
theorem d20_23 : decode prog_7_method_2_code 23 = .ok (.aload_n 1, 1) := by decide +kernel
theorem d20_24 : decode prog_7_method_2_code 24 = .ok (.getfield 54, 3) := by decide +kernel
theorem d20_27 : decode prog_7_method_2_code 27 = .ok (.iload_n 2, 1) := by decide +kernel
theorem d20_28 : decode prog_7_method_2_code 28 = .ok (.aaload, 1) := by decide +kernel
theorem d20_29 : decode prog_7_method_2_code 29 = .ok (.astore_n 3, 1) := by decide +kernel
theorem d20_30 : decode prog_7_method_2_code 30 = .ok (.aload_n 0, 1) := by decide +kernel
theorem d20_31 : decode prog_7_method_2_code 31 = .ok (.iconst 0, 1) := by decide +kernel
theorem d20_32 : decode prog_7_method_2_code 32 = .ok (.aload_n 3, 1) := by decide +kernel
theorem d20_33 : decode prog_7_method_2_code 33 = .ok (.getfield 60, 3) := by decide +kernel
theorem d20_36 : decode prog_7_method_2_code 36 = .ok (.aload_n 3, 1) := by decide +kernel
theorem d20_37 : decode prog_7_method_2_code 37 = .ok (.getfield 65, 3) := by decide +kernel
theorem d20_40 : decode prog_7_method_2_code 40 = .ok (.aload_n 3, 1) := by decide +kernel
theorem d20_41 : decode prog_7_method_2_code 41 = .ok (.getfield 68, 3) := by decide +kernel
theorem d20_44 : decode prog_7_method_2_code 44 = .ok (.iconst 0, 1) := by decide +kernel
theorem d20_45 : decode prog_7_method_2_code 45 = .ok (.invokevirtual 71, 3) := by decide +kernel
theorem d20_48 : decode prog_7_method_2_code 48 = .ok (.aload_n 0, 1) := by decide +kernel
theorem d20_49 : decode prog_7_method_2_code 49 = .ok (.getfield 32, 3) := by decide +kernel
theorem d20_52 : decode prog_7_method_2_code 52 = .ok (.ireturn, 1) := by decide +kernel
theorem d21_0 : decode prog_7_method_4_code 0 = .ok (.aload_n 0, 1) := by decide +kernel
theorem d21_1 : decode prog_7_method_4_code 1 = .ok (.iconst 0, 1) := by decide +kernel
theorem d21_2 : decode prog_7_method_4_code 2 = .ok (.putfield 42, 3) := by decide +kernel
theorem d21_5 : decode prog_7_method_4_code 5 = .ok (.iconst 0, 1) := by decide +kernel
theorem d21_6 : decode prog_7_method_4_code 6 = .ok (.istore_n 3, 1) := by decide +kernel
theorem d21_7 : decode prog_7_method_4_code 7 = .ok (.iload_n 3, 1) := by decide +kernel
theorem d21_8 : decode prog_7_method_4_code 8 = .ok (.aload_n 1, 1) := by decide +kernel
theorem d21_9 : decode prog_7_method_4_code 9 = .ok (.getfield 89, 3) := by decide +kernel
theorem d21_12 : decode prog_7_method_4_code 12 = .ok (.if_icmp .ge 59, 3) := by decide +kernel
theorem d21_15 : decode prog_7_method_4_code 15 = .ok (.aload_n 1, 1) := by decide +kernel
theorem d21_16 : decode prog_7_method_4_code 16 = .ok (.getfield 92, 3) := by decide +kernel
theorem d21_19 : decode prog_7_method_4_code 19 = .ok (.iload_n 3, 1) := by decide +kernel
theorem d21_20 : decode prog_7_method_4_code 20 = .ok (.aaload, 1) := by decide +kernel
theorem d21_21 : decode prog_7_method_4_code 21 = .ok (.getfield 93, 3) := by decide +kernel
theorem d21_24 : decode prog_7_method_4_code 24 = .ok (.iload_n 2, 1) := by decide +kernel
theorem d21_25 : decode prog_7_method_4_code 25 = .ok (.if_icmp .ne 40, 3) := by decide +kernel
theorem d21_28 : decode prog_7_method_4_code 28 = .ok (.aload_n 0, 1) := by decide +kernel
theorem d21_29 : decode prog_7_method_4_code 29 = .ok (.getfield 42, 3) := by decide +kernel
theorem d21_32 : decode prog_7_method_4_code 32 = .ok (.bipush 6, 2) := by decide +kernel
theorem d21_34 : decode prog_7_method_4_code 34 = .ok (.if_icmp .ge 31, 3) := by decide +kernel
theorem d21_37 : decode prog_7_method_4_code 37 = .ok (.aload_n 0, 1) := by decide +kernel
theorem d21_38 : decode prog_7_method_4_code 38 = .ok (.getfield 11, 3) := by decide +kernel
theorem d21_41 : decode prog_7_method_4_code 41 = .ok (.aload_n 0, 1) := by decide +kernel
theorem d21_42 : decode prog_7_method_4_code 42 = .ok (.getfield 42, 3) := by decide +kernel
theorem d21_45 : decode prog_7_method_4_code 45 = .ok (.aaload, 1) := by decide +kernel
theorem d21_46 : decode prog_7_method_4_code 46 = .ok (.aload_n 1, 1) := by decide +kernel
theorem d21_47 : decode prog_7_method_4_code 47 = .ok (.getfield 92, 3) := by decide +kernel
theorem d21_50 : decode prog_7_method_4_code 50 = .ok (.iload_n 3, 1) := by decide +kernel
theorem d21_51 : decode prog_7_method_4_code 51 = .ok (.aaload, 1) := by decide +kernel
theorem d21_52 : decode prog_7_method_4_code 52 = .ok (.invokevirtual 96, 3) := by decide +kernel
theorem d21_55 : decode prog_7_method_4_code 55 = .ok (.aload_n 0, 1) := by decide +kernel
theorem d21_56 : decode prog_7_method_4_code 56 = .ok (.dup, 1) := by decide +kernel
theorem d21_57 : decode prog_7_method_4_code 57 = .ok (.getfield 42, 3) := by decide +kernel
theorem d21_60 : decode prog_7_method_4_code 60 = .ok (.iconst 1, 1) := by decide +kernel
theorem d21_61 : decode prog_7_method_4_code 61 = .ok (.iadd, 1) := by decide +kernel
theorem d21_62 : decode prog_7_method_4_code 62 = .ok (.putfield 42, 3) := by decide +kernel
theorem d21_65 : decode prog_7_method_4_code 65 = .ok (.iinc 3 1, 3) := by decide +kernel
theorem d21_68 : decode prog_7_method_4_code 68 = .ok (.goto (-61), 3) := by decide +kernel
theorem d21_71 : decode prog_7_method_4_code 71 = .ok (.return_, 1) := by decide +kernel
theorem d22_0 : decode prog_7_method_5_code 0 = .ok (.iload_n 1, 1) := by decide +kernel
theorem d22_1 : decode prog_7_method_5_code 1 = .ok (.aload_n 0, 1) := by decide +kernel
theorem d22_2 : decode prog_7_method_5_code 2 = .ok (.getfield 42, 3) := by decide +kernel
theorem d22_5 : decode prog_7_method_5_code 5 = .ok (.if_icmp .ge 9, 3) := by decide +kernel
theorem d22_8 : decode prog_7_method_5_code 8 = .ok (.iload_n 1, 1) := by decide +kernel
theorem d22_9 : decode prog_7_method_5_code 9 = .ok (.bipush 6, 2) := by decide +kernel
theorem d22_11 : decode prog_7_method_5_code 11 = .ok (.if_icmp .lt 10, 3) := by decide +kernel
theorem d22_14 : decode prog_7_method_5_code 14 = .ok (.aload_n 0, 1) := by decide +kernel
theorem d22_15 : decode prog_7_method_5_code 15 = .ok (.iload 5, 2) := by decide +kernel
theorem d22_17 : decode prog_7_method_5_code 17 = .ok (.invokevirtual 100, 3) := by decide +kernel
theorem d22_20 : decode prog_7_method_5_code 20 = .ok (.return_, 1) := by decide +kernel
theorem d22_21 : decode prog_7_method_5_code 21 = .ok (.iconst 0, 1) := by decide +kernel
theorem d22_22 : decode prog_7_method_5_code 22 = .ok (.istore 6, 2) := by decide +kernel
theorem d22_24 : decode prog_7_method_5_code 24 = .ok (.iload 6, 2) := by decide +kernel
theorem d22_26 : decode prog_7_method_5_code 26 = .ok (.aload_n 0, 1) := by decide +kernel
theorem d22_27 : decode prog_7_method_5_code 27 = .ok (.getfield 42, 3) := by decide +kernel
theorem d22_30 : decode prog_7_method_5_code 30 = .ok (.if_icmp .ge 63, 3) := by decide +kernel
theorem d22_33 : decode prog_7_method_5_code 33 = .ok (.aload_n 0, 1) := by decide +kernel
theorem d22_34 : decode prog_7_method_5_code 34 = .ok (.getfield 17, 3) := by decide +kernel
theorem d22_37 : decode prog_7_method_5_code 37 = .ok (.iload 6, 2) := by decide +kernel
theorem d22_39 : decode prog_7_method_5_code 39 = .ok (.baload, 1) := by decide +kernel
theorem d22_40 : decode prog_7_method_5_code 40 = .ok (.ifCond .ne 47, 3) := by decide +kernel
theorem d22_43 : decode prog_7_method_5_code 43 = .ok (.aload_n 0, 1) := by decide +kernel
theorem d22_44 : decode prog_7_method_5_code 44 = .ok (.getfield 17, 3) := by decide +kernel
theorem d22_47 : decode prog_7_method_5_code 47 = .ok (.iload 6, 2) := by decide +kernel
theorem d22_49 : decode prog_7_method_5_code 49 = .ok (.iconst 1, 1) := by decide +kernel
theorem d22_50 : decode prog_7_method_5_code 50 = .ok (.bastore, 1) := by decide +kernel
theorem d22_51 : decode prog_7_method_5_code 51 = .ok (.aload_n 0, 1) := by decide +kernel
theorem d22_52 : decode prog_7_method_5_code 52 = .ok (.aload_n 0, 1) := by decide +kernel
theorem d22_53 : decode prog_7_method_5_code 53 = .ok (.getfield 11, 3) := by decide +kernel
theorem d22_56 : decode prog_7_method_5_code 56 = .ok (.iload 6, 2) := by decide +kernel
theorem d22_58 : decode prog_7_method_5_code 58 = .ok (.aaload, 1) := by decide +kernel
theorem d22_59 : decode prog_7_method_5_code 59 = .ok (.iload_n 1, 1) := by decide +kernel
theorem d22_60 : decode prog_7_method_5_code 60 = .ok (.aload_n 0, 1) := by decide +kernel
theorem d22_61 : decode prog_7_method_5_code 61 = .ok (.getfield 11, 3) := by decide +kernel
theorem d22_64 : decode prog_7_method_5_code 64 = .ok (.iload 6, 2) := by decide +kernel
theorem d22_66 : decode prog_7_method_5_code 66 = .ok (.aaload, 1) := by decide +kernel
theorem d22_67 : decode prog_7_method_5_code 67 = .ok (.iload_n 2, 1) := by decide +kernel
theorem d22_68 : decode prog_7_method_5_code 68 = .ok (.iload_n 3, 1) := by decide +kernel
theorem d22_69 : decode prog_7_method_5_code 69 = .ok (.iload 4, 2) := by decide +kernel
theorem d22_71 : decode prog_7_method_5_code 71 = .ok (.invokevirtual 104, 3) := by decide +kernel
theorem d22_74 : decode prog_7_method_5_code 74 = .ok (.iload 5, 2) := by decide +kernel
theorem d22_76 : decode prog_7_method_5_code 76 = .ok (.invokevirtual 108, 3) := by decide +kernel
theorem d22_79 : decode prog_7_method_5_code 79 = .ok (.aload_n 0, 1) := by decide +kernel
theorem d22_80 : decode prog_7_method_5_code 80 = .ok (.getfield 17, 3) := by decide +kernel
theorem d22_83 : decode prog_7_method_5_code 83 = .ok (.iload 6, 2) := by decide +kernel
theorem d22_85 : decode prog_7_method_5_code 85 = .ok (.iconst 0, 1) := by decide +kernel
theorem d22_86 : decode prog_7_method_5_code 86 = .ok (.bastore, 1) := by decide +kernel
theorem d22_87 : decode prog_7_method_5_code 87 = .ok (.iinc 6 1, 3) := by decide +kernel
theorem d22_90 : decode prog_7_method_5_code 90 = .ok (.goto (-66), 3) := by decide +kernel
theorem d22_93 : decode prog_7_method_5_code 93 = .ok (.return_, 1) := by decide +kernel
theorem d23_0 : decode prog_7_method_7_code 0 = .ok (.aload_n 0, 1) := by decide +kernel
theorem d23_1 : decode prog_7_method_7_code 1 = .ok (.getfield 28, 3) := by decide +kernel
theorem d23_4 : decode prog_7_method_7_code 4 = .ok (.ifCond .eq 11, 3) := by decide +kernel
theorem d23_7 : decode prog_7_method_7_code 7 = .ok (.iload_n 1, 1) := by decide +kernel
theorem d23_8 : decode prog_7_method_7_code 8 = .ok (.aload_n 0, 1) := by decide +kernel
theorem d23_9 : decode prog_7_method_7_code 9 = .ok (.getfield 32, 3) := by decide +kernel
theorem d23_12 : decode prog_7_method_7_code 12 = .ok (.if_icmp .ge 43, 3) := by decide +kernel
theorem d23_15 : decode prog_7_method_7_code 15 = .ok (.aload_n 0, 1) := by decide +kernel
theorem d23_16 : decode prog_7_method_7_code 16 = .ok (.iconst 1, 1) := by decide +kernel
theorem d23_17 : decode prog_7_method_7_code 17 = .ok (.putfield 28, 3) := by decide +kernel
theorem d23_20 : decode prog_7_method_7_code 20 = .ok (.aload_n 0, 1) := by decide +kernel
theorem d23_21 : decode prog_7_method_7_code 21 = .ok (.iload_n 1, 1) := by decide +kernel
theorem d23_22 : decode prog_7_method_7_code 22 = .ok (.putfield 32, 3) := by decide +kernel
theorem d23_25 : decode prog_7_method_7_code 25 = .ok (.aload_n 0, 1) := by decide +kernel
theorem d23_26 : decode prog_7_method_7_code 26 = .ok (.getfield 21, 3) := by decide +kernel
theorem d23_29 : decode prog_7_method_7_code 29 = .ok (.iconst 0, 1) := by decide +kernel
theorem d23_30 : decode prog_7_method_7_code 30 = .ok (.aload_n 0, 1) := by decide +kernel
theorem d23_31 : decode prog_7_method_7_code 31 = .ok (.getfield 36, 3) := by decide +kernel
theorem d23_34 : decode prog_7_method_7_code 34 = .ok (.iconst 0, 1) := by decide +kernel
theorem d23_35 : decode prog_7_method_7_code 35 = .ok (.bipush 6, 2) := by decide +kernel
theorem d23_37 : decode prog_7_method_7_code 37 = .ok (.invokestatic 121, 3) := by decide +kernel
theorem d23_40 : decode prog_7_method_7_code 40 = .ok (.aload_n 0, 1) := by decide +kernel
theorem d23_41 : decode prog_7_method_7_code 41 = .ok (.getfield 25, 3) := by decide +kernel
theorem d23_44 : decode prog_7_method_7_code 44 = .ok (.iconst 0, 1) := by decide +kernel
theorem d23_45 : decode prog_7_method_7_code 45 = .ok (.aload_n 0, 1) := by decide +kernel
theorem d23_46 : decode prog_7_method_7_code 46 = .ok (.getfield 39, 3) := by decide +kernel
theorem d23_49 : decode prog_7_method_7_code 49 = .ok (.iconst 0, 1) := by decide +kernel
theorem d23_50 : decode prog_7_method_7_code 50 = .ok (.bipush 6, 2) := by decide +kernel
theorem d23_52 : decode prog_7_method_7_code 52 = .ok (.invokestatic 121, 3) := by decide +kernel
theorem d23_55 : decode prog_7_method_7_code 55 = .ok (.return_, 1) := by decide +kernel
theorem d24_0 : decode prog_7_method_6_code 0 = .ok (.aload_n 0, 1) := by decide +kernel
theorem d24_1 : decode prog_7_method_6_code 1 = .ok (.getfield 21, 3) := by decide +kernel
theorem d24_4 : decode prog_7_method_6_code 4 = .ok (.iload_n 2, 1) := by decide +kernel
theorem d24_5 : decode prog_7_method_6_code 5 = .ok (.aload_n 1, 1) := by decide +kernel
theorem d24_6 : decode prog_7_method_6_code 6 = .ok (.getfield 112, 3) := by decide +kernel
theorem d24_9 : decode prog_7_method_6_code 9 = .ok (.iastore, 1) := by decide +kernel
theorem d24_10 : decode prog_7_method_6_code 10 = .ok (.aload_n 0, 1) := by decide +kernel
theorem d24_11 : decode prog_7_method_6_code 11 = .ok (.getfield 25, 3) := by decide +kernel
theorem d24_14 : decode prog_7_method_6_code 14 = .ok (.iload_n 2, 1) := by decide +kernel
theorem d24_15 : decode prog_7_method_6_code 15 = .ok (.iload_n 3, 1) := by decide +kernel
theorem d24_16 : decode prog_7_method_6_code 16 = .ok (.iastore, 1) := by decide +kernel
theorem d24_17 : decode prog_7_method_6_code 17 = .ok (.aload_n 0, 1) := by decide +kernel
theorem d24_18 : decode prog_7_method_6_code 18 = .ok (.iload_n 2, 1) := by decide +kernel
theorem d24_19 : decode prog_7_method_6_code 19 = .ok (.iconst 1, 1) := by decide +kernel
theorem d24_20 : decode prog_7_method_6_code 20 = .ok (.iadd, 1) := by decide +kernel
theorem d24_21 : decode prog_7_method_6_code 21 = .ok (.aload_n 1, 1) := by decide +kernel
theorem d24_22 : decode prog_7_method_6_code 22 = .ok (.getfield 115, 3) := by decide +kernel
theorem d24_25 : decode prog_7_method_6_code 25 = .ok (.aload_n 1, 1) := by decide +kernel
theorem d24_26 : decode prog_7_method_6_code 26 = .ok (.getfield 116, 3) := by decide +kernel
theorem d24_29 : decode prog_7_method_6_code 29 = .ok (.iload_n 3, 1) := by decide +kernel
theorem d24_30 : decode prog_7_method_6_code 30 = .ok (.iload 4, 2) := by decide +kernel
theorem d24_32 : decode prog_7_method_6_code 32 = .ok (.aload_n 1, 1) := by decide +kernel
theorem d24_33 : decode prog_7_method_6_code 33 = .ok (.iload_n 3, 1) := by decide +kernel
theorem d24_34 : decode prog_7_method_6_code 34 = .ok (.invokevirtual 117, 3) := by decide +kernel
theorem d24_37 : decode prog_7_method_6_code 37 = .ok (.iadd, 1) := by decide +kernel
theorem d24_38 : decode prog_7_method_6_code 38 = .ok (.invokevirtual 71, 3) := by decide +kernel
theorem d24_41 : decode prog_7_method_6_code 41 = .ok (.return_, 1) := by decide +kernel
theorem d25_0 : decode prog_7_method_3_code 0 = .ok (.aload_n 0, 1) := by decide +kernel
theorem d25_1 : decode prog_7_method_3_code 1 = .ok (.aload_n 1, 1) := by decide +kernel
theorem d25_2 : decode prog_7_method_3_code 2 = .ok (.iload_n 2, 1) := by decide +kernel
theorem d25_3 : decode prog_7_method_3_code 3 = .ok (.invokevirtual 46, 3) := by decide +kernel
theorem d25_6 : decode prog_7_method_3_code 6 = .ok (.iload_n 2, 1) := by decide +kernel
theorem d25_7 : decode prog_7_method_3_code 7 = .ok (.invokestatic 50, 3) := by decide +kernel
theorem d25_10 : decode prog_7_method_3_code 10 = .ok (.ifCond .ne 5, 3) := by decide +kernel
theorem d25_13 : decode prog_7_method_3_code 13 = .ok (.iconst 0, 1) := by decide +kernel
theorem d25_14 : decode prog_7_method_3_code 14 = .ok (.ireturn, 1) := by decide +kernel
theorem d25_15 : decode prog_7_method_3_code 15 = .ok (.aload_n 0, 1) := by decide +kernel
theorem d25_16 : decode prog_7_method_3_code 16 = .ok (.aload_n 1, 1) := by decide +kernel
theorem d25_17 : decode prog_7_method_3_code 17 = .ok (.getfield 54, 3) := by decide +kernel
theorem d25_20 : decode prog_7_method_3_code 20 = .ok (.iload_n 2, 1) := by decide +kernel
theorem d25_21 : decode prog_7_method_3_code 21 = .ok (.aaload, 1) := by decide +kernel
theorem d25_22 : decode prog_7_method_3_code 22 = .ok (.invokevirtual 75, 3) := by decide +kernel
theorem d25_25 : decode prog_7_method_3_code 25 = .ok (.istore_n 3, 1) := by decide +kernel
theorem d25_26 : decode prog_7_method_3_code 26 = .ok (.iconst 1, 1) := by decide +kernel
theorem d25_27 : decode prog_7_method_3_code 27 = .ok (.istore 4, 2) := by decide +kernel
theorem d25_29 : decode prog_7_method_3_code 29 = .ok (.iload 4, 2) := by decide +kernel
theorem d25_31 : decode prog_7_method_3_code 31 = .ok (.sipush 720, 3) := by decide +kernel
theorem d25_34 : decode prog_7_method_3_code 34 = .ok (.if_icmp .ge 31, 3) := by decide +kernel
theorem d25_37 : decode prog_7_method_3_code 37 = .ok (.aload_n 0, 1) := by decide +kernel
theorem d25_38 : decode prog_7_method_3_code 38 = .ok (.invokevirtual 79, 3) := by decide +kernel
theorem d25_41 : decode prog_7_method_3_code 41 = .ok (.ifCond .eq 24, 3) := by decide +kernel
theorem d25_44 : decode prog_7_method_3_code 44 = .ok (.iload_n 3, 1) := by decide +kernel
theorem d25_45 : decode prog_7_method_3_code 45 = .ok (.aload_n 0, 1) := by decide +kernel
theorem d25_46 : decode prog_7_method_3_code 46 = .ok (.aload_n 1, 1) := by decide +kernel
theorem d25_47 : decode prog_7_method_3_code 47 = .ok (.getfield 54, 3) := by decide +kernel
theorem d25_50 : decode prog_7_method_3_code 50 = .ok (.iload_n 2, 1) := by decide +kernel
theorem d25_51 : decode prog_7_method_3_code 51 = .ok (.aaload, 1) := by decide +kernel
theorem d25_52 : decode prog_7_method_3_code 52 = .ok (.invokevirtual 75, 3) := by decide +kernel
theorem d25_55 : decode prog_7_method_3_code 55 = .ok (.invokestatic 83, 3) := by decide +kernel
theorem d25_58 : decode prog_7_method_3_code 58 = .ok (.istore_n 3, 1) := by decide +kernel
theorem d25_59 : decode prog_7_method_3_code 59 = .ok (.iinc 4 1, 3) := by decide +kernel
theorem d25_62 : decode prog_7_method_3_code 62 = .ok (.goto (-33), 3) := by decide +kernel
theorem d25_65 : decode prog_7_method_3_code 65 = .ok (.iload_n 3, 1) := by decide +kernel
theorem d25_66 : decode prog_7_method_3_code 66 = .ok (.ireturn, 1) := by decide +kernel
theorem d26_0 : decode prog_7_method_8_code 0 = .ok (.aload_n 1, 1) := by decide +kernel
theorem d26_1 : decode prog_7_method_8_code 1 = .ok (.getfield 60, 3) := by decide +kernel
theorem d26_4 : decode prog_7_method_8_code 4 = .ok (.istore_n 2, 1) := by decide +kernel
theorem d26_5 : decode prog_7_method_8_code 5 = .ok (.aload_n 1, 1) := by decide +kernel
theorem d26_6 : decode prog_7_method_8_code 6 = .ok (.getfield 65, 3) := by decide +kernel
theorem d26_9 : decode prog_7_method_8_code 9 = .ok (.istore_n 3, 1) := by decide +kernel
theorem d26_10 : decode prog_7_method_8_code 10 = .ok (.aload_n 1, 1) := by decide +kernel
theorem d26_11 : decode prog_7_method_8_code 11 = .ok (.getfield 68, 3) := by decide +kernel
theorem d26_14 : decode prog_7_method_8_code 14 = .ok (.istore 4, 2) := by decide +kernel
theorem d26_16 : decode prog_7_method_8_code 16 = .ok (.iconst 0, 1) := by decide +kernel
theorem d26_17 : decode prog_7_method_8_code 17 = .ok (.istore 5, 2) := by decide +kernel
theorem d26_19 : decode prog_7_method_8_code 19 = .ok (.iconst 0, 1) := by decide +kernel
theorem d26_20 : decode prog_7_method_8_code 20 = .ok (.istore 6, 2) := by decide +kernel
theorem d26_22 : decode prog_7_method_8_code 22 = .ok (.iload 6, 2) := by decide +kernel
theorem d26_24 : decode prog_7_method_8_code 24 = .ok (.aload_n 0, 1) := by decide +kernel
theorem d26_25 : decode prog_7_method_8_code 25 = .ok (.getfield 42, 3) := by decide +kernel
theorem d26_28 : decode prog_7_method_8_code 28 = .ok (.if_icmp .ge 53, 3) := by decide +kernel
theorem d26_31 : decode prog_7_method_8_code 31 = .ok (.aload_n 0, 1) := by decide +kernel
theorem d26_32 : decode prog_7_method_8_code 32 = .ok (.getfield 11, 3) := by decide +kernel
theorem d26_35 : decode prog_7_method_8_code 35 = .ok (.iload 6, 2) := by decide +kernel
theorem d26_37 : decode prog_7_method_8_code 37 = .ok (.aaload, 1) := by decide +kernel
theorem d26_38 : decode prog_7_method_8_code 38 = .ok (.astore 7, 2) := by decide +kernel
theorem d26_40 : decode prog_7_method_8_code 40 = .ok (.aload 7, 2) := by decide +kernel
theorem d26_42 : decode prog_7_method_8_code 42 = .ok (.iload_n 2, 1) := by decide +kernel
theorem d26_43 : decode prog_7_method_8_code 43 = .ok (.iload_n 3, 1) := by decide +kernel
theorem d26_44 : decode prog_7_method_8_code 44 = .ok (.iload 4, 2) := by decide +kernel
theorem d26_46 : decode prog_7_method_8_code 46 = .ok (.invokevirtual 104, 3) := by decide +kernel
theorem d26_49 : decode prog_7_method_8_code 49 = .ok (.istore 4, 2) := by decide +kernel
theorem d26_51 : decode prog_7_method_8_code 51 = .ok (.iload 5, 2) := by decide +kernel
theorem d26_53 : decode prog_7_method_8_code 53 = .ok (.aload 7, 2) := by decide +kernel
theorem d26_55 : decode prog_7_method_8_code 55 = .ok (.iload 4, 2) := by decide +kernel
theorem d26_57 : decode prog_7_method_8_code 57 = .ok (.invokevirtual 117, 3) := by decide +kernel
theorem d26_60 : decode prog_7_method_8_code 60 = .ok (.iadd, 1) := by decide +kernel
theorem d26_61 : decode prog_7_method_8_code 61 = .ok (.istore 5, 2) := by decide +kernel
theorem d26_63 : decode prog_7_method_8_code 63 = .ok (.aload 7, 2) := by decide +kernel
theorem d26_65 : decode prog_7_method_8_code 65 = .ok (.getfield 115, 3) := by decide +kernel
theorem d26_68 : decode prog_7_method_8_code 68 = .ok (.istore_n 2, 1) := by decide +kernel
theorem d26_69 : decode prog_7_method_8_code 69 = .ok (.aload 7, 2) := by decide +kernel
theorem d26_71 : decode prog_7_method_8_code 71 = .ok (.getfield 116, 3) := by decide +kernel
theorem d26_74 : decode prog_7_method_8_code 74 = .ok (.istore_n 3, 1) := by decide +kernel
theorem d26_75 : decode prog_7_method_8_code 75 = .ok (.iinc 6 1, 3) := by decide +kernel
theorem d26_78 : decode prog_7_method_8_code 78 = .ok (.goto (-56), 3) := by decide +kernel
theorem d26_81 : decode prog_7_method_8_code 81 = .ok (.iload 5, 2) := by decide +kernel
theorem d26_83 : decode prog_7_method_8_code 83 = .ok (.ireturn, 1) := by decide +kernel
theorem d27_0 : decode prog_7_method_9_code 0 = .ok (.aload_n 0, 1) := by decide +kernel
theorem d27_1 : decode prog_7_method_9_code 1 = .ok (.getfield 42, 3) := by decide +kernel
theorem d27_4 : decode prog_7_method_9_code 4 = .ok (.iconst 2, 1) := by decide +kernel
theorem d27_5 : decode prog_7_method_9_code 5 = .ok (.isub, 1) := by decide +kernel
theorem d27_6 : decode prog_7_method_9_code 6 = .ok (.istore_n 1, 1) := by decide +kernel
theorem d27_7 : decode prog_7_method_9_code 7 = .ok (.iload_n 1, 1) := by decide +kernel
theorem d27_8 : decode prog_7_method_9_code 8 = .ok (.ifCond .lt 32, 3) := by decide +kernel
theorem d27_11 : decode prog_7_method_9_code 11 = .ok (.aload_n 0, 1) := by decide +kernel
theorem d27_12 : decode prog_7_method_9_code 12 = .ok (.getfield 11, 3) := by decide +kernel
theorem d27_15 : decode prog_7_method_9_code 15 = .ok (.iload_n 1, 1) := by decide +kernel
theorem d27_16 : decode prog_7_method_9_code 16 = .ok (.aaload, 1) := by decide +kernel
theorem d27_17 : decode prog_7_method_9_code 17 = .ok (.getfield 112, 3) := by decide +kernel
theorem d27_20 : decode prog_7_method_9_code 20 = .ok (.aload_n 0, 1) := by decide +kernel
theorem d27_21 : decode prog_7_method_9_code 21 = .ok (.getfield 11, 3) := by decide +kernel
theorem d27_24 : decode prog_7_method_9_code 24 = .ok (.iload_n 1, 1) := by decide +kernel
theorem d27_25 : decode prog_7_method_9_code 25 = .ok (.iconst 1, 1) := by decide +kernel
theorem d27_26 : decode prog_7_method_9_code 26 = .ok (.iadd, 1) := by decide +kernel
theorem d27_27 : decode prog_7_method_9_code 27 = .ok (.aaload, 1) := by decide +kernel
theorem d27_28 : decode prog_7_method_9_code 28 = .ok (.getfield 112, 3) := by decide +kernel
theorem d27_31 : decode prog_7_method_9_code 31 = .ok (.if_icmp .le 9, 3) := by decide +kernel
theorem d27_34 : decode prog_7_method_9_code 34 = .ok (.iinc 1 (-1), 3) := by decide +kernel
theorem d27_37 : decode prog_7_method_9_code 37 = .ok (.goto (-30), 3) := by decide +kernel
theorem d27_40 : decode prog_7_method_9_code 40 = .ok (.iload_n 1, 1) := by decide +kernel
theorem d27_41 : decode prog_7_method_9_code 41 = .ok (.ifCond .ge 5, 3) := by decide +kernel
theorem d27_44 : decode prog_7_method_9_code 44 = .ok (.iconst 0, 1) := by decide +kernel
theorem d27_45 : decode prog_7_method_9_code 45 = .ok (.ireturn, 1) := by decide +kernel
theorem d27_46 : decode prog_7_method_9_code 46 = .ok (.aload_n 0, 1) := by decide +kernel
theorem d27_47 : decode prog_7_method_9_code 47 = .ok (.getfield 42, 3) := by decide +kernel
theorem d27_50 : decode prog_7_method_9_code 50 = .ok (.iconst 1, 1) := by decide +kernel
theorem d27_51 : decode prog_7_method_9_code 51 = .ok (.isub, 1) := by decide +kernel
theorem d27_52 : decode prog_7_method_9_code 52 = .ok (.istore_n 2, 1) := by decide +kernel
theorem d27_53 : decode prog_7_method_9_code 53 = .ok (.iload_n 2, 1) := by decide +kernel
theorem d27_54 : decode prog_7_method_9_code 54 = .ok (.iload_n 1, 1) := by decide +kernel
theorem d27_55 : decode prog_7_method_9_code 55 = .ok (.if_icmp .le 30, 3) := by decide +kernel
theorem d27_58 : decode prog_7_method_9_code 58 = .ok (.aload_n 0, 1) := by decide +kernel
theorem d27_59 : decode prog_7_method_9_code 59 = .ok (.getfield 11, 3) := by decide +kernel
theorem d27_62 : decode prog_7_method_9_code 62 = .ok (.iload_n 2, 1) := by decide +kernel
theorem d27_63 : decode prog_7_method_9_code 63 = .ok (.aaload, 1) := by decide +kernel
theorem d27_64 : decode prog_7_method_9_code 64 = .ok (.getfield 112, 3) := by decide +kernel
theorem d27_67 : decode prog_7_method_9_code 67 = .ok (.aload_n 0, 1) := by decide +kernel
theorem d27_68 : decode prog_7_method_9_code 68 = .ok (.getfield 11, 3) := by decide +kernel
theorem d27_71 : decode prog_7_method_9_code 71 = .ok (.iload_n 1, 1) := by decide +kernel
theorem d27_72 : decode prog_7_method_9_code 72 = .ok (.aaload, 1) := by decide +kernel
theorem d27_73 : decode prog_7_method_9_code 73 = .ok (.getfield 112, 3) := by decide +kernel
theorem d27_76 : decode prog_7_method_9_code 76 = .ok (.if_icmp .ge 9, 3) := by decide +kernel
theorem d27_79 : decode prog_7_method_9_code 79 = .ok (.iinc 2 (-1), 3) := by decide +kernel
theorem d27_82 : decode prog_7_method_9_code 82 = .ok (.goto (-29), 3) := by decide +kernel
theorem d27_85 : decode prog_7_method_9_code 85 = .ok (.aload_n 0, 1) := by decide +kernel
theorem d27_86 : decode prog_7_method_9_code 86 = .ok (.iload_n 1, 1) := by decide +kernel
theorem d27_87 : decode prog_7_method_9_code 87 = .ok (.iload_n 2, 1) := by decide +kernel
theorem d27_88 : decode prog_7_method_9_code 88 = .ok (.invokevirtual 127, 3) := by decide +kernel
theorem d27_91 : decode prog_7_method_9_code 91 = .ok (.iload_n 1, 1) := by decide +kernel
theorem d27_92 : decode prog_7_method_9_code 92 = .ok (.iconst 1, 1) := by decide +kernel
theorem d27_93 : decode prog_7_method_9_code 93 = .ok (.iadd, 1) := by decide +kernel
theorem d27_94 : decode prog_7_method_9_code 94 = .ok (.istore_n 3, 1) := by decide +kernel
theorem d27_95 : decode prog_7_method_9_code 95 = .ok (.aload_n 0, 1) := by decide +kernel
theorem d27_96 : decode prog_7_method_9_code 96 = .ok (.getfield 42, 3) := by decide +kernel
theorem d27_99 : decode prog_7_method_9_code 99 = .ok (.iconst 1, 1) := by decide +kernel
theorem d27_100 : decode prog_7_method_9_code 100 = .ok (.isub, 1) := by decide +kernel
theorem d27_101 : decode prog_7_method_9_code 101 = .ok (.istore 4, 2) := by decide +kernel
theorem d27_103 : decode prog_7_method_9_code 103 = .ok (.iload_n 3, 1) := by decide +kernel
theorem d27_104 : decode prog_7_method_9_code 104 = .ok (.iload 4, 2) := by decide +kernel
theorem d27_106 : decode prog_7_method_9_code 106 = .ok (.if_icmp .ge 19, 3) := by decide +kernel
theorem d27_109 : decode prog_7_method_9_code 109 = .ok (.aload_n 0, 1) := by decide +kernel
theorem d27_110 : decode prog_7_method_9_code 110 = .ok (.iload_n 3, 1) := by decide +kernel
theorem d27_111 : decode prog_7_method_9_code 111 = .ok (.iload 4, 2) := by decide +kernel
theorem d27_113 : decode prog_7_method_9_code 113 = .ok (.invokevirtual 127, 3) := by decide +kernel
theorem d27_116 : decode prog_7_method_9_code 116 = .ok (.iinc 3 1, 3) := by decide +kernel
theorem d27_119 : decode prog_7_method_9_code 119 = .ok (.iinc 4 (-1), 3) := by decide +kernel
theorem d27_122 : decode prog_7_method_9_code 122 = .ok (.goto (-19), 3) := by decide +kernel
theorem d27_125 : decode prog_7_method_9_code 125 = .ok (.iconst 1, 1) := by decide +kernel
theorem d27_126 : decode prog_7_method_9_code 126 = .ok (.ireturn, 1) := by decide +kernel
theorem d28_0 : decode prog_7_method_10_code 0 = .ok (.aload_n 0, 1) := by decide +kernel
theorem d28_1 : decode prog_7_method_10_code 1 = .ok (.getfield 11, 3) := by decide +kernel
theorem d28_4 : decode prog_7_method_10_code 4 = .ok (.iload_n 1, 1) := by decide +kernel
theorem d28_5 : decode prog_7_method_10_code 5 = .ok (.aaload, 1) := by decide +kernel
theorem d28_6 : decode prog_7_method_10_code 6 = .ok (.astore_n 3, 1) := by decide +kernel
theorem d28_7 : decode prog_7_method_10_code 7 = .ok (.aload_n 0, 1) := by decide +kernel
theorem d28_8 : decode prog_7_method_10_code 8 = .ok (.getfield 11, 3) := by decide +kernel
theorem d28_11 : decode prog_7_method_10_code 11 = .ok (.iload_n 1, 1) := by decide +kernel
theorem d28_12 : decode prog_7_method_10_code 12 = .ok (.aload_n 0, 1) := by decide +kernel
theorem d28_13 : decode prog_7_method_10_code 13 = .ok (.getfield 11, 3) := by decide +kernel
theorem d28_16 : decode prog_7_method_10_code 16 = .ok (.iload_n 2, 1) := by decide +kernel
theorem d28_17 : decode prog_7_method_10_code 17 = .ok (.aaload, 1) := by decide +kernel
theorem d28_18 : decode prog_7_method_10_code 18 = .ok (.aastore, 1) := by decide +kernel
theorem d28_19 : decode prog_7_method_10_code 19 = .ok (.aload_n 0, 1) := by decide +kernel
theorem d28_20 : decode prog_7_method_10_code 20 = .ok (.getfield 11, 3) := by decide +kernel
theorem d28_23 : decode prog_7_method_10_code 23 = .ok (.iload_n 2, 1) := by decide +kernel
theorem d28_24 : decode prog_7_method_10_code 24 = .ok (.aload_n 3, 1) := by decide +kernel
theorem d28_25 : decode prog_7_method_10_code 25 = .ok (.aastore, 1) := by decide +kernel
theorem d28_26 : decode prog_7_method_10_code 26 = .ok (.return_, 1) := by decide +kernel
theorem d29_0 : decode prog_8_method_1_code 0 = .ok (.aload_n 0, 1) := by decide +kernel
theorem d29_1 : decode prog_8_method_1_code 1 = .ok (.invokespecial 3, 3) := by decide +kernel
theorem d29_4 : decode prog_8_method_1_code 4 = .ok (.aload_n 0, 1) := by decide +kernel
theorem d29_5 : decode prog_8_method_1_code 5 = .ok (.bipush 60, 2) := by decide +kernel
theorem d29_7 : decode prog_8_method_1_code 7 = .ok (.newarray .char, 2) := by decide +kernel
theorem d29_9 : decode prog_8_method_1_code 9 = .ok (.putfield 9, 3) := by decide +kernel
theorem d29_12 : decode prog_8_method_1_code 12 = .ok (.aload_n 0, 1) := by decide +kernel
theorem d29_13 : decode prog_8_method_1_code 13 = .ok (.iconst 0, 1) := by decide +kernel
theorem d29_14 : decode prog_8_method_1_code 14 = .ok (.putfield 15, 3) := by decide +kernel
theorem d29_17 : decode prog_8_method_1_code 17 = .ok (.aload_n 0, 1) := by decide +kernel
theorem d29_18 : decode prog_8_method_1_code 18 = .ok (.iconst 0, 1) := by decide +kernel
theorem d29_19 : decode prog_8_method_1_code 19 = .ok (.putfield 19, 3) := by decide +kernel
theorem d29_22 : decode prog_8_method_1_code 22 = .ok (.aload_n 0, 1) := by decide +kernel
theorem d29_23 : decode prog_8_method_1_code 23 = .ok (.bipush 9, 2) := by decide +kernel
theorem d29_25 : decode prog_8_method_1_code 25 = .ok (.anewarray 22, 3) := by decide +kernel
theorem d29_28 : decode prog_8_method_1_code 28 = .ok (.putfield 24, 3) := by decide +kernel
theorem d29_31 : decode prog_8_method_1_code 31 = .ok (.aload_n 0, 1) := by decide +kernel
theorem d29_32 : decode prog_8_method_1_code 32 = .ok (.iconst 0, 1) := by decide +kernel
theorem d29_33 : decode prog_8_method_1_code 33 = .ok (.putfield 28, 3) := by decide +kernel
theorem d29_36 : decode prog_8_method_1_code 36 = .ok (.iconst 0, 1) := by decide +kernel
theorem d29_37 : decode prog_8_method_1_code 37 = .ok (.istore_n 1, 1) := by decide +kernel
theorem d29_38 : decode prog_8_method_1_code 38 = .ok (.iload_n 1, 1) := by decide +kernel
theorem d29_39 : decode prog_8_method_1_code 39 = .ok (.bipush 9, 2) := by decide +kernel
theorem d29_41 : decode prog_8_method_1_code 41 = .ok (.if_icmp .ge 22, 3) := by decide +kernel
theorem d29_44 : decode prog_8_method_1_code 44 = .ok (.aload_n 0, 1) := by decide +kernel
theorem d29_45 : decode prog_8_method_1_code 45 = .ok (.getfield 24, 3) := by decide +kernel
theorem d29_48 : decode prog_8_method_1_code 48 = .ok (.iload_n 1, 1) := by decide +kernel
theorem d29_49 : decode prog_8_method_1_code 49 = .ok (.new 22, 3) := by decide +kernel
theorem d29_52 : decode prog_8_method_1_code 52 = .ok (.dup, 1) := by decide +kernel
theorem d29_53 : decode prog_8_method_1_code 53 = .ok (.invokespecial 31, 3) := by decide +kernel
theorem d29_56 : decode prog_8_method_1_code 56 = .ok (.aastore, 1) := by decide +kernel
theorem d29_57 : decode prog_8_method_1_code 57 = .ok (.iinc 1 1, 3) := by decide +kernel
theorem d29_60 : decode prog_8_method_1_code 60 = .ok (.goto (-22), 3) := by decide +kernel
theorem d29_63 : decode prog_8_method_1_code 63 = .ok (.return_, 1) := by decide +kernel
theorem d30_0 : decode prog_8_method_2_code 0 = .ok (.aload_n 0, 1) := by decide +kernel
theorem d30_1 : decode prog_8_method_2_code 1 = .ok (.getfield 15, 3) := by decide +kernel
theorem d30_4 : decode prog_8_method_2_code 4 = .ok (.bipush 60, 2) := by decide +kernel
theorem d30_6 : decode prog_8_method_2_code 6 = .ok (.if_icmp .lt 7, 3) := by decide +kernel
theorem d30_9 : decode prog_8_method_2_code 9 = .ok (.iconst 1, 1) := by decide +kernel
theorem d30_10 : decode prog_8_method_2_code 10 = .ok (.goto 4, 3) := by decide +kernel
theorem d30_13 : decode prog_8_method_2_code 13 = .ok (.iconst 0, 1) := by decide +kernel
theorem d30_14 : decode prog_8_method_2_code 14 = .ok (.ireturn, 1) := by decide +kernel
theorem d31_0 : decode prog_8_method_3_code 0 = .ok (.aload_n 0, 1) := by decide +kernel
theorem d31_1 : decode prog_8_method_3_code 1 = .ok (.getfield 15, 3) := by decide +kernel
theorem d31_4 : decode prog_8_method_3_code 4 = .ok (.bipush 60, 2) := by decide +kernel
theorem d31_6 : decode prog_8_method_3_code 6 = .ok (.if_icmp .ge 23, 3) := by decide +kernel
theorem d31_9 : decode prog_8_method_3_code 9 = .ok (.aload_n 0, 1) := by decide +kernel
theorem d31_10 : decode prog_8_method_3_code 10 = .ok (.getfield 9, 3) := by decide +kernel
theorem d31_13 : decode prog_8_method_3_code 13 = .ok (.aload_n 0, 1) := by decide +kernel
theorem d31_14 : decode prog_8_method_3_code 14 = .ok (.getfield 15, 3) := by decide +kernel
theorem d31_17 : decode prog_8_method_3_code 17 = .ok (.iload_n 1, 1) := by decide +kernel
theorem d31_18 : decode prog_8_method_3_code 18 = .ok (.castore, 1) := by decide +kernel
theorem d31_19 : decode prog_8_method_3_code 19 = .ok (.aload_n 0, 1) := by decide +kernel
theorem d31_20 : decode prog_8_method_3_code 20 = .ok (.dup, 1) := by decide +kernel
theorem d31_21 : decode prog_8_method_3_code 21 = .ok (.getfield 15, 3) := by decide +kernel
theorem d31_24 : decode prog_8_method_3_code 24 = .ok (.iconst 1, 1) := by decide +kernel
theorem d31_25 : decode prog_8_method_3_code 25 = .ok (.iadd, 1) := by decide +kernel
theorem d31_26 : decode prog_8_method_3_code 26 = .ok (.putfield 15, 3) := by decide +kernel
theorem d31_29 : decode prog_8_method_3_code 29 = .ok (.aload_n 0, 1) := by decide +kernel
theorem d31_30 : decode prog_8_method_3_code 30 = .ok (.getfield 15, 3) := by decide +kernel
theorem d31_33 : decode prog_8_method_3_code 33 = .ok (.ireturn, 1) := by decide +kernel
theorem d32_0 : decode prog_8_method_5_code 0 = .ok (.aload_n 0, 1) := by decide +kernel
theorem d32_1 : decode prog_8_method_5_code 1 = .ok (.iconst 0, 1) := by decide +kernel
theorem d32_2 : decode prog_8_method_5_code 2 = .ok (.putfield 19, 3) := by decide +kernel
theorem d32_5 : decode prog_8_method_5_code 5 = .ok (.aload_n 0, 1) := by decide +kernel
theorem d32_6 : decode prog_8_method_5_code 6 = .ok (.iconst 0, 1) := by decide +kernel
theorem d32_7 : decode prog_8_method_5_code 7 = .ok (.putfield 28, 3) := by decide +kernel
theorem d32_10 : decode prog_8_method_5_code 10 = .ok (.iconst 0, 1) := by decide +kernel
theorem d32_11 : decode prog_8_method_5_code 11 = .ok (.istore_n 1, 1) := by decide +kernel
theorem d32_12 : decode prog_8_method_5_code 12 = .ok (.iload_n 1, 1) := by decide +kernel
theorem d32_13 : decode prog_8_method_5_code 13 = .ok (.bipush 9, 2) := by decide +kernel
theorem d32_15 : decode prog_8_method_5_code 15 = .ok (.if_icmp .ge 61, 3) := by decide +kernel
theorem d32_18 : decode prog_8_method_5_code 18 = .ok (.aload_n 0, 1) := by decide +kernel
theorem d32_19 : decode prog_8_method_5_code 19 = .ok (.aload_n 0, 1) := by decide +kernel
theorem d32_20 : decode prog_8_method_5_code 20 = .ok (.getfield 24, 3) := by decide +kernel
theorem d32_23 : decode prog_8_method_5_code 23 = .ok (.iload_n 1, 1) := by decide +kernel
theorem d32_24 : decode prog_8_method_5_code 24 = .ok (.aaload, 1) := by decide +kernel
theorem d32_25 : decode prog_8_method_5_code 25 = .ok (.invokevirtual 32, 3) := by decide +kernel
theorem d32_28 : decode prog_8_method_5_code 28 = .ok (.ifCond .ne 8, 3) := by decide +kernel
theorem d32_31 : decode prog_8_method_5_code 31 = .ok (.aload_n 0, 1) := by decide +kernel
theorem d32_32 : decode prog_8_method_5_code 32 = .ok (.getfield 19, 3) := by decide +kernel
theorem d32_35 : decode prog_8_method_5_code 35 = .ok (.ireturn, 1) := by decide +kernel
theorem d32_36 : decode prog_8_method_5_code 36 = .ok (.aload_n 0, 1) := by decide +kernel
theorem d32_37 : decode prog_8_method_5_code 37 = .ok (.iload_n 1, 1) := by decide +kernel
theorem d32_38 : decode prog_8_method_5_code 38 = .ok (.iconst 1, 1) := by decide +kernel
theorem d32_39 : decode prog_8_method_5_code 39 = .ok (.iadd, 1) := by decide +kernel
theorem d32_40 : decode prog_8_method_5_code 40 = .ok (.putfield 28, 3) := by decide +kernel
theorem d32_43 : decode prog_8_method_5_code 43 = .ok (.aload_n 0, 1) := by decide +kernel
theorem d32_44 : decode prog_8_method_5_code 44 = .ok (.getfield 19, 3) := by decide +kernel
theorem d32_47 : decode prog_8_method_5_code 47 = .ok (.aload_n 0, 1) := by decide +kernel
theorem d32_48 : decode prog_8_method_5_code 48 = .ok (.getfield 15, 3) := by decide +kernel
theorem d32_51 : decode prog_8_method_5_code 51 = .ok (.if_icmp .lt 5, 3) := by decide +kernel
theorem d32_54 : decode prog_8_method_5_code 54 = .ok (.iconst (-1), 1) := by decide +kernel
theorem d32_55 : decode prog_8_method_5_code 55 = .ok (.ireturn, 1) := by decide +kernel
theorem d32_56 : decode prog_8_method_5_code 56 = .ok (.aload_n 0, 1) := by decide +kernel
theorem d32_57 : decode prog_8_method_5_code 57 = .ok (.bipush 59, 2) := by decide +kernel
theorem d32_59 : decode prog_8_method_5_code 59 = .ok (.invokevirtual 36, 3) := by decide +kernel
theorem d32_62 : decode prog_8_method_5_code 62 = .ok (.ifCond .ne 8, 3) := by decide +kernel
theorem d32_65 : decode prog_8_method_5_code 65 = .ok (.aload_n 0, 1) := by decide +kernel
theorem d32_66 : decode prog_8_method_5_code 66 = .ok (.getfield 19, 3) := by decide +kernel
theorem d32_69 : decode prog_8_method_5_code 69 = .ok (.ireturn, 1) := by decide +kernel
theorem d32_70 : decode prog_8_method_5_code 70 = .ok (.iinc 1 1, 3) := by decide +kernel
theorem d32_73 : decode prog_8_method_5_code 73 = .ok (.goto (-61), 3) := by decide +kernel
theorem d32_76 : decode prog_8_method_5_code 76 = .ok (.aload_n 0, 1) := by decide +kernel
theorem d32_77 : decode prog_8_method_5_code 77 = .ok (.getfield 19, 3) := by decide +kernel
theorem d32_80 : decode prog_8_method_5_code 80 = .ok (.ireturn, 1) := by decide +kernel
theorem d33_0 : decode prog_8_method_6_code 0 = .ok (.aload_n 0, 1) := by decide +kernel
theorem d33_1 : decode prog_8_method_6_code 1 = .ok (.getfield 19, 3) := by decide +kernel
theorem d33_4 : decode prog_8_method_6_code 4 = .ok (.istore_n 2, 1) := by decide +kernel
theorem d33_5 : decode prog_8_method_6_code 5 = .ok (.aload_n 0, 1) := by decide +kernel
theorem d33_6 : decode prog_8_method_6_code 6 = .ok (.getfield 19, 3) := by decide +kernel
theorem d33_9 : decode prog_8_method_6_code 9 = .ok (.istore_n 3, 1) := by decide +kernel
theorem d33_10 : decode prog_8_method_6_code 10 = .ok (.getstatic 40, 3) := by decide +kernel
theorem d33_13 : decode prog_8_method_6_code 13 = .ok (.astore 4, 2) := by decide +kernel
theorem d33_15 : decode prog_8_method_6_code 15 = .ok (.aload 4, 2) := by decide +kernel
theorem d33_17 : decode prog_8_method_6_code 17 = .ok (.arraylength, 1) := by decide +kernel
theorem d33_18 : decode prog_8_method_6_code 18 = .ok (.istore 5, 2) := by decide +kernel
theorem d33_20 : decode prog_8_method_6_code 20 = .ok (.iconst 0, 1) := by decide +kernel
theorem d33_21 : decode prog_8_method_6_code 21 = .ok (.istore 6, 2) := by decide +kernel
theorem d33_23 : decode prog_8_method_6_code 23 = .ok (.iload 6, 2) := by decide +kernel
theorem d33_25 : decode prog_8_method_6_code 25 = .ok (.iload 5, 2) := by decide +kernel
theorem d33_27 : decode prog_8_method_6_code 27 = .ok (.if_icmp .ge 54, 3) := by decide +kernel
theorem d33_30 : decode prog_8_method_6_code 30 = .ok (.aload 4, 2) := by decide +kernel
theorem d33_32 : decode prog_8_method_6_code 32 = .ok (.iload 6, 2) := by decide +kernel
theorem d33_34 : decode prog_8_method_6_code 34 = .ok (.aaload, 1) := by decide +kernel
theorem d33_35 : decode prog_8_method_6_code 35 = .ok (.astore 7, 2) := by decide +kernel
theorem d33_37 : decode prog_8_method_6_code 37 = .ok (.aload_n 0, 1) := by decide +kernel
theorem d33_38 : decode prog_8_method_6_code 38 = .ok (.iload_n 2, 1) := by decide +kernel
theorem d33_39 : decode prog_8_method_6_code 39 = .ok (.putfield 19, 3) := by decide +kernel
theorem d33_42 : decode prog_8_method_6_code 42 = .ok (.aload_n 0, 1) := by decide +kernel
theorem d33_43 : decode prog_8_method_6_code 43 = .ok (.aload 7, 2) := by decide +kernel
theorem d33_45 : decode prog_8_method_6_code 45 = .ok (.getfield 44, 3) := by decide +kernel
theorem d33_48 : decode prog_8_method_6_code 48 = .ok (.aload_n 1, 1) := by decide +kernel
theorem d33_49 : decode prog_8_method_6_code 49 = .ok (.getfield 50, 3) := by decide +kernel
theorem d33_52 : decode prog_8_method_6_code 52 = .ok (.invokevirtual 54, 3) := by decide +kernel
theorem d33_55 : decode prog_8_method_6_code 55 = .ok (.ifCond .eq 11, 3) := by decide +kernel
theorem d33_58 : decode prog_8_method_6_code 58 = .ok (.aload_n 1, 1) := by decide +kernel
theorem d33_59 : decode prog_8_method_6_code 59 = .ok (.aload 7, 2) := by decide +kernel
theorem d33_61 : decode prog_8_method_6_code 61 = .ok (.putfield 58, 3) := by decide +kernel
theorem d33_64 : decode prog_8_method_6_code 64 = .ok (.iconst 1, 1) := by decide +kernel
theorem d33_65 : decode prog_8_method_6_code 65 = .ok (.ireturn, 1) := by decide +kernel
theorem d33_66 : decode prog_8_method_6_code 66 = .ok (.iload_n 3, 1) := by decide +kernel
theorem d33_67 : decode prog_8_method_6_code 67 = .ok (.aload_n 0, 1) := by decide +kernel
theorem d33_68 : decode prog_8_method_6_code 68 = .ok (.getfield 19, 3) := by decide +kernel
theorem d33_71 : decode prog_8_method_6_code 71 = .ok (.invokestatic 62, 3) := by decide +kernel
theorem d33_74 : decode prog_8_method_6_code 74 = .ok (.istore_n 3, 1) := by decide +kernel
theorem d33_75 : decode prog_8_method_6_code 75 = .ok (.iinc 6 1, 3) := by decide +kernel
theorem d33_78 : decode prog_8_method_6_code 78 = .ok (.goto (-55), 3) := by decide +kernel
theorem d33_81 : decode prog_8_method_6_code 81 = .ok (.aload_n 0, 1) := by decide +kernel
theorem d33_82 : decode prog_8_method_6_code 82 = .ok (.iload_n 3, 1) := by decide +kernel
theorem d33_83 : decode prog_8_method_6_code 83 = .ok (.putfield 19, 3) := by decide +kernel
theorem d33_86 : decode prog_8_method_6_code 86 = .ok (.iconst 0, 1) := by decide +kernel
theorem d33_87 : decode prog_8_method_6_code 87 = .ok (.ireturn, 1) := by decide +kernel
theorem d34_0 : decode prog_8_method_7_code 0 = .ok (.iconst 0, 1) := by decide +kernel
theorem d34_1 : decode prog_8_method_7_code 1 = .ok (.istore_n 3, 1) := by decide +kernel
theorem d34_2 : decode prog_8_method_7_code 2 = .ok (.iconst 0, 1) := by decide +kernel
theorem d34_3 : decode prog_8_method_7_code 3 = .ok (.istore 4, 2) := by decide +kernel
theorem d34_5 : decode prog_8_method_7_code 5 = .ok (.iload 4, 2) := by decide +kernel
theorem d34_7 : decode prog_8_method_7_code 7 = .ok (.aload_n 1, 1) := by decide +kernel
theorem d34_8 : decode prog_8_method_7_code 8 = .ok (.invokevirtual 68, 3) := by decide +kernel
theorem d34_11 : decode prog_8_method_7_code 11 = .ok (.if_icmp .ge 82, 3) := by decide +kernel
theorem d34_14 : decode prog_8_method_7_code 14 = .ok (.aload_n 1, 1) := by decide +kernel
theorem d34_15 : decode prog_8_method_7_code 15 = .ok (.iload 4, 2) := by decide +kernel
theorem d34_17 : decode prog_8_method_7_code 17 = .ok (.invokevirtual 73, 3) := by decide +kernel
theorem d34_20 : decode prog_8_method_7_code 20 = .ok (.istore 5, 2) := by decide +kernel
theorem d34_22 : decode prog_8_method_7_code 22 = .ok (.iload 5, 2) := by decide +kernel
theorem d34_24 : decode prog_8_method_7_code 24 = .ok (.bipush 35, 2) := by decide +kernel
theorem d34_26 : decode prog_8_method_7_code 26 = .ok (.if_icmp .eq 17, 3) := by decide +kernel
theorem d34_29 : decode prog_8_method_7_code 29 = .ok (.iload 5, 2) := by decide +kernel
theorem d34_31 : decode prog_8_method_7_code 31 = .ok (.bipush 37, 2) := by decide +kernel
theorem d34_33 : decode prog_8_method_7_code 33 = .ok (.if_icmp .eq 10, 3) := by decide +kernel
theorem d34_36 : decode prog_8_method_7_code 36 = .ok (.iload 5, 2) := by decide +kernel
theorem d34_38 : decode prog_8_method_7_code 38 = .ok (.bipush 63, 2) := by decide +kernel
theorem d34_40 : decode prog_8_method_7_code 40 = .ok (.if_icmp .ne 36, 3) := by decide +kernel
theorem d34_43 : decode prog_8_method_7_code 43 = .ok (.aload_n 0, 1) := by decide +kernel
theorem d34_44 : decode prog_8_method_7_code 44 = .ok (.iload 5, 2) := by decide +kernel
theorem d34_46 : decode prog_8_method_7_code 46 = .ok (.invokevirtual 77, 3) := by decide +kernel
theorem d34_49 : decode prog_8_method_7_code 49 = .ok (.istore 6, 2) := by decide +kernel
theorem d34_51 : decode prog_8_method_7_code 51 = .ok (.iload 6, 2) := by decide +kernel
theorem d34_53 : decode prog_8_method_7_code 53 = .ok (.iconst (-1), 1) := by decide +kernel
theorem d34_54 : decode prog_8_method_7_code 54 = .ok (.if_icmp .eq 9, 3) := by decide +kernel
theorem d34_57 : decode prog_8_method_7_code 57 = .ok (.iload_n 3, 1) := by decide +kernel
theorem d34_58 : decode prog_8_method_7_code 58 = .ok (.aload_n 2, 1) := by decide +kernel
theorem d34_59 : decode prog_8_method_7_code 59 = .ok (.arraylength, 1) := by decide +kernel
theorem d34_60 : decode prog_8_method_7_code 60 = .ok (.if_icmp .lt 5, 3) := by decide +kernel
theorem d34_63 : decode prog_8_method_7_code 63 = .ok (.iconst 0, 1) := by decide +kernel
theorem d34_64 : decode prog_8_method_7_code 64 = .ok (.ireturn, 1) := by decide +kernel
theorem d34_65 : decode prog_8_method_7_code 65 = .ok (.aload_n 2, 1) := by decide +kernel
theorem d34_66 : decode prog_8_method_7_code 66 = .ok (.iload_n 3, 1) := by decide +kernel
theorem d34_67 : decode prog_8_method_7_code 67 = .ok (.iload 6, 2) := by decide +kernel
theorem d34_69 : decode prog_8_method_7_code 69 = .ok (.iastore, 1) := by decide +kernel
theorem d34_70 : decode prog_8_method_7_code 70 = .ok (.iinc 3 1, 3) := by decide +kernel
theorem d34_73 : decode prog_8_method_7_code 73 = .ok (.goto 14, 3) := by decide +kernel
theorem d34_76 : decode prog_8_method_7_code 76 = .ok (.aload_n 0, 1) := by decide +kernel
theorem d34_77 : decode prog_8_method_7_code 77 = .ok (.iload 5, 2) := by decide +kernel
theorem d34_79 : decode prog_8_method_7_code 79 = .ok (.invokevirtual 36, 3) := by decide +kernel
theorem d34_82 : decode prog_8_method_7_code 82 = .ok (.ifCond .ne 5, 3) := by decide +kernel
theorem d34_85 : decode prog_8_method_7_code 85 = .ok (.iconst 0, 1) := by decide +kernel
theorem d34_86 : decode prog_8_method_7_code 86 = .ok (.ireturn, 1) := by decide +kernel
theorem d34_87 : decode prog_8_method_7_code 87 = .ok (.iinc 4 1, 3) := by decide +kernel
theorem d34_90 : decode prog_8_method_7_code 90 = .ok (.goto (-85), 3) := by decide +kernel
theorem d34_93 : decode prog_8_method_7_code 93 = .ok (.iconst 1, 1) := by decide +kernel
theorem d34_94 : decode prog_8_method_7_code 94 = .ok (.ireturn, 1) := by decide +kernel
theorem d35_0 : decode prog_8_method_8_code 0 = .ok (.iload_n 1, 1) := by decide +kernel
theorem d35_1 : decode prog_8_method_8_code 1 = .ok (.bipush 35, 2) := by decide +kernel
theorem d35_3 : decode prog_8_method_8_code 3 = .ok (.if_icmp .ne 8, 3) := by decide +kernel
theorem d35_6 : decode prog_8_method_8_code 6 = .ok (.aload_n 0, 1) := by decide +kernel
theorem d35_7 : decode prog_8_method_8_code 7 = .ok (.invokevirtual 81, 3) := by decide +kernel
theorem d35_10 : decode prog_8_method_8_code 10 = .ok (.ireturn, 1) := by decide +kernel
theorem d35_11 : decode prog_8_method_8_code 11 = .ok (.iload_n 1, 1) := by decide +kernel
theorem d35_12 : decode prog_8_method_8_code 12 = .ok (.bipush 37, 2) := by decide +kernel
theorem d35_14 : decode prog_8_method_8_code 14 = .ok (.if_icmp .ne 10, 3) := by decide +kernel
theorem d35_17 : decode prog_8_method_8_code 17 = .ok (.aload_n 0, 1) := by decide +kernel
theorem d35_18 : decode prog_8_method_8_code 18 = .ok (.invokevirtual 84, 3) := by decide +kernel
theorem d35_21 : decode prog_8_method_8_code 21 = .ok (.goto 7, 3) := by decide +kernel
theorem d35_24 : decode prog_8_method_8_code 24 = .ok (.aload_n 0, 1) := by decide +kernel
theorem d35_25 : decode prog_8_method_8_code 25 = .ok (.invokevirtual 87, 3) := by decide +kernel
theorem d35_28 : decode prog_8_method_8_code 28 = .ok (.ireturn, 1) := by decide +kernel
theorem d36_0 : decode prog_8_method_9_code 0 = .ok (.aload_n 0, 1) := by decide +kernel
theorem d36_1 : decode prog_8_method_9_code 1 = .ok (.invokevirtual 84, 3) := by decide +kernel
theorem d36_4 : decode prog_8_method_9_code 4 = .ok (.istore_n 1, 1) := by decide +kernel
theorem d36_5 : decode prog_8_method_9_code 5 = .ok (.iload_n 1, 1) := by decide +kernel
theorem d36_6 : decode prog_8_method_9_code 6 = .ok (.istore_n 2, 1) := by decide +kernel
theorem d36_7 : decode prog_8_method_9_code 7 = .ok (.iconst 1, 1) := by decide +kernel
theorem d36_8 : decode prog_8_method_9_code 8 = .ok (.istore_n 3, 1) := by decide +kernel
theorem d36_9 : decode prog_8_method_9_code 9 = .ok (.iload_n 3, 1) := by decide +kernel
theorem d36_10 : decode prog_8_method_9_code 10 = .ok (.iconst 3, 1) := by decide +kernel
theorem d36_11 : decode prog_8_method_9_code 11 = .ok (.if_icmp .ge 31, 3) := by decide +kernel
theorem d36_14 : decode prog_8_method_9_code 14 = .ok (.iload_n 2, 1) := by decide +kernel
theorem d36_15 : decode prog_8_method_9_code 15 = .ok (.iconst (-1), 1) := by decide +kernel
theorem d36_16 : decode prog_8_method_9_code 16 = .ok (.if_icmp .eq 26, 3) := by decide +kernel
theorem d36_19 : decode prog_8_method_9_code 19 = .ok (.aload_n 0, 1) := by decide +kernel
theorem d36_20 : decode prog_8_method_9_code 20 = .ok (.invokevirtual 84, 3) := by decide +kernel
theorem d36_23 : decode prog_8_method_9_code 23 = .ok (.istore_n 2, 1) := by decide +kernel
theorem d36_24 : decode prog_8_method_9_code 24 = .ok (.iload_n 2, 1) := by decide +kernel
theorem d36_25 : decode prog_8_method_9_code 25 = .ok (.iconst (-1), 1) := by decide +kernel
theorem d36_26 : decode prog_8_method_9_code 26 = .ok (.if_icmp .eq 10, 3) := by decide +kernel
theorem d36_29 : decode prog_8_method_9_code 29 = .ok (.bipush 10, 2) := by decide +kernel
theorem d36_31 : decode prog_8_method_9_code 31 = .ok (.iload_n 1, 1) := by decide +kernel
theorem d36_32 : decode prog_8_method_9_code 32 = .ok (.imul, 1) := by decide +kernel
theorem d36_33 : decode prog_8_method_9_code 33 = .ok (.iload_n 2, 1) := by decide +kernel
theorem d36_34 : decode prog_8_method_9_code 34 = .ok (.iadd, 1) := by decide +kernel
theorem d36_35 : decode prog_8_method_9_code 35 = .ok (.istore_n 1, 1) := by decide +kernel
theorem d36_36 : decode prog_8_method_9_code 36 = .ok (.iinc 3 1, 3) := by decide +kernel
theorem d36_39 : decode prog_8_method_9_code 39 = .ok (.goto (-30), 3) := by decide +kernel
theorem d36_42 : decode prog_8_method_9_code 42 = .ok (.iload_n 1, 1) := by decide +kernel
theorem d36_43 : decode prog_8_method_9_code 43 = .ok (.ireturn, 1) := by decide +kernel
theorem d37_0 : decode prog_8_method_10_code 0 = .ok (.aload_n 0, 1) := by decide +kernel
theorem d37_1 : decode prog_8_method_10_code 1 = .ok (.getfield 19, 3) := by decide +kernel
theorem d37_4 : decode prog_8_method_10_code 4 = .ok (.aload_n 0, 1) := by decide +kernel
theorem d37_5 : decode prog_8_method_10_code 5 = .ok (.getfield 15, 3) := by decide +kernel
theorem d37_8 : decode prog_8_method_10_code 8 = .ok (.if_icmp .ge 31, 3) := by decide +kernel
theorem d37_11 : decode prog_8_method_10_code 11 = .ok (.aload_n 0, 1) := by decide +kernel
theorem d37_12 : decode prog_8_method_10_code 12 = .ok (.getfield 9, 3) := by decide +kernel
theorem d37_15 : decode prog_8_method_10_code 15 = .ok (.aload_n 0, 1) := by decide +kernel
theorem d37_16 : decode prog_8_method_10_code 16 = .ok (.getfield 19, 3) := by decide +kernel
theorem d37_19 : decode prog_8_method_10_code 19 = .ok (.caload, 1) := by decide +kernel
theorem d37_20 : decode prog_8_method_10_code 20 = .ok (.bipush 48, 2) := by decide +kernel
theorem d37_22 : decode prog_8_method_10_code 22 = .ok (.if_icmp .lt 17, 3) := by decide +kernel
theorem d37_25 : decode prog_8_method_10_code 25 = .ok (.aload_n 0, 1) := by decide +kernel
theorem d37_26 : decode prog_8_method_10_code 26 = .ok (.getfield 9, 3) := by decide +kernel
theorem d37_29 : decode prog_8_method_10_code 29 = .ok (.aload_n 0, 1) := by decide +kernel
theorem d37_30 : decode prog_8_method_10_code 30 = .ok (.getfield 19, 3) := by decide +kernel
theorem d37_33 : decode prog_8_method_10_code 33 = .ok (.caload, 1) := by decide +kernel
theorem d37_34 : decode prog_8_method_10_code 34 = .ok (.bipush 57, 2) := by decide +kernel
theorem d37_36 : decode prog_8_method_10_code 36 = .ok (.if_icmp .le 5, 3) := by decide +kernel
theorem d37_39 : decode prog_8_method_10_code 39 = .ok (.iconst (-1), 1) := by decide +kernel
theorem d37_40 : decode prog_8_method_10_code 40 = .ok (.ireturn, 1) := by decide +kernel
theorem d37_41 : decode prog_8_method_10_code 41 = .ok (.aload_n 0, 1) := by decide +kernel
theorem d37_42 : decode prog_8_method_10_code 42 = .ok (.getfield 9, 3) := by decide +kernel
theorem d37_45 : decode prog_8_method_10_code 45 = .ok (.aload_n 0, 1) := by decide +kernel
theorem d37_46 : decode prog_8_method_10_code 46 = .ok (.getfield 19, 3) := by decide +kernel
theorem d37_49 : decode prog_8_method_10_code 49 = .ok (.caload, 1) := by decide +kernel
theorem d37_50 : decode prog_8_method_10_code 50 = .ok (.bipush 48, 2) := by decide +kernel
theorem d37_52 : decode prog_8_method_10_code 52 = .ok (.isub, 1) := by decide +kernel
theorem d37_53 : decode prog_8_method_10_code 53 = .ok (.istore_n 1, 1) := by decide +kernel
theorem d37_54 : decode prog_8_method_10_code 54 = .ok (.aload_n 0, 1) := by decide +kernel
theorem d37_55 : decode prog_8_method_10_code 55 = .ok (.dup, 1) := by decide +kernel
theorem d37_56 : decode prog_8_method_10_code 56 = .ok (.getfield 19, 3) := by decide +kernel
theorem d37_59 : decode prog_8_method_10_code 59 = .ok (.iconst 1, 1) := by decide +kernel
theorem d37_60 : decode prog_8_method_10_code 60 = .ok (.iadd, 1) := by decide +kernel
theorem d37_61 : decode prog_8_method_10_code 61 = .ok (.putfield 19, 3) := by decide +kernel
theorem d37_64 : decode prog_8_method_10_code 64 = .ok (.iload_n 1, 1) := by decide +kernel
theorem d37_65 : decode prog_8_method_10_code 65 = .ok (.ireturn, 1) := by decide +kernel
theorem d38_0 : decode prog_8_method_11_code 0 = .ok (.aload_n 0, 1) := by decide +kernel
theorem d38_1 : decode prog_8_method_11_code 1 = .ok (.getfield 19, 3) := by decide +kernel
theorem d38_4 : decode prog_8_method_11_code 4 = .ok (.aload_n 0, 1) := by decide +kernel
theorem d38_5 : decode prog_8_method_11_code 5 = .ok (.getfield 15, 3) := by decide +kernel
theorem d38_8 : decode prog_8_method_11_code 8 = .ok (.if_icmp .ge 18, 3) := by decide +kernel
theorem d38_11 : decode prog_8_method_11_code 11 = .ok (.aload_n 0, 1) := by decide +kernel
theorem d38_12 : decode prog_8_method_11_code 12 = .ok (.getfield 9, 3) := by decide +kernel
theorem d38_15 : decode prog_8_method_11_code 15 = .ok (.aload_n 0, 1) := by decide +kernel
theorem d38_16 : decode prog_8_method_11_code 16 = .ok (.getfield 19, 3) := by decide +kernel
theorem d38_19 : decode prog_8_method_11_code 19 = .ok (.caload, 1) := by decide +kernel
theorem d38_20 : decode prog_8_method_11_code 20 = .ok (.invokestatic 90, 3) := by decide +kernel
theorem d38_23 : decode prog_8_method_11_code 23 = .ok (.goto 4, 3) := by decide +kernel
theorem d38_26 : decode prog_8_method_11_code 26 = .ok (.iconst (-1), 1) := by decide +kernel
theorem d38_27 : decode prog_8_method_11_code 27 = .ok (.istore_n 1, 1) := by decide +kernel
theorem d38_28 : decode prog_8_method_11_code 28 = .ok (.iload_n 1, 1) := by decide +kernel
theorem d38_29 : decode prog_8_method_11_code 29 = .ok (.iconst (-1), 1) := by decide +kernel
theorem d38_30 : decode prog_8_method_11_code 30 = .ok (.if_icmp .eq 13, 3) := by decide +kernel
theorem d38_33 : decode prog_8_method_11_code 33 = .ok (.aload_n 0, 1) := by decide +kernel
theorem d38_34 : decode prog_8_method_11_code 34 = .ok (.dup, 1) := by decide +kernel
theorem d38_35 : decode prog_8_method_11_code 35 = .ok (.getfield 19, 3) := by decide +kernel
theorem d38_38 : decode prog_8_method_11_code 38 = .ok (.iconst 1, 1) := by decide +kernel
theorem d38_39 : decode prog_8_method_11_code 39 = .ok (.iadd, 1) := by decide +kernel
theorem d38_40 : decode prog_8_method_11_code 40 = .ok (.putfield 19, 3) := by decide +kernel
theorem d38_43 : decode prog_8_method_11_code 43 = .ok (.iload_n 1, 1) := by decide +kernel
theorem d38_44 : decode prog_8_method_11_code 44 = .ok (.ireturn, 1) := by decide +kernel
theorem d39_0 : decode prog_8_method_12_code 0 = .ok (.aload_n 0, 1) := by decide +kernel
theorem d39_1 : decode prog_8_method_12_code 1 = .ok (.getfield 19, 3) := by decide +kernel
theorem d39_4 : decode prog_8_method_12_code 4 = .ok (.aload_n 0, 1) := by decide +kernel
theorem d39_5 : decode prog_8_method_12_code 5 = .ok (.getfield 15, 3) := by decide +kernel
theorem d39_8 : decode prog_8_method_12_code 8 = .ok (.if_icmp .ge 16, 3) := by decide +kernel
theorem d39_11 : decode prog_8_method_12_code 11 = .ok (.aload_n 0, 1) := by decide +kernel
theorem d39_12 : decode prog_8_method_12_code 12 = .ok (.getfield 9, 3) := by decide +kernel
theorem d39_15 : decode prog_8_method_12_code 15 = .ok (.aload_n 0, 1) := by decide +kernel
theorem d39_16 : decode prog_8_method_12_code 16 = .ok (.getfield 19, 3) := by decide +kernel
theorem d39_19 : decode prog_8_method_12_code 19 = .ok (.caload, 1) := by decide +kernel
theorem d39_20 : decode prog_8_method_12_code 20 = .ok (.iload_n 1, 1) := by decide +kernel
theorem d39_21 : decode prog_8_method_12_code 21 = .ok (.if_icmp .eq 5, 3) := by decide +kernel
theorem d39_24 : decode prog_8_method_12_code 24 = .ok (.iconst 0, 1) := by decide +kernel
theorem d39_25 : decode prog_8_method_12_code 25 = .ok (.ireturn, 1) := by decide +kernel
theorem d39_26 : decode prog_8_method_12_code 26 = .ok (.aload_n 0, 1) := by decide +kernel
theorem d39_27 : decode prog_8_method_12_code 27 = .ok (.dup, 1) := by decide +kernel
theorem d39_28 : decode prog_8_method_12_code 28 = .ok (.getfield 19, 3) := by decide +kernel
theorem d39_31 : decode prog_8_method_12_code 31 = .ok (.iconst 1, 1) := by decide +kernel
theorem d39_32 : decode prog_8_method_12_code 32 = .ok (.iadd, 1) := by decide +kernel
theorem d39_33 : decode prog_8_method_12_code 33 = .ok (.putfield 19, 3) := by decide +kernel
theorem d39_36 : decode prog_8_method_12_code 36 = .ok (.iconst 1, 1) := by decide +kernel
theorem d39_37 : decode prog_8_method_12_code 37 = .ok (.ireturn, 1) := by decide +kernel
theorem d40_0 : decode prog_8_method_4_code 0 = .ok (.aload_n 0, 1) := by decide +kernel
theorem d40_1 : decode prog_8_method_4_code 1 = .ok (.iconst 0, 1) := by decide +kernel
theorem d40_2 : decode prog_8_method_4_code 2 = .ok (.putfield 15, 3) := by decide +kernel
theorem d40_5 : decode prog_8_method_4_code 5 = .ok (.return_, 1) := by decide +kernel
theorem d41_0 : decode prog_9_method_1_code 0 = .ok (.aload_n 0, 1) := by decide +kernel
theorem d41_1 : decode prog_9_method_1_code 1 = .ok (.invokespecial 3, 3) := by decide +kernel
theorem d41_4 : decode prog_9_method_1_code 4 = .ok (.aload_n 0, 1) := by decide +kernel
theorem d41_5 : decode prog_9_method_1_code 5 = .ok (.bipush 12, 2) := by decide +kernel
theorem d41_7 : decode prog_9_method_1_code 7 = .ok (.anewarray 9, 3) := by decide +kernel
theorem d41_10 : decode prog_9_method_1_code 10 = .ok (.putfield 11, 3) := by decide +kernel
theorem d41_13 : decode prog_9_method_1_code 13 = .ok (.aload_n 0, 1) := by decide +kernel
theorem d41_14 : decode prog_9_method_1_code 14 = .ok (.iconst 0, 1) := by decide +kernel
theorem d41_15 : decode prog_9_method_1_code 15 = .ok (.putfield 17, 3) := by decide +kernel
theorem d41_18 : decode prog_9_method_1_code 18 = .ok (.aload_n 0, 1) := by decide +kernel
theorem d41_19 : decode prog_9_method_1_code 19 = .ok (.iconst 0, 1) := by decide +kernel
theorem d41_20 : decode prog_9_method_1_code 20 = .ok (.putfield 21, 3) := by decide +kernel
theorem d41_23 : decode prog_9_method_1_code 23 = .ok (.aload_n 0, 1) := by decide +kernel
theorem d41_24 : decode prog_9_method_1_code 24 = .ok (.iconst 3, 1) := by decide +kernel
theorem d41_25 : decode prog_9_method_1_code 25 = .ok (.anewarray 24, 3) := by decide +kernel
theorem d41_28 : decode prog_9_method_1_code 28 = .ok (.putfield 26, 3) := by decide +kernel
theorem d41_31 : decode prog_9_method_1_code 31 = .ok (.aload_n 0, 1) := by decide +kernel
theorem d41_32 : decode prog_9_method_1_code 32 = .ok (.iconst 4, 1) := by decide +kernel
theorem d41_33 : decode prog_9_method_1_code 33 = .ok (.newarray .int, 2) := by decide +kernel
theorem d41_35 : decode prog_9_method_1_code 35 = .ok (.putfield 30, 3) := by decide +kernel
theorem d41_38 : decode prog_9_method_1_code 38 = .ok (.aload_n 0, 1) := by decide +kernel
theorem d41_39 : decode prog_9_method_1_code 39 = .ok (.bipush 6, 2) := by decide +kernel
theorem d41_41 : decode prog_9_method_1_code 41 = .ok (.newarray .int, 2) := by decide +kernel
theorem d41_43 : decode prog_9_method_1_code 43 = .ok (.putfield 34, 3) := by decide +kernel
theorem d41_46 : decode prog_9_method_1_code 46 = .ok (.aload_n 0, 1) := by decide +kernel
theorem d41_47 : decode prog_9_method_1_code 47 = .ok (.iconst 0, 1) := by decide +kernel
theorem d41_48 : decode prog_9_method_1_code 48 = .ok (.putfield 37, 3) := by decide +kernel
theorem d41_51 : decode prog_9_method_1_code 51 = .ok (.aload_n 0, 1) := by decide +kernel
theorem d41_52 : decode prog_9_method_1_code 52 = .ok (.lconst 0, 1) := by decide +kernel
theorem d41_53 : decode prog_9_method_1_code 53 = .ok (.putfield 40, 3) := by decide +kernel
theorem d41_56 : decode prog_9_method_1_code 56 = .ok (.aload_n 0, 1) := by decide +kernel
theorem d41_57 : decode prog_9_method_1_code 57 = .ok (.lconst 0, 1) := by decide +kernel
theorem d41_58 : decode prog_9_method_1_code 58 = .ok (.putfield 44, 3) := by decide +kernel
theorem d41_61 : decode prog_9_method_1_code 61 = .ok (.iconst 0, 1) := by decide +kernel
theorem d41_62 : decode prog_9_method_1_code 62 = .ok (.istore_n 1, 1) := by decide +kernel
theorem d41_63 : decode prog_9_method_1_code 63 = .ok (.iload_n 1, 1) := by decide +kernel
theorem d41_64 : decode prog_9_method_1_code 64 = .ok (.bipush 12, 2) := by decide +kernel
theorem d41_66 : decode prog_9_method_1_code 66 = .ok (.if_icmp .ge 22, 3) := by decide +kernel
theorem d41_69 : decode prog_9_method_1_code 69 = .ok (.aload_n 0, 1) := by decide +kernel
theorem d41_70 : decode prog_9_method_1_code 70 = .ok (.getfield 11, 3) := by decide +kernel
theorem d41_73 : decode prog_9_method_1_code 73 = .ok (.iload_n 1, 1) := by decide +kernel
theorem d41_74 : decode prog_9_method_1_code 74 = .ok (.new 9, 3) := by decide +kernel
theorem d41_77 : decode prog_9_method_1_code 77 = .ok (.dup, 1) := by decide +kernel
theorem d41_78 : decode prog_9_method_1_code 78 = .ok (.invokespecial 47, 3) := by decide +kernel
theorem d41_81 : decode prog_9_method_1_code 81 = .ok (.aastore, 1) := by decide +kernel
theorem d41_82 : decode prog_9_method_1_code 82 = .ok (.iinc 1 1, 3) := by decide +kernel
theorem d41_85 : decode prog_9_method_1_code 85 = .ok (.goto (-22), 3) := by decide +kernel
theorem d41_88 : decode prog_9_method_1_code 88 = .ok (.iconst 0, 1) := by decide +kernel
theorem d41_89 : decode prog_9_method_1_code 89 = .ok (.istore_n 1, 1) := by decide +kernel
theorem d41_90 : decode prog_9_method_1_code 90 = .ok (.iload_n 1, 1) := by decide +kernel
theorem d41_91 : decode prog_9_method_1_code 91 = .ok (.iconst 3, 1) := by decide +kernel
theorem d41_92 : decode prog_9_method_1_code 92 = .ok (.if_icmp .ge 22, 3) := by decide +kernel
theorem d41_95 : decode prog_9_method_1_code 95 = .ok (.aload_n 0, 1) := by decide +kernel
theorem d41_96 : decode prog_9_method_1_code 96 = .ok (.getfield 26, 3) := by decide +kernel
theorem d41_99 : decode prog_9_method_1_code 99 = .ok (.iload_n 1, 1) := by decide +kernel
theorem d41_100 : decode prog_9_method_1_code 100 = .ok (.new 24, 3) := by decide +kernel
theorem d41_103 : decode prog_9_method_1_code 103 = .ok (.dup, 1) := by decide +kernel
theorem d41_104 : decode prog_9_method_1_code 104 = .ok (.invokespecial 48, 3) := by decide +kernel
theorem d41_107 : decode prog_9_method_1_code 107 = .ok (.aastore, 1) := by decide +kernel
theorem d41_108 : decode prog_9_method_1_code 108 = .ok (.iinc 1 1, 3) := by decide +kernel
theorem d41_111 : decode prog_9_method_1_code 111 = .ok (.goto (-21), 3) := by decide +kernel
theorem d41_114 : decode prog_9_method_1_code 114 = .ok (.iconst 0, 1) := by decide +kernel
theorem d41_115 : decode prog_9_method_1_code 115 = .ok (.istore_n 1, 1) := by decide +kernel
theorem d41_116 : decode prog_9_method_1_code 116 = .ok (.iload_n 1, 1) := by decide +kernel
theorem d41_117 : decode prog_9_method_1_code 117 = .ok (.bipush 6, 2) := by decide +kernel
theorem d41_119 : decode prog_9_method_1_code 119 = .ok (.if_icmp .ge 16, 3) := by decide +kernel
theorem d41_122 : decode prog_9_method_1_code 122 = .ok (.aload_n 0, 1) := by decide +kernel
theorem d41_123 : decode prog_9_method_1_code 123 = .ok (.getfield 34, 3) := by decide +kernel
theorem d41_126 : decode prog_9_method_1_code 126 = .ok (.iload_n 1, 1) := by decide +kernel
theorem d41_127 : decode prog_9_method_1_code 127 = .ok (.iconst (-1), 1) := by decide +kernel
theorem d41_128 : decode prog_9_method_1_code 128 = .ok (.iastore, 1) := by decide +kernel
theorem d41_129 : decode prog_9_method_1_code 129 = .ok (.iinc 1 1, 3) := by decide +kernel
theorem d41_132 : decode prog_9_method_1_code 132 = .ok (.goto (-16), 3) := by decide +kernel
theorem d41_135 : decode prog_9_method_1_code 135 = .ok (.return_, 1) := by decide +kernel
theorem d42_0 : decode prog_9_method_14_code 0 = .ok (.iconst 0, 1) := by decide +kernel
theorem d42_1 : decode prog_9_method_14_code 1 = .ok (.istore_n 2, 1) := by decide +kernel
theorem d42_2 : decode prog_9_method_14_code 2 = .ok (.iload_n 2, 1) := by decide +kernel
theorem d42_3 : decode prog_9_method_14_code 3 = .ok (.aload_n 0, 1) := by decide +kernel
theorem d42_4 : decode prog_9_method_14_code 4 = .ok (.getfield 17, 3) := by decide +kernel
theorem d42_7 : decode prog_9_method_14_code 7 = .ok (.if_icmp .ge 29, 3) := by decide +kernel
theorem d42_10 : decode prog_9_method_14_code 10 = .ok (.aload_n 0, 1) := by decide +kernel
theorem d42_11 : decode prog_9_method_14_code 11 = .ok (.getfield 11, 3) := by decide +kernel
theorem d42_14 : decode prog_9_method_14_code 14 = .ok (.iload_n 2, 1) := by decide +kernel
theorem d42_15 : decode prog_9_method_14_code 15 = .ok (.aaload, 1) := by decide +kernel
theorem d42_16 : decode prog_9_method_14_code 16 = .ok (.getfield 72, 3) := by decide +kernel
theorem d42_19 : decode prog_9_method_14_code 19 = .ok (.iload_n 1, 1) := by decide +kernel
theorem d42_20 : decode prog_9_method_14_code 20 = .ok (.if_icmp .ne 10, 3) := by decide +kernel
theorem d42_23 : decode prog_9_method_14_code 23 = .ok (.aload_n 0, 1) := by decide +kernel
theorem d42_24 : decode prog_9_method_14_code 24 = .ok (.getfield 11, 3) := by decide +kernel
theorem d42_27 : decode prog_9_method_14_code 27 = .ok (.iload_n 2, 1) := by decide +kernel
theorem d42_28 : decode prog_9_method_14_code 28 = .ok (.aaload, 1) := by decide +kernel
theorem d42_29 : decode prog_9_method_14_code 29 = .ok (.areturn, 1) := by decide +kernel
theorem d42_30 : decode prog_9_method_14_code 30 = .ok (.iinc 2 1, 3) := by decide +kernel
theorem d42_33 : decode prog_9_method_14_code 33 = .ok (.goto (-31), 3) := by decide +kernel
theorem d42_36 : decode prog_9_method_14_code 36 = .ok (.aconst_null, 1) := by decide +kernel
theorem d42_37 : decode prog_9_method_14_code 37 = .ok (.areturn, 1) := by decide +kernel
theorem d43_0 : decode prog_9_method_18_code 0 = .ok (.iconst 0, 1) := by decide +kernel
theorem d43_1 : decode prog_9_method_18_code 1 = .ok (.istore_n 2, 1) := by decide +kernel
theorem d43_2 : decode prog_9_method_18_code 2 = .ok (.iconst 0, 1) := by decide +kernel
theorem d43_3 : decode prog_9_method_18_code 3 = .ok (.istore_n 3, 1) := by decide +kernel
theorem d43_4 : decode prog_9_method_18_code 4 = .ok (.iload_n 3, 1) := by decide +kernel
theorem d43_5 : decode prog_9_method_18_code 5 = .ok (.aload_n 0, 1) := by decide +kernel
theorem d43_6 : decode prog_9_method_18_code 6 = .ok (.getfield 17, 3) := by decide +kernel
theorem d43_9 : decode prog_9_method_18_code 9 = .ok (.if_icmp .ge 25, 3) := by decide +kernel
theorem d43_12 : decode prog_9_method_18_code 12 = .ok (.aload_n 0, 1) := by decide +kernel
theorem d43_13 : decode prog_9_method_18_code 13 = .ok (.getfield 11, 3) := by decide +kernel
theorem d43_16 : decode prog_9_method_18_code 16 = .ok (.iload_n 3, 1) := by decide +kernel
theorem d43_17 : decode prog_9_method_18_code 17 = .ok (.aaload, 1) := by decide +kernel
theorem d43_18 : decode prog_9_method_18_code 18 = .ok (.getfield 93, 3) := by decide +kernel
theorem d43_21 : decode prog_9_method_18_code 21 = .ok (.iload_n 1, 1) := by decide +kernel
theorem d43_22 : decode prog_9_method_18_code 22 = .ok (.if_icmp .ne 6, 3) := by decide +kernel
theorem d43_25 : decode prog_9_method_18_code 25 = .ok (.iinc 2 1, 3) := by decide +kernel
theorem d43_28 : decode prog_9_method_18_code 28 = .ok (.iinc 3 1, 3) := by decide +kernel
theorem d43_31 : decode prog_9_method_18_code 31 = .ok (.goto (-27), 3) := by decide +kernel
theorem d43_34 : decode prog_9_method_18_code 34 = .ok (.iload_n 2, 1) := by decide +kernel
theorem d43_35 : decode prog_9_method_18_code 35 = .ok (.ireturn, 1) := by decide +kernel
theorem d44_0 : decode prog_9_method_2_code 0 = .ok (.iconst 0, 1) := by decide +kernel
theorem d44_1 : decode prog_9_method_2_code 1 = .ok (.istore_n 2, 1) := by decide +kernel
theorem d44_2 : decode prog_9_method_2_code 2 = .ok (.iload_n 2, 1) := by decide +kernel
theorem d44_3 : decode prog_9_method_2_code 3 = .ok (.bipush 12, 2) := by decide +kernel
theorem d44_5 : decode prog_9_method_2_code 5 = .ok (.if_icmp .ge 24, 3) := by decide +kernel
theorem d44_8 : decode prog_9_method_2_code 8 = .ok (.aload_n 0, 1) := by decide +kernel
theorem d44_9 : decode prog_9_method_2_code 9 = .ok (.getfield 11, 3) := by decide +kernel
theorem d44_12 : decode prog_9_method_2_code 12 = .ok (.iload_n 2, 1) := by decide +kernel
theorem d44_13 : decode prog_9_method_2_code 13 = .ok (.aaload, 1) := by decide +kernel
theorem d44_14 : decode prog_9_method_2_code 14 = .ok (.aload_n 1, 1) := by decide +kernel
theorem d44_15 : decode prog_9_method_2_code 15 = .ok (.getfield 11, 3) := by decide +kernel
theorem d44_18 : decode prog_9_method_2_code 18 = .ok (.iload_n 2, 1) := by decide +kernel
theorem d44_19 : decode prog_9_method_2_code 19 = .ok (.aaload, 1) := by decide +kernel
theorem d44_20 : decode prog_9_method_2_code 20 = .ok (.invokevirtual 49, 3) := by decide +kernel
theorem d44_23 : decode prog_9_method_2_code 23 = .ok (.iinc 2 1, 3) := by decide +kernel
theorem d44_26 : decode prog_9_method_2_code 26 = .ok (.goto (-24), 3) := by decide +kernel
theorem d44_29 : decode prog_9_method_2_code 29 = .ok (.aload_n 0, 1) := by decide +kernel
theorem d44_30 : decode prog_9_method_2_code 30 = .ok (.aload_n 1, 1) := by decide +kernel
theorem d44_31 : decode prog_9_method_2_code 31 = .ok (.getfield 17, 3) := by decide +kernel
theorem d44_34 : decode prog_9_method_2_code 34 = .ok (.putfield 17, 3) := by decide +kernel
theorem d44_37 : decode prog_9_method_2_code 37 = .ok (.aload_n 0, 1) := by decide +kernel
theorem d44_38 : decode prog_9_method_2_code 38 = .ok (.aload_n 1, 1) := by decide +kernel
theorem d44_39 : decode prog_9_method_2_code 39 = .ok (.getfield 21, 3) := by decide +kernel
theorem d44_42 : decode prog_9_method_2_code 42 = .ok (.putfield 21, 3) := by decide +kernel
theorem d44_45 : decode prog_9_method_2_code 45 = .ok (.iconst 0, 1) := by decide +kernel
theorem d44_46 : decode prog_9_method_2_code 46 = .ok (.istore_n 2, 1) := by decide +kernel
theorem d44_47 : decode prog_9_method_2_code 47 = .ok (.iload_n 2, 1) := by decide +kernel
theorem d44_48 : decode prog_9_method_2_code 48 = .ok (.iconst 3, 1) := by decide +kernel
theorem d44_49 : decode prog_9_method_2_code 49 = .ok (.if_icmp .ge 24, 3) := by decide +kernel
theorem d44_52 : decode prog_9_method_2_code 52 = .ok (.aload_n 0, 1) := by decide +kernel
theorem d44_53 : decode prog_9_method_2_code 53 = .ok (.getfield 26, 3) := by decide +kernel
theorem d44_56 : decode prog_9_method_2_code 56 = .ok (.iload_n 2, 1) := by decide +kernel
theorem d44_57 : decode prog_9_method_2_code 57 = .ok (.aaload, 1) := by decide +kernel
theorem d44_58 : decode prog_9_method_2_code 58 = .ok (.aload_n 1, 1) := by decide +kernel
theorem d44_59 : decode prog_9_method_2_code 59 = .ok (.getfield 26, 3) := by decide +kernel
theorem d44_62 : decode prog_9_method_2_code 62 = .ok (.iload_n 2, 1) := by decide +kernel
theorem d44_63 : decode prog_9_method_2_code 63 = .ok (.aaload, 1) := by decide +kernel
theorem d44_64 : decode prog_9_method_2_code 64 = .ok (.invokevirtual 53, 3) := by decide +kernel
theorem d44_67 : decode prog_9_method_2_code 67 = .ok (.iinc 2 1, 3) := by decide +kernel
theorem d44_70 : decode prog_9_method_2_code 70 = .ok (.goto (-23), 3) := by decide +kernel
theorem d44_73 : decode prog_9_method_2_code 73 = .ok (.aload_n 1, 1) := by decide +kernel
theorem d44_74 : decode prog_9_method_2_code 74 = .ok (.getfield 30, 3) := by decide +kernel
theorem d44_77 : decode prog_9_method_2_code 77 = .ok (.iconst 0, 1) := by decide +kernel
theorem d44_78 : decode prog_9_method_2_code 78 = .ok (.aload_n 0, 1) := by decide +kernel
theorem d44_79 : decode prog_9_method_2_code 79 = .ok (.getfield 30, 3) := by decide +kernel
theorem d44_82 : decode prog_9_method_2_code 82 = .ok (.iconst 0, 1) := by decide +kernel
theorem d44_83 : decode prog_9_method_2_code 83 = .ok (.iconst 4, 1) := by decide +kernel
theorem d44_84 : decode prog_9_method_2_code 84 = .ok (.invokestatic 56, 3) := by decide +kernel
theorem d44_87 : decode prog_9_method_2_code 87 = .ok (.aload_n 1, 1) := by decide +kernel
theorem d44_88 : decode prog_9_method_2_code 88 = .ok (.getfield 34, 3) := by decide +kernel
theorem d44_91 : decode prog_9_method_2_code 91 = .ok (.iconst 0, 1) := by decide +kernel
theorem d44_92 : decode prog_9_method_2_code 92 = .ok (.aload_n 0, 1) := by decide +kernel
theorem d44_93 : decode prog_9_method_2_code 93 = .ok (.getfield 34, 3) := by decide +kernel
theorem d44_96 : decode prog_9_method_2_code 96 = .ok (.iconst 0, 1) := by decide +kernel
theorem d44_97 : decode prog_9_method_2_code 97 = .ok (.bipush 6, 2) := by decide +kernel
theorem d44_99 : decode prog_9_method_2_code 99 = .ok (.invokestatic 56, 3) := by decide +kernel
theorem d44_102 : decode prog_9_method_2_code 102 = .ok (.aload_n 0, 1) := by decide +kernel
theorem d44_103 : decode prog_9_method_2_code 103 = .ok (.aload_n 1, 1) := by decide +kernel
theorem d44_104 : decode prog_9_method_2_code 104 = .ok (.getfield 37, 3) := by decide +kernel
theorem d44_107 : decode prog_9_method_2_code 107 = .ok (.putfield 37, 3) := by decide +kernel
theorem d44_110 : decode prog_9_method_2_code 110 = .ok (.aload_n 0, 1) := by decide +kernel
theorem d44_111 : decode prog_9_method_2_code 111 = .ok (.aload_n 1, 1) := by decide +kernel
theorem d44_112 : decode prog_9_method_2_code 112 = .ok (.getfield 40, 3) := by decide +kernel
theorem d44_115 : decode prog_9_method_2_code 115 = .ok (.putfield 40, 3) := by decide +kernel
theorem d44_118 : decode prog_9_method_2_code 118 = .ok (.aload_n 0, 1) := by decide +kernel
theorem d44_119 : decode prog_9_method_2_code 119 = .ok (.aload_n 1, 1) := by decide +kernel
theorem d44_120 : decode prog_9_method_2_code 120 = .ok (.getfield 44, 3) := by decide +kernel
theorem d44_123 : decode prog_9_method_2_code 123 = .ok (.putfield 44, 3) := by decide +kernel
theorem d44_126 : decode prog_9_method_2_code 126 = .ok (.return_, 1) := by decide +kernel
theorem d45_0 : decode prog_9_method_3_code 0 = .ok (.iload_n 1, 1) := by decide +kernel
theorem d45_1 : decode prog_9_method_3_code 1 = .ok (.invokestatic 62, 3) := by decide +kernel
theorem d45_4 : decode prog_9_method_3_code 4 = .ok (.ifCond .eq 51, 3) := by decide +kernel
theorem d45_7 : decode prog_9_method_3_code 7 = .ok (.iload_n 2, 1) := by decide +kernel
theorem d45_8 : decode prog_9_method_3_code 8 = .ok (.invokestatic 62, 3) := by decide +kernel
theorem d45_11 : decode prog_9_method_3_code 11 = .ok (.ifCond .eq 44, 3) := by decide +kernel
theorem d45_14 : decode prog_9_method_3_code 14 = .ok (.iload_n 3, 1) := by decide +kernel
theorem d45_15 : decode prog_9_method_3_code 15 = .ok (.invokestatic 66, 3) := by decide +kernel
theorem d45_18 : decode prog_9_method_3_code 18 = .ok (.ifCond .eq 37, 3) := by decide +kernel
theorem d45_21 : decode prog_9_method_3_code 21 = .ok (.iload 4, 2) := by decide +kernel
theorem d45_23 : decode prog_9_method_3_code 23 = .ok (.invokestatic 69, 3) := by decide +kernel
theorem d45_26 : decode prog_9_method_3_code 26 = .ok (.ifCond .eq 29, 3) := by decide +kernel
theorem d45_29 : decode prog_9_method_3_code 29 = .ok (.iload 5, 2) := by decide +kernel
theorem d45_31 : decode prog_9_method_3_code 31 = .ok (.iconst 1, 1) := by decide +kernel
theorem d45_32 : decode prog_9_method_3_code 32 = .ok (.if_icmp .lt 23, 3) := by decide +kernel
theorem d45_35 : decode prog_9_method_3_code 35 = .ok (.iload 5, 2) := by decide +kernel
theorem d45_37 : decode prog_9_method_3_code 37 = .ok (.iconst 4, 1) := by decide +kernel
theorem d45_38 : decode prog_9_method_3_code 38 = .ok (.if_icmp .gt 17, 3) := by decide +kernel
theorem d45_41 : decode prog_9_method_3_code 41 = .ok (.iload 6, 2) := by decide +kernel
theorem d45_43 : decode prog_9_method_3_code 43 = .ok (.iconst 1, 1) := by decide +kernel
theorem d45_44 : decode prog_9_method_3_code 44 = .ok (.if_icmp .lt 11, 3) := by decide +kernel
theorem d45_47 : decode prog_9_method_3_code 47 = .ok (.iload 6, 2) := by decide +kernel
theorem d45_49 : decode prog_9_method_3_code 49 = .ok (.sipush 199, 3) := by decide +kernel
theorem d45_52 : decode prog_9_method_3_code 52 = .ok (.if_icmp .le 5, 3) := by decide +kernel
theorem d45_55 : decode prog_9_method_3_code 55 = .ok (.iconst (-1), 1) := by decide +kernel
theorem d45_56 : decode prog_9_method_3_code 56 = .ok (.ireturn, 1) := by decide +kernel
theorem d45_57 : decode prog_9_method_3_code 57 = .ok (.aload_n 0, 1) := by decide +kernel
theorem d45_58 : decode prog_9_method_3_code 58 = .ok (.getfield 17, 3) := by decide +kernel
theorem d45_61 : decode prog_9_method_3_code 61 = .ok (.bipush 12, 2) := by decide +kernel
theorem d45_63 : decode prog_9_method_3_code 63 = .ok (.if_icmp .lt 6, 3) := by decide +kernel
theorem d45_66 : decode prog_9_method_3_code 66 = .ok (.bipush (-2), 2) := by decide +kernel
theorem d45_68 : decode prog_9_method_3_code 68 = .ok (.ireturn, 1) := by decide +kernel
theorem d45_69 : decode prog_9_method_3_code 69 = .ok (.aload_n 0, 1) := by decide +kernel
theorem d45_70 : decode prog_9_method_3_code 70 = .ok (.getfield 11, 3) := by decide +kernel
theorem d45_73 : decode prog_9_method_3_code 73 = .ok (.aload_n 0, 1) := by decide +kernel
theorem d45_74 : decode prog_9_method_3_code 74 = .ok (.getfield 17, 3) := by decide +kernel
theorem d45_77 : decode prog_9_method_3_code 77 = .ok (.aaload, 1) := by decide +kernel
theorem d45_78 : decode prog_9_method_3_code 78 = .ok (.astore 7, 2) := by decide +kernel
theorem d45_80 : decode prog_9_method_3_code 80 = .ok (.aload 7, 2) := by decide +kernel
theorem d45_82 : decode prog_9_method_3_code 82 = .ok (.aload_n 0, 1) := by decide +kernel
theorem d45_83 : decode prog_9_method_3_code 83 = .ok (.getfield 21, 3) := by decide +kernel
theorem d45_86 : decode prog_9_method_3_code 86 = .ok (.putfield 72, 3) := by decide +kernel
theorem d45_89 : decode prog_9_method_3_code 89 = .ok (.aload 7, 2) := by decide +kernel
theorem d45_91 : decode prog_9_method_3_code 91 = .ok (.iload_n 1, 1) := by decide +kernel
theorem d45_92 : decode prog_9_method_3_code 92 = .ok (.putfield 75, 3) := by decide +kernel
theorem d45_95 : decode prog_9_method_3_code 95 = .ok (.aload 7, 2) := by decide +kernel
theorem d45_97 : decode prog_9_method_3_code 97 = .ok (.iload_n 2, 1) := by decide +kernel
theorem d45_98 : decode prog_9_method_3_code 98 = .ok (.putfield 78, 3) := by decide +kernel
theorem d45_101 : decode prog_9_method_3_code 101 = .ok (.aload 7, 2) := by decide +kernel
theorem d45_103 : decode prog_9_method_3_code 103 = .ok (.iload_n 3, 1) := by decide +kernel
theorem d45_104 : decode prog_9_method_3_code 104 = .ok (.putfield 81, 3) := by decide +kernel
theorem d45_107 : decode prog_9_method_3_code 107 = .ok (.aload 7, 2) := by decide +kernel
theorem d45_109 : decode prog_9_method_3_code 109 = .ok (.iload 4, 2) := by decide +kernel
theorem d45_111 : decode prog_9_method_3_code 111 = .ok (.putfield 84, 3) := by decide +kernel
theorem d45_114 : decode prog_9_method_3_code 114 = .ok (.aload 7, 2) := by decide +kernel
theorem d45_116 : decode prog_9_method_3_code 116 = .ok (.iload 5, 2) := by decide +kernel
theorem d45_118 : decode prog_9_method_3_code 118 = .ok (.putfield 87, 3) := by decide +kernel
theorem d45_121 : decode prog_9_method_3_code 121 = .ok (.aload 7, 2) := by decide +kernel
theorem d45_123 : decode prog_9_method_3_code 123 = .ok (.iload 6, 2) := by decide +kernel
theorem d45_125 : decode prog_9_method_3_code 125 = .ok (.putfield 90, 3) := by decide +kernel
theorem d45_128 : decode prog_9_method_3_code 128 = .ok (.aload 7, 2) := by decide +kernel
theorem d45_130 : decode prog_9_method_3_code 130 = .ok (.iconst (-1), 1) := by decide +kernel
theorem d45_131 : decode prog_9_method_3_code 131 = .ok (.putfield 93, 3) := by decide +kernel
theorem d45_134 : decode prog_9_method_3_code 134 = .ok (.aload_n 0, 1) := by decide +kernel
theorem d45_135 : decode prog_9_method_3_code 135 = .ok (.dup, 1) := by decide +kernel
theorem d45_136 : decode prog_9_method_3_code 136 = .ok (.getfield 17, 3) := by decide +kernel
theorem d45_139 : decode prog_9_method_3_code 139 = .ok (.iconst 1, 1) := by decide +kernel
theorem d45_140 : decode prog_9_method_3_code 140 = .ok (.iadd, 1) := by decide +kernel
theorem d45_141 : decode prog_9_method_3_code 141 = .ok (.putfield 17, 3) := by decide +kernel
theorem d45_144 : decode prog_9_method_3_code 144 = .ok (.aload_n 0, 1) := by decide +kernel
theorem d45_145 : decode prog_9_method_3_code 145 = .ok (.dup, 1) := by decide +kernel
theorem d45_146 : decode prog_9_method_3_code 146 = .ok (.getfield 21, 3) := by decide +kernel
theorem d45_149 : decode prog_9_method_3_code 149 = .ok (.iconst 1, 1) := by decide +kernel
theorem d45_150 : decode prog_9_method_3_code 150 = .ok (.iadd, 1) := by decide +kernel
theorem d45_151 : decode prog_9_method_3_code 151 = .ok (.putfield 21, 3) := by decide +kernel
theorem d45_154 : decode prog_9_method_3_code 154 = .ok (.aload 7, 2) := by decide +kernel
theorem d45_156 : decode prog_9_method_3_code 156 = .ok (.getfield 72, 3) := by decide +kernel
theorem d45_159 : decode prog_9_method_3_code 159 = .ok (.ireturn, 1) := by decide +kernel
theorem d46_0 : decode prog_9_method_4_code 0 = .ok (.aload_n 0, 1) := by decide +kernel
theorem d46_1 : decode prog_9_method_4_code 1 = .ok (.iload_n 1, 1) := by decide +kernel
theorem d46_2 : decode prog_9_method_4_code 2 = .ok (.invokevirtual 96, 3) := by decide +kernel
theorem d46_5 : decode prog_9_method_4_code 5 = .ok (.astore_n 2, 1) := by decide +kernel
theorem d46_6 : decode prog_9_method_4_code 6 = .ok (.aload_n 2, 1) := by decide +kernel
theorem d46_7 : decode prog_9_method_4_code 7 = .ok (.ifnonnull 6, 3) := by decide +kernel
theorem d46_10 : decode prog_9_method_4_code 10 = .ok (.bipush (-4), 2) := by decide +kernel
theorem d46_12 : decode prog_9_method_4_code 12 = .ok (.ireturn, 1) := by decide +kernel
theorem d46_13 : decode prog_9_method_4_code 13 = .ok (.aload_n 0, 1) := by decide +kernel
theorem d46_14 : decode prog_9_method_4_code 14 = .ok (.aload_n 2, 1) := by decide +kernel
theorem d46_15 : decode prog_9_method_4_code 15 = .ok (.invokevirtual 100, 3) := by decide +kernel
theorem d46_18 : decode prog_9_method_4_code 18 = .ok (.aload_n 0, 1) := by decide +kernel
theorem d46_19 : decode prog_9_method_4_code 19 = .ok (.getfield 17, 3) := by decide +kernel
theorem d46_22 : decode prog_9_method_4_code 22 = .ok (.ireturn, 1) := by decide +kernel
theorem d47_0 : decode prog_9_method_15_code 0 = .ok (.iconst 0, 1) := by decide +kernel
theorem d47_1 : decode prog_9_method_15_code 1 = .ok (.istore_n 2, 1) := by decide +kernel
theorem d47_2 : decode prog_9_method_15_code 2 = .ok (.iconst 0, 1) := by decide +kernel
theorem d47_3 : decode prog_9_method_15_code 3 = .ok (.istore_n 3, 1) := by decide +kernel
theorem d47_4 : decode prog_9_method_15_code 4 = .ok (.iload_n 3, 1) := by decide +kernel
theorem d47_5 : decode prog_9_method_15_code 5 = .ok (.aload_n 0, 1) := by decide +kernel
theorem d47_6 : decode prog_9_method_15_code 6 = .ok (.getfield 17, 3) := by decide +kernel
theorem d47_9 : decode prog_9_method_15_code 9 = .ok (.if_icmp .ge 34, 3) := by decide +kernel
theorem d47_12 : decode prog_9_method_15_code 12 = .ok (.aload_n 0, 1) := by decide +kernel
theorem d47_13 : decode prog_9_method_15_code 13 = .ok (.getfield 11, 3) := by decide +kernel
theorem d47_16 : decode prog_9_method_15_code 16 = .ok (.iload_n 3, 1) := by decide +kernel
theorem d47_17 : decode prog_9_method_15_code 17 = .ok (.aaload, 1) := by decide +kernel
theorem d47_18 : decode prog_9_method_15_code 18 = .ok (.aload_n 1, 1) := by decide +kernel
theorem d47_19 : decode prog_9_method_15_code 19 = .ok (.if_acmp .eq 18, 3) := by decide +kernel
theorem d47_22 : decode prog_9_method_15_code 22 = .ok (.aload_n 0, 1) := by decide +kernel
theorem d47_23 : decode prog_9_method_15_code 23 = .ok (.getfield 11, 3) := by decide +kernel
theorem d47_26 : decode prog_9_method_15_code 26 = .ok (.iload_n 2, 1) := by decide +kernel
theorem d47_27 : decode prog_9_method_15_code 27 = .ok (.aload_n 0, 1) := by decide +kernel
theorem d47_28 : decode prog_9_method_15_code 28 = .ok (.getfield 11, 3) := by decide +kernel
theorem d47_31 : decode prog_9_method_15_code 31 = .ok (.iload_n 3, 1) := by decide +kernel
theorem d47_32 : decode prog_9_method_15_code 32 = .ok (.aaload, 1) := by decide +kernel
theorem d47_33 : decode prog_9_method_15_code 33 = .ok (.aastore, 1) := by decide +kernel
theorem d47_34 : decode prog_9_method_15_code 34 = .ok (.iinc 2 1, 3) := by decide +kernel
theorem d47_37 : decode prog_9_method_15_code 37 = .ok (.iinc 3 1, 3) := by decide +kernel
theorem d47_40 : decode prog_9_method_15_code 40 = .ok (.goto (-36), 3) := by decide +kernel
theorem d47_43 : decode prog_9_method_15_code 43 = .ok (.iload_n 2, 1) := by decide +kernel
theorem d47_44 : decode prog_9_method_15_code 44 = .ok (.aload_n 0, 1) := by decide +kernel
theorem d47_45 : decode prog_9_method_15_code 45 = .ok (.getfield 17, 3) := by decide +kernel
theorem d47_48 : decode prog_9_method_15_code 48 = .ok (.if_icmp .ge 15, 3) := by decide +kernel
theorem d47_51 : decode prog_9_method_15_code 51 = .ok (.aload_n 0, 1) := by decide +kernel
theorem d47_52 : decode prog_9_method_15_code 52 = .ok (.getfield 11, 3) := by decide +kernel
theorem d47_55 : decode prog_9_method_15_code 55 = .ok (.iload_n 2, 1) := by decide +kernel
theorem d47_56 : decode prog_9_method_15_code 56 = .ok (.aload_n 1, 1) := by decide +kernel
theorem d47_57 : decode prog_9_method_15_code 57 = .ok (.aastore, 1) := by decide +kernel
theorem d47_58 : decode prog_9_method_15_code 58 = .ok (.aload_n 0, 1) := by decide +kernel
theorem d47_59 : decode prog_9_method_15_code 59 = .ok (.iload_n 2, 1) := by decide +kernel
theorem d47_60 : decode prog_9_method_15_code 60 = .ok (.putfield 17, 3) := by decide +kernel
theorem d47_63 : decode prog_9_method_15_code 63 = .ok (.return_, 1) := by decide +kernel
theorem d48_0 : decode prog_9_method_5_code 0 = .ok (.aload_n 0, 1) := by decide +kernel
theorem d48_1 : decode prog_9_method_5_code 1 = .ok (.iload_n 1, 1) := by decide +kernel
theorem d48_2 : decode prog_9_method_5_code 2 = .ok (.invokevirtual 96, 3) := by decide +kernel
theorem d48_5 : decode prog_9_method_5_code 5 = .ok (.astore_n 3, 1) := by decide +kernel
theorem d48_6 : decode prog_9_method_5_code 6 = .ok (.aload_n 3, 1) := by decide +kernel
theorem d48_7 : decode prog_9_method_5_code 7 = .ok (.ifnonnull 6, 3) := by decide +kernel
theorem d48_10 : decode prog_9_method_5_code 10 = .ok (.bipush (-4), 2) := by decide +kernel
theorem d48_12 : decode prog_9_method_5_code 12 = .ok (.ireturn, 1) := by decide +kernel
theorem d48_13 : decode prog_9_method_5_code 13 = .ok (.iload_n 2, 1) := by decide +kernel
theorem d48_14 : decode prog_9_method_5_code 14 = .ok (.invokestatic 103, 3) := by decide +kernel
theorem d48_17 : decode prog_9_method_5_code 17 = .ok (.ifCond .ne 6, 3) := by decide +kernel
theorem d48_20 : decode prog_9_method_5_code 20 = .ok (.bipush (-3), 2) := by decide +kernel
theorem d48_22 : decode prog_9_method_5_code 22 = .ok (.ireturn, 1) := by decide +kernel
theorem d48_23 : decode prog_9_method_5_code 23 = .ok (.aload_n 3, 1) := by decide +kernel
theorem d48_24 : decode prog_9_method_5_code 24 = .ok (.getfield 93, 3) := by decide +kernel
theorem d48_27 : decode prog_9_method_5_code 27 = .ok (.iload_n 2, 1) := by decide +kernel
theorem d48_28 : decode prog_9_method_5_code 28 = .ok (.if_icmp .eq 13, 3) := by decide +kernel
theorem d48_31 : decode prog_9_method_5_code 31 = .ok (.aload_n 0, 1) := by decide +kernel
theorem d48_32 : decode prog_9_method_5_code 32 = .ok (.iload_n 2, 1) := by decide +kernel
theorem d48_33 : decode prog_9_method_5_code 33 = .ok (.invokevirtual 106, 3) := by decide +kernel
theorem d48_36 : decode prog_9_method_5_code 36 = .ok (.bipush 6, 2) := by decide +kernel
theorem d48_38 : decode prog_9_method_5_code 38 = .ok (.if_icmp .lt 6, 3) := by decide +kernel
theorem d48_41 : decode prog_9_method_5_code 41 = .ok (.bipush (-2), 2) := by decide +kernel
theorem d48_43 : decode prog_9_method_5_code 43 = .ok (.ireturn, 1) := by decide +kernel
theorem d48_44 : decode prog_9_method_5_code 44 = .ok (.aload_n 3, 1) := by decide +kernel
theorem d48_45 : decode prog_9_method_5_code 45 = .ok (.iload_n 2, 1) := by decide +kernel
theorem d48_46 : decode prog_9_method_5_code 46 = .ok (.putfield 93, 3) := by decide +kernel
theorem d48_49 : decode prog_9_method_5_code 49 = .ok (.aload_n 0, 1) := by decide +kernel
theorem d48_50 : decode prog_9_method_5_code 50 = .ok (.iload_n 2, 1) := by decide +kernel
theorem d48_51 : decode prog_9_method_5_code 51 = .ok (.invokevirtual 106, 3) := by decide +kernel
theorem d48_54 : decode prog_9_method_5_code 54 = .ok (.ireturn, 1) := by decide +kernel
theorem d49_0 : decode prog_9_method_6_code 0 = .ok (.aload_n 0, 1) := by decide +kernel
theorem d49_1 : decode prog_9_method_6_code 1 = .ok (.iload_n 1, 1) := by decide +kernel
theorem d49_2 : decode prog_9_method_6_code 2 = .ok (.invokevirtual 96, 3) := by decide +kernel
theorem d49_5 : decode prog_9_method_6_code 5 = .ok (.astore_n 2, 1) := by decide +kernel
theorem d49_6 : decode prog_9_method_6_code 6 = .ok (.aload_n 2, 1) := by decide +kernel
theorem d49_7 : decode prog_9_method_6_code 7 = .ok (.ifnonnull 6, 3) := by decide +kernel
theorem d49_10 : decode prog_9_method_6_code 10 = .ok (.bipush (-4), 2) := by decide +kernel
theorem d49_12 : decode prog_9_method_6_code 12 = .ok (.ireturn, 1) := by decide +kernel
theorem d49_13 : decode prog_9_method_6_code 13 = .ok (.aload_n 2, 1) := by decide +kernel
theorem d49_14 : decode prog_9_method_6_code 14 = .ok (.getfield 93, 3) := by decide +kernel
theorem d49_17 : decode prog_9_method_6_code 17 = .ok (.iconst (-1), 1) := by decide +kernel
theorem d49_18 : decode prog_9_method_6_code 18 = .ok (.if_icmp .ne 6, 3) := by decide +kernel
theorem d49_21 : decode prog_9_method_6_code 21 = .ok (.bipush (-2), 2) := by decide +kernel
theorem d49_23 : decode prog_9_method_6_code 23 = .ok (.ireturn, 1) := by decide +kernel
theorem d49_24 : decode prog_9_method_6_code 24 = .ok (.aload_n 2, 1) := by decide +kernel
theorem d49_25 : decode prog_9_method_6_code 25 = .ok (.getfield 93, 3) := by decide +kernel
theorem d49_28 : decode prog_9_method_6_code 28 = .ok (.istore_n 3, 1) := by decide +kernel
theorem d49_29 : decode prog_9_method_6_code 29 = .ok (.aload_n 2, 1) := by decide +kernel
theorem d49_30 : decode prog_9_method_6_code 30 = .ok (.iconst (-1), 1) := by decide +kernel
theorem d49_31 : decode prog_9_method_6_code 31 = .ok (.putfield 93, 3) := by decide +kernel
theorem d49_34 : decode prog_9_method_6_code 34 = .ok (.iload_n 3, 1) := by decide +kernel
theorem d49_35 : decode prog_9_method_6_code 35 = .ok (.ireturn, 1) := by decide +kernel
theorem d50_0 : decode prog_9_method_7_code 0 = .ok (.iload_n 1, 1) := by decide +kernel
theorem d50_1 : decode prog_9_method_7_code 1 = .ok (.invokestatic 66, 3) := by decide +kernel
theorem d50_4 : decode prog_9_method_7_code 4 = .ok (.ifCond .eq 14, 3) := by decide +kernel
theorem d50_7 : decode prog_9_method_7_code 7 = .ok (.iload_n 2, 1) := by decide +kernel
theorem d50_8 : decode prog_9_method_7_code 8 = .ok (.iconst 1, 1) := by decide +kernel
theorem d50_9 : decode prog_9_method_7_code 9 = .ok (.if_icmp .lt 9, 3) := by decide +kernel
theorem d50_12 : decode prog_9_method_7_code 12 = .ok (.iload_n 2, 1) := by decide +kernel
theorem d50_13 : decode prog_9_method_7_code 13 = .ok (.bipush 99, 2) := by decide +kernel
theorem d50_15 : decode prog_9_method_7_code 15 = .ok (.if_icmp .le 5, 3) := by decide +kernel
theorem d50_18 : decode prog_9_method_7_code 18 = .ok (.iconst (-1), 1) := by decide +kernel
theorem d50_19 : decode prog_9_method_7_code 19 = .ok (.ireturn, 1) := by decide +kernel
theorem d50_20 : decode prog_9_method_7_code 20 = .ok (.aload_n 0, 1) := by decide +kernel
theorem d50_21 : decode prog_9_method_7_code 21 = .ok (.getfield 30, 3) := by decide +kernel
theorem d50_24 : decode prog_9_method_7_code 24 = .ok (.iload_n 1, 1) := by decide +kernel
theorem d50_25 : decode prog_9_method_7_code 25 = .ok (.iaload, 1) := by decide +kernel
theorem d50_26 : decode prog_9_method_7_code 26 = .ok (.iload_n 2, 1) := by decide +kernel
theorem d50_27 : decode prog_9_method_7_code 27 = .ok (.iadd, 1) := by decide +kernel
theorem d50_28 : decode prog_9_method_7_code 28 = .ok (.bipush 99, 2) := by decide +kernel
theorem d50_30 : decode prog_9_method_7_code 30 = .ok (.if_icmp .le 6, 3) := by decide +kernel
theorem d50_33 : decode prog_9_method_7_code 33 = .ok (.bipush (-2), 2) := by decide +kernel
theorem d50_35 : decode prog_9_method_7_code 35 = .ok (.ireturn, 1) := by decide +kernel
theorem d50_36 : decode prog_9_method_7_code 36 = .ok (.aload_n 0, 1) := by decide +kernel
theorem d50_37 : decode prog_9_method_7_code 37 = .ok (.getfield 30, 3) := by decide +kernel
theorem d50_40 : decode prog_9_method_7_code 40 = .ok (.iload_n 1, 1) := by decide +kernel
theorem d50_41 : decode prog_9_method_7_code 41 = .ok (.dup2, 1) := by decide +kernel
theorem d50_42 : decode prog_9_method_7_code 42 = .ok (.iaload, 1) := by decide +kernel
theorem d50_43 : decode prog_9_method_7_code 43 = .ok (.iload_n 2, 1) := by decide +kernel
theorem d50_44 : decode prog_9_method_7_code 44 = .ok (.iadd, 1) := by decide +kernel
theorem d50_45 : decode prog_9_method_7_code 45 = .ok (.iastore, 1) := by decide +kernel
theorem d50_46 : decode prog_9_method_7_code 46 = .ok (.aload_n 0, 1) := by decide +kernel
theorem d50_47 : decode prog_9_method_7_code 47 = .ok (.getfield 30, 3) := by decide +kernel
theorem d50_50 : decode prog_9_method_7_code 50 = .ok (.iload_n 1, 1) := by decide +kernel
theorem d50_51 : decode prog_9_method_7_code 51 = .ok (.iaload, 1) := by decide +kernel
theorem d50_52 : decode prog_9_method_7_code 52 = .ok (.ireturn, 1) := by decide +kernel
theorem d51_0 : decode prog_9_method_8_code 0 = .ok (.iload_n 1, 1) := by decide +kernel
theorem d51_1 : decode prog_9_method_8_code 1 = .ok (.invokestatic 103, 3) := by decide +kernel
theorem d51_4 : decode prog_9_method_8_code 4 = .ok (.ifCond .ne 6, 3) := by decide +kernel
theorem d51_7 : decode prog_9_method_8_code 7 = .ok (.bipush (-3), 2) := by decide +kernel
theorem d51_9 : decode prog_9_method_8_code 9 = .ok (.ireturn, 1) := by decide +kernel
theorem d51_10 : decode prog_9_method_8_code 10 = .ok (.iload_n 2, 1) := by decide +kernel
theorem d51_11 : decode prog_9_method_8_code 11 = .ok (.invokestatic 66, 3) := by decide +kernel
theorem d51_14 : decode prog_9_method_8_code 14 = .ok (.ifCond .eq 14, 3) := by decide +kernel
theorem d51_17 : decode prog_9_method_8_code 17 = .ok (.iload_n 3, 1) := by decide +kernel
theorem d51_18 : decode prog_9_method_8_code 18 = .ok (.iconst 1, 1) := by decide +kernel
theorem d51_19 : decode prog_9_method_8_code 19 = .ok (.if_icmp .lt 9, 3) := by decide +kernel
theorem d51_22 : decode prog_9_method_8_code 22 = .ok (.iload_n 3, 1) := by decide +kernel
theorem d51_23 : decode prog_9_method_8_code 23 = .ok (.bipush 10, 2) := by decide +kernel
theorem d51_25 : decode prog_9_method_8_code 25 = .ok (.if_icmp .le 5, 3) := by decide +kernel
theorem d51_28 : decode prog_9_method_8_code 28 = .ok (.iconst (-1), 1) := by decide +kernel
theorem d51_29 : decode prog_9_method_8_code 29 = .ok (.ireturn, 1) := by decide +kernel
theorem d51_30 : decode prog_9_method_8_code 30 = .ok (.aload_n 0, 1) := by decide +kernel
theorem d51_31 : decode prog_9_method_8_code 31 = .ok (.getfield 26, 3) := by decide +kernel
theorem d51_34 : decode prog_9_method_8_code 34 = .ok (.iload_n 1, 1) := by decide +kernel
theorem d51_35 : decode prog_9_method_8_code 35 = .ok (.aaload, 1) := by decide +kernel
theorem d51_36 : decode prog_9_method_8_code 36 = .ok (.astore 4, 2) := by decide +kernel
theorem d51_38 : decode prog_9_method_8_code 38 = .ok (.aload 4, 2) := by decide +kernel
theorem d51_40 : decode prog_9_method_8_code 40 = .ok (.invokevirtual 110, 3) := by decide +kernel
theorem d51_43 : decode prog_9_method_8_code 43 = .ok (.ifCond .eq 15, 3) := by decide +kernel
theorem d51_46 : decode prog_9_method_8_code 46 = .ok (.aload 4, 2) := by decide +kernel
theorem d51_48 : decode prog_9_method_8_code 48 = .ok (.invokevirtual 114, 3) := by decide +kernel
theorem d51_51 : decode prog_9_method_8_code 51 = .ok (.iload_n 3, 1) := by decide +kernel
theorem d51_52 : decode prog_9_method_8_code 52 = .ok (.iadd, 1) := by decide +kernel
theorem d51_53 : decode prog_9_method_8_code 53 = .ok (.bipush 10, 2) := by decide +kernel
theorem d51_55 : decode prog_9_method_8_code 55 = .ok (.if_icmp .le 6, 3) := by decide +kernel
theorem d51_58 : decode prog_9_method_8_code 58 = .ok (.bipush (-2), 2) := by decide +kernel
theorem d51_60 : decode prog_9_method_8_code 60 = .ok (.ireturn, 1) := by decide +kernel
theorem d51_61 : decode prog_9_method_8_code 61 = .ok (.aload_n 0, 1) := by decide +kernel
theorem d51_62 : decode prog_9_method_8_code 62 = .ok (.getfield 30, 3) := by decide +kernel
theorem d51_65 : decode prog_9_method_8_code 65 = .ok (.iload_n 2, 1) := by decide +kernel
theorem d51_66 : decode prog_9_method_8_code 66 = .ok (.iaload, 1) := by decide +kernel
theorem d51_67 : decode prog_9_method_8_code 67 = .ok (.iload_n 3, 1) := by decide +kernel
theorem d51_68 : decode prog_9_method_8_code 68 = .ok (.if_icmp .ge 6, 3) := by decide +kernel
theorem d51_71 : decode prog_9_method_8_code 71 = .ok (.bipush (-5), 2) := by decide +kernel
theorem d51_73 : decode prog_9_method_8_code 73 = .ok (.ireturn, 1) := by decide +kernel
theorem d51_74 : decode prog_9_method_8_code 74 = .ok (.aload_n 0, 1) := by decide +kernel
theorem d51_75 : decode prog_9_method_8_code 75 = .ok (.getfield 30, 3) := by decide +kernel
theorem d51_78 : decode prog_9_method_8_code 78 = .ok (.iload_n 2, 1) := by decide +kernel
theorem d51_79 : decode prog_9_method_8_code 79 = .ok (.dup2, 1) := by decide +kernel
theorem d51_80 : decode prog_9_method_8_code 80 = .ok (.iaload, 1) := by decide +kernel
theorem d51_81 : decode prog_9_method_8_code 81 = .ok (.iload_n 3, 1) := by decide +kernel
theorem d51_82 : decode prog_9_method_8_code 82 = .ok (.isub, 1) := by decide +kernel
theorem d51_83 : decode prog_9_method_8_code 83 = .ok (.iastore, 1) := by decide +kernel
theorem d51_84 : decode prog_9_method_8_code 84 = .ok (.aload 4, 2) := by decide +kernel
theorem d51_86 : decode prog_9_method_8_code 86 = .ok (.getfield 118, 3) := by decide +kernel
theorem d51_89 : decode prog_9_method_8_code 89 = .ok (.iload_n 2, 1) := by decide +kernel
theorem d51_90 : decode prog_9_method_8_code 90 = .ok (.dup2, 1) := by decide +kernel
theorem d51_91 : decode prog_9_method_8_code 91 = .ok (.iaload, 1) := by decide +kernel
theorem d51_92 : decode prog_9_method_8_code 92 = .ok (.iload_n 3, 1) := by decide +kernel
theorem d51_93 : decode prog_9_method_8_code 93 = .ok (.iadd, 1) := by decide +kernel
theorem d51_94 : decode prog_9_method_8_code 94 = .ok (.iastore, 1) := by decide +kernel
theorem d51_95 : decode prog_9_method_8_code 95 = .ok (.aload 4, 2) := by decide +kernel
theorem d51_97 : decode prog_9_method_8_code 97 = .ok (.invokevirtual 114, 3) := by decide +kernel
theorem d51_100 : decode prog_9_method_8_code 100 = .ok (.ireturn, 1) := by decide +kernel
theorem d52_0 : decode prog_9_method_9_code 0 = .ok (.iload_n 1, 1) := by decide +kernel
theorem d52_1 : decode prog_9_method_9_code 1 = .ok (.invokestatic 103, 3) := by decide +kernel
theorem d52_4 : decode prog_9_method_9_code 4 = .ok (.ifCond .eq 10, 3) := by decide +kernel
theorem d52_7 : decode prog_9_method_9_code 7 = .ok (.iload_n 2, 1) := by decide +kernel
theorem d52_8 : decode prog_9_method_9_code 8 = .ok (.invokestatic 69, 3) := by decide +kernel
theorem d52_11 : decode prog_9_method_9_code 11 = .ok (.ifCond .ne 6, 3) := by decide +kernel
theorem d52_14 : decode prog_9_method_9_code 14 = .ok (.bipush (-3), 2) := by decide +kernel
theorem d52_16 : decode prog_9_method_9_code 16 = .ok (.ireturn, 1) := by decide +kernel
theorem d52_17 : decode prog_9_method_9_code 17 = .ok (.aload_n 0, 1) := by decide +kernel
theorem d52_18 : decode prog_9_method_9_code 18 = .ok (.getfield 26, 3) := by decide +kernel
theorem d52_21 : decode prog_9_method_9_code 21 = .ok (.iload_n 1, 1) := by decide +kernel
theorem d52_22 : decode prog_9_method_9_code 22 = .ok (.aaload, 1) := by decide +kernel
theorem d52_23 : decode prog_9_method_9_code 23 = .ok (.invokevirtual 110, 3) := by decide +kernel
theorem d52_26 : decode prog_9_method_9_code 26 = .ok (.ifCond .eq 13, 3) := by decide +kernel
theorem d52_29 : decode prog_9_method_9_code 29 = .ok (.aload_n 0, 1) := by decide +kernel
theorem d52_30 : decode prog_9_method_9_code 30 = .ok (.getfield 34, 3) := by decide +kernel
theorem d52_33 : decode prog_9_method_9_code 33 = .ok (.iload_n 2, 1) := by decide +kernel
theorem d52_34 : decode prog_9_method_9_code 34 = .ok (.iaload, 1) := by decide +kernel
theorem d52_35 : decode prog_9_method_9_code 35 = .ok (.iconst (-1), 1) := by decide +kernel
theorem d52_36 : decode prog_9_method_9_code 36 = .ok (.if_icmp .eq 6, 3) := by decide +kernel
theorem d52_39 : decode prog_9_method_9_code 39 = .ok (.bipush (-2), 2) := by decide +kernel
theorem d52_41 : decode prog_9_method_9_code 41 = .ok (.ireturn, 1) := by decide +kernel
theorem d52_42 : decode prog_9_method_9_code 42 = .ok (.aload_n 0, 1) := by decide +kernel
theorem d52_43 : decode prog_9_method_9_code 43 = .ok (.getfield 34, 3) := by decide +kernel
theorem d52_46 : decode prog_9_method_9_code 46 = .ok (.iload_n 2, 1) := by decide +kernel
theorem d52_47 : decode prog_9_method_9_code 47 = .ok (.iload_n 1, 1) := by decide +kernel
theorem d52_48 : decode prog_9_method_9_code 48 = .ok (.iastore, 1) := by decide +kernel
theorem d52_49 : decode prog_9_method_9_code 49 = .ok (.aload_n 0, 1) := by decide +kernel
theorem d52_50 : decode prog_9_method_9_code 50 = .ok (.iload_n 1, 1) := by decide +kernel
theorem d52_51 : decode prog_9_method_9_code 51 = .ok (.invokevirtual 121, 3) := by decide +kernel
theorem d52_54 : decode prog_9_method_9_code 54 = .ok (.ireturn, 1) := by decide +kernel
theorem d53_0 : decode prog_9_method_19_code 0 = .ok (.iconst 0, 1) := by decide +kernel
theorem d53_1 : decode prog_9_method_19_code 1 = .ok (.istore_n 2, 1) := by decide +kernel
theorem d53_2 : decode prog_9_method_19_code 2 = .ok (.aload_n 0, 1) := by decide +kernel
theorem d53_3 : decode prog_9_method_19_code 3 = .ok (.getfield 34, 3) := by decide +kernel
theorem d53_6 : decode prog_9_method_19_code 6 = .ok (.astore_n 3, 1) := by decide +kernel
theorem d53_7 : decode prog_9_method_19_code 7 = .ok (.aload_n 3, 1) := by decide +kernel
theorem d53_8 : decode prog_9_method_19_code 8 = .ok (.arraylength, 1) := by decide +kernel
theorem d53_9 : decode prog_9_method_19_code 9 = .ok (.istore 4, 2) := by decide +kernel
theorem d53_11 : decode prog_9_method_19_code 11 = .ok (.iconst 0, 1) := by decide +kernel
theorem d53_12 : decode prog_9_method_19_code 12 = .ok (.istore 5, 2) := by decide +kernel
theorem d53_14 : decode prog_9_method_19_code 14 = .ok (.iload 5, 2) := by decide +kernel
theorem d53_16 : decode prog_9_method_19_code 16 = .ok (.iload 4, 2) := by decide +kernel
theorem d53_18 : decode prog_9_method_19_code 18 = .ok (.if_icmp .ge 24, 3) := by decide +kernel
theorem d53_21 : decode prog_9_method_19_code 21 = .ok (.aload_n 3, 1) := by decide +kernel
theorem d53_22 : decode prog_9_method_19_code 22 = .ok (.iload 5, 2) := by decide +kernel
theorem d53_24 : decode prog_9_method_19_code 24 = .ok (.iaload, 1) := by decide +kernel
theorem d53_25 : decode prog_9_method_19_code 25 = .ok (.istore 6, 2) := by decide +kernel
theorem d53_27 : decode prog_9_method_19_code 27 = .ok (.iload 6, 2) := by decide +kernel
theorem d53_29 : decode prog_9_method_19_code 29 = .ok (.iload_n 1, 1) := by decide +kernel
theorem d53_30 : decode prog_9_method_19_code 30 = .ok (.if_icmp .ne 6, 3) := by decide +kernel
theorem d53_33 : decode prog_9_method_19_code 33 = .ok (.iinc 2 1, 3) := by decide +kernel
theorem d53_36 : decode prog_9_method_19_code 36 = .ok (.iinc 5 1, 3) := by decide +kernel
theorem d53_39 : decode prog_9_method_19_code 39 = .ok (.goto (-25), 3) := by decide +kernel
theorem d53_42 : decode prog_9_method_19_code 42 = .ok (.iload_n 2, 1) := by decide +kernel
theorem d53_43 : decode prog_9_method_19_code 43 = .ok (.ireturn, 1) := by decide +kernel
theorem d54_0 : decode prog_9_method_10_code 0 = .ok (.iload_n 1, 1) := by decide +kernel
theorem d54_1 : decode prog_9_method_10_code 1 = .ok (.invokestatic 103, 3) := by decide +kernel
theorem d54_4 : decode prog_9_method_10_code 4 = .ok (.ifCond .eq 10, 3) := by decide +kernel
theorem d54_7 : decode prog_9_method_10_code 7 = .ok (.iload_n 2, 1) := by decide +kernel
theorem d54_8 : decode prog_9_method_10_code 8 = .ok (.invokestatic 69, 3) := by decide +kernel
theorem d54_11 : decode prog_9_method_10_code 11 = .ok (.ifCond .ne 6, 3) := by decide +kernel
theorem d54_14 : decode prog_9_method_10_code 14 = .ok (.bipush (-3), 2) := by decide +kernel
theorem d54_16 : decode prog_9_method_10_code 16 = .ok (.ireturn, 1) := by decide +kernel
theorem d54_17 : decode prog_9_method_10_code 17 = .ok (.aload_n 0, 1) := by decide +kernel
theorem d54_18 : decode prog_9_method_10_code 18 = .ok (.getfield 26, 3) := by decide +kernel
theorem d54_21 : decode prog_9_method_10_code 21 = .ok (.iload_n 1, 1) := by decide +kernel
theorem d54_22 : decode prog_9_method_10_code 22 = .ok (.aaload, 1) := by decide +kernel
theorem d54_23 : decode prog_9_method_10_code 23 = .ok (.invokevirtual 110, 3) := by decide +kernel
theorem d54_26 : decode prog_9_method_10_code 26 = .ok (.ifCond .eq 13, 3) := by decide +kernel
theorem d54_29 : decode prog_9_method_10_code 29 = .ok (.aload_n 0, 1) := by decide +kernel
theorem d54_30 : decode prog_9_method_10_code 30 = .ok (.getfield 34, 3) := by decide +kernel
theorem d54_33 : decode prog_9_method_10_code 33 = .ok (.iload_n 2, 1) := by decide +kernel
theorem d54_34 : decode prog_9_method_10_code 34 = .ok (.iaload, 1) := by decide +kernel
theorem d54_35 : decode prog_9_method_10_code 35 = .ok (.iload_n 1, 1) := by decide +kernel
theorem d54_36 : decode prog_9_method_10_code 36 = .ok (.if_icmp .eq 6, 3) := by decide +kernel
theorem d54_39 : decode prog_9_method_10_code 39 = .ok (.bipush (-2), 2) := by decide +kernel
theorem d54_41 : decode prog_9_method_10_code 41 = .ok (.ireturn, 1) := by decide +kernel
theorem d54_42 : decode prog_9_method_10_code 42 = .ok (.aload_n 0, 1) := by decide +kernel
theorem d54_43 : decode prog_9_method_10_code 43 = .ok (.getfield 34, 3) := by decide +kernel
theorem d54_46 : decode prog_9_method_10_code 46 = .ok (.iload_n 2, 1) := by decide +kernel
theorem d54_47 : decode prog_9_method_10_code 47 = .ok (.iconst (-1), 1) := by decide +kernel
theorem d54_48 : decode prog_9_method_10_code 48 = .ok (.iastore, 1) := by decide +kernel
theorem d54_49 : decode prog_9_method_10_code 49 = .ok (.aload_n 0, 1) := by decide +kernel
theorem d54_50 : decode prog_9_method_10_code 50 = .ok (.iload_n 1, 1) := by decide +kernel
theorem d54_51 : decode prog_9_method_10_code 51 = .ok (.invokevirtual 121, 3) := by decide +kernel
theorem d54_54 : decode prog_9_method_10_code 54 = .ok (.ireturn, 1) := by decide +kernel
theorem d55_0 : decode prog_9_method_11_code 0 = .ok (.iload_n 1, 1) := by decide +kernel
theorem d55_1 : decode prog_9_method_11_code 1 = .ok (.invokestatic 103, 3) := by decide +kernel
theorem d55_4 : decode prog_9_method_11_code 4 = .ok (.ifCond .ne 6, 3) := by decide +kernel
theorem d55_7 : decode prog_9_method_11_code 7 = .ok (.bipush (-3), 2) := by decide +kernel
theorem d55_9 : decode prog_9_method_11_code 9 = .ok (.ireturn, 1) := by decide +kernel
theorem d55_10 : decode prog_9_method_11_code 10 = .ok (.aload_n 0, 1) := by decide +kernel
theorem d55_11 : decode prog_9_method_11_code 11 = .ok (.iload_n 2, 1) := by decide +kernel
theorem d55_12 : decode prog_9_method_11_code 12 = .ok (.invokevirtual 96, 3) := by decide +kernel
theorem d55_15 : decode prog_9_method_11_code 15 = .ok (.astore_n 3, 1) := by decide +kernel
theorem d55_16 : decode prog_9_method_11_code 16 = .ok (.aload_n 3, 1) := by decide +kernel
theorem d55_17 : decode prog_9_method_11_code 17 = .ok (.ifnonnull 6, 3) := by decide +kernel
theorem d55_20 : decode prog_9_method_11_code 20 = .ok (.bipush (-4), 2) := by decide +kernel
theorem d55_22 : decode prog_9_method_11_code 22 = .ok (.ireturn, 1) := by decide +kernel
theorem d55_23 : decode prog_9_method_11_code 23 = .ok (.aload_n 0, 1) := by decide +kernel
theorem d55_24 : decode prog_9_method_11_code 24 = .ok (.iload_n 1, 1) := by decide +kernel
theorem d55_25 : decode prog_9_method_11_code 25 = .ok (.aload_n 3, 1) := by decide +kernel
theorem d55_26 : decode prog_9_method_11_code 26 = .ok (.invokevirtual 124, 3) := by decide +kernel
theorem d55_29 : decode prog_9_method_11_code 29 = .ok (.ifCond .ne 6, 3) := by decide +kernel
theorem d55_32 : decode prog_9_method_11_code 32 = .ok (.bipush (-2), 2) := by decide +kernel
theorem d55_34 : decode prog_9_method_11_code 34 = .ok (.ireturn, 1) := by decide +kernel
theorem d55_35 : decode prog_9_method_11_code 35 = .ok (.aload_n 0, 1) := by decide +kernel
theorem d55_36 : decode prog_9_method_11_code 36 = .ok (.iload_n 1, 1) := by decide +kernel
theorem d55_37 : decode prog_9_method_11_code 37 = .ok (.aload_n 3, 1) := by decide +kernel
theorem d55_38 : decode prog_9_method_11_code 38 = .ok (.invokevirtual 128, 3) := by decide +kernel
theorem d55_41 : decode prog_9_method_11_code 41 = .ok (.ifCond .ne 6, 3) := by decide +kernel
theorem d55_44 : decode prog_9_method_11_code 44 = .ok (.bipush (-5), 2) := by decide +kernel
theorem d55_46 : decode prog_9_method_11_code 46 = .ok (.ireturn, 1) := by decide +kernel
theorem d55_47 : decode prog_9_method_11_code 47 = .ok (.aload_n 0, 1) := by decide +kernel
theorem d55_48 : decode prog_9_method_11_code 48 = .ok (.getfield 26, 3) := by decide +kernel
theorem d55_51 : decode prog_9_method_11_code 51 = .ok (.iload_n 1, 1) := by decide +kernel
theorem d55_52 : decode prog_9_method_11_code 52 = .ok (.aaload, 1) := by decide +kernel
theorem d55_53 : decode prog_9_method_11_code 53 = .ok (.astore 4, 2) := by decide +kernel
theorem d55_55 : decode prog_9_method_11_code 55 = .ok (.aload 4, 2) := by decide +kernel
theorem d55_57 : decode prog_9_method_11_code 57 = .ok (.aload_n 3, 1) := by decide +kernel
theorem d55_58 : decode prog_9_method_11_code 58 = .ok (.invokevirtual 131, 3) := by decide +kernel
theorem d55_61 : decode prog_9_method_11_code 61 = .ok (.istore 5, 2) := by decide +kernel
theorem d55_63 : decode prog_9_method_11_code 63 = .ok (.aload_n 3, 1) := by decide +kernel
theorem d55_64 : decode prog_9_method_11_code 64 = .ok (.iload 5, 2) := by decide +kernel
theorem d55_66 : decode prog_9_method_11_code 66 = .ok (.invokevirtual 135, 3) := by decide +kernel
theorem d55_69 : decode prog_9_method_11_code 69 = .ok (.istore 6, 2) := by decide +kernel
theorem d55_71 : decode prog_9_method_11_code 71 = .ok (.aload 4, 2) := by decide +kernel
theorem d55_73 : decode prog_9_method_11_code 73 = .ok (.iload 5, 2) := by decide +kernel
theorem d55_75 : decode prog_9_method_11_code 75 = .ok (.putfield 138, 3) := by decide +kernel
theorem d55_78 : decode prog_9_method_11_code 78 = .ok (.aload 4, 2) := by decide +kernel
theorem d55_80 : decode prog_9_method_11_code 80 = .ok (.aload_n 3, 1) := by decide +kernel
theorem d55_81 : decode prog_9_method_11_code 81 = .ok (.getfield 75, 3) := by decide +kernel
theorem d55_84 : decode prog_9_method_11_code 84 = .ok (.putfield 141, 3) := by decide +kernel
theorem d55_87 : decode prog_9_method_11_code 87 = .ok (.aload 4, 2) := by decide +kernel
theorem d55_89 : decode prog_9_method_11_code 89 = .ok (.aload_n 3, 1) := by decide +kernel
theorem d55_90 : decode prog_9_method_11_code 90 = .ok (.getfield 78, 3) := by decide +kernel
theorem d55_93 : decode prog_9_method_11_code 93 = .ok (.putfield 142, 3) := by decide +kernel
theorem d55_96 : decode prog_9_method_11_code 96 = .ok (.aload 4, 2) := by decide +kernel
theorem d55_98 : decode prog_9_method_11_code 98 = .ok (.aload_n 3, 1) := by decide +kernel
theorem d55_99 : decode prog_9_method_11_code 99 = .ok (.getfield 81, 3) := by decide +kernel
theorem d55_102 : decode prog_9_method_11_code 102 = .ok (.invokevirtual 143, 3) := by decide +kernel
theorem d55_105 : decode prog_9_method_11_code 105 = .ok (.aload 4, 2) := by decide +kernel
theorem d55_107 : decode prog_9_method_11_code 107 = .ok (.dup, 1) := by decide +kernel
theorem d55_108 : decode prog_9_method_11_code 108 = .ok (.getfield 147, 3) := by decide +kernel
theorem d55_111 : decode prog_9_method_11_code 111 = .ok (.bipush 10, 2) := by decide +kernel
theorem d55_113 : decode prog_9_method_11_code 113 = .ok (.aload_n 3, 1) := by decide +kernel
theorem d55_114 : decode prog_9_method_11_code 114 = .ok (.getfield 87, 3) := by decide +kernel
theorem d55_117 : decode prog_9_method_11_code 117 = .ok (.imul, 1) := by decide +kernel
theorem d55_118 : decode prog_9_method_11_code 118 = .ok (.iconst 2, 1) := by decide +kernel
theorem d55_119 : decode prog_9_method_11_code 119 = .ok (.iload 6, 2) := by decide +kernel
theorem d55_121 : decode prog_9_method_11_code 121 = .ok (.imul, 1) := by decide +kernel
theorem d55_122 : decode prog_9_method_11_code 122 = .ok (.isub, 1) := by decide +kernel
theorem d55_123 : decode prog_9_method_11_code 123 = .ok (.iadd, 1) := by decide +kernel
theorem d55_124 : decode prog_9_method_11_code 124 = .ok (.putfield 147, 3) := by decide +kernel
theorem d55_127 : decode prog_9_method_11_code 127 = .ok (.aload_n 0, 1) := by decide +kernel
theorem d55_128 : decode prog_9_method_11_code 128 = .ok (.dup, 1) := by decide +kernel
theorem d55_129 : decode prog_9_method_11_code 129 = .ok (.getfield 40, 3) := by decide +kernel
theorem d55_132 : decode prog_9_method_11_code 132 = .ok (.aload_n 3, 1) := by decide +kernel
theorem d55_133 : decode prog_9_method_11_code 133 = .ok (.getfield 87, 3) := by decide +kernel
theorem d55_136 : decode prog_9_method_11_code 136 = .ok (.i2l, 1) := by decide +kernel
theorem d55_137 : decode prog_9_method_11_code 137 = .ok (.ladd, 1) := by decide +kernel
theorem d55_138 : decode prog_9_method_11_code 138 = .ok (.putfield 40, 3) := by decide +kernel
theorem d55_141 : decode prog_9_method_11_code 141 = .ok (.aload_n 0, 1) := by decide +kernel
theorem d55_142 : decode prog_9_method_11_code 142 = .ok (.dup, 1) := by decide +kernel
theorem d55_143 : decode prog_9_method_11_code 143 = .ok (.getfield 44, 3) := by decide +kernel
theorem d55_146 : decode prog_9_method_11_code 146 = .ok (.iload 6, 2) := by decide +kernel
theorem d55_148 : decode prog_9_method_11_code 148 = .ok (.i2l, 1) := by decide +kernel
theorem d55_149 : decode prog_9_method_11_code 149 = .ok (.ladd, 1) := by decide +kernel
theorem d55_150 : decode prog_9_method_11_code 150 = .ok (.putfield 44, 3) := by decide +kernel
theorem d55_153 : decode prog_9_method_11_code 153 = .ok (.aload_n 0, 1) := by decide +kernel
theorem d55_154 : decode prog_9_method_11_code 154 = .ok (.dup, 1) := by decide +kernel
theorem d55_155 : decode prog_9_method_11_code 155 = .ok (.getfield 37, 3) := by decide +kernel
theorem d55_158 : decode prog_9_method_11_code 158 = .ok (.iconst 1, 1) := by decide +kernel
theorem d55_159 : decode prog_9_method_11_code 159 = .ok (.iadd, 1) := by decide +kernel
theorem d55_160 : decode prog_9_method_11_code 160 = .ok (.putfield 37, 3) := by decide +kernel
theorem d55_163 : decode prog_9_method_11_code 163 = .ok (.aload_n 0, 1) := by decide +kernel
theorem d55_164 : decode prog_9_method_11_code 164 = .ok (.aload_n 3, 1) := by decide +kernel
theorem d55_165 : decode prog_9_method_11_code 165 = .ok (.invokevirtual 100, 3) := by decide +kernel
theorem d55_168 : decode prog_9_method_11_code 168 = .ok (.iconst 2, 1) := by decide +kernel
theorem d55_169 : decode prog_9_method_11_code 169 = .ok (.iload 6, 2) := by decide +kernel
theorem d55_171 : decode prog_9_method_11_code 171 = .ok (.imul, 1) := by decide +kernel
theorem d55_172 : decode prog_9_method_11_code 172 = .ok (.ireturn, 1) := by decide +kernel
theorem d56_0 : decode prog_9_method_20_code 0 = .ok (.aload_n 2, 1) := by decide +kernel
theorem d56_1 : decode prog_9_method_20_code 1 = .ok (.getfield 84, 3) := by decide +kernel
theorem d56_4 : decode prog_9_method_20_code 4 = .ok (.invokestatic 69, 3) := by decide +kernel
theorem d56_7 : decode prog_9_method_20_code 7 = .ok (.ifCond .eq 20, 3) := by decide +kernel
theorem d56_10 : decode prog_9_method_20_code 10 = .ok (.aload_n 0, 1) := by decide +kernel
theorem d56_11 : decode prog_9_method_20_code 11 = .ok (.getfield 34, 3) := by decide +kernel
theorem d56_14 : decode prog_9_method_20_code 14 = .ok (.aload_n 2, 1) := by decide +kernel
theorem d56_15 : decode prog_9_method_20_code 15 = .ok (.getfield 84, 3) := by decide +kernel
theorem d56_18 : decode prog_9_method_20_code 18 = .ok (.iaload, 1) := by decide +kernel
theorem d56_19 : decode prog_9_method_20_code 19 = .ok (.iload_n 1, 1) := by decide +kernel
theorem d56_20 : decode prog_9_method_20_code 20 = .ok (.if_icmp .ne 7, 3) := by decide +kernel
theorem d56_23 : decode prog_9_method_20_code 23 = .ok (.iconst 1, 1) := by decide +kernel
theorem d56_24 : decode prog_9_method_20_code 24 = .ok (.goto 4, 3) := by decide +kernel
theorem d56_27 : decode prog_9_method_20_code 27 = .ok (.iconst 0, 1) := by decide +kernel
theorem d56_28 : decode prog_9_method_20_code 28 = .ok (.ireturn, 1) := by decide +kernel
theorem d57_0 : decode prog_9_method_21_code 0 = .ok (.iload_n 1, 1) := by decide +kernel
theorem d57_1 : decode prog_9_method_21_code 1 = .ok (.invokestatic 103, 3) := by decide +kernel
theorem d57_4 : decode prog_9_method_21_code 4 = .ok (.ifCond .eq 34, 3) := by decide +kernel
theorem d57_7 : decode prog_9_method_21_code 7 = .ok (.aload_n 2, 1) := by decide +kernel
theorem d57_8 : decode prog_9_method_21_code 8 = .ok (.getfield 81, 3) := by decide +kernel
theorem d57_11 : decode prog_9_method_21_code 11 = .ok (.invokestatic 66, 3) := by decide +kernel
theorem d57_14 : decode prog_9_method_21_code 14 = .ok (.ifCond .eq 24, 3) := by decide +kernel
theorem d57_17 : decode prog_9_method_21_code 17 = .ok (.aload_n 0, 1) := by decide +kernel
theorem d57_18 : decode prog_9_method_21_code 18 = .ok (.getfield 26, 3) := by decide +kernel
theorem d57_21 : decode prog_9_method_21_code 21 = .ok (.iload_n 1, 1) := by decide +kernel
theorem d57_22 : decode prog_9_method_21_code 22 = .ok (.aaload, 1) := by decide +kernel
theorem d57_23 : decode prog_9_method_21_code 23 = .ok (.getfield 118, 3) := by decide +kernel
theorem d57_26 : decode prog_9_method_21_code 26 = .ok (.aload_n 2, 1) := by decide +kernel
theorem d57_27 : decode prog_9_method_21_code 27 = .ok (.getfield 81, 3) := by decide +kernel
theorem d57_30 : decode prog_9_method_21_code 30 = .ok (.iaload, 1) := by decide +kernel
theorem d57_31 : decode prog_9_method_21_code 31 = .ok (.ifCond .le 7, 3) := by decide +kernel
theorem d57_34 : decode prog_9_method_21_code 34 = .ok (.iconst 1, 1) := by decide +kernel
theorem d57_35 : decode prog_9_method_21_code 35 = .ok (.goto 4, 3) := by decide +kernel
theorem d57_38 : decode prog_9_method_21_code 38 = .ok (.iconst 0, 1) := by decide +kernel
theorem d57_39 : decode prog_9_method_21_code 39 = .ok (.ireturn, 1) := by decide +kernel
theorem d58_0 : decode prog_9_method_12_code 0 = .ok (.iload_n 1, 1) := by decide +kernel
theorem d58_1 : decode prog_9_method_12_code 1 = .ok (.invokestatic 103, 3) := by decide +kernel
theorem d58_4 : decode prog_9_method_12_code 4 = .ok (.ifCond .ne 6, 3) := by decide +kernel
theorem d58_7 : decode prog_9_method_12_code 7 = .ok (.bipush (-3), 2) := by decide +kernel
theorem d58_9 : decode prog_9_method_12_code 9 = .ok (.ireturn, 1) := by decide +kernel
theorem d58_10 : decode prog_9_method_12_code 10 = .ok (.aload_n 0, 1) := by decide +kernel
theorem d58_11 : decode prog_9_method_12_code 11 = .ok (.getfield 26, 3) := by decide +kernel
theorem d58_14 : decode prog_9_method_12_code 14 = .ok (.iload_n 1, 1) := by decide +kernel
theorem d58_15 : decode prog_9_method_12_code 15 = .ok (.aaload, 1) := by decide +kernel
theorem d58_16 : decode prog_9_method_12_code 16 = .ok (.astore_n 2, 1) := by decide +kernel
theorem d58_17 : decode prog_9_method_12_code 17 = .ok (.aload_n 2, 1) := by decide +kernel
theorem d58_18 : decode prog_9_method_12_code 18 = .ok (.dup, 1) := by decide +kernel
theorem d58_19 : decode prog_9_method_12_code 19 = .ok (.getfield 138, 3) := by decide +kernel
theorem d58_22 : decode prog_9_method_12_code 22 = .ok (.aload_n 2, 1) := by decide +kernel
theorem d58_23 : decode prog_9_method_12_code 23 = .ok (.getfield 141, 3) := by decide +kernel
theorem d58_26 : decode prog_9_method_12_code 26 = .ok (.aload_n 2, 1) := by decide +kernel
theorem d58_27 : decode prog_9_method_12_code 27 = .ok (.getfield 142, 3) := by decide +kernel
theorem d58_30 : decode prog_9_method_12_code 30 = .ok (.iconst 0, 1) := by decide +kernel
theorem d58_31 : decode prog_9_method_12_code 31 = .ok (.iconst 0, 1) := by decide +kernel
theorem d58_32 : decode prog_9_method_12_code 32 = .ok (.invokestatic 150, 3) := by decide +kernel
theorem d58_35 : decode prog_9_method_12_code 35 = .ok (.iadd, 1) := by decide +kernel
theorem d58_36 : decode prog_9_method_12_code 36 = .ok (.putfield 138, 3) := by decide +kernel
theorem d58_39 : decode prog_9_method_12_code 39 = .ok (.aload_n 2, 1) := by decide +kernel
theorem d58_40 : decode prog_9_method_12_code 40 = .ok (.iconst 0, 1) := by decide +kernel
theorem d58_41 : decode prog_9_method_12_code 41 = .ok (.putfield 141, 3) := by decide +kernel
theorem d58_44 : decode prog_9_method_12_code 44 = .ok (.aload_n 2, 1) := by decide +kernel
theorem d58_45 : decode prog_9_method_12_code 45 = .ok (.iconst 0, 1) := by decide +kernel
theorem d58_46 : decode prog_9_method_12_code 46 = .ok (.putfield 142, 3) := by decide +kernel
theorem d58_49 : decode prog_9_method_12_code 49 = .ok (.aload_n 2, 1) := by decide +kernel
theorem d58_50 : decode prog_9_method_12_code 50 = .ok (.getfield 138, 3) := by decide +kernel
theorem d58_53 : decode prog_9_method_12_code 53 = .ok (.ireturn, 1) := by decide +kernel
theorem d59_0 : decode prog_9_method_13_code 0 = .ok (.iload_n 1, 1) := by decide +kernel
theorem d59_1 : decode prog_9_method_13_code 1 = .ok (.invokestatic 103, 3) := by decide +kernel
theorem d59_4 : decode prog_9_method_13_code 4 = .ok (.ifCond .ne 6, 3) := by decide +kernel
theorem d59_7 : decode prog_9_method_13_code 7 = .ok (.bipush (-3), 2) := by decide +kernel
theorem d59_9 : decode prog_9_method_13_code 9 = .ok (.ireturn, 1) := by decide +kernel
theorem d59_10 : decode prog_9_method_13_code 10 = .ok (.iload_n 2, 1) := by decide +kernel
theorem d59_11 : decode prog_9_method_13_code 11 = .ok (.iconst 1, 1) := by decide +kernel
theorem d59_12 : decode prog_9_method_13_code 12 = .ok (.if_icmp .lt 9, 3) := by decide +kernel
theorem d59_15 : decode prog_9_method_13_code 15 = .ok (.iload_n 2, 1) := by decide +kernel
theorem d59_16 : decode prog_9_method_13_code 16 = .ok (.bipush 99, 2) := by decide +kernel
theorem d59_18 : decode prog_9_method_13_code 18 = .ok (.if_icmp .le 5, 3) := by decide +kernel
theorem d59_21 : decode prog_9_method_13_code 21 = .ok (.iconst (-1), 1) := by decide +kernel
theorem d59_22 : decode prog_9_method_13_code 22 = .ok (.ireturn, 1) := by decide +kernel
theorem d59_23 : decode prog_9_method_13_code 23 = .ok (.aload_n 0, 1) := by decide +kernel
theorem d59_24 : decode prog_9_method_13_code 24 = .ok (.getfield 26, 3) := by decide +kernel
theorem d59_27 : decode prog_9_method_13_code 27 = .ok (.iload_n 1, 1) := by decide +kernel
theorem d59_28 : decode prog_9_method_13_code 28 = .ok (.aaload, 1) := by decide +kernel
theorem d59_29 : decode prog_9_method_13_code 29 = .ok (.dup, 1) := by decide +kernel
theorem d59_30 : decode prog_9_method_13_code 30 = .ok (.getfield 138, 3) := by decide +kernel
theorem d59_33 : decode prog_9_method_13_code 33 = .ok (.iload_n 2, 1) := by decide +kernel
theorem d59_34 : decode prog_9_method_13_code 34 = .ok (.iadd, 1) := by decide +kernel
theorem d59_35 : decode prog_9_method_13_code 35 = .ok (.putfield 138, 3) := by decide +kernel
theorem d59_38 : decode prog_9_method_13_code 38 = .ok (.aload_n 0, 1) := by decide +kernel
theorem d59_39 : decode prog_9_method_13_code 39 = .ok (.getfield 26, 3) := by decide +kernel
theorem d59_42 : decode prog_9_method_13_code 42 = .ok (.iload_n 1, 1) := by decide +kernel
theorem d59_43 : decode prog_9_method_13_code 43 = .ok (.aaload, 1) := by decide +kernel
theorem d59_44 : decode prog_9_method_13_code 44 = .ok (.getfield 138, 3) := by decide +kernel
theorem d59_47 : decode prog_9_method_13_code 47 = .ok (.ireturn, 1) := by decide +kernel
theorem d60_0 : decode prog_9_method_16_code 0 = .ok (.iconst 0, 1) := by decide +kernel
theorem d60_1 : decode prog_9_method_16_code 1 = .ok (.istore_n 2, 1) := by decide +kernel
theorem d60_2 : decode prog_9_method_16_code 2 = .ok (.iconst 0, 1) := by decide +kernel
theorem d60_3 : decode prog_9_method_16_code 3 = .ok (.istore_n 3, 1) := by decide +kernel
theorem d60_4 : decode prog_9_method_16_code 4 = .ok (.iload_n 3, 1) := by decide +kernel
theorem d60_5 : decode prog_9_method_16_code 5 = .ok (.aload_n 0, 1) := by decide +kernel
theorem d60_6 : decode prog_9_method_16_code 6 = .ok (.getfield 17, 3) := by decide +kernel
theorem d60_9 : decode prog_9_method_16_code 9 = .ok (.if_icmp .ge 25, 3) := by decide +kernel
theorem d60_12 : decode prog_9_method_16_code 12 = .ok (.aload_n 0, 1) := by decide +kernel
theorem d60_13 : decode prog_9_method_16_code 13 = .ok (.getfield 11, 3) := by decide +kernel
theorem d60_16 : decode prog_9_method_16_code 16 = .ok (.iload_n 3, 1) := by decide +kernel
theorem d60_17 : decode prog_9_method_16_code 17 = .ok (.aaload, 1) := by decide +kernel
theorem d60_18 : decode prog_9_method_16_code 18 = .ok (.aload_n 1, 1) := by decide +kernel
theorem d60_19 : decode prog_9_method_16_code 19 = .ok (.invokevirtual 154, 3) := by decide +kernel
theorem d60_22 : decode prog_9_method_16_code 22 = .ok (.ifCond .eq 6, 3) := by decide +kernel
theorem d60_25 : decode prog_9_method_16_code 25 = .ok (.iinc 2 1, 3) := by decide +kernel
theorem d60_28 : decode prog_9_method_16_code 28 = .ok (.iinc 3 1, 3) := by decide +kernel
theorem d60_31 : decode prog_9_method_16_code 31 = .ok (.goto (-27), 3) := by decide +kernel
theorem d60_34 : decode prog_9_method_16_code 34 = .ok (.iload_n 2, 1) := by decide +kernel
theorem d60_35 : decode prog_9_method_16_code 35 = .ok (.ireturn, 1) := by decide +kernel
theorem d61_0 : decode prog_9_method_17_code 0 = .ok (.iconst 0, 1) := by decide +kernel
theorem d61_1 : decode prog_9_method_17_code 1 = .ok (.istore_n 2, 1) := by decide +kernel
theorem d61_2 : decode prog_9_method_17_code 2 = .ok (.iconst 0, 1) := by decide +kernel
theorem d61_3 : decode prog_9_method_17_code 3 = .ok (.istore_n 3, 1) := by decide +kernel
theorem d61_4 : decode prog_9_method_17_code 4 = .ok (.iload_n 3, 1) := by decide +kernel
theorem d61_5 : decode prog_9_method_17_code 5 = .ok (.iconst 3, 1) := by decide +kernel
theorem d61_6 : decode prog_9_method_17_code 6 = .ok (.if_icmp .ge 65, 3) := by decide +kernel
theorem d61_9 : decode prog_9_method_17_code 9 = .ok (.iload_n 3, 1) := by decide +kernel
theorem d61_10 : decode prog_9_method_17_code 10 = .ok (.iload_n 1, 1) := by decide +kernel
theorem d61_11 : decode prog_9_method_17_code 11 = .ok (.if_icmp .ge 25, 3) := by decide +kernel
theorem d61_14 : decode prog_9_method_17_code 14 = .ok (.aload_n 0, 1) := by decide +kernel
theorem d61_15 : decode prog_9_method_17_code 15 = .ok (.getfield 26, 3) := by decide +kernel
theorem d61_18 : decode prog_9_method_17_code 18 = .ok (.iload_n 1, 1) := by decide +kernel
theorem d61_19 : decode prog_9_method_17_code 19 = .ok (.aaload, 1) := by decide +kernel
theorem d61_20 : decode prog_9_method_17_code 20 = .ok (.aload_n 0, 1) := by decide +kernel
theorem d61_21 : decode prog_9_method_17_code 21 = .ok (.getfield 26, 3) := by decide +kernel
theorem d61_24 : decode prog_9_method_17_code 24 = .ok (.iload_n 3, 1) := by decide +kernel
theorem d61_25 : decode prog_9_method_17_code 25 = .ok (.aaload, 1) := by decide +kernel
theorem d61_26 : decode prog_9_method_17_code 26 = .ok (.invokevirtual 158, 3) := by decide +kernel
theorem d61_29 : decode prog_9_method_17_code 29 = .ok (.ifCond .ne 7, 3) := by decide +kernel
theorem d61_32 : decode prog_9_method_17_code 32 = .ok (.iconst 1, 1) := by decide +kernel
theorem d61_33 : decode prog_9_method_17_code 33 = .ok (.goto 4, 3) := by decide +kernel
theorem d61_36 : decode prog_9_method_17_code 36 = .ok (.iconst 0, 1) := by decide +kernel
theorem d61_37 : decode prog_9_method_17_code 37 = .ok (.istore 4, 2) := by decide +kernel
theorem d61_39 : decode prog_9_method_17_code 39 = .ok (.iload 4, 2) := by decide +kernel
theorem d61_41 : decode prog_9_method_17_code 41 = .ok (.ifCond .ne 21, 3) := by decide +kernel
theorem d61_44 : decode prog_9_method_17_code 44 = .ok (.aload_n 0, 1) := by decide +kernel
theorem d61_45 : decode prog_9_method_17_code 45 = .ok (.getfield 26, 3) := by decide +kernel
theorem d61_48 : decode prog_9_method_17_code 48 = .ok (.iload_n 3, 1) := by decide +kernel
theorem d61_49 : decode prog_9_method_17_code 49 = .ok (.aaload, 1) := by decide +kernel
theorem d61_50 : decode prog_9_method_17_code 50 = .ok (.aload_n 0, 1) := by decide +kernel
theorem d61_51 : decode prog_9_method_17_code 51 = .ok (.getfield 26, 3) := by decide +kernel
theorem d61_54 : decode prog_9_method_17_code 54 = .ok (.iload_n 1, 1) := by decide +kernel
theorem d61_55 : decode prog_9_method_17_code 55 = .ok (.aaload, 1) := by decide +kernel
theorem d61_56 : decode prog_9_method_17_code 56 = .ok (.invokevirtual 158, 3) := by decide +kernel
theorem d61_59 : decode prog_9_method_17_code 59 = .ok (.ifCond .eq 6, 3) := by decide +kernel
theorem d61_62 : decode prog_9_method_17_code 62 = .ok (.iinc 2 1, 3) := by decide +kernel
theorem d61_65 : decode prog_9_method_17_code 65 = .ok (.iinc 3 1, 3) := by decide +kernel
theorem d61_68 : decode prog_9_method_17_code 68 = .ok (.goto (-64), 3) := by decide +kernel
theorem d61_71 : decode prog_9_method_17_code 71 = .ok (.iload_n 2, 1) := by decide +kernel
theorem d61_72 : decode prog_9_method_17_code 72 = .ok (.ireturn, 1) := by decide +kernel
theorem d62_0 : decode prog_1_method_1_code 0 = .ok (.aload_n 0, 1) := by decide +kernel
theorem d62_1 : decode prog_1_method_1_code 1 = .ok (.invokespecial 1, 3) := by decide +kernel
theorem d62_4 : decode prog_1_method_1_code 4 = .ok (.aload_n 0, 1) := by decide +kernel
theorem d62_5 : decode prog_1_method_1_code 5 = .ok (.new 7, 3) := by decide +kernel
theorem d62_8 : decode prog_1_method_1_code 8 = .ok (.dup, 1) := by decide +kernel
theorem d62_9 : decode prog_1_method_1_code 9 = .ok (.invokespecial 9, 3) := by decide +kernel
theorem d62_12 : decode prog_1_method_1_code 12 = .ok (.putfield 10, 3) := by decide +kernel
theorem d62_15 : decode prog_1_method_1_code 15 = .ok (.aload_n 0, 1) := by decide +kernel
theorem d62_16 : decode prog_1_method_1_code 16 = .ok (.new 7, 3) := by decide +kernel
theorem d62_19 : decode prog_1_method_1_code 19 = .ok (.dup, 1) := by decide +kernel
theorem d62_20 : decode prog_1_method_1_code 20 = .ok (.invokespecial 9, 3) := by decide +kernel
theorem d62_23 : decode prog_1_method_1_code 23 = .ok (.putfield 16, 3) := by decide +kernel
theorem d62_26 : decode prog_1_method_1_code 26 = .ok (.aload_n 0, 1) := by decide +kernel
theorem d62_27 : decode prog_1_method_1_code 27 = .ok (.iconst 0, 1) := by decide +kernel
theorem d62_28 : decode prog_1_method_1_code 28 = .ok (.putfield 19, 3) := by decide +kernel
theorem d62_31 : decode prog_1_method_1_code 31 = .ok (.aload_n 0, 1) := by decide +kernel
theorem d62_32 : decode prog_1_method_1_code 32 = .ok (.new 23, 3) := by decide +kernel
theorem d62_35 : decode prog_1_method_1_code 35 = .ok (.dup, 1) := by decide +kernel
theorem d62_36 : decode prog_1_method_1_code 36 = .ok (.invokespecial 25, 3) := by decide +kernel
theorem d62_39 : decode prog_1_method_1_code 39 = .ok (.putfield 26, 3) := by decide +kernel
theorem d62_42 : decode prog_1_method_1_code 42 = .ok (.aload_n 0, 1) := by decide +kernel
theorem d62_43 : decode prog_1_method_1_code 43 = .ok (.new 30, 3) := by decide +kernel
theorem d62_46 : decode prog_1_method_1_code 46 = .ok (.dup, 1) := by decide +kernel
theorem d62_47 : decode prog_1_method_1_code 47 = .ok (.invokespecial 32, 3) := by decide +kernel
theorem d62_50 : decode prog_1_method_1_code 50 = .ok (.putfield 33, 3) := by decide +kernel
theorem d62_53 : decode prog_1_method_1_code 53 = .ok (.aload_n 0, 1) := by decide +kernel
theorem d62_54 : decode prog_1_method_1_code 54 = .ok (.new 37, 3) := by decide +kernel
theorem d62_57 : decode prog_1_method_1_code 57 = .ok (.dup, 1) := by decide +kernel
theorem d62_58 : decode prog_1_method_1_code 58 = .ok (.invokespecial 39, 3) := by decide +kernel
theorem d62_61 : decode prog_1_method_1_code 61 = .ok (.putfield 40, 3) := by decide +kernel
theorem d62_64 : decode prog_1_method_1_code 64 = .ok (.aload_n 0, 1) := by decide +kernel
theorem d62_65 : decode prog_1_method_1_code 65 = .ok (.new 44, 3) := by decide +kernel
theorem d62_68 : decode prog_1_method_1_code 68 = .ok (.dup, 1) := by decide +kernel
theorem d62_69 : decode prog_1_method_1_code 69 = .ok (.invokespecial 46, 3) := by decide +kernel
theorem d62_72 : decode prog_1_method_1_code 72 = .ok (.putfield 47, 3) := by decide +kernel
theorem d62_75 : decode prog_1_method_1_code 75 = .ok (.aload_n 0, 1) := by decide +kernel
theorem d62_76 : decode prog_1_method_1_code 76 = .ok (.iconst (-1), 1) := by decide +kernel
theorem d62_77 : decode prog_1_method_1_code 77 = .ok (.putfield 51, 3) := by decide +kernel
theorem d62_80 : decode prog_1_method_1_code 80 = .ok (.aload_n 0, 1) := by decide +kernel
theorem d62_81 : decode prog_1_method_1_code 81 = .ok (.iconst (-1), 1) := by decide +kernel
theorem d62_82 : decode prog_1_method_1_code 82 = .ok (.putfield 55, 3) := by decide +kernel
theorem d62_85 : decode prog_1_method_1_code 85 = .ok (.return_, 1) := by decide +kernel
theorem d63_0 : decode prog_1_method_13_code 0 = .ok (.aload_n 0, 1) := by decide +kernel
theorem d63_1 : decode prog_1_method_13_code 1 = .ok (.getfield 10, 3) := by decide +kernel
theorem d63_4 : decode prog_1_method_13_code 4 = .ok (.getfield 106, 3) := by decide +kernel
theorem d63_7 : decode prog_1_method_13_code 7 = .ok (.ireturn, 1) := by decide +kernel
theorem d64_0 : decode prog_1_method_14_code 0 = .ok (.aload_n 0, 1) := by decide +kernel
theorem d64_1 : decode prog_1_method_14_code 1 = .ok (.getfield 10, 3) := by decide +kernel
theorem d64_4 : decode prog_1_method_14_code 4 = .ok (.iload_n 1, 1) := by decide +kernel
theorem d64_5 : decode prog_1_method_14_code 5 = .ok (.invokevirtual 109, 3) := by decide +kernel
theorem d64_8 : decode prog_1_method_14_code 8 = .ok (.ifnull 7, 3) := by decide +kernel
theorem d64_11 : decode prog_1_method_14_code 11 = .ok (.iconst 1, 1) := by decide +kernel
theorem d64_12 : decode prog_1_method_14_code 12 = .ok (.goto 4, 3) := by decide +kernel
theorem d64_15 : decode prog_1_method_14_code 15 = .ok (.iconst 0, 1) := by decide +kernel
theorem d64_16 : decode prog_1_method_14_code 16 = .ok (.ireturn, 1) := by decide +kernel
theorem d65_0 : decode prog_1_method_36_code 0 = .ok (.lconst 0, 1) := by decide +kernel
theorem d65_1 : decode prog_1_method_36_code 1 = .ok (.lstore_n 1, 1) := by decide +kernel
theorem d65_2 : decode prog_1_method_36_code 2 = .ok (.aload_n 0, 1) := by decide +kernel
theorem d65_3 : decode prog_1_method_36_code 3 = .ok (.getfield 10, 3) := by decide +kernel
theorem d65_6 : decode prog_1_method_36_code 6 = .ok (.getfield 203, 3) := by decide +kernel
theorem d65_9 : decode prog_1_method_36_code 9 = .ok (.astore_n 3, 1) := by decide +kernel
theorem d65_10 : decode prog_1_method_36_code 10 = .ok (.aload_n 3, 1) := by decide +kernel
theorem d65_11 : decode prog_1_method_36_code 11 = .ok (.arraylength, 1) := by decide +kernel
theorem d65_12 : decode prog_1_method_36_code 12 = .ok (.istore 4, 2) := by decide +kernel
theorem d65_14 : decode prog_1_method_36_code 14 = .ok (.iconst 0, 1) := by decide +kernel
theorem d65_15 : decode prog_1_method_36_code 15 = .ok (.istore 5, 2) := by decide +kernel
theorem d65_17 : decode prog_1_method_36_code 17 = .ok (.iload 5, 2) := by decide +kernel
theorem d65_19 : decode prog_1_method_36_code 19 = .ok (.iload 4, 2) := by decide +kernel
theorem d65_21 : decode prog_1_method_36_code 21 = .ok (.if_icmp .ge 24, 3) := by decide +kernel
theorem d65_24 : decode prog_1_method_36_code 24 = .ok (.aload_n 3, 1) := by decide +kernel
theorem d65_25 : decode prog_1_method_36_code 25 = .ok (.iload 5, 2) := by decide +kernel
theorem d65_27 : decode prog_1_method_36_code 27 = .ok (.aaload, 1) := by decide +kernel
theorem d65_28 : decode prog_1_method_36_code 28 = .ok (.astore 6, 2) := by decide +kernel
theorem d65_30 : decode prog_1_method_36_code 30 = .ok (.lload_n 1, 1) := by decide +kernel
theorem d65_31 : decode prog_1_method_36_code 31 = .ok (.aload 6, 2) := by decide +kernel
theorem d65_33 : decode prog_1_method_36_code 33 = .ok (.getfield 220, 3) := by decide +kernel
theorem d65_36 : decode prog_1_method_36_code 36 = .ok (.i2l, 1) := by decide +kernel
theorem d65_37 : decode prog_1_method_36_code 37 = .ok (.ladd, 1) := by decide +kernel
theorem d65_38 : decode prog_1_method_36_code 38 = .ok (.lstore_n 1, 1) := by decide +kernel
theorem d65_39 : decode prog_1_method_36_code 39 = .ok (.iinc 5 1, 3) := by decide +kernel
theorem d65_42 : decode prog_1_method_36_code 42 = .ok (.goto (-25), 3) := by decide +kernel
theorem d65_45 : decode prog_1_method_36_code 45 = .ok (.lload_n 1, 1) := by decide +kernel
theorem d65_46 : decode prog_1_method_36_code 46 = .ok (.lreturn, 1) := by decide +kernel
theorem d66_0 : decode prog_1_method_37_code 0 = .ok (.ldc2_w 223, 3) := by decide +kernel
theorem d66_3 : decode prog_1_method_37_code 3 = .ok (.aload_n 0, 1) := by decide +kernel
theorem d66_4 : decode prog_1_method_37_code 4 = .ok (.getfield 10, 3) := by decide +kernel
theorem d66_7 : decode prog_1_method_37_code 7 = .ok (.getfield 225, 3) := by decide +kernel
theorem d66_10 : decode prog_1_method_37_code 10 = .ok (.lmul, 1) := by decide +kernel
theorem d66_11 : decode prog_1_method_37_code 11 = .ok (.ldc2_w 229, 3) := by decide +kernel
theorem d66_14 : decode prog_1_method_37_code 14 = .ok (.aload_n 0, 1) := by decide +kernel
theorem d66_15 : decode prog_1_method_37_code 15 = .ok (.getfield 10, 3) := by decide +kernel
theorem d66_18 : decode prog_1_method_37_code 18 = .ok (.getfield 231, 3) := by decide +kernel
theorem d66_21 : decode prog_1_method_37_code 21 = .ok (.lmul, 1) := by decide +kernel
theorem d66_22 : decode prog_1_method_37_code 22 = .ok (.lsub, 1) := by decide +kernel
theorem d66_23 : decode prog_1_method_37_code 23 = .ok (.lreturn, 1) := by decide +kernel
theorem d67_0 : decode prog_1_method_38_code 0 = .ok (.aload_n 0, 1) := by decide +kernel
theorem d67_1 : decode prog_1_method_38_code 1 = .ok (.getfield 10, 3) := by decide +kernel
theorem d67_4 : decode prog_1_method_38_code 4 = .ok (.getfield 234, 3) := by decide +kernel
theorem d67_7 : decode prog_1_method_38_code 7 = .ok (.ireturn, 1) := by decide +kernel
theorem d68_0 : decode prog_1_method_40_code 0 = .ok (.iconst 0, 1) := by decide +kernel
theorem d68_1 : decode prog_1_method_40_code 1 = .ok (.istore_n 1, 1) := by decide +kernel
theorem d68_2 : decode prog_1_method_40_code 2 = .ok (.aload_n 0, 1) := by decide +kernel
theorem d68_3 : decode prog_1_method_40_code 3 = .ok (.getfield 10, 3) := by decide +kernel
theorem d68_6 : decode prog_1_method_40_code 6 = .ok (.getfield 174, 3) := by decide +kernel
theorem d68_9 : decode prog_1_method_40_code 9 = .ok (.astore_n 2, 1) := by decide +kernel
theorem d68_10 : decode prog_1_method_40_code 10 = .ok (.aload_n 2, 1) := by decide +kernel
theorem d68_11 : decode prog_1_method_40_code 11 = .ok (.arraylength, 1) := by decide +kernel
theorem d68_12 : decode prog_1_method_40_code 12 = .ok (.istore_n 3, 1) := by decide +kernel
theorem d68_13 : decode prog_1_method_40_code 13 = .ok (.iconst 0, 1) := by decide +kernel
theorem d68_14 : decode prog_1_method_40_code 14 = .ok (.istore 4, 2) := by decide +kernel
theorem d68_16 : decode prog_1_method_40_code 16 = .ok (.iload 4, 2) := by decide +kernel
theorem d68_18 : decode prog_1_method_40_code 18 = .ok (.iload_n 3, 1) := by decide +kernel
theorem d68_19 : decode prog_1_method_40_code 19 = .ok (.if_icmp .ge 24, 3) := by decide +kernel
theorem d68_22 : decode prog_1_method_40_code 22 = .ok (.aload_n 2, 1) := by decide +kernel
theorem d68_23 : decode prog_1_method_40_code 23 = .ok (.iload 4, 2) := by decide +kernel
theorem d68_25 : decode prog_1_method_40_code 25 = .ok (.iaload, 1) := by decide +kernel
theorem d68_26 : decode prog_1_method_40_code 26 = .ok (.istore 5, 2) := by decide +kernel
theorem d68_28 : decode prog_1_method_40_code 28 = .ok (.iload 5, 2) := by decide +kernel
theorem d68_30 : decode prog_1_method_40_code 30 = .ok (.iconst (-1), 1) := by decide +kernel
theorem d68_31 : decode prog_1_method_40_code 31 = .ok (.if_icmp .eq 6, 3) := by decide +kernel
theorem d68_34 : decode prog_1_method_40_code 34 = .ok (.iinc 1 1, 3) := by decide +kernel
theorem d68_37 : decode prog_1_method_40_code 37 = .ok (.iinc 4 1, 3) := by decide +kernel
theorem d68_40 : decode prog_1_method_40_code 40 = .ok (.goto (-24), 3) := by decide +kernel
theorem d68_43 : decode prog_1_method_40_code 43 = .ok (.iload_n 1, 1) := by decide +kernel
theorem d68_44 : decode prog_1_method_40_code 44 = .ok (.i2f, 1) := by decide +kernel
theorem d68_45 : decode prog_1_method_40_code 45 = .ok (.ldc 240, 2) := by decide +kernel
theorem d68_47 : decode prog_1_method_40_code 47 = .ok (.fdiv, 1) := by decide +kernel
theorem d68_48 : decode prog_1_method_40_code 48 = .ok (.freturn, 1) := by decide +kernel
theorem d69_0 : decode prog_1_method_42_code 0 = .ok (.iconst 0, 1) := by decide +kernel
theorem d69_1 : decode prog_1_method_42_code 1 = .ok (.istore_n 1, 1) := by decide +kernel
theorem d69_2 : decode prog_1_method_42_code 2 = .ok (.iload_n 1, 1) := by decide +kernel
theorem d69_3 : decode prog_1_method_42_code 3 = .ok (.iconst 3, 1) := by decide +kernel
theorem d69_4 : decode prog_1_method_42_code 4 = .ok (.if_icmp .ge 68, 3) := by decide +kernel
theorem d69_7 : decode prog_1_method_42_code 7 = .ok (.aload_n 0, 1) := by decide +kernel
theorem d69_8 : decode prog_1_method_42_code 8 = .ok (.getfield 33, 3) := by decide +kernel
theorem d69_11 : decode prog_1_method_42_code 11 = .ok (.aload_n 0, 1) := by decide +kernel
theorem d69_12 : decode prog_1_method_42_code 12 = .ok (.getfield 10, 3) := by decide +kernel
theorem d69_15 : decode prog_1_method_42_code 15 = .ok (.iload_n 1, 1) := by decide +kernel
theorem d69_16 : decode prog_1_method_42_code 16 = .ok (.invokevirtual 207, 3) := by decide +kernel
theorem d69_19 : decode prog_1_method_42_code 19 = .ok (.aload_n 0, 1) := by decide +kernel
theorem d69_20 : decode prog_1_method_42_code 20 = .ok (.getfield 33, 3) := by decide +kernel
theorem d69_23 : decode prog_1_method_42_code 23 = .ok (.aload_n 0, 1) := by decide +kernel
theorem d69_24 : decode prog_1_method_42_code 24 = .ok (.getfield 10, 3) := by decide +kernel
theorem d69_27 : decode prog_1_method_42_code 27 = .ok (.iload_n 1, 1) := by decide +kernel
theorem d69_28 : decode prog_1_method_42_code 28 = .ok (.invokevirtual 211, 3) := by decide +kernel
theorem d69_31 : decode prog_1_method_42_code 31 = .ok (.if_icmp .ne 33, 3) := by decide +kernel
theorem d69_34 : decode prog_1_method_42_code 34 = .ok (.aload_n 0, 1) := by decide +kernel
theorem d69_35 : decode prog_1_method_42_code 35 = .ok (.getfield 10, 3) := by decide +kernel
theorem d69_38 : decode prog_1_method_42_code 38 = .ok (.getfield 203, 3) := by decide +kernel
theorem d69_41 : decode prog_1_method_42_code 41 = .ok (.iload_n 1, 1) := by decide +kernel
theorem d69_42 : decode prog_1_method_42_code 42 = .ok (.aaload, 1) := by decide +kernel
theorem d69_43 : decode prog_1_method_42_code 43 = .ok (.invokevirtual 244, 3) := by decide +kernel
theorem d69_46 : decode prog_1_method_42_code 46 = .ok (.bipush 10, 2) := by decide +kernel
theorem d69_48 : decode prog_1_method_42_code 48 = .ok (.if_icmp .gt 16, 3) := by decide +kernel
theorem d69_51 : decode prog_1_method_42_code 51 = .ok (.aload_n 0, 1) := by decide +kernel
theorem d69_52 : decode prog_1_method_42_code 52 = .ok (.getfield 10, 3) := by decide +kernel
theorem d69_55 : decode prog_1_method_42_code 55 = .ok (.iload_n 1, 1) := by decide +kernel
theorem d69_56 : decode prog_1_method_42_code 56 = .ok (.invokevirtual 190, 3) := by decide +kernel
theorem d69_59 : decode prog_1_method_42_code 59 = .ok (.bipush 6, 2) := by decide +kernel
theorem d69_61 : decode prog_1_method_42_code 61 = .ok (.if_icmp .le 5, 3) := by decide +kernel
theorem d69_64 : decode prog_1_method_42_code 64 = .ok (.iconst 0, 1) := by decide +kernel
theorem d69_65 : decode prog_1_method_42_code 65 = .ok (.ireturn, 1) := by decide +kernel
theorem d69_66 : decode prog_1_method_42_code 66 = .ok (.iinc 1 1, 3) := by decide +kernel
theorem d69_69 : decode prog_1_method_42_code 69 = .ok (.goto (-67), 3) := by decide +kernel
theorem d69_72 : decode prog_1_method_42_code 72 = .ok (.aload_n 0, 1) := by decide +kernel
theorem d69_73 : decode prog_1_method_42_code 73 = .ok (.invokevirtual 248, 3) := by decide +kernel
theorem d69_76 : decode prog_1_method_42_code 76 = .ok (.aload_n 0, 1) := by decide +kernel
theorem d69_77 : decode prog_1_method_42_code 77 = .ok (.invokevirtual 252, 3) := by decide +kernel
theorem d69_80 : decode prog_1_method_42_code 80 = .ok (.lcmp, 1) := by decide +kernel
theorem d69_81 : decode prog_1_method_42_code 81 = .ok (.ifCond .ne 7, 3) := by decide +kernel
theorem d69_84 : decode prog_1_method_42_code 84 = .ok (.iconst 1, 1) := by decide +kernel
theorem d69_85 : decode prog_1_method_42_code 85 = .ok (.goto 4, 3) := by decide +kernel
theorem d69_88 : decode prog_1_method_42_code 88 = .ok (.iconst 0, 1) := by decide +kernel
theorem d69_89 : decode prog_1_method_42_code 89 = .ok (.ireturn, 1) := by decide +kernel
theorem d70_0 : decode prog_1_method_63_code 0 = .ok (.iload_n 0, 1) := by decide +kernel
theorem d70_1 : decode prog_1_method_63_code 1 = .ok (.ifCond .lt 12, 3) := by decide +kernel
theorem d70_4 : decode prog_1_method_63_code 4 = .ok (.iload_n 0, 1) := by decide +kernel
theorem d70_5 : decode prog_1_method_63_code 5 = .ok (.iconst 3, 1) := by decide +kernel
theorem d70_6 : decode prog_1_method_63_code 6 = .ok (.if_icmp .ge 7, 3) := by decide +kernel
theorem d70_9 : decode prog_1_method_63_code 9 = .ok (.iconst 1, 1) := by decide +kernel
theorem d70_10 : decode prog_1_method_63_code 10 = .ok (.goto 4, 3) := by decide +kernel
theorem d70_13 : decode prog_1_method_63_code 13 = .ok (.iconst 0, 1) := by decide +kernel
theorem d70_14 : decode prog_1_method_63_code 14 = .ok (.ireturn, 1) := by decide +kernel
theorem d71_0 : decode prog_1_method_65_code 0 = .ok (.iload_n 0, 1) := by decide +kernel
theorem d71_1 : decode prog_1_method_65_code 1 = .ok (.iload_n 2, 1) := by decide +kernel
theorem d71_2 : decode prog_1_method_65_code 2 = .ok (.isub, 1) := by decide +kernel
theorem d71_3 : decode prog_1_method_65_code 3 = .ok (.invokestatic 353, 3) := by decide +kernel
theorem d71_6 : decode prog_1_method_65_code 6 = .ok (.iload_n 1, 1) := by decide +kernel
theorem d71_7 : decode prog_1_method_65_code 7 = .ok (.iload_n 3, 1) := by decide +kernel
theorem d71_8 : decode prog_1_method_65_code 8 = .ok (.isub, 1) := by decide +kernel
theorem d71_9 : decode prog_1_method_65_code 9 = .ok (.invokestatic 353, 3) := by decide +kernel
theorem d71_12 : decode prog_1_method_65_code 12 = .ok (.iadd, 1) := by decide +kernel
theorem d71_13 : decode prog_1_method_65_code 13 = .ok (.ireturn, 1) := by decide +kernel
theorem d72_0 : decode prog_1_method_51_code 0 = .ok (.aload_n 0, 1) := by decide +kernel
theorem d72_1 : decode prog_1_method_51_code 1 = .ok (.getfield 16, 3) := by decide +kernel
theorem d72_4 : decode prog_1_method_51_code 4 = .ok (.aload_n 0, 1) := by decide +kernel
theorem d72_5 : decode prog_1_method_51_code 5 = .ok (.getfield 10, 3) := by decide +kernel
theorem d72_8 : decode prog_1_method_51_code 8 = .ok (.invokevirtual 314, 3) := by decide +kernel
theorem d72_11 : decode prog_1_method_51_code 11 = .ok (.aload_n 0, 1) := by decide +kernel
theorem d72_12 : decode prog_1_method_51_code 12 = .ok (.iconst 1, 1) := by decide +kernel
theorem d72_13 : decode prog_1_method_51_code 13 = .ok (.putfield 19, 3) := by decide +kernel
theorem d72_16 : decode prog_1_method_51_code 16 = .ok (.aload_n 0, 1) := by decide +kernel
theorem d72_17 : decode prog_1_method_51_code 17 = .ok (.getfield 10, 3) := by decide +kernel
theorem d72_20 : decode prog_1_method_51_code 20 = .ok (.getfield 106, 3) := by decide +kernel
theorem d72_23 : decode prog_1_method_51_code 23 = .ok (.ireturn, 1) := by decide +kernel
theorem d73_0 : decode prog_1_method_2_code 0 = .ok (.aload_n 0, 1) := by decide +kernel
theorem d73_1 : decode prog_1_method_2_code 1 = .ok (.getfield 26, 3) := by decide +kernel
theorem d73_4 : decode prog_1_method_2_code 4 = .ok (.aload_n 0, 1) := by decide +kernel
theorem d73_5 : decode prog_1_method_2_code 5 = .ok (.getfield 10, 3) := by decide +kernel
theorem d73_8 : decode prog_1_method_2_code 8 = .ok (.invokevirtual 58, 3) := by decide +kernel
theorem d73_11 : decode prog_1_method_2_code 11 = .ok (.aload_n 0, 1) := by decide +kernel
theorem d73_12 : decode prog_1_method_2_code 12 = .ok (.aload_n 0, 1) := by decide +kernel
theorem d73_13 : decode prog_1_method_2_code 13 = .ok (.getfield 10, 3) := by decide +kernel
theorem d73_16 : decode prog_1_method_2_code 16 = .ok (.iload_n 1, 1) := by decide +kernel
theorem d73_17 : decode prog_1_method_2_code 17 = .ok (.iload_n 2, 1) := by decide +kernel
theorem d73_18 : decode prog_1_method_2_code 18 = .ok (.iload_n 3, 1) := by decide +kernel
theorem d73_19 : decode prog_1_method_2_code 19 = .ok (.invokestatic 62, 3) := by decide +kernel
theorem d73_22 : decode prog_1_method_2_code 22 = .ok (.iload 4, 2) := by decide +kernel
theorem d73_24 : decode prog_1_method_2_code 24 = .ok (.iload 5, 2) := by decide +kernel
theorem d73_26 : decode prog_1_method_2_code 26 = .ok (.iload 6, 2) := by decide +kernel
theorem d73_28 : decode prog_1_method_2_code 28 = .ok (.invokevirtual 66, 3) := by decide +kernel
theorem d73_31 : decode prog_1_method_2_code 31 = .ok (.invokevirtual 70, 3) := by decide +kernel
theorem d73_34 : decode prog_1_method_2_code 34 = .ok (.ireturn, 1) := by decide +kernel
theorem d74_0 : decode prog_1_method_59_code 0 = .ok (.iload_n 0, 1) := by decide +kernel
theorem d74_1 : decode prog_1_method_59_code 1 = .ok (.bipush 97, 2) := by decide +kernel
theorem d74_3 : decode prog_1_method_59_code 3 = .ok (.if_icmp .lt 16, 3) := by decide +kernel
theorem d74_6 : decode prog_1_method_59_code 6 = .ok (.iload_n 0, 1) := by decide +kernel
theorem d74_7 : decode prog_1_method_59_code 7 = .ok (.bipush 101, 2) := by decide +kernel
theorem d74_9 : decode prog_1_method_59_code 9 = .ok (.if_icmp .ge 10, 3) := by decide +kernel
theorem d74_12 : decode prog_1_method_59_code 12 = .ok (.iload_n 0, 1) := by decide +kernel
theorem d74_13 : decode prog_1_method_59_code 13 = .ok (.bipush 97, 2) := by decide +kernel
theorem d74_15 : decode prog_1_method_59_code 15 = .ok (.isub, 1) := by decide +kernel
theorem d74_16 : decode prog_1_method_59_code 16 = .ok (.goto 4, 3) := by decide +kernel
theorem d74_19 : decode prog_1_method_59_code 19 = .ok (.iconst (-1), 1) := by decide +kernel
theorem d74_20 : decode prog_1_method_59_code 20 = .ok (.ireturn, 1) := by decide +kernel
theorem d75_0 : decode prog_1_method_64_code 0 = .ok (.iload_n 0, 1) := by decide +kernel
theorem d75_1 : decode prog_1_method_64_code 1 = .ok (.ifCond .lt 13, 3) := by decide +kernel
theorem d75_4 : decode prog_1_method_64_code 4 = .ok (.iload_n 0, 1) := by decide +kernel
theorem d75_5 : decode prog_1_method_64_code 5 = .ok (.bipush 20, 2) := by decide +kernel
theorem d75_7 : decode prog_1_method_64_code 7 = .ok (.if_icmp .gt 7, 3) := by decide +kernel
theorem d75_10 : decode prog_1_method_64_code 10 = .ok (.iconst 1, 1) := by decide +kernel
theorem d75_11 : decode prog_1_method_64_code 11 = .ok (.goto 4, 3) := by decide +kernel
theorem d75_14 : decode prog_1_method_64_code 14 = .ok (.iconst 0, 1) := by decide +kernel
theorem d75_15 : decode prog_1_method_64_code 15 = .ok (.ireturn, 1) := by decide +kernel
theorem d76_0 : decode prog_1_method_61_code 0 = .ok (.iload_n 0, 1) := by decide +kernel
theorem d76_1 : decode prog_1_method_61_code 1 = .ok (.ifCond .lt 12, 3) := by decide +kernel
theorem d76_4 : decode prog_1_method_61_code 4 = .ok (.iload_n 0, 1) := by decide +kernel
theorem d76_5 : decode prog_1_method_61_code 5 = .ok (.iconst 4, 1) := by decide +kernel
theorem d76_6 : decode prog_1_method_61_code 6 = .ok (.if_icmp .ge 7, 3) := by decide +kernel
theorem d76_9 : decode prog_1_method_61_code 9 = .ok (.iconst 1, 1) := by decide +kernel
theorem d76_10 : decode prog_1_method_61_code 10 = .ok (.goto 4, 3) := by decide +kernel
theorem d76_13 : decode prog_1_method_61_code 13 = .ok (.iconst 0, 1) := by decide +kernel
theorem d76_14 : decode prog_1_method_61_code 14 = .ok (.ireturn, 1) := by decide +kernel
theorem d77_0 : decode prog_1_method_62_code 0 = .ok (.iload_n 0, 1) := by decide +kernel
theorem d77_1 : decode prog_1_method_62_code 1 = .ok (.ifCond .lt 13, 3) := by decide +kernel
theorem d77_4 : decode prog_1_method_62_code 4 = .ok (.iload_n 0, 1) := by decide +kernel
theorem d77_5 : decode prog_1_method_62_code 5 = .ok (.bipush 6, 2) := by decide +kernel
theorem d77_7 : decode prog_1_method_62_code 7 = .ok (.if_icmp .ge 7, 3) := by decide +kernel
theorem d77_10 : decode prog_1_method_62_code 10 = .ok (.iconst 1, 1) := by decide +kernel
theorem d77_11 : decode prog_1_method_62_code 11 = .ok (.goto 4, 3) := by decide +kernel
theorem d77_14 : decode prog_1_method_62_code 14 = .ok (.iconst 0, 1) := by decide +kernel
theorem d77_15 : decode prog_1_method_62_code 15 = .ok (.ireturn, 1) := by decide +kernel
theorem d78_0 : decode prog_1_method_53_code 0 = .ok (.iload_n 1, 1) := by decide +kernel
theorem d78_1 : decode prog_1_method_53_code 1 = .ok (.tableswitch 75 (-5) (-1) #[67, 59, 51, 43, 35], 35) := by decide +kernel
theorem d78_36 : decode prog_1_method_53_code 36 = .ok (.new 294, 3) := by decide +kernel
theorem d78_39 : decode prog_1_method_53_code 39 = .ok (.dup, 1) := by decide +kernel
theorem d78_40 : decode prog_1_method_53_code 40 = .ok (.invokespecial 296, 3) := by decide +kernel
theorem d78_43 : decode prog_1_method_53_code 43 = .ok (.athrow, 1) := by decide +kernel
theorem d78_44 : decode prog_1_method_53_code 44 = .ok (.new 283, 3) := by decide +kernel
theorem d78_47 : decode prog_1_method_53_code 47 = .ok (.dup, 1) := by decide +kernel
theorem d78_48 : decode prog_1_method_53_code 48 = .ok (.invokespecial 285, 3) := by decide +kernel
theorem d78_51 : decode prog_1_method_53_code 51 = .ok (.athrow, 1) := by decide +kernel
theorem d78_52 : decode prog_1_method_53_code 52 = .ok (.new 171, 3) := by decide +kernel
theorem d78_55 : decode prog_1_method_53_code 55 = .ok (.dup, 1) := by decide +kernel
theorem d78_56 : decode prog_1_method_53_code 56 = .ok (.invokespecial 173, 3) := by decide +kernel
theorem d78_59 : decode prog_1_method_53_code 59 = .ok (.athrow, 1) := by decide +kernel
theorem d78_60 : decode prog_1_method_53_code 60 = .ok (.new 134, 3) := by decide +kernel
theorem d78_63 : decode prog_1_method_53_code 63 = .ok (.dup, 1) := by decide +kernel
theorem d78_64 : decode prog_1_method_53_code 64 = .ok (.invokespecial 136, 3) := by decide +kernel
theorem d78_67 : decode prog_1_method_53_code 67 = .ok (.athrow, 1) := by decide +kernel
theorem d78_68 : decode prog_1_method_53_code 68 = .ok (.new 303, 3) := by decide +kernel
theorem d78_71 : decode prog_1_method_53_code 71 = .ok (.dup, 1) := by decide +kernel
theorem d78_72 : decode prog_1_method_53_code 72 = .ok (.invokespecial 305, 3) := by decide +kernel
theorem d78_75 : decode prog_1_method_53_code 75 = .ok (.athrow, 1) := by decide +kernel
theorem d78_76 : decode prog_1_method_53_code 76 = .ok (.aload_n 0, 1) := by decide +kernel
theorem d78_77 : decode prog_1_method_53_code 77 = .ok (.getfield 26, 3) := by decide +kernel
theorem d78_80 : decode prog_1_method_53_code 80 = .ok (.invokevirtual 306, 3) := by decide +kernel
theorem d78_83 : decode prog_1_method_53_code 83 = .ok (.iload_n 1, 1) := by decide +kernel
theorem d78_84 : decode prog_1_method_53_code 84 = .ok (.ireturn, 1) := by decide +kernel
theorem d79_0 : decode prog_1_method_3_code 0 = .ok (.aload_n 0, 1) := by decide +kernel
theorem d79_1 : decode prog_1_method_3_code 1 = .ok (.getfield 26, 3) := by decide +kernel
theorem d79_4 : decode prog_1_method_3_code 4 = .ok (.aload_n 0, 1) := by decide +kernel
theorem d79_5 : decode prog_1_method_3_code 5 = .ok (.getfield 10, 3) := by decide +kernel
theorem d79_8 : decode prog_1_method_3_code 8 = .ok (.invokevirtual 58, 3) := by decide +kernel
theorem d79_11 : decode prog_1_method_3_code 11 = .ok (.aload_n 0, 1) := by decide +kernel
theorem d79_12 : decode prog_1_method_3_code 12 = .ok (.aload_n 0, 1) := by decide +kernel
theorem d79_13 : decode prog_1_method_3_code 13 = .ok (.getfield 10, 3) := by decide +kernel
theorem d79_16 : decode prog_1_method_3_code 16 = .ok (.iload_n 1, 1) := by decide +kernel
theorem d79_17 : decode prog_1_method_3_code 17 = .ok (.invokevirtual 74, 3) := by decide +kernel
theorem d79_20 : decode prog_1_method_3_code 20 = .ok (.invokevirtual 70, 3) := by decide +kernel
theorem d79_23 : decode prog_1_method_3_code 23 = .ok (.ireturn, 1) := by decide +kernel
theorem d80_0 : decode prog_1_method_4_code 0 = .ok (.aload_n 0, 1) := by decide +kernel
theorem d80_1 : decode prog_1_method_4_code 1 = .ok (.getfield 26, 3) := by decide +kernel
theorem d80_4 : decode prog_1_method_4_code 4 = .ok (.aload_n 0, 1) := by decide +kernel
theorem d80_5 : decode prog_1_method_4_code 5 = .ok (.getfield 10, 3) := by decide +kernel
theorem d80_8 : decode prog_1_method_4_code 8 = .ok (.invokevirtual 58, 3) := by decide +kernel
theorem d80_11 : decode prog_1_method_4_code 11 = .ok (.aload_n 0, 1) := by decide +kernel
theorem d80_12 : decode prog_1_method_4_code 12 = .ok (.aload_n 0, 1) := by decide +kernel
theorem d80_13 : decode prog_1_method_4_code 13 = .ok (.getfield 10, 3) := by decide +kernel
theorem d80_16 : decode prog_1_method_4_code 16 = .ok (.iload_n 1, 1) := by decide +kernel
theorem d80_17 : decode prog_1_method_4_code 17 = .ok (.iload_n 2, 1) := by decide +kernel
theorem d80_18 : decode prog_1_method_4_code 18 = .ok (.invokevirtual 77, 3) := by decide +kernel
theorem d80_21 : decode prog_1_method_4_code 21 = .ok (.invokevirtual 70, 3) := by decide +kernel
theorem d80_24 : decode prog_1_method_4_code 24 = .ok (.ireturn, 1) := by decide +kernel
theorem d81_0 : decode prog_1_method_5_code 0 = .ok (.aload_n 0, 1) := by decide +kernel
theorem d81_1 : decode prog_1_method_5_code 1 = .ok (.getfield 26, 3) := by decide +kernel
theorem d81_4 : decode prog_1_method_5_code 4 = .ok (.aload_n 0, 1) := by decide +kernel
theorem d81_5 : decode prog_1_method_5_code 5 = .ok (.getfield 10, 3) := by decide +kernel
theorem d81_8 : decode prog_1_method_5_code 8 = .ok (.invokevirtual 58, 3) := by decide +kernel
theorem d81_11 : decode prog_1_method_5_code 11 = .ok (.aload_n 0, 1) := by decide +kernel
theorem d81_12 : decode prog_1_method_5_code 12 = .ok (.aload_n 0, 1) := by decide +kernel
theorem d81_13 : decode prog_1_method_5_code 13 = .ok (.getfield 10, 3) := by decide +kernel
theorem d81_16 : decode prog_1_method_5_code 16 = .ok (.iload_n 1, 1) := by decide +kernel
theorem d81_17 : decode prog_1_method_5_code 17 = .ok (.invokevirtual 81, 3) := by decide +kernel
theorem d81_20 : decode prog_1_method_5_code 20 = .ok (.invokevirtual 70, 3) := by decide +kernel
theorem d81_23 : decode prog_1_method_5_code 23 = .ok (.ireturn, 1) := by decide +kernel
theorem d82_0 : decode prog_1_method_6_code 0 = .ok (.aload_n 0, 1) := by decide +kernel
theorem d82_1 : decode prog_1_method_6_code 1 = .ok (.getfield 26, 3) := by decide +kernel
theorem d82_4 : decode prog_1_method_6_code 4 = .ok (.aload_n 0, 1) := by decide +kernel
theorem d82_5 : decode prog_1_method_6_code 5 = .ok (.getfield 10, 3) := by decide +kernel
theorem d82_8 : decode prog_1_method_6_code 8 = .ok (.invokevirtual 58, 3) := by decide +kernel
theorem d82_11 : decode prog_1_method_6_code 11 = .ok (.aload_n 0, 1) := by decide +kernel
theorem d82_12 : decode prog_1_method_6_code 12 = .ok (.aload_n 0, 1) := by decide +kernel
theorem d82_13 : decode prog_1_method_6_code 13 = .ok (.getfield 10, 3) := by decide +kernel
theorem d82_16 : decode prog_1_method_6_code 16 = .ok (.iload_n 1, 1) := by decide +kernel
theorem d82_17 : decode prog_1_method_6_code 17 = .ok (.invokestatic 62, 3) := by decide +kernel
theorem d82_20 : decode prog_1_method_6_code 20 = .ok (.iload_n 2, 1) := by decide +kernel
theorem d82_21 : decode prog_1_method_6_code 21 = .ok (.invokevirtual 84, 3) := by decide +kernel
theorem d82_24 : decode prog_1_method_6_code 24 = .ok (.invokevirtual 70, 3) := by decide +kernel
theorem d82_27 : decode prog_1_method_6_code 27 = .ok (.ireturn, 1) := by decide +kernel
theorem d83_0 : decode prog_1_method_7_code 0 = .ok (.aload_n 0, 1) := by decide +kernel
theorem d83_1 : decode prog_1_method_7_code 1 = .ok (.getfield 26, 3) := by decide +kernel
theorem d83_4 : decode prog_1_method_7_code 4 = .ok (.aload_n 0, 1) := by decide +kernel
theorem d83_5 : decode prog_1_method_7_code 5 = .ok (.getfield 10, 3) := by decide +kernel
theorem d83_8 : decode prog_1_method_7_code 8 = .ok (.invokevirtual 58, 3) := by decide +kernel
theorem d83_11 : decode prog_1_method_7_code 11 = .ok (.aload_n 0, 1) := by decide +kernel
theorem d83_12 : decode prog_1_method_7_code 12 = .ok (.aload_n 0, 1) := by decide +kernel
theorem d83_13 : decode prog_1_method_7_code 13 = .ok (.getfield 10, 3) := by decide +kernel
theorem d83_16 : decode prog_1_method_7_code 16 = .ok (.iload_n 1, 1) := by decide +kernel
theorem d83_17 : decode prog_1_method_7_code 17 = .ok (.iload_n 2, 1) := by decide +kernel
theorem d83_18 : decode prog_1_method_7_code 18 = .ok (.invokestatic 62, 3) := by decide +kernel
theorem d83_21 : decode prog_1_method_7_code 21 = .ok (.iload_n 3, 1) := by decide +kernel
theorem d83_22 : decode prog_1_method_7_code 22 = .ok (.invokevirtual 87, 3) := by decide +kernel
theorem d83_25 : decode prog_1_method_7_code 25 = .ok (.invokevirtual 70, 3) := by decide +kernel
theorem d83_28 : decode prog_1_method_7_code 28 = .ok (.ireturn, 1) := by decide +kernel
theorem d84_0 : decode prog_1_method_8_code 0 = .ok (.aload_n 0, 1) := by decide +kernel
theorem d84_1 : decode prog_1_method_8_code 1 = .ok (.getfield 26, 3) := by decide +kernel
theorem d84_4 : decode prog_1_method_8_code 4 = .ok (.aload_n 0, 1) := by decide +kernel
theorem d84_5 : decode prog_1_method_8_code 5 = .ok (.getfield 10, 3) := by decide +kernel
theorem d84_8 : decode prog_1_method_8_code 8 = .ok (.invokevirtual 58, 3) := by decide +kernel
theorem d84_11 : decode prog_1_method_8_code 11 = .ok (.aload_n 0, 1) := by decide +kernel
theorem d84_12 : decode prog_1_method_8_code 12 = .ok (.aload_n 0, 1) := by decide +kernel
theorem d84_13 : decode prog_1_method_8_code 13 = .ok (.getfield 10, 3) := by decide +kernel
theorem d84_16 : decode prog_1_method_8_code 16 = .ok (.iload_n 1, 1) := by decide +kernel
theorem d84_17 : decode prog_1_method_8_code 17 = .ok (.iload_n 2, 1) := by decide +kernel
theorem d84_18 : decode prog_1_method_8_code 18 = .ok (.invokevirtual 91, 3) := by decide +kernel
theorem d84_21 : decode prog_1_method_8_code 21 = .ok (.invokevirtual 70, 3) := by decide +kernel
theorem d84_24 : decode prog_1_method_8_code 24 = .ok (.ireturn, 1) := by decide +kernel
theorem d85_0 : decode prog_1_method_9_code 0 = .ok (.aload_n 0, 1) := by decide +kernel
theorem d85_1 : decode prog_1_method_9_code 1 = .ok (.getfield 26, 3) := by decide +kernel
theorem d85_4 : decode prog_1_method_9_code 4 = .ok (.aload_n 0, 1) := by decide +kernel
theorem d85_5 : decode prog_1_method_9_code 5 = .ok (.getfield 10, 3) := by decide +kernel
theorem d85_8 : decode prog_1_method_9_code 8 = .ok (.invokevirtual 58, 3) := by decide +kernel
theorem d85_11 : decode prog_1_method_9_code 11 = .ok (.aload_n 0, 1) := by decide +kernel
theorem d85_12 : decode prog_1_method_9_code 12 = .ok (.aload_n 0, 1) := by decide +kernel
theorem d85_13 : decode prog_1_method_9_code 13 = .ok (.getfield 10, 3) := by decide +kernel
theorem d85_16 : decode prog_1_method_9_code 16 = .ok (.iload_n 1, 1) := by decide +kernel
theorem d85_17 : decode prog_1_method_9_code 17 = .ok (.iload_n 2, 1) := by decide +kernel
theorem d85_18 : decode prog_1_method_9_code 18 = .ok (.invokevirtual 94, 3) := by decide +kernel
theorem d85_21 : decode prog_1_method_9_code 21 = .ok (.invokevirtual 70, 3) := by decide +kernel
theorem d85_24 : decode prog_1_method_9_code 24 = .ok (.ireturn, 1) := by decide +kernel
theorem d86_0 : decode prog_1_method_10_code 0 = .ok (.aload_n 0, 1) := by decide +kernel
theorem d86_1 : decode prog_1_method_10_code 1 = .ok (.getfield 26, 3) := by decide +kernel
theorem d86_4 : decode prog_1_method_10_code 4 = .ok (.aload_n 0, 1) := by decide +kernel
theorem d86_5 : decode prog_1_method_10_code 5 = .ok (.getfield 10, 3) := by decide +kernel
theorem d86_8 : decode prog_1_method_10_code 8 = .ok (.invokevirtual 58, 3) := by decide +kernel
theorem d86_11 : decode prog_1_method_10_code 11 = .ok (.aload_n 0, 1) := by decide +kernel
theorem d86_12 : decode prog_1_method_10_code 12 = .ok (.aload_n 0, 1) := by decide +kernel
theorem d86_13 : decode prog_1_method_10_code 13 = .ok (.getfield 10, 3) := by decide +kernel
theorem d86_16 : decode prog_1_method_10_code 16 = .ok (.iload_n 1, 1) := by decide +kernel
theorem d86_17 : decode prog_1_method_10_code 17 = .ok (.iload_n 2, 1) := by decide +kernel
theorem d86_18 : decode prog_1_method_10_code 18 = .ok (.invokevirtual 97, 3) := by decide +kernel
theorem d86_21 : decode prog_1_method_10_code 21 = .ok (.invokevirtual 70, 3) := by decide +kernel
theorem d86_24 : decode prog_1_method_10_code 24 = .ok (.ireturn, 1) := by decide +kernel
theorem d87_0 : decode prog_1_method_11_code 0 = .ok (.aload_n 0, 1) := by decide +kernel
theorem d87_1 : decode prog_1_method_11_code 1 = .ok (.getfield 26, 3) := by decide +kernel
theorem d87_4 : decode prog_1_method_11_code 4 = .ok (.aload_n 0, 1) := by decide +kernel
theorem d87_5 : decode prog_1_method_11_code 5 = .ok (.getfield 10, 3) := by decide +kernel
theorem d87_8 : decode prog_1_method_11_code 8 = .ok (.invokevirtual 58, 3) := by decide +kernel
theorem d87_11 : decode prog_1_method_11_code 11 = .ok (.aload_n 0, 1) := by decide +kernel
theorem d87_12 : decode prog_1_method_11_code 12 = .ok (.aload_n 0, 1) := by decide +kernel
theorem d87_13 : decode prog_1_method_11_code 13 = .ok (.getfield 10, 3) := by decide +kernel
theorem d87_16 : decode prog_1_method_11_code 16 = .ok (.iload_n 1, 1) := by decide +kernel
theorem d87_17 : decode prog_1_method_11_code 17 = .ok (.invokevirtual 100, 3) := by decide +kernel
theorem d87_20 : decode prog_1_method_11_code 20 = .ok (.invokevirtual 70, 3) := by decide +kernel
theorem d87_23 : decode prog_1_method_11_code 23 = .ok (.ireturn, 1) := by decide +kernel
theorem d88_0 : decode prog_1_method_12_code 0 = .ok (.aload_n 0, 1) := by decide +kernel
theorem d88_1 : decode prog_1_method_12_code 1 = .ok (.getfield 26, 3) := by decide +kernel
theorem d88_4 : decode prog_1_method_12_code 4 = .ok (.aload_n 0, 1) := by decide +kernel
theorem d88_5 : decode prog_1_method_12_code 5 = .ok (.getfield 10, 3) := by decide +kernel
theorem d88_8 : decode prog_1_method_12_code 8 = .ok (.invokevirtual 58, 3) := by decide +kernel
theorem d88_11 : decode prog_1_method_12_code 11 = .ok (.aload_n 0, 1) := by decide +kernel
theorem d88_12 : decode prog_1_method_12_code 12 = .ok (.aload_n 0, 1) := by decide +kernel
theorem d88_13 : decode prog_1_method_12_code 13 = .ok (.getfield 10, 3) := by decide +kernel
theorem d88_16 : decode prog_1_method_12_code 16 = .ok (.iload_n 1, 1) := by decide +kernel
theorem d88_17 : decode prog_1_method_12_code 17 = .ok (.iload_n 2, 1) := by decide +kernel
theorem d88_18 : decode prog_1_method_12_code 18 = .ok (.invokevirtual 103, 3) := by decide +kernel
theorem d88_21 : decode prog_1_method_12_code 21 = .ok (.invokevirtual 70, 3) := by decide +kernel
theorem d88_24 : decode prog_1_method_12_code 24 = .ok (.ireturn, 1) := by decide +kernel
theorem d89_0 : decode prog_1_method_15_code 0 = .ok (.aload_n 0, 1) := by decide +kernel
theorem d89_1 : decode prog_1_method_15_code 1 = .ok (.iload_n 1, 1) := by decide +kernel
theorem d89_2 : decode prog_1_method_15_code 2 = .ok (.invokevirtual 113, 3) := by decide +kernel
theorem d89_5 : decode prog_1_method_15_code 5 = .ok (.getfield 116, 3) := by decide +kernel
theorem d89_8 : decode prog_1_method_15_code 8 = .ok (.invokestatic 121, 3) := by decide +kernel
theorem d89_11 : decode prog_1_method_15_code 11 = .ok (.ireturn, 1) := by decide +kernel
theorem d90_0 : decode prog_1_method_57_code 0 = .ok (.aload_n 0, 1) := by decide +kernel
theorem d90_1 : decode prog_1_method_57_code 1 = .ok (.getfield 10, 3) := by decide +kernel
theorem d90_4 : decode prog_1_method_57_code 4 = .ok (.iload_n 1, 1) := by decide +kernel
theorem d90_5 : decode prog_1_method_57_code 5 = .ok (.invokevirtual 109, 3) := by decide +kernel
theorem d90_8 : decode prog_1_method_57_code 8 = .ok (.astore_n 2, 1) := by decide +kernel
theorem d90_9 : decode prog_1_method_57_code 9 = .ok (.aload_n 2, 1) := by decide +kernel
theorem d90_10 : decode prog_1_method_57_code 10 = .ok (.ifnonnull 11, 3) := by decide +kernel
theorem d90_13 : decode prog_1_method_57_code 13 = .ok (.new 134, 3) := by decide +kernel
theorem d90_16 : decode prog_1_method_57_code 16 = .ok (.dup, 1) := by decide +kernel
theorem d90_17 : decode prog_1_method_57_code 17 = .ok (.invokespecial 136, 3) := by decide +kernel
theorem d90_20 : decode prog_1_method_57_code 20 = .ok (.athrow, 1) := by decide +kernel
theorem d90_21 : decode prog_1_method_57_code 21 = .ok (.aload_n 2, 1) := by decide +kernel
theorem d90_22 : decode prog_1_method_57_code 22 = .ok (.areturn, 1) := by decide +kernel
theorem d91_0 : decode prog_1_method_60_code 0 = .ok (.bipush 97, 2) := by decide +kernel
theorem d91_2 : decode prog_1_method_60_code 2 = .ok (.iload_n 0, 1) := by decide +kernel
theorem d91_3 : decode prog_1_method_60_code 3 = .ok (.iadd, 1) := by decide +kernel
theorem d91_4 : decode prog_1_method_60_code 4 = .ok (.i2c, 1) := by decide +kernel
theorem d91_5 : decode prog_1_method_60_code 5 = .ok (.ireturn, 1) := by decide +kernel
theorem d92_0 : decode prog_1_method_16_code 0 = .ok (.aload_n 0, 1) := by decide +kernel
theorem d92_1 : decode prog_1_method_16_code 1 = .ok (.iload_n 1, 1) := by decide +kernel
theorem d92_2 : decode prog_1_method_16_code 2 = .ok (.invokevirtual 113, 3) := by decide +kernel
theorem d92_5 : decode prog_1_method_16_code 5 = .ok (.getfield 125, 3) := by decide +kernel
theorem d92_8 : decode prog_1_method_16_code 8 = .ok (.ireturn, 1) := by decide +kernel
theorem d93_0 : decode prog_1_method_17_code 0 = .ok (.aload_n 0, 1) := by decide +kernel
theorem d93_1 : decode prog_1_method_17_code 1 = .ok (.iload_n 1, 1) := by decide +kernel
theorem d93_2 : decode prog_1_method_17_code 2 = .ok (.invokevirtual 113, 3) := by decide +kernel
theorem d93_5 : decode prog_1_method_17_code 5 = .ok (.getfield 128, 3) := by decide +kernel
theorem d93_8 : decode prog_1_method_17_code 8 = .ok (.ireturn, 1) := by decide +kernel
theorem d94_0 : decode prog_1_method_18_code 0 = .ok (.aload_n 0, 1) := by decide +kernel
theorem d94_1 : decode prog_1_method_18_code 1 = .ok (.iload_n 1, 1) := by decide +kernel
theorem d94_2 : decode prog_1_method_18_code 2 = .ok (.invokevirtual 113, 3) := by decide +kernel
theorem d94_5 : decode prog_1_method_18_code 5 = .ok (.getfield 131, 3) := by decide +kernel
theorem d94_8 : decode prog_1_method_18_code 8 = .ok (.istore_n 2, 1) := by decide +kernel
theorem d94_9 : decode prog_1_method_18_code 9 = .ok (.iload_n 2, 1) := by decide +kernel
theorem d94_10 : decode prog_1_method_18_code 10 = .ok (.iconst (-1), 1) := by decide +kernel
theorem d94_11 : decode prog_1_method_18_code 11 = .ok (.if_icmp .ne 11, 3) := by decide +kernel
theorem d94_14 : decode prog_1_method_18_code 14 = .ok (.new 134, 3) := by decide +kernel
theorem d94_17 : decode prog_1_method_18_code 17 = .ok (.dup, 1) := by decide +kernel
theorem d94_18 : decode prog_1_method_18_code 18 = .ok (.invokespecial 136, 3) := by decide +kernel
theorem d94_21 : decode prog_1_method_18_code 21 = .ok (.athrow, 1) := by decide +kernel
theorem d94_22 : decode prog_1_method_18_code 22 = .ok (.iload_n 2, 1) := by decide +kernel
theorem d94_23 : decode prog_1_method_18_code 23 = .ok (.ireturn, 1) := by decide +kernel
theorem d95_0 : decode prog_1_method_19_code 0 = .ok (.iconst 0, 1) := by decide +kernel
theorem d95_1 : decode prog_1_method_19_code 1 = .ok (.istore_n 2, 1) := by decide +kernel
theorem d95_2 : decode prog_1_method_19_code 2 = .ok (.iload_n 2, 1) := by decide +kernel
theorem d95_3 : decode prog_1_method_19_code 3 = .ok (.aload_n 0, 1) := by decide +kernel
theorem d95_4 : decode prog_1_method_19_code 4 = .ok (.getfield 10, 3) := by decide +kernel
theorem d95_7 : decode prog_1_method_19_code 7 = .ok (.getfield 106, 3) := by decide +kernel
theorem d95_10 : decode prog_1_method_19_code 10 = .ok (.if_icmp .ge 36, 3) := by decide +kernel
theorem d95_13 : decode prog_1_method_19_code 13 = .ok (.aload_n 0, 1) := by decide +kernel
theorem d95_14 : decode prog_1_method_19_code 14 = .ok (.getfield 10, 3) := by decide +kernel
theorem d95_17 : decode prog_1_method_19_code 17 = .ok (.getfield 137, 3) := by decide +kernel
theorem d95_20 : decode prog_1_method_19_code 20 = .ok (.iload_n 2, 1) := by decide +kernel
theorem d95_21 : decode prog_1_method_19_code 21 = .ok (.aaload, 1) := by decide +kernel
theorem d95_22 : decode prog_1_method_19_code 22 = .ok (.astore_n 3, 1) := by decide +kernel
theorem d95_23 : decode prog_1_method_19_code 23 = .ok (.aload_n 0, 1) := by decide +kernel
theorem d95_24 : decode prog_1_method_19_code 24 = .ok (.getfield 10, 3) := by decide +kernel
theorem d95_27 : decode prog_1_method_19_code 27 = .ok (.aload_n 3, 1) := by decide +kernel
theorem d95_28 : decode prog_1_method_19_code 28 = .ok (.invokevirtual 141, 3) := by decide +kernel
theorem d95_31 : decode prog_1_method_19_code 31 = .ok (.iload_n 1, 1) := by decide +kernel
theorem d95_32 : decode prog_1_method_19_code 32 = .ok (.if_icmp .ne 8, 3) := by decide +kernel
theorem d95_35 : decode prog_1_method_19_code 35 = .ok (.aload_n 3, 1) := by decide +kernel
theorem d95_36 : decode prog_1_method_19_code 36 = .ok (.getfield 145, 3) := by decide +kernel
theorem d95_39 : decode prog_1_method_19_code 39 = .ok (.ireturn, 1) := by decide +kernel
theorem d95_40 : decode prog_1_method_19_code 40 = .ok (.iinc 2 1, 3) := by decide +kernel
theorem d95_43 : decode prog_1_method_19_code 43 = .ok (.goto (-41), 3) := by decide +kernel
theorem d95_46 : decode prog_1_method_19_code 46 = .ok (.new 134, 3) := by decide +kernel
theorem d95_49 : decode prog_1_method_19_code 49 = .ok (.dup, 1) := by decide +kernel
theorem d95_50 : decode prog_1_method_19_code 50 = .ok (.invokespecial 136, 3) := by decide +kernel
theorem d95_53 : decode prog_1_method_19_code 53 = .ok (.athrow, 1) := by decide +kernel
theorem d96_0 : decode prog_1_method_20_code 0 = .ok (.aload_n 0, 1) := by decide +kernel
theorem d96_1 : decode prog_1_method_20_code 1 = .ok (.getfield 10, 3) := by decide +kernel
theorem d96_4 : decode prog_1_method_20_code 4 = .ok (.getfield 148, 3) := by decide +kernel
theorem d96_7 : decode prog_1_method_20_code 7 = .ok (.iload_n 1, 1) := by decide +kernel
theorem d96_8 : decode prog_1_method_20_code 8 = .ok (.invokestatic 152, 3) := by decide +kernel
theorem d96_11 : decode prog_1_method_20_code 11 = .ok (.iaload, 1) := by decide +kernel
theorem d96_12 : decode prog_1_method_20_code 12 = .ok (.ireturn, 1) := by decide +kernel
theorem d97_0 : decode prog_1_method_58_code 0 = .ok (.iload_n 0, 1) := by decide +kernel
theorem d97_1 : decode prog_1_method_58_code 1 = .ok (.invokestatic 62, 3) := by decide +kernel
theorem d97_4 : decode prog_1_method_58_code 4 = .ok (.istore_n 1, 1) := by decide +kernel
theorem d97_5 : decode prog_1_method_58_code 5 = .ok (.iload_n 1, 1) := by decide +kernel
theorem d97_6 : decode prog_1_method_58_code 6 = .ok (.invokestatic 350, 3) := by decide +kernel
theorem d97_9 : decode prog_1_method_58_code 9 = .ok (.ifCond .ne 11, 3) := by decide +kernel
theorem d97_12 : decode prog_1_method_58_code 12 = .ok (.new 294, 3) := by decide +kernel
theorem d97_15 : decode prog_1_method_58_code 15 = .ok (.dup, 1) := by decide +kernel
theorem d97_16 : decode prog_1_method_58_code 16 = .ok (.invokespecial 296, 3) := by decide +kernel
theorem d97_19 : decode prog_1_method_58_code 19 = .ok (.athrow, 1) := by decide +kernel
theorem d97_20 : decode prog_1_method_58_code 20 = .ok (.iload_n 1, 1) := by decide +kernel
theorem d97_21 : decode prog_1_method_58_code 21 = .ok (.ireturn, 1) := by decide +kernel
theorem d98_0 : decode prog_1_method_21_code 0 = .ok (.aload_n 0, 1) := by decide +kernel
theorem d98_1 : decode prog_1_method_21_code 1 = .ok (.iload_n 1, 1) := by decide +kernel
theorem d98_2 : decode prog_1_method_21_code 2 = .ok (.invokevirtual 155, 3) := by decide +kernel
theorem d98_5 : decode prog_1_method_21_code 5 = .ok (.astore_n 3, 1) := by decide +kernel
theorem d98_6 : decode prog_1_method_21_code 6 = .ok (.aload_n 3, 1) := by decide +kernel
theorem d98_7 : decode prog_1_method_21_code 7 = .ok (.getfield 159, 3) := by decide +kernel
theorem d98_10 : decode prog_1_method_21_code 10 = .ok (.iload_n 2, 1) := by decide +kernel
theorem d98_11 : decode prog_1_method_21_code 11 = .ok (.invokestatic 152, 3) := by decide +kernel
theorem d98_14 : decode prog_1_method_21_code 14 = .ok (.iaload, 1) := by decide +kernel
theorem d98_15 : decode prog_1_method_21_code 15 = .ok (.ireturn, 1) := by decide +kernel
theorem d99_0 : decode prog_1_method_56_code 0 = .ok (.iload_n 1, 1) := by decide +kernel
theorem d99_1 : decode prog_1_method_56_code 1 = .ok (.invokestatic 347, 3) := by decide +kernel
theorem d99_4 : decode prog_1_method_56_code 4 = .ok (.ifCond .ne 11, 3) := by decide +kernel
theorem d99_7 : decode prog_1_method_56_code 7 = .ok (.new 171, 3) := by decide +kernel
theorem d99_10 : decode prog_1_method_56_code 10 = .ok (.dup, 1) := by decide +kernel
theorem d99_11 : decode prog_1_method_56_code 11 = .ok (.invokespecial 173, 3) := by decide +kernel
theorem d99_14 : decode prog_1_method_56_code 14 = .ok (.athrow, 1) := by decide +kernel
theorem d99_15 : decode prog_1_method_56_code 15 = .ok (.aload_n 0, 1) := by decide +kernel
theorem d99_16 : decode prog_1_method_56_code 16 = .ok (.getfield 10, 3) := by decide +kernel
theorem d99_19 : decode prog_1_method_56_code 19 = .ok (.getfield 203, 3) := by decide +kernel
theorem d99_22 : decode prog_1_method_56_code 22 = .ok (.iload_n 1, 1) := by decide +kernel
theorem d99_23 : decode prog_1_method_56_code 23 = .ok (.aaload, 1) := by decide +kernel
theorem d99_24 : decode prog_1_method_56_code 24 = .ok (.areturn, 1) := by decide +kernel
theorem d100_0 : decode prog_1_method_22_code 0 = .ok (.aload_n 0, 1) := by decide +kernel
theorem d100_1 : decode prog_1_method_22_code 1 = .ok (.iload_n 1, 1) := by decide +kernel
theorem d100_2 : decode prog_1_method_22_code 2 = .ok (.invokevirtual 155, 3) := by decide +kernel
theorem d100_5 : decode prog_1_method_22_code 5 = .ok (.pop, 1) := by decide +kernel
theorem d100_6 : decode prog_1_method_22_code 6 = .ok (.aload_n 0, 1) := by decide +kernel
theorem d100_7 : decode prog_1_method_22_code 7 = .ok (.getfield 10, 3) := by decide +kernel
theorem d100_10 : decode prog_1_method_22_code 10 = .ok (.iload_n 1, 1) := by decide +kernel
theorem d100_11 : decode prog_1_method_22_code 11 = .ok (.invokevirtual 164, 3) := by decide +kernel
theorem d100_14 : decode prog_1_method_22_code 14 = .ok (.ireturn, 1) := by decide +kernel
theorem d101_0 : decode prog_1_method_23_code 0 = .ok (.iload_n 1, 1) := by decide +kernel
theorem d101_1 : decode prog_1_method_23_code 1 = .ok (.invokestatic 167, 3) := by decide +kernel
theorem d101_4 : decode prog_1_method_23_code 4 = .ok (.ifCond .ne 11, 3) := by decide +kernel
theorem d101_7 : decode prog_1_method_23_code 7 = .ok (.new 171, 3) := by decide +kernel
theorem d101_10 : decode prog_1_method_23_code 10 = .ok (.dup, 1) := by decide +kernel
theorem d101_11 : decode prog_1_method_23_code 11 = .ok (.invokespecial 173, 3) := by decide +kernel
theorem d101_14 : decode prog_1_method_23_code 14 = .ok (.athrow, 1) := by decide +kernel
theorem d101_15 : decode prog_1_method_23_code 15 = .ok (.aload_n 0, 1) := by decide +kernel
theorem d101_16 : decode prog_1_method_23_code 16 = .ok (.getfield 10, 3) := by decide +kernel
theorem d101_19 : decode prog_1_method_23_code 19 = .ok (.getfield 174, 3) := by decide +kernel
theorem d101_22 : decode prog_1_method_23_code 22 = .ok (.iload_n 1, 1) := by decide +kernel
theorem d101_23 : decode prog_1_method_23_code 23 = .ok (.iaload, 1) := by decide +kernel
theorem d101_24 : decode prog_1_method_23_code 24 = .ok (.istore_n 2, 1) := by decide +kernel
theorem d101_25 : decode prog_1_method_23_code 25 = .ok (.iload_n 2, 1) := by decide +kernel
theorem d101_26 : decode prog_1_method_23_code 26 = .ok (.iconst (-1), 1) := by decide +kernel
theorem d101_27 : decode prog_1_method_23_code 27 = .ok (.if_icmp .ne 11, 3) := by decide +kernel
theorem d101_30 : decode prog_1_method_23_code 30 = .ok (.new 134, 3) := by decide +kernel
theorem d101_33 : decode prog_1_method_23_code 33 = .ok (.dup, 1) := by decide +kernel
theorem d101_34 : decode prog_1_method_23_code 34 = .ok (.invokespecial 136, 3) := by decide +kernel
theorem d101_37 : decode prog_1_method_23_code 37 = .ok (.athrow, 1) := by decide +kernel
theorem d101_38 : decode prog_1_method_23_code 38 = .ok (.iload_n 2, 1) := by decide +kernel
theorem d101_39 : decode prog_1_method_23_code 39 = .ok (.ireturn, 1) := by decide +kernel
theorem d102_0 : decode prog_1_method_24_code 0 = .ok (.aload_n 0, 1) := by decide +kernel
theorem d102_1 : decode prog_1_method_24_code 1 = .ok (.iload_n 1, 1) := by decide +kernel
theorem d102_2 : decode prog_1_method_24_code 2 = .ok (.invokevirtual 155, 3) := by decide +kernel
theorem d102_5 : decode prog_1_method_24_code 5 = .ok (.getfield 177, 3) := by decide +kernel
theorem d102_8 : decode prog_1_method_24_code 8 = .ok (.ireturn, 1) := by decide +kernel
theorem d103_0 : decode prog_1_method_25_code 0 = .ok (.aload_n 0, 1) := by decide +kernel
theorem d103_1 : decode prog_1_method_25_code 1 = .ok (.iload_n 1, 1) := by decide +kernel
theorem d103_2 : decode prog_1_method_25_code 2 = .ok (.invokevirtual 155, 3) := by decide +kernel
theorem d103_5 : decode prog_1_method_25_code 5 = .ok (.getfield 180, 3) := by decide +kernel
theorem d103_8 : decode prog_1_method_25_code 8 = .ok (.ireturn, 1) := by decide +kernel
theorem d104_0 : decode prog_1_method_26_code 0 = .ok (.aload_n 0, 1) := by decide +kernel
theorem d104_1 : decode prog_1_method_26_code 1 = .ok (.iload_n 1, 1) := by decide +kernel
theorem d104_2 : decode prog_1_method_26_code 2 = .ok (.invokevirtual 155, 3) := by decide +kernel
theorem d104_5 : decode prog_1_method_26_code 5 = .ok (.getfield 183, 3) := by decide +kernel
theorem d104_8 : decode prog_1_method_26_code 8 = .ok (.ireturn, 1) := by decide +kernel
theorem d105_0 : decode prog_1_method_27_code 0 = .ok (.aload_n 0, 1) := by decide +kernel
theorem d105_1 : decode prog_1_method_27_code 1 = .ok (.iload_n 1, 1) := by decide +kernel
theorem d105_2 : decode prog_1_method_27_code 2 = .ok (.invokevirtual 155, 3) := by decide +kernel
theorem d105_5 : decode prog_1_method_27_code 5 = .ok (.invokevirtual 186, 3) := by decide +kernel
theorem d105_8 : decode prog_1_method_27_code 8 = .ok (.ireturn, 1) := by decide +kernel
theorem d106_0 : decode prog_1_method_28_code 0 = .ok (.aload_n 0, 1) := by decide +kernel
theorem d106_1 : decode prog_1_method_28_code 1 = .ok (.iload_n 1, 1) := by decide +kernel
theorem d106_2 : decode prog_1_method_28_code 2 = .ok (.invokevirtual 155, 3) := by decide +kernel
theorem d106_5 : decode prog_1_method_28_code 5 = .ok (.pop, 1) := by decide +kernel
theorem d106_6 : decode prog_1_method_28_code 6 = .ok (.aload_n 0, 1) := by decide +kernel
theorem d106_7 : decode prog_1_method_28_code 7 = .ok (.getfield 10, 3) := by decide +kernel
theorem d106_10 : decode prog_1_method_28_code 10 = .ok (.iload_n 1, 1) := by decide +kernel
theorem d106_11 : decode prog_1_method_28_code 11 = .ok (.invokevirtual 190, 3) := by decide +kernel
theorem d106_14 : decode prog_1_method_28_code 14 = .ok (.ireturn, 1) := by decide +kernel
theorem d107_0 : decode prog_1_method_29_code 0 = .ok (.aload_n 0, 1) := by decide +kernel
theorem d107_1 : decode prog_1_method_29_code 1 = .ok (.iload_n 1, 1) := by decide +kernel
theorem d107_2 : decode prog_1_method_29_code 2 = .ok (.invokevirtual 155, 3) := by decide +kernel
theorem d107_5 : decode prog_1_method_29_code 5 = .ok (.pop, 1) := by decide +kernel
theorem d107_6 : decode prog_1_method_29_code 6 = .ok (.aload_n 0, 1) := by decide +kernel
theorem d107_7 : decode prog_1_method_29_code 7 = .ok (.iload_n 2, 1) := by decide +kernel
theorem d107_8 : decode prog_1_method_29_code 8 = .ok (.invokevirtual 113, 3) := by decide +kernel
theorem d107_11 : decode prog_1_method_29_code 11 = .ok (.astore_n 3, 1) := by decide +kernel
theorem d107_12 : decode prog_1_method_29_code 12 = .ok (.aload_n 0, 1) := by decide +kernel
theorem d107_13 : decode prog_1_method_29_code 13 = .ok (.getfield 10, 3) := by decide +kernel
theorem d107_16 : decode prog_1_method_29_code 16 = .ok (.iload_n 1, 1) := by decide +kernel
theorem d107_17 : decode prog_1_method_29_code 17 = .ok (.aload_n 3, 1) := by decide +kernel
theorem d107_18 : decode prog_1_method_29_code 18 = .ok (.invokevirtual 193, 3) := by decide +kernel
theorem d107_21 : decode prog_1_method_29_code 21 = .ok (.ifCond .eq 19, 3) := by decide +kernel
theorem d107_24 : decode prog_1_method_29_code 24 = .ok (.aload_n 0, 1) := by decide +kernel
theorem d107_25 : decode prog_1_method_29_code 25 = .ok (.getfield 10, 3) := by decide +kernel
theorem d107_28 : decode prog_1_method_29_code 28 = .ok (.iload_n 1, 1) := by decide +kernel
theorem d107_29 : decode prog_1_method_29_code 29 = .ok (.aload_n 3, 1) := by decide +kernel
theorem d107_30 : decode prog_1_method_29_code 30 = .ok (.invokevirtual 197, 3) := by decide +kernel
theorem d107_33 : decode prog_1_method_29_code 33 = .ok (.ifCond .eq 7, 3) := by decide +kernel
theorem d107_36 : decode prog_1_method_29_code 36 = .ok (.iconst 1, 1) := by decide +kernel
theorem d107_37 : decode prog_1_method_29_code 37 = .ok (.goto 4, 3) := by decide +kernel
theorem d107_40 : decode prog_1_method_29_code 40 = .ok (.iconst 0, 1) := by decide +kernel
theorem d107_41 : decode prog_1_method_29_code 41 = .ok (.ireturn, 1) := by decide +kernel
theorem d108_0 : decode prog_1_method_30_code 0 = .ok (.aload_n 0, 1) := by decide +kernel
theorem d108_1 : decode prog_1_method_30_code 1 = .ok (.iload_n 1, 1) := by decide +kernel
theorem d108_2 : decode prog_1_method_30_code 2 = .ok (.invokevirtual 155, 3) := by decide +kernel
theorem d108_5 : decode prog_1_method_30_code 5 = .ok (.astore_n 3, 1) := by decide +kernel
theorem d108_6 : decode prog_1_method_30_code 6 = .ok (.aload_n 3, 1) := by decide +kernel
theorem d108_7 : decode prog_1_method_30_code 7 = .ok (.aload_n 0, 1) := by decide +kernel
theorem d108_8 : decode prog_1_method_30_code 8 = .ok (.iload_n 2, 1) := by decide +kernel
theorem d108_9 : decode prog_1_method_30_code 9 = .ok (.invokevirtual 113, 3) := by decide +kernel
theorem d108_12 : decode prog_1_method_30_code 12 = .ok (.invokevirtual 200, 3) := by decide +kernel
theorem d108_15 : decode prog_1_method_30_code 15 = .ok (.ireturn, 1) := by decide +kernel
theorem d109_0 : decode prog_1_method_31_code 0 = .ok (.aload_n 0, 1) := by decide +kernel
theorem d109_1 : decode prog_1_method_31_code 1 = .ok (.iload_n 1, 1) := by decide +kernel
theorem d109_2 : decode prog_1_method_31_code 2 = .ok (.invokevirtual 113, 3) := by decide +kernel
theorem d109_5 : decode prog_1_method_31_code 5 = .ok (.astore_n 2, 1) := by decide +kernel
theorem d109_6 : decode prog_1_method_31_code 6 = .ok (.iconst 0, 1) := by decide +kernel
theorem d109_7 : decode prog_1_method_31_code 7 = .ok (.istore_n 3, 1) := by decide +kernel
theorem d109_8 : decode prog_1_method_31_code 8 = .ok (.iconst 1, 1) := by decide +kernel
theorem d109_9 : decode prog_1_method_31_code 9 = .ok (.istore 4, 2) := by decide +kernel
theorem d109_11 : decode prog_1_method_31_code 11 = .ok (.iload 4, 2) := by decide +kernel
theorem d109_13 : decode prog_1_method_31_code 13 = .ok (.iconst 3, 1) := by decide +kernel
theorem d109_14 : decode prog_1_method_31_code 14 = .ok (.if_icmp .ge 42, 3) := by decide +kernel
theorem d109_17 : decode prog_1_method_31_code 17 = .ok (.aload_n 0, 1) := by decide +kernel
theorem d109_18 : decode prog_1_method_31_code 18 = .ok (.getfield 10, 3) := by decide +kernel
theorem d109_21 : decode prog_1_method_31_code 21 = .ok (.getfield 203, 3) := by decide +kernel
theorem d109_24 : decode prog_1_method_31_code 24 = .ok (.iload 4, 2) := by decide +kernel
theorem d109_26 : decode prog_1_method_31_code 26 = .ok (.aaload, 1) := by decide +kernel
theorem d109_27 : decode prog_1_method_31_code 27 = .ok (.aload_n 2, 1) := by decide +kernel
theorem d109_28 : decode prog_1_method_31_code 28 = .ok (.invokevirtual 200, 3) := by decide +kernel
theorem d109_31 : decode prog_1_method_31_code 31 = .ok (.aload_n 0, 1) := by decide +kernel
theorem d109_32 : decode prog_1_method_31_code 32 = .ok (.getfield 10, 3) := by decide +kernel
theorem d109_35 : decode prog_1_method_31_code 35 = .ok (.getfield 203, 3) := by decide +kernel
theorem d109_38 : decode prog_1_method_31_code 38 = .ok (.iload_n 3, 1) := by decide +kernel
theorem d109_39 : decode prog_1_method_31_code 39 = .ok (.aaload, 1) := by decide +kernel
theorem d109_40 : decode prog_1_method_31_code 40 = .ok (.aload_n 2, 1) := by decide +kernel
theorem d109_41 : decode prog_1_method_31_code 41 = .ok (.invokevirtual 200, 3) := by decide +kernel
theorem d109_44 : decode prog_1_method_31_code 44 = .ok (.if_icmp .ge 6, 3) := by decide +kernel
theorem d109_47 : decode prog_1_method_31_code 47 = .ok (.iload 4, 2) := by decide +kernel
theorem d109_49 : decode prog_1_method_31_code 49 = .ok (.istore_n 3, 1) := by decide +kernel
theorem d109_50 : decode prog_1_method_31_code 50 = .ok (.iinc 4 1, 3) := by decide +kernel
theorem d109_53 : decode prog_1_method_31_code 53 = .ok (.goto (-42), 3) := by decide +kernel
theorem d109_56 : decode prog_1_method_31_code 56 = .ok (.iload_n 3, 1) := by decide +kernel
theorem d109_57 : decode prog_1_method_31_code 57 = .ok (.ireturn, 1) := by decide +kernel
theorem d110_0 : decode prog_1_method_32_code 0 = .ok (.aload_n 0, 1) := by decide +kernel
theorem d110_1 : decode prog_1_method_32_code 1 = .ok (.iload_n 1, 1) := by decide +kernel
theorem d110_2 : decode prog_1_method_32_code 2 = .ok (.invokevirtual 155, 3) := by decide +kernel
theorem d110_5 : decode prog_1_method_32_code 5 = .ok (.pop, 1) := by decide +kernel
theorem d110_6 : decode prog_1_method_32_code 6 = .ok (.aload_n 0, 1) := by decide +kernel
theorem d110_7 : decode prog_1_method_32_code 7 = .ok (.getfield 33, 3) := by decide +kernel
theorem d110_10 : decode prog_1_method_32_code 10 = .ok (.aload_n 0, 1) := by decide +kernel
theorem d110_11 : decode prog_1_method_32_code 11 = .ok (.getfield 10, 3) := by decide +kernel
theorem d110_14 : decode prog_1_method_32_code 14 = .ok (.iload_n 1, 1) := by decide +kernel
theorem d110_15 : decode prog_1_method_32_code 15 = .ok (.invokevirtual 207, 3) := by decide +kernel
theorem d110_18 : decode prog_1_method_32_code 18 = .ok (.ireturn, 1) := by decide +kernel
theorem d111_0 : decode prog_1_method_33_code 0 = .ok (.aload_n 0, 1) := by decide +kernel
theorem d111_1 : decode prog_1_method_33_code 1 = .ok (.iload_n 1, 1) := by decide +kernel
theorem d111_2 : decode prog_1_method_33_code 2 = .ok (.invokevirtual 155, 3) := by decide +kernel
theorem d111_5 : decode prog_1_method_33_code 5 = .ok (.pop, 1) := by decide +kernel
theorem d111_6 : decode prog_1_method_33_code 6 = .ok (.aload_n 0, 1) := by decide +kernel
theorem d111_7 : decode prog_1_method_33_code 7 = .ok (.getfield 33, 3) := by decide +kernel
theorem d111_10 : decode prog_1_method_33_code 10 = .ok (.aload_n 0, 1) := by decide +kernel
theorem d111_11 : decode prog_1_method_33_code 11 = .ok (.getfield 10, 3) := by decide +kernel
theorem d111_14 : decode prog_1_method_33_code 14 = .ok (.iload_n 1, 1) := by decide +kernel
theorem d111_15 : decode prog_1_method_33_code 15 = .ok (.invokevirtual 211, 3) := by decide +kernel
theorem d111_18 : decode prog_1_method_33_code 18 = .ok (.ireturn, 1) := by decide +kernel
theorem d112_0 : decode prog_1_method_34_code 0 = .ok (.aload_n 0, 1) := by decide +kernel
theorem d112_1 : decode prog_1_method_34_code 1 = .ok (.iload_n 1, 1) := by decide +kernel
theorem d112_2 : decode prog_1_method_34_code 2 = .ok (.invokevirtual 155, 3) := by decide +kernel
theorem d112_5 : decode prog_1_method_34_code 5 = .ok (.pop, 1) := by decide +kernel
theorem d112_6 : decode prog_1_method_34_code 6 = .ok (.aload_n 0, 1) := by decide +kernel
theorem d112_7 : decode prog_1_method_34_code 7 = .ok (.getfield 33, 3) := by decide +kernel
theorem d112_10 : decode prog_1_method_34_code 10 = .ok (.aload_n 0, 1) := by decide +kernel
theorem d112_11 : decode prog_1_method_34_code 11 = .ok (.getfield 10, 3) := by decide +kernel
theorem d112_14 : decode prog_1_method_34_code 14 = .ok (.iload_n 1, 1) := by decide +kernel
theorem d112_15 : decode prog_1_method_34_code 15 = .ok (.invokevirtual 207, 3) := by decide +kernel
theorem d112_18 : decode prog_1_method_34_code 18 = .ok (.pop, 1) := by decide +kernel
theorem d112_19 : decode prog_1_method_34_code 19 = .ok (.iload_n 2, 1) := by decide +kernel
theorem d112_20 : decode prog_1_method_34_code 20 = .ok (.ifCond .lt 14, 3) := by decide +kernel
theorem d112_23 : decode prog_1_method_34_code 23 = .ok (.iload_n 2, 1) := by decide +kernel
theorem d112_24 : decode prog_1_method_34_code 24 = .ok (.aload_n 0, 1) := by decide +kernel
theorem d112_25 : decode prog_1_method_34_code 25 = .ok (.getfield 33, 3) := by decide +kernel
theorem d112_28 : decode prog_1_method_34_code 28 = .ok (.getfield 214, 3) := by decide +kernel
theorem d112_31 : decode prog_1_method_34_code 31 = .ok (.if_icmp .lt 11, 3) := by decide +kernel
theorem d112_34 : decode prog_1_method_34_code 34 = .ok (.new 134, 3) := by decide +kernel
theorem d112_37 : decode prog_1_method_34_code 37 = .ok (.dup, 1) := by decide +kernel
theorem d112_38 : decode prog_1_method_34_code 38 = .ok (.invokespecial 136, 3) := by decide +kernel
theorem d112_41 : decode prog_1_method_34_code 41 = .ok (.athrow, 1) := by decide +kernel
theorem d112_42 : decode prog_1_method_34_code 42 = .ok (.aload_n 0, 1) := by decide +kernel
theorem d112_43 : decode prog_1_method_34_code 43 = .ok (.getfield 33, 3) := by decide +kernel
theorem d112_46 : decode prog_1_method_34_code 46 = .ok (.getfield 217, 3) := by decide +kernel
theorem d112_49 : decode prog_1_method_34_code 49 = .ok (.iload_n 2, 1) := by decide +kernel
theorem d112_50 : decode prog_1_method_34_code 50 = .ok (.iaload, 1) := by decide +kernel
theorem d112_51 : decode prog_1_method_34_code 51 = .ok (.ireturn, 1) := by decide +kernel
theorem d113_0 : decode prog_1_method_35_code 0 = .ok (.aload_n 0, 1) := by decide +kernel
theorem d113_1 : decode prog_1_method_35_code 1 = .ok (.iload_n 1, 1) := by decide +kernel
theorem d113_2 : decode prog_1_method_35_code 2 = .ok (.invokevirtual 155, 3) := by decide +kernel
theorem d113_5 : decode prog_1_method_35_code 5 = .ok (.getfield 220, 3) := by decide +kernel
theorem d113_8 : decode prog_1_method_35_code 8 = .ok (.ireturn, 1) := by decide +kernel
theorem d114_0 : decode prog_1_method_39_code 0 = .ok (.aload_n 0, 1) := by decide +kernel
theorem d114_1 : decode prog_1_method_39_code 1 = .ok (.getfield 10, 3) := by decide +kernel
theorem d114_4 : decode prog_1_method_39_code 4 = .ok (.getfield 234, 3) := by decide +kernel
theorem d114_7 : decode prog_1_method_39_code 7 = .ok (.ifCond .ne 11, 3) := by decide +kernel
theorem d114_10 : decode prog_1_method_39_code 10 = .ok (.new 237, 3) := by decide +kernel
theorem d114_13 : decode prog_1_method_39_code 13 = .ok (.dup, 1) := by decide +kernel
theorem d114_14 : decode prog_1_method_39_code 14 = .ok (.invokespecial 239, 3) := by decide +kernel
theorem d114_17 : decode prog_1_method_39_code 17 = .ok (.athrow, 1) := by decide +kernel
theorem d114_18 : decode prog_1_method_39_code 18 = .ok (.aload_n 0, 1) := by decide +kernel
theorem d114_19 : decode prog_1_method_39_code 19 = .ok (.getfield 10, 3) := by decide +kernel
theorem d114_22 : decode prog_1_method_39_code 22 = .ok (.getfield 231, 3) := by decide +kernel
theorem d114_25 : decode prog_1_method_39_code 25 = .ok (.l2d, 1) := by decide +kernel
theorem d114_26 : decode prog_1_method_39_code 26 = .ok (.aload_n 0, 1) := by decide +kernel
theorem d114_27 : decode prog_1_method_39_code 27 = .ok (.getfield 10, 3) := by decide +kernel
theorem d114_30 : decode prog_1_method_39_code 30 = .ok (.getfield 234, 3) := by decide +kernel
theorem d114_33 : decode prog_1_method_39_code 33 = .ok (.i2d, 1) := by decide +kernel
theorem d114_34 : decode prog_1_method_39_code 34 = .ok (.ddiv, 1) := by decide +kernel
theorem d114_35 : decode prog_1_method_39_code 35 = .ok (.dreturn, 1) := by decide +kernel
theorem d115_0 : decode prog_1_method_41_code 0 = .ok (.iconst 0, 1) := by decide +kernel
theorem d115_1 : decode prog_1_method_41_code 1 = .ok (.istore_n 2, 1) := by decide +kernel
theorem d115_2 : decode prog_1_method_41_code 2 = .ok (.iload_n 2, 1) := by decide +kernel
theorem d115_3 : decode prog_1_method_41_code 3 = .ok (.iconst 3, 1) := by decide +kernel
theorem d115_4 : decode prog_1_method_41_code 4 = .ok (.if_icmp .ge 23, 3) := by decide +kernel
theorem d115_7 : decode prog_1_method_41_code 7 = .ok (.aload_n 0, 1) := by decide +kernel
theorem d115_8 : decode prog_1_method_41_code 8 = .ok (.getfield 10, 3) := by decide +kernel
theorem d115_11 : decode prog_1_method_41_code 11 = .ok (.iload_n 2, 1) := by decide +kernel
theorem d115_12 : decode prog_1_method_41_code 12 = .ok (.invokevirtual 241, 3) := by decide +kernel
theorem d115_15 : decode prog_1_method_41_code 15 = .ok (.iload_n 1, 1) := by decide +kernel
theorem d115_16 : decode prog_1_method_41_code 16 = .ok (.if_icmp .ne 5, 3) := by decide +kernel
theorem d115_19 : decode prog_1_method_41_code 19 = .ok (.iload_n 2, 1) := by decide +kernel
theorem d115_20 : decode prog_1_method_41_code 20 = .ok (.ireturn, 1) := by decide +kernel
theorem d115_21 : decode prog_1_method_41_code 21 = .ok (.iinc 2 1, 3) := by decide +kernel
theorem d115_24 : decode prog_1_method_41_code 24 = .ok (.goto (-22), 3) := by decide +kernel
theorem d115_27 : decode prog_1_method_41_code 27 = .ok (.new 134, 3) := by decide +kernel
theorem d115_30 : decode prog_1_method_41_code 30 = .ok (.dup, 1) := by decide +kernel
theorem d115_31 : decode prog_1_method_41_code 31 = .ok (.invokespecial 136, 3) := by decide +kernel
theorem d115_34 : decode prog_1_method_41_code 34 = .ok (.athrow, 1) := by decide +kernel
theorem d116_0 : decode prog_1_method_43_code 0 = .ok (.aload_n 0, 1) := by decide +kernel
theorem d116_1 : decode prog_1_method_43_code 1 = .ok (.iload_n 1, 1) := by decide +kernel
theorem d116_2 : decode prog_1_method_43_code 2 = .ok (.invokevirtual 155, 3) := by decide +kernel
theorem d116_5 : decode prog_1_method_43_code 5 = .ok (.astore_n 2, 1) := by decide +kernel
theorem d116_6 : decode prog_1_method_43_code 6 = .ok (.aload_n 0, 1) := by decide +kernel
theorem d116_7 : decode prog_1_method_43_code 7 = .ok (.getfield 47, 3) := by decide +kernel
theorem d116_10 : decode prog_1_method_43_code 10 = .ok (.iconst 0, 1) := by decide +kernel
theorem d116_11 : decode prog_1_method_43_code 11 = .ok (.invokevirtual 255, 3) := by decide +kernel
theorem d116_14 : decode prog_1_method_43_code 14 = .ok (.aload_n 0, 1) := by decide +kernel
theorem d116_15 : decode prog_1_method_43_code 15 = .ok (.getfield 47, 3) := by decide +kernel
theorem d116_18 : decode prog_1_method_43_code 18 = .ok (.iload_n 1, 1) := by decide +kernel
theorem d116_19 : decode prog_1_method_43_code 19 = .ok (.invokevirtual 259, 3) := by decide +kernel
theorem d116_22 : decode prog_1_method_43_code 22 = .ok (.bipush 64, 2) := by decide +kernel
theorem d116_24 : decode prog_1_method_43_code 24 = .ok (.invokevirtual 263, 3) := by decide +kernel
theorem d116_27 : decode prog_1_method_43_code 27 = .ok (.aload_n 2, 1) := by decide +kernel
theorem d116_28 : decode prog_1_method_43_code 28 = .ok (.getfield 177, 3) := by decide +kernel
theorem d116_31 : decode prog_1_method_43_code 31 = .ok (.invokevirtual 259, 3) := by decide +kernel
theorem d116_34 : decode prog_1_method_43_code 34 = .ok (.bipush 44, 2) := by decide +kernel
theorem d116_36 : decode prog_1_method_43_code 36 = .ok (.invokevirtual 263, 3) := by decide +kernel
theorem d116_39 : decode prog_1_method_43_code 39 = .ok (.aload_n 2, 1) := by decide +kernel
theorem d116_40 : decode prog_1_method_43_code 40 = .ok (.getfield 180, 3) := by decide +kernel
theorem d116_43 : decode prog_1_method_43_code 43 = .ok (.invokevirtual 259, 3) := by decide +kernel
theorem d116_46 : decode prog_1_method_43_code 46 = .ok (.pop, 1) := by decide +kernel
theorem d116_47 : decode prog_1_method_43_code 47 = .ok (.aload_n 0, 1) := by decide +kernel
theorem d116_48 : decode prog_1_method_43_code 48 = .ok (.getfield 47, 3) := by decide +kernel
theorem d116_51 : decode prog_1_method_43_code 51 = .ok (.bipush 43, 2) := by decide +kernel
theorem d116_53 : decode prog_1_method_43_code 53 = .ok (.invokevirtual 263, 3) := by decide +kernel
theorem d116_56 : decode prog_1_method_43_code 56 = .ok (.aload_n 2, 1) := by decide +kernel
theorem d116_57 : decode prog_1_method_43_code 57 = .ok (.getfield 183, 3) := by decide +kernel
theorem d116_60 : decode prog_1_method_43_code 60 = .ok (.invokevirtual 259, 3) := by decide +kernel
theorem d116_63 : decode prog_1_method_43_code 63 = .ok (.pop, 1) := by decide +kernel
theorem d116_64 : decode prog_1_method_43_code 64 = .ok (.iconst 0, 1) := by decide +kernel
theorem d116_65 : decode prog_1_method_43_code 65 = .ok (.istore_n 3, 1) := by decide +kernel
theorem d116_66 : decode prog_1_method_43_code 66 = .ok (.iload_n 3, 1) := by decide +kernel
theorem d116_67 : decode prog_1_method_43_code 67 = .ok (.bipush 6, 2) := by decide +kernel
theorem d116_69 : decode prog_1_method_43_code 69 = .ok (.if_icmp .ge 37, 3) := by decide +kernel
theorem d116_72 : decode prog_1_method_43_code 72 = .ok (.aload_n 0, 1) := by decide +kernel
theorem d116_73 : decode prog_1_method_43_code 73 = .ok (.getfield 10, 3) := by decide +kernel
theorem d116_76 : decode prog_1_method_43_code 76 = .ok (.getfield 174, 3) := by decide +kernel
theorem d116_79 : decode prog_1_method_43_code 79 = .ok (.iload_n 3, 1) := by decide +kernel
theorem d116_80 : decode prog_1_method_43_code 80 = .ok (.iaload, 1) := by decide +kernel
theorem d116_81 : decode prog_1_method_43_code 81 = .ok (.iload_n 1, 1) := by decide +kernel
theorem d116_82 : decode prog_1_method_43_code 82 = .ok (.if_icmp .ne 18, 3) := by decide +kernel
theorem d116_85 : decode prog_1_method_43_code 85 = .ok (.aload_n 0, 1) := by decide +kernel
theorem d116_86 : decode prog_1_method_43_code 86 = .ok (.getfield 47, 3) := by decide +kernel
theorem d116_89 : decode prog_1_method_43_code 89 = .ok (.ldc_w 266, 3) := by decide +kernel
theorem d116_92 : decode prog_1_method_43_code 92 = .ok (.invokevirtual 268, 3) := by decide +kernel
theorem d116_95 : decode prog_1_method_43_code 95 = .ok (.iload_n 3, 1) := by decide +kernel
theorem d116_96 : decode prog_1_method_43_code 96 = .ok (.invokevirtual 259, 3) := by decide +kernel
theorem d116_99 : decode prog_1_method_43_code 99 = .ok (.pop, 1) := by decide +kernel
theorem d116_100 : decode prog_1_method_43_code 100 = .ok (.iinc 3 1, 3) := by decide +kernel
theorem d116_103 : decode prog_1_method_43_code 103 = .ok (.goto (-37), 3) := by decide +kernel
theorem d116_106 : decode prog_1_method_43_code 106 = .ok (.iconst 0, 1) := by decide +kernel
theorem d116_107 : decode prog_1_method_43_code 107 = .ok (.istore_n 3, 1) := by decide +kernel
theorem d116_108 : decode prog_1_method_43_code 108 = .ok (.iload_n 3, 1) := by decide +kernel
theorem d116_109 : decode prog_1_method_43_code 109 = .ok (.iconst 4, 1) := by decide +kernel
theorem d116_110 : decode prog_1_method_43_code 110 = .ok (.if_icmp .ge 44, 3) := by decide +kernel
theorem d116_113 : decode prog_1_method_43_code 113 = .ok (.aload_n 2, 1) := by decide +kernel
theorem d116_114 : decode prog_1_method_43_code 114 = .ok (.getfield 159, 3) := by decide +kernel
theorem d116_117 : decode prog_1_method_43_code 117 = .ok (.iload_n 3, 1) := by decide +kernel
theorem d116_118 : decode prog_1_method_43_code 118 = .ok (.iaload, 1) := by decide +kernel
theorem d116_119 : decode prog_1_method_43_code 119 = .ok (.ifCond .le 29, 3) := by decide +kernel
theorem d116_122 : decode prog_1_method_43_code 122 = .ok (.aload_n 0, 1) := by decide +kernel
theorem d116_123 : decode prog_1_method_43_code 123 = .ok (.getfield 47, 3) := by decide +kernel
theorem d116_126 : decode prog_1_method_43_code 126 = .ok (.bipush 32, 2) := by decide +kernel
theorem d116_128 : decode prog_1_method_43_code 128 = .ok (.invokevirtual 263, 3) := by decide +kernel
theorem d116_131 : decode prog_1_method_43_code 131 = .ok (.iload_n 3, 1) := by decide +kernel
theorem d116_132 : decode prog_1_method_43_code 132 = .ok (.invokestatic 121, 3) := by decide +kernel
theorem d116_135 : decode prog_1_method_43_code 135 = .ok (.invokevirtual 263, 3) := by decide +kernel
theorem d116_138 : decode prog_1_method_43_code 138 = .ok (.aload_n 2, 1) := by decide +kernel
theorem d116_139 : decode prog_1_method_43_code 139 = .ok (.getfield 159, 3) := by decide +kernel
theorem d116_142 : decode prog_1_method_43_code 142 = .ok (.iload_n 3, 1) := by decide +kernel
theorem d116_143 : decode prog_1_method_43_code 143 = .ok (.iaload, 1) := by decide +kernel
theorem d116_144 : decode prog_1_method_43_code 144 = .ok (.invokevirtual 259, 3) := by decide +kernel
theorem d116_147 : decode prog_1_method_43_code 147 = .ok (.pop, 1) := by decide +kernel
theorem d116_148 : decode prog_1_method_43_code 148 = .ok (.iinc 3 1, 3) := by decide +kernel
theorem d116_151 : decode prog_1_method_43_code 151 = .ok (.goto (-43), 3) := by decide +kernel
theorem d116_154 : decode prog_1_method_43_code 154 = .ok (.aload_n 0, 1) := by decide +kernel
theorem d116_155 : decode prog_1_method_43_code 155 = .ok (.getfield 47, 3) := by decide +kernel
theorem d116_158 : decode prog_1_method_43_code 158 = .ok (.invokevirtual 271, 3) := by decide +kernel
theorem d116_161 : decode prog_1_method_43_code 161 = .ok (.ireturn, 1) := by decide +kernel
theorem d117_0 : decode prog_1_method_44_code 0 = .ok (.aload_n 0, 1) := by decide +kernel
theorem d117_1 : decode prog_1_method_44_code 1 = .ok (.iload_n 1, 1) := by decide +kernel
theorem d117_2 : decode prog_1_method_44_code 2 = .ok (.invokevirtual 155, 3) := by decide +kernel
theorem d117_5 : decode prog_1_method_44_code 5 = .ok (.pop, 1) := by decide +kernel
theorem d117_6 : decode prog_1_method_44_code 6 = .ok (.aload_n 0, 1) := by decide +kernel
theorem d117_7 : decode prog_1_method_44_code 7 = .ok (.getfield 33, 3) := by decide +kernel
theorem d117_10 : decode prog_1_method_44_code 10 = .ok (.aload_n 0, 1) := by decide +kernel
theorem d117_11 : decode prog_1_method_44_code 11 = .ok (.getfield 10, 3) := by decide +kernel
theorem d117_14 : decode prog_1_method_44_code 14 = .ok (.iload_n 1, 1) := by decide +kernel
theorem d117_15 : decode prog_1_method_44_code 15 = .ok (.invokevirtual 207, 3) := by decide +kernel
theorem d117_18 : decode prog_1_method_44_code 18 = .ok (.pop, 1) := by decide +kernel
theorem d117_19 : decode prog_1_method_44_code 19 = .ok (.aload_n 0, 1) := by decide +kernel
theorem d117_20 : decode prog_1_method_44_code 20 = .ok (.getfield 47, 3) := by decide +kernel
theorem d117_23 : decode prog_1_method_44_code 23 = .ok (.iconst 0, 1) := by decide +kernel
theorem d117_24 : decode prog_1_method_44_code 24 = .ok (.invokevirtual 255, 3) := by decide +kernel
theorem d117_27 : decode prog_1_method_44_code 27 = .ok (.iconst 0, 1) := by decide +kernel
theorem d117_28 : decode prog_1_method_44_code 28 = .ok (.istore_n 2, 1) := by decide +kernel
theorem d117_29 : decode prog_1_method_44_code 29 = .ok (.iload_n 2, 1) := by decide +kernel
theorem d117_30 : decode prog_1_method_44_code 30 = .ok (.aload_n 0, 1) := by decide +kernel
theorem d117_31 : decode prog_1_method_44_code 31 = .ok (.getfield 33, 3) := by decide +kernel
theorem d117_34 : decode prog_1_method_44_code 34 = .ok (.getfield 214, 3) := by decide +kernel
theorem d117_37 : decode prog_1_method_44_code 37 = .ok (.if_icmp .ge 57, 3) := by decide +kernel
theorem d117_40 : decode prog_1_method_44_code 40 = .ok (.iload_n 2, 1) := by decide +kernel
theorem d117_41 : decode prog_1_method_44_code 41 = .ok (.ifCond .le 13, 3) := by decide +kernel
theorem d117_44 : decode prog_1_method_44_code 44 = .ok (.aload_n 0, 1) := by decide +kernel
theorem d117_45 : decode prog_1_method_44_code 45 = .ok (.getfield 47, 3) := by decide +kernel
theorem d117_48 : decode prog_1_method_44_code 48 = .ok (.bipush 62, 2) := by decide +kernel
theorem d117_50 : decode prog_1_method_44_code 50 = .ok (.invokevirtual 263, 3) := by decide +kernel
theorem d117_53 : decode prog_1_method_44_code 53 = .ok (.pop, 1) := by decide +kernel
theorem d117_54 : decode prog_1_method_44_code 54 = .ok (.aload_n 0, 1) := by decide +kernel
theorem d117_55 : decode prog_1_method_44_code 55 = .ok (.getfield 47, 3) := by decide +kernel
theorem d117_58 : decode prog_1_method_44_code 58 = .ok (.aload_n 0, 1) := by decide +kernel
theorem d117_59 : decode prog_1_method_44_code 59 = .ok (.getfield 33, 3) := by decide +kernel
theorem d117_62 : decode prog_1_method_44_code 62 = .ok (.getfield 217, 3) := by decide +kernel
theorem d117_65 : decode prog_1_method_44_code 65 = .ok (.iload_n 2, 1) := by decide +kernel
theorem d117_66 : decode prog_1_method_44_code 66 = .ok (.iaload, 1) := by decide +kernel
theorem d117_67 : decode prog_1_method_44_code 67 = .ok (.invokevirtual 259, 3) := by decide +kernel
theorem d117_70 : decode prog_1_method_44_code 70 = .ok (.bipush 58, 2) := by decide +kernel
theorem d117_72 : decode prog_1_method_44_code 72 = .ok (.invokevirtual 263, 3) := by decide +kernel
theorem d117_75 : decode prog_1_method_44_code 75 = .ok (.aload_n 0, 1) := by decide +kernel
theorem d117_76 : decode prog_1_method_44_code 76 = .ok (.getfield 33, 3) := by decide +kernel
theorem d117_79 : decode prog_1_method_44_code 79 = .ok (.getfield 274, 3) := by decide +kernel
theorem d117_82 : decode prog_1_method_44_code 82 = .ok (.iload_n 2, 1) := by decide +kernel
theorem d117_83 : decode prog_1_method_44_code 83 = .ok (.iaload, 1) := by decide +kernel
theorem d117_84 : decode prog_1_method_44_code 84 = .ok (.invokevirtual 259, 3) := by decide +kernel
theorem d117_87 : decode prog_1_method_44_code 87 = .ok (.pop, 1) := by decide +kernel
theorem d117_88 : decode prog_1_method_44_code 88 = .ok (.iinc 2 1, 3) := by decide +kernel
theorem d117_91 : decode prog_1_method_44_code 91 = .ok (.goto (-62), 3) := by decide +kernel
theorem d117_94 : decode prog_1_method_44_code 94 = .ok (.aload_n 0, 1) := by decide +kernel
theorem d117_95 : decode prog_1_method_44_code 95 = .ok (.getfield 47, 3) := by decide +kernel
theorem d117_98 : decode prog_1_method_44_code 98 = .ok (.invokevirtual 271, 3) := by decide +kernel
theorem d117_101 : decode prog_1_method_44_code 101 = .ok (.ireturn, 1) := by decide +kernel
theorem d118_0 : decode prog_1_method_45_code 0 = .ok (.iload_n 1, 1) := by decide +kernel
theorem d118_1 : decode prog_1_method_45_code 1 = .ok (.ifCond .lt 14, 3) := by decide +kernel
theorem d118_4 : decode prog_1_method_45_code 4 = .ok (.iload_n 1, 1) := by decide +kernel
theorem d118_5 : decode prog_1_method_45_code 5 = .ok (.aload_n 0, 1) := by decide +kernel
theorem d118_6 : decode prog_1_method_45_code 6 = .ok (.getfield 47, 3) := by decide +kernel
theorem d118_9 : decode prog_1_method_45_code 9 = .ok (.invokevirtual 271, 3) := by decide +kernel
theorem d118_12 : decode prog_1_method_45_code 12 = .ok (.if_icmp .lt 11, 3) := by decide +kernel
theorem d118_15 : decode prog_1_method_45_code 15 = .ok (.new 171, 3) := by decide +kernel
theorem d118_18 : decode prog_1_method_45_code 18 = .ok (.dup, 1) := by decide +kernel
theorem d118_19 : decode prog_1_method_45_code 19 = .ok (.invokespecial 173, 3) := by decide +kernel
theorem d118_22 : decode prog_1_method_45_code 22 = .ok (.athrow, 1) := by decide +kernel
theorem d118_23 : decode prog_1_method_45_code 23 = .ok (.aload_n 0, 1) := by decide +kernel
theorem d118_24 : decode prog_1_method_45_code 24 = .ok (.getfield 47, 3) := by decide +kernel
theorem d118_27 : decode prog_1_method_45_code 27 = .ok (.iload_n 1, 1) := by decide +kernel
theorem d118_28 : decode prog_1_method_45_code 28 = .ok (.invokevirtual 277, 3) := by decide +kernel
theorem d118_31 : decode prog_1_method_45_code 31 = .ok (.ireturn, 1) := by decide +kernel
theorem d119_0 : decode prog_1_method_46_code 0 = .ok (.aload_n 0, 1) := by decide +kernel
theorem d119_1 : decode prog_1_method_46_code 1 = .ok (.getfield 40, 3) := by decide +kernel
theorem d119_4 : decode prog_1_method_46_code 4 = .ok (.invokevirtual 280, 3) := by decide +kernel
theorem d119_7 : decode prog_1_method_46_code 7 = .ok (.ifCond .eq 11, 3) := by decide +kernel
theorem d119_10 : decode prog_1_method_46_code 10 = .ok (.new 283, 3) := by decide +kernel
theorem d119_13 : decode prog_1_method_46_code 13 = .ok (.dup, 1) := by decide +kernel
theorem d119_14 : decode prog_1_method_46_code 14 = .ok (.invokespecial 285, 3) := by decide +kernel
theorem d119_17 : decode prog_1_method_46_code 17 = .ok (.athrow, 1) := by decide +kernel
theorem d119_18 : decode prog_1_method_46_code 18 = .ok (.aload_n 0, 1) := by decide +kernel
theorem d119_19 : decode prog_1_method_46_code 19 = .ok (.getfield 40, 3) := by decide +kernel
theorem d119_22 : decode prog_1_method_46_code 22 = .ok (.iload_n 1, 1) := by decide +kernel
theorem d119_23 : decode prog_1_method_46_code 23 = .ok (.invokevirtual 286, 3) := by decide +kernel
theorem d119_26 : decode prog_1_method_46_code 26 = .ok (.ireturn, 1) := by decide +kernel
theorem d120_0 : decode prog_1_method_47_code 0 = .ok (.aload_n 0, 1) := by decide +kernel
theorem d120_1 : decode prog_1_method_47_code 1 = .ok (.getfield 40, 3) := by decide +kernel
theorem d120_4 : decode prog_1_method_47_code 4 = .ok (.invokevirtual 288, 3) := by decide +kernel
theorem d120_7 : decode prog_1_method_47_code 7 = .ok (.istore_n 1, 1) := by decide +kernel
theorem d120_8 : decode prog_1_method_47_code 8 = .ok (.aload_n 0, 1) := by decide +kernel
theorem d120_9 : decode prog_1_method_47_code 9 = .ok (.getfield 40, 3) := by decide +kernel
theorem d120_12 : decode prog_1_method_47_code 12 = .ok (.invokevirtual 291, 3) := by decide +kernel
theorem d120_15 : decode prog_1_method_47_code 15 = .ok (.iload_n 1, 1) := by decide +kernel
theorem d120_16 : decode prog_1_method_47_code 16 = .ok (.iconst (-1), 1) := by decide +kernel
theorem d120_17 : decode prog_1_method_47_code 17 = .ok (.if_icmp .eq 16, 3) := by decide +kernel
theorem d120_20 : decode prog_1_method_47_code 20 = .ok (.aload_n 0, 1) := by decide +kernel
theorem d120_21 : decode prog_1_method_47_code 21 = .ok (.iload_n 1, 1) := by decide +kernel
theorem d120_22 : decode prog_1_method_47_code 22 = .ok (.putfield 51, 3) := by decide +kernel
theorem d120_25 : decode prog_1_method_47_code 25 = .ok (.new 294, 3) := by decide +kernel
theorem d120_28 : decode prog_1_method_47_code 28 = .ok (.dup, 1) := by decide +kernel
theorem d120_29 : decode prog_1_method_47_code 29 = .ok (.invokespecial 296, 3) := by decide +kernel
theorem d120_32 : decode prog_1_method_47_code 32 = .ok (.athrow, 1) := by decide +kernel
theorem d120_33 : decode prog_1_method_47_code 33 = .ok (.aload_n 0, 1) := by decide +kernel
theorem d120_34 : decode prog_1_method_47_code 34 = .ok (.getfield 26, 3) := by decide +kernel
theorem d120_37 : decode prog_1_method_47_code 37 = .ok (.aload_n 0, 1) := by decide +kernel
theorem d120_38 : decode prog_1_method_47_code 38 = .ok (.getfield 10, 3) := by decide +kernel
theorem d120_41 : decode prog_1_method_47_code 41 = .ok (.invokevirtual 58, 3) := by decide +kernel
theorem d120_44 : decode prog_1_method_47_code 44 = .ok (.aload_n 0, 1) := by decide +kernel
theorem d120_45 : decode prog_1_method_47_code 45 = .ok (.invokevirtual 297, 3) := by decide +kernel
theorem d120_48 : decode prog_1_method_47_code 48 = .ok (.istore_n 2, 1) := by decide +kernel
theorem d120_49 : decode prog_1_method_47_code 49 = .ok (.iload_n 2, 1) := by decide +kernel
theorem d120_50 : decode prog_1_method_47_code 50 = .ok (.iconst (-1), 1) := by decide +kernel
theorem d120_51 : decode prog_1_method_47_code 51 = .ok (.if_icmp .eq 27, 3) := by decide +kernel
theorem d120_54 : decode prog_1_method_47_code 54 = .ok (.aload_n 0, 1) := by decide +kernel
theorem d120_55 : decode prog_1_method_47_code 55 = .ok (.getfield 26, 3) := by decide +kernel
theorem d120_58 : decode prog_1_method_47_code 58 = .ok (.aload_n 0, 1) := by decide +kernel
theorem d120_59 : decode prog_1_method_47_code 59 = .ok (.getfield 10, 3) := by decide +kernel
theorem d120_62 : decode prog_1_method_47_code 62 = .ok (.invokevirtual 300, 3) := by decide +kernel
theorem d120_65 : decode prog_1_method_47_code 65 = .ok (.aload_n 0, 1) := by decide +kernel
theorem d120_66 : decode prog_1_method_47_code 66 = .ok (.iload_n 2, 1) := by decide +kernel
theorem d120_67 : decode prog_1_method_47_code 67 = .ok (.putfield 55, 3) := by decide +kernel
theorem d120_70 : decode prog_1_method_47_code 70 = .ok (.new 303, 3) := by decide +kernel
theorem d120_73 : decode prog_1_method_47_code 73 = .ok (.dup, 1) := by decide +kernel
theorem d120_74 : decode prog_1_method_47_code 74 = .ok (.invokespecial 305, 3) := by decide +kernel
theorem d120_77 : decode prog_1_method_47_code 77 = .ok (.athrow, 1) := by decide +kernel
theorem d120_78 : decode prog_1_method_47_code 78 = .ok (.aload_n 0, 1) := by decide +kernel
theorem d120_79 : decode prog_1_method_47_code 79 = .ok (.getfield 26, 3) := by decide +kernel
theorem d120_82 : decode prog_1_method_47_code 82 = .ok (.invokevirtual 306, 3) := by decide +kernel
theorem d120_85 : decode prog_1_method_47_code 85 = .ok (.aload_n 0, 1) := by decide +kernel
theorem d120_86 : decode prog_1_method_47_code 86 = .ok (.getfield 40, 3) := by decide +kernel
theorem d120_89 : decode prog_1_method_47_code 89 = .ok (.getfield 309, 3) := by decide +kernel
theorem d120_92 : decode prog_1_method_47_code 92 = .ok (.ireturn, 1) := by decide +kernel
theorem d121_0 : decode prog_1_method_54_code 0 = .ok (.iconst 0, 1) := by decide +kernel
theorem d121_1 : decode prog_1_method_54_code 1 = .ok (.istore_n 1, 1) := by decide +kernel
theorem d121_2 : decode prog_1_method_54_code 2 = .ok (.iload_n 1, 1) := by decide +kernel
theorem d121_3 : decode prog_1_method_54_code 3 = .ok (.aload_n 0, 1) := by decide +kernel
theorem d121_4 : decode prog_1_method_54_code 4 = .ok (.getfield 40, 3) := by decide +kernel
theorem d121_7 : decode prog_1_method_54_code 7 = .ok (.getfield 309, 3) := by decide +kernel
theorem d121_10 : decode prog_1_method_54_code 10 = .ok (.if_icmp .ge 27, 3) := by decide +kernel
theorem d121_13 : decode prog_1_method_54_code 13 = .ok (.aload_n 0, 1) := by decide +kernel
theorem d121_14 : decode prog_1_method_54_code 14 = .ok (.aload_n 0, 1) := by decide +kernel
theorem d121_15 : decode prog_1_method_54_code 15 = .ok (.getfield 40, 3) := by decide +kernel
theorem d121_18 : decode prog_1_method_54_code 18 = .ok (.getfield 320, 3) := by decide +kernel
theorem d121_21 : decode prog_1_method_54_code 21 = .ok (.iload_n 1, 1) := by decide +kernel
theorem d121_22 : decode prog_1_method_54_code 22 = .ok (.aaload, 1) := by decide +kernel
theorem d121_23 : decode prog_1_method_54_code 23 = .ok (.invokevirtual 324, 3) := by decide +kernel
theorem d121_26 : decode prog_1_method_54_code 26 = .ok (.ifCond .ge 5, 3) := by decide +kernel
theorem d121_29 : decode prog_1_method_54_code 29 = .ok (.iload_n 1, 1) := by decide +kernel
theorem d121_30 : decode prog_1_method_54_code 30 = .ok (.ireturn, 1) := by decide +kernel
theorem d121_31 : decode prog_1_method_54_code 31 = .ok (.iinc 1 1, 3) := by decide +kernel
theorem d121_34 : decode prog_1_method_54_code 34 = .ok (.goto (-32), 3) := by decide +kernel
theorem d121_37 : decode prog_1_method_54_code 37 = .ok (.iconst (-1), 1) := by decide +kernel
theorem d121_38 : decode prog_1_method_54_code 38 = .ok (.ireturn, 1) := by decide +kernel
theorem d122_0 : decode prog_1_method_55_code 0 = .ok (.aload_n 1, 1) := by decide +kernel
theorem d122_1 : decode prog_1_method_55_code 1 = .ok (.getfield 328, 3) := by decide +kernel
theorem d122_4 : decode prog_1_method_55_code 4 = .ok (.astore_n 2, 1) := by decide +kernel
theorem d122_5 : decode prog_1_method_55_code 5 = .ok (.getstatic 333, 3) := by decide +kernel
theorem d122_8 : decode prog_1_method_55_code 8 = .ok (.aload_n 1, 1) := by decide +kernel
theorem d122_9 : decode prog_1_method_55_code 9 = .ok (.getfield 338, 3) := by decide +kernel
theorem d122_12 : decode prog_1_method_55_code 12 = .ok (.invokevirtual 342, 3) := by decide +kernel
theorem d122_15 : decode prog_1_method_55_code 15 = .ok (.iaload, 1) := by decide +kernel
theorem d122_16 : decode prog_1_method_55_code 16 = .ok (.tableswitch 202 1 10 #[56, 82, 93, 107, 118, 132, 149, 163, 177, 191], 56) := by decide +kernel
theorem d122_72 : decode prog_1_method_55_code 72 = .ok (.aload_n 0, 1) := by decide +kernel
theorem d122_73 : decode prog_1_method_55_code 73 = .ok (.getfield 10, 3) := by decide +kernel
theorem d122_76 : decode prog_1_method_55_code 76 = .ok (.aload_n 2, 1) := by decide +kernel
theorem d122_77 : decode prog_1_method_55_code 77 = .ok (.iconst 0, 1) := by decide +kernel
theorem d122_78 : decode prog_1_method_55_code 78 = .ok (.iaload, 1) := by decide +kernel
theorem d122_79 : decode prog_1_method_55_code 79 = .ok (.aload_n 2, 1) := by decide +kernel
theorem d122_80 : decode prog_1_method_55_code 80 = .ok (.iconst 1, 1) := by decide +kernel
theorem d122_81 : decode prog_1_method_55_code 81 = .ok (.iaload, 1) := by decide +kernel
theorem d122_82 : decode prog_1_method_55_code 82 = .ok (.aload_n 2, 1) := by decide +kernel
theorem d122_83 : decode prog_1_method_55_code 83 = .ok (.iconst 2, 1) := by decide +kernel
theorem d122_84 : decode prog_1_method_55_code 84 = .ok (.iaload, 1) := by decide +kernel
theorem d122_85 : decode prog_1_method_55_code 85 = .ok (.aload_n 2, 1) := by decide +kernel
theorem d122_86 : decode prog_1_method_55_code 86 = .ok (.iconst 3, 1) := by decide +kernel
theorem d122_87 : decode prog_1_method_55_code 87 = .ok (.iaload, 1) := by decide +kernel
theorem d122_88 : decode prog_1_method_55_code 88 = .ok (.aload_n 2, 1) := by decide +kernel
theorem d122_89 : decode prog_1_method_55_code 89 = .ok (.iconst 4, 1) := by decide +kernel
theorem d122_90 : decode prog_1_method_55_code 90 = .ok (.iaload, 1) := by decide +kernel
theorem d122_91 : decode prog_1_method_55_code 91 = .ok (.aload_n 2, 1) := by decide +kernel
theorem d122_92 : decode prog_1_method_55_code 92 = .ok (.iconst 5, 1) := by decide +kernel
theorem d122_93 : decode prog_1_method_55_code 93 = .ok (.iaload, 1) := by decide +kernel
theorem d122_94 : decode prog_1_method_55_code 94 = .ok (.invokevirtual 66, 3) := by decide +kernel
theorem d122_97 : decode prog_1_method_55_code 97 = .ok (.ireturn, 1) := by decide +kernel
theorem d122_98 : decode prog_1_method_55_code 98 = .ok (.aload_n 0, 1) := by decide +kernel
theorem d122_99 : decode prog_1_method_55_code 99 = .ok (.getfield 10, 3) := by decide +kernel
theorem d122_102 : decode prog_1_method_55_code 102 = .ok (.aload_n 2, 1) := by decide +kernel
theorem d122_103 : decode prog_1_method_55_code 103 = .ok (.iconst 0, 1) := by decide +kernel
theorem d122_104 : decode prog_1_method_55_code 104 = .ok (.iaload, 1) := by decide +kernel
theorem d122_105 : decode prog_1_method_55_code 105 = .ok (.invokevirtual 74, 3) := by decide +kernel
theorem d122_108 : decode prog_1_method_55_code 108 = .ok (.ireturn, 1) := by decide +kernel
theorem d122_109 : decode prog_1_method_55_code 109 = .ok (.aload_n 0, 1) := by decide +kernel
theorem d122_110 : decode prog_1_method_55_code 110 = .ok (.getfield 10, 3) := by decide +kernel
theorem d122_113 : decode prog_1_method_55_code 113 = .ok (.aload_n 2, 1) := by decide +kernel
theorem d122_114 : decode prog_1_method_55_code 114 = .ok (.iconst 0, 1) := by decide +kernel
theorem d122_115 : decode prog_1_method_55_code 115 = .ok (.iaload, 1) := by decide +kernel
theorem d122_116 : decode prog_1_method_55_code 116 = .ok (.aload_n 2, 1) := by decide +kernel
theorem d122_117 : decode prog_1_method_55_code 117 = .ok (.iconst 1, 1) := by decide +kernel
theorem d122_118 : decode prog_1_method_55_code 118 = .ok (.iaload, 1) := by decide +kernel
theorem d122_119 : decode prog_1_method_55_code 119 = .ok (.invokevirtual 77, 3) := by decide +kernel
theorem d122_122 : decode prog_1_method_55_code 122 = .ok (.ireturn, 1) := by decide +kernel
theorem d122_123 : decode prog_1_method_55_code 123 = .ok (.aload_n 0, 1) := by decide +kernel
theorem d122_124 : decode prog_1_method_55_code 124 = .ok (.getfield 10, 3) := by decide +kernel
theorem d122_127 : decode prog_1_method_55_code 127 = .ok (.aload_n 2, 1) := by decide +kernel
theorem d122_128 : decode prog_1_method_55_code 128 = .ok (.iconst 0, 1) := by decide +kernel
theorem d122_129 : decode prog_1_method_55_code 129 = .ok (.iaload, 1) := by decide +kernel
theorem d122_130 : decode prog_1_method_55_code 130 = .ok (.invokevirtual 81, 3) := by decide +kernel
theorem d122_133 : decode prog_1_method_55_code 133 = .ok (.ireturn, 1) := by decide +kernel
theorem d122_134 : decode prog_1_method_55_code 134 = .ok (.aload_n 0, 1) := by decide +kernel
theorem d122_135 : decode prog_1_method_55_code 135 = .ok (.getfield 10, 3) := by decide +kernel
theorem d122_138 : decode prog_1_method_55_code 138 = .ok (.aload_n 2, 1) := by decide +kernel
theorem d122_139 : decode prog_1_method_55_code 139 = .ok (.iconst 0, 1) := by decide +kernel
theorem d122_140 : decode prog_1_method_55_code 140 = .ok (.iaload, 1) := by decide +kernel
theorem d122_141 : decode prog_1_method_55_code 141 = .ok (.aload_n 2, 1) := by decide +kernel
theorem d122_142 : decode prog_1_method_55_code 142 = .ok (.iconst 1, 1) := by decide +kernel
theorem d122_143 : decode prog_1_method_55_code 143 = .ok (.iaload, 1) := by decide +kernel
theorem d122_144 : decode prog_1_method_55_code 144 = .ok (.invokevirtual 84, 3) := by decide +kernel
theorem d122_147 : decode prog_1_method_55_code 147 = .ok (.ireturn, 1) := by decide +kernel
theorem d122_148 : decode prog_1_method_55_code 148 = .ok (.aload_n 0, 1) := by decide +kernel
theorem d122_149 : decode prog_1_method_55_code 149 = .ok (.getfield 10, 3) := by decide +kernel
theorem d122_152 : decode prog_1_method_55_code 152 = .ok (.aload_n 2, 1) := by decide +kernel
theorem d122_153 : decode prog_1_method_55_code 153 = .ok (.iconst 0, 1) := by decide +kernel
theorem d122_154 : decode prog_1_method_55_code 154 = .ok (.iaload, 1) := by decide +kernel
theorem d122_155 : decode prog_1_method_55_code 155 = .ok (.aload_n 2, 1) := by decide +kernel
theorem d122_156 : decode prog_1_method_55_code 156 = .ok (.iconst 1, 1) := by decide +kernel
theorem d122_157 : decode prog_1_method_55_code 157 = .ok (.iaload, 1) := by decide +kernel
theorem d122_158 : decode prog_1_method_55_code 158 = .ok (.aload_n 2, 1) := by decide +kernel
theorem d122_159 : decode prog_1_method_55_code 159 = .ok (.iconst 2, 1) := by decide +kernel
theorem d122_160 : decode prog_1_method_55_code 160 = .ok (.iaload, 1) := by decide +kernel
theorem d122_161 : decode prog_1_method_55_code 161 = .ok (.invokevirtual 87, 3) := by decide +kernel
theorem d122_164 : decode prog_1_method_55_code 164 = .ok (.ireturn, 1) := by decide +kernel
theorem d122_165 : decode prog_1_method_55_code 165 = .ok (.aload_n 0, 1) := by decide +kernel
theorem d122_166 : decode prog_1_method_55_code 166 = .ok (.getfield 10, 3) := by decide +kernel
theorem d122_169 : decode prog_1_method_55_code 169 = .ok (.aload_n 2, 1) := by decide +kernel
theorem d122_170 : decode prog_1_method_55_code 170 = .ok (.iconst 0, 1) := by decide +kernel
theorem d122_171 : decode prog_1_method_55_code 171 = .ok (.iaload, 1) := by decide +kernel
theorem d122_172 : decode prog_1_method_55_code 172 = .ok (.aload_n 2, 1) := by decide +kernel
theorem d122_173 : decode prog_1_method_55_code 173 = .ok (.iconst 1, 1) := by decide +kernel
theorem d122_174 : decode prog_1_method_55_code 174 = .ok (.iaload, 1) := by decide +kernel
theorem d122_175 : decode prog_1_method_55_code 175 = .ok (.invokevirtual 91, 3) := by decide +kernel
theorem d122_178 : decode prog_1_method_55_code 178 = .ok (.ireturn, 1) := by decide +kernel
theorem d122_179 : decode prog_1_method_55_code 179 = .ok (.aload_n 0, 1) := by decide +kernel
theorem d122_180 : decode prog_1_method_55_code 180 = .ok (.getfield 10, 3) := by decide +kernel
theorem d122_183 : decode prog_1_method_55_code 183 = .ok (.aload_n 2, 1) := by decide +kernel
theorem d122_184 : decode prog_1_method_55_code 184 = .ok (.iconst 0, 1) := by decide +kernel
theorem d122_185 : decode prog_1_method_55_code 185 = .ok (.iaload, 1) := by decide +kernel
theorem d122_186 : decode prog_1_method_55_code 186 = .ok (.aload_n 2, 1) := by decide +kernel
theorem d122_187 : decode prog_1_method_55_code 187 = .ok (.iconst 1, 1) := by decide +kernel
theorem d122_188 : decode prog_1_method_55_code 188 = .ok (.iaload, 1) := by decide +kernel
theorem d122_189 : decode prog_1_method_55_code 189 = .ok (.invokevirtual 94, 3) := by decide +kernel
theorem d122_192 : decode prog_1_method_55_code 192 = .ok (.ireturn, 1) := by decide +kernel
theorem d122_193 : decode prog_1_method_55_code 193 = .ok (.aload_n 0, 1) := by decide +kernel
theorem d122_194 : decode prog_1_method_55_code 194 = .ok (.getfield 10, 3) := by decide +kernel
theorem d122_197 : decode prog_1_method_55_code 197 = .ok (.aload_n 2, 1) := by decide +kernel
theorem d122_198 : decode prog_1_method_55_code 198 = .ok (.iconst 0, 1) := by decide +kernel
theorem d122_199 : decode prog_1_method_55_code 199 = .ok (.iaload, 1) := by decide +kernel
theorem d122_200 : decode prog_1_method_55_code 200 = .ok (.aload_n 2, 1) := by decide +kernel
theorem d122_201 : decode prog_1_method_55_code 201 = .ok (.iconst 1, 1) := by decide +kernel
theorem d122_202 : decode prog_1_method_55_code 202 = .ok (.iaload, 1) := by decide +kernel
theorem d122_203 : decode prog_1_method_55_code 203 = .ok (.invokevirtual 97, 3) := by decide +kernel
theorem d122_206 : decode prog_1_method_55_code 206 = .ok (.ireturn, 1) := by decide +kernel
theorem d122_207 : decode prog_1_method_55_code 207 = .ok (.aload_n 0, 1) := by decide +kernel
theorem d122_208 : decode prog_1_method_55_code 208 = .ok (.getfield 10, 3) := by decide +kernel
theorem d122_211 : decode prog_1_method_55_code 211 = .ok (.aload_n 2, 1) := by decide +kernel
theorem d122_212 : decode prog_1_method_55_code 212 = .ok (.iconst 0, 1) := by decide +kernel
theorem d122_213 : decode prog_1_method_55_code 213 = .ok (.iaload, 1) := by decide +kernel
theorem d122_214 : decode prog_1_method_55_code 214 = .ok (.invokevirtual 100, 3) := by decide +kernel
theorem d122_217 : decode prog_1_method_55_code 217 = .ok (.ireturn, 1) := by decide +kernel
theorem d122_218 : decode prog_1_method_55_code 218 = .ok (.aload_n 0, 1) := by decide +kernel
theorem d122_219 : decode prog_1_method_55_code 219 = .ok (.getfield 10, 3) := by decide +kernel
theorem d122_222 : decode prog_1_method_55_code 222 = .ok (.aload_n 2, 1) := by decide +kernel
theorem d122_223 : decode prog_1_method_55_code 223 = .ok (.iconst 0, 1) := by decide +kernel
theorem d122_224 : decode prog_1_method_55_code 224 = .ok (.iaload, 1) := by decide +kernel
theorem d122_225 : decode prog_1_method_55_code 225 = .ok (.aload_n 2, 1) := by decide +kernel
theorem d122_226 : decode prog_1_method_55_code 226 = .ok (.iconst 1, 1) := by decide +kernel
theorem d122_227 : decode prog_1_method_55_code 227 = .ok (.iaload, 1) := by decide +kernel
theorem d122_228 : decode prog_1_method_55_code 228 = .ok (.invokevirtual 103, 3) := by decide +kernel
theorem d122_231 : decode prog_1_method_55_code 231 = .ok (.ireturn, 1) := by decide +kernel
theorem d123_0 : decode prog_1_method_48_code 0 = .ok (.aload_n 0, 1) := by decide +kernel
theorem d123_1 : decode prog_1_method_48_code 1 = .ok (.getfield 51, 3) := by decide +kernel
theorem d123_4 : decode prog_1_method_48_code 4 = .ok (.iconst (-1), 1) := by decide +kernel
theorem d123_5 : decode prog_1_method_48_code 5 = .ok (.if_icmp .ne 11, 3) := by decide +kernel
theorem d123_8 : decode prog_1_method_48_code 8 = .ok (.new 134, 3) := by decide +kernel
theorem d123_11 : decode prog_1_method_48_code 11 = .ok (.dup, 1) := by decide +kernel
theorem d123_12 : decode prog_1_method_48_code 12 = .ok (.invokespecial 136, 3) := by decide +kernel
theorem d123_15 : decode prog_1_method_48_code 15 = .ok (.athrow, 1) := by decide +kernel
theorem d123_16 : decode prog_1_method_48_code 16 = .ok (.aload_n 0, 1) := by decide +kernel
theorem d123_17 : decode prog_1_method_48_code 17 = .ok (.getfield 51, 3) := by decide +kernel
theorem d123_20 : decode prog_1_method_48_code 20 = .ok (.ireturn, 1) := by decide +kernel
theorem d124_0 : decode prog_1_method_49_code 0 = .ok (.aload_n 0, 1) := by decide +kernel
theorem d124_1 : decode prog_1_method_49_code 1 = .ok (.getfield 55, 3) := by decide +kernel
theorem d124_4 : decode prog_1_method_49_code 4 = .ok (.iconst (-1), 1) := by decide +kernel
theorem d124_5 : decode prog_1_method_49_code 5 = .ok (.if_icmp .ne 11, 3) := by decide +kernel
theorem d124_8 : decode prog_1_method_49_code 8 = .ok (.new 134, 3) := by decide +kernel
theorem d124_11 : decode prog_1_method_49_code 11 = .ok (.dup, 1) := by decide +kernel
theorem d124_12 : decode prog_1_method_49_code 12 = .ok (.invokespecial 136, 3) := by decide +kernel
theorem d124_15 : decode prog_1_method_49_code 15 = .ok (.athrow, 1) := by decide +kernel
theorem d124_16 : decode prog_1_method_49_code 16 = .ok (.aload_n 0, 1) := by decide +kernel
theorem d124_17 : decode prog_1_method_49_code 17 = .ok (.getfield 55, 3) := by decide +kernel
theorem d124_20 : decode prog_1_method_49_code 20 = .ok (.ireturn, 1) := by decide +kernel
theorem d125_0 : decode prog_1_method_50_code 0 = .ok (.aload_n 0, 1) := by decide +kernel
theorem d125_1 : decode prog_1_method_50_code 1 = .ok (.getfield 26, 3) := by decide +kernel
theorem d125_4 : decode prog_1_method_50_code 4 = .ok (.getfield 310, 3) := by decide +kernel
theorem d125_7 : decode prog_1_method_50_code 7 = .ok (.ifCond .ne 11, 3) := by decide +kernel
theorem d125_10 : decode prog_1_method_50_code 10 = .ok (.new 283, 3) := by decide +kernel
theorem d125_13 : decode prog_1_method_50_code 13 = .ok (.dup, 1) := by decide +kernel
theorem d125_14 : decode prog_1_method_50_code 14 = .ok (.invokespecial 285, 3) := by decide +kernel
theorem d125_17 : decode prog_1_method_50_code 17 = .ok (.athrow, 1) := by decide +kernel
theorem d125_18 : decode prog_1_method_50_code 18 = .ok (.aload_n 0, 1) := by decide +kernel
theorem d125_19 : decode prog_1_method_50_code 19 = .ok (.getfield 26, 3) := by decide +kernel
theorem d125_22 : decode prog_1_method_50_code 22 = .ok (.aload_n 0, 1) := by decide +kernel
theorem d125_23 : decode prog_1_method_50_code 23 = .ok (.getfield 10, 3) := by decide +kernel
theorem d125_26 : decode prog_1_method_50_code 26 = .ok (.invokevirtual 311, 3) := by decide +kernel
theorem d125_29 : decode prog_1_method_50_code 29 = .ok (.aload_n 0, 1) := by decide +kernel
theorem d125_30 : decode prog_1_method_50_code 30 = .ok (.getfield 26, 3) := by decide +kernel
theorem d125_33 : decode prog_1_method_50_code 33 = .ok (.getfield 310, 3) := by decide +kernel
theorem d125_36 : decode prog_1_method_50_code 36 = .ok (.ireturn, 1) := by decide +kernel
theorem d126_0 : decode prog_1_method_52_code 0 = .ok (.aload_n 0, 1) := by decide +kernel
theorem d126_1 : decode prog_1_method_52_code 1 = .ok (.getfield 19, 3) := by decide +kernel
theorem d126_4 : decode prog_1_method_52_code 4 = .ok (.ifCond .ne 11, 3) := by decide +kernel
theorem d126_7 : decode prog_1_method_52_code 7 = .ok (.new 283, 3) := by decide +kernel
theorem d126_10 : decode prog_1_method_52_code 10 = .ok (.dup, 1) := by decide +kernel
theorem d126_11 : decode prog_1_method_52_code 11 = .ok (.invokespecial 285, 3) := by decide +kernel
theorem d126_14 : decode prog_1_method_52_code 14 = .ok (.athrow, 1) := by decide +kernel
theorem d126_15 : decode prog_1_method_52_code 15 = .ok (.aload_n 0, 1) := by decide +kernel
theorem d126_16 : decode prog_1_method_52_code 16 = .ok (.getfield 10, 3) := by decide +kernel
theorem d126_19 : decode prog_1_method_52_code 19 = .ok (.aload_n 0, 1) := by decide +kernel
theorem d126_20 : decode prog_1_method_52_code 20 = .ok (.getfield 16, 3) := by decide +kernel
theorem d126_23 : decode prog_1_method_52_code 23 = .ok (.invokevirtual 314, 3) := by decide +kernel
theorem d126_26 : decode prog_1_method_52_code 26 = .ok (.aload_n 0, 1) := by decide +kernel
theorem d126_27 : decode prog_1_method_52_code 27 = .ok (.getfield 26, 3) := by decide +kernel
theorem d126_30 : decode prog_1_method_52_code 30 = .ok (.invokevirtual 317, 3) := by decide +kernel
theorem d126_33 : decode prog_1_method_52_code 33 = .ok (.aload_n 0, 1) := by decide +kernel
theorem d126_34 : decode prog_1_method_52_code 34 = .ok (.getfield 10, 3) := by decide +kernel
theorem d126_37 : decode prog_1_method_52_code 37 = .ok (.getfield 106, 3) := by decide +kernel
theorem d126_40 : decode prog_1_method_52_code 40 = .ok (.ireturn, 1) := by decide +kernel
theorem d291_0 : decode prog_14_method_2_code 0 = .ok (.aload_n 0, 1) := by decide +kernel
theorem d291_1 : decode prog_14_method_2_code 1 = .ok (.invokespecial 3, 3) := by decide +kernel
theorem d291_4 : decode prog_14_method_2_code 4 = .ok (.getstatic 18, 3) := by decide +kernel
theorem d291_7 : decode prog_14_method_2_code 7 = .ok (.ifCond .eq 18, 3) := by decide +kernel
theorem d291_10 : decode prog_14_method_2_code 10 = .ok (.aload_n 0, 1) := by decide +kernel
theorem d291_11 : decode prog_14_method_2_code 11 = .ok (.iload_n 1, 1) := by decide +kernel
theorem d291_12 : decode prog_14_method_2_code 12 = .ok (.newarray .byte, 2) := by decide +kernel
theorem d291_14 : decode prog_14_method_2_code 14 = .ok (.putfield 15, 3) := by decide +kernel
theorem d291_17 : decode prog_14_method_2_code 17 = .ok (.aload_n 0, 1) := by decide +kernel
theorem d291_18 : decode prog_14_method_2_code 18 = .ok (.iconst 0, 1) := by decide +kernel
theorem d291_19 : decode prog_14_method_2_code 19 = .ok (.putfield 22, 3) := by decide +kernel
theorem d291_22 : decode prog_14_method_2_code 22 = .ok (.goto 16, 3) := by decide +kernel
theorem d291_25 : decode prog_14_method_2_code 25 = .ok (.aload_n 0, 1) := by decide +kernel
theorem d291_26 : decode prog_14_method_2_code 26 = .ok (.iload_n 1, 1) := by decide +kernel
theorem d291_27 : decode prog_14_method_2_code 27 = .ok (.invokestatic 26, 3) := by decide +kernel
theorem d291_30 : decode prog_14_method_2_code 30 = .ok (.putfield 15, 3) := by decide +kernel
theorem d291_33 : decode prog_14_method_2_code 33 = .ok (.aload_n 0, 1) := by decide +kernel
theorem d291_34 : decode prog_14_method_2_code 34 = .ok (.iconst 1, 1) := by decide +kernel
theorem d291_35 : decode prog_14_method_2_code 35 = .ok (.putfield 22, 3) := by decide +kernel
theorem d291_38 : decode prog_14_method_2_code 38 = .ok (.return_, 1) := by decide +kernel
theorem d292_0 : decode prog_14_method_13_code 0 = .ok (.iload_n 1, 1) := by decide +kernel
theorem d292_1 : decode prog_14_method_13_code 1 = .ok (.ifCond .ge 12, 3) := by decide +kernel
theorem d292_4 : decode prog_14_method_13_code 4 = .ok (.new 129, 3) := by decide +kernel
theorem d292_7 : decode prog_14_method_13_code 7 = .ok (.dup, 1) := by decide +kernel
theorem d292_8 : decode prog_14_method_13_code 8 = .ok (.iload_n 1, 1) := by decide +kernel
theorem d292_9 : decode prog_14_method_13_code 9 = .ok (.invokespecial 131, 3) := by decide +kernel
theorem d292_12 : decode prog_14_method_13_code 12 = .ok (.athrow, 1) := by decide +kernel
theorem d292_13 : decode prog_14_method_13_code 13 = .ok (.aload_n 0, 1) := by decide +kernel
theorem d292_14 : decode prog_14_method_13_code 14 = .ok (.iload_n 1, 1) := by decide +kernel
theorem d292_15 : decode prog_14_method_13_code 15 = .ok (.invokevirtual 100, 3) := by decide +kernel
theorem d292_18 : decode prog_14_method_13_code 18 = .ok (.aload_n 0, 1) := by decide +kernel
theorem d292_19 : decode prog_14_method_13_code 19 = .ok (.getfield 79, 3) := by decide +kernel
theorem d292_22 : decode prog_14_method_13_code 22 = .ok (.iload_n 1, 1) := by decide +kernel
theorem d292_23 : decode prog_14_method_13_code 23 = .ok (.if_icmp .ge 40, 3) := by decide +kernel
theorem d292_26 : decode prog_14_method_13_code 26 = .ok (.aload_n 0, 1) := by decide +kernel
theorem d292_27 : decode prog_14_method_13_code 27 = .ok (.invokevirtual 83, 3) := by decide +kernel
theorem d292_30 : decode prog_14_method_13_code 30 = .ok (.ifCond .eq 18, 3) := by decide +kernel
theorem d292_33 : decode prog_14_method_13_code 33 = .ok (.aload_n 0, 1) := by decide +kernel
theorem d292_34 : decode prog_14_method_13_code 34 = .ok (.getfield 15, 3) := by decide +kernel
theorem d292_37 : decode prog_14_method_13_code 37 = .ok (.aload_n 0, 1) := by decide +kernel
theorem d292_38 : decode prog_14_method_13_code 38 = .ok (.getfield 79, 3) := by decide +kernel
theorem d292_41 : decode prog_14_method_13_code 41 = .ok (.iload_n 1, 1) := by decide +kernel
theorem d292_42 : decode prog_14_method_13_code 42 = .ok (.invokestatic 133, 3) := by decide +kernel
theorem d292_45 : decode prog_14_method_13_code 45 = .ok (.goto 31, 3) := by decide +kernel
theorem d292_48 : decode prog_14_method_13_code 48 = .ok (.aload_n 0, 1) := by decide +kernel
theorem d292_49 : decode prog_14_method_13_code 49 = .ok (.getfield 15, 3) := by decide +kernel
theorem d292_52 : decode prog_14_method_13_code 52 = .ok (.aload_n 0, 1) := by decide +kernel
theorem d292_53 : decode prog_14_method_13_code 53 = .ok (.getfield 79, 3) := by decide +kernel
theorem d292_56 : decode prog_14_method_13_code 56 = .ok (.iload_n 1, 1) := by decide +kernel
theorem d292_57 : decode prog_14_method_13_code 57 = .ok (.invokestatic 137, 3) := by decide +kernel
theorem d292_60 : decode prog_14_method_13_code 60 = .ok (.goto 16, 3) := by decide +kernel
theorem d292_63 : decode prog_14_method_13_code 63 = .ok (.aload_n 0, 1) := by decide +kernel
theorem d292_64 : decode prog_14_method_13_code 64 = .ok (.getfield 79, 3) := by decide +kernel
theorem d292_67 : decode prog_14_method_13_code 67 = .ok (.iload_n 1, 1) := by decide +kernel
theorem d292_68 : decode prog_14_method_13_code 68 = .ok (.if_icmp .le 8, 3) := by decide +kernel
theorem d292_71 : decode prog_14_method_13_code 71 = .ok (.aload_n 0, 1) := by decide +kernel
theorem d292_72 : decode prog_14_method_13_code 72 = .ok (.iconst 1, 1) := by decide +kernel
theorem d292_73 : decode prog_14_method_13_code 73 = .ok (.putfield 73, 3) := by decide +kernel
theorem d292_76 : decode prog_14_method_13_code 76 = .ok (.aload_n 0, 1) := by decide +kernel
theorem d292_77 : decode prog_14_method_13_code 77 = .ok (.iload_n 1, 1) := by decide +kernel
theorem d292_78 : decode prog_14_method_13_code 78 = .ok (.putfield 79, 3) := by decide +kernel
theorem d292_81 : decode prog_14_method_13_code 81 = .ok (.return_, 1) := by decide +kernel
theorem d293_0 : decode prog_14_method_22_code 0 = .ok (.aload_n 1, 1) := by decide +kernel
theorem d293_1 : decode prog_14_method_22_code 1 = .ok (.ifnonnull 8, 3) := by decide +kernel
theorem d293_4 : decode prog_14_method_22_code 4 = .ok (.aload_n 0, 1) := by decide +kernel
theorem d293_5 : decode prog_14_method_22_code 5 = .ok (.invokevirtual 204, 3) := by decide +kernel
theorem d293_8 : decode prog_14_method_22_code 8 = .ok (.areturn, 1) := by decide +kernel
theorem d293_9 : decode prog_14_method_22_code 9 = .ok (.aload_n 1, 1) := by decide +kernel
theorem d293_10 : decode prog_14_method_22_code 10 = .ok (.invokevirtual 32, 3) := by decide +kernel
theorem d293_13 : decode prog_14_method_22_code 13 = .ok (.istore_n 2, 1) := by decide +kernel
theorem d293_14 : decode prog_14_method_22_code 14 = .ok (.aload_n 0, 1) := by decide +kernel
theorem d293_15 : decode prog_14_method_22_code 15 = .ok (.aload_n 0, 1) := by decide +kernel
theorem d293_16 : decode prog_14_method_22_code 16 = .ok (.getfield 79, 3) := by decide +kernel
theorem d293_19 : decode prog_14_method_22_code 19 = .ok (.iload_n 2, 1) := by decide +kernel
theorem d293_20 : decode prog_14_method_22_code 20 = .ok (.iadd, 1) := by decide +kernel
theorem d293_21 : decode prog_14_method_22_code 21 = .ok (.invokevirtual 100, 3) := by decide +kernel
theorem d293_24 : decode prog_14_method_22_code 24 = .ok (.aload_n 0, 1) := by decide +kernel
theorem d293_25 : decode prog_14_method_22_code 25 = .ok (.aload_n 0, 1) := by decide +kernel
theorem d293_26 : decode prog_14_method_22_code 26 = .ok (.getfield 79, 3) := by decide +kernel
theorem d293_29 : decode prog_14_method_22_code 29 = .ok (.aload_n 1, 1) := by decide +kernel
theorem d293_30 : decode prog_14_method_22_code 30 = .ok (.invokevirtual 208, 3) := by decide +kernel
theorem d293_33 : decode prog_14_method_22_code 33 = .ok (.aload_n 0, 1) := by decide +kernel
theorem d293_34 : decode prog_14_method_22_code 34 = .ok (.dup, 1) := by decide +kernel
theorem d293_35 : decode prog_14_method_22_code 35 = .ok (.getfield 79, 3) := by decide +kernel
theorem d293_38 : decode prog_14_method_22_code 38 = .ok (.iload_n 2, 1) := by decide +kernel
theorem d293_39 : decode prog_14_method_22_code 39 = .ok (.iadd, 1) := by decide +kernel
theorem d293_40 : decode prog_14_method_22_code 40 = .ok (.putfield 79, 3) := by decide +kernel
theorem d293_43 : decode prog_14_method_22_code 43 = .ok (.aload_n 0, 1) := by decide +kernel
theorem d293_44 : decode prog_14_method_22_code 44 = .ok (.areturn, 1) := by decide +kernel
theorem d294_0 : decode prog_14_method_9_code 0 = .ok (.aload_n 0, 1) := by decide +kernel
theorem d294_1 : decode prog_14_method_9_code 1 = .ok (.getfield 15, 3) := by decide +kernel
theorem d294_4 : decode prog_14_method_9_code 4 = .ok (.arraylength, 1) := by decide +kernel
theorem d294_5 : decode prog_14_method_9_code 5 = .ok (.aload_n 0, 1) := by decide +kernel
theorem d294_6 : decode prog_14_method_9_code 6 = .ok (.getfield 22, 3) := by decide +kernel
theorem d294_9 : decode prog_14_method_9_code 9 = .ok (.ishr, 1) := by decide +kernel
theorem d294_10 : decode prog_14_method_9_code 10 = .ok (.istore_n 2, 1) := by decide +kernel
theorem d294_11 : decode prog_14_method_9_code 11 = .ok (.iload_n 1, 1) := by decide +kernel
theorem d294_12 : decode prog_14_method_9_code 12 = .ok (.iload_n 2, 1) := by decide +kernel
theorem d294_13 : decode prog_14_method_9_code 13 = .ok (.isub, 1) := by decide +kernel
theorem d294_14 : decode prog_14_method_9_code 14 = .ok (.ifCond .le 24, 3) := by decide +kernel
theorem d294_17 : decode prog_14_method_9_code 17 = .ok (.aload_n 0, 1) := by decide +kernel
theorem d294_18 : decode prog_14_method_9_code 18 = .ok (.aload_n 0, 1) := by decide +kernel
theorem d294_19 : decode prog_14_method_9_code 19 = .ok (.getfield 15, 3) := by decide +kernel
theorem d294_22 : decode prog_14_method_9_code 22 = .ok (.aload_n 0, 1) := by decide +kernel
theorem d294_23 : decode prog_14_method_9_code 23 = .ok (.iload_n 1, 1) := by decide +kernel
theorem d294_24 : decode prog_14_method_9_code 24 = .ok (.invokevirtual 104, 3) := by decide +kernel
theorem d294_27 : decode prog_14_method_9_code 27 = .ok (.aload_n 0, 1) := by decide +kernel
theorem d294_28 : decode prog_14_method_9_code 28 = .ok (.getfield 22, 3) := by decide +kernel
theorem d294_31 : decode prog_14_method_9_code 31 = .ok (.ishl, 1) := by decide +kernel
theorem d294_32 : decode prog_14_method_9_code 32 = .ok (.invokestatic 108, 3) := by decide +kernel
theorem d294_35 : decode prog_14_method_9_code 35 = .ok (.putfield 15, 3) := by decide +kernel
theorem d294_38 : decode prog_14_method_9_code 38 = .ok (.return_, 1) := by decide +kernel
theorem d295_0 : decode prog_14_method_10_code 0 = .ok (.aload_n 0, 1) := by decide +kernel
theorem d295_1 : decode prog_14_method_10_code 1 = .ok (.getfield 15, 3) := by decide +kernel
theorem d295_4 : decode prog_14_method_10_code 4 = .ok (.arraylength, 1) := by decide +kernel
theorem d295_5 : decode prog_14_method_10_code 5 = .ok (.istore_n 2, 1) := by decide +kernel
theorem d295_6 : decode prog_14_method_10_code 6 = .ok (.iload_n 1, 1) := by decide +kernel
theorem d295_7 : decode prog_14_method_10_code 7 = .ok (.aload_n 0, 1) := by decide +kernel
theorem d295_8 : decode prog_14_method_10_code 8 = .ok (.getfield 22, 3) := by decide +kernel
theorem d295_11 : decode prog_14_method_10_code 11 = .ok (.ishl, 1) := by decide +kernel
theorem d295_12 : decode prog_14_method_10_code 12 = .ok (.istore_n 3, 1) := by decide +kernel
theorem d295_13 : decode prog_14_method_10_code 13 = .ok (.iload_n 3, 1) := by decide +kernel
theorem d295_14 : decode prog_14_method_10_code 14 = .ok (.iload_n 2, 1) := by decide +kernel
theorem d295_15 : decode prog_14_method_10_code 15 = .ok (.isub, 1) := by decide +kernel
theorem d295_16 : decode prog_14_method_10_code 16 = .ok (.istore 4, 2) := by decide +kernel
theorem d295_18 : decode prog_14_method_10_code 18 = .ok (.iload_n 2, 1) := by decide +kernel
theorem d295_19 : decode prog_14_method_10_code 19 = .ok (.iload 4, 2) := by decide +kernel
theorem d295_21 : decode prog_14_method_10_code 21 = .ok (.iload_n 2, 1) := by decide +kernel
theorem d295_22 : decode prog_14_method_10_code 22 = .ok (.iconst 2, 1) := by decide +kernel
theorem d295_23 : decode prog_14_method_10_code 23 = .ok (.aload_n 0, 1) := by decide +kernel
theorem d295_24 : decode prog_14_method_10_code 24 = .ok (.getfield 22, 3) := by decide +kernel
theorem d295_27 : decode prog_14_method_10_code 27 = .ok (.ishl, 1) := by decide +kernel
theorem d295_28 : decode prog_14_method_10_code 28 = .ok (.iadd, 1) := by decide +kernel
theorem d295_29 : decode prog_14_method_10_code 29 = .ok (.invokestatic 114, 3) := by decide +kernel
theorem d295_32 : decode prog_14_method_10_code 32 = .ok (.istore 5, 2) := by decide +kernel
theorem d295_34 : decode prog_14_method_10_code 34 = .ok (.iload 5, 2) := by decide +kernel
theorem d295_36 : decode prog_14_method_10_code 36 = .ok (.ldc 39, 2) := by decide +kernel
theorem d295_38 : decode prog_14_method_10_code 38 = .ok (.if_icmp .ne 13, 3) := by decide +kernel
theorem d295_41 : decode prog_14_method_10_code 41 = .ok (.new 120, 3) := by decide +kernel
theorem d295_44 : decode prog_14_method_10_code 44 = .ok (.dup, 1) := by decide +kernel
theorem d295_45 : decode prog_14_method_10_code 45 = .ok (.ldc 122, 2) := by decide +kernel
theorem d295_47 : decode prog_14_method_10_code 47 = .ok (.invokespecial 124, 3) := by decide +kernel
theorem d295_50 : decode prog_14_method_10_code 50 = .ok (.athrow, 1) := by decide +kernel
theorem d295_51 : decode prog_14_method_10_code 51 = .ok (.iload 5, 2) := by decide +kernel
theorem d295_53 : decode prog_14_method_10_code 53 = .ok (.aload_n 0, 1) := by decide +kernel
theorem d295_54 : decode prog_14_method_10_code 54 = .ok (.getfield 22, 3) := by decide +kernel
theorem d295_57 : decode prog_14_method_10_code 57 = .ok (.ishr, 1) := by decide +kernel
theorem d295_58 : decode prog_14_method_10_code 58 = .ok (.ireturn, 1) := by decide +kernel
theorem d296_0 : decode prog_14_method_68_code 0 = .ok (.getstatic 18, 3) := by decide +kernel
theorem d296_3 : decode prog_14_method_68_code 3 = .ok (.ifCond .eq 14, 3) := by decide +kernel
theorem d296_6 : decode prog_14_method_68_code 6 = .ok (.aload_n 0, 1) := by decide +kernel
theorem d296_7 : decode prog_14_method_68_code 7 = .ok (.getfield 22, 3) := by decide +kernel
theorem d296_10 : decode prog_14_method_68_code 10 = .ok (.ifCond .ne 7, 3) := by decide +kernel
theorem d296_13 : decode prog_14_method_68_code 13 = .ok (.iconst 1, 1) := by decide +kernel
theorem d296_14 : decode prog_14_method_68_code 14 = .ok (.goto 4, 3) := by decide +kernel
theorem d296_17 : decode prog_14_method_68_code 17 = .ok (.iconst 0, 1) := by decide +kernel
theorem d296_18 : decode prog_14_method_68_code 18 = .ok (.ireturn, 1) := by decide +kernel
theorem d297_0 : decode prog_14_method_73_code 0 = .ok (.aload_n 0, 1) := by decide +kernel
theorem d297_1 : decode prog_14_method_73_code 1 = .ok (.aload_n 2, 1) := by decide +kernel
theorem d297_2 : decode prog_14_method_73_code 2 = .ok (.invokevirtual 397, 3) := by decide +kernel
theorem d297_5 : decode prog_14_method_73_code 5 = .ok (.aload_n 2, 1) := by decide +kernel
theorem d297_6 : decode prog_14_method_73_code 6 = .ok (.aload_n 0, 1) := by decide +kernel
theorem d297_7 : decode prog_14_method_73_code 7 = .ok (.getfield 15, 3) := by decide +kernel
theorem d297_10 : decode prog_14_method_73_code 10 = .ok (.iload_n 1, 1) := by decide +kernel
theorem d297_11 : decode prog_14_method_73_code 11 = .ok (.aload_n 0, 1) := by decide +kernel
theorem d297_12 : decode prog_14_method_73_code 12 = .ok (.getfield 22, 3) := by decide +kernel
theorem d297_15 : decode prog_14_method_73_code 15 = .ok (.invokevirtual 399, 3) := by decide +kernel
theorem d297_18 : decode prog_14_method_73_code 18 = .ok (.return_, 1) := by decide +kernel
theorem d298_0 : decode prog_14_method_71_code 0 = .ok (.getstatic 18, 3) := by decide +kernel
theorem d298_3 : decode prog_14_method_71_code 3 = .ok (.ifCond .eq 18, 3) := by decide +kernel
theorem d298_6 : decode prog_14_method_71_code 6 = .ok (.aload_n 0, 1) := by decide +kernel
theorem d298_7 : decode prog_14_method_71_code 7 = .ok (.getfield 22, 3) := by decide +kernel
theorem d298_10 : decode prog_14_method_71_code 10 = .ok (.aload_n 1, 1) := by decide +kernel
theorem d298_11 : decode prog_14_method_71_code 11 = .ok (.invokevirtual 40, 3) := by decide +kernel
theorem d298_14 : decode prog_14_method_71_code 14 = .ok (.if_icmp .eq 7, 3) := by decide +kernel
theorem d298_17 : decode prog_14_method_71_code 17 = .ok (.aload_n 0, 1) := by decide +kernel
theorem d298_18 : decode prog_14_method_71_code 18 = .ok (.invokevirtual 195, 3) := by decide +kernel
theorem d298_21 : decode prog_14_method_71_code 21 = .ok (.return_, 1) := by decide +kernel
theorem d299_0 : decode prog_14_method_32_code 0 = .ok (.aload_n 0, 1) := by decide +kernel
theorem d299_1 : decode prog_14_method_32_code 1 = .ok (.getfield 79, 3) := by decide +kernel
theorem d299_4 : decode prog_14_method_32_code 4 = .ok (.istore_n 2, 1) := by decide +kernel
theorem d299_5 : decode prog_14_method_32_code 5 = .ok (.iload_n 2, 1) := by decide +kernel
theorem d299_6 : decode prog_14_method_32_code 6 = .ok (.iload_n 1, 1) := by decide +kernel
theorem d299_7 : decode prog_14_method_32_code 7 = .ok (.invokestatic 245, 3) := by decide +kernel
theorem d299_10 : decode prog_14_method_32_code 10 = .ok (.iadd, 1) := by decide +kernel
theorem d299_11 : decode prog_14_method_32_code 11 = .ok (.istore_n 3, 1) := by decide +kernel
theorem d299_12 : decode prog_14_method_32_code 12 = .ok (.aload_n 0, 1) := by decide +kernel
theorem d299_13 : decode prog_14_method_32_code 13 = .ok (.iload_n 3, 1) := by decide +kernel
theorem d299_14 : decode prog_14_method_32_code 14 = .ok (.invokevirtual 100, 3) := by decide +kernel
theorem d299_17 : decode prog_14_method_32_code 17 = .ok (.aload_n 0, 1) := by decide +kernel
theorem d299_18 : decode prog_14_method_32_code 18 = .ok (.invokevirtual 83, 3) := by decide +kernel
theorem d299_21 : decode prog_14_method_32_code 21 = .ok (.ifCond .eq 16, 3) := by decide +kernel
theorem d299_24 : decode prog_14_method_32_code 24 = .ok (.iload_n 1, 1) := by decide +kernel
theorem d299_25 : decode prog_14_method_32_code 25 = .ok (.iload_n 3, 1) := by decide +kernel
theorem d299_26 : decode prog_14_method_32_code 26 = .ok (.aload_n 0, 1) := by decide +kernel
theorem d299_27 : decode prog_14_method_32_code 27 = .ok (.getfield 15, 3) := by decide +kernel
theorem d299_30 : decode prog_14_method_32_code 30 = .ok (.invokestatic 248, 3) := by decide +kernel
theorem d299_33 : decode prog_14_method_32_code 33 = .ok (.pop, 1) := by decide +kernel
theorem d299_34 : decode prog_14_method_32_code 34 = .ok (.goto 14, 3) := by decide +kernel
theorem d299_37 : decode prog_14_method_32_code 37 = .ok (.iload_n 1, 1) := by decide +kernel
theorem d299_38 : decode prog_14_method_32_code 38 = .ok (.iload_n 2, 1) := by decide +kernel
theorem d299_39 : decode prog_14_method_32_code 39 = .ok (.iload_n 3, 1) := by decide +kernel
theorem d299_40 : decode prog_14_method_32_code 40 = .ok (.aload_n 0, 1) := by decide +kernel
theorem d299_41 : decode prog_14_method_32_code 41 = .ok (.getfield 15, 3) := by decide +kernel
theorem d299_44 : decode prog_14_method_32_code 44 = .ok (.invokestatic 251, 3) := by decide +kernel
theorem d299_47 : decode prog_14_method_32_code 47 = .ok (.pop, 1) := by decide +kernel
theorem d299_48 : decode prog_14_method_32_code 48 = .ok (.aload_n 0, 1) := by decide +kernel
theorem d299_49 : decode prog_14_method_32_code 49 = .ok (.iload_n 3, 1) := by decide +kernel
theorem d299_50 : decode prog_14_method_32_code 50 = .ok (.putfield 79, 3) := by decide +kernel
theorem d299_53 : decode prog_14_method_32_code 53 = .ok (.aload_n 0, 1) := by decide +kernel
theorem d299_54 : decode prog_14_method_32_code 54 = .ok (.areturn, 1) := by decide +kernel
theorem d300_0 : decode prog_14_method_6_code 0 = .ok (.aload_n 0, 1) := by decide +kernel
theorem d300_1 : decode prog_14_method_6_code 1 = .ok (.getfield 79, 3) := by decide +kernel
theorem d300_4 : decode prog_14_method_6_code 4 = .ok (.ireturn, 1) := by decide +kernel
theorem d301_0 : decode prog_14_method_31_code 0 = .ok (.aload_n 0, 1) := by decide +kernel
theorem d301_1 : decode prog_14_method_31_code 1 = .ok (.aload_n 0, 1) := by decide +kernel
theorem d301_2 : decode prog_14_method_31_code 2 = .ok (.getfield 79, 3) := by decide +kernel
theorem d301_5 : decode prog_14_method_31_code 5 = .ok (.iconst 1, 1) := by decide +kernel
theorem d301_6 : decode prog_14_method_31_code 6 = .ok (.iadd, 1) := by decide +kernel
theorem d301_7 : decode prog_14_method_31_code 7 = .ok (.invokevirtual 100, 3) := by decide +kernel
theorem d301_10 : decode prog_14_method_31_code 10 = .ok (.aload_n 0, 1) := by decide +kernel
theorem d301_11 : decode prog_14_method_31_code 11 = .ok (.invokevirtual 83, 3) := by decide +kernel
theorem d301_14 : decode prog_14_method_31_code 14 = .ok (.ifCond .eq 31, 3) := by decide +kernel
theorem d301_17 : decode prog_14_method_31_code 17 = .ok (.iload_n 1, 1) := by decide +kernel
theorem d301_18 : decode prog_14_method_31_code 18 = .ok (.invokestatic 191, 3) := by decide +kernel
theorem d301_21 : decode prog_14_method_31_code 21 = .ok (.ifCond .eq 24, 3) := by decide +kernel
theorem d301_24 : decode prog_14_method_31_code 24 = .ok (.aload_n 0, 1) := by decide +kernel
theorem d301_25 : decode prog_14_method_31_code 25 = .ok (.getfield 15, 3) := by decide +kernel
theorem d301_28 : decode prog_14_method_31_code 28 = .ok (.aload_n 0, 1) := by decide +kernel
theorem d301_29 : decode prog_14_method_31_code 29 = .ok (.dup, 1) := by decide +kernel
theorem d301_30 : decode prog_14_method_31_code 30 = .ok (.getfield 79, 3) := by decide +kernel
theorem d301_33 : decode prog_14_method_31_code 33 = .ok (.dup_x1, 1) := by decide +kernel
theorem d301_34 : decode prog_14_method_31_code 34 = .ok (.iconst 1, 1) := by decide +kernel
theorem d301_35 : decode prog_14_method_31_code 35 = .ok (.iadd, 1) := by decide +kernel
theorem d301_36 : decode prog_14_method_31_code 36 = .ok (.putfield 79, 3) := by decide +kernel
theorem d301_39 : decode prog_14_method_31_code 39 = .ok (.iload_n 1, 1) := by decide +kernel
theorem d301_40 : decode prog_14_method_31_code 40 = .ok (.i2b, 1) := by decide +kernel
theorem d301_41 : decode prog_14_method_31_code 41 = .ok (.bastore, 1) := by decide +kernel
theorem d301_42 : decode prog_14_method_31_code 42 = .ok (.goto 33, 3) := by decide +kernel
theorem d301_45 : decode prog_14_method_31_code 45 = .ok (.aload_n 0, 1) := by decide +kernel
theorem d301_46 : decode prog_14_method_31_code 46 = .ok (.invokevirtual 83, 3) := by decide +kernel
theorem d301_49 : decode prog_14_method_31_code 49 = .ok (.ifCond .eq 7, 3) := by decide +kernel
theorem d301_52 : decode prog_14_method_31_code 52 = .ok (.aload_n 0, 1) := by decide +kernel
theorem d301_53 : decode prog_14_method_31_code 53 = .ok (.invokevirtual 195, 3) := by decide +kernel
theorem d301_56 : decode prog_14_method_31_code 56 = .ok (.aload_n 0, 1) := by decide +kernel
theorem d301_57 : decode prog_14_method_31_code 57 = .ok (.getfield 15, 3) := by decide +kernel
theorem d301_60 : decode prog_14_method_31_code 60 = .ok (.aload_n 0, 1) := by decide +kernel
theorem d301_61 : decode prog_14_method_31_code 61 = .ok (.dup, 1) := by decide +kernel
theorem d301_62 : decode prog_14_method_31_code 62 = .ok (.getfield 79, 3) := by decide +kernel
theorem d301_65 : decode prog_14_method_31_code 65 = .ok (.dup_x1, 1) := by decide +kernel
theorem d301_66 : decode prog_14_method_31_code 66 = .ok (.iconst 1, 1) := by decide +kernel
theorem d301_67 : decode prog_14_method_31_code 67 = .ok (.iadd, 1) := by decide +kernel
theorem d301_68 : decode prog_14_method_31_code 68 = .ok (.putfield 79, 3) := by decide +kernel
theorem d301_71 : decode prog_14_method_31_code 71 = .ok (.iload_n 1, 1) := by decide +kernel
theorem d301_72 : decode prog_14_method_31_code 72 = .ok (.invokestatic 197, 3) := by decide +kernel
theorem d301_75 : decode prog_14_method_31_code 75 = .ok (.aload_n 0, 1) := by decide +kernel
theorem d301_76 : decode prog_14_method_31_code 76 = .ok (.areturn, 1) := by decide +kernel
theorem d302_0 : decode prog_14_method_14_code 0 = .ok (.aload_n 0, 1) := by decide +kernel
theorem d302_1 : decode prog_14_method_14_code 1 = .ok (.getfield 22, 3) := by decide +kernel
theorem d302_4 : decode prog_14_method_14_code 4 = .ok (.istore_n 2, 1) := by decide +kernel
theorem d302_5 : decode prog_14_method_14_code 5 = .ok (.aload_n 0, 1) := by decide +kernel
theorem d302_6 : decode prog_14_method_14_code 6 = .ok (.getfield 15, 3) := by decide +kernel
theorem d302_9 : decode prog_14_method_14_code 9 = .ok (.astore_n 3, 1) := by decide +kernel
theorem d302_10 : decode prog_14_method_14_code 10 = .ok (.aload_n 0, 1) := by decide +kernel
theorem d302_11 : decode prog_14_method_14_code 11 = .ok (.getfield 79, 3) := by decide +kernel
theorem d302_14 : decode prog_14_method_14_code 14 = .ok (.aload_n 3, 1) := by decide +kernel
theorem d302_15 : decode prog_14_method_14_code 15 = .ok (.arraylength, 1) := by decide +kernel
theorem d302_16 : decode prog_14_method_14_code 16 = .ok (.iload_n 2, 1) := by decide +kernel
theorem d302_17 : decode prog_14_method_14_code 17 = .ok (.ishr, 1) := by decide +kernel
theorem d302_18 : decode prog_14_method_14_code 18 = .ok (.invokestatic 138, 3) := by decide +kernel
theorem d302_21 : decode prog_14_method_14_code 21 = .ok (.istore 4, 2) := by decide +kernel
theorem d302_23 : decode prog_14_method_14_code 23 = .ok (.iload_n 1, 1) := by decide +kernel
theorem d302_24 : decode prog_14_method_14_code 24 = .ok (.iload 4, 2) := by decide +kernel
theorem d302_26 : decode prog_14_method_14_code 26 = .ok (.invokestatic 144, 3) := by decide +kernel
theorem d302_29 : decode prog_14_method_14_code 29 = .ok (.iload_n 2, 1) := by decide +kernel
theorem d302_30 : decode prog_14_method_14_code 30 = .ok (.ifCond .ne 12, 3) := by decide +kernel
theorem d302_33 : decode prog_14_method_14_code 33 = .ok (.aload_n 3, 1) := by decide +kernel
theorem d302_34 : decode prog_14_method_14_code 34 = .ok (.iload_n 1, 1) := by decide +kernel
theorem d302_35 : decode prog_14_method_14_code 35 = .ok (.baload, 1) := by decide +kernel
theorem d302_36 : decode prog_14_method_14_code 36 = .ok (.sipush 255, 3) := by decide +kernel
theorem d302_39 : decode prog_14_method_14_code 39 = .ok (.iand, 1) := by decide +kernel
theorem d302_40 : decode prog_14_method_14_code 40 = .ok (.i2c, 1) := by decide +kernel
theorem d302_41 : decode prog_14_method_14_code 41 = .ok (.ireturn, 1) := by decide +kernel
theorem d302_42 : decode prog_14_method_14_code 42 = .ok (.aload_n 3, 1) := by decide +kernel
theorem d302_43 : decode prog_14_method_14_code 43 = .ok (.iload_n 1, 1) := by decide +kernel
theorem d302_44 : decode prog_14_method_14_code 44 = .ok (.invokestatic 148, 3) := by decide +kernel
theorem d302_47 : decode prog_14_method_14_code 47 = .ok (.ireturn, 1) := by decide +kernel
theorem d303_0 : decode prog_31_method_1_code 0 = .ok (.aload_n 0, 1) := by decide +kernel
theorem d303_1 : decode prog_31_method_1_code 1 = .ok (.bipush 16, 2) := by decide +kernel
theorem d303_3 : decode prog_31_method_1_code 3 = .ok (.invokespecial 1, 3) := by decide +kernel
theorem d303_6 : decode prog_31_method_1_code 6 = .ok (.return_, 1) := by decide +kernel
theorem d304_0 : decode prog_31_method_89_code 0 = .ok (.aload_n 0, 1) := by decide +kernel
theorem d304_1 : decode prog_31_method_89_code 1 = .ok (.iload_n 1, 1) := by decide +kernel
theorem d304_2 : decode prog_31_method_89_code 2 = .ok (.invokespecial 333, 3) := by decide +kernel
theorem d304_5 : decode prog_31_method_89_code 5 = .ok (.return_, 1) := by decide +kernel
theorem d305_0 : decode prog_31_method_7_code 0 = .ok (.aload_n 0, 1) := by decide +kernel
theorem d305_1 : decode prog_31_method_7_code 1 = .ok (.aload_n 1, 1) := by decide +kernel
theorem d305_2 : decode prog_31_method_7_code 2 = .ok (.invokespecial 29, 3) := by decide +kernel
theorem d305_5 : decode prog_31_method_7_code 5 = .ok (.pop, 1) := by decide +kernel
theorem d305_6 : decode prog_31_method_7_code 6 = .ok (.aload_n 0, 1) := by decide +kernel
theorem d305_7 : decode prog_31_method_7_code 7 = .ok (.areturn, 1) := by decide +kernel
theorem d306_0 : decode prog_31_method_15_code 0 = .ok (.aload_n 0, 1) := by decide +kernel
theorem d306_1 : decode prog_31_method_15_code 1 = .ok (.iload_n 1, 1) := by decide +kernel
theorem d306_2 : decode prog_31_method_15_code 2 = .ok (.invokespecial 53, 3) := by decide +kernel
theorem d306_5 : decode prog_31_method_15_code 5 = .ok (.pop, 1) := by decide +kernel
theorem d306_6 : decode prog_31_method_15_code 6 = .ok (.aload_n 0, 1) := by decide +kernel
theorem d306_7 : decode prog_31_method_15_code 7 = .ok (.areturn, 1) := by decide +kernel
theorem d307_0 : decode prog_31_method_93_code 0 = .ok (.aload_n 0, 1) := by decide +kernel
theorem d307_1 : decode prog_31_method_93_code 1 = .ok (.invokespecial 343, 3) := by decide +kernel
theorem d307_4 : decode prog_31_method_93_code 4 = .ok (.ireturn, 1) := by decide +kernel
theorem d308_0 : decode prog_31_method_14_code 0 = .ok (.aload_n 0, 1) := by decide +kernel
theorem d308_1 : decode prog_31_method_14_code 1 = .ok (.iload_n 1, 1) := by decide +kernel
theorem d308_2 : decode prog_31_method_14_code 2 = .ok (.invokespecial 50, 3) := by decide +kernel
theorem d308_5 : decode prog_31_method_14_code 5 = .ok (.pop, 1) := by decide +kernel
theorem d308_6 : decode prog_31_method_14_code 6 = .ok (.aload_n 0, 1) := by decide +kernel
theorem d308_7 : decode prog_31_method_14_code 7 = .ok (.areturn, 1) := by decide +kernel
theorem d309_0 : decode prog_31_method_88_code 0 = .ok (.aload_n 0, 1) := by decide +kernel
theorem d309_1 : decode prog_31_method_88_code 1 = .ok (.iload_n 1, 1) := by decide +kernel
theorem d309_2 : decode prog_31_method_88_code 2 = .ok (.invokespecial 329, 3) := by decide +kernel
theorem d309_5 : decode prog_31_method_88_code 5 = .ok (.ireturn, 1) := by decide +kernel
theorem d310_0 : decode prog_30_method_54_code 0 = .ok (.aload_n 0, 1) := by decide +kernel
theorem d310_1 : decode prog_30_method_54_code 1 = .ok (.getfield 9, 3) := by decide +kernel
theorem d310_4 : decode prog_30_method_54_code 4 = .ok (.arraylength, 1) := by decide +kernel
theorem d310_5 : decode prog_30_method_54_code 5 = .ok (.aload_n 0, 1) := by decide +kernel
theorem d310_6 : decode prog_30_method_54_code 6 = .ok (.invokevirtual 335, 3) := by decide +kernel
theorem d310_9 : decode prog_30_method_54_code 9 = .ok (.ishr, 1) := by decide +kernel
theorem d310_10 : decode prog_30_method_54_code 10 = .ok (.ireturn, 1) := by decide +kernel
theorem d311_0 : decode prog_30_method_152_code 0 = .ok (.getstatic 38, 3) := by decide +kernel
theorem d311_3 : decode prog_30_method_152_code 3 = .ok (.ifCond .eq 10, 3) := by decide +kernel
theorem d311_6 : decode prog_30_method_152_code 6 = .ok (.aload_n 0, 1) := by decide +kernel
theorem d311_7 : decode prog_30_method_152_code 7 = .ok (.getfield 15, 3) := by decide +kernel
theorem d311_10 : decode prog_30_method_152_code 10 = .ok (.goto 4, 3) := by decide +kernel
theorem d311_13 : decode prog_30_method_152_code 13 = .ok (.iconst 1, 1) := by decide +kernel
theorem d311_14 : decode prog_30_method_152_code 14 = .ok (.ireturn, 1) := by decide +kernel
theorem d312_0 : decode prog_30_method_147_code 0 = .ok (.aload_n 0, 1) := by decide +kernel
theorem d312_1 : decode prog_30_method_147_code 1 = .ok (.invokevirtual 335, 3) := by decide +kernel
theorem d312_4 : decode prog_30_method_147_code 4 = .ok (.iload_n 3, 1) := by decide +kernel
theorem d312_5 : decode prog_30_method_147_code 5 = .ok (.if_icmp .ne 23, 3) := by decide +kernel
theorem d312_8 : decode prog_30_method_147_code 8 = .ok (.aload_n 0, 1) := by decide +kernel
theorem d312_9 : decode prog_30_method_147_code 9 = .ok (.getfield 9, 3) := by decide +kernel
theorem d312_12 : decode prog_30_method_147_code 12 = .ok (.iconst 0, 1) := by decide +kernel
theorem d312_13 : decode prog_30_method_147_code 13 = .ok (.aload_n 1, 1) := by decide +kernel
theorem d312_14 : decode prog_30_method_147_code 14 = .ok (.iload_n 2, 1) := by decide +kernel
theorem d312_15 : decode prog_30_method_147_code 15 = .ok (.iload_n 3, 1) := by decide +kernel
theorem d312_16 : decode prog_30_method_147_code 16 = .ok (.ishl, 1) := by decide +kernel
theorem d312_17 : decode prog_30_method_147_code 17 = .ok (.aload_n 0, 1) := by decide +kernel
theorem d312_18 : decode prog_30_method_147_code 18 = .ok (.getfield 9, 3) := by decide +kernel
theorem d312_21 : decode prog_30_method_147_code 21 = .ok (.arraylength, 1) := by decide +kernel
theorem d312_22 : decode prog_30_method_147_code 22 = .ok (.invokestatic 212, 3) := by decide +kernel
theorem d312_25 : decode prog_30_method_147_code 25 = .ok (.goto 18, 3) := by decide +kernel
theorem d312_28 : decode prog_30_method_147_code 28 = .ok (.aload_n 0, 1) := by decide +kernel
theorem d312_29 : decode prog_30_method_147_code 29 = .ok (.getfield 9, 3) := by decide +kernel
theorem d312_32 : decode prog_30_method_147_code 32 = .ok (.iconst 0, 1) := by decide +kernel
theorem d312_33 : decode prog_30_method_147_code 33 = .ok (.aload_n 1, 1) := by decide +kernel
theorem d312_34 : decode prog_30_method_147_code 34 = .ok (.iload_n 2, 1) := by decide +kernel
theorem d312_35 : decode prog_30_method_147_code 35 = .ok (.aload_n 0, 1) := by decide +kernel
theorem d312_36 : decode prog_30_method_147_code 36 = .ok (.getfield 9, 3) := by decide +kernel
theorem d312_39 : decode prog_30_method_147_code 39 = .ok (.arraylength, 1) := by decide +kernel
theorem d312_40 : decode prog_30_method_147_code 40 = .ok (.invokestatic 106, 3) := by decide +kernel
theorem d312_43 : decode prog_30_method_147_code 43 = .ok (.return_, 1) := by decide +kernel
theorem d313_0 : decode prog_30_method_155_code 0 = .ok (.iload_n 0, 1) := by decide +kernel
theorem d313_1 : decode prog_30_method_155_code 1 = .ok (.iload_n 1, 1) := by decide +kernel
theorem d313_2 : decode prog_30_method_155_code 2 = .ok (.getstatic 1053, 3) := by decide +kernel
theorem d313_5 : decode prog_30_method_155_code 5 = .ok (.invokestatic 1059, 3) := by decide +kernel
theorem d313_8 : decode prog_30_method_155_code 8 = .ok (.pop, 1) := by decide +kernel
theorem d313_9 : decode prog_30_method_155_code 9 = .ok (.return_, 1) := by decide +kernel
theorem d314_0 : decode prog_30_method_56_code 0 = .ok (.aload_n 0, 1) := by decide +kernel
theorem d314_1 : decode prog_30_method_56_code 1 = .ok (.invokevirtual 492, 3) := by decide +kernel
theorem d314_4 : decode prog_30_method_56_code 4 = .ok (.ifCond .eq 12, 3) := by decide +kernel
theorem d314_7 : decode prog_30_method_56_code 7 = .ok (.aload_n 0, 1) := by decide +kernel
theorem d314_8 : decode prog_30_method_56_code 8 = .ok (.getfield 9, 3) := by decide +kernel
theorem d314_11 : decode prog_30_method_56_code 11 = .ok (.iload_n 1, 1) := by decide +kernel
theorem d314_12 : decode prog_30_method_56_code 12 = .ok (.invokestatic 495, 3) := by decide +kernel
theorem d314_15 : decode prog_30_method_56_code 15 = .ok (.ireturn, 1) := by decide +kernel
theorem d314_16 : decode prog_30_method_56_code 16 = .ok (.aload_n 0, 1) := by decide +kernel
theorem d314_17 : decode prog_30_method_56_code 17 = .ok (.getfield 9, 3) := by decide +kernel
theorem d314_20 : decode prog_30_method_56_code 20 = .ok (.iload_n 1, 1) := by decide +kernel
theorem d314_21 : decode prog_30_method_56_code 21 = .ok (.invokestatic 498, 3) := by decide +kernel
theorem d314_24 : decode prog_30_method_56_code 24 = .ok (.ireturn, 1) := by decide +kernel
theorem d315_0 : decode prog_30_method_154_code 0 = .ok (.getstatic 38, 3) := by decide +kernel
theorem d315_3 : decode prog_30_method_154_code 3 = .ok (.ifCond .eq 14, 3) := by decide +kernel
theorem d315_6 : decode prog_30_method_154_code 6 = .ok (.aload_n 0, 1) := by decide +kernel
theorem d315_7 : decode prog_30_method_154_code 7 = .ok (.getfield 15, 3) := by decide +kernel
theorem d315_10 : decode prog_30_method_154_code 10 = .ok (.ifCond .ne 7, 3) := by decide +kernel
theorem d315_13 : decode prog_30_method_154_code 13 = .ok (.iconst 1, 1) := by decide +kernel
theorem d315_14 : decode prog_30_method_154_code 14 = .ok (.goto 4, 3) := by decide +kernel
theorem d315_17 : decode prog_30_method_154_code 17 = .ok (.iconst 0, 1) := by decide +kernel
theorem d315_18 : decode prog_30_method_154_code 18 = .ok (.ireturn, 1) := by decide +kernel
theorem d316_0 : decode prog_33_method_3_code 0 = .ok (.iload_n 0, 1) := by decide +kernel
theorem d316_1 : decode prog_33_method_3_code 1 = .ok (.sipush 255, 3) := by decide +kernel
theorem d316_4 : decode prog_33_method_3_code 4 = .ok (.if_icmp .gt 7, 3) := by decide +kernel
theorem d316_7 : decode prog_33_method_3_code 7 = .ok (.iconst 1, 1) := by decide +kernel
theorem d316_8 : decode prog_33_method_3_code 8 = .ok (.goto 4, 3) := by decide +kernel
theorem d316_11 : decode prog_33_method_3_code 11 = .ok (.iconst 0, 1) := by decide +kernel
theorem d316_12 : decode prog_33_method_3_code 12 = .ok (.ireturn, 1) := by decide +kernel
theorem d317_0 : decode prog_33_method_2_code 0 = .ok (.iload_n 1, 1) := by decide +kernel
theorem d317_1 : decode prog_33_method_2_code 1 = .ok (.aload_n 0, 1) := by decide +kernel
theorem d317_2 : decode prog_33_method_2_code 2 = .ok (.arraylength, 1) := by decide +kernel
theorem d317_3 : decode prog_33_method_2_code 3 = .ok (.invokestatic 9, 3) := by decide +kernel
theorem d317_6 : decode prog_33_method_2_code 6 = .ok (.aload_n 0, 1) := by decide +kernel
theorem d317_7 : decode prog_33_method_2_code 7 = .ok (.iload_n 1, 1) := by decide +kernel
theorem d317_8 : decode prog_33_method_2_code 8 = .ok (.baload, 1) := by decide +kernel
theorem d317_9 : decode prog_33_method_2_code 9 = .ok (.sipush 255, 3) := by decide +kernel
theorem d317_12 : decode prog_33_method_2_code 12 = .ok (.iand, 1) := by decide +kernel
theorem d317_13 : decode prog_33_method_2_code 13 = .ok (.i2c, 1) := by decide +kernel
theorem d317_14 : decode prog_33_method_2_code 14 = .ok (.ireturn, 1) := by decide +kernel
theorem d318_0 : decode prog_26_method_13_code 0 = .ok (.iconst 1, 1) := by decide +kernel
theorem d318_1 : decode prog_26_method_13_code 1 = .ok (.istore_n 1, 1) := by decide +kernel
theorem d318_2 : decode prog_26_method_13_code 2 = .ok (.iload_n 0, 1) := by decide +kernel
theorem d318_3 : decode prog_26_method_13_code 3 = .ok (.ifCond .lt 8, 3) := by decide +kernel
theorem d318_6 : decode prog_26_method_13_code 6 = .ok (.iconst 0, 1) := by decide +kernel
theorem d318_7 : decode prog_26_method_13_code 7 = .ok (.istore_n 1, 1) := by decide +kernel
theorem d318_8 : decode prog_26_method_13_code 8 = .ok (.iload_n 0, 1) := by decide +kernel
theorem d318_9 : decode prog_26_method_13_code 9 = .ok (.ineg, 1) := by decide +kernel
theorem d318_10 : decode prog_26_method_13_code 10 = .ok (.istore_n 0, 1) := by decide +kernel
theorem d318_11 : decode prog_26_method_13_code 11 = .ok (.bipush (-10), 2) := by decide +kernel
theorem d318_13 : decode prog_26_method_13_code 13 = .ok (.istore_n 2, 1) := by decide +kernel
theorem d318_14 : decode prog_26_method_13_code 14 = .ok (.iconst 1, 1) := by decide +kernel
theorem d318_15 : decode prog_26_method_13_code 15 = .ok (.istore_n 3, 1) := by decide +kernel
theorem d318_16 : decode prog_26_method_13_code 16 = .ok (.iload_n 3, 1) := by decide +kernel
theorem d318_17 : decode prog_26_method_13_code 17 = .ok (.bipush 10, 2) := by decide +kernel
theorem d318_19 : decode prog_26_method_13_code 19 = .ok (.if_icmp .ge 23, 3) := by decide +kernel
theorem d318_22 : decode prog_26_method_13_code 22 = .ok (.iload_n 0, 1) := by decide +kernel
theorem d318_23 : decode prog_26_method_13_code 23 = .ok (.iload_n 2, 1) := by decide +kernel
theorem d318_24 : decode prog_26_method_13_code 24 = .ok (.if_icmp .le 7, 3) := by decide +kernel
theorem d318_27 : decode prog_26_method_13_code 27 = .ok (.iload_n 3, 1) := by decide +kernel
theorem d318_28 : decode prog_26_method_13_code 28 = .ok (.iload_n 1, 1) := by decide +kernel
theorem d318_29 : decode prog_26_method_13_code 29 = .ok (.iadd, 1) := by decide +kernel
theorem d318_30 : decode prog_26_method_13_code 30 = .ok (.ireturn, 1) := by decide +kernel
theorem d318_31 : decode prog_26_method_13_code 31 = .ok (.bipush 10, 2) := by decide +kernel
theorem d318_33 : decode prog_26_method_13_code 33 = .ok (.iload_n 2, 1) := by decide +kernel
theorem d318_34 : decode prog_26_method_13_code 34 = .ok (.imul, 1) := by decide +kernel
theorem d318_35 : decode prog_26_method_13_code 35 = .ok (.istore_n 2, 1) := by decide +kernel
theorem d318_36 : decode prog_26_method_13_code 36 = .ok (.iinc 3 1, 3) := by decide +kernel
theorem d318_39 : decode prog_26_method_13_code 39 = .ok (.goto (-23), 3) := by decide +kernel
theorem d318_42 : decode prog_26_method_13_code 42 = .ok (.bipush 10, 2) := by decide +kernel
theorem d318_44 : decode prog_26_method_13_code 44 = .ok (.iload_n 1, 1) := by decide +kernel
theorem d318_45 : decode prog_26_method_13_code 45 = .ok (.iadd, 1) := by decide +kernel
theorem d318_46 : decode prog_26_method_13_code 46 = .ok (.ireturn, 1) := by decide +kernel
theorem d319_0 : decode prog_26_method_12_code 0 = .ok (.iload_n 1, 1) := by decide +kernel
theorem d319_1 : decode prog_26_method_12_code 1 = .ok (.istore 5, 2) := by decide +kernel
theorem d319_3 : decode prog_26_method_12_code 3 = .ok (.iload_n 0, 1) := by decide +kernel
theorem d319_4 : decode prog_26_method_12_code 4 = .ok (.ifCond .ge 7, 3) := by decide +kernel
theorem d319_7 : decode prog_26_method_12_code 7 = .ok (.iconst 1, 1) := by decide +kernel
theorem d319_8 : decode prog_26_method_12_code 8 = .ok (.goto 4, 3) := by decide +kernel
theorem d319_11 : decode prog_26_method_12_code 11 = .ok (.iconst 0, 1) := by decide +kernel
theorem d319_12 : decode prog_26_method_12_code 12 = .ok (.istore 6, 2) := by decide +kernel
theorem d319_14 : decode prog_26_method_12_code 14 = .ok (.iload 6, 2) := by decide +kernel
theorem d319_16 : decode prog_26_method_12_code 16 = .ok (.ifCond .ne 6, 3) := by decide +kernel
theorem d319_19 : decode prog_26_method_12_code 19 = .ok (.iload_n 0, 1) := by decide +kernel
theorem d319_20 : decode prog_26_method_12_code 20 = .ok (.ineg, 1) := by decide +kernel
theorem d319_21 : decode prog_26_method_12_code 21 = .ok (.istore_n 0, 1) := by decide +kernel
theorem d319_22 : decode prog_26_method_12_code 22 = .ok (.iload_n 0, 1) := by decide +kernel
theorem d319_23 : decode prog_26_method_12_code 23 = .ok (.bipush (-100), 2) := by decide +kernel
theorem d319_25 : decode prog_26_method_12_code 25 = .ok (.if_icmp .gt 47, 3) := by decide +kernel
theorem d319_28 : decode prog_26_method_12_code 28 = .ok (.iload_n 0, 1) := by decide +kernel
theorem d319_29 : decode prog_26_method_12_code 29 = .ok (.bipush 100, 2) := by decide +kernel
theorem d319_31 : decode prog_26_method_12_code 31 = .ok (.idiv, 1) := by decide +kernel
theorem d319_32 : decode prog_26_method_12_code 32 = .ok (.istore_n 3, 1) := by decide +kernel
theorem d319_33 : decode prog_26_method_12_code 33 = .ok (.iload_n 3, 1) := by decide +kernel
theorem d319_34 : decode prog_26_method_12_code 34 = .ok (.bipush 100, 2) := by decide +kernel
theorem d319_36 : decode prog_26_method_12_code 36 = .ok (.imul, 1) := by decide +kernel
theorem d319_37 : decode prog_26_method_12_code 37 = .ok (.iload_n 0, 1) := by decide +kernel
theorem d319_38 : decode prog_26_method_12_code 38 = .ok (.isub, 1) := by decide +kernel
theorem d319_39 : decode prog_26_method_12_code 39 = .ok (.istore 4, 2) := by decide +kernel
theorem d319_41 : decode prog_26_method_12_code 41 = .ok (.iload_n 3, 1) := by decide +kernel
theorem d319_42 : decode prog_26_method_12_code 42 = .ok (.istore_n 0, 1) := by decide +kernel
theorem d319_43 : decode prog_26_method_12_code 43 = .ok (.aload_n 2, 1) := by decide +kernel
theorem d319_44 : decode prog_26_method_12_code 44 = .ok (.iinc 5 (-1), 3) := by decide +kernel
theorem d319_47 : decode prog_26_method_12_code 47 = .ok (.iload 5, 2) := by decide +kernel
theorem d319_49 : decode prog_26_method_12_code 49 = .ok (.getstatic 83, 3) := by decide +kernel
theorem d319_52 : decode prog_26_method_12_code 52 = .ok (.iload 4, 2) := by decide +kernel
theorem d319_54 : decode prog_26_method_12_code 54 = .ok (.baload, 1) := by decide +kernel
theorem d319_55 : decode prog_26_method_12_code 55 = .ok (.bastore, 1) := by decide +kernel
theorem d319_56 : decode prog_26_method_12_code 56 = .ok (.aload_n 2, 1) := by decide +kernel
theorem d319_57 : decode prog_26_method_12_code 57 = .ok (.iinc 5 (-1), 3) := by decide +kernel
theorem d319_60 : decode prog_26_method_12_code 60 = .ok (.iload 5, 2) := by decide +kernel
theorem d319_62 : decode prog_26_method_12_code 62 = .ok (.getstatic 87, 3) := by decide +kernel
theorem d319_65 : decode prog_26_method_12_code 65 = .ok (.iload 4, 2) := by decide +kernel
theorem d319_67 : decode prog_26_method_12_code 67 = .ok (.baload, 1) := by decide +kernel
theorem d319_68 : decode prog_26_method_12_code 68 = .ok (.bastore, 1) := by decide +kernel
theorem d319_69 : decode prog_26_method_12_code 69 = .ok (.goto (-47), 3) := by decide +kernel
theorem d319_72 : decode prog_26_method_12_code 72 = .ok (.aload_n 2, 1) := by decide +kernel
theorem d319_73 : decode prog_26_method_12_code 73 = .ok (.iinc 5 (-1), 3) := by decide +kernel
theorem d319_76 : decode prog_26_method_12_code 76 = .ok (.iload 5, 2) := by decide +kernel
theorem d319_78 : decode prog_26_method_12_code 78 = .ok (.getstatic 83, 3) := by decide +kernel
theorem d319_81 : decode prog_26_method_12_code 81 = .ok (.iload_n 0, 1) := by decide +kernel
theorem d319_82 : decode prog_26_method_12_code 82 = .ok (.ineg, 1) := by decide +kernel
theorem d319_83 : decode prog_26_method_12_code 83 = .ok (.baload, 1) := by decide +kernel
theorem d319_84 : decode prog_26_method_12_code 84 = .ok (.bastore, 1) := by decide +kernel
theorem d319_85 : decode prog_26_method_12_code 85 = .ok (.iload_n 0, 1) := by decide +kernel
theorem d319_86 : decode prog_26_method_12_code 86 = .ok (.bipush (-9), 2) := by decide +kernel
theorem d319_88 : decode prog_26_method_12_code 88 = .ok (.if_icmp .ge 16, 3) := by decide +kernel
theorem d319_91 : decode prog_26_method_12_code 91 = .ok (.aload_n 2, 1) := by decide +kernel
theorem d319_92 : decode prog_26_method_12_code 92 = .ok (.iinc 5 (-1), 3) := by decide +kernel
theorem d319_95 : decode prog_26_method_12_code 95 = .ok (.iload 5, 2) := by decide +kernel
theorem d319_97 : decode prog_26_method_12_code 97 = .ok (.getstatic 87, 3) := by decide +kernel
theorem d319_100 : decode prog_26_method_12_code 100 = .ok (.iload_n 0, 1) := by decide +kernel
theorem d319_101 : decode prog_26_method_12_code 101 = .ok (.ineg, 1) := by decide +kernel
theorem d319_102 : decode prog_26_method_12_code 102 = .ok (.baload, 1) := by decide +kernel
theorem d319_103 : decode prog_26_method_12_code 103 = .ok (.bastore, 1) := by decide +kernel
theorem d319_104 : decode prog_26_method_12_code 104 = .ok (.iload 6, 2) := by decide +kernel
theorem d319_106 : decode prog_26_method_12_code 106 = .ok (.ifCond .eq 12, 3) := by decide +kernel
theorem d319_109 : decode prog_26_method_12_code 109 = .ok (.aload_n 2, 1) := by decide +kernel
theorem d319_110 : decode prog_26_method_12_code 110 = .ok (.iinc 5 (-1), 3) := by decide +kernel
theorem d319_113 : decode prog_26_method_12_code 113 = .ok (.iload 5, 2) := by decide +kernel
theorem d319_115 : decode prog_26_method_12_code 115 = .ok (.bipush 45, 2) := by decide +kernel
theorem d319_117 : decode prog_26_method_12_code 117 = .ok (.bastore, 1) := by decide +kernel
theorem d319_118 : decode prog_26_method_12_code 118 = .ok (.iload 5, 2) := by decide +kernel
theorem d319_120 : decode prog_26_method_12_code 120 = .ok (.ireturn, 1) := by decide +kernel
theorem d320_0 : decode prog_21_method_2_code 0 = .ok (.aload_n 0, 1) := by decide +kernel
theorem d320_1 : decode prog_21_method_2_code 1 = .ok (.getfield 7, 3) := by decide +kernel
theorem d320_4 : decode prog_21_method_2_code 4 = .ok (.ireturn, 1) := by decide +kernel
theorem d321_0 : decode prog_40_method_121_code 0 = .ok (.iload_n 1, 1) := by decide +kernel
theorem d321_1 : decode prog_40_method_121_code 1 = .ok (.aload_n 0, 1) := by decide +kernel
theorem d321_2 : decode prog_40_method_121_code 2 = .ok (.arraylength, 1) := by decide +kernel
theorem d321_3 : decode prog_40_method_121_code 3 = .ok (.if_icmp .ne 11, 3) := by decide +kernel
theorem d321_6 : decode prog_40_method_121_code 6 = .ok (.aload_n 0, 1) := by decide +kernel
theorem d321_7 : decode prog_40_method_121_code 7 = .ok (.invokevirtual 310, 3) := by decide +kernel
theorem d321_10 : decode prog_40_method_121_code 10 = .ok (.checkcast 311, 3) := by decide +kernel
theorem d321_13 : decode prog_40_method_121_code 13 = .ok (.areturn, 1) := by decide +kernel
theorem d321_14 : decode prog_40_method_121_code 14 = .ok (.iload_n 1, 1) := by decide +kernel
theorem d321_15 : decode prog_40_method_121_code 15 = .ok (.newarray .byte, 2) := by decide +kernel
theorem d321_17 : decode prog_40_method_121_code 17 = .ok (.astore_n 2, 1) := by decide +kernel
theorem d321_18 : decode prog_40_method_121_code 18 = .ok (.aload_n 0, 1) := by decide +kernel
theorem d321_19 : decode prog_40_method_121_code 19 = .ok (.iconst 0, 1) := by decide +kernel
theorem d321_20 : decode prog_40_method_121_code 20 = .ok (.aload_n 2, 1) := by decide +kernel
theorem d321_21 : decode prog_40_method_121_code 21 = .ok (.iconst 0, 1) := by decide +kernel
theorem d321_22 : decode prog_40_method_121_code 22 = .ok (.aload_n 0, 1) := by decide +kernel
theorem d321_23 : decode prog_40_method_121_code 23 = .ok (.arraylength, 1) := by decide +kernel
theorem d321_24 : decode prog_40_method_121_code 24 = .ok (.iload_n 1, 1) := by decide +kernel
theorem d321_25 : decode prog_40_method_121_code 25 = .ok (.invokestatic 304, 3) := by decide +kernel
theorem d321_28 : decode prog_40_method_121_code 28 = .ok (.invokestatic 150, 3) := by decide +kernel
theorem d321_31 : decode prog_40_method_121_code 31 = .ok (.aload_n 2, 1) := by decide +kernel
theorem d321_32 : decode prog_40_method_121_code 32 = .ok (.areturn, 1) := by decide +kernel
theorem d322_0 : decode prog_42_method_27_code 0 = .ok (.iload_n 0, 1) := by decide +kernel
theorem d322_1 : decode prog_42_method_27_code 1 = .ok (.iload_n 1, 1) := by decide +kernel
theorem d322_2 : decode prog_42_method_27_code 2 = .ok (.iload_n 2, 1) := by decide +kernel
theorem d322_3 : decode prog_42_method_27_code 3 = .ok (.invokestatic 194, 3) := by decide +kernel
theorem d322_6 : decode prog_42_method_27_code 6 = .ok (.iadd, 1) := by decide +kernel
theorem d322_7 : decode prog_42_method_27_code 7 = .ok (.istore_n 3, 1) := by decide +kernel
theorem d322_8 : decode prog_42_method_27_code 8 = .ok (.iconst 0, 1) := by decide +kernel
theorem d322_9 : decode prog_42_method_27_code 9 = .ok (.iload_n 3, 1) := by decide +kernel
theorem d322_10 : decode prog_42_method_27_code 10 = .ok (.if_icmp .ge 11, 3) := by decide +kernel
theorem d322_13 : decode prog_42_method_27_code 13 = .ok (.iload_n 3, 1) := by decide +kernel
theorem d322_14 : decode prog_42_method_27_code 14 = .ok (.ldc 200, 2) := by decide +kernel
theorem d322_16 : decode prog_42_method_27_code 16 = .ok (.if_icmp .gt 5, 3) := by decide +kernel
theorem d322_19 : decode prog_42_method_27_code 19 = .ok (.iload_n 3, 1) := by decide +kernel
theorem d322_20 : decode prog_42_method_27_code 20 = .ok (.ireturn, 1) := by decide +kernel
theorem d322_21 : decode prog_42_method_27_code 21 = .ok (.iload_n 0, 1) := by decide +kernel
theorem d322_22 : decode prog_42_method_27_code 22 = .ok (.iload_n 1, 1) := by decide +kernel
theorem d322_23 : decode prog_42_method_27_code 23 = .ok (.invokestatic 201, 3) := by decide +kernel
theorem d322_26 : decode prog_42_method_27_code 26 = .ok (.ireturn, 1) := by decide +kernel
theorem d323_0 : decode prog_43_method_11_code 0 = .ok (.iload_n 0, 1) := by decide +kernel
theorem d323_1 : decode prog_43_method_11_code 1 = .ok (.ifCond .lt 8, 3) := by decide +kernel
theorem d323_4 : decode prog_43_method_11_code 4 = .ok (.iload_n 0, 1) := by decide +kernel
theorem d323_5 : decode prog_43_method_11_code 5 = .ok (.iload_n 1, 1) := by decide +kernel
theorem d323_6 : decode prog_43_method_11_code 6 = .ok (.if_icmp .lt 10, 3) := by decide +kernel
theorem d323_9 : decode prog_43_method_11_code 9 = .ok (.aload_n 2, 1) := by decide +kernel
theorem d323_10 : decode prog_43_method_11_code 10 = .ok (.iload_n 0, 1) := by decide +kernel
theorem d323_11 : decode prog_43_method_11_code 11 = .ok (.iload_n 1, 1) := by decide +kernel
theorem d323_12 : decode prog_43_method_11_code 12 = .ok (.invokestatic 95, 3) := by decide +kernel
theorem d323_15 : decode prog_43_method_11_code 15 = .ok (.athrow, 1) := by decide +kernel
theorem d323_16 : decode prog_43_method_11_code 16 = .ok (.iload_n 0, 1) := by decide +kernel
theorem d323_17 : decode prog_43_method_11_code 17 = .ok (.ireturn, 1) := by decide +kernel
