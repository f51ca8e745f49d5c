/-! decode rows -/
theorem d127_0 : decode prog_12_method_1_code 0 = .ok (.aload_n 0, 1) := by decide +kernel
theorem d127_1 : decode prog_12_method_1_code 1 = .ok (.invokespecial 1, 3) := by decide +kernel
theorem d127_4 : decode prog_12_method_1_code 4 = .ok (.aload_n 0, 1) := by decide +kernel
theorem d127_5 : decode prog_12_method_1_code 5 = .ok (.sipush 140, 3) := by decide +kernel
theorem d127_8 : decode prog_12_method_1_code 8 = .ok (.newarray .int, 2) := by decide +kernel
theorem d127_10 : decode prog_12_method_1_code 10 = .ok (.putfield 7, 3) := by decide +kernel
theorem d127_13 : decode prog_12_method_1_code 13 = .ok (.aload_n 0, 1) := by decide +kernel
theorem d127_14 : decode prog_12_method_1_code 14 = .ok (.sipush 140, 3) := by decide +kernel
theorem d127_17 : decode prog_12_method_1_code 17 = .ok (.newarray .int, 2) := by decide +kernel
theorem d127_19 : decode prog_12_method_1_code 19 = .ok (.putfield 13, 3) := by decide +kernel
theorem d127_22 : decode prog_12_method_1_code 22 = .ok (.aload_n 0, 1) := by decide +kernel
theorem d127_23 : decode prog_12_method_1_code 23 = .ok (.sipush 140, 3) := by decide +kernel
theorem d127_26 : decode prog_12_method_1_code 26 = .ok (.newarray .int, 2) := by decide +kernel
theorem d127_28 : decode prog_12_method_1_code 28 = .ok (.putfield 16, 3) := by decide +kernel
theorem d127_31 : decode prog_12_method_1_code 31 = .ok (.aload_n 0, 1) := by decide +kernel
theorem d127_32 : decode prog_12_method_1_code 32 = .ok (.sipush 1120, 3) := by decide +kernel
theorem d127_35 : decode prog_12_method_1_code 35 = .ok (.newarray .int, 2) := by decide +kernel
theorem d127_37 : decode prog_12_method_1_code 37 = .ok (.putfield 19, 3) := by decide +kernel
theorem d127_40 : decode prog_12_method_1_code 40 = .ok (.aload_n 0, 1) := by decide +kernel
theorem d127_41 : decode prog_12_method_1_code 41 = .ok (.bipush 6, 2) := by decide +kernel
theorem d127_43 : decode prog_12_method_1_code 43 = .ok (.newarray .int, 2) := by decide +kernel
theorem d127_45 : decode prog_12_method_1_code 45 = .ok (.putfield 22, 3) := by decide +kernel
theorem d127_48 : decode prog_12_method_1_code 48 = .ok (.aload_n 0, 1) := by decide +kernel
theorem d127_49 : decode prog_12_method_1_code 49 = .ok (.bipush 6, 2) := by decide +kernel
theorem d127_51 : decode prog_12_method_1_code 51 = .ok (.newarray .int, 2) := by decide +kernel
theorem d127_53 : decode prog_12_method_1_code 53 = .ok (.putfield 25, 3) := by decide +kernel
theorem d127_56 : decode prog_12_method_1_code 56 = .ok (.aload_n 0, 1) := by decide +kernel
theorem d127_57 : decode prog_12_method_1_code 57 = .ok (.iconst 0, 1) := by decide +kernel
theorem d127_58 : decode prog_12_method_1_code 58 = .ok (.putfield 28, 3) := by decide +kernel
theorem d127_61 : decode prog_12_method_1_code 61 = .ok (.aload_n 0, 1) := by decide +kernel
theorem d127_62 : decode prog_12_method_1_code 62 = .ok (.iconst 0, 1) := by decide +kernel
theorem d127_63 : decode prog_12_method_1_code 63 = .ok (.putfield 32, 3) := by decide +kernel
theorem d127_66 : decode prog_12_method_1_code 66 = .ok (.aload_n 0, 1) := by decide +kernel
theorem d127_67 : decode prog_12_method_1_code 67 = .ok (.iconst (-1), 1) := by decide +kernel
theorem d127_68 : decode prog_12_method_1_code 68 = .ok (.putfield 35, 3) := by decide +kernel
theorem d127_71 : decode prog_12_method_1_code 71 = .ok (.aload_n 0, 1) := by decide +kernel
theorem d127_72 : decode prog_12_method_1_code 72 = .ok (.iconst (-1), 1) := by decide +kernel
theorem d127_73 : decode prog_12_method_1_code 73 = .ok (.putfield 38, 3) := by decide +kernel
theorem d127_76 : decode prog_12_method_1_code 76 = .ok (.aload_n 0, 1) := by decide +kernel
theorem d127_77 : decode prog_12_method_1_code 77 = .ok (.iconst 0, 1) := by decide +kernel
theorem d127_78 : decode prog_12_method_1_code 78 = .ok (.putfield 41, 3) := by decide +kernel
theorem d127_81 : decode prog_12_method_1_code 81 = .ok (.aload_n 0, 1) := by decide +kernel
theorem d127_82 : decode prog_12_method_1_code 82 = .ok (.iconst 0, 1) := by decide +kernel
theorem d127_83 : decode prog_12_method_1_code 83 = .ok (.putfield 44, 3) := by decide +kernel
theorem d127_86 : decode prog_12_method_1_code 86 = .ok (.aload_n 0, 1) := by decide +kernel
theorem d127_87 : decode prog_12_method_1_code 87 = .ok (.iconst 0, 1) := by decide +kernel
theorem d127_88 : decode prog_12_method_1_code 88 = .ok (.putfield 47, 3) := by decide +kernel
theorem d127_91 : decode prog_12_method_1_code 91 = .ok (.aload_n 0, 1) := by decide +kernel
theorem d127_92 : decode prog_12_method_1_code 92 = .ok (.bipush 100, 2) := by decide +kernel
theorem d127_94 : decode prog_12_method_1_code 94 = .ok (.newarray .int, 2) := by decide +kernel
theorem d127_96 : decode prog_12_method_1_code 96 = .ok (.putfield 51, 3) := by decide +kernel
theorem d127_99 : decode prog_12_method_1_code 99 = .ok (.aload_n 0, 1) := by decide +kernel
theorem d127_100 : decode prog_12_method_1_code 100 = .ok (.iconst 0, 1) := by decide +kernel
theorem d127_101 : decode prog_12_method_1_code 101 = .ok (.putfield 54, 3) := by decide +kernel
theorem d127_104 : decode prog_12_method_1_code 104 = .ok (.aload_n 0, 1) := by decide +kernel
theorem d127_105 : decode prog_12_method_1_code 105 = .ok (.bipush 60, 2) := by decide +kernel
theorem d127_107 : decode prog_12_method_1_code 107 = .ok (.newarray .int, 2) := by decide +kernel
theorem d127_109 : decode prog_12_method_1_code 109 = .ok (.putfield 57, 3) := by decide +kernel
theorem d127_112 : decode prog_12_method_1_code 112 = .ok (.aload_n 0, 1) := by decide +kernel
theorem d127_113 : decode prog_12_method_1_code 113 = .ok (.bipush 32, 2) := by decide +kernel
theorem d127_115 : decode prog_12_method_1_code 115 = .ok (.newarray .int, 2) := by decide +kernel
theorem d127_117 : decode prog_12_method_1_code 117 = .ok (.putfield 60, 3) := by decide +kernel
theorem d127_120 : decode prog_12_method_1_code 120 = .ok (.aload_n 0, 1) := by decide +kernel
theorem d127_121 : decode prog_12_method_1_code 121 = .ok (.sipush 192, 3) := by decide +kernel
theorem d127_124 : decode prog_12_method_1_code 124 = .ok (.newarray .int, 2) := by decide +kernel
theorem d127_126 : decode prog_12_method_1_code 126 = .ok (.putfield 63, 3) := by decide +kernel
theorem d127_129 : decode prog_12_method_1_code 129 = .ok (.aload_n 0, 1) := by decide +kernel
theorem d127_130 : decode prog_12_method_1_code 130 = .ok (.iconst 0, 1) := by decide +kernel
theorem d127_131 : decode prog_12_method_1_code 131 = .ok (.putfield 66, 3) := by decide +kernel
theorem d127_134 : decode prog_12_method_1_code 134 = .ok (.aload_n 0, 1) := by decide +kernel
theorem d127_135 : decode prog_12_method_1_code 135 = .ok (.iconst 0, 1) := by decide +kernel
theorem d127_136 : decode prog_12_method_1_code 136 = .ok (.putfield 69, 3) := by decide +kernel
theorem d127_139 : decode prog_12_method_1_code 139 = .ok (.aload_n 0, 1) := by decide +kernel
theorem d127_140 : decode prog_12_method_1_code 140 = .ok (.iconst 0, 1) := by decide +kernel
theorem d127_141 : decode prog_12_method_1_code 141 = .ok (.putfield 72, 3) := by decide +kernel
theorem d127_144 : decode prog_12_method_1_code 144 = .ok (.aload_n 0, 1) := by decide +kernel
theorem d127_145 : decode prog_12_method_1_code 145 = .ok (.iconst 0, 1) := by decide +kernel
theorem d127_146 : decode prog_12_method_1_code 146 = .ok (.putfield 75, 3) := by decide +kernel
theorem d127_149 : decode prog_12_method_1_code 149 = .ok (.aload_n 0, 1) := by decide +kernel
theorem d127_150 : decode prog_12_method_1_code 150 = .ok (.iconst 0, 1) := by decide +kernel
theorem d127_151 : decode prog_12_method_1_code 151 = .ok (.putfield 78, 3) := by decide +kernel
theorem d127_154 : decode prog_12_method_1_code 154 = .ok (.return_, 1) := by decide +kernel
theorem d128_0 : decode prog_12_method_2_code 0 = .ok (.aload_n 0, 1) := by decide +kernel
theorem d128_1 : decode prog_12_method_2_code 1 = .ok (.getfield 28, 3) := by decide +kernel
theorem d128_4 : decode prog_12_method_2_code 4 = .ok (.ireturn, 1) := by decide +kernel
theorem d129_0 : decode prog_12_method_17_code 0 = .ok (.aload_n 0, 1) := by decide +kernel
theorem d129_1 : decode prog_12_method_17_code 1 = .ok (.invokevirtual 100, 3) := by decide +kernel
theorem d129_4 : decode prog_12_method_17_code 4 = .ok (.aload_n 0, 1) := by decide +kernel
theorem d129_5 : decode prog_12_method_17_code 5 = .ok (.iload_n 1, 1) := by decide +kernel
theorem d129_6 : decode prog_12_method_17_code 6 = .ok (.iload_n 2, 1) := by decide +kernel
theorem d129_7 : decode prog_12_method_17_code 7 = .ok (.iload_n 3, 1) := by decide +kernel
theorem d129_8 : decode prog_12_method_17_code 8 = .ok (.iload 4, 2) := by decide +kernel
theorem d129_10 : decode prog_12_method_17_code 10 = .ok (.iload 5, 2) := by decide +kernel
theorem d129_12 : decode prog_12_method_17_code 12 = .ok (.iload 6, 2) := by decide +kernel
theorem d129_14 : decode prog_12_method_17_code 14 = .ok (.invokevirtual 103, 3) := by decide +kernel
theorem d129_17 : decode prog_12_method_17_code 17 = .ok (.istore 7, 2) := by decide +kernel
theorem d129_19 : decode prog_12_method_17_code 19 = .ok (.iload 7, 2) := by decide +kernel
theorem d129_21 : decode prog_12_method_17_code 21 = .ok (.ifCond .le 12, 3) := by decide +kernel
theorem d129_24 : decode prog_12_method_17_code 24 = .ok (.aload_n 0, 1) := by decide +kernel
theorem d129_25 : decode prog_12_method_17_code 25 = .ok (.iload 7, 2) := by decide +kernel
theorem d129_27 : decode prog_12_method_17_code 27 = .ok (.invokevirtual 107, 3) := by decide +kernel
theorem d129_30 : decode prog_12_method_17_code 30 = .ok (.goto 20, 3) := by decide +kernel
theorem d129_33 : decode prog_12_method_17_code 33 = .ok (.aload_n 0, 1) := by decide +kernel
theorem d129_34 : decode prog_12_method_17_code 34 = .ok (.aload_n 0, 1) := by decide +kernel
theorem d129_35 : decode prog_12_method_17_code 35 = .ok (.iload_n 1, 1) := by decide +kernel
theorem d129_36 : decode prog_12_method_17_code 36 = .ok (.iload_n 2, 1) := by decide +kernel
theorem d129_37 : decode prog_12_method_17_code 37 = .ok (.iload_n 3, 1) := by decide +kernel
theorem d129_38 : decode prog_12_method_17_code 38 = .ok (.iload 4, 2) := by decide +kernel
theorem d129_40 : decode prog_12_method_17_code 40 = .ok (.iload 5, 2) := by decide +kernel
theorem d129_42 : decode prog_12_method_17_code 42 = .ok (.iload 6, 2) := by decide +kernel
theorem d129_44 : decode prog_12_method_17_code 44 = .ok (.invokevirtual 111, 3) := by decide +kernel
theorem d129_47 : decode prog_12_method_17_code 47 = .ok (.invokevirtual 114, 3) := by decide +kernel
theorem d129_50 : decode prog_12_method_17_code 50 = .ok (.ireturn, 1) := by decide +kernel
theorem d130_0 : decode prog_12_method_6_code 0 = .ok (.aload_n 0, 1) := by decide +kernel
theorem d130_1 : decode prog_12_method_6_code 1 = .ok (.iconst 0, 1) := by decide +kernel
theorem d130_2 : decode prog_12_method_6_code 2 = .ok (.putfield 28, 3) := by decide +kernel
theorem d130_5 : decode prog_12_method_6_code 5 = .ok (.aload_n 0, 1) := by decide +kernel
theorem d130_6 : decode prog_12_method_6_code 6 = .ok (.getfield 7, 3) := by decide +kernel
theorem d130_9 : decode prog_12_method_6_code 9 = .ok (.iconst 0, 1) := by decide +kernel
theorem d130_10 : decode prog_12_method_6_code 10 = .ok (.aload_n 0, 1) := by decide +kernel
theorem d130_11 : decode prog_12_method_6_code 11 = .ok (.getfield 13, 3) := by decide +kernel
theorem d130_14 : decode prog_12_method_6_code 14 = .ok (.iconst 0, 1) := by decide +kernel
theorem d130_15 : decode prog_12_method_6_code 15 = .ok (.invokestatic 81, 3) := by decide +kernel
theorem d130_18 : decode prog_12_method_6_code 18 = .ok (.return_, 1) := by decide +kernel
theorem d131_0 : decode prog_12_method_4_code 0 = .ok (.iconst 0, 1) := by decide +kernel
theorem d131_1 : decode prog_12_method_4_code 1 = .ok (.istore 4, 2) := by decide +kernel
theorem d131_3 : decode prog_12_method_4_code 3 = .ok (.iload 4, 2) := by decide +kernel
theorem d131_5 : decode prog_12_method_4_code 5 = .ok (.sipush 140, 3) := by decide +kernel
theorem d131_8 : decode prog_12_method_4_code 8 = .ok (.if_icmp .ge 21, 3) := by decide +kernel
theorem d131_11 : decode prog_12_method_4_code 11 = .ok (.aload_n 2, 1) := by decide +kernel
theorem d131_12 : decode prog_12_method_4_code 12 = .ok (.iload_n 3, 1) := by decide +kernel
theorem d131_13 : decode prog_12_method_4_code 13 = .ok (.iload 4, 2) := by decide +kernel
theorem d131_15 : decode prog_12_method_4_code 15 = .ok (.iadd, 1) := by decide +kernel
theorem d131_16 : decode prog_12_method_4_code 16 = .ok (.aload_n 0, 1) := by decide +kernel
theorem d131_17 : decode prog_12_method_4_code 17 = .ok (.iload_n 1, 1) := by decide +kernel
theorem d131_18 : decode prog_12_method_4_code 18 = .ok (.iload 4, 2) := by decide +kernel
theorem d131_20 : decode prog_12_method_4_code 20 = .ok (.iadd, 1) := by decide +kernel
theorem d131_21 : decode prog_12_method_4_code 21 = .ok (.iaload, 1) := by decide +kernel
theorem d131_22 : decode prog_12_method_4_code 22 = .ok (.iastore, 1) := by decide +kernel
theorem d131_23 : decode prog_12_method_4_code 23 = .ok (.iinc 4 1, 3) := by decide +kernel
theorem d131_26 : decode prog_12_method_4_code 26 = .ok (.goto (-23), 3) := by decide +kernel
theorem d131_29 : decode prog_12_method_4_code 29 = .ok (.return_, 1) := by decide +kernel
theorem d132_0 : decode prog_12_method_15_code 0 = .ok (.iload_n 1, 1) := by decide +kernel
theorem d132_1 : decode prog_12_method_15_code 1 = .ok (.iconst 0, 1) := by decide +kernel
theorem d132_2 : decode prog_12_method_15_code 2 = .ok (.bipush 20, 2) := by decide +kernel
theorem d132_4 : decode prog_12_method_15_code 4 = .ok (.invokestatic 89, 3) := by decide +kernel
theorem d132_7 : decode prog_12_method_15_code 7 = .ok (.ifCond .eq 50, 3) := by decide +kernel
theorem d132_10 : decode prog_12_method_15_code 10 = .ok (.iload_n 2, 1) := by decide +kernel
theorem d132_11 : decode prog_12_method_15_code 11 = .ok (.iconst 0, 1) := by decide +kernel
theorem d132_12 : decode prog_12_method_15_code 12 = .ok (.bipush 20, 2) := by decide +kernel
theorem d132_14 : decode prog_12_method_15_code 14 = .ok (.invokestatic 89, 3) := by decide +kernel
theorem d132_17 : decode prog_12_method_15_code 17 = .ok (.ifCond .eq 40, 3) := by decide +kernel
theorem d132_20 : decode prog_12_method_15_code 20 = .ok (.iload_n 3, 1) := by decide +kernel
theorem d132_21 : decode prog_12_method_15_code 21 = .ok (.invokestatic 93, 3) := by decide +kernel
theorem d132_24 : decode prog_12_method_15_code 24 = .ok (.ifCond .eq 33, 3) := by decide +kernel
theorem d132_27 : decode prog_12_method_15_code 27 = .ok (.iload 4, 2) := by decide +kernel
theorem d132_29 : decode prog_12_method_15_code 29 = .ok (.invokestatic 97, 3) := by decide +kernel
theorem d132_32 : decode prog_12_method_15_code 32 = .ok (.ifCond .eq 25, 3) := by decide +kernel
theorem d132_35 : decode prog_12_method_15_code 35 = .ok (.iload 5, 2) := by decide +kernel
theorem d132_37 : decode prog_12_method_15_code 37 = .ok (.iconst 1, 1) := by decide +kernel
theorem d132_38 : decode prog_12_method_15_code 38 = .ok (.iconst 4, 1) := by decide +kernel
theorem d132_39 : decode prog_12_method_15_code 39 = .ok (.invokestatic 89, 3) := by decide +kernel
theorem d132_42 : decode prog_12_method_15_code 42 = .ok (.ifCond .eq 15, 3) := by decide +kernel
theorem d132_45 : decode prog_12_method_15_code 45 = .ok (.iload 6, 2) := by decide +kernel
theorem d132_47 : decode prog_12_method_15_code 47 = .ok (.iconst 1, 1) := by decide +kernel
theorem d132_48 : decode prog_12_method_15_code 48 = .ok (.sipush 199, 3) := by decide +kernel
theorem d132_51 : decode prog_12_method_15_code 51 = .ok (.invokestatic 89, 3) := by decide +kernel
theorem d132_54 : decode prog_12_method_15_code 54 = .ok (.ifCond .ne 5, 3) := by decide +kernel
theorem d132_57 : decode prog_12_method_15_code 57 = .ok (.iconst 1, 1) := by decide +kernel
theorem d132_58 : decode prog_12_method_15_code 58 = .ok (.ireturn, 1) := by decide +kernel
theorem d132_59 : decode prog_12_method_15_code 59 = .ok (.aload_n 0, 1) := by decide +kernel
theorem d132_60 : decode prog_12_method_15_code 60 = .ok (.getfield 7, 3) := by decide +kernel
theorem d132_63 : decode prog_12_method_15_code 63 = .ok (.iconst 0, 1) := by decide +kernel
theorem d132_64 : decode prog_12_method_15_code 64 = .ok (.iaload, 1) := by decide +kernel
theorem d132_65 : decode prog_12_method_15_code 65 = .ok (.bipush 12, 2) := by decide +kernel
theorem d132_67 : decode prog_12_method_15_code 67 = .ok (.if_icmp .ne 7, 3) := by decide +kernel
theorem d132_70 : decode prog_12_method_15_code 70 = .ok (.iconst 2, 1) := by decide +kernel
theorem d132_71 : decode prog_12_method_15_code 71 = .ok (.goto 4, 3) := by decide +kernel
theorem d132_74 : decode prog_12_method_15_code 74 = .ok (.iconst 0, 1) := by decide +kernel
theorem d132_75 : decode prog_12_method_15_code 75 = .ok (.ireturn, 1) := by decide +kernel
theorem d133_0 : decode prog_12_method_3_code 0 = .ok (.iload_n 0, 1) := by decide +kernel
theorem d133_1 : decode prog_12_method_3_code 1 = .ok (.iload_n 1, 1) := by decide +kernel
theorem d133_2 : decode prog_12_method_3_code 2 = .ok (.if_icmp .lt 12, 3) := by decide +kernel
theorem d133_5 : decode prog_12_method_3_code 5 = .ok (.iload_n 0, 1) := by decide +kernel
theorem d133_6 : decode prog_12_method_3_code 6 = .ok (.iload_n 2, 1) := by decide +kernel
theorem d133_7 : decode prog_12_method_3_code 7 = .ok (.if_icmp .gt 7, 3) := by decide +kernel
theorem d133_10 : decode prog_12_method_3_code 10 = .ok (.iconst 1, 1) := by decide +kernel
theorem d133_11 : decode prog_12_method_3_code 11 = .ok (.goto 4, 3) := by decide +kernel
theorem d133_14 : decode prog_12_method_3_code 14 = .ok (.iconst 0, 1) := by decide +kernel
theorem d133_15 : decode prog_12_method_3_code 15 = .ok (.ireturn, 1) := by decide +kernel
theorem d134_0 : decode prog_12_method_13_code 0 = .ok (.iload_n 0, 1) := by decide +kernel
theorem d134_1 : decode prog_12_method_13_code 1 = .ok (.bipush 97, 2) := by decide +kernel
theorem d134_3 : decode prog_12_method_13_code 3 = .ok (.bipush 100, 2) := by decide +kernel
theorem d134_5 : decode prog_12_method_13_code 5 = .ok (.invokestatic 89, 3) := by decide +kernel
theorem d134_8 : decode prog_12_method_13_code 8 = .ok (.ireturn, 1) := by decide +kernel
theorem d135_0 : decode prog_12_method_14_code 0 = .ok (.iload_n 0, 1) := by decide +kernel
theorem d135_1 : decode prog_12_method_14_code 1 = .ok (.iconst 0, 1) := by decide +kernel
theorem d135_2 : decode prog_12_method_14_code 2 = .ok (.iconst 5, 1) := by decide +kernel
theorem d135_3 : decode prog_12_method_14_code 3 = .ok (.invokestatic 89, 3) := by decide +kernel
theorem d135_6 : decode prog_12_method_14_code 6 = .ok (.ireturn, 1) := by decide +kernel
theorem d136_0 : decode prog_12_method_5_code 0 = .ok (.aload_n 0, 1) := by decide +kernel
theorem d136_1 : decode prog_12_method_5_code 1 = .ok (.iload_n 1, 1) := by decide +kernel
theorem d136_2 : decode prog_12_method_5_code 2 = .ok (.putfield 28, 3) := by decide +kernel
theorem d136_5 : decode prog_12_method_5_code 5 = .ok (.iconst 0, 1) := by decide +kernel
theorem d136_6 : decode prog_12_method_5_code 6 = .ok (.ireturn, 1) := by decide +kernel
theorem d137_0 : decode prog_12_method_16_code 0 = .ok (.bipush 42, 2) := by decide +kernel
theorem d137_2 : decode prog_12_method_16_code 2 = .ok (.bipush 8, 2) := by decide +kernel
theorem d137_4 : decode prog_12_method_16_code 4 = .ok (.aload_n 0, 1) := by decide +kernel
theorem d137_5 : decode prog_12_method_16_code 5 = .ok (.getfield 7, 3) := by decide +kernel
theorem d137_8 : decode prog_12_method_16_code 8 = .ok (.iconst 0, 1) := by decide +kernel
theorem d137_9 : decode prog_12_method_16_code 9 = .ok (.iaload, 1) := by decide +kernel
theorem d137_10 : decode prog_12_method_16_code 10 = .ok (.imul, 1) := by decide +kernel
theorem d137_11 : decode prog_12_method_16_code 11 = .ok (.iadd, 1) := by decide +kernel
theorem d137_12 : decode prog_12_method_16_code 12 = .ok (.istore 7, 2) := by decide +kernel
theorem d137_14 : decode prog_12_method_16_code 14 = .ok (.aload_n 0, 1) := by decide +kernel
theorem d137_15 : decode prog_12_method_16_code 15 = .ok (.getfield 7, 3) := by decide +kernel
theorem d137_18 : decode prog_12_method_16_code 18 = .ok (.iload 7, 2) := by decide +kernel
theorem d137_20 : decode prog_12_method_16_code 20 = .ok (.iconst 0, 1) := by decide +kernel
theorem d137_21 : decode prog_12_method_16_code 21 = .ok (.iadd, 1) := by decide +kernel
theorem d137_22 : decode prog_12_method_16_code 22 = .ok (.aload_n 0, 1) := by decide +kernel
theorem d137_23 : decode prog_12_method_16_code 23 = .ok (.getfield 7, 3) := by decide +kernel
theorem d137_26 : decode prog_12_method_16_code 26 = .ok (.iconst 1, 1) := by decide +kernel
theorem d137_27 : decode prog_12_method_16_code 27 = .ok (.iaload, 1) := by decide +kernel
theorem d137_28 : decode prog_12_method_16_code 28 = .ok (.iastore, 1) := by decide +kernel
theorem d137_29 : decode prog_12_method_16_code 29 = .ok (.aload_n 0, 1) := by decide +kernel
theorem d137_30 : decode prog_12_method_16_code 30 = .ok (.getfield 7, 3) := by decide +kernel
theorem d137_33 : decode prog_12_method_16_code 33 = .ok (.iload 7, 2) := by decide +kernel
theorem d137_35 : decode prog_12_method_16_code 35 = .ok (.iconst 1, 1) := by decide +kernel
theorem d137_36 : decode prog_12_method_16_code 36 = .ok (.iadd, 1) := by decide +kernel
theorem d137_37 : decode prog_12_method_16_code 37 = .ok (.iload_n 1, 1) := by decide +kernel
theorem d137_38 : decode prog_12_method_16_code 38 = .ok (.iastore, 1) := by decide +kernel
theorem d137_39 : decode prog_12_method_16_code 39 = .ok (.aload_n 0, 1) := by decide +kernel
theorem d137_40 : decode prog_12_method_16_code 40 = .ok (.getfield 7, 3) := by decide +kernel
theorem d137_43 : decode prog_12_method_16_code 43 = .ok (.iload 7, 2) := by decide +kernel
theorem d137_45 : decode prog_12_method_16_code 45 = .ok (.iconst 2, 1) := by decide +kernel
theorem d137_46 : decode prog_12_method_16_code 46 = .ok (.iadd, 1) := by decide +kernel
theorem d137_47 : decode prog_12_method_16_code 47 = .ok (.iload_n 2, 1) := by decide +kernel
theorem d137_48 : decode prog_12_method_16_code 48 = .ok (.iastore, 1) := by decide +kernel
theorem d137_49 : decode prog_12_method_16_code 49 = .ok (.aload_n 0, 1) := by decide +kernel
theorem d137_50 : decode prog_12_method_16_code 50 = .ok (.getfield 7, 3) := by decide +kernel
theorem d137_53 : decode prog_12_method_16_code 53 = .ok (.iload 7, 2) := by decide +kernel
theorem d137_55 : decode prog_12_method_16_code 55 = .ok (.iconst 3, 1) := by decide +kernel
theorem d137_56 : decode prog_12_method_16_code 56 = .ok (.iadd, 1) := by decide +kernel
theorem d137_57 : decode prog_12_method_16_code 57 = .ok (.iload_n 3, 1) := by decide +kernel
theorem d137_58 : decode prog_12_method_16_code 58 = .ok (.iastore, 1) := by decide +kernel
theorem d137_59 : decode prog_12_method_16_code 59 = .ok (.aload_n 0, 1) := by decide +kernel
theorem d137_60 : decode prog_12_method_16_code 60 = .ok (.getfield 7, 3) := by decide +kernel
theorem d137_63 : decode prog_12_method_16_code 63 = .ok (.iload 7, 2) := by decide +kernel
theorem d137_65 : decode prog_12_method_16_code 65 = .ok (.iconst 4, 1) := by decide +kernel
theorem d137_66 : decode prog_12_method_16_code 66 = .ok (.iadd, 1) := by decide +kernel
theorem d137_67 : decode prog_12_method_16_code 67 = .ok (.iload 4, 2) := by decide +kernel
theorem d137_69 : decode prog_12_method_16_code 69 = .ok (.iastore, 1) := by decide +kernel
theorem d137_70 : decode prog_12_method_16_code 70 = .ok (.aload_n 0, 1) := by decide +kernel
theorem d137_71 : decode prog_12_method_16_code 71 = .ok (.getfield 7, 3) := by decide +kernel
theorem d137_74 : decode prog_12_method_16_code 74 = .ok (.iload 7, 2) := by decide +kernel
theorem d137_76 : decode prog_12_method_16_code 76 = .ok (.iconst 5, 1) := by decide +kernel
theorem d137_77 : decode prog_12_method_16_code 77 = .ok (.iadd, 1) := by decide +kernel
theorem d137_78 : decode prog_12_method_16_code 78 = .ok (.iload 5, 2) := by decide +kernel
theorem d137_80 : decode prog_12_method_16_code 80 = .ok (.iastore, 1) := by decide +kernel
theorem d137_81 : decode prog_12_method_16_code 81 = .ok (.aload_n 0, 1) := by decide +kernel
theorem d137_82 : decode prog_12_method_16_code 82 = .ok (.getfield 7, 3) := by decide +kernel
theorem d137_85 : decode prog_12_method_16_code 85 = .ok (.iload 7, 2) := by decide +kernel
theorem d137_87 : decode prog_12_method_16_code 87 = .ok (.bipush 6, 2) := by decide +kernel
theorem d137_89 : decode prog_12_method_16_code 89 = .ok (.iadd, 1) := by decide +kernel
theorem d137_90 : decode prog_12_method_16_code 90 = .ok (.iload 6, 2) := by decide +kernel
theorem d137_92 : decode prog_12_method_16_code 92 = .ok (.iastore, 1) := by decide +kernel
theorem d137_93 : decode prog_12_method_16_code 93 = .ok (.aload_n 0, 1) := by decide +kernel
theorem d137_94 : decode prog_12_method_16_code 94 = .ok (.getfield 7, 3) := by decide +kernel
theorem d137_97 : decode prog_12_method_16_code 97 = .ok (.iload 7, 2) := by decide +kernel
theorem d137_99 : decode prog_12_method_16_code 99 = .ok (.bipush 7, 2) := by decide +kernel
theorem d137_101 : decode prog_12_method_16_code 101 = .ok (.iadd, 1) := by decide +kernel
theorem d137_102 : decode prog_12_method_16_code 102 = .ok (.iconst 0, 1) := by decide +kernel
theorem d137_103 : decode prog_12_method_16_code 103 = .ok (.iastore, 1) := by decide +kernel
theorem d137_104 : decode prog_12_method_16_code 104 = .ok (.aload_n 0, 1) := by decide +kernel
theorem d137_105 : decode prog_12_method_16_code 105 = .ok (.getfield 7, 3) := by decide +kernel
theorem d137_108 : decode prog_12_method_16_code 108 = .ok (.iconst 0, 1) := by decide +kernel
theorem d137_109 : decode prog_12_method_16_code 109 = .ok (.dup2, 1) := by decide +kernel
theorem d137_110 : decode prog_12_method_16_code 110 = .ok (.iaload, 1) := by decide +kernel
theorem d137_111 : decode prog_12_method_16_code 111 = .ok (.iconst 1, 1) := by decide +kernel
theorem d137_112 : decode prog_12_method_16_code 112 = .ok (.iadd, 1) := by decide +kernel
theorem d137_113 : decode prog_12_method_16_code 113 = .ok (.iastore, 1) := by decide +kernel
theorem d137_114 : decode prog_12_method_16_code 114 = .ok (.aload_n 0, 1) := by decide +kernel
theorem d137_115 : decode prog_12_method_16_code 115 = .ok (.getfield 7, 3) := by decide +kernel
theorem d137_118 : decode prog_12_method_16_code 118 = .ok (.iconst 1, 1) := by decide +kernel
theorem d137_119 : decode prog_12_method_16_code 119 = .ok (.dup2, 1) := by decide +kernel
theorem d137_120 : decode prog_12_method_16_code 120 = .ok (.iaload, 1) := by decide +kernel
theorem d137_121 : decode prog_12_method_16_code 121 = .ok (.iconst 1, 1) := by decide +kernel
theorem d137_122 : decode prog_12_method_16_code 122 = .ok (.iadd, 1) := by decide +kernel
theorem d137_123 : decode prog_12_method_16_code 123 = .ok (.iastore, 1) := by decide +kernel
theorem d137_124 : decode prog_12_method_16_code 124 = .ok (.aload_n 0, 1) := by decide +kernel
theorem d137_125 : decode prog_12_method_16_code 125 = .ok (.getfield 7, 3) := by decide +kernel
theorem d137_128 : decode prog_12_method_16_code 128 = .ok (.iconst 1, 1) := by decide +kernel
theorem d137_129 : decode prog_12_method_16_code 129 = .ok (.iaload, 1) := by decide +kernel
theorem d137_130 : decode prog_12_method_16_code 130 = .ok (.iconst 1, 1) := by decide +kernel
theorem d137_131 : decode prog_12_method_16_code 131 = .ok (.isub, 1) := by decide +kernel
theorem d137_132 : decode prog_12_method_16_code 132 = .ok (.ireturn, 1) := by decide +kernel
theorem d138_0 : decode prog_12_method_7_code 0 = .ok (.aload_n 0, 1) := by decide +kernel
theorem d138_1 : decode prog_12_method_7_code 1 = .ok (.getfield 32, 3) := by decide +kernel
theorem d138_4 : decode prog_12_method_7_code 4 = .ok (.bipush 8, 2) := by decide +kernel
theorem d138_6 : decode prog_12_method_7_code 6 = .ok (.if_icmp .ne 50, 3) := by decide +kernel
theorem d138_9 : decode prog_12_method_7_code 9 = .ok (.iconst 1, 1) := by decide +kernel
theorem d138_10 : decode prog_12_method_7_code 10 = .ok (.istore_n 2, 1) := by decide +kernel
theorem d138_11 : decode prog_12_method_7_code 11 = .ok (.iload_n 2, 1) := by decide +kernel
theorem d138_12 : decode prog_12_method_7_code 12 = .ok (.bipush 8, 2) := by decide +kernel
theorem d138_14 : decode prog_12_method_7_code 14 = .ok (.if_icmp .ge 32, 3) := by decide +kernel
theorem d138_17 : decode prog_12_method_7_code 17 = .ok (.aload_n 0, 1) := by decide +kernel
theorem d138_18 : decode prog_12_method_7_code 18 = .ok (.getfield 19, 3) := by decide +kernel
theorem d138_21 : decode prog_12_method_7_code 21 = .ok (.sipush 140, 3) := by decide +kernel
theorem d138_24 : decode prog_12_method_7_code 24 = .ok (.iload_n 2, 1) := by decide +kernel
theorem d138_25 : decode prog_12_method_7_code 25 = .ok (.imul, 1) := by decide +kernel
theorem d138_26 : decode prog_12_method_7_code 26 = .ok (.aload_n 0, 1) := by decide +kernel
theorem d138_27 : decode prog_12_method_7_code 27 = .ok (.getfield 19, 3) := by decide +kernel
theorem d138_30 : decode prog_12_method_7_code 30 = .ok (.sipush 140, 3) := by decide +kernel
theorem d138_33 : decode prog_12_method_7_code 33 = .ok (.iload_n 2, 1) := by decide +kernel
theorem d138_34 : decode prog_12_method_7_code 34 = .ok (.iconst 1, 1) := by decide +kernel
theorem d138_35 : decode prog_12_method_7_code 35 = .ok (.isub, 1) := by decide +kernel
theorem d138_36 : decode prog_12_method_7_code 36 = .ok (.imul, 1) := by decide +kernel
theorem d138_37 : decode prog_12_method_7_code 37 = .ok (.invokestatic 81, 3) := by decide +kernel
theorem d138_40 : decode prog_12_method_7_code 40 = .ok (.iinc 2 1, 3) := by decide +kernel
theorem d138_43 : decode prog_12_method_7_code 43 = .ok (.goto (-32), 3) := by decide +kernel
theorem d138_46 : decode prog_12_method_7_code 46 = .ok (.aload_n 0, 1) := by decide +kernel
theorem d138_47 : decode prog_12_method_7_code 47 = .ok (.dup, 1) := by decide +kernel
theorem d138_48 : decode prog_12_method_7_code 48 = .ok (.getfield 32, 3) := by decide +kernel
theorem d138_51 : decode prog_12_method_7_code 51 = .ok (.iconst 1, 1) := by decide +kernel
theorem d138_52 : decode prog_12_method_7_code 52 = .ok (.isub, 1) := by decide +kernel
theorem d138_53 : decode prog_12_method_7_code 53 = .ok (.putfield 32, 3) := by decide +kernel
theorem d138_56 : decode prog_12_method_7_code 56 = .ok (.aload_n 0, 1) := by decide +kernel
theorem d138_57 : decode prog_12_method_7_code 57 = .ok (.getfield 13, 3) := by decide +kernel
theorem d138_60 : decode prog_12_method_7_code 60 = .ok (.iconst 0, 1) := by decide +kernel
theorem d138_61 : decode prog_12_method_7_code 61 = .ok (.aload_n 0, 1) := by decide +kernel
theorem d138_62 : decode prog_12_method_7_code 62 = .ok (.getfield 19, 3) := by decide +kernel
theorem d138_65 : decode prog_12_method_7_code 65 = .ok (.sipush 140, 3) := by decide +kernel
theorem d138_68 : decode prog_12_method_7_code 68 = .ok (.aload_n 0, 1) := by decide +kernel
theorem d138_69 : decode prog_12_method_7_code 69 = .ok (.getfield 32, 3) := by decide +kernel
theorem d138_72 : decode prog_12_method_7_code 72 = .ok (.imul, 1) := by decide +kernel
theorem d138_73 : decode prog_12_method_7_code 73 = .ok (.invokestatic 81, 3) := by decide +kernel
theorem d138_76 : decode prog_12_method_7_code 76 = .ok (.aload_n 0, 1) := by decide +kernel
theorem d138_77 : decode prog_12_method_7_code 77 = .ok (.dup, 1) := by decide +kernel
theorem d138_78 : decode prog_12_method_7_code 78 = .ok (.getfield 32, 3) := by decide +kernel
theorem d138_81 : decode prog_12_method_7_code 81 = .ok (.iconst 1, 1) := by decide +kernel
theorem d138_82 : decode prog_12_method_7_code 82 = .ok (.iadd, 1) := by decide +kernel
theorem d138_83 : decode prog_12_method_7_code 83 = .ok (.putfield 32, 3) := by decide +kernel
theorem d138_86 : decode prog_12_method_7_code 86 = .ok (.iload_n 1, 1) := by decide +kernel
theorem d138_87 : decode prog_12_method_7_code 87 = .ok (.ireturn, 1) := by decide +kernel
theorem d139_0 : decode prog_12_method_19_code 0 = .ok (.aload_n 0, 1) := by decide +kernel
theorem d139_1 : decode prog_12_method_19_code 1 = .ok (.invokevirtual 100, 3) := by decide +kernel
theorem d139_4 : decode prog_12_method_19_code 4 = .ok (.aload_n 0, 1) := by decide +kernel
theorem d139_5 : decode prog_12_method_19_code 5 = .ok (.iload_n 1, 1) := by decide +kernel
theorem d139_6 : decode prog_12_method_19_code 6 = .ok (.invokevirtual 117, 3) := by decide +kernel
theorem d139_9 : decode prog_12_method_19_code 9 = .ok (.ifCond .ge 11, 3) := by decide +kernel
theorem d139_12 : decode prog_12_method_19_code 12 = .ok (.aload_n 0, 1) := by decide +kernel
theorem d139_13 : decode prog_12_method_19_code 13 = .ok (.iconst 1, 1) := by decide +kernel
theorem d139_14 : decode prog_12_method_19_code 14 = .ok (.invokevirtual 107, 3) := by decide +kernel
theorem d139_17 : decode prog_12_method_19_code 17 = .ok (.goto 16, 3) := by decide +kernel
theorem d139_20 : decode prog_12_method_19_code 20 = .ok (.aload_n 0, 1) := by decide +kernel
theorem d139_21 : decode prog_12_method_19_code 21 = .ok (.aload_n 0, 1) := by decide +kernel
theorem d139_22 : decode prog_12_method_19_code 22 = .ok (.aload_n 0, 1) := by decide +kernel
theorem d139_23 : decode prog_12_method_19_code 23 = .ok (.iload_n 1, 1) := by decide +kernel
theorem d139_24 : decode prog_12_method_19_code 24 = .ok (.invokevirtual 117, 3) := by decide +kernel
theorem d139_27 : decode prog_12_method_19_code 27 = .ok (.invokevirtual 120, 3) := by decide +kernel
theorem d139_30 : decode prog_12_method_19_code 30 = .ok (.invokevirtual 114, 3) := by decide +kernel
theorem d139_33 : decode prog_12_method_19_code 33 = .ok (.ireturn, 1) := by decide +kernel
theorem d140_0 : decode prog_12_method_11_code 0 = .ok (.iconst 0, 1) := by decide +kernel
theorem d140_1 : decode prog_12_method_11_code 1 = .ok (.istore_n 2, 1) := by decide +kernel
theorem d140_2 : decode prog_12_method_11_code 2 = .ok (.iload_n 2, 1) := by decide +kernel
theorem d140_3 : decode prog_12_method_11_code 3 = .ok (.aload_n 0, 1) := by decide +kernel
theorem d140_4 : decode prog_12_method_11_code 4 = .ok (.getfield 7, 3) := by decide +kernel
theorem d140_7 : decode prog_12_method_11_code 7 = .ok (.iconst 0, 1) := by decide +kernel
theorem d140_8 : decode prog_12_method_11_code 8 = .ok (.iaload, 1) := by decide +kernel
theorem d140_9 : decode prog_12_method_11_code 9 = .ok (.if_icmp .ge 21, 3) := by decide +kernel
theorem d140_12 : decode prog_12_method_11_code 12 = .ok (.aload_n 0, 1) := by decide +kernel
theorem d140_13 : decode prog_12_method_11_code 13 = .ok (.iload_n 2, 1) := by decide +kernel
theorem d140_14 : decode prog_12_method_11_code 14 = .ok (.iconst 0, 1) := by decide +kernel
theorem d140_15 : decode prog_12_method_11_code 15 = .ok (.invokevirtual 85, 3) := by decide +kernel
theorem d140_18 : decode prog_12_method_11_code 18 = .ok (.iload_n 1, 1) := by decide +kernel
theorem d140_19 : decode prog_12_method_11_code 19 = .ok (.if_icmp .ne 5, 3) := by decide +kernel
theorem d140_22 : decode prog_12_method_11_code 22 = .ok (.iload_n 2, 1) := by decide +kernel
theorem d140_23 : decode prog_12_method_11_code 23 = .ok (.ireturn, 1) := by decide +kernel
theorem d140_24 : decode prog_12_method_11_code 24 = .ok (.iinc 2 1, 3) := by decide +kernel
theorem d140_27 : decode prog_12_method_11_code 27 = .ok (.goto (-25), 3) := by decide +kernel
theorem d140_30 : decode prog_12_method_11_code 30 = .ok (.iconst (-1), 1) := by decide +kernel
theorem d140_31 : decode prog_12_method_11_code 31 = .ok (.ireturn, 1) := by decide +kernel
theorem d141_0 : decode prog_12_method_8_code 0 = .ok (.aload_n 0, 1) := by decide +kernel
theorem d141_1 : decode prog_12_method_8_code 1 = .ok (.getfield 7, 3) := by decide +kernel
theorem d141_4 : decode prog_12_method_8_code 4 = .ok (.bipush 42, 2) := by decide +kernel
theorem d141_6 : decode prog_12_method_8_code 6 = .ok (.bipush 8, 2) := by decide +kernel
theorem d141_8 : decode prog_12_method_8_code 8 = .ok (.iload_n 1, 1) := by decide +kernel
theorem d141_9 : decode prog_12_method_8_code 9 = .ok (.imul, 1) := by decide +kernel
theorem d141_10 : decode prog_12_method_8_code 10 = .ok (.iadd, 1) := by decide +kernel
theorem d141_11 : decode prog_12_method_8_code 11 = .ok (.iload_n 2, 1) := by decide +kernel
theorem d141_12 : decode prog_12_method_8_code 12 = .ok (.iadd, 1) := by decide +kernel
theorem d141_13 : decode prog_12_method_8_code 13 = .ok (.iaload, 1) := by decide +kernel
theorem d141_14 : decode prog_12_method_8_code 14 = .ok (.ireturn, 1) := by decide +kernel
theorem d142_0 : decode prog_12_method_18_code 0 = .ok (.aload_n 0, 1) := by decide +kernel
theorem d142_1 : decode prog_12_method_18_code 1 = .ok (.getfield 7, 3) := by decide +kernel
theorem d142_4 : decode prog_12_method_18_code 4 = .ok (.iconst 0, 1) := by decide +kernel
theorem d142_5 : decode prog_12_method_18_code 5 = .ok (.dup2, 1) := by decide +kernel
theorem d142_6 : decode prog_12_method_18_code 6 = .ok (.iaload, 1) := by decide +kernel
theorem d142_7 : decode prog_12_method_18_code 7 = .ok (.iconst 1, 1) := by decide +kernel
theorem d142_8 : decode prog_12_method_18_code 8 = .ok (.isub, 1) := by decide +kernel
theorem d142_9 : decode prog_12_method_18_code 9 = .ok (.iastore, 1) := by decide +kernel
theorem d142_10 : decode prog_12_method_18_code 10 = .ok (.bipush 42, 2) := by decide +kernel
theorem d142_12 : decode prog_12_method_18_code 12 = .ok (.bipush 8, 2) := by decide +kernel
theorem d142_14 : decode prog_12_method_18_code 14 = .ok (.iload_n 1, 1) := by decide +kernel
theorem d142_15 : decode prog_12_method_18_code 15 = .ok (.imul, 1) := by decide +kernel
theorem d142_16 : decode prog_12_method_18_code 16 = .ok (.iadd, 1) := by decide +kernel
theorem d142_17 : decode prog_12_method_18_code 17 = .ok (.istore_n 2, 1) := by decide +kernel
theorem d142_18 : decode prog_12_method_18_code 18 = .ok (.iload_n 2, 1) := by decide +kernel
theorem d142_19 : decode prog_12_method_18_code 19 = .ok (.bipush 42, 2) := by decide +kernel
theorem d142_21 : decode prog_12_method_18_code 21 = .ok (.bipush 8, 2) := by decide +kernel
theorem d142_23 : decode prog_12_method_18_code 23 = .ok (.aload_n 0, 1) := by decide +kernel
theorem d142_24 : decode prog_12_method_18_code 24 = .ok (.getfield 7, 3) := by decide +kernel
theorem d142_27 : decode prog_12_method_18_code 27 = .ok (.iconst 0, 1) := by decide +kernel
theorem d142_28 : decode prog_12_method_18_code 28 = .ok (.iaload, 1) := by decide +kernel
theorem d142_29 : decode prog_12_method_18_code 29 = .ok (.imul, 1) := by decide +kernel
theorem d142_30 : decode prog_12_method_18_code 30 = .ok (.iadd, 1) := by decide +kernel
theorem d142_31 : decode prog_12_method_18_code 31 = .ok (.if_icmp .ge 24, 3) := by decide +kernel
theorem d142_34 : decode prog_12_method_18_code 34 = .ok (.aload_n 0, 1) := by decide +kernel
theorem d142_35 : decode prog_12_method_18_code 35 = .ok (.getfield 7, 3) := by decide +kernel
theorem d142_38 : decode prog_12_method_18_code 38 = .ok (.iload_n 2, 1) := by decide +kernel
theorem d142_39 : decode prog_12_method_18_code 39 = .ok (.aload_n 0, 1) := by decide +kernel
theorem d142_40 : decode prog_12_method_18_code 40 = .ok (.getfield 7, 3) := by decide +kernel
theorem d142_43 : decode prog_12_method_18_code 43 = .ok (.iload_n 2, 1) := by decide +kernel
theorem d142_44 : decode prog_12_method_18_code 44 = .ok (.bipush 8, 2) := by decide +kernel
theorem d142_46 : decode prog_12_method_18_code 46 = .ok (.iadd, 1) := by decide +kernel
theorem d142_47 : decode prog_12_method_18_code 47 = .ok (.iaload, 1) := by decide +kernel
theorem d142_48 : decode prog_12_method_18_code 48 = .ok (.iastore, 1) := by decide +kernel
theorem d142_49 : decode prog_12_method_18_code 49 = .ok (.iinc 2 1, 3) := by decide +kernel
theorem d142_52 : decode prog_12_method_18_code 52 = .ok (.goto (-34), 3) := by decide +kernel
theorem d142_55 : decode prog_12_method_18_code 55 = .ok (.iconst 0, 1) := by decide +kernel
theorem d142_56 : decode prog_12_method_18_code 56 = .ok (.istore_n 2, 1) := by decide +kernel
theorem d142_57 : decode prog_12_method_18_code 57 = .ok (.iload_n 2, 1) := by decide +kernel
theorem d142_58 : decode prog_12_method_18_code 58 = .ok (.bipush 8, 2) := by decide +kernel
theorem d142_60 : decode prog_12_method_18_code 60 = .ok (.if_icmp .ge 29, 3) := by decide +kernel
theorem d142_63 : decode prog_12_method_18_code 63 = .ok (.aload_n 0, 1) := by decide +kernel
theorem d142_64 : decode prog_12_method_18_code 64 = .ok (.getfield 7, 3) := by decide +kernel
theorem d142_67 : decode prog_12_method_18_code 67 = .ok (.bipush 42, 2) := by decide +kernel
theorem d142_69 : decode prog_12_method_18_code 69 = .ok (.bipush 8, 2) := by decide +kernel
theorem d142_71 : decode prog_12_method_18_code 71 = .ok (.aload_n 0, 1) := by decide +kernel
theorem d142_72 : decode prog_12_method_18_code 72 = .ok (.getfield 7, 3) := by decide +kernel
theorem d142_75 : decode prog_12_method_18_code 75 = .ok (.iconst 0, 1) := by decide +kernel
theorem d142_76 : decode prog_12_method_18_code 76 = .ok (.iaload, 1) := by decide +kernel
theorem d142_77 : decode prog_12_method_18_code 77 = .ok (.imul, 1) := by decide +kernel
theorem d142_78 : decode prog_12_method_18_code 78 = .ok (.iadd, 1) := by decide +kernel
theorem d142_79 : decode prog_12_method_18_code 79 = .ok (.iload_n 2, 1) := by decide +kernel
theorem d142_80 : decode prog_12_method_18_code 80 = .ok (.iadd, 1) := by decide +kernel
theorem d142_81 : decode prog_12_method_18_code 81 = .ok (.iconst 0, 1) := by decide +kernel
theorem d142_82 : decode prog_12_method_18_code 82 = .ok (.iastore, 1) := by decide +kernel
theorem d142_83 : decode prog_12_method_18_code 83 = .ok (.iinc 2 1, 3) := by decide +kernel
theorem d142_86 : decode prog_12_method_18_code 86 = .ok (.goto (-29), 3) := by decide +kernel
theorem d142_89 : decode prog_12_method_18_code 89 = .ok (.aload_n 0, 1) := by decide +kernel
theorem d142_90 : decode prog_12_method_18_code 90 = .ok (.getfield 7, 3) := by decide +kernel
theorem d142_93 : decode prog_12_method_18_code 93 = .ok (.iconst 0, 1) := by decide +kernel
theorem d142_94 : decode prog_12_method_18_code 94 = .ok (.iaload, 1) := by decide +kernel
theorem d142_95 : decode prog_12_method_18_code 95 = .ok (.ireturn, 1) := by decide +kernel
theorem d143_0 : decode prog_12_method_23_code 0 = .ok (.aload_n 0, 1) := by decide +kernel
theorem d143_1 : decode prog_12_method_23_code 1 = .ok (.invokevirtual 100, 3) := by decide +kernel
theorem d143_4 : decode prog_12_method_23_code 4 = .ok (.aload_n 0, 1) := by decide +kernel
theorem d143_5 : decode prog_12_method_23_code 5 = .ok (.iload_n 1, 1) := by decide +kernel
theorem d143_6 : decode prog_12_method_23_code 6 = .ok (.iload_n 2, 1) := by decide +kernel
theorem d143_7 : decode prog_12_method_23_code 7 = .ok (.invokevirtual 129, 3) := by decide +kernel
theorem d143_10 : decode prog_12_method_23_code 10 = .ok (.istore_n 3, 1) := by decide +kernel
theorem d143_11 : decode prog_12_method_23_code 11 = .ok (.iload_n 3, 1) := by decide +kernel
theorem d143_12 : decode prog_12_method_23_code 12 = .ok (.ifCond .le 11, 3) := by decide +kernel
theorem d143_15 : decode prog_12_method_23_code 15 = .ok (.aload_n 0, 1) := by decide +kernel
theorem d143_16 : decode prog_12_method_23_code 16 = .ok (.iload_n 3, 1) := by decide +kernel
theorem d143_17 : decode prog_12_method_23_code 17 = .ok (.invokevirtual 107, 3) := by decide +kernel
theorem d143_20 : decode prog_12_method_23_code 20 = .ok (.goto 13, 3) := by decide +kernel
theorem d143_23 : decode prog_12_method_23_code 23 = .ok (.aload_n 0, 1) := by decide +kernel
theorem d143_24 : decode prog_12_method_23_code 24 = .ok (.aload_n 0, 1) := by decide +kernel
theorem d143_25 : decode prog_12_method_23_code 25 = .ok (.iload_n 1, 1) := by decide +kernel
theorem d143_26 : decode prog_12_method_23_code 26 = .ok (.iload_n 2, 1) := by decide +kernel
theorem d143_27 : decode prog_12_method_23_code 27 = .ok (.invokevirtual 132, 3) := by decide +kernel
theorem d143_30 : decode prog_12_method_23_code 30 = .ok (.invokevirtual 114, 3) := by decide +kernel
theorem d143_33 : decode prog_12_method_23_code 33 = .ok (.ireturn, 1) := by decide +kernel
theorem d144_0 : decode prog_12_method_21_code 0 = .ok (.aload_n 0, 1) := by decide +kernel
theorem d144_1 : decode prog_12_method_21_code 1 = .ok (.iload_n 1, 1) := by decide +kernel
theorem d144_2 : decode prog_12_method_21_code 2 = .ok (.invokevirtual 117, 3) := by decide +kernel
theorem d144_5 : decode prog_12_method_21_code 5 = .ok (.ifCond .ge 5, 3) := by decide +kernel
theorem d144_8 : decode prog_12_method_21_code 8 = .ok (.iconst 1, 1) := by decide +kernel
theorem d144_9 : decode prog_12_method_21_code 9 = .ok (.ireturn, 1) := by decide +kernel
theorem d144_10 : decode prog_12_method_21_code 10 = .ok (.iload_n 2, 1) := by decide +kernel
theorem d144_11 : decode prog_12_method_21_code 11 = .ok (.invokestatic 123, 3) := by decide +kernel
theorem d144_14 : decode prog_12_method_21_code 14 = .ok (.ifCond .ne 5, 3) := by decide +kernel
theorem d144_17 : decode prog_12_method_21_code 17 = .ok (.iconst 2, 1) := by decide +kernel
theorem d144_18 : decode prog_12_method_21_code 18 = .ok (.ireturn, 1) := by decide +kernel
theorem d144_19 : decode prog_12_method_21_code 19 = .ok (.aload_n 0, 1) := by decide +kernel
theorem d144_20 : decode prog_12_method_21_code 20 = .ok (.aload_n 0, 1) := by decide +kernel
theorem d144_21 : decode prog_12_method_21_code 21 = .ok (.iload_n 1, 1) := by decide +kernel
theorem d144_22 : decode prog_12_method_21_code 22 = .ok (.invokevirtual 117, 3) := by decide +kernel
theorem d144_25 : decode prog_12_method_21_code 25 = .ok (.bipush 7, 2) := by decide +kernel
theorem d144_27 : decode prog_12_method_21_code 27 = .ok (.invokevirtual 85, 3) := by decide +kernel
theorem d144_30 : decode prog_12_method_21_code 30 = .ok (.iload_n 2, 1) := by decide +kernel
theorem d144_31 : decode prog_12_method_21_code 31 = .ok (.iconst 1, 1) := by decide +kernel
theorem d144_32 : decode prog_12_method_21_code 32 = .ok (.iadd, 1) := by decide +kernel
theorem d144_33 : decode prog_12_method_21_code 33 = .ok (.if_icmp .eq 13, 3) := by decide +kernel
theorem d144_36 : decode prog_12_method_21_code 36 = .ok (.aload_n 0, 1) := by decide +kernel
theorem d144_37 : decode prog_12_method_21_code 37 = .ok (.iload_n 2, 1) := by decide +kernel
theorem d144_38 : decode prog_12_method_21_code 38 = .ok (.invokevirtual 126, 3) := by decide +kernel
theorem d144_41 : decode prog_12_method_21_code 41 = .ok (.bipush 6, 2) := by decide +kernel
theorem d144_43 : decode prog_12_method_21_code 43 = .ok (.if_icmp .ne 7, 3) := by decide +kernel
theorem d144_46 : decode prog_12_method_21_code 46 = .ok (.iconst 3, 1) := by decide +kernel
theorem d144_47 : decode prog_12_method_21_code 47 = .ok (.goto 4, 3) := by decide +kernel
theorem d144_50 : decode prog_12_method_21_code 50 = .ok (.iconst 0, 1) := by decide +kernel
theorem d144_51 : decode prog_12_method_21_code 51 = .ok (.ireturn, 1) := by decide +kernel
theorem d145_0 : decode prog_12_method_12_code 0 = .ok (.iload_n 0, 1) := by decide +kernel
theorem d145_1 : decode prog_12_method_12_code 1 = .ok (.iconst 0, 1) := by decide +kernel
theorem d145_2 : decode prog_12_method_12_code 2 = .ok (.iconst 2, 1) := by decide +kernel
theorem d145_3 : decode prog_12_method_12_code 3 = .ok (.invokestatic 89, 3) := by decide +kernel
theorem d145_6 : decode prog_12_method_12_code 6 = .ok (.ireturn, 1) := by decide +kernel
theorem d146_0 : decode prog_12_method_20_code 0 = .ok (.iconst 0, 1) := by decide +kernel
theorem d146_1 : decode prog_12_method_20_code 1 = .ok (.istore_n 2, 1) := by decide +kernel
theorem d146_2 : decode prog_12_method_20_code 2 = .ok (.iconst 0, 1) := by decide +kernel
theorem d146_3 : decode prog_12_method_20_code 3 = .ok (.istore_n 3, 1) := by decide +kernel
theorem d146_4 : decode prog_12_method_20_code 4 = .ok (.iload_n 3, 1) := by decide +kernel
theorem d146_5 : decode prog_12_method_20_code 5 = .ok (.aload_n 0, 1) := by decide +kernel
theorem d146_6 : decode prog_12_method_20_code 6 = .ok (.getfield 7, 3) := by decide +kernel
theorem d146_9 : decode prog_12_method_20_code 9 = .ok (.iconst 0, 1) := by decide +kernel
theorem d146_10 : decode prog_12_method_20_code 10 = .ok (.iaload, 1) := by decide +kernel
theorem d146_11 : decode prog_12_method_20_code 11 = .ok (.if_icmp .ge 30, 3) := by decide +kernel
theorem d146_14 : decode prog_12_method_20_code 14 = .ok (.iload_n 2, 1) := by decide +kernel
theorem d146_15 : decode prog_12_method_20_code 15 = .ok (.aload_n 0, 1) := by decide +kernel
theorem d146_16 : decode prog_12_method_20_code 16 = .ok (.iload_n 3, 1) := by decide +kernel
theorem d146_17 : decode prog_12_method_20_code 17 = .ok (.bipush 7, 2) := by decide +kernel
theorem d146_19 : decode prog_12_method_20_code 19 = .ok (.invokevirtual 85, 3) := by decide +kernel
theorem d146_22 : decode prog_12_method_20_code 22 = .ok (.iload_n 1, 1) := by decide +kernel
theorem d146_23 : decode prog_12_method_20_code 23 = .ok (.iconst 1, 1) := by decide +kernel
theorem d146_24 : decode prog_12_method_20_code 24 = .ok (.iadd, 1) := by decide +kernel
theorem d146_25 : decode prog_12_method_20_code 25 = .ok (.if_icmp .ne 7, 3) := by decide +kernel
theorem d146_28 : decode prog_12_method_20_code 28 = .ok (.iconst 1, 1) := by decide +kernel
theorem d146_29 : decode prog_12_method_20_code 29 = .ok (.goto 4, 3) := by decide +kernel
theorem d146_32 : decode prog_12_method_20_code 32 = .ok (.iconst 0, 1) := by decide +kernel
theorem d146_33 : decode prog_12_method_20_code 33 = .ok (.iadd, 1) := by decide +kernel
theorem d146_34 : decode prog_12_method_20_code 34 = .ok (.istore_n 2, 1) := by decide +kernel
theorem d146_35 : decode prog_12_method_20_code 35 = .ok (.iinc 3 1, 3) := by decide +kernel
theorem d146_38 : decode prog_12_method_20_code 38 = .ok (.goto (-34), 3) := by decide +kernel
theorem d146_41 : decode prog_12_method_20_code 41 = .ok (.iload_n 2, 1) := by decide +kernel
theorem d146_42 : decode prog_12_method_20_code 42 = .ok (.ireturn, 1) := by decide +kernel
theorem d147_0 : decode prog_12_method_22_code 0 = .ok (.aload_n 0, 1) := by decide +kernel
theorem d147_1 : decode prog_12_method_22_code 1 = .ok (.getfield 7, 3) := by decide +kernel
theorem d147_4 : decode prog_12_method_22_code 4 = .ok (.bipush 42, 2) := by decide +kernel
theorem d147_6 : decode prog_12_method_22_code 6 = .ok (.bipush 8, 2) := by decide +kernel
theorem d147_8 : decode prog_12_method_22_code 8 = .ok (.aload_n 0, 1) := by decide +kernel
theorem d147_9 : decode prog_12_method_22_code 9 = .ok (.iload_n 1, 1) := by decide +kernel
theorem d147_10 : decode prog_12_method_22_code 10 = .ok (.invokevirtual 117, 3) := by decide +kernel
theorem d147_13 : decode prog_12_method_22_code 13 = .ok (.imul, 1) := by decide +kernel
theorem d147_14 : decode prog_12_method_22_code 14 = .ok (.iadd, 1) := by decide +kernel
theorem d147_15 : decode prog_12_method_22_code 15 = .ok (.bipush 7, 2) := by decide +kernel
theorem d147_17 : decode prog_12_method_22_code 17 = .ok (.iadd, 1) := by decide +kernel
theorem d147_18 : decode prog_12_method_22_code 18 = .ok (.iload_n 2, 1) := by decide +kernel
theorem d147_19 : decode prog_12_method_22_code 19 = .ok (.iconst 1, 1) := by decide +kernel
theorem d147_20 : decode prog_12_method_22_code 20 = .ok (.iadd, 1) := by decide +kernel
theorem d147_21 : decode prog_12_method_22_code 21 = .ok (.iastore, 1) := by decide +kernel
theorem d147_22 : decode prog_12_method_22_code 22 = .ok (.aload_n 0, 1) := by decide +kernel
theorem d147_23 : decode prog_12_method_22_code 23 = .ok (.iload_n 2, 1) := by decide +kernel
theorem d147_24 : decode prog_12_method_22_code 24 = .ok (.invokevirtual 126, 3) := by decide +kernel
theorem d147_27 : decode prog_12_method_22_code 27 = .ok (.ireturn, 1) := by decide +kernel
theorem d148_0 : decode prog_12_method_26_code 0 = .ok (.aload_n 0, 1) := by decide +kernel
theorem d148_1 : decode prog_12_method_26_code 1 = .ok (.invokevirtual 100, 3) := by decide +kernel
theorem d148_4 : decode prog_12_method_26_code 4 = .ok (.aload_n 0, 1) := by decide +kernel
theorem d148_5 : decode prog_12_method_26_code 5 = .ok (.iload_n 1, 1) := by decide +kernel
theorem d148_6 : decode prog_12_method_26_code 6 = .ok (.invokevirtual 135, 3) := by decide +kernel
theorem d148_9 : decode prog_12_method_26_code 9 = .ok (.istore_n 2, 1) := by decide +kernel
theorem d148_10 : decode prog_12_method_26_code 10 = .ok (.iload_n 2, 1) := by decide +kernel
theorem d148_11 : decode prog_12_method_26_code 11 = .ok (.ifCond .le 11, 3) := by decide +kernel
theorem d148_14 : decode prog_12_method_26_code 14 = .ok (.aload_n 0, 1) := by decide +kernel
theorem d148_15 : decode prog_12_method_26_code 15 = .ok (.iload_n 2, 1) := by decide +kernel
theorem d148_16 : decode prog_12_method_26_code 16 = .ok (.invokevirtual 107, 3) := by decide +kernel
theorem d148_19 : decode prog_12_method_26_code 19 = .ok (.goto 12, 3) := by decide +kernel
theorem d148_22 : decode prog_12_method_26_code 22 = .ok (.aload_n 0, 1) := by decide +kernel
theorem d148_23 : decode prog_12_method_26_code 23 = .ok (.aload_n 0, 1) := by decide +kernel
theorem d148_24 : decode prog_12_method_26_code 24 = .ok (.iload_n 1, 1) := by decide +kernel
theorem d148_25 : decode prog_12_method_26_code 25 = .ok (.invokevirtual 138, 3) := by decide +kernel
theorem d148_28 : decode prog_12_method_26_code 28 = .ok (.invokevirtual 114, 3) := by decide +kernel
theorem d148_31 : decode prog_12_method_26_code 31 = .ok (.ireturn, 1) := by decide +kernel
theorem d149_0 : decode prog_12_method_24_code 0 = .ok (.aload_n 0, 1) := by decide +kernel
theorem d149_1 : decode prog_12_method_24_code 1 = .ok (.iload_n 1, 1) := by decide +kernel
theorem d149_2 : decode prog_12_method_24_code 2 = .ok (.invokevirtual 117, 3) := by decide +kernel
theorem d149_5 : decode prog_12_method_24_code 5 = .ok (.ifCond .ge 7, 3) := by decide +kernel
theorem d149_8 : decode prog_12_method_24_code 8 = .ok (.iconst 1, 1) := by decide +kernel
theorem d149_9 : decode prog_12_method_24_code 9 = .ok (.goto 22, 3) := by decide +kernel
theorem d149_12 : decode prog_12_method_24_code 12 = .ok (.aload_n 0, 1) := by decide +kernel
theorem d149_13 : decode prog_12_method_24_code 13 = .ok (.aload_n 0, 1) := by decide +kernel
theorem d149_14 : decode prog_12_method_24_code 14 = .ok (.iload_n 1, 1) := by decide +kernel
theorem d149_15 : decode prog_12_method_24_code 15 = .ok (.invokevirtual 117, 3) := by decide +kernel
theorem d149_18 : decode prog_12_method_24_code 18 = .ok (.bipush 7, 2) := by decide +kernel
theorem d149_20 : decode prog_12_method_24_code 20 = .ok (.invokevirtual 85, 3) := by decide +kernel
theorem d149_23 : decode prog_12_method_24_code 23 = .ok (.ifCond .ne 7, 3) := by decide +kernel
theorem d149_26 : decode prog_12_method_24_code 26 = .ok (.iconst 2, 1) := by decide +kernel
theorem d149_27 : decode prog_12_method_24_code 27 = .ok (.goto 4, 3) := by decide +kernel
theorem d149_30 : decode prog_12_method_24_code 30 = .ok (.iconst 0, 1) := by decide +kernel
theorem d149_31 : decode prog_12_method_24_code 31 = .ok (.ireturn, 1) := by decide +kernel
theorem d150_0 : decode prog_12_method_25_code 0 = .ok (.aload_n 0, 1) := by decide +kernel
theorem d150_1 : decode prog_12_method_25_code 1 = .ok (.aload_n 0, 1) := by decide +kernel
theorem d150_2 : decode prog_12_method_25_code 2 = .ok (.iload_n 1, 1) := by decide +kernel
theorem d150_3 : decode prog_12_method_25_code 3 = .ok (.invokevirtual 117, 3) := by decide +kernel
theorem d150_6 : decode prog_12_method_25_code 6 = .ok (.bipush 7, 2) := by decide +kernel
theorem d150_8 : decode prog_12_method_25_code 8 = .ok (.invokevirtual 85, 3) := by decide +kernel
theorem d150_11 : decode prog_12_method_25_code 11 = .ok (.iconst 1, 1) := by decide +kernel
theorem d150_12 : decode prog_12_method_25_code 12 = .ok (.isub, 1) := by decide +kernel
theorem d150_13 : decode prog_12_method_25_code 13 = .ok (.istore_n 2, 1) := by decide +kernel
theorem d150_14 : decode prog_12_method_25_code 14 = .ok (.aload_n 0, 1) := by decide +kernel
theorem d150_15 : decode prog_12_method_25_code 15 = .ok (.getfield 7, 3) := by decide +kernel
theorem d150_18 : decode prog_12_method_25_code 18 = .ok (.bipush 42, 2) := by decide +kernel
theorem d150_20 : decode prog_12_method_25_code 20 = .ok (.bipush 8, 2) := by decide +kernel
theorem d150_22 : decode prog_12_method_25_code 22 = .ok (.aload_n 0, 1) := by decide +kernel
theorem d150_23 : decode prog_12_method_25_code 23 = .ok (.iload_n 1, 1) := by decide +kernel
theorem d150_24 : decode prog_12_method_25_code 24 = .ok (.invokevirtual 117, 3) := by decide +kernel
theorem d150_27 : decode prog_12_method_25_code 27 = .ok (.imul, 1) := by decide +kernel
theorem d150_28 : decode prog_12_method_25_code 28 = .ok (.iadd, 1) := by decide +kernel
theorem d150_29 : decode prog_12_method_25_code 29 = .ok (.bipush 7, 2) := by decide +kernel
theorem d150_31 : decode prog_12_method_25_code 31 = .ok (.iadd, 1) := by decide +kernel
theorem d150_32 : decode prog_12_method_25_code 32 = .ok (.iconst 0, 1) := by decide +kernel
theorem d150_33 : decode prog_12_method_25_code 33 = .ok (.iastore, 1) := by decide +kernel
theorem d150_34 : decode prog_12_method_25_code 34 = .ok (.iload_n 2, 1) := by decide +kernel
theorem d150_35 : decode prog_12_method_25_code 35 = .ok (.ireturn, 1) := by decide +kernel
theorem d151_0 : decode prog_12_method_29_code 0 = .ok (.aload_n 0, 1) := by decide +kernel
theorem d151_1 : decode prog_12_method_29_code 1 = .ok (.invokevirtual 100, 3) := by decide +kernel
theorem d151_4 : decode prog_12_method_29_code 4 = .ok (.aload_n 0, 1) := by decide +kernel
theorem d151_5 : decode prog_12_method_29_code 5 = .ok (.iload_n 1, 1) := by decide +kernel
theorem d151_6 : decode prog_12_method_29_code 6 = .ok (.iload_n 2, 1) := by decide +kernel
theorem d151_7 : decode prog_12_method_29_code 7 = .ok (.invokevirtual 141, 3) := by decide +kernel
theorem d151_10 : decode prog_12_method_29_code 10 = .ok (.istore_n 3, 1) := by decide +kernel
theorem d151_11 : decode prog_12_method_29_code 11 = .ok (.iload_n 3, 1) := by decide +kernel
theorem d151_12 : decode prog_12_method_29_code 12 = .ok (.ifCond .le 11, 3) := by decide +kernel
theorem d151_15 : decode prog_12_method_29_code 15 = .ok (.aload_n 0, 1) := by decide +kernel
theorem d151_16 : decode prog_12_method_29_code 16 = .ok (.iload_n 3, 1) := by decide +kernel
theorem d151_17 : decode prog_12_method_29_code 17 = .ok (.invokevirtual 107, 3) := by decide +kernel
theorem d151_20 : decode prog_12_method_29_code 20 = .ok (.goto 13, 3) := by decide +kernel
theorem d151_23 : decode prog_12_method_29_code 23 = .ok (.aload_n 0, 1) := by decide +kernel
theorem d151_24 : decode prog_12_method_29_code 24 = .ok (.aload_n 0, 1) := by decide +kernel
theorem d151_25 : decode prog_12_method_29_code 25 = .ok (.iload_n 1, 1) := by decide +kernel
theorem d151_26 : decode prog_12_method_29_code 26 = .ok (.iload_n 2, 1) := by decide +kernel
theorem d151_27 : decode prog_12_method_29_code 27 = .ok (.invokevirtual 144, 3) := by decide +kernel
theorem d151_30 : decode prog_12_method_29_code 30 = .ok (.invokevirtual 114, 3) := by decide +kernel
theorem d151_33 : decode prog_12_method_29_code 33 = .ok (.ireturn, 1) := by decide +kernel
theorem d152_0 : decode prog_12_method_27_code 0 = .ok (.iload_n 1, 1) := by decide +kernel
theorem d152_1 : decode prog_12_method_27_code 1 = .ok (.invokestatic 93, 3) := by decide +kernel
theorem d152_4 : decode prog_12_method_27_code 4 = .ok (.ifCond .eq 13, 3) := by decide +kernel
theorem d152_7 : decode prog_12_method_27_code 7 = .ok (.iload_n 2, 1) := by decide +kernel
theorem d152_8 : decode prog_12_method_27_code 8 = .ok (.iconst 1, 1) := by decide +kernel
theorem d152_9 : decode prog_12_method_27_code 9 = .ok (.bipush 99, 2) := by decide +kernel
theorem d152_11 : decode prog_12_method_27_code 11 = .ok (.invokestatic 89, 3) := by decide +kernel
theorem d152_14 : decode prog_12_method_27_code 14 = .ok (.ifCond .ne 7, 3) := by decide +kernel
theorem d152_17 : decode prog_12_method_27_code 17 = .ok (.iconst 1, 1) := by decide +kernel
theorem d152_18 : decode prog_12_method_27_code 18 = .ok (.goto 27, 3) := by decide +kernel
theorem d152_21 : decode prog_12_method_27_code 21 = .ok (.aload_n 0, 1) := by decide +kernel
theorem d152_22 : decode prog_12_method_27_code 22 = .ok (.getfield 7, 3) := by decide +kernel
theorem d152_25 : decode prog_12_method_27_code 25 = .ok (.bipush 8, 2) := by decide +kernel
theorem d152_27 : decode prog_12_method_27_code 27 = .ok (.iload_n 1, 1) := by decide +kernel
theorem d152_28 : decode prog_12_method_27_code 28 = .ok (.iadd, 1) := by decide +kernel
theorem d152_29 : decode prog_12_method_27_code 29 = .ok (.bipush 97, 2) := by decide +kernel
theorem d152_31 : decode prog_12_method_27_code 31 = .ok (.isub, 1) := by decide +kernel
theorem d152_32 : decode prog_12_method_27_code 32 = .ok (.iaload, 1) := by decide +kernel
theorem d152_33 : decode prog_12_method_27_code 33 = .ok (.iload_n 2, 1) := by decide +kernel
theorem d152_34 : decode prog_12_method_27_code 34 = .ok (.iadd, 1) := by decide +kernel
theorem d152_35 : decode prog_12_method_27_code 35 = .ok (.bipush 99, 2) := by decide +kernel
theorem d152_37 : decode prog_12_method_27_code 37 = .ok (.if_icmp .le 7, 3) := by decide +kernel
theorem d152_40 : decode prog_12_method_27_code 40 = .ok (.iconst 2, 1) := by decide +kernel
theorem d152_41 : decode prog_12_method_27_code 41 = .ok (.goto 4, 3) := by decide +kernel
theorem d152_44 : decode prog_12_method_27_code 44 = .ok (.iconst 0, 1) := by decide +kernel
theorem d152_45 : decode prog_12_method_27_code 45 = .ok (.ireturn, 1) := by decide +kernel
theorem d153_0 : decode prog_12_method_28_code 0 = .ok (.aload_n 0, 1) := by decide +kernel
theorem d153_1 : decode prog_12_method_28_code 1 = .ok (.getfield 7, 3) := by decide +kernel
theorem d153_4 : decode prog_12_method_28_code 4 = .ok (.bipush 8, 2) := by decide +kernel
theorem d153_6 : decode prog_12_method_28_code 6 = .ok (.iload_n 1, 1) := by decide +kernel
theorem d153_7 : decode prog_12_method_28_code 7 = .ok (.iadd, 1) := by decide +kernel
theorem d153_8 : decode prog_12_method_28_code 8 = .ok (.bipush 97, 2) := by decide +kernel
theorem d153_10 : decode prog_12_method_28_code 10 = .ok (.isub, 1) := by decide +kernel
theorem d153_11 : decode prog_12_method_28_code 11 = .ok (.dup2, 1) := by decide +kernel
theorem d153_12 : decode prog_12_method_28_code 12 = .ok (.iaload, 1) := by decide +kernel
theorem d153_13 : decode prog_12_method_28_code 13 = .ok (.iload_n 2, 1) := by decide +kernel
theorem d153_14 : decode prog_12_method_28_code 14 = .ok (.iadd, 1) := by decide +kernel
theorem d153_15 : decode prog_12_method_28_code 15 = .ok (.iastore, 1) := by decide +kernel
theorem d153_16 : decode prog_12_method_28_code 16 = .ok (.aload_n 0, 1) := by decide +kernel
theorem d153_17 : decode prog_12_method_28_code 17 = .ok (.getfield 7, 3) := by decide +kernel
theorem d153_20 : decode prog_12_method_28_code 20 = .ok (.bipush 8, 2) := by decide +kernel
theorem d153_22 : decode prog_12_method_28_code 22 = .ok (.iload_n 1, 1) := by decide +kernel
theorem d153_23 : decode prog_12_method_28_code 23 = .ok (.iadd, 1) := by decide +kernel
theorem d153_24 : decode prog_12_method_28_code 24 = .ok (.bipush 97, 2) := by decide +kernel
theorem d153_26 : decode prog_12_method_28_code 26 = .ok (.isub, 1) := by decide +kernel
theorem d153_27 : decode prog_12_method_28_code 27 = .ok (.iaload, 1) := by decide +kernel
theorem d153_28 : decode prog_12_method_28_code 28 = .ok (.ireturn, 1) := by decide +kernel
theorem d154_0 : decode prog_12_method_34_code 0 = .ok (.aload_n 0, 1) := by decide +kernel
theorem d154_1 : decode prog_12_method_34_code 1 = .ok (.invokevirtual 100, 3) := by decide +kernel
theorem d154_4 : decode prog_12_method_34_code 4 = .ok (.aload_n 0, 1) := by decide +kernel
theorem d154_5 : decode prog_12_method_34_code 5 = .ok (.iload_n 1, 1) := by decide +kernel
theorem d154_6 : decode prog_12_method_34_code 6 = .ok (.iload_n 2, 1) := by decide +kernel
theorem d154_7 : decode prog_12_method_34_code 7 = .ok (.iload_n 3, 1) := by decide +kernel
theorem d154_8 : decode prog_12_method_34_code 8 = .ok (.invokevirtual 160, 3) := by decide +kernel
theorem d154_11 : decode prog_12_method_34_code 11 = .ok (.istore 4, 2) := by decide +kernel
theorem d154_13 : decode prog_12_method_34_code 13 = .ok (.iload 4, 2) := by decide +kernel
theorem d154_15 : decode prog_12_method_34_code 15 = .ok (.ifCond .le 12, 3) := by decide +kernel
theorem d154_18 : decode prog_12_method_34_code 18 = .ok (.aload_n 0, 1) := by decide +kernel
theorem d154_19 : decode prog_12_method_34_code 19 = .ok (.iload 4, 2) := by decide +kernel
theorem d154_21 : decode prog_12_method_34_code 21 = .ok (.invokevirtual 107, 3) := by decide +kernel
theorem d154_24 : decode prog_12_method_34_code 24 = .ok (.goto 14, 3) := by decide +kernel
theorem d154_27 : decode prog_12_method_34_code 27 = .ok (.aload_n 0, 1) := by decide +kernel
theorem d154_28 : decode prog_12_method_34_code 28 = .ok (.aload_n 0, 1) := by decide +kernel
theorem d154_29 : decode prog_12_method_34_code 29 = .ok (.iload_n 1, 1) := by decide +kernel
theorem d154_30 : decode prog_12_method_34_code 30 = .ok (.iload_n 2, 1) := by decide +kernel
theorem d154_31 : decode prog_12_method_34_code 31 = .ok (.iload_n 3, 1) := by decide +kernel
theorem d154_32 : decode prog_12_method_34_code 32 = .ok (.invokevirtual 164, 3) := by decide +kernel
theorem d154_35 : decode prog_12_method_34_code 35 = .ok (.invokevirtual 114, 3) := by decide +kernel
theorem d154_38 : decode prog_12_method_34_code 38 = .ok (.ireturn, 1) := by decide +kernel
theorem d155_0 : decode prog_12_method_32_code 0 = .ok (.iload_n 1, 1) := by decide +kernel
theorem d155_1 : decode prog_12_method_32_code 1 = .ok (.invokestatic 123, 3) := by decide +kernel
theorem d155_4 : decode prog_12_method_32_code 4 = .ok (.ifCond .ne 5, 3) := by decide +kernel
theorem d155_7 : decode prog_12_method_32_code 7 = .ok (.iconst 1, 1) := by decide +kernel
theorem d155_8 : decode prog_12_method_32_code 8 = .ok (.ireturn, 1) := by decide +kernel
theorem d155_9 : decode prog_12_method_32_code 9 = .ok (.iload_n 2, 1) := by decide +kernel
theorem d155_10 : decode prog_12_method_32_code 10 = .ok (.invokestatic 93, 3) := by decide +kernel
theorem d155_13 : decode prog_12_method_32_code 13 = .ok (.ifCond .eq 13, 3) := by decide +kernel
theorem d155_16 : decode prog_12_method_32_code 16 = .ok (.iload_n 3, 1) := by decide +kernel
theorem d155_17 : decode prog_12_method_32_code 17 = .ok (.iconst 1, 1) := by decide +kernel
theorem d155_18 : decode prog_12_method_32_code 18 = .ok (.bipush 10, 2) := by decide +kernel
theorem d155_20 : decode prog_12_method_32_code 20 = .ok (.invokestatic 89, 3) := by decide +kernel
theorem d155_23 : decode prog_12_method_32_code 23 = .ok (.ifCond .ne 5, 3) := by decide +kernel
theorem d155_26 : decode prog_12_method_32_code 26 = .ok (.iconst 2, 1) := by decide +kernel
theorem d155_27 : decode prog_12_method_32_code 27 = .ok (.ireturn, 1) := by decide +kernel
theorem d155_28 : decode prog_12_method_32_code 28 = .ok (.aload_n 0, 1) := by decide +kernel
theorem d155_29 : decode prog_12_method_32_code 29 = .ok (.iload_n 1, 1) := by decide +kernel
theorem d155_30 : decode prog_12_method_32_code 30 = .ok (.invokevirtual 150, 3) := by decide +kernel
theorem d155_33 : decode prog_12_method_32_code 33 = .ok (.ifCond .eq 15, 3) := by decide +kernel
theorem d155_36 : decode prog_12_method_32_code 36 = .ok (.aload_n 0, 1) := by decide +kernel
theorem d155_37 : decode prog_12_method_32_code 37 = .ok (.iload_n 1, 1) := by decide +kernel
theorem d155_38 : decode prog_12_method_32_code 38 = .ok (.invokevirtual 153, 3) := by decide +kernel
theorem d155_41 : decode prog_12_method_32_code 41 = .ok (.iload_n 3, 1) := by decide +kernel
theorem d155_42 : decode prog_12_method_32_code 42 = .ok (.iadd, 1) := by decide +kernel
theorem d155_43 : decode prog_12_method_32_code 43 = .ok (.bipush 10, 2) := by decide +kernel
theorem d155_45 : decode prog_12_method_32_code 45 = .ok (.if_icmp .le 5, 3) := by decide +kernel
theorem d155_48 : decode prog_12_method_32_code 48 = .ok (.iconst 3, 1) := by decide +kernel
theorem d155_49 : decode prog_12_method_32_code 49 = .ok (.ireturn, 1) := by decide +kernel
theorem d155_50 : decode prog_12_method_32_code 50 = .ok (.aload_n 0, 1) := by decide +kernel
theorem d155_51 : decode prog_12_method_32_code 51 = .ok (.getfield 7, 3) := by decide +kernel
theorem d155_54 : decode prog_12_method_32_code 54 = .ok (.bipush 8, 2) := by decide +kernel
theorem d155_56 : decode prog_12_method_32_code 56 = .ok (.iload_n 2, 1) := by decide +kernel
theorem d155_57 : decode prog_12_method_32_code 57 = .ok (.iadd, 1) := by decide +kernel
theorem d155_58 : decode prog_12_method_32_code 58 = .ok (.bipush 97, 2) := by decide +kernel
theorem d155_60 : decode prog_12_method_32_code 60 = .ok (.isub, 1) := by decide +kernel
theorem d155_61 : decode prog_12_method_32_code 61 = .ok (.iaload, 1) := by decide +kernel
theorem d155_62 : decode prog_12_method_32_code 62 = .ok (.iload_n 3, 1) := by decide +kernel
theorem d155_63 : decode prog_12_method_32_code 63 = .ok (.if_icmp .ge 7, 3) := by decide +kernel
theorem d155_66 : decode prog_12_method_32_code 66 = .ok (.iconst 4, 1) := by decide +kernel
theorem d155_67 : decode prog_12_method_32_code 67 = .ok (.goto 4, 3) := by decide +kernel
theorem d155_70 : decode prog_12_method_32_code 70 = .ok (.iconst 0, 1) := by decide +kernel
theorem d155_71 : decode prog_12_method_32_code 71 = .ok (.ireturn, 1) := by decide +kernel
theorem d156_0 : decode prog_12_method_30_code 0 = .ok (.aload_n 0, 1) := by decide +kernel
theorem d156_1 : decode prog_12_method_30_code 1 = .ok (.iload_n 1, 1) := by decide +kernel
theorem d156_2 : decode prog_12_method_30_code 2 = .ok (.iconst 0, 1) := by decide +kernel
theorem d156_3 : decode prog_12_method_30_code 3 = .ok (.invokevirtual 147, 3) := by decide +kernel
theorem d156_6 : decode prog_12_method_30_code 6 = .ok (.ifCond .ne 16, 3) := by decide +kernel
theorem d156_9 : decode prog_12_method_30_code 9 = .ok (.aload_n 0, 1) := by decide +kernel
theorem d156_10 : decode prog_12_method_30_code 10 = .ok (.iload_n 1, 1) := by decide +kernel
theorem d156_11 : decode prog_12_method_30_code 11 = .ok (.iconst 1, 1) := by decide +kernel
theorem d156_12 : decode prog_12_method_30_code 12 = .ok (.invokevirtual 147, 3) := by decide +kernel
theorem d156_15 : decode prog_12_method_30_code 15 = .ok (.ifCond .ne 7, 3) := by decide +kernel
theorem d156_18 : decode prog_12_method_30_code 18 = .ok (.iconst 1, 1) := by decide +kernel
theorem d156_19 : decode prog_12_method_30_code 19 = .ok (.goto 4, 3) := by decide +kernel
theorem d156_22 : decode prog_12_method_30_code 22 = .ok (.iconst 0, 1) := by decide +kernel
theorem d156_23 : decode prog_12_method_30_code 23 = .ok (.ireturn, 1) := by decide +kernel
theorem d157_0 : decode prog_12_method_9_code 0 = .ok (.aload_n 0, 1) := by decide +kernel
theorem d157_1 : decode prog_12_method_9_code 1 = .ok (.getfield 7, 3) := by decide +kernel
theorem d157_4 : decode prog_12_method_9_code 4 = .ok (.bipush 18, 2) := by decide +kernel
theorem d157_6 : decode prog_12_method_9_code 6 = .ok (.bipush 8, 2) := by decide +kernel
theorem d157_8 : decode prog_12_method_9_code 8 = .ok (.iload_n 1, 1) := by decide +kernel
theorem d157_9 : decode prog_12_method_9_code 9 = .ok (.imul, 1) := by decide +kernel
theorem d157_10 : decode prog_12_method_9_code 10 = .ok (.iadd, 1) := by decide +kernel
theorem d157_11 : decode prog_12_method_9_code 11 = .ok (.iload_n 2, 1) := by decide +kernel
theorem d157_12 : decode prog_12_method_9_code 12 = .ok (.iadd, 1) := by decide +kernel
theorem d157_13 : decode prog_12_method_9_code 13 = .ok (.iaload, 1) := by decide +kernel
theorem d157_14 : decode prog_12_method_9_code 14 = .ok (.ireturn, 1) := by decide +kernel
theorem d158_0 : decode prog_12_method_31_code 0 = .ok (.aload_n 0, 1) := by decide +kernel
theorem d158_1 : decode prog_12_method_31_code 1 = .ok (.iload_n 1, 1) := by decide +kernel
theorem d158_2 : decode prog_12_method_31_code 2 = .ok (.iconst 4, 1) := by decide +kernel
theorem d158_3 : decode prog_12_method_31_code 3 = .ok (.invokevirtual 147, 3) := by decide +kernel
theorem d158_6 : decode prog_12_method_31_code 6 = .ok (.aload_n 0, 1) := by decide +kernel
theorem d158_7 : decode prog_12_method_31_code 7 = .ok (.iload_n 1, 1) := by decide +kernel
theorem d158_8 : decode prog_12_method_31_code 8 = .ok (.iconst 5, 1) := by decide +kernel
theorem d158_9 : decode prog_12_method_31_code 9 = .ok (.invokevirtual 147, 3) := by decide +kernel
theorem d158_12 : decode prog_12_method_31_code 12 = .ok (.iadd, 1) := by decide +kernel
theorem d158_13 : decode prog_12_method_31_code 13 = .ok (.aload_n 0, 1) := by decide +kernel
theorem d158_14 : decode prog_12_method_31_code 14 = .ok (.iload_n 1, 1) := by decide +kernel
theorem d158_15 : decode prog_12_method_31_code 15 = .ok (.bipush 6, 2) := by decide +kernel
theorem d158_17 : decode prog_12_method_31_code 17 = .ok (.invokevirtual 147, 3) := by decide +kernel
theorem d158_20 : decode prog_12_method_31_code 20 = .ok (.iadd, 1) := by decide +kernel
theorem d158_21 : decode prog_12_method_31_code 21 = .ok (.aload_n 0, 1) := by decide +kernel
theorem d158_22 : decode prog_12_method_31_code 22 = .ok (.iload_n 1, 1) := by decide +kernel
theorem d158_23 : decode prog_12_method_31_code 23 = .ok (.bipush 7, 2) := by decide +kernel
theorem d158_25 : decode prog_12_method_31_code 25 = .ok (.invokevirtual 147, 3) := by decide +kernel
theorem d158_28 : decode prog_12_method_31_code 28 = .ok (.iadd, 1) := by decide +kernel
theorem d158_29 : decode prog_12_method_31_code 29 = .ok (.ireturn, 1) := by decide +kernel
theorem d159_0 : decode prog_12_method_33_code 0 = .ok (.aload_n 0, 1) := by decide +kernel
theorem d159_1 : decode prog_12_method_33_code 1 = .ok (.getfield 7, 3) := by decide +kernel
theorem d159_4 : decode prog_12_method_33_code 4 = .ok (.bipush 8, 2) := by decide +kernel
theorem d159_6 : decode prog_12_method_33_code 6 = .ok (.iload_n 2, 1) := by decide +kernel
theorem d159_7 : decode prog_12_method_33_code 7 = .ok (.iadd, 1) := by decide +kernel
theorem d159_8 : decode prog_12_method_33_code 8 = .ok (.bipush 97, 2) := by decide +kernel
theorem d159_10 : decode prog_12_method_33_code 10 = .ok (.isub, 1) := by decide +kernel
theorem d159_11 : decode prog_12_method_33_code 11 = .ok (.dup2, 1) := by decide +kernel
theorem d159_12 : decode prog_12_method_33_code 12 = .ok (.iaload, 1) := by decide +kernel
theorem d159_13 : decode prog_12_method_33_code 13 = .ok (.iload_n 3, 1) := by decide +kernel
theorem d159_14 : decode prog_12_method_33_code 14 = .ok (.isub, 1) := by decide +kernel
theorem d159_15 : decode prog_12_method_33_code 15 = .ok (.iastore, 1) := by decide +kernel
theorem d159_16 : decode prog_12_method_33_code 16 = .ok (.aload_n 0, 1) := by decide +kernel
theorem d159_17 : decode prog_12_method_33_code 17 = .ok (.iload_n 1, 1) := by decide +kernel
theorem d159_18 : decode prog_12_method_33_code 18 = .ok (.iconst 4, 1) := by decide +kernel
theorem d159_19 : decode prog_12_method_33_code 19 = .ok (.iload_n 2, 1) := by decide +kernel
theorem d159_20 : decode prog_12_method_33_code 20 = .ok (.iadd, 1) := by decide +kernel
theorem d159_21 : decode prog_12_method_33_code 21 = .ok (.bipush 97, 2) := by decide +kernel
theorem d159_23 : decode prog_12_method_33_code 23 = .ok (.isub, 1) := by decide +kernel
theorem d159_24 : decode prog_12_method_33_code 24 = .ok (.aload_n 0, 1) := by decide +kernel
theorem d159_25 : decode prog_12_method_33_code 25 = .ok (.iload_n 1, 1) := by decide +kernel
theorem d159_26 : decode prog_12_method_33_code 26 = .ok (.iconst 4, 1) := by decide +kernel
theorem d159_27 : decode prog_12_method_33_code 27 = .ok (.iload_n 2, 1) := by decide +kernel
theorem d159_28 : decode prog_12_method_33_code 28 = .ok (.iadd, 1) := by decide +kernel
theorem d159_29 : decode prog_12_method_33_code 29 = .ok (.bipush 97, 2) := by decide +kernel
theorem d159_31 : decode prog_12_method_33_code 31 = .ok (.isub, 1) := by decide +kernel
theorem d159_32 : decode prog_12_method_33_code 32 = .ok (.invokevirtual 147, 3) := by decide +kernel
theorem d159_35 : decode prog_12_method_33_code 35 = .ok (.iload_n 3, 1) := by decide +kernel
theorem d159_36 : decode prog_12_method_33_code 36 = .ok (.iadd, 1) := by decide +kernel
theorem d159_37 : decode prog_12_method_33_code 37 = .ok (.invokevirtual 156, 3) := by decide +kernel
theorem d159_40 : decode prog_12_method_33_code 40 = .ok (.aload_n 0, 1) := by decide +kernel
theorem d159_41 : decode prog_12_method_33_code 41 = .ok (.iload_n 1, 1) := by decide +kernel
theorem d159_42 : decode prog_12_method_33_code 42 = .ok (.invokevirtual 153, 3) := by decide +kernel
theorem d159_45 : decode prog_12_method_33_code 45 = .ok (.ireturn, 1) := by decide +kernel
theorem d160_0 : decode prog_12_method_10_code 0 = .ok (.aload_n 0, 1) := by decide +kernel
theorem d160_1 : decode prog_12_method_10_code 1 = .ok (.getfield 7, 3) := by decide +kernel
theorem d160_4 : decode prog_12_method_10_code 4 = .ok (.bipush 18, 2) := by decide +kernel
theorem d160_6 : decode prog_12_method_10_code 6 = .ok (.bipush 8, 2) := by decide +kernel
theorem d160_8 : decode prog_12_method_10_code 8 = .ok (.iload_n 1, 1) := by decide +kernel
theorem d160_9 : decode prog_12_method_10_code 9 = .ok (.imul, 1) := by decide +kernel
theorem d160_10 : decode prog_12_method_10_code 10 = .ok (.iadd, 1) := by decide +kernel
theorem d160_11 : decode prog_12_method_10_code 11 = .ok (.iload_n 2, 1) := by decide +kernel
theorem d160_12 : decode prog_12_method_10_code 12 = .ok (.iadd, 1) := by decide +kernel
theorem d160_13 : decode prog_12_method_10_code 13 = .ok (.iload_n 3, 1) := by decide +kernel
theorem d160_14 : decode prog_12_method_10_code 14 = .ok (.iastore, 1) := by decide +kernel
theorem d160_15 : decode prog_12_method_10_code 15 = .ok (.return_, 1) := by decide +kernel
theorem d161_0 : decode prog_12_method_38_code 0 = .ok (.aload_n 0, 1) := by decide +kernel
theorem d161_1 : decode prog_12_method_38_code 1 = .ok (.invokevirtual 100, 3) := by decide +kernel
theorem d161_4 : decode prog_12_method_38_code 4 = .ok (.aload_n 0, 1) := by decide +kernel
theorem d161_5 : decode prog_12_method_38_code 5 = .ok (.iload_n 1, 1) := by decide +kernel
theorem d161_6 : decode prog_12_method_38_code 6 = .ok (.iload_n 2, 1) := by decide +kernel
theorem d161_7 : decode prog_12_method_38_code 7 = .ok (.iconst 0, 1) := by decide +kernel
theorem d161_8 : decode prog_12_method_38_code 8 = .ok (.invokevirtual 170, 3) := by decide +kernel
theorem d161_11 : decode prog_12_method_38_code 11 = .ok (.istore_n 3, 1) := by decide +kernel
theorem d161_12 : decode prog_12_method_38_code 12 = .ok (.iload_n 3, 1) := by decide +kernel
theorem d161_13 : decode prog_12_method_38_code 13 = .ok (.ifCond .le 11, 3) := by decide +kernel
theorem d161_16 : decode prog_12_method_38_code 16 = .ok (.aload_n 0, 1) := by decide +kernel
theorem d161_17 : decode prog_12_method_38_code 17 = .ok (.iload_n 3, 1) := by decide +kernel
theorem d161_18 : decode prog_12_method_38_code 18 = .ok (.invokevirtual 107, 3) := by decide +kernel
theorem d161_21 : decode prog_12_method_38_code 21 = .ok (.goto 16, 3) := by decide +kernel
theorem d161_24 : decode prog_12_method_38_code 24 = .ok (.aload_n 0, 1) := by decide +kernel
theorem d161_25 : decode prog_12_method_38_code 25 = .ok (.aload_n 0, 1) := by decide +kernel
theorem d161_26 : decode prog_12_method_38_code 26 = .ok (.iload_n 1, 1) := by decide +kernel
theorem d161_27 : decode prog_12_method_38_code 27 = .ok (.iload_n 2, 1) := by decide +kernel
theorem d161_28 : decode prog_12_method_38_code 28 = .ok (.iload_n 1, 1) := by decide +kernel
theorem d161_29 : decode prog_12_method_38_code 29 = .ok (.iconst 1, 1) := by decide +kernel
theorem d161_30 : decode prog_12_method_38_code 30 = .ok (.iadd, 1) := by decide +kernel
theorem d161_31 : decode prog_12_method_38_code 31 = .ok (.invokevirtual 173, 3) := by decide +kernel
theorem d161_34 : decode prog_12_method_38_code 34 = .ok (.invokevirtual 114, 3) := by decide +kernel
theorem d161_37 : decode prog_12_method_38_code 37 = .ok (.ireturn, 1) := by decide +kernel
theorem d162_0 : decode prog_12_method_36_code 0 = .ok (.iload_n 1, 1) := by decide +kernel
theorem d162_1 : decode prog_12_method_36_code 1 = .ok (.invokestatic 123, 3) := by decide +kernel
theorem d162_4 : decode prog_12_method_36_code 4 = .ok (.ifCond .eq 10, 3) := by decide +kernel
theorem d162_7 : decode prog_12_method_36_code 7 = .ok (.iload_n 2, 1) := by decide +kernel
theorem d162_8 : decode prog_12_method_36_code 8 = .ok (.invokestatic 97, 3) := by decide +kernel
theorem d162_11 : decode prog_12_method_36_code 11 = .ok (.ifCond .ne 7, 3) := by decide +kernel
theorem d162_14 : decode prog_12_method_36_code 14 = .ok (.iconst 1, 1) := by decide +kernel
theorem d162_15 : decode prog_12_method_36_code 15 = .ok (.goto 29, 3) := by decide +kernel
theorem d162_18 : decode prog_12_method_36_code 18 = .ok (.aload_n 0, 1) := by decide +kernel
theorem d162_19 : decode prog_12_method_36_code 19 = .ok (.iload_n 1, 1) := by decide +kernel
theorem d162_20 : decode prog_12_method_36_code 20 = .ok (.invokevirtual 150, 3) := by decide +kernel
theorem d162_23 : decode prog_12_method_36_code 23 = .ok (.ifCond .eq 16, 3) := by decide +kernel
theorem d162_26 : decode prog_12_method_36_code 26 = .ok (.aload_n 0, 1) := by decide +kernel
theorem d162_27 : decode prog_12_method_36_code 27 = .ok (.getfield 7, 3) := by decide +kernel
theorem d162_30 : decode prog_12_method_36_code 30 = .ok (.bipush 12, 2) := by decide +kernel
theorem d162_32 : decode prog_12_method_36_code 32 = .ok (.iload_n 2, 1) := by decide +kernel
theorem d162_33 : decode prog_12_method_36_code 33 = .ok (.iadd, 1) := by decide +kernel
theorem d162_34 : decode prog_12_method_36_code 34 = .ok (.iaload, 1) := by decide +kernel
theorem d162_35 : decode prog_12_method_36_code 35 = .ok (.iload_n 3, 1) := by decide +kernel
theorem d162_36 : decode prog_12_method_36_code 36 = .ok (.if_icmp .eq 7, 3) := by decide +kernel
theorem d162_39 : decode prog_12_method_36_code 39 = .ok (.iconst 2, 1) := by decide +kernel
theorem d162_40 : decode prog_12_method_36_code 40 = .ok (.goto 4, 3) := by decide +kernel
theorem d162_43 : decode prog_12_method_36_code 43 = .ok (.iconst 0, 1) := by decide +kernel
theorem d162_44 : decode prog_12_method_36_code 44 = .ok (.ireturn, 1) := by decide +kernel
theorem d163_0 : decode prog_12_method_37_code 0 = .ok (.aload_n 0, 1) := by decide +kernel
theorem d163_1 : decode prog_12_method_37_code 1 = .ok (.getfield 7, 3) := by decide +kernel
theorem d163_4 : decode prog_12_method_37_code 4 = .ok (.bipush 12, 2) := by decide +kernel
theorem d163_6 : decode prog_12_method_37_code 6 = .ok (.iload_n 2, 1) := by decide +kernel
theorem d163_7 : decode prog_12_method_37_code 7 = .ok (.iadd, 1) := by decide +kernel
theorem d163_8 : decode prog_12_method_37_code 8 = .ok (.iload_n 3, 1) := by decide +kernel
theorem d163_9 : decode prog_12_method_37_code 9 = .ok (.iastore, 1) := by decide +kernel
theorem d163_10 : decode prog_12_method_37_code 10 = .ok (.aload_n 0, 1) := by decide +kernel
theorem d163_11 : decode prog_12_method_37_code 11 = .ok (.iload_n 1, 1) := by decide +kernel
theorem d163_12 : decode prog_12_method_37_code 12 = .ok (.invokevirtual 167, 3) := by decide +kernel
theorem d163_15 : decode prog_12_method_37_code 15 = .ok (.ireturn, 1) := by decide +kernel
theorem d164_0 : decode prog_12_method_35_code 0 = .ok (.iconst 0, 1) := by decide +kernel
theorem d164_1 : decode prog_12_method_35_code 1 = .ok (.istore_n 2, 1) := by decide +kernel
theorem d164_2 : decode prog_12_method_35_code 2 = .ok (.iconst 0, 1) := by decide +kernel
theorem d164_3 : decode prog_12_method_35_code 3 = .ok (.istore_n 3, 1) := by decide +kernel
theorem d164_4 : decode prog_12_method_35_code 4 = .ok (.iload_n 3, 1) := by decide +kernel
theorem d164_5 : decode prog_12_method_35_code 5 = .ok (.bipush 6, 2) := by decide +kernel
theorem d164_7 : decode prog_12_method_35_code 7 = .ok (.if_icmp .ge 32, 3) := by decide +kernel
theorem d164_10 : decode prog_12_method_35_code 10 = .ok (.iload_n 2, 1) := by decide +kernel
theorem d164_11 : decode prog_12_method_35_code 11 = .ok (.aload_n 0, 1) := by decide +kernel
theorem d164_12 : decode prog_12_method_35_code 12 = .ok (.getfield 7, 3) := by decide +kernel
theorem d164_15 : decode prog_12_method_35_code 15 = .ok (.bipush 12, 2) := by decide +kernel
theorem d164_17 : decode prog_12_method_35_code 17 = .ok (.iload_n 3, 1) := by decide +kernel
theorem d164_18 : decode prog_12_method_35_code 18 = .ok (.iadd, 1) := by decide +kernel
theorem d164_19 : decode prog_12_method_35_code 19 = .ok (.iaload, 1) := by decide +kernel
theorem d164_20 : decode prog_12_method_35_code 20 = .ok (.iload_n 1, 1) := by decide +kernel
theorem d164_21 : decode prog_12_method_35_code 21 = .ok (.iconst 1, 1) := by decide +kernel
theorem d164_22 : decode prog_12_method_35_code 22 = .ok (.iadd, 1) := by decide +kernel
theorem d164_23 : decode prog_12_method_35_code 23 = .ok (.if_icmp .ne 7, 3) := by decide +kernel
theorem d164_26 : decode prog_12_method_35_code 26 = .ok (.iconst 1, 1) := by decide +kernel
theorem d164_27 : decode prog_12_method_35_code 27 = .ok (.goto 4, 3) := by decide +kernel
theorem d164_30 : decode prog_12_method_35_code 30 = .ok (.iconst 0, 1) := by decide +kernel
theorem d164_31 : decode prog_12_method_35_code 31 = .ok (.iadd, 1) := by decide +kernel
theorem d164_32 : decode prog_12_method_35_code 32 = .ok (.istore_n 2, 1) := by decide +kernel
theorem d164_33 : decode prog_12_method_35_code 33 = .ok (.iinc 3 1, 3) := by decide +kernel
theorem d164_36 : decode prog_12_method_35_code 36 = .ok (.goto (-32), 3) := by decide +kernel
theorem d164_39 : decode prog_12_method_35_code 39 = .ok (.iload_n 2, 1) := by decide +kernel
theorem d164_40 : decode prog_12_method_35_code 40 = .ok (.ireturn, 1) := by decide +kernel
theorem d165_0 : decode prog_12_method_39_code 0 = .ok (.aload_n 0, 1) := by decide +kernel
theorem d165_1 : decode prog_12_method_39_code 1 = .ok (.invokevirtual 100, 3) := by decide +kernel
theorem d165_4 : decode prog_12_method_39_code 4 = .ok (.aload_n 0, 1) := by decide +kernel
theorem d165_5 : decode prog_12_method_39_code 5 = .ok (.iload_n 1, 1) := by decide +kernel
theorem d165_6 : decode prog_12_method_39_code 6 = .ok (.iload_n 2, 1) := by decide +kernel
theorem d165_7 : decode prog_12_method_39_code 7 = .ok (.iload_n 1, 1) := by decide +kernel
theorem d165_8 : decode prog_12_method_39_code 8 = .ok (.iconst 1, 1) := by decide +kernel
theorem d165_9 : decode prog_12_method_39_code 9 = .ok (.iadd, 1) := by decide +kernel
theorem d165_10 : decode prog_12_method_39_code 10 = .ok (.invokevirtual 170, 3) := by decide +kernel
theorem d165_13 : decode prog_12_method_39_code 13 = .ok (.istore_n 3, 1) := by decide +kernel
theorem d165_14 : decode prog_12_method_39_code 14 = .ok (.iload_n 3, 1) := by decide +kernel
theorem d165_15 : decode prog_12_method_39_code 15 = .ok (.ifCond .le 11, 3) := by decide +kernel
theorem d165_18 : decode prog_12_method_39_code 18 = .ok (.aload_n 0, 1) := by decide +kernel
theorem d165_19 : decode prog_12_method_39_code 19 = .ok (.iload_n 3, 1) := by decide +kernel
theorem d165_20 : decode prog_12_method_39_code 20 = .ok (.invokevirtual 107, 3) := by decide +kernel
theorem d165_23 : decode prog_12_method_39_code 23 = .ok (.goto 14, 3) := by decide +kernel
theorem d165_26 : decode prog_12_method_39_code 26 = .ok (.aload_n 0, 1) := by decide +kernel
theorem d165_27 : decode prog_12_method_39_code 27 = .ok (.aload_n 0, 1) := by decide +kernel
theorem d165_28 : decode prog_12_method_39_code 28 = .ok (.iload_n 1, 1) := by decide +kernel
theorem d165_29 : decode prog_12_method_39_code 29 = .ok (.iload_n 2, 1) := by decide +kernel
theorem d165_30 : decode prog_12_method_39_code 30 = .ok (.iconst 0, 1) := by decide +kernel
theorem d165_31 : decode prog_12_method_39_code 31 = .ok (.invokevirtual 173, 3) := by decide +kernel
theorem d165_34 : decode prog_12_method_39_code 34 = .ok (.invokevirtual 114, 3) := by decide +kernel
theorem d165_37 : decode prog_12_method_39_code 37 = .ok (.ireturn, 1) := by decide +kernel
theorem d166_0 : decode prog_12_method_47_code 0 = .ok (.aload_n 0, 1) := by decide +kernel
theorem d166_1 : decode prog_12_method_47_code 1 = .ok (.invokevirtual 100, 3) := by decide +kernel
theorem d166_4 : decode prog_12_method_47_code 4 = .ok (.aload_n 0, 1) := by decide +kernel
theorem d166_5 : decode prog_12_method_47_code 5 = .ok (.iload_n 1, 1) := by decide +kernel
theorem d166_6 : decode prog_12_method_47_code 6 = .ok (.iload_n 2, 1) := by decide +kernel
theorem d166_7 : decode prog_12_method_47_code 7 = .ok (.invokevirtual 192, 3) := by decide +kernel
theorem d166_10 : decode prog_12_method_47_code 10 = .ok (.istore_n 3, 1) := by decide +kernel
theorem d166_11 : decode prog_12_method_47_code 11 = .ok (.iload_n 3, 1) := by decide +kernel
theorem d166_12 : decode prog_12_method_47_code 12 = .ok (.ifCond .le 11, 3) := by decide +kernel
theorem d166_15 : decode prog_12_method_47_code 15 = .ok (.aload_n 0, 1) := by decide +kernel
theorem d166_16 : decode prog_12_method_47_code 16 = .ok (.iload_n 3, 1) := by decide +kernel
theorem d166_17 : decode prog_12_method_47_code 17 = .ok (.invokevirtual 107, 3) := by decide +kernel
theorem d166_20 : decode prog_12_method_47_code 20 = .ok (.goto 13, 3) := by decide +kernel
theorem d166_23 : decode prog_12_method_47_code 23 = .ok (.aload_n 0, 1) := by decide +kernel
theorem d166_24 : decode prog_12_method_47_code 24 = .ok (.aload_n 0, 1) := by decide +kernel
theorem d166_25 : decode prog_12_method_47_code 25 = .ok (.iload_n 1, 1) := by decide +kernel
theorem d166_26 : decode prog_12_method_47_code 26 = .ok (.iload_n 2, 1) := by decide +kernel
theorem d166_27 : decode prog_12_method_47_code 27 = .ok (.invokevirtual 195, 3) := by decide +kernel
theorem d166_30 : decode prog_12_method_47_code 30 = .ok (.invokevirtual 114, 3) := by decide +kernel
theorem d166_33 : decode prog_12_method_47_code 33 = .ok (.ireturn, 1) := by decide +kernel
theorem d167_0 : decode prog_12_method_45_code 0 = .ok (.iload_n 1, 1) := by decide +kernel
theorem d167_1 : decode prog_12_method_45_code 1 = .ok (.invokestatic 123, 3) := by decide +kernel
theorem d167_4 : decode prog_12_method_45_code 4 = .ok (.ifCond .ne 5, 3) := by decide +kernel
theorem d167_7 : decode prog_12_method_45_code 7 = .ok (.iconst 1, 1) := by decide +kernel
theorem d167_8 : decode prog_12_method_45_code 8 = .ok (.ireturn, 1) := by decide +kernel
theorem d167_9 : decode prog_12_method_45_code 9 = .ok (.aload_n 0, 1) := by decide +kernel
theorem d167_10 : decode prog_12_method_45_code 10 = .ok (.iload_n 2, 1) := by decide +kernel
theorem d167_11 : decode prog_12_method_45_code 11 = .ok (.invokevirtual 117, 3) := by decide +kernel
theorem d167_14 : decode prog_12_method_45_code 14 = .ok (.ifCond .ge 5, 3) := by decide +kernel
theorem d167_17 : decode prog_12_method_45_code 17 = .ok (.iconst 2, 1) := by decide +kernel
theorem d167_18 : decode prog_12_method_45_code 18 = .ok (.ireturn, 1) := by decide +kernel
theorem d167_19 : decode prog_12_method_45_code 19 = .ok (.aload_n 0, 1) := by decide +kernel
theorem d167_20 : decode prog_12_method_45_code 20 = .ok (.iload_n 1, 1) := by decide +kernel
theorem d167_21 : decode prog_12_method_45_code 21 = .ok (.aload_n 0, 1) := by decide +kernel
theorem d167_22 : decode prog_12_method_45_code 22 = .ok (.iload_n 2, 1) := by decide +kernel
theorem d167_23 : decode prog_12_method_45_code 23 = .ok (.invokevirtual 117, 3) := by decide +kernel
theorem d167_26 : decode prog_12_method_45_code 26 = .ok (.invokevirtual 182, 3) := by decide +kernel
theorem d167_29 : decode prog_12_method_45_code 29 = .ok (.ifCond .ne 7, 3) := by decide +kernel
theorem d167_32 : decode prog_12_method_45_code 32 = .ok (.iconst 3, 1) := by decide +kernel
theorem d167_33 : decode prog_12_method_45_code 33 = .ok (.goto 21, 3) := by decide +kernel
theorem d167_36 : decode prog_12_method_45_code 36 = .ok (.aload_n 0, 1) := by decide +kernel
theorem d167_37 : decode prog_12_method_45_code 37 = .ok (.iload_n 1, 1) := by decide +kernel
theorem d167_38 : decode prog_12_method_45_code 38 = .ok (.aload_n 0, 1) := by decide +kernel
theorem d167_39 : decode prog_12_method_45_code 39 = .ok (.iload_n 2, 1) := by decide +kernel
theorem d167_40 : decode prog_12_method_45_code 40 = .ok (.invokevirtual 117, 3) := by decide +kernel
theorem d167_43 : decode prog_12_method_45_code 43 = .ok (.invokevirtual 186, 3) := by decide +kernel
theorem d167_46 : decode prog_12_method_45_code 46 = .ok (.ifCond .ne 7, 3) := by decide +kernel
theorem d167_49 : decode prog_12_method_45_code 49 = .ok (.iconst 4, 1) := by decide +kernel
theorem d167_50 : decode prog_12_method_45_code 50 = .ok (.goto 4, 3) := by decide +kernel
theorem d167_53 : decode prog_12_method_45_code 53 = .ok (.iconst 0, 1) := by decide +kernel
theorem d167_54 : decode prog_12_method_45_code 54 = .ok (.ireturn, 1) := by decide +kernel
theorem d168_0 : decode prog_12_method_43_code 0 = .ok (.aload_n 0, 1) := by decide +kernel
theorem d168_1 : decode prog_12_method_43_code 1 = .ok (.getfield 7, 3) := by decide +kernel
theorem d168_4 : decode prog_12_method_43_code 4 = .ok (.bipush 12, 2) := by decide +kernel
theorem d168_6 : decode prog_12_method_43_code 6 = .ok (.aload_n 0, 1) := by decide +kernel
theorem d168_7 : decode prog_12_method_43_code 7 = .ok (.iload_n 2, 1) := by decide +kernel
theorem d168_8 : decode prog_12_method_43_code 8 = .ok (.iconst 4, 1) := by decide +kernel
theorem d168_9 : decode prog_12_method_43_code 9 = .ok (.invokevirtual 85, 3) := by decide +kernel
theorem d168_12 : decode prog_12_method_43_code 12 = .ok (.iadd, 1) := by decide +kernel
theorem d168_13 : decode prog_12_method_43_code 13 = .ok (.iaload, 1) := by decide +kernel
theorem d168_14 : decode prog_12_method_43_code 14 = .ok (.iload_n 1, 1) := by decide +kernel
theorem d168_15 : decode prog_12_method_43_code 15 = .ok (.iconst 1, 1) := by decide +kernel
theorem d168_16 : decode prog_12_method_43_code 16 = .ok (.iadd, 1) := by decide +kernel
theorem d168_17 : decode prog_12_method_43_code 17 = .ok (.if_icmp .ne 7, 3) := by decide +kernel
theorem d168_20 : decode prog_12_method_43_code 20 = .ok (.iconst 1, 1) := by decide +kernel
theorem d168_21 : decode prog_12_method_43_code 21 = .ok (.goto 4, 3) := by decide +kernel
theorem d168_24 : decode prog_12_method_43_code 24 = .ok (.iconst 0, 1) := by decide +kernel
theorem d168_25 : decode prog_12_method_43_code 25 = .ok (.ireturn, 1) := by decide +kernel
theorem d169_0 : decode prog_12_method_44_code 0 = .ok (.aload_n 0, 1) := by decide +kernel
theorem d169_1 : decode prog_12_method_44_code 1 = .ok (.iload_n 1, 1) := by decide +kernel
theorem d169_2 : decode prog_12_method_44_code 2 = .ok (.iconst 4, 1) := by decide +kernel
theorem d169_3 : decode prog_12_method_44_code 3 = .ok (.aload_n 0, 1) := by decide +kernel
theorem d169_4 : decode prog_12_method_44_code 4 = .ok (.iload_n 2, 1) := by decide +kernel
theorem d169_5 : decode prog_12_method_44_code 5 = .ok (.iconst 3, 1) := by decide +kernel
theorem d169_6 : decode prog_12_method_44_code 6 = .ok (.invokevirtual 85, 3) := by decide +kernel
theorem d169_9 : decode prog_12_method_44_code 9 = .ok (.iadd, 1) := by decide +kernel
theorem d169_10 : decode prog_12_method_44_code 10 = .ok (.bipush 97, 2) := by decide +kernel
theorem d169_12 : decode prog_12_method_44_code 12 = .ok (.isub, 1) := by decide +kernel
theorem d169_13 : decode prog_12_method_44_code 13 = .ok (.invokevirtual 147, 3) := by decide +kernel
theorem d169_16 : decode prog_12_method_44_code 16 = .ok (.ifCond .le 7, 3) := by decide +kernel
theorem d169_19 : decode prog_12_method_44_code 19 = .ok (.iconst 1, 1) := by decide +kernel
theorem d169_20 : decode prog_12_method_44_code 20 = .ok (.goto 4, 3) := by decide +kernel
theorem d169_23 : decode prog_12_method_44_code 23 = .ok (.iconst 0, 1) := by decide +kernel
theorem d169_24 : decode prog_12_method_44_code 24 = .ok (.ireturn, 1) := by decide +kernel
theorem d170_0 : decode prog_12_method_46_code 0 = .ok (.aload_n 0, 1) := by decide +kernel
theorem d170_1 : decode prog_12_method_46_code 1 = .ok (.iload_n 2, 1) := by decide +kernel
theorem d170_2 : decode prog_12_method_46_code 2 = .ok (.invokevirtual 117, 3) := by decide +kernel
theorem d170_5 : decode prog_12_method_46_code 5 = .ok (.istore_n 3, 1) := by decide +kernel
theorem d170_6 : decode prog_12_method_46_code 6 = .ok (.aload_n 0, 1) := by decide +kernel
theorem d170_7 : decode prog_12_method_46_code 7 = .ok (.iload_n 1, 1) := by decide +kernel
theorem d170_8 : decode prog_12_method_46_code 8 = .ok (.iload_n 3, 1) := by decide +kernel
theorem d170_9 : decode prog_12_method_46_code 9 = .ok (.invokevirtual 189, 3) := by decide +kernel
theorem d170_12 : decode prog_12_method_46_code 12 = .ok (.istore 4, 2) := by decide +kernel
theorem d170_14 : decode prog_12_method_46_code 14 = .ok (.iload 4, 2) := by decide +kernel
theorem d170_16 : decode prog_12_method_46_code 16 = .ok (.aload_n 0, 1) := by decide +kernel
theorem d170_17 : decode prog_12_method_46_code 17 = .ok (.iload_n 3, 1) := by decide +kernel
theorem d170_18 : decode prog_12_method_46_code 18 = .ok (.bipush 6, 2) := by decide +kernel
theorem d170_20 : decode prog_12_method_46_code 20 = .ok (.invokevirtual 85, 3) := by decide +kernel
theorem d170_23 : decode prog_12_method_46_code 23 = .ok (.if_icmp .le 16, 3) := by decide +kernel
theorem d170_26 : decode prog_12_method_46_code 26 = .ok (.iload 4, 2) := by decide +kernel
theorem d170_28 : decode prog_12_method_46_code 28 = .ok (.aload_n 0, 1) := by decide +kernel
theorem d170_29 : decode prog_12_method_46_code 29 = .ok (.iload_n 3, 1) := by decide +kernel
theorem d170_30 : decode prog_12_method_46_code 30 = .ok (.bipush 6, 2) := by decide +kernel
theorem d170_32 : decode prog_12_method_46_code 32 = .ok (.invokevirtual 85, 3) := by decide +kernel
theorem d170_35 : decode prog_12_method_46_code 35 = .ok (.isub, 1) := by decide +kernel
theorem d170_36 : decode prog_12_method_46_code 36 = .ok (.goto 4, 3) := by decide +kernel
theorem d170_39 : decode prog_12_method_46_code 39 = .ok (.iconst 0, 1) := by decide +kernel
theorem d170_40 : decode prog_12_method_46_code 40 = .ok (.istore 5, 2) := by decide +kernel
theorem d170_42 : decode prog_12_method_46_code 42 = .ok (.aload_n 0, 1) := by decide +kernel
theorem d170_43 : decode prog_12_method_46_code 43 = .ok (.iload_n 1, 1) := by decide +kernel
theorem d170_44 : decode prog_12_method_46_code 44 = .ok (.iconst 2, 1) := by decide +kernel
theorem d170_45 : decode prog_12_method_46_code 45 = .ok (.iload 4, 2) := by decide +kernel
theorem d170_47 : decode prog_12_method_46_code 47 = .ok (.invokevirtual 156, 3) := by decide +kernel
theorem d170_50 : decode prog_12_method_46_code 50 = .ok (.aload_n 0, 1) := by decide +kernel
theorem d170_51 : decode prog_12_method_46_code 51 = .ok (.iload_n 1, 1) := by decide +kernel
theorem d170_52 : decode prog_12_method_46_code 52 = .ok (.iconst 0, 1) := by decide +kernel
theorem d170_53 : decode prog_12_method_46_code 53 = .ok (.aload_n 0, 1) := by decide +kernel
theorem d170_54 : decode prog_12_method_46_code 54 = .ok (.iload_n 3, 1) := by decide +kernel
theorem d170_55 : decode prog_12_method_46_code 55 = .ok (.iconst 1, 1) := by decide +kernel
theorem d170_56 : decode prog_12_method_46_code 56 = .ok (.invokevirtual 85, 3) := by decide +kernel
theorem d170_59 : decode prog_12_method_46_code 59 = .ok (.invokevirtual 156, 3) := by decide +kernel
theorem d170_62 : decode prog_12_method_46_code 62 = .ok (.aload_n 0, 1) := by decide +kernel
theorem d170_63 : decode prog_12_method_46_code 63 = .ok (.iload_n 1, 1) := by decide +kernel
theorem d170_64 : decode prog_12_method_46_code 64 = .ok (.iconst 1, 1) := by decide +kernel
theorem d170_65 : decode prog_12_method_46_code 65 = .ok (.aload_n 0, 1) := by decide +kernel
theorem d170_66 : decode prog_12_method_46_code 66 = .ok (.iload_n 3, 1) := by decide +kernel
theorem d170_67 : decode prog_12_method_46_code 67 = .ok (.iconst 2, 1) := by decide +kernel
theorem d170_68 : decode prog_12_method_46_code 68 = .ok (.invokevirtual 85, 3) := by decide +kernel
theorem d170_71 : decode prog_12_method_46_code 71 = .ok (.invokevirtual 156, 3) := by decide +kernel
theorem d170_74 : decode prog_12_method_46_code 74 = .ok (.aload_n 0, 1) := by decide +kernel
theorem d170_75 : decode prog_12_method_46_code 75 = .ok (.iload_n 1, 1) := by decide +kernel
theorem d170_76 : decode prog_12_method_46_code 76 = .ok (.iconst 4, 1) := by decide +kernel
theorem d170_77 : decode prog_12_method_46_code 77 = .ok (.aload_n 0, 1) := by decide +kernel
theorem d170_78 : decode prog_12_method_46_code 78 = .ok (.iload_n 3, 1) := by decide +kernel
theorem d170_79 : decode prog_12_method_46_code 79 = .ok (.iconst 3, 1) := by decide +kernel
theorem d170_80 : decode prog_12_method_46_code 80 = .ok (.invokevirtual 85, 3) := by decide +kernel
theorem d170_83 : decode prog_12_method_46_code 83 = .ok (.iadd, 1) := by decide +kernel
theorem d170_84 : decode prog_12_method_46_code 84 = .ok (.bipush 97, 2) := by decide +kernel
theorem d170_86 : decode prog_12_method_46_code 86 = .ok (.isub, 1) := by decide +kernel
theorem d170_87 : decode prog_12_method_46_code 87 = .ok (.aload_n 0, 1) := by decide +kernel
theorem d170_88 : decode prog_12_method_46_code 88 = .ok (.iload_n 1, 1) := by decide +kernel
theorem d170_89 : decode prog_12_method_46_code 89 = .ok (.iconst 4, 1) := by decide +kernel
theorem d170_90 : decode prog_12_method_46_code 90 = .ok (.aload_n 0, 1) := by decide +kernel
theorem d170_91 : decode prog_12_method_46_code 91 = .ok (.iload_n 3, 1) := by decide +kernel
theorem d170_92 : decode prog_12_method_46_code 92 = .ok (.iconst 3, 1) := by decide +kernel
theorem d170_93 : decode prog_12_method_46_code 93 = .ok (.invokevirtual 85, 3) := by decide +kernel
theorem d170_96 : decode prog_12_method_46_code 96 = .ok (.iadd, 1) := by decide +kernel
theorem d170_97 : decode prog_12_method_46_code 97 = .ok (.bipush 97, 2) := by decide +kernel
theorem d170_99 : decode prog_12_method_46_code 99 = .ok (.isub, 1) := by decide +kernel
theorem d170_100 : decode prog_12_method_46_code 100 = .ok (.invokevirtual 147, 3) := by decide +kernel
theorem d170_103 : decode prog_12_method_46_code 103 = .ok (.iconst 1, 1) := by decide +kernel
theorem d170_104 : decode prog_12_method_46_code 104 = .ok (.isub, 1) := by decide +kernel
theorem d170_105 : decode prog_12_method_46_code 105 = .ok (.invokevirtual 156, 3) := by decide +kernel
theorem d170_108 : decode prog_12_method_46_code 108 = .ok (.aload_n 0, 1) := by decide +kernel
theorem d170_109 : decode prog_12_method_46_code 109 = .ok (.iload_n 1, 1) := by decide +kernel
theorem d170_110 : decode prog_12_method_46_code 110 = .ok (.iconst 3, 1) := by decide +kernel
theorem d170_111 : decode prog_12_method_46_code 111 = .ok (.aload_n 0, 1) := by decide +kernel
theorem d170_112 : decode prog_12_method_46_code 112 = .ok (.iload_n 1, 1) := by decide +kernel
theorem d170_113 : decode prog_12_method_46_code 113 = .ok (.iconst 3, 1) := by decide +kernel
theorem d170_114 : decode prog_12_method_46_code 114 = .ok (.invokevirtual 147, 3) := by decide +kernel
theorem d170_117 : decode prog_12_method_46_code 117 = .ok (.bipush 10, 2) := by decide +kernel
theorem d170_119 : decode prog_12_method_46_code 119 = .ok (.aload_n 0, 1) := by decide +kernel
theorem d170_120 : decode prog_12_method_46_code 120 = .ok (.iload_n 3, 1) := by decide +kernel
theorem d170_121 : decode prog_12_method_46_code 121 = .ok (.iconst 5, 1) := by decide +kernel
theorem d170_122 : decode prog_12_method_46_code 122 = .ok (.invokevirtual 85, 3) := by decide +kernel
theorem d170_125 : decode prog_12_method_46_code 125 = .ok (.imul, 1) := by decide +kernel
theorem d170_126 : decode prog_12_method_46_code 126 = .ok (.iadd, 1) := by decide +kernel
theorem d170_127 : decode prog_12_method_46_code 127 = .ok (.iconst 2, 1) := by decide +kernel
theorem d170_128 : decode prog_12_method_46_code 128 = .ok (.iload 5, 2) := by decide +kernel
theorem d170_130 : decode prog_12_method_46_code 130 = .ok (.imul, 1) := by decide +kernel
theorem d170_131 : decode prog_12_method_46_code 131 = .ok (.isub, 1) := by decide +kernel
theorem d170_132 : decode prog_12_method_46_code 132 = .ok (.invokevirtual 156, 3) := by decide +kernel
theorem d170_135 : decode prog_12_method_46_code 135 = .ok (.aload_n 0, 1) := by decide +kernel
theorem d170_136 : decode prog_12_method_46_code 136 = .ok (.getfield 7, 3) := by decide +kernel
theorem d170_139 : decode prog_12_method_46_code 139 = .ok (.iconst 4, 1) := by decide +kernel
theorem d170_140 : decode prog_12_method_46_code 140 = .ok (.dup2, 1) := by decide +kernel
theorem d170_141 : decode prog_12_method_46_code 141 = .ok (.iaload, 1) := by decide +kernel
theorem d170_142 : decode prog_12_method_46_code 142 = .ok (.aload_n 0, 1) := by decide +kernel
theorem d170_143 : decode prog_12_method_46_code 143 = .ok (.iload_n 3, 1) := by decide +kernel
theorem d170_144 : decode prog_12_method_46_code 144 = .ok (.iconst 5, 1) := by decide +kernel
theorem d170_145 : decode prog_12_method_46_code 145 = .ok (.invokevirtual 85, 3) := by decide +kernel
theorem d170_148 : decode prog_12_method_46_code 148 = .ok (.iadd, 1) := by decide +kernel
theorem d170_149 : decode prog_12_method_46_code 149 = .ok (.iastore, 1) := by decide +kernel
theorem d170_150 : decode prog_12_method_46_code 150 = .ok (.aload_n 0, 1) := by decide +kernel
theorem d170_151 : decode prog_12_method_46_code 151 = .ok (.getfield 7, 3) := by decide +kernel
theorem d170_154 : decode prog_12_method_46_code 154 = .ok (.iconst 3, 1) := by decide +kernel
theorem d170_155 : decode prog_12_method_46_code 155 = .ok (.dup2, 1) := by decide +kernel
theorem d170_156 : decode prog_12_method_46_code 156 = .ok (.iaload, 1) := by decide +kernel
theorem d170_157 : decode prog_12_method_46_code 157 = .ok (.iload 5, 2) := by decide +kernel
theorem d170_159 : decode prog_12_method_46_code 159 = .ok (.iadd, 1) := by decide +kernel
theorem d170_160 : decode prog_12_method_46_code 160 = .ok (.iastore, 1) := by decide +kernel
theorem d170_161 : decode prog_12_method_46_code 161 = .ok (.aload_n 0, 1) := by decide +kernel
theorem d170_162 : decode prog_12_method_46_code 162 = .ok (.getfield 7, 3) := by decide +kernel
theorem d170_165 : decode prog_12_method_46_code 165 = .ok (.iconst 2, 1) := by decide +kernel
theorem d170_166 : decode prog_12_method_46_code 166 = .ok (.dup2, 1) := by decide +kernel
theorem d170_167 : decode prog_12_method_46_code 167 = .ok (.iaload, 1) := by decide +kernel
theorem d170_168 : decode prog_12_method_46_code 168 = .ok (.iconst 1, 1) := by decide +kernel
theorem d170_169 : decode prog_12_method_46_code 169 = .ok (.iadd, 1) := by decide +kernel
theorem d170_170 : decode prog_12_method_46_code 170 = .ok (.iastore, 1) := by decide +kernel
theorem d170_171 : decode prog_12_method_46_code 171 = .ok (.aload_n 0, 1) := by decide +kernel
theorem d170_172 : decode prog_12_method_46_code 172 = .ok (.iload_n 3, 1) := by decide +kernel
theorem d170_173 : decode prog_12_method_46_code 173 = .ok (.invokevirtual 120, 3) := by decide +kernel
theorem d170_176 : decode prog_12_method_46_code 176 = .ok (.istore 6, 2) := by decide +kernel
theorem d170_178 : decode prog_12_method_46_code 178 = .ok (.iconst 2, 1) := by decide +kernel
theorem d170_179 : decode prog_12_method_46_code 179 = .ok (.iload 5, 2) := by decide +kernel
theorem d170_181 : decode prog_12_method_46_code 181 = .ok (.imul, 1) := by decide +kernel
theorem d170_182 : decode prog_12_method_46_code 182 = .ok (.ireturn, 1) := by decide +kernel
theorem d171_0 : decode prog_12_method_42_code 0 = .ok (.aload_n 0, 1) := by decide +kernel
theorem d171_1 : decode prog_12_method_42_code 1 = .ok (.iload_n 1, 1) := by decide +kernel
theorem d171_2 : decode prog_12_method_42_code 2 = .ok (.iconst 2, 1) := by decide +kernel
theorem d171_3 : decode prog_12_method_42_code 3 = .ok (.invokevirtual 147, 3) := by decide +kernel
theorem d171_6 : decode prog_12_method_42_code 6 = .ok (.aload_n 0, 1) := by decide +kernel
theorem d171_7 : decode prog_12_method_42_code 7 = .ok (.iload_n 1, 1) := by decide +kernel
theorem d171_8 : decode prog_12_method_42_code 8 = .ok (.iload_n 2, 1) := by decide +kernel
theorem d171_9 : decode prog_12_method_42_code 9 = .ok (.invokevirtual 179, 3) := by decide +kernel
theorem d171_12 : decode prog_12_method_42_code 12 = .ok (.iadd, 1) := by decide +kernel
theorem d171_13 : decode prog_12_method_42_code 13 = .ok (.aload_n 0, 1) := by decide +kernel
theorem d171_14 : decode prog_12_method_42_code 14 = .ok (.iload_n 2, 1) := by decide +kernel
theorem d171_15 : decode prog_12_method_42_code 15 = .ok (.iconst 5, 1) := by decide +kernel
theorem d171_16 : decode prog_12_method_42_code 16 = .ok (.invokevirtual 85, 3) := by decide +kernel
theorem d171_19 : decode prog_12_method_42_code 19 = .ok (.iadd, 1) := by decide +kernel
theorem d171_20 : decode prog_12_method_42_code 20 = .ok (.ireturn, 1) := by decide +kernel
theorem d172_0 : decode prog_12_method_41_code 0 = .ok (.aload_n 0, 1) := by decide +kernel
theorem d172_1 : decode prog_12_method_41_code 1 = .ok (.iload_n 1, 1) := by decide +kernel
theorem d172_2 : decode prog_12_method_41_code 2 = .ok (.iconst 0, 1) := by decide +kernel
theorem d172_3 : decode prog_12_method_41_code 3 = .ok (.invokevirtual 147, 3) := by decide +kernel
theorem d172_6 : decode prog_12_method_41_code 6 = .ok (.aload_n 0, 1) := by decide +kernel
theorem d172_7 : decode prog_12_method_41_code 7 = .ok (.iload_n 2, 1) := by decide +kernel
theorem d172_8 : decode prog_12_method_41_code 8 = .ok (.iconst 1, 1) := by decide +kernel
theorem d172_9 : decode prog_12_method_41_code 9 = .ok (.invokevirtual 85, 3) := by decide +kernel
theorem d172_12 : decode prog_12_method_41_code 12 = .ok (.invokestatic 176, 3) := by decide +kernel
theorem d172_15 : decode prog_12_method_41_code 15 = .ok (.aload_n 0, 1) := by decide +kernel
theorem d172_16 : decode prog_12_method_41_code 16 = .ok (.iload_n 1, 1) := by decide +kernel
theorem d172_17 : decode prog_12_method_41_code 17 = .ok (.iconst 1, 1) := by decide +kernel
theorem d172_18 : decode prog_12_method_41_code 18 = .ok (.invokevirtual 147, 3) := by decide +kernel
theorem d172_21 : decode prog_12_method_41_code 21 = .ok (.aload_n 0, 1) := by decide +kernel
theorem d172_22 : decode prog_12_method_41_code 22 = .ok (.iload_n 2, 1) := by decide +kernel
theorem d172_23 : decode prog_12_method_41_code 23 = .ok (.iconst 2, 1) := by decide +kernel
theorem d172_24 : decode prog_12_method_41_code 24 = .ok (.invokevirtual 85, 3) := by decide +kernel
theorem d172_27 : decode prog_12_method_41_code 27 = .ok (.invokestatic 176, 3) := by decide +kernel
theorem d172_30 : decode prog_12_method_41_code 30 = .ok (.iadd, 1) := by decide +kernel
theorem d172_31 : decode prog_12_method_41_code 31 = .ok (.ireturn, 1) := by decide +kernel
theorem d173_0 : decode prog_12_method_40_code 0 = .ok (.iload_n 0, 1) := by decide +kernel
theorem d173_1 : decode prog_12_method_40_code 1 = .ok (.iload_n 1, 1) := by decide +kernel
theorem d173_2 : decode prog_12_method_40_code 2 = .ok (.if_icmp .ge 9, 3) := by decide +kernel
theorem d173_5 : decode prog_12_method_40_code 5 = .ok (.iload_n 1, 1) := by decide +kernel
theorem d173_6 : decode prog_12_method_40_code 6 = .ok (.iload_n 0, 1) := by decide +kernel
theorem d173_7 : decode prog_12_method_40_code 7 = .ok (.isub, 1) := by decide +kernel
theorem d173_8 : decode prog_12_method_40_code 8 = .ok (.goto 6, 3) := by decide +kernel
theorem d173_11 : decode prog_12_method_40_code 11 = .ok (.iload_n 0, 1) := by decide +kernel
theorem d173_12 : decode prog_12_method_40_code 12 = .ok (.iload_n 1, 1) := by decide +kernel
theorem d173_13 : decode prog_12_method_40_code 13 = .ok (.isub, 1) := by decide +kernel
theorem d173_14 : decode prog_12_method_40_code 14 = .ok (.ireturn, 1) := by decide +kernel
theorem d174_0 : decode prog_12_method_49_code 0 = .ok (.aload_n 0, 1) := by decide +kernel
theorem d174_1 : decode prog_12_method_49_code 1 = .ok (.invokevirtual 100, 3) := by decide +kernel
theorem d174_4 : decode prog_12_method_49_code 4 = .ok (.iload_n 1, 1) := by decide +kernel
theorem d174_5 : decode prog_12_method_49_code 5 = .ok (.invokestatic 123, 3) := by decide +kernel
theorem d174_8 : decode prog_12_method_49_code 8 = .ok (.ifCond .eq 15, 3) := by decide +kernel
theorem d174_11 : decode prog_12_method_49_code 11 = .ok (.aload_n 0, 1) := by decide +kernel
theorem d174_12 : decode prog_12_method_49_code 12 = .ok (.aload_n 0, 1) := by decide +kernel
theorem d174_13 : decode prog_12_method_49_code 13 = .ok (.iload_n 1, 1) := by decide +kernel
theorem d174_14 : decode prog_12_method_49_code 14 = .ok (.invokevirtual 198, 3) := by decide +kernel
theorem d174_17 : decode prog_12_method_49_code 17 = .ok (.invokevirtual 114, 3) := by decide +kernel
theorem d174_20 : decode prog_12_method_49_code 20 = .ok (.goto 8, 3) := by decide +kernel
theorem d174_23 : decode prog_12_method_49_code 23 = .ok (.aload_n 0, 1) := by decide +kernel
theorem d174_24 : decode prog_12_method_49_code 24 = .ok (.iconst 1, 1) := by decide +kernel
theorem d174_25 : decode prog_12_method_49_code 25 = .ok (.invokevirtual 107, 3) := by decide +kernel
theorem d174_28 : decode prog_12_method_49_code 28 = .ok (.ireturn, 1) := by decide +kernel
theorem d175_0 : decode prog_12_method_48_code 0 = .ok (.aload_n 0, 1) := by decide +kernel
theorem d175_1 : decode prog_12_method_48_code 1 = .ok (.iload_n 1, 1) := by decide +kernel
theorem d175_2 : decode prog_12_method_48_code 2 = .ok (.iconst 2, 1) := by decide +kernel
theorem d175_3 : decode prog_12_method_48_code 3 = .ok (.aload_n 0, 1) := by decide +kernel
theorem d175_4 : decode prog_12_method_48_code 4 = .ok (.iload_n 1, 1) := by decide +kernel
theorem d175_5 : decode prog_12_method_48_code 5 = .ok (.iconst 2, 1) := by decide +kernel
theorem d175_6 : decode prog_12_method_48_code 6 = .ok (.invokevirtual 147, 3) := by decide +kernel
theorem d175_9 : decode prog_12_method_48_code 9 = .ok (.aload_n 0, 1) := by decide +kernel
theorem d175_10 : decode prog_12_method_48_code 10 = .ok (.iload_n 1, 1) := by decide +kernel
theorem d175_11 : decode prog_12_method_48_code 11 = .ok (.iconst 0, 1) := by decide +kernel
theorem d175_12 : decode prog_12_method_48_code 12 = .ok (.invokevirtual 147, 3) := by decide +kernel
theorem d175_15 : decode prog_12_method_48_code 15 = .ok (.iadd, 1) := by decide +kernel
theorem d175_16 : decode prog_12_method_48_code 16 = .ok (.aload_n 0, 1) := by decide +kernel
theorem d175_17 : decode prog_12_method_48_code 17 = .ok (.iload_n 1, 1) := by decide +kernel
theorem d175_18 : decode prog_12_method_48_code 18 = .ok (.iconst 1, 1) := by decide +kernel
theorem d175_19 : decode prog_12_method_48_code 19 = .ok (.invokevirtual 147, 3) := by decide +kernel
theorem d175_22 : decode prog_12_method_48_code 22 = .ok (.iadd, 1) := by decide +kernel
theorem d175_23 : decode prog_12_method_48_code 23 = .ok (.invokevirtual 156, 3) := by decide +kernel
theorem d175_26 : decode prog_12_method_48_code 26 = .ok (.aload_n 0, 1) := by decide +kernel
theorem d175_27 : decode prog_12_method_48_code 27 = .ok (.iload_n 1, 1) := by decide +kernel
theorem d175_28 : decode prog_12_method_48_code 28 = .ok (.iconst 0, 1) := by decide +kernel
theorem d175_29 : decode prog_12_method_48_code 29 = .ok (.iconst 0, 1) := by decide +kernel
theorem d175_30 : decode prog_12_method_48_code 30 = .ok (.invokevirtual 156, 3) := by decide +kernel
theorem d175_33 : decode prog_12_method_48_code 33 = .ok (.aload_n 0, 1) := by decide +kernel
theorem d175_34 : decode prog_12_method_48_code 34 = .ok (.iload_n 1, 1) := by decide +kernel
theorem d175_35 : decode prog_12_method_48_code 35 = .ok (.iconst 1, 1) := by decide +kernel
theorem d175_36 : decode prog_12_method_48_code 36 = .ok (.iconst 0, 1) := by decide +kernel
theorem d175_37 : decode prog_12_method_48_code 37 = .ok (.invokevirtual 156, 3) := by decide +kernel
theorem d175_40 : decode prog_12_method_48_code 40 = .ok (.aload_n 0, 1) := by decide +kernel
theorem d175_41 : decode prog_12_method_48_code 41 = .ok (.iload_n 1, 1) := by decide +kernel
theorem d175_42 : decode prog_12_method_48_code 42 = .ok (.iconst 2, 1) := by decide +kernel
theorem d175_43 : decode prog_12_method_48_code 43 = .ok (.invokevirtual 147, 3) := by decide +kernel
theorem d175_46 : decode prog_12_method_48_code 46 = .ok (.ireturn, 1) := by decide +kernel
theorem d176_0 : decode prog_12_method_52_code 0 = .ok (.aload_n 0, 1) := by decide +kernel
theorem d176_1 : decode prog_12_method_52_code 1 = .ok (.invokevirtual 100, 3) := by decide +kernel
theorem d176_4 : decode prog_12_method_52_code 4 = .ok (.iload_n 1, 1) := by decide +kernel
theorem d176_5 : decode prog_12_method_52_code 5 = .ok (.iload_n 2, 1) := by decide +kernel
theorem d176_6 : decode prog_12_method_52_code 6 = .ok (.invokestatic 201, 3) := by decide +kernel
theorem d176_9 : decode prog_12_method_52_code 9 = .ok (.istore_n 3, 1) := by decide +kernel
theorem d176_10 : decode prog_12_method_52_code 10 = .ok (.iload_n 3, 1) := by decide +kernel
theorem d176_11 : decode prog_12_method_52_code 11 = .ok (.ifCond .le 11, 3) := by decide +kernel
theorem d176_14 : decode prog_12_method_52_code 14 = .ok (.aload_n 0, 1) := by decide +kernel
theorem d176_15 : decode prog_12_method_52_code 15 = .ok (.iload_n 3, 1) := by decide +kernel
theorem d176_16 : decode prog_12_method_52_code 16 = .ok (.invokevirtual 107, 3) := by decide +kernel
theorem d176_19 : decode prog_12_method_52_code 19 = .ok (.goto 13, 3) := by decide +kernel
theorem d176_22 : decode prog_12_method_52_code 22 = .ok (.aload_n 0, 1) := by decide +kernel
theorem d176_23 : decode prog_12_method_52_code 23 = .ok (.aload_n 0, 1) := by decide +kernel
theorem d176_24 : decode prog_12_method_52_code 24 = .ok (.iload_n 1, 1) := by decide +kernel
theorem d176_25 : decode prog_12_method_52_code 25 = .ok (.iload_n 2, 1) := by decide +kernel
theorem d176_26 : decode prog_12_method_52_code 26 = .ok (.invokevirtual 204, 3) := by decide +kernel
theorem d176_29 : decode prog_12_method_52_code 29 = .ok (.invokevirtual 114, 3) := by decide +kernel
theorem d176_32 : decode prog_12_method_52_code 32 = .ok (.ireturn, 1) := by decide +kernel
theorem d177_0 : decode prog_12_method_51_code 0 = .ok (.iload_n 0, 1) := by decide +kernel
theorem d177_1 : decode prog_12_method_51_code 1 = .ok (.invokestatic 123, 3) := by decide +kernel
theorem d177_4 : decode prog_12_method_51_code 4 = .ok (.ifCond .ne 7, 3) := by decide +kernel
theorem d177_7 : decode prog_12_method_51_code 7 = .ok (.iconst 1, 1) := by decide +kernel
theorem d177_8 : decode prog_12_method_51_code 8 = .ok (.goto 18, 3) := by decide +kernel
theorem d177_11 : decode prog_12_method_51_code 11 = .ok (.iload_n 1, 1) := by decide +kernel
theorem d177_12 : decode prog_12_method_51_code 12 = .ok (.iconst 1, 1) := by decide +kernel
theorem d177_13 : decode prog_12_method_51_code 13 = .ok (.bipush 99, 2) := by decide +kernel
theorem d177_15 : decode prog_12_method_51_code 15 = .ok (.invokestatic 89, 3) := by decide +kernel
theorem d177_18 : decode prog_12_method_51_code 18 = .ok (.ifCond .ne 7, 3) := by decide +kernel
theorem d177_21 : decode prog_12_method_51_code 21 = .ok (.iconst 2, 1) := by decide +kernel
theorem d177_22 : decode prog_12_method_51_code 22 = .ok (.goto 4, 3) := by decide +kernel
theorem d177_25 : decode prog_12_method_51_code 25 = .ok (.iconst 0, 1) := by decide +kernel
theorem d177_26 : decode prog_12_method_51_code 26 = .ok (.ireturn, 1) := by decide +kernel
theorem d178_0 : decode prog_12_method_50_code 0 = .ok (.aload_n 0, 1) := by decide +kernel
theorem d178_1 : decode prog_12_method_50_code 1 = .ok (.iload_n 1, 1) := by decide +kernel
theorem d178_2 : decode prog_12_method_50_code 2 = .ok (.iconst 2, 1) := by decide +kernel
theorem d178_3 : decode prog_12_method_50_code 3 = .ok (.aload_n 0, 1) := by decide +kernel
theorem d178_4 : decode prog_12_method_50_code 4 = .ok (.iload_n 1, 1) := by decide +kernel
theorem d178_5 : decode prog_12_method_50_code 5 = .ok (.iconst 2, 1) := by decide +kernel
theorem d178_6 : decode prog_12_method_50_code 6 = .ok (.invokevirtual 147, 3) := by decide +kernel
theorem d178_9 : decode prog_12_method_50_code 9 = .ok (.iload_n 2, 1) := by decide +kernel
theorem d178_10 : decode prog_12_method_50_code 10 = .ok (.iadd, 1) := by decide +kernel
theorem d178_11 : decode prog_12_method_50_code 11 = .ok (.invokevirtual 156, 3) := by decide +kernel
theorem d178_14 : decode prog_12_method_50_code 14 = .ok (.aload_n 0, 1) := by decide +kernel
theorem d178_15 : decode prog_12_method_50_code 15 = .ok (.iload_n 1, 1) := by decide +kernel
theorem d178_16 : decode prog_12_method_50_code 16 = .ok (.iconst 2, 1) := by decide +kernel
theorem d178_17 : decode prog_12_method_50_code 17 = .ok (.invokevirtual 147, 3) := by decide +kernel
theorem d178_20 : decode prog_12_method_50_code 20 = .ok (.ireturn, 1) := by decide +kernel
theorem d179_0 : decode prog_12_method_55_code 0 = .ok (.aload_n 0, 1) := by decide +kernel
theorem d179_1 : decode prog_12_method_55_code 1 = .ok (.aload_n 0, 1) := by decide +kernel
theorem d179_2 : decode prog_12_method_55_code 2 = .ok (.getfield 7, 3) := by decide +kernel
theorem d179_5 : decode prog_12_method_55_code 5 = .ok (.iconst 0, 1) := by decide +kernel
theorem d179_6 : decode prog_12_method_55_code 6 = .ok (.iaload, 1) := by decide +kernel
theorem d179_7 : decode prog_12_method_55_code 7 = .ok (.invokevirtual 207, 3) := by decide +kernel
theorem d179_10 : decode prog_12_method_55_code 10 = .ok (.ireturn, 1) := by decide +kernel
theorem d180_0 : decode prog_12_method_53_code 0 = .ok (.aload_n 0, 1) := by decide +kernel
theorem d180_1 : decode prog_12_method_53_code 1 = .ok (.iconst 0, 1) := by decide +kernel
theorem d180_2 : decode prog_12_method_53_code 2 = .ok (.putfield 28, 3) := by decide +kernel
theorem d180_5 : decode prog_12_method_53_code 5 = .ok (.iload_n 1, 1) := by decide +kernel
theorem d180_6 : decode prog_12_method_53_code 6 = .ok (.ireturn, 1) := by decide +kernel
theorem d181_0 : decode prog_12_method_56_code 0 = .ok (.aload_n 0, 1) := by decide +kernel
theorem d181_1 : decode prog_12_method_56_code 1 = .ok (.aload_n 0, 1) := by decide +kernel
theorem d181_2 : decode prog_12_method_56_code 2 = .ok (.iload_n 1, 1) := by decide +kernel
theorem d181_3 : decode prog_12_method_56_code 3 = .ok (.invokevirtual 117, 3) := by decide +kernel
theorem d181_6 : decode prog_12_method_56_code 6 = .ok (.invokevirtual 207, 3) := by decide +kernel
theorem d181_9 : decode prog_12_method_56_code 9 = .ok (.ifCond .lt 7, 3) := by decide +kernel
theorem d181_12 : decode prog_12_method_56_code 12 = .ok (.iconst 1, 1) := by decide +kernel
theorem d181_13 : decode prog_12_method_56_code 13 = .ok (.goto 4, 3) := by decide +kernel
theorem d181_16 : decode prog_12_method_56_code 16 = .ok (.iconst 0, 1) := by decide +kernel
theorem d181_17 : decode prog_12_method_56_code 17 = .ok (.ireturn, 1) := by decide +kernel
theorem d182_0 : decode prog_12_method_58_code 0 = .ok (.aload_n 0, 1) := by decide +kernel
theorem d182_1 : decode prog_12_method_58_code 1 = .ok (.iload_n 1, 1) := by decide +kernel
theorem d182_2 : decode prog_12_method_58_code 2 = .ok (.iconst 3, 1) := by decide +kernel
theorem d182_3 : decode prog_12_method_58_code 3 = .ok (.invokevirtual 214, 3) := by decide +kernel
theorem d182_6 : decode prog_12_method_58_code 6 = .ok (.istore_n 2, 1) := by decide +kernel
theorem d182_7 : decode prog_12_method_58_code 7 = .ok (.aload_n 0, 1) := by decide +kernel
theorem d182_8 : decode prog_12_method_58_code 8 = .ok (.getfield 28, 3) := by decide +kernel
theorem d182_11 : decode prog_12_method_58_code 11 = .ok (.ifCond .le 8, 3) := by decide +kernel
theorem d182_14 : decode prog_12_method_58_code 14 = .ok (.bipush 32, 2) := by decide +kernel
theorem d182_16 : decode prog_12_method_58_code 16 = .ok (.goto 5, 3) := by decide +kernel
theorem d182_19 : decode prog_12_method_58_code 19 = .ok (.iload_n 2, 1) := by decide +kernel
theorem d182_20 : decode prog_12_method_58_code 20 = .ok (.i2c, 1) := by decide +kernel
theorem d182_21 : decode prog_12_method_58_code 21 = .ok (.ireturn, 1) := by decide +kernel
theorem d183_0 : decode prog_12_method_57_code 0 = .ok (.aload_n 0, 1) := by decide +kernel
theorem d183_1 : decode prog_12_method_57_code 1 = .ok (.aload_n 0, 1) := by decide +kernel
theorem d183_2 : decode prog_12_method_57_code 2 = .ok (.iload_n 1, 1) := by decide +kernel
theorem d183_3 : decode prog_12_method_57_code 3 = .ok (.invokevirtual 117, 3) := by decide +kernel
theorem d183_6 : decode prog_12_method_57_code 6 = .ok (.ifCond .lt 7, 3) := by decide +kernel
theorem d183_9 : decode prog_12_method_57_code 9 = .ok (.iconst 1, 1) := by decide +kernel
theorem d183_10 : decode prog_12_method_57_code 10 = .ok (.goto 4, 3) := by decide +kernel
theorem d183_13 : decode prog_12_method_57_code 13 = .ok (.iconst 0, 1) := by decide +kernel
theorem d183_14 : decode prog_12_method_57_code 14 = .ok (.invokevirtual 210, 3) := by decide +kernel
theorem d183_17 : decode prog_12_method_57_code 17 = .ok (.ifCond .le 7, 3) := by decide +kernel
theorem d183_20 : decode prog_12_method_57_code 20 = .ok (.iconst 0, 1) := by decide +kernel
theorem d183_21 : decode prog_12_method_57_code 21 = .ok (.goto 13, 3) := by decide +kernel
theorem d183_24 : decode prog_12_method_57_code 24 = .ok (.aload_n 0, 1) := by decide +kernel
theorem d183_25 : decode prog_12_method_57_code 25 = .ok (.aload_n 0, 1) := by decide +kernel
theorem d183_26 : decode prog_12_method_57_code 26 = .ok (.iload_n 1, 1) := by decide +kernel
theorem d183_27 : decode prog_12_method_57_code 27 = .ok (.invokevirtual 117, 3) := by decide +kernel
theorem d183_30 : decode prog_12_method_57_code 30 = .ok (.iload_n 2, 1) := by decide +kernel
theorem d183_31 : decode prog_12_method_57_code 31 = .ok (.invokevirtual 85, 3) := by decide +kernel
theorem d183_34 : decode prog_12_method_57_code 34 = .ok (.ireturn, 1) := by decide +kernel
theorem d184_0 : decode prog_12_method_54_code 0 = .ok (.aload_n 0, 1) := by decide +kernel
theorem d184_1 : decode prog_12_method_54_code 1 = .ok (.iload_n 1, 1) := by decide +kernel
theorem d184_2 : decode prog_12_method_54_code 2 = .ok (.ifCond .eq 7, 3) := by decide +kernel
theorem d184_5 : decode prog_12_method_54_code 5 = .ok (.iconst 0, 1) := by decide +kernel
theorem d184_6 : decode prog_12_method_54_code 6 = .ok (.goto 4, 3) := by decide +kernel
theorem d184_9 : decode prog_12_method_54_code 9 = .ok (.iconst 1, 1) := by decide +kernel
theorem d184_10 : decode prog_12_method_54_code 10 = .ok (.putfield 28, 3) := by decide +kernel
theorem d184_13 : decode prog_12_method_54_code 13 = .ok (.aload_n 0, 1) := by decide +kernel
theorem d184_14 : decode prog_12_method_54_code 14 = .ok (.getfield 28, 3) := by decide +kernel
theorem d184_17 : decode prog_12_method_54_code 17 = .ok (.ireturn, 1) := by decide +kernel
theorem d185_0 : decode prog_12_method_59_code 0 = .ok (.aload_n 0, 1) := by decide +kernel
theorem d185_1 : decode prog_12_method_59_code 1 = .ok (.iload_n 1, 1) := by decide +kernel
theorem d185_2 : decode prog_12_method_59_code 2 = .ok (.iconst 4, 1) := by decide +kernel
theorem d185_3 : decode prog_12_method_59_code 3 = .ok (.invokevirtual 214, 3) := by decide +kernel
theorem d185_6 : decode prog_12_method_59_code 6 = .ok (.ireturn, 1) := by decide +kernel
theorem d186_0 : decode prog_12_method_60_code 0 = .ok (.aload_n 0, 1) := by decide +kernel
theorem d186_1 : decode prog_12_method_60_code 1 = .ok (.iload_n 1, 1) := by decide +kernel
theorem d186_2 : decode prog_12_method_60_code 2 = .ok (.bipush 6, 2) := by decide +kernel
theorem d186_4 : decode prog_12_method_60_code 4 = .ok (.invokevirtual 214, 3) := by decide +kernel
theorem d186_7 : decode prog_12_method_60_code 7 = .ok (.ireturn, 1) := by decide +kernel
theorem d187_0 : decode prog_12_method_61_code 0 = .ok (.aload_n 0, 1) := by decide +kernel
theorem d187_1 : decode prog_12_method_61_code 1 = .ok (.iload_n 1, 1) := by decide +kernel
theorem d187_2 : decode prog_12_method_61_code 2 = .ok (.bipush 7, 2) := by decide +kernel
theorem d187_4 : decode prog_12_method_61_code 4 = .ok (.invokevirtual 214, 3) := by decide +kernel
theorem d187_7 : decode prog_12_method_61_code 7 = .ok (.istore_n 2, 1) := by decide +kernel
theorem d187_8 : decode prog_12_method_61_code 8 = .ok (.aload_n 0, 1) := by decide +kernel
theorem d187_9 : decode prog_12_method_61_code 9 = .ok (.getfield 28, 3) := by decide +kernel
theorem d187_12 : decode prog_12_method_61_code 12 = .ok (.ifCond .le 7, 3) := by decide +kernel
theorem d187_15 : decode prog_12_method_61_code 15 = .ok (.iconst 0, 1) := by decide +kernel
theorem d187_16 : decode prog_12_method_61_code 16 = .ok (.goto 18, 3) := by decide +kernel
theorem d187_19 : decode prog_12_method_61_code 19 = .ok (.iload_n 2, 1) := by decide +kernel
theorem d187_20 : decode prog_12_method_61_code 20 = .ok (.ifCond .ne 11, 3) := by decide +kernel
theorem d187_23 : decode prog_12_method_61_code 23 = .ok (.aload_n 0, 1) := by decide +kernel
theorem d187_24 : decode prog_12_method_61_code 24 = .ok (.iconst 1, 1) := by decide +kernel
theorem d187_25 : decode prog_12_method_61_code 25 = .ok (.invokevirtual 107, 3) := by decide +kernel
theorem d187_28 : decode prog_12_method_61_code 28 = .ok (.goto 6, 3) := by decide +kernel
theorem d187_31 : decode prog_12_method_61_code 31 = .ok (.iload_n 2, 1) := by decide +kernel
theorem d187_32 : decode prog_12_method_61_code 32 = .ok (.iconst 1, 1) := by decide +kernel
theorem d187_33 : decode prog_12_method_61_code 33 = .ok (.isub, 1) := by decide +kernel
theorem d187_34 : decode prog_12_method_61_code 34 = .ok (.ireturn, 1) := by decide +kernel
theorem d188_0 : decode prog_12_method_62_code 0 = .ok (.aload_n 0, 1) := by decide +kernel
theorem d188_1 : decode prog_12_method_62_code 1 = .ok (.iconst 0, 1) := by decide +kernel
theorem d188_2 : decode prog_12_method_62_code 2 = .ok (.putfield 28, 3) := by decide +kernel
theorem d188_5 : decode prog_12_method_62_code 5 = .ok (.iconst 0, 1) := by decide +kernel
theorem d188_6 : decode prog_12_method_62_code 6 = .ok (.istore_n 2, 1) := by decide +kernel
theorem d188_7 : decode prog_12_method_62_code 7 = .ok (.iload_n 2, 1) := by decide +kernel
theorem d188_8 : decode prog_12_method_62_code 8 = .ok (.aload_n 0, 1) := by decide +kernel
theorem d188_9 : decode prog_12_method_62_code 9 = .ok (.getfield 7, 3) := by decide +kernel
theorem d188_12 : decode prog_12_method_62_code 12 = .ok (.iconst 0, 1) := by decide +kernel
theorem d188_13 : decode prog_12_method_62_code 13 = .ok (.iaload, 1) := by decide +kernel
theorem d188_14 : decode prog_12_method_62_code 14 = .ok (.if_icmp .ge 93, 3) := by decide +kernel
theorem d188_17 : decode prog_12_method_62_code 17 = .ok (.iconst 0, 1) := by decide +kernel
theorem d188_18 : decode prog_12_method_62_code 18 = .ok (.istore_n 3, 1) := by decide +kernel
theorem d188_19 : decode prog_12_method_62_code 19 = .ok (.iconst 0, 1) := by decide +kernel
theorem d188_20 : decode prog_12_method_62_code 20 = .ok (.istore 4, 2) := by decide +kernel
theorem d188_22 : decode prog_12_method_62_code 22 = .ok (.iload 4, 2) := by decide +kernel
theorem d188_24 : decode prog_12_method_62_code 24 = .ok (.aload_n 0, 1) := by decide +kernel
theorem d188_25 : decode prog_12_method_62_code 25 = .ok (.getfield 7, 3) := by decide +kernel
theorem d188_28 : decode prog_12_method_62_code 28 = .ok (.iconst 0, 1) := by decide +kernel
theorem d188_29 : decode prog_12_method_62_code 29 = .ok (.iaload, 1) := by decide +kernel
theorem d188_30 : decode prog_12_method_62_code 30 = .ok (.if_icmp .ge 59, 3) := by decide +kernel
theorem d188_33 : decode prog_12_method_62_code 33 = .ok (.iload_n 3, 1) := by decide +kernel
theorem d188_34 : decode prog_12_method_62_code 34 = .ok (.aload_n 0, 1) := by decide +kernel
theorem d188_35 : decode prog_12_method_62_code 35 = .ok (.iload 4, 2) := by decide +kernel
theorem d188_37 : decode prog_12_method_62_code 37 = .ok (.bipush 6, 2) := by decide +kernel
theorem d188_39 : decode prog_12_method_62_code 39 = .ok (.invokevirtual 85, 3) := by decide +kernel
theorem d188_42 : decode prog_12_method_62_code 42 = .ok (.aload_n 0, 1) := by decide +kernel
theorem d188_43 : decode prog_12_method_62_code 43 = .ok (.iload_n 2, 1) := by decide +kernel
theorem d188_44 : decode prog_12_method_62_code 44 = .ok (.bipush 6, 2) := by decide +kernel
theorem d188_46 : decode prog_12_method_62_code 46 = .ok (.invokevirtual 85, 3) := by decide +kernel
theorem d188_49 : decode prog_12_method_62_code 49 = .ok (.if_icmp .lt 27, 3) := by decide +kernel
theorem d188_52 : decode prog_12_method_62_code 52 = .ok (.aload_n 0, 1) := by decide +kernel
theorem d188_53 : decode prog_12_method_62_code 53 = .ok (.iload 4, 2) := by decide +kernel
theorem d188_55 : decode prog_12_method_62_code 55 = .ok (.bipush 6, 2) := by decide +kernel
theorem d188_57 : decode prog_12_method_62_code 57 = .ok (.invokevirtual 85, 3) := by decide +kernel
theorem d188_60 : decode prog_12_method_62_code 60 = .ok (.aload_n 0, 1) := by decide +kernel
theorem d188_61 : decode prog_12_method_62_code 61 = .ok (.iload_n 2, 1) := by decide +kernel
theorem d188_62 : decode prog_12_method_62_code 62 = .ok (.bipush 6, 2) := by decide +kernel
theorem d188_64 : decode prog_12_method_62_code 64 = .ok (.invokevirtual 85, 3) := by decide +kernel
theorem d188_67 : decode prog_12_method_62_code 67 = .ok (.if_icmp .ne 13, 3) := by decide +kernel
theorem d188_70 : decode prog_12_method_62_code 70 = .ok (.iload 4, 2) := by decide +kernel
theorem d188_72 : decode prog_12_method_62_code 72 = .ok (.iload_n 2, 1) := by decide +kernel
theorem d188_73 : decode prog_12_method_62_code 73 = .ok (.if_icmp .ge 7, 3) := by decide +kernel
theorem d188_76 : decode prog_12_method_62_code 76 = .ok (.iconst 1, 1) := by decide +kernel
theorem d188_77 : decode prog_12_method_62_code 77 = .ok (.goto 4, 3) := by decide +kernel
theorem d188_80 : decode prog_12_method_62_code 80 = .ok (.iconst 0, 1) := by decide +kernel
theorem d188_81 : decode prog_12_method_62_code 81 = .ok (.iadd, 1) := by decide +kernel
theorem d188_82 : decode prog_12_method_62_code 82 = .ok (.istore_n 3, 1) := by decide +kernel
theorem d188_83 : decode prog_12_method_62_code 83 = .ok (.iinc 4 1, 3) := by decide +kernel
theorem d188_86 : decode prog_12_method_62_code 86 = .ok (.goto (-64), 3) := by decide +kernel
theorem d188_89 : decode prog_12_method_62_code 89 = .ok (.iload_n 3, 1) := by decide +kernel
theorem d188_90 : decode prog_12_method_62_code 90 = .ok (.iload_n 1, 1) := by decide +kernel
theorem d188_91 : decode prog_12_method_62_code 91 = .ok (.if_icmp .ne 10, 3) := by decide +kernel
theorem d188_94 : decode prog_12_method_62_code 94 = .ok (.aload_n 0, 1) := by decide +kernel
theorem d188_95 : decode prog_12_method_62_code 95 = .ok (.iload_n 2, 1) := by decide +kernel
theorem d188_96 : decode prog_12_method_62_code 96 = .ok (.iconst 0, 1) := by decide +kernel
theorem d188_97 : decode prog_12_method_62_code 97 = .ok (.invokevirtual 85, 3) := by decide +kernel
theorem d188_100 : decode prog_12_method_62_code 100 = .ok (.ireturn, 1) := by decide +kernel
theorem d188_101 : decode prog_12_method_62_code 101 = .ok (.iinc 2 1, 3) := by decide +kernel
theorem d188_104 : decode prog_12_method_62_code 104 = .ok (.goto (-97), 3) := by decide +kernel
theorem d188_107 : decode prog_12_method_62_code 107 = .ok (.aload_n 0, 1) := by decide +kernel
theorem d188_108 : decode prog_12_method_62_code 108 = .ok (.iconst 1, 1) := by decide +kernel
theorem d188_109 : decode prog_12_method_62_code 109 = .ok (.invokevirtual 107, 3) := by decide +kernel
theorem d188_112 : decode prog_12_method_62_code 112 = .ok (.ireturn, 1) := by decide +kernel
theorem d189_0 : decode prog_12_method_63_code 0 = .ok (.aload_n 0, 1) := by decide +kernel
theorem d189_1 : decode prog_12_method_63_code 1 = .ok (.iload_n 1, 1) := by decide +kernel
theorem d189_2 : decode prog_12_method_63_code 2 = .ok (.invokestatic 93, 3) := by decide +kernel
theorem d189_5 : decode prog_12_method_63_code 5 = .ok (.invokevirtual 210, 3) := by decide +kernel
theorem d189_8 : decode prog_12_method_63_code 8 = .ok (.ifCond .le 7, 3) := by decide +kernel
theorem d189_11 : decode prog_12_method_63_code 11 = .ok (.iconst 0, 1) := by decide +kernel
theorem d189_12 : decode prog_12_method_63_code 12 = .ok (.goto 15, 3) := by decide +kernel
theorem d189_15 : decode prog_12_method_63_code 15 = .ok (.aload_n 0, 1) := by decide +kernel
theorem d189_16 : decode prog_12_method_63_code 16 = .ok (.getfield 7, 3) := by decide +kernel
theorem d189_19 : decode prog_12_method_63_code 19 = .ok (.bipush 8, 2) := by decide +kernel
theorem d189_21 : decode prog_12_method_63_code 21 = .ok (.iload_n 1, 1) := by decide +kernel
theorem d189_22 : decode prog_12_method_63_code 22 = .ok (.iadd, 1) := by decide +kernel
theorem d189_23 : decode prog_12_method_63_code 23 = .ok (.bipush 97, 2) := by decide +kernel
theorem d189_25 : decode prog_12_method_63_code 25 = .ok (.isub, 1) := by decide +kernel
theorem d189_26 : decode prog_12_method_63_code 26 = .ok (.iaload, 1) := by decide +kernel
theorem d189_27 : decode prog_12_method_63_code 27 = .ok (.ireturn, 1) := by decide +kernel
theorem d190_0 : decode prog_12_method_64_code 0 = .ok (.aload_n 0, 1) := by decide +kernel
theorem d190_1 : decode prog_12_method_64_code 1 = .ok (.iload_n 1, 1) := by decide +kernel
theorem d190_2 : decode prog_12_method_64_code 2 = .ok (.invokestatic 123, 3) := by decide +kernel
theorem d190_5 : decode prog_12_method_64_code 5 = .ok (.ifCond .ne 7, 3) := by decide +kernel
theorem d190_8 : decode prog_12_method_64_code 8 = .ok (.iconst 1, 1) := by decide +kernel
theorem d190_9 : decode prog_12_method_64_code 9 = .ok (.goto 15, 3) := by decide +kernel
theorem d190_12 : decode prog_12_method_64_code 12 = .ok (.iload_n 2, 1) := by decide +kernel
theorem d190_13 : decode prog_12_method_64_code 13 = .ok (.invokestatic 93, 3) := by decide +kernel
theorem d190_16 : decode prog_12_method_64_code 16 = .ok (.ifCond .ne 7, 3) := by decide +kernel
theorem d190_19 : decode prog_12_method_64_code 19 = .ok (.iconst 2, 1) := by decide +kernel
theorem d190_20 : decode prog_12_method_64_code 20 = .ok (.goto 4, 3) := by decide +kernel
theorem d190_23 : decode prog_12_method_64_code 23 = .ok (.iconst 0, 1) := by decide +kernel
theorem d190_24 : decode prog_12_method_64_code 24 = .ok (.putfield 28, 3) := by decide +kernel
theorem d190_27 : decode prog_12_method_64_code 27 = .ok (.aload_n 0, 1) := by decide +kernel
theorem d190_28 : decode prog_12_method_64_code 28 = .ok (.getfield 28, 3) := by decide +kernel
theorem d190_31 : decode prog_12_method_64_code 31 = .ok (.ifCond .le 7, 3) := by decide +kernel
theorem d190_34 : decode prog_12_method_64_code 34 = .ok (.iconst 0, 1) := by decide +kernel
theorem d190_35 : decode prog_12_method_64_code 35 = .ok (.goto 14, 3) := by decide +kernel
theorem d190_38 : decode prog_12_method_64_code 38 = .ok (.aload_n 0, 1) := by decide +kernel
theorem d190_39 : decode prog_12_method_64_code 39 = .ok (.iload_n 1, 1) := by decide +kernel
theorem d190_40 : decode prog_12_method_64_code 40 = .ok (.iconst 4, 1) := by decide +kernel
theorem d190_41 : decode prog_12_method_64_code 41 = .ok (.iload_n 2, 1) := by decide +kernel
theorem d190_42 : decode prog_12_method_64_code 42 = .ok (.iadd, 1) := by decide +kernel
theorem d190_43 : decode prog_12_method_64_code 43 = .ok (.bipush 97, 2) := by decide +kernel
theorem d190_45 : decode prog_12_method_64_code 45 = .ok (.isub, 1) := by decide +kernel
theorem d190_46 : decode prog_12_method_64_code 46 = .ok (.invokevirtual 147, 3) := by decide +kernel
theorem d190_49 : decode prog_12_method_64_code 49 = .ok (.ireturn, 1) := by decide +kernel
theorem d191_0 : decode prog_12_method_65_code 0 = .ok (.aload_n 0, 1) := by decide +kernel
theorem d191_1 : decode prog_12_method_65_code 1 = .ok (.iload_n 1, 1) := by decide +kernel
theorem d191_2 : decode prog_12_method_65_code 2 = .ok (.invokestatic 123, 3) := by decide +kernel
theorem d191_5 : decode prog_12_method_65_code 5 = .ok (.invokevirtual 210, 3) := by decide +kernel
theorem d191_8 : decode prog_12_method_65_code 8 = .ok (.ifCond .le 7, 3) := by decide +kernel
theorem d191_11 : decode prog_12_method_65_code 11 = .ok (.iconst 0, 1) := by decide +kernel
theorem d191_12 : decode prog_12_method_65_code 12 = .ok (.goto 8, 3) := by decide +kernel
theorem d191_15 : decode prog_12_method_65_code 15 = .ok (.aload_n 0, 1) := by decide +kernel
theorem d191_16 : decode prog_12_method_65_code 16 = .ok (.iload_n 1, 1) := by decide +kernel
theorem d191_17 : decode prog_12_method_65_code 17 = .ok (.invokevirtual 167, 3) := by decide +kernel
theorem d191_20 : decode prog_12_method_65_code 20 = .ok (.ireturn, 1) := by decide +kernel
theorem d192_0 : decode prog_12_method_66_code 0 = .ok (.aload_n 0, 1) := by decide +kernel
theorem d192_1 : decode prog_12_method_66_code 1 = .ok (.iload_n 1, 1) := by decide +kernel
theorem d192_2 : decode prog_12_method_66_code 2 = .ok (.invokestatic 97, 3) := by decide +kernel
theorem d192_5 : decode prog_12_method_66_code 5 = .ok (.ifCond .ne 7, 3) := by decide +kernel
theorem d192_8 : decode prog_12_method_66_code 8 = .ok (.iconst 1, 1) := by decide +kernel
theorem d192_9 : decode prog_12_method_66_code 9 = .ok (.goto 20, 3) := by decide +kernel
theorem d192_12 : decode prog_12_method_66_code 12 = .ok (.aload_n 0, 1) := by decide +kernel
theorem d192_13 : decode prog_12_method_66_code 13 = .ok (.getfield 7, 3) := by decide +kernel
theorem d192_16 : decode prog_12_method_66_code 16 = .ok (.bipush 12, 2) := by decide +kernel
theorem d192_18 : decode prog_12_method_66_code 18 = .ok (.iload_n 1, 1) := by decide +kernel
theorem d192_19 : decode prog_12_method_66_code 19 = .ok (.iadd, 1) := by decide +kernel
theorem d192_20 : decode prog_12_method_66_code 20 = .ok (.iaload, 1) := by decide +kernel
theorem d192_21 : decode prog_12_method_66_code 21 = .ok (.ifCond .ne 7, 3) := by decide +kernel
theorem d192_24 : decode prog_12_method_66_code 24 = .ok (.iconst 2, 1) := by decide +kernel
theorem d192_25 : decode prog_12_method_66_code 25 = .ok (.goto 4, 3) := by decide +kernel
theorem d192_28 : decode prog_12_method_66_code 28 = .ok (.iconst 0, 1) := by decide +kernel
theorem d192_29 : decode prog_12_method_66_code 29 = .ok (.putfield 28, 3) := by decide +kernel
theorem d192_32 : decode prog_12_method_66_code 32 = .ok (.aload_n 0, 1) := by decide +kernel
theorem d192_33 : decode prog_12_method_66_code 33 = .ok (.getfield 28, 3) := by decide +kernel
theorem d192_36 : decode prog_12_method_66_code 36 = .ok (.ifCond .le 7, 3) := by decide +kernel
theorem d192_39 : decode prog_12_method_66_code 39 = .ok (.iconst 0, 1) := by decide +kernel
theorem d192_40 : decode prog_12_method_66_code 40 = .ok (.goto 14, 3) := by decide +kernel
theorem d192_43 : decode prog_12_method_66_code 43 = .ok (.aload_n 0, 1) := by decide +kernel
theorem d192_44 : decode prog_12_method_66_code 44 = .ok (.getfield 7, 3) := by decide +kernel
theorem d192_47 : decode prog_12_method_66_code 47 = .ok (.bipush 12, 2) := by decide +kernel
theorem d192_49 : decode prog_12_method_66_code 49 = .ok (.iload_n 1, 1) := by decide +kernel
theorem d192_50 : decode prog_12_method_66_code 50 = .ok (.iadd, 1) := by decide +kernel
theorem d192_51 : decode prog_12_method_66_code 51 = .ok (.iaload, 1) := by decide +kernel
theorem d192_52 : decode prog_12_method_66_code 52 = .ok (.iconst 1, 1) := by decide +kernel
theorem d192_53 : decode prog_12_method_66_code 53 = .ok (.isub, 1) := by decide +kernel
theorem d192_54 : decode prog_12_method_66_code 54 = .ok (.ireturn, 1) := by decide +kernel
theorem d193_0 : decode prog_12_method_68_code 0 = .ok (.aload_n 0, 1) := by decide +kernel
theorem d193_1 : decode prog_12_method_68_code 1 = .ok (.iload_n 1, 1) := by decide +kernel
theorem d193_2 : decode prog_12_method_68_code 2 = .ok (.iconst 0, 1) := by decide +kernel
theorem d193_3 : decode prog_12_method_68_code 3 = .ok (.invokevirtual 217, 3) := by decide +kernel
theorem d193_6 : decode prog_12_method_68_code 6 = .ok (.ireturn, 1) := by decide +kernel
theorem d194_0 : decode prog_12_method_67_code 0 = .ok (.aload_n 0, 1) := by decide +kernel
theorem d194_1 : decode prog_12_method_67_code 1 = .ok (.iload_n 1, 1) := by decide +kernel
theorem d194_2 : decode prog_12_method_67_code 2 = .ok (.invokestatic 123, 3) := by decide +kernel
theorem d194_5 : decode prog_12_method_67_code 5 = .ok (.invokevirtual 210, 3) := by decide +kernel
theorem d194_8 : decode prog_12_method_67_code 8 = .ok (.ifCond .le 7, 3) := by decide +kernel
theorem d194_11 : decode prog_12_method_67_code 11 = .ok (.iconst 0, 1) := by decide +kernel
theorem d194_12 : decode prog_12_method_67_code 12 = .ok (.goto 9, 3) := by decide +kernel
theorem d194_15 : decode prog_12_method_67_code 15 = .ok (.aload_n 0, 1) := by decide +kernel
theorem d194_16 : decode prog_12_method_67_code 16 = .ok (.iload_n 1, 1) := by decide +kernel
theorem d194_17 : decode prog_12_method_67_code 17 = .ok (.iload_n 2, 1) := by decide +kernel
theorem d194_18 : decode prog_12_method_67_code 18 = .ok (.invokevirtual 147, 3) := by decide +kernel
theorem d194_21 : decode prog_12_method_67_code 21 = .ok (.ireturn, 1) := by decide +kernel
theorem d195_0 : decode prog_12_method_69_code 0 = .ok (.aload_n 0, 1) := by decide +kernel
theorem d195_1 : decode prog_12_method_69_code 1 = .ok (.iload_n 1, 1) := by decide +kernel
theorem d195_2 : decode prog_12_method_69_code 2 = .ok (.iconst 1, 1) := by decide +kernel
theorem d195_3 : decode prog_12_method_69_code 3 = .ok (.invokevirtual 217, 3) := by decide +kernel
theorem d195_6 : decode prog_12_method_69_code 6 = .ok (.ireturn, 1) := by decide +kernel
theorem d196_0 : decode prog_12_method_70_code 0 = .ok (.aload_n 0, 1) := by decide +kernel
theorem d196_1 : decode prog_12_method_70_code 1 = .ok (.iload_n 1, 1) := by decide +kernel
theorem d196_2 : decode prog_12_method_70_code 2 = .ok (.iconst 2, 1) := by decide +kernel
theorem d196_3 : decode prog_12_method_70_code 3 = .ok (.invokevirtual 217, 3) := by decide +kernel
theorem d196_6 : decode prog_12_method_70_code 6 = .ok (.ireturn, 1) := by decide +kernel
theorem d197_0 : decode prog_12_method_71_code 0 = .ok (.aload_n 0, 1) := by decide +kernel
theorem d197_1 : decode prog_12_method_71_code 1 = .ok (.iload_n 1, 1) := by decide +kernel
theorem d197_2 : decode prog_12_method_71_code 2 = .ok (.invokestatic 123, 3) := by decide +kernel
theorem d197_5 : decode prog_12_method_71_code 5 = .ok (.invokevirtual 210, 3) := by decide +kernel
theorem d197_8 : decode prog_12_method_71_code 8 = .ok (.ifCond .ne 15, 3) := by decide +kernel
theorem d197_11 : decode prog_12_method_71_code 11 = .ok (.aload_n 0, 1) := by decide +kernel
theorem d197_12 : decode prog_12_method_71_code 12 = .ok (.iload_n 1, 1) := by decide +kernel
theorem d197_13 : decode prog_12_method_71_code 13 = .ok (.invokevirtual 150, 3) := by decide +kernel
theorem d197_16 : decode prog_12_method_71_code 16 = .ok (.ifCond .eq 7, 3) := by decide +kernel
theorem d197_19 : decode prog_12_method_71_code 19 = .ok (.iconst 1, 1) := by decide +kernel
theorem d197_20 : decode prog_12_method_71_code 20 = .ok (.goto 4, 3) := by decide +kernel
theorem d197_23 : decode prog_12_method_71_code 23 = .ok (.iconst 0, 1) := by decide +kernel
theorem d197_24 : decode prog_12_method_71_code 24 = .ok (.ireturn, 1) := by decide +kernel
theorem d198_0 : decode prog_12_method_72_code 0 = .ok (.aload_n 0, 1) := by decide +kernel
theorem d198_1 : decode prog_12_method_72_code 1 = .ok (.iload_n 1, 1) := by decide +kernel
theorem d198_2 : decode prog_12_method_72_code 2 = .ok (.invokestatic 123, 3) := by decide +kernel
theorem d198_5 : decode prog_12_method_72_code 5 = .ok (.invokevirtual 210, 3) := by decide +kernel
theorem d198_8 : decode prog_12_method_72_code 8 = .ok (.ifCond .le 7, 3) := by decide +kernel
theorem d198_11 : decode prog_12_method_72_code 11 = .ok (.iconst 0, 1) := by decide +kernel
theorem d198_12 : decode prog_12_method_72_code 12 = .ok (.goto 8, 3) := by decide +kernel
theorem d198_15 : decode prog_12_method_72_code 15 = .ok (.aload_n 0, 1) := by decide +kernel
theorem d198_16 : decode prog_12_method_72_code 16 = .ok (.iload_n 1, 1) := by decide +kernel
theorem d198_17 : decode prog_12_method_72_code 17 = .ok (.invokevirtual 126, 3) := by decide +kernel
theorem d198_20 : decode prog_12_method_72_code 20 = .ok (.ireturn, 1) := by decide +kernel
theorem d199_0 : decode prog_12_method_74_code 0 = .ok (.aload_n 0, 1) := by decide +kernel
theorem d199_1 : decode prog_12_method_74_code 1 = .ok (.iload_n 1, 1) := by decide +kernel
theorem d199_2 : decode prog_12_method_74_code 2 = .ok (.iload_n 2, 1) := by decide +kernel
theorem d199_3 : decode prog_12_method_74_code 3 = .ok (.invokevirtual 220, 3) := by decide +kernel
theorem d199_6 : decode prog_12_method_74_code 6 = .ok (.ifCond .eq 33, 3) := by decide +kernel
theorem d199_9 : decode prog_12_method_74_code 9 = .ok (.aload_n 0, 1) := by decide +kernel
theorem d199_10 : decode prog_12_method_74_code 10 = .ok (.iload_n 1, 1) := by decide +kernel
theorem d199_11 : decode prog_12_method_74_code 11 = .ok (.aload_n 0, 1) := by decide +kernel
theorem d199_12 : decode prog_12_method_74_code 12 = .ok (.iload_n 2, 1) := by decide +kernel
theorem d199_13 : decode prog_12_method_74_code 13 = .ok (.invokevirtual 117, 3) := by decide +kernel
theorem d199_16 : decode prog_12_method_74_code 16 = .ok (.invokevirtual 182, 3) := by decide +kernel
theorem d199_19 : decode prog_12_method_74_code 19 = .ok (.ifCond .eq 20, 3) := by decide +kernel
theorem d199_22 : decode prog_12_method_74_code 22 = .ok (.aload_n 0, 1) := by decide +kernel
theorem d199_23 : decode prog_12_method_74_code 23 = .ok (.iload_n 1, 1) := by decide +kernel
theorem d199_24 : decode prog_12_method_74_code 24 = .ok (.aload_n 0, 1) := by decide +kernel
theorem d199_25 : decode prog_12_method_74_code 25 = .ok (.iload_n 2, 1) := by decide +kernel
theorem d199_26 : decode prog_12_method_74_code 26 = .ok (.invokevirtual 117, 3) := by decide +kernel
theorem d199_29 : decode prog_12_method_74_code 29 = .ok (.invokevirtual 186, 3) := by decide +kernel
theorem d199_32 : decode prog_12_method_74_code 32 = .ok (.ifCond .eq 7, 3) := by decide +kernel
theorem d199_35 : decode prog_12_method_74_code 35 = .ok (.iconst 1, 1) := by decide +kernel
theorem d199_36 : decode prog_12_method_74_code 36 = .ok (.goto 4, 3) := by decide +kernel
theorem d199_39 : decode prog_12_method_74_code 39 = .ok (.iconst 0, 1) := by decide +kernel
theorem d199_40 : decode prog_12_method_74_code 40 = .ok (.ireturn, 1) := by decide +kernel
theorem d200_0 : decode prog_12_method_73_code 0 = .ok (.aload_n 0, 1) := by decide +kernel
theorem d200_1 : decode prog_12_method_73_code 1 = .ok (.iload_n 1, 1) := by decide +kernel
theorem d200_2 : decode prog_12_method_73_code 2 = .ok (.invokestatic 123, 3) := by decide +kernel
theorem d200_5 : decode prog_12_method_73_code 5 = .ok (.ifCond .ne 7, 3) := by decide +kernel
theorem d200_8 : decode prog_12_method_73_code 8 = .ok (.iconst 1, 1) := by decide +kernel
theorem d200_9 : decode prog_12_method_73_code 9 = .ok (.goto 16, 3) := by decide +kernel
theorem d200_12 : decode prog_12_method_73_code 12 = .ok (.aload_n 0, 1) := by decide +kernel
theorem d200_13 : decode prog_12_method_73_code 13 = .ok (.iload_n 2, 1) := by decide +kernel
theorem d200_14 : decode prog_12_method_73_code 14 = .ok (.invokevirtual 117, 3) := by decide +kernel
theorem d200_17 : decode prog_12_method_73_code 17 = .ok (.ifCond .ge 7, 3) := by decide +kernel
theorem d200_20 : decode prog_12_method_73_code 20 = .ok (.iconst 2, 1) := by decide +kernel
theorem d200_21 : decode prog_12_method_73_code 21 = .ok (.goto 4, 3) := by decide +kernel
theorem d200_24 : decode prog_12_method_73_code 24 = .ok (.iconst 0, 1) := by decide +kernel
theorem d200_25 : decode prog_12_method_73_code 25 = .ok (.putfield 28, 3) := by decide +kernel
theorem d200_28 : decode prog_12_method_73_code 28 = .ok (.aload_n 0, 1) := by decide +kernel
theorem d200_29 : decode prog_12_method_73_code 29 = .ok (.getfield 28, 3) := by decide +kernel
theorem d200_32 : decode prog_12_method_73_code 32 = .ok (.ifCond .ne 7, 3) := by decide +kernel
theorem d200_35 : decode prog_12_method_73_code 35 = .ok (.iconst 1, 1) := by decide +kernel
theorem d200_36 : decode prog_12_method_73_code 36 = .ok (.goto 4, 3) := by decide +kernel
theorem d200_39 : decode prog_12_method_73_code 39 = .ok (.iconst 0, 1) := by decide +kernel
theorem d200_40 : decode prog_12_method_73_code 40 = .ok (.ireturn, 1) := by decide +kernel
theorem d201_0 : decode prog_12_method_75_code 0 = .ok (.aload_n 0, 1) := by decide +kernel
theorem d201_1 : decode prog_12_method_75_code 1 = .ok (.iload_n 1, 1) := by decide +kernel
theorem d201_2 : decode prog_12_method_75_code 2 = .ok (.iload_n 2, 1) := by decide +kernel
theorem d201_3 : decode prog_12_method_75_code 3 = .ok (.invokevirtual 220, 3) := by decide +kernel
theorem d201_6 : decode prog_12_method_75_code 6 = .ok (.ifCond .eq 16, 3) := by decide +kernel
theorem d201_9 : decode prog_12_method_75_code 9 = .ok (.aload_n 0, 1) := by decide +kernel
theorem d201_10 : decode prog_12_method_75_code 10 = .ok (.iload_n 1, 1) := by decide +kernel
theorem d201_11 : decode prog_12_method_75_code 11 = .ok (.aload_n 0, 1) := by decide +kernel
theorem d201_12 : decode prog_12_method_75_code 12 = .ok (.iload_n 2, 1) := by decide +kernel
theorem d201_13 : decode prog_12_method_75_code 13 = .ok (.invokevirtual 117, 3) := by decide +kernel
theorem d201_16 : decode prog_12_method_75_code 16 = .ok (.invokevirtual 189, 3) := by decide +kernel
theorem d201_19 : decode prog_12_method_75_code 19 = .ok (.goto 4, 3) := by decide +kernel
theorem d201_22 : decode prog_12_method_75_code 22 = .ok (.iconst 0, 1) := by decide +kernel
theorem d201_23 : decode prog_12_method_75_code 23 = .ok (.ireturn, 1) := by decide +kernel
theorem d202_0 : decode prog_12_method_76_code 0 = .ok (.aload_n 0, 1) := by decide +kernel
theorem d202_1 : decode prog_12_method_76_code 1 = .ok (.aload_n 0, 1) := by decide +kernel
theorem d202_2 : decode prog_12_method_76_code 2 = .ok (.iload_n 1, 1) := by decide +kernel
theorem d202_3 : decode prog_12_method_76_code 3 = .ok (.invokevirtual 117, 3) := by decide +kernel
theorem d202_6 : decode prog_12_method_76_code 6 = .ok (.ifCond .lt 7, 3) := by decide +kernel
theorem d202_9 : decode prog_12_method_76_code 9 = .ok (.iconst 1, 1) := by decide +kernel
theorem d202_10 : decode prog_12_method_76_code 10 = .ok (.goto 4, 3) := by decide +kernel
theorem d202_13 : decode prog_12_method_76_code 13 = .ok (.iconst 0, 1) := by decide +kernel
theorem d202_14 : decode prog_12_method_76_code 14 = .ok (.invokevirtual 210, 3) := by decide +kernel
theorem d202_17 : decode prog_12_method_76_code 17 = .ok (.ifCond .le 5, 3) := by decide +kernel
theorem d202_20 : decode prog_12_method_76_code 20 = .ok (.iconst 0, 1) := by decide +kernel
theorem d202_21 : decode prog_12_method_76_code 21 = .ok (.ireturn, 1) := by decide +kernel
theorem d202_22 : decode prog_12_method_76_code 22 = .ok (.iconst 0, 1) := by decide +kernel
theorem d202_23 : decode prog_12_method_76_code 23 = .ok (.istore_n 2, 1) := by decide +kernel
theorem d202_24 : decode prog_12_method_76_code 24 = .ok (.iconst 1, 1) := by decide +kernel
theorem d202_25 : decode prog_12_method_76_code 25 = .ok (.istore_n 3, 1) := by decide +kernel
theorem d202_26 : decode prog_12_method_76_code 26 = .ok (.iload_n 3, 1) := by decide +kernel
theorem d202_27 : decode prog_12_method_76_code 27 = .ok (.iconst 3, 1) := by decide +kernel
theorem d202_28 : decode prog_12_method_76_code 28 = .ok (.if_icmp .ge 38, 3) := by decide +kernel
theorem d202_31 : decode prog_12_method_76_code 31 = .ok (.aload_n 0, 1) := by decide +kernel
theorem d202_32 : decode prog_12_method_76_code 32 = .ok (.iload_n 3, 1) := by decide +kernel
theorem d202_33 : decode prog_12_method_76_code 33 = .ok (.aload_n 0, 1) := by decide +kernel
theorem d202_34 : decode prog_12_method_76_code 34 = .ok (.iload_n 1, 1) := by decide +kernel
theorem d202_35 : decode prog_12_method_76_code 35 = .ok (.invokevirtual 117, 3) := by decide +kernel
theorem d202_38 : decode prog_12_method_76_code 38 = .ok (.invokevirtual 189, 3) := by decide +kernel
theorem d202_41 : decode prog_12_method_76_code 41 = .ok (.aload_n 0, 1) := by decide +kernel
theorem d202_42 : decode prog_12_method_76_code 42 = .ok (.iload_n 2, 1) := by decide +kernel
theorem d202_43 : decode prog_12_method_76_code 43 = .ok (.aload_n 0, 1) := by decide +kernel
theorem d202_44 : decode prog_12_method_76_code 44 = .ok (.iload_n 1, 1) := by decide +kernel
theorem d202_45 : decode prog_12_method_76_code 45 = .ok (.invokevirtual 117, 3) := by decide +kernel
theorem d202_48 : decode prog_12_method_76_code 48 = .ok (.invokevirtual 189, 3) := by decide +kernel
theorem d202_51 : decode prog_12_method_76_code 51 = .ok (.if_icmp .ge 7, 3) := by decide +kernel
theorem d202_54 : decode prog_12_method_76_code 54 = .ok (.iload_n 3, 1) := by decide +kernel
theorem d202_55 : decode prog_12_method_76_code 55 = .ok (.goto 4, 3) := by decide +kernel
theorem d202_58 : decode prog_12_method_76_code 58 = .ok (.iload_n 2, 1) := by decide +kernel
theorem d202_59 : decode prog_12_method_76_code 59 = .ok (.istore_n 2, 1) := by decide +kernel
theorem d202_60 : decode prog_12_method_76_code 60 = .ok (.iinc 3 1, 3) := by decide +kernel
theorem d202_63 : decode prog_12_method_76_code 63 = .ok (.goto (-37), 3) := by decide +kernel
theorem d202_66 : decode prog_12_method_76_code 66 = .ok (.iload_n 2, 1) := by decide +kernel
theorem d202_67 : decode prog_12_method_76_code 67 = .ok (.ireturn, 1) := by decide +kernel
theorem d203_0 : decode prog_12_method_83_code 0 = .ok (.aload_n 0, 1) := by decide +kernel
theorem d203_1 : decode prog_12_method_83_code 1 = .ok (.iload_n 1, 1) := by decide +kernel
theorem d203_2 : decode prog_12_method_83_code 2 = .ok (.invokevirtual 241, 3) := by decide +kernel
theorem d203_5 : decode prog_12_method_83_code 5 = .ok (.ireturn, 1) := by decide +kernel
theorem d204_0 : decode prog_12_method_82_code 0 = .ok (.aload_n 0, 1) := by decide +kernel
theorem d204_1 : decode prog_12_method_82_code 1 = .ok (.iload_n 1, 1) := by decide +kernel
theorem d204_2 : decode prog_12_method_82_code 2 = .ok (.invokestatic 123, 3) := by decide +kernel
theorem d204_5 : decode prog_12_method_82_code 5 = .ok (.invokevirtual 210, 3) := by decide +kernel
theorem d204_8 : decode prog_12_method_82_code 8 = .ok (.ifCond .le 5, 3) := by decide +kernel
theorem d204_11 : decode prog_12_method_82_code 11 = .ok (.iconst 0, 1) := by decide +kernel
theorem d204_12 : decode prog_12_method_82_code 12 = .ok (.ireturn, 1) := by decide +kernel
theorem d204_13 : decode prog_12_method_82_code 13 = .ok (.aload_n 0, 1) := by decide +kernel
theorem d204_14 : decode prog_12_method_82_code 14 = .ok (.iload_n 1, 1) := by decide +kernel
theorem d204_15 : decode prog_12_method_82_code 15 = .ok (.invokevirtual 238, 3) := by decide +kernel
theorem d204_18 : decode prog_12_method_82_code 18 = .ok (.aload_n 0, 1) := by decide +kernel
theorem d204_19 : decode prog_12_method_82_code 19 = .ok (.getfield 44, 3) := by decide +kernel
theorem d204_22 : decode prog_12_method_82_code 22 = .ok (.ireturn, 1) := by decide +kernel
theorem d205_0 : decode prog_12_method_81_code 0 = .ok (.aload_n 0, 1) := by decide +kernel
theorem d205_1 : decode prog_12_method_81_code 1 = .ok (.iconst 0, 1) := by decide +kernel
theorem d205_2 : decode prog_12_method_81_code 2 = .ok (.putfield 41, 3) := by decide +kernel
theorem d205_5 : decode prog_12_method_81_code 5 = .ok (.iconst 0, 1) := by decide +kernel
theorem d205_6 : decode prog_12_method_81_code 6 = .ok (.istore_n 2, 1) := by decide +kernel
theorem d205_7 : decode prog_12_method_81_code 7 = .ok (.iload_n 2, 1) := by decide +kernel
theorem d205_8 : decode prog_12_method_81_code 8 = .ok (.aload_n 0, 1) := by decide +kernel
theorem d205_9 : decode prog_12_method_81_code 9 = .ok (.getfield 7, 3) := by decide +kernel
theorem d205_12 : decode prog_12_method_81_code 12 = .ok (.iconst 0, 1) := by decide +kernel
theorem d205_13 : decode prog_12_method_81_code 13 = .ok (.iaload, 1) := by decide +kernel
theorem d205_14 : decode prog_12_method_81_code 14 = .ok (.if_icmp .ge 45, 3) := by decide +kernel
theorem d205_17 : decode prog_12_method_81_code 17 = .ok (.aload_n 0, 1) := by decide +kernel
theorem d205_18 : decode prog_12_method_81_code 18 = .ok (.iload_n 2, 1) := by decide +kernel
theorem d205_19 : decode prog_12_method_81_code 19 = .ok (.bipush 7, 2) := by decide +kernel
theorem d205_21 : decode prog_12_method_81_code 21 = .ok (.invokevirtual 85, 3) := by decide +kernel
theorem d205_24 : decode prog_12_method_81_code 24 = .ok (.iload_n 1, 1) := by decide +kernel
theorem d205_25 : decode prog_12_method_81_code 25 = .ok (.iconst 1, 1) := by decide +kernel
theorem d205_26 : decode prog_12_method_81_code 26 = .ok (.iadd, 1) := by decide +kernel
theorem d205_27 : decode prog_12_method_81_code 27 = .ok (.if_icmp .eq 6, 3) := by decide +kernel
theorem d205_30 : decode prog_12_method_81_code 30 = .ok (.goto 23, 3) := by decide +kernel
theorem d205_33 : decode prog_12_method_81_code 33 = .ok (.aload_n 0, 1) := by decide +kernel
theorem d205_34 : decode prog_12_method_81_code 34 = .ok (.getfield 22, 3) := by decide +kernel
theorem d205_37 : decode prog_12_method_81_code 37 = .ok (.aload_n 0, 1) := by decide +kernel
theorem d205_38 : decode prog_12_method_81_code 38 = .ok (.getfield 41, 3) := by decide +kernel
theorem d205_41 : decode prog_12_method_81_code 41 = .ok (.iload_n 2, 1) := by decide +kernel
theorem d205_42 : decode prog_12_method_81_code 42 = .ok (.iastore, 1) := by decide +kernel
theorem d205_43 : decode prog_12_method_81_code 43 = .ok (.aload_n 0, 1) := by decide +kernel
theorem d205_44 : decode prog_12_method_81_code 44 = .ok (.dup, 1) := by decide +kernel
theorem d205_45 : decode prog_12_method_81_code 45 = .ok (.getfield 41, 3) := by decide +kernel
theorem d205_48 : decode prog_12_method_81_code 48 = .ok (.iconst 1, 1) := by decide +kernel
theorem d205_49 : decode prog_12_method_81_code 49 = .ok (.iadd, 1) := by decide +kernel
theorem d205_50 : decode prog_12_method_81_code 50 = .ok (.putfield 41, 3) := by decide +kernel
theorem d205_53 : decode prog_12_method_81_code 53 = .ok (.iinc 2 1, 3) := by decide +kernel
theorem d205_56 : decode prog_12_method_81_code 56 = .ok (.goto (-49), 3) := by decide +kernel
theorem d205_59 : decode prog_12_method_81_code 59 = .ok (.aload_n 0, 1) := by decide +kernel
theorem d205_60 : decode prog_12_method_81_code 60 = .ok (.aload_n 0, 1) := by decide +kernel
theorem d205_61 : decode prog_12_method_81_code 61 = .ok (.iload_n 1, 1) := by decide +kernel
theorem d205_62 : decode prog_12_method_81_code 62 = .ok (.invokevirtual 227, 3) := by decide +kernel
theorem d205_65 : decode prog_12_method_81_code 65 = .ok (.invokevirtual 230, 3) := by decide +kernel
theorem d205_68 : decode prog_12_method_81_code 68 = .ok (.aload_n 0, 1) := by decide +kernel
theorem d205_69 : decode prog_12_method_81_code 69 = .ok (.invokevirtual 234, 3) := by decide +kernel
theorem d205_72 : decode prog_12_method_81_code 72 = .ok (.ifCond .eq 25, 3) := by decide +kernel
theorem d205_75 : decode prog_12_method_81_code 75 = .ok (.aload_n 0, 1) := by decide +kernel
theorem d205_76 : decode prog_12_method_81_code 76 = .ok (.iload_n 1, 1) := by decide +kernel
theorem d205_77 : decode prog_12_method_81_code 77 = .ok (.invokevirtual 227, 3) := by decide +kernel
theorem d205_80 : decode prog_12_method_81_code 80 = .ok (.istore_n 2, 1) := by decide +kernel
theorem d205_81 : decode prog_12_method_81_code 81 = .ok (.iload_n 2, 1) := by decide +kernel
theorem d205_82 : decode prog_12_method_81_code 82 = .ok (.aload_n 0, 1) := by decide +kernel
theorem d205_83 : decode prog_12_method_81_code 83 = .ok (.getfield 44, 3) := by decide +kernel
theorem d205_86 : decode prog_12_method_81_code 86 = .ok (.if_icmp .ge 8, 3) := by decide +kernel
theorem d205_89 : decode prog_12_method_81_code 89 = .ok (.aload_n 0, 1) := by decide +kernel
theorem d205_90 : decode prog_12_method_81_code 90 = .ok (.iload_n 2, 1) := by decide +kernel
theorem d205_91 : decode prog_12_method_81_code 91 = .ok (.invokevirtual 230, 3) := by decide +kernel
theorem d205_94 : decode prog_12_method_81_code 94 = .ok (.goto (-26), 3) := by decide +kernel
theorem d205_97 : decode prog_12_method_81_code 97 = .ok (.return_, 1) := by decide +kernel
theorem d206_0 : decode prog_12_method_77_code 0 = .ok (.aload_n 0, 1) := by decide +kernel
theorem d206_1 : decode prog_12_method_77_code 1 = .ok (.iload_n 1, 1) := by decide +kernel
theorem d206_2 : decode prog_12_method_77_code 2 = .ok (.iconst 2, 1) := by decide +kernel
theorem d206_3 : decode prog_12_method_77_code 3 = .ok (.invokevirtual 147, 3) := by decide +kernel
theorem d206_6 : decode prog_12_method_77_code 6 = .ok (.istore_n 2, 1) := by decide +kernel
theorem d206_7 : decode prog_12_method_77_code 7 = .ok (.aload_n 0, 1) := by decide +kernel
theorem d206_8 : decode prog_12_method_77_code 8 = .ok (.iload_n 1, 1) := by decide +kernel
theorem d206_9 : decode prog_12_method_77_code 9 = .ok (.iconst 0, 1) := by decide +kernel
theorem d206_10 : decode prog_12_method_77_code 10 = .ok (.invokevirtual 147, 3) := by decide +kernel
theorem d206_13 : decode prog_12_method_77_code 13 = .ok (.istore_n 3, 1) := by decide +kernel
theorem d206_14 : decode prog_12_method_77_code 14 = .ok (.aload_n 0, 1) := by decide +kernel
theorem d206_15 : decode prog_12_method_77_code 15 = .ok (.iload_n 1, 1) := by decide +kernel
theorem d206_16 : decode prog_12_method_77_code 16 = .ok (.iconst 1, 1) := by decide +kernel
theorem d206_17 : decode prog_12_method_77_code 17 = .ok (.invokevirtual 147, 3) := by decide +kernel
theorem d206_20 : decode prog_12_method_77_code 20 = .ok (.istore 4, 2) := by decide +kernel
theorem d206_22 : decode prog_12_method_77_code 22 = .ok (.iconst 0, 1) := by decide +kernel
theorem d206_23 : decode prog_12_method_77_code 23 = .ok (.istore 5, 2) := by decide +kernel
theorem d206_25 : decode prog_12_method_77_code 25 = .ok (.iconst 0, 1) := by decide +kernel
theorem d206_26 : decode prog_12_method_77_code 26 = .ok (.istore 6, 2) := by decide +kernel
theorem d206_28 : decode prog_12_method_77_code 28 = .ok (.iload 6, 2) := by decide +kernel
theorem d206_30 : decode prog_12_method_77_code 30 = .ok (.aload_n 0, 1) := by decide +kernel
theorem d206_31 : decode prog_12_method_77_code 31 = .ok (.getfield 41, 3) := by decide +kernel
theorem d206_34 : decode prog_12_method_77_code 34 = .ok (.if_icmp .ge 101, 3) := by decide +kernel
theorem d206_37 : decode prog_12_method_77_code 37 = .ok (.aload_n 0, 1) := by decide +kernel
theorem d206_38 : decode prog_12_method_77_code 38 = .ok (.getfield 22, 3) := by decide +kernel
theorem d206_41 : decode prog_12_method_77_code 41 = .ok (.iload 6, 2) := by decide +kernel
theorem d206_43 : decode prog_12_method_77_code 43 = .ok (.iaload, 1) := by decide +kernel
theorem d206_44 : decode prog_12_method_77_code 44 = .ok (.istore 7, 2) := by decide +kernel
theorem d206_46 : decode prog_12_method_77_code 46 = .ok (.iload_n 2, 1) := by decide +kernel
theorem d206_47 : decode prog_12_method_77_code 47 = .ok (.iload_n 3, 1) := by decide +kernel
theorem d206_48 : decode prog_12_method_77_code 48 = .ok (.aload_n 0, 1) := by decide +kernel
theorem d206_49 : decode prog_12_method_77_code 49 = .ok (.iload 7, 2) := by decide +kernel
theorem d206_51 : decode prog_12_method_77_code 51 = .ok (.iconst 1, 1) := by decide +kernel
theorem d206_52 : decode prog_12_method_77_code 52 = .ok (.invokevirtual 85, 3) := by decide +kernel
theorem d206_55 : decode prog_12_method_77_code 55 = .ok (.invokestatic 176, 3) := by decide +kernel
theorem d206_58 : decode prog_12_method_77_code 58 = .ok (.iload 4, 2) := by decide +kernel
theorem d206_60 : decode prog_12_method_77_code 60 = .ok (.aload_n 0, 1) := by decide +kernel
theorem d206_61 : decode prog_12_method_77_code 61 = .ok (.iload 7, 2) := by decide +kernel
theorem d206_63 : decode prog_12_method_77_code 63 = .ok (.iconst 2, 1) := by decide +kernel
theorem d206_64 : decode prog_12_method_77_code 64 = .ok (.invokevirtual 85, 3) := by decide +kernel
theorem d206_67 : decode prog_12_method_77_code 67 = .ok (.invokestatic 176, 3) := by decide +kernel
theorem d206_70 : decode prog_12_method_77_code 70 = .ok (.iadd, 1) := by decide +kernel
theorem d206_71 : decode prog_12_method_77_code 71 = .ok (.aload_n 0, 1) := by decide +kernel
theorem d206_72 : decode prog_12_method_77_code 72 = .ok (.iload 7, 2) := by decide +kernel
theorem d206_74 : decode prog_12_method_77_code 74 = .ok (.iconst 5, 1) := by decide +kernel
theorem d206_75 : decode prog_12_method_77_code 75 = .ok (.invokevirtual 85, 3) := by decide +kernel
theorem d206_78 : decode prog_12_method_77_code 78 = .ok (.iadd, 1) := by decide +kernel
theorem d206_79 : decode prog_12_method_77_code 79 = .ok (.iadd, 1) := by decide +kernel
theorem d206_80 : decode prog_12_method_77_code 80 = .ok (.istore_n 2, 1) := by decide +kernel
theorem d206_81 : decode prog_12_method_77_code 81 = .ok (.iload 5, 2) := by decide +kernel
theorem d206_83 : decode prog_12_method_77_code 83 = .ok (.iload_n 2, 1) := by decide +kernel
theorem d206_84 : decode prog_12_method_77_code 84 = .ok (.aload_n 0, 1) := by decide +kernel
theorem d206_85 : decode prog_12_method_77_code 85 = .ok (.iload 7, 2) := by decide +kernel
theorem d206_87 : decode prog_12_method_77_code 87 = .ok (.bipush 6, 2) := by decide +kernel
theorem d206_89 : decode prog_12_method_77_code 89 = .ok (.invokevirtual 85, 3) := by decide +kernel
theorem d206_92 : decode prog_12_method_77_code 92 = .ok (.if_icmp .le 16, 3) := by decide +kernel
theorem d206_95 : decode prog_12_method_77_code 95 = .ok (.iload_n 2, 1) := by decide +kernel
theorem d206_96 : decode prog_12_method_77_code 96 = .ok (.aload_n 0, 1) := by decide +kernel
theorem d206_97 : decode prog_12_method_77_code 97 = .ok (.iload 7, 2) := by decide +kernel
theorem d206_99 : decode prog_12_method_77_code 99 = .ok (.bipush 6, 2) := by decide +kernel
theorem d206_101 : decode prog_12_method_77_code 101 = .ok (.invokevirtual 85, 3) := by decide +kernel
theorem d206_104 : decode prog_12_method_77_code 104 = .ok (.isub, 1) := by decide +kernel
theorem d206_105 : decode prog_12_method_77_code 105 = .ok (.goto 4, 3) := by decide +kernel
theorem d206_108 : decode prog_12_method_77_code 108 = .ok (.iconst 0, 1) := by decide +kernel
theorem d206_109 : decode prog_12_method_77_code 109 = .ok (.iadd, 1) := by decide +kernel
theorem d206_110 : decode prog_12_method_77_code 110 = .ok (.istore 5, 2) := by decide +kernel
theorem d206_112 : decode prog_12_method_77_code 112 = .ok (.aload_n 0, 1) := by decide +kernel
theorem d206_113 : decode prog_12_method_77_code 113 = .ok (.iload 7, 2) := by decide +kernel
theorem d206_115 : decode prog_12_method_77_code 115 = .ok (.iconst 1, 1) := by decide +kernel
theorem d206_116 : decode prog_12_method_77_code 116 = .ok (.invokevirtual 85, 3) := by decide +kernel
theorem d206_119 : decode prog_12_method_77_code 119 = .ok (.istore_n 3, 1) := by decide +kernel
theorem d206_120 : decode prog_12_method_77_code 120 = .ok (.aload_n 0, 1) := by decide +kernel
theorem d206_121 : decode prog_12_method_77_code 121 = .ok (.iload 7, 2) := by decide +kernel
theorem d206_123 : decode prog_12_method_77_code 123 = .ok (.iconst 2, 1) := by decide +kernel
theorem d206_124 : decode prog_12_method_77_code 124 = .ok (.invokevirtual 85, 3) := by decide +kernel
theorem d206_127 : decode prog_12_method_77_code 127 = .ok (.istore 4, 2) := by decide +kernel
theorem d206_129 : decode prog_12_method_77_code 129 = .ok (.iinc 6 1, 3) := by decide +kernel
theorem d206_132 : decode prog_12_method_77_code 132 = .ok (.goto (-104), 3) := by decide +kernel
theorem d206_135 : decode prog_12_method_77_code 135 = .ok (.iload 5, 2) := by decide +kernel
theorem d206_137 : decode prog_12_method_77_code 137 = .ok (.ireturn, 1) := by decide +kernel
theorem d207_0 : decode prog_12_method_80_code 0 = .ok (.aload_n 0, 1) := by decide +kernel
theorem d207_1 : decode prog_12_method_80_code 1 = .ok (.iload_n 1, 1) := by decide +kernel
theorem d207_2 : decode prog_12_method_80_code 2 = .ok (.putfield 44, 3) := by decide +kernel
theorem d207_5 : decode prog_12_method_80_code 5 = .ok (.iconst 0, 1) := by decide +kernel
theorem d207_6 : decode prog_12_method_80_code 6 = .ok (.istore_n 2, 1) := by decide +kernel
theorem d207_7 : decode prog_12_method_80_code 7 = .ok (.iload_n 2, 1) := by decide +kernel
theorem d207_8 : decode prog_12_method_80_code 8 = .ok (.aload_n 0, 1) := by decide +kernel
theorem d207_9 : decode prog_12_method_80_code 9 = .ok (.getfield 41, 3) := by decide +kernel
theorem d207_12 : decode prog_12_method_80_code 12 = .ok (.if_icmp .ge 21, 3) := by decide +kernel
theorem d207_15 : decode prog_12_method_80_code 15 = .ok (.aload_n 0, 1) := by decide +kernel
theorem d207_16 : decode prog_12_method_80_code 16 = .ok (.getfield 25, 3) := by decide +kernel
theorem d207_19 : decode prog_12_method_80_code 19 = .ok (.iload_n 2, 1) := by decide +kernel
theorem d207_20 : decode prog_12_method_80_code 20 = .ok (.aload_n 0, 1) := by decide +kernel
theorem d207_21 : decode prog_12_method_80_code 21 = .ok (.getfield 22, 3) := by decide +kernel
theorem d207_24 : decode prog_12_method_80_code 24 = .ok (.iload_n 2, 1) := by decide +kernel
theorem d207_25 : decode prog_12_method_80_code 25 = .ok (.iaload, 1) := by decide +kernel
theorem d207_26 : decode prog_12_method_80_code 26 = .ok (.iastore, 1) := by decide +kernel
theorem d207_27 : decode prog_12_method_80_code 27 = .ok (.iinc 2 1, 3) := by decide +kernel
theorem d207_30 : decode prog_12_method_80_code 30 = .ok (.goto (-23), 3) := by decide +kernel
theorem d207_33 : decode prog_12_method_80_code 33 = .ok (.return_, 1) := by decide +kernel
theorem d208_0 : decode prog_12_method_79_code 0 = .ok (.aload_n 0, 1) := by decide +kernel
theorem d208_1 : decode prog_12_method_79_code 1 = .ok (.getfield 41, 3) := by decide +kernel
theorem d208_4 : decode prog_12_method_79_code 4 = .ok (.iconst 2, 1) := by decide +kernel
theorem d208_5 : decode prog_12_method_79_code 5 = .ok (.isub, 1) := by decide +kernel
theorem d208_6 : decode prog_12_method_79_code 6 = .ok (.istore_n 1, 1) := by decide +kernel
theorem d208_7 : decode prog_12_method_79_code 7 = .ok (.iload_n 1, 1) := by decide +kernel
theorem d208_8 : decode prog_12_method_79_code 8 = .ok (.ifCond .lt 26, 3) := by decide +kernel
theorem d208_11 : decode prog_12_method_79_code 11 = .ok (.aload_n 0, 1) := by decide +kernel
theorem d208_12 : decode prog_12_method_79_code 12 = .ok (.getfield 22, 3) := by decide +kernel
theorem d208_15 : decode prog_12_method_79_code 15 = .ok (.iload_n 1, 1) := by decide +kernel
theorem d208_16 : decode prog_12_method_79_code 16 = .ok (.iaload, 1) := by decide +kernel
theorem d208_17 : decode prog_12_method_79_code 17 = .ok (.aload_n 0, 1) := by decide +kernel
theorem d208_18 : decode prog_12_method_79_code 18 = .ok (.getfield 22, 3) := by decide +kernel
theorem d208_21 : decode prog_12_method_79_code 21 = .ok (.iload_n 1, 1) := by decide +kernel
theorem d208_22 : decode prog_12_method_79_code 22 = .ok (.iconst 1, 1) := by decide +kernel
theorem d208_23 : decode prog_12_method_79_code 23 = .ok (.iadd, 1) := by decide +kernel
theorem d208_24 : decode prog_12_method_79_code 24 = .ok (.iaload, 1) := by decide +kernel
theorem d208_25 : decode prog_12_method_79_code 25 = .ok (.if_icmp .le 9, 3) := by decide +kernel
theorem d208_28 : decode prog_12_method_79_code 28 = .ok (.iinc 1 (-1), 3) := by decide +kernel
theorem d208_31 : decode prog_12_method_79_code 31 = .ok (.goto (-24), 3) := by decide +kernel
theorem d208_34 : decode prog_12_method_79_code 34 = .ok (.iload_n 1, 1) := by decide +kernel
theorem d208_35 : decode prog_12_method_79_code 35 = .ok (.ifCond .ge 5, 3) := by decide +kernel
theorem d208_38 : decode prog_12_method_79_code 38 = .ok (.iconst 0, 1) := by decide +kernel
theorem d208_39 : decode prog_12_method_79_code 39 = .ok (.ireturn, 1) := by decide +kernel
theorem d208_40 : decode prog_12_method_79_code 40 = .ok (.aload_n 0, 1) := by decide +kernel
theorem d208_41 : decode prog_12_method_79_code 41 = .ok (.getfield 41, 3) := by decide +kernel
theorem d208_44 : decode prog_12_method_79_code 44 = .ok (.iconst 1, 1) := by decide +kernel
theorem d208_45 : decode prog_12_method_79_code 45 = .ok (.isub, 1) := by decide +kernel
theorem d208_46 : decode prog_12_method_79_code 46 = .ok (.istore_n 2, 1) := by decide +kernel
theorem d208_47 : decode prog_12_method_79_code 47 = .ok (.aload_n 0, 1) := by decide +kernel
theorem d208_48 : decode prog_12_method_79_code 48 = .ok (.getfield 22, 3) := by decide +kernel
theorem d208_51 : decode prog_12_method_79_code 51 = .ok (.iload_n 2, 1) := by decide +kernel
theorem d208_52 : decode prog_12_method_79_code 52 = .ok (.iaload, 1) := by decide +kernel
theorem d208_53 : decode prog_12_method_79_code 53 = .ok (.aload_n 0, 1) := by decide +kernel
theorem d208_54 : decode prog_12_method_79_code 54 = .ok (.getfield 22, 3) := by decide +kernel
theorem d208_57 : decode prog_12_method_79_code 57 = .ok (.iload_n 1, 1) := by decide +kernel
theorem d208_58 : decode prog_12_method_79_code 58 = .ok (.iaload, 1) := by decide +kernel
theorem d208_59 : decode prog_12_method_79_code 59 = .ok (.if_icmp .ge 9, 3) := by decide +kernel
theorem d208_62 : decode prog_12_method_79_code 62 = .ok (.iinc 2 (-1), 3) := by decide +kernel
theorem d208_65 : decode prog_12_method_79_code 65 = .ok (.goto (-18), 3) := by decide +kernel
theorem d208_68 : decode prog_12_method_79_code 68 = .ok (.aload_n 0, 1) := by decide +kernel
theorem d208_69 : decode prog_12_method_79_code 69 = .ok (.iload_n 1, 1) := by decide +kernel
theorem d208_70 : decode prog_12_method_79_code 70 = .ok (.iload_n 2, 1) := by decide +kernel
theorem d208_71 : decode prog_12_method_79_code 71 = .ok (.invokevirtual 223, 3) := by decide +kernel
theorem d208_74 : decode prog_12_method_79_code 74 = .ok (.iload_n 1, 1) := by decide +kernel
theorem d208_75 : decode prog_12_method_79_code 75 = .ok (.iconst 1, 1) := by decide +kernel
theorem d208_76 : decode prog_12_method_79_code 76 = .ok (.iadd, 1) := by decide +kernel
theorem d208_77 : decode prog_12_method_79_code 77 = .ok (.istore_n 3, 1) := by decide +kernel
theorem d208_78 : decode prog_12_method_79_code 78 = .ok (.aload_n 0, 1) := by decide +kernel
theorem d208_79 : decode prog_12_method_79_code 79 = .ok (.getfield 41, 3) := by decide +kernel
theorem d208_82 : decode prog_12_method_79_code 82 = .ok (.iconst 1, 1) := by decide +kernel
theorem d208_83 : decode prog_12_method_79_code 83 = .ok (.isub, 1) := by decide +kernel
theorem d208_84 : decode prog_12_method_79_code 84 = .ok (.istore 4, 2) := by decide +kernel
theorem d208_86 : decode prog_12_method_79_code 86 = .ok (.iload_n 3, 1) := by decide +kernel
theorem d208_87 : decode prog_12_method_79_code 87 = .ok (.iload 4, 2) := by decide +kernel
theorem d208_89 : decode prog_12_method_79_code 89 = .ok (.if_icmp .ge 19, 3) := by decide +kernel
theorem d208_92 : decode prog_12_method_79_code 92 = .ok (.aload_n 0, 1) := by decide +kernel
theorem d208_93 : decode prog_12_method_79_code 93 = .ok (.iload_n 3, 1) := by decide +kernel
theorem d208_94 : decode prog_12_method_79_code 94 = .ok (.iload 4, 2) := by decide +kernel
theorem d208_96 : decode prog_12_method_79_code 96 = .ok (.invokevirtual 223, 3) := by decide +kernel
theorem d208_99 : decode prog_12_method_79_code 99 = .ok (.iinc 3 1, 3) := by decide +kernel
theorem d208_102 : decode prog_12_method_79_code 102 = .ok (.iinc 4 (-1), 3) := by decide +kernel
theorem d208_105 : decode prog_12_method_79_code 105 = .ok (.goto (-19), 3) := by decide +kernel
theorem d208_108 : decode prog_12_method_79_code 108 = .ok (.iconst 1, 1) := by decide +kernel
theorem d208_109 : decode prog_12_method_79_code 109 = .ok (.ireturn, 1) := by decide +kernel
theorem d209_0 : decode prog_12_method_78_code 0 = .ok (.aload_n 0, 1) := by decide +kernel
theorem d209_1 : decode prog_12_method_78_code 1 = .ok (.getfield 22, 3) := by decide +kernel
theorem d209_4 : decode prog_12_method_78_code 4 = .ok (.iload_n 1, 1) := by decide +kernel
theorem d209_5 : decode prog_12_method_78_code 5 = .ok (.iaload, 1) := by decide +kernel
theorem d209_6 : decode prog_12_method_78_code 6 = .ok (.istore_n 3, 1) := by decide +kernel
theorem d209_7 : decode prog_12_method_78_code 7 = .ok (.aload_n 0, 1) := by decide +kernel
theorem d209_8 : decode prog_12_method_78_code 8 = .ok (.getfield 22, 3) := by decide +kernel
theorem d209_11 : decode prog_12_method_78_code 11 = .ok (.iload_n 1, 1) := by decide +kernel
theorem d209_12 : decode prog_12_method_78_code 12 = .ok (.aload_n 0, 1) := by decide +kernel
theorem d209_13 : decode prog_12_method_78_code 13 = .ok (.getfield 22, 3) := by decide +kernel
theorem d209_16 : decode prog_12_method_78_code 16 = .ok (.iload_n 2, 1) := by decide +kernel
theorem d209_17 : decode prog_12_method_78_code 17 = .ok (.iaload, 1) := by decide +kernel
theorem d209_18 : decode prog_12_method_78_code 18 = .ok (.iastore, 1) := by decide +kernel
theorem d209_19 : decode prog_12_method_78_code 19 = .ok (.aload_n 0, 1) := by decide +kernel
theorem d209_20 : decode prog_12_method_78_code 20 = .ok (.getfield 22, 3) := by decide +kernel
theorem d209_23 : decode prog_12_method_78_code 23 = .ok (.iload_n 2, 1) := by decide +kernel
theorem d209_24 : decode prog_12_method_78_code 24 = .ok (.iload_n 3, 1) := by decide +kernel
theorem d209_25 : decode prog_12_method_78_code 25 = .ok (.iastore, 1) := by decide +kernel
theorem d209_26 : decode prog_12_method_78_code 26 = .ok (.return_, 1) := by decide +kernel
theorem d210_0 : decode prog_12_method_84_code 0 = .ok (.aload_n 0, 1) := by decide +kernel
theorem d210_1 : decode prog_12_method_84_code 1 = .ok (.iload_n 1, 1) := by decide +kernel
theorem d210_2 : decode prog_12_method_84_code 2 = .ok (.invokevirtual 241, 3) := by decide +kernel
theorem d210_5 : decode prog_12_method_84_code 5 = .ok (.ireturn, 1) := by decide +kernel
theorem d211_0 : decode prog_12_method_85_code 0 = .ok (.aload_n 0, 1) := by decide +kernel
theorem d211_1 : decode prog_12_method_85_code 1 = .ok (.iload_n 1, 1) := by decide +kernel
theorem d211_2 : decode prog_12_method_85_code 2 = .ok (.invokestatic 123, 3) := by decide +kernel
theorem d211_5 : decode prog_12_method_85_code 5 = .ok (.invokevirtual 210, 3) := by decide +kernel
theorem d211_8 : decode prog_12_method_85_code 8 = .ok (.ifCond .le 5, 3) := by decide +kernel
theorem d211_11 : decode prog_12_method_85_code 11 = .ok (.iconst 0, 1) := by decide +kernel
theorem d211_12 : decode prog_12_method_85_code 12 = .ok (.ireturn, 1) := by decide +kernel
theorem d211_13 : decode prog_12_method_85_code 13 = .ok (.aload_n 0, 1) := by decide +kernel
theorem d211_14 : decode prog_12_method_85_code 14 = .ok (.iload_n 1, 1) := by decide +kernel
theorem d211_15 : decode prog_12_method_85_code 15 = .ok (.invokevirtual 238, 3) := by decide +kernel
theorem d211_18 : decode prog_12_method_85_code 18 = .ok (.iload_n 2, 1) := by decide +kernel
theorem d211_19 : decode prog_12_method_85_code 19 = .ok (.iconst 0, 1) := by decide +kernel
theorem d211_20 : decode prog_12_method_85_code 20 = .ok (.aload_n 0, 1) := by decide +kernel
theorem d211_21 : decode prog_12_method_85_code 21 = .ok (.getfield 41, 3) := by decide +kernel
theorem d211_24 : decode prog_12_method_85_code 24 = .ok (.iconst 1, 1) := by decide +kernel
theorem d211_25 : decode prog_12_method_85_code 25 = .ok (.isub, 1) := by decide +kernel
theorem d211_26 : decode prog_12_method_85_code 26 = .ok (.invokestatic 89, 3) := by decide +kernel
theorem d211_29 : decode prog_12_method_85_code 29 = .ok (.ifCond .eq 17, 3) := by decide +kernel
theorem d211_32 : decode prog_12_method_85_code 32 = .ok (.aload_n 0, 1) := by decide +kernel
theorem d211_33 : decode prog_12_method_85_code 33 = .ok (.aload_n 0, 1) := by decide +kernel
theorem d211_34 : decode prog_12_method_85_code 34 = .ok (.getfield 25, 3) := by decide +kernel
theorem d211_37 : decode prog_12_method_85_code 37 = .ok (.iload_n 2, 1) := by decide +kernel
theorem d211_38 : decode prog_12_method_85_code 38 = .ok (.iaload, 1) := by decide +kernel
theorem d211_39 : decode prog_12_method_85_code 39 = .ok (.iconst 0, 1) := by decide +kernel
theorem d211_40 : decode prog_12_method_85_code 40 = .ok (.invokevirtual 85, 3) := by decide +kernel
theorem d211_43 : decode prog_12_method_85_code 43 = .ok (.goto 8, 3) := by decide +kernel
theorem d211_46 : decode prog_12_method_85_code 46 = .ok (.aload_n 0, 1) := by decide +kernel
theorem d211_47 : decode prog_12_method_85_code 47 = .ok (.iconst 2, 1) := by decide +kernel
theorem d211_48 : decode prog_12_method_85_code 48 = .ok (.invokevirtual 107, 3) := by decide +kernel
theorem d211_51 : decode prog_12_method_85_code 51 = .ok (.ireturn, 1) := by decide +kernel
theorem d212_0 : decode prog_12_method_86_code 0 = .ok (.aload_n 0, 1) := by decide +kernel
theorem d212_1 : decode prog_12_method_86_code 1 = .ok (.iload_n 1, 1) := by decide +kernel
theorem d212_2 : decode prog_12_method_86_code 2 = .ok (.iconst 3, 1) := by decide +kernel
theorem d212_3 : decode prog_12_method_86_code 3 = .ok (.invokevirtual 217, 3) := by decide +kernel
theorem d212_6 : decode prog_12_method_86_code 6 = .ok (.ireturn, 1) := by decide +kernel
theorem d213_0 : decode prog_12_method_87_code 0 = .ok (.aload_n 0, 1) := by decide +kernel
theorem d213_1 : decode prog_12_method_87_code 1 = .ok (.aload_n 0, 1) := by decide +kernel
theorem d213_2 : decode prog_12_method_87_code 2 = .ok (.iconst 0, 1) := by decide +kernel
theorem d213_3 : decode prog_12_method_87_code 3 = .ok (.iconst 3, 1) := by decide +kernel
theorem d213_4 : decode prog_12_method_87_code 4 = .ok (.invokevirtual 147, 3) := by decide +kernel
theorem d213_7 : decode prog_12_method_87_code 7 = .ok (.aload_n 0, 1) := by decide +kernel
theorem d213_8 : decode prog_12_method_87_code 8 = .ok (.iconst 1, 1) := by decide +kernel
theorem d213_9 : decode prog_12_method_87_code 9 = .ok (.iconst 3, 1) := by decide +kernel
theorem d213_10 : decode prog_12_method_87_code 10 = .ok (.invokevirtual 147, 3) := by decide +kernel
theorem d213_13 : decode prog_12_method_87_code 13 = .ok (.iadd, 1) := by decide +kernel
theorem d213_14 : decode prog_12_method_87_code 14 = .ok (.aload_n 0, 1) := by decide +kernel
theorem d213_15 : decode prog_12_method_87_code 15 = .ok (.iconst 2, 1) := by decide +kernel
theorem d213_16 : decode prog_12_method_87_code 16 = .ok (.iconst 3, 1) := by decide +kernel
theorem d213_17 : decode prog_12_method_87_code 17 = .ok (.invokevirtual 147, 3) := by decide +kernel
theorem d213_20 : decode prog_12_method_87_code 20 = .ok (.iadd, 1) := by decide +kernel
theorem d213_21 : decode prog_12_method_87_code 21 = .ok (.invokevirtual 207, 3) := by decide +kernel
theorem d213_24 : decode prog_12_method_87_code 24 = .ok (.i2l, 1) := by decide +kernel
theorem d213_25 : decode prog_12_method_87_code 25 = .ok (.lreturn, 1) := by decide +kernel
theorem d214_0 : decode prog_12_method_88_code 0 = .ok (.aload_n 0, 1) := by decide +kernel
theorem d214_1 : decode prog_12_method_88_code 1 = .ok (.bipush 10, 2) := by decide +kernel
theorem d214_3 : decode prog_12_method_88_code 3 = .ok (.aload_n 0, 1) := by decide +kernel
theorem d214_4 : decode prog_12_method_88_code 4 = .ok (.getfield 7, 3) := by decide +kernel
theorem d214_7 : decode prog_12_method_88_code 7 = .ok (.iconst 4, 1) := by decide +kernel
theorem d214_8 : decode prog_12_method_88_code 8 = .ok (.iaload, 1) := by decide +kernel
theorem d214_9 : decode prog_12_method_88_code 9 = .ok (.imul, 1) := by decide +kernel
theorem d214_10 : decode prog_12_method_88_code 10 = .ok (.iconst 2, 1) := by decide +kernel
theorem d214_11 : decode prog_12_method_88_code 11 = .ok (.aload_n 0, 1) := by decide +kernel
theorem d214_12 : decode prog_12_method_88_code 12 = .ok (.getfield 7, 3) := by decide +kernel
theorem d214_15 : decode prog_12_method_88_code 15 = .ok (.iconst 3, 1) := by decide +kernel
theorem d214_16 : decode prog_12_method_88_code 16 = .ok (.iaload, 1) := by decide +kernel
theorem d214_17 : decode prog_12_method_88_code 17 = .ok (.imul, 1) := by decide +kernel
theorem d214_18 : decode prog_12_method_88_code 18 = .ok (.isub, 1) := by decide +kernel
theorem d214_19 : decode prog_12_method_88_code 19 = .ok (.invokevirtual 207, 3) := by decide +kernel
theorem d214_22 : decode prog_12_method_88_code 22 = .ok (.i2l, 1) := by decide +kernel
theorem d214_23 : decode prog_12_method_88_code 23 = .ok (.lreturn, 1) := by decide +kernel
theorem d215_0 : decode prog_12_method_89_code 0 = .ok (.aload_n 0, 1) := by decide +kernel
theorem d215_1 : decode prog_12_method_89_code 1 = .ok (.aload_n 0, 1) := by decide +kernel
theorem d215_2 : decode prog_12_method_89_code 2 = .ok (.getfield 7, 3) := by decide +kernel
theorem d215_5 : decode prog_12_method_89_code 5 = .ok (.iconst 2, 1) := by decide +kernel
theorem d215_6 : decode prog_12_method_89_code 6 = .ok (.iaload, 1) := by decide +kernel
theorem d215_7 : decode prog_12_method_89_code 7 = .ok (.invokevirtual 207, 3) := by decide +kernel
theorem d215_10 : decode prog_12_method_89_code 10 = .ok (.ireturn, 1) := by decide +kernel
theorem d216_0 : decode prog_12_method_90_code 0 = .ok (.aload_n 0, 1) := by decide +kernel
theorem d216_1 : decode prog_12_method_90_code 1 = .ok (.aload_n 0, 1) := by decide +kernel
theorem d216_2 : decode prog_12_method_90_code 2 = .ok (.getfield 7, 3) := by decide +kernel
theorem d216_5 : decode prog_12_method_90_code 5 = .ok (.iconst 2, 1) := by decide +kernel
theorem d216_6 : decode prog_12_method_90_code 6 = .ok (.iaload, 1) := by decide +kernel
theorem d216_7 : decode prog_12_method_90_code 7 = .ok (.ifCond .le 7, 3) := by decide +kernel
theorem d216_10 : decode prog_12_method_90_code 10 = .ok (.iconst 1, 1) := by decide +kernel
theorem d216_11 : decode prog_12_method_90_code 11 = .ok (.goto 4, 3) := by decide +kernel
theorem d216_14 : decode prog_12_method_90_code 14 = .ok (.iconst 0, 1) := by decide +kernel
theorem d216_15 : decode prog_12_method_90_code 15 = .ok (.invokevirtual 210, 3) := by decide +kernel
theorem d216_18 : decode prog_12_method_90_code 18 = .ok (.ifCond .le 7, 3) := by decide +kernel
theorem d216_21 : decode prog_12_method_90_code 21 = .ok (.dconst 0, 1) := by decide +kernel
theorem d216_22 : decode prog_12_method_90_code 22 = .ok (.goto 18, 3) := by decide +kernel
theorem d216_25 : decode prog_12_method_90_code 25 = .ok (.aload_n 0, 1) := by decide +kernel
theorem d216_26 : decode prog_12_method_90_code 26 = .ok (.getfield 7, 3) := by decide +kernel
theorem d216_29 : decode prog_12_method_90_code 29 = .ok (.iconst 3, 1) := by decide +kernel
theorem d216_30 : decode prog_12_method_90_code 30 = .ok (.iaload, 1) := by decide +kernel
theorem d216_31 : decode prog_12_method_90_code 31 = .ok (.i2d, 1) := by decide +kernel
theorem d216_32 : decode prog_12_method_90_code 32 = .ok (.aload_n 0, 1) := by decide +kernel
theorem d216_33 : decode prog_12_method_90_code 33 = .ok (.getfield 7, 3) := by decide +kernel
theorem d216_36 : decode prog_12_method_90_code 36 = .ok (.iconst 2, 1) := by decide +kernel
theorem d216_37 : decode prog_12_method_90_code 37 = .ok (.iaload, 1) := by decide +kernel
theorem d216_38 : decode prog_12_method_90_code 38 = .ok (.i2d, 1) := by decide +kernel
theorem d216_39 : decode prog_12_method_90_code 39 = .ok (.ddiv, 1) := by decide +kernel
theorem d216_40 : decode prog_12_method_90_code 40 = .ok (.dreturn, 1) := by decide +kernel
theorem d217_0 : decode prog_12_method_91_code 0 = .ok (.aload_n 0, 1) := by decide +kernel
theorem d217_1 : decode prog_12_method_91_code 1 = .ok (.iconst 0, 1) := by decide +kernel
theorem d217_2 : decode prog_12_method_91_code 2 = .ok (.putfield 28, 3) := by decide +kernel
theorem d217_5 : decode prog_12_method_91_code 5 = .ok (.aload_n 0, 1) := by decide +kernel
theorem d217_6 : decode prog_12_method_91_code 6 = .ok (.iconst 0, 1) := by decide +kernel
theorem d217_7 : decode prog_12_method_91_code 7 = .ok (.invokevirtual 167, 3) := by decide +kernel
theorem d217_10 : decode prog_12_method_91_code 10 = .ok (.aload_n 0, 1) := by decide +kernel
theorem d217_11 : decode prog_12_method_91_code 11 = .ok (.iconst 1, 1) := by decide +kernel
theorem d217_12 : decode prog_12_method_91_code 12 = .ok (.invokevirtual 167, 3) := by decide +kernel
theorem d217_15 : decode prog_12_method_91_code 15 = .ok (.iadd, 1) := by decide +kernel
theorem d217_16 : decode prog_12_method_91_code 16 = .ok (.aload_n 0, 1) := by decide +kernel
theorem d217_17 : decode prog_12_method_91_code 17 = .ok (.iconst 2, 1) := by decide +kernel
theorem d217_18 : decode prog_12_method_91_code 18 = .ok (.invokevirtual 167, 3) := by decide +kernel
theorem d217_21 : decode prog_12_method_91_code 21 = .ok (.iadd, 1) := by decide +kernel
theorem d217_22 : decode prog_12_method_91_code 22 = .ok (.i2f, 1) := by decide +kernel
theorem d217_23 : decode prog_12_method_91_code 23 = .ok (.ldc 244, 2) := by decide +kernel
theorem d217_25 : decode prog_12_method_91_code 25 = .ok (.fdiv, 1) := by decide +kernel
theorem d217_26 : decode prog_12_method_91_code 26 = .ok (.freturn, 1) := by decide +kernel
theorem d218_0 : decode prog_12_method_93_code 0 = .ok (.aload_n 0, 1) := by decide +kernel
theorem d218_1 : decode prog_12_method_93_code 1 = .ok (.iconst 0, 1) := by decide +kernel
theorem d218_2 : decode prog_12_method_93_code 2 = .ok (.putfield 28, 3) := by decide +kernel
theorem d218_5 : decode prog_12_method_93_code 5 = .ok (.iconst 0, 1) := by decide +kernel
theorem d218_6 : decode prog_12_method_93_code 6 = .ok (.istore_n 2, 1) := by decide +kernel
theorem d218_7 : decode prog_12_method_93_code 7 = .ok (.iload_n 2, 1) := by decide +kernel
theorem d218_8 : decode prog_12_method_93_code 8 = .ok (.iconst 3, 1) := by decide +kernel
theorem d218_9 : decode prog_12_method_93_code 9 = .ok (.if_icmp .ge 57, 3) := by decide +kernel
theorem d218_12 : decode prog_12_method_93_code 12 = .ok (.iconst 0, 1) := by decide +kernel
theorem d218_13 : decode prog_12_method_93_code 13 = .ok (.istore_n 3, 1) := by decide +kernel
theorem d218_14 : decode prog_12_method_93_code 14 = .ok (.iconst 0, 1) := by decide +kernel
theorem d218_15 : decode prog_12_method_93_code 15 = .ok (.istore 4, 2) := by decide +kernel
theorem d218_17 : decode prog_12_method_93_code 17 = .ok (.iload 4, 2) := by decide +kernel
theorem d218_19 : decode prog_12_method_93_code 19 = .ok (.iconst 3, 1) := by decide +kernel
theorem d218_20 : decode prog_12_method_93_code 20 = .ok (.if_icmp .ge 33, 3) := by decide +kernel
theorem d218_23 : decode prog_12_method_93_code 23 = .ok (.iload_n 3, 1) := by decide +kernel
theorem d218_24 : decode prog_12_method_93_code 24 = .ok (.iload 4, 2) := by decide +kernel
theorem d218_26 : decode prog_12_method_93_code 26 = .ok (.iload_n 2, 1) := by decide +kernel
theorem d218_27 : decode prog_12_method_93_code 27 = .ok (.if_icmp .eq 17, 3) := by decide +kernel
theorem d218_30 : decode prog_12_method_93_code 30 = .ok (.aload_n 0, 1) := by decide +kernel
theorem d218_31 : decode prog_12_method_93_code 31 = .ok (.iload 4, 2) := by decide +kernel
theorem d218_33 : decode prog_12_method_93_code 33 = .ok (.iload_n 2, 1) := by decide +kernel
theorem d218_34 : decode prog_12_method_93_code 34 = .ok (.invokevirtual 245, 3) := by decide +kernel
theorem d218_37 : decode prog_12_method_93_code 37 = .ok (.ifCond .eq 7, 3) := by decide +kernel
theorem d218_40 : decode prog_12_method_93_code 40 = .ok (.iconst 1, 1) := by decide +kernel
theorem d218_41 : decode prog_12_method_93_code 41 = .ok (.goto 4, 3) := by decide +kernel
theorem d218_44 : decode prog_12_method_93_code 44 = .ok (.iconst 0, 1) := by decide +kernel
theorem d218_45 : decode prog_12_method_93_code 45 = .ok (.iadd, 1) := by decide +kernel
theorem d218_46 : decode prog_12_method_93_code 46 = .ok (.istore_n 3, 1) := by decide +kernel
theorem d218_47 : decode prog_12_method_93_code 47 = .ok (.iinc 4 1, 3) := by decide +kernel
theorem d218_50 : decode prog_12_method_93_code 50 = .ok (.goto (-33), 3) := by decide +kernel
theorem d218_53 : decode prog_12_method_93_code 53 = .ok (.iload_n 3, 1) := by decide +kernel
theorem d218_54 : decode prog_12_method_93_code 54 = .ok (.iload_n 1, 1) := by decide +kernel
theorem d218_55 : decode prog_12_method_93_code 55 = .ok (.if_icmp .ne 5, 3) := by decide +kernel
theorem d218_58 : decode prog_12_method_93_code 58 = .ok (.iload_n 2, 1) := by decide +kernel
theorem d218_59 : decode prog_12_method_93_code 59 = .ok (.ireturn, 1) := by decide +kernel
theorem d218_60 : decode prog_12_method_93_code 60 = .ok (.iinc 2 1, 3) := by decide +kernel
theorem d218_63 : decode prog_12_method_93_code 63 = .ok (.goto (-56), 3) := by decide +kernel
theorem d218_66 : decode prog_12_method_93_code 66 = .ok (.aload_n 0, 1) := by decide +kernel
theorem d218_67 : decode prog_12_method_93_code 67 = .ok (.iconst 1, 1) := by decide +kernel
theorem d218_68 : decode prog_12_method_93_code 68 = .ok (.invokevirtual 107, 3) := by decide +kernel
theorem d218_71 : decode prog_12_method_93_code 71 = .ok (.ireturn, 1) := by decide +kernel
theorem d219_0 : decode prog_12_method_92_code 0 = .ok (.aload_n 0, 1) := by decide +kernel
theorem d219_1 : decode prog_12_method_92_code 1 = .ok (.iload_n 1, 1) := by decide +kernel
theorem d219_2 : decode prog_12_method_92_code 2 = .ok (.iconst 3, 1) := by decide +kernel
theorem d219_3 : decode prog_12_method_92_code 3 = .ok (.invokevirtual 147, 3) := by decide +kernel
theorem d219_6 : decode prog_12_method_92_code 6 = .ok (.aload_n 0, 1) := by decide +kernel
theorem d219_7 : decode prog_12_method_92_code 7 = .ok (.iload_n 2, 1) := by decide +kernel
theorem d219_8 : decode prog_12_method_92_code 8 = .ok (.iconst 3, 1) := by decide +kernel
theorem d219_9 : decode prog_12_method_92_code 9 = .ok (.invokevirtual 147, 3) := by decide +kernel
theorem d219_12 : decode prog_12_method_92_code 12 = .ok (.if_icmp .eq 24, 3) := by decide +kernel
theorem d219_15 : decode prog_12_method_92_code 15 = .ok (.aload_n 0, 1) := by decide +kernel
theorem d219_16 : decode prog_12_method_92_code 16 = .ok (.iload_n 1, 1) := by decide +kernel
theorem d219_17 : decode prog_12_method_92_code 17 = .ok (.iconst 3, 1) := by decide +kernel
theorem d219_18 : decode prog_12_method_92_code 18 = .ok (.invokevirtual 147, 3) := by decide +kernel
theorem d219_21 : decode prog_12_method_92_code 21 = .ok (.aload_n 0, 1) := by decide +kernel
theorem d219_22 : decode prog_12_method_92_code 22 = .ok (.iload_n 2, 1) := by decide +kernel
theorem d219_23 : decode prog_12_method_92_code 23 = .ok (.iconst 3, 1) := by decide +kernel
theorem d219_24 : decode prog_12_method_92_code 24 = .ok (.invokevirtual 147, 3) := by decide +kernel
theorem d219_27 : decode prog_12_method_92_code 27 = .ok (.if_icmp .le 7, 3) := by decide +kernel
theorem d219_30 : decode prog_12_method_92_code 30 = .ok (.iconst 1, 1) := by decide +kernel
theorem d219_31 : decode prog_12_method_92_code 31 = .ok (.goto 4, 3) := by decide +kernel
theorem d219_34 : decode prog_12_method_92_code 34 = .ok (.iconst 0, 1) := by decide +kernel
theorem d219_35 : decode prog_12_method_92_code 35 = .ok (.ireturn, 1) := by decide +kernel
theorem d219_36 : decode prog_12_method_92_code 36 = .ok (.aload_n 0, 1) := by decide +kernel
theorem d219_37 : decode prog_12_method_92_code 37 = .ok (.iload_n 1, 1) := by decide +kernel
theorem d219_38 : decode prog_12_method_92_code 38 = .ok (.iconst 2, 1) := by decide +kernel
theorem d219_39 : decode prog_12_method_92_code 39 = .ok (.invokevirtual 147, 3) := by decide +kernel
theorem d219_42 : decode prog_12_method_92_code 42 = .ok (.aload_n 0, 1) := by decide +kernel
theorem d219_43 : decode prog_12_method_92_code 43 = .ok (.iload_n 2, 1) := by decide +kernel
theorem d219_44 : decode prog_12_method_92_code 44 = .ok (.iconst 2, 1) := by decide +kernel
theorem d219_45 : decode prog_12_method_92_code 45 = .ok (.invokevirtual 147, 3) := by decide +kernel
theorem d219_48 : decode prog_12_method_92_code 48 = .ok (.if_icmp .lt 23, 3) := by decide +kernel
theorem d219_51 : decode prog_12_method_92_code 51 = .ok (.aload_n 0, 1) := by decide +kernel
theorem d219_52 : decode prog_12_method_92_code 52 = .ok (.iload_n 1, 1) := by decide +kernel
theorem d219_53 : decode prog_12_method_92_code 53 = .ok (.iconst 2, 1) := by decide +kernel
theorem d219_54 : decode prog_12_method_92_code 54 = .ok (.invokevirtual 147, 3) := by decide +kernel
theorem d219_57 : decode prog_12_method_92_code 57 = .ok (.aload_n 0, 1) := by decide +kernel
theorem d219_58 : decode prog_12_method_92_code 58 = .ok (.iload_n 2, 1) := by decide +kernel
theorem d219_59 : decode prog_12_method_92_code 59 = .ok (.iconst 2, 1) := by decide +kernel
theorem d219_60 : decode prog_12_method_92_code 60 = .ok (.invokevirtual 147, 3) := by decide +kernel
theorem d219_63 : decode prog_12_method_92_code 63 = .ok (.if_icmp .ne 12, 3) := by decide +kernel
theorem d219_66 : decode prog_12_method_92_code 66 = .ok (.iload_n 1, 1) := by decide +kernel
theorem d219_67 : decode prog_12_method_92_code 67 = .ok (.iload_n 2, 1) := by decide +kernel
theorem d219_68 : decode prog_12_method_92_code 68 = .ok (.if_icmp .ge 7, 3) := by decide +kernel
theorem d219_71 : decode prog_12_method_92_code 71 = .ok (.iconst 1, 1) := by decide +kernel
theorem d219_72 : decode prog_12_method_92_code 72 = .ok (.goto 4, 3) := by decide +kernel
theorem d219_75 : decode prog_12_method_92_code 75 = .ok (.iconst 0, 1) := by decide +kernel
theorem d219_76 : decode prog_12_method_92_code 76 = .ok (.ireturn, 1) := by decide +kernel
theorem d220_0 : decode prog_12_method_94_code 0 = .ok (.aload_n 0, 1) := by decide +kernel
theorem d220_1 : decode prog_12_method_94_code 1 = .ok (.iconst 1, 1) := by decide +kernel
theorem d220_2 : decode prog_12_method_94_code 2 = .ok (.invokevirtual 207, 3) := by decide +kernel
theorem d220_5 : decode prog_12_method_94_code 5 = .ok (.iconst 1, 1) := by decide +kernel
theorem d220_6 : decode prog_12_method_94_code 6 = .ok (.if_icmp .ne 7, 3) := by decide +kernel
theorem d220_9 : decode prog_12_method_94_code 9 = .ok (.iconst 1, 1) := by decide +kernel
theorem d220_10 : decode prog_12_method_94_code 10 = .ok (.goto 4, 3) := by decide +kernel
theorem d220_13 : decode prog_12_method_94_code 13 = .ok (.iconst 0, 1) := by decide +kernel
theorem d220_14 : decode prog_12_method_94_code 14 = .ok (.ireturn, 1) := by decide +kernel
theorem d221_0 : decode prog_12_method_97_code 0 = .ok (.aload_n 0, 1) := by decide +kernel
theorem d221_1 : decode prog_12_method_97_code 1 = .ok (.iload_n 1, 1) := by decide +kernel
theorem d221_2 : decode prog_12_method_97_code 2 = .ok (.invokestatic 123, 3) := by decide +kernel
theorem d221_5 : decode prog_12_method_97_code 5 = .ok (.invokevirtual 210, 3) := by decide +kernel
theorem d221_8 : decode prog_12_method_97_code 8 = .ok (.ifCond .le 5, 3) := by decide +kernel
theorem d221_11 : decode prog_12_method_97_code 11 = .ok (.iconst 0, 1) := by decide +kernel
theorem d221_12 : decode prog_12_method_97_code 12 = .ok (.ireturn, 1) := by decide +kernel
theorem d221_13 : decode prog_12_method_97_code 13 = .ok (.aload_n 0, 1) := by decide +kernel
theorem d221_14 : decode prog_12_method_97_code 14 = .ok (.iconst 0, 1) := by decide +kernel
theorem d221_15 : decode prog_12_method_97_code 15 = .ok (.putfield 54, 3) := by decide +kernel
theorem d221_18 : decode prog_12_method_97_code 18 = .ok (.aload_n 0, 1) := by decide +kernel
theorem d221_19 : decode prog_12_method_97_code 19 = .ok (.iload_n 1, 1) := by decide +kernel
theorem d221_20 : decode prog_12_method_97_code 20 = .ok (.invokevirtual 251, 3) := by decide +kernel
theorem d221_23 : decode prog_12_method_97_code 23 = .ok (.aload_n 0, 1) := by decide +kernel
theorem d221_24 : decode prog_12_method_97_code 24 = .ok (.bipush 64, 2) := by decide +kernel
theorem d221_26 : decode prog_12_method_97_code 26 = .ok (.invokevirtual 248, 3) := by decide +kernel
theorem d221_29 : decode prog_12_method_97_code 29 = .ok (.aload_n 0, 1) := by decide +kernel
theorem d221_30 : decode prog_12_method_97_code 30 = .ok (.aload_n 0, 1) := by decide +kernel
theorem d221_31 : decode prog_12_method_97_code 31 = .ok (.iload_n 1, 1) := by decide +kernel
theorem d221_32 : decode prog_12_method_97_code 32 = .ok (.iconst 0, 1) := by decide +kernel
theorem d221_33 : decode prog_12_method_97_code 33 = .ok (.invokevirtual 147, 3) := by decide +kernel
theorem d221_36 : decode prog_12_method_97_code 36 = .ok (.invokevirtual 251, 3) := by decide +kernel
theorem d221_39 : decode prog_12_method_97_code 39 = .ok (.aload_n 0, 1) := by decide +kernel
theorem d221_40 : decode prog_12_method_97_code 40 = .ok (.bipush 44, 2) := by decide +kernel
theorem d221_42 : decode prog_12_method_97_code 42 = .ok (.invokevirtual 248, 3) := by decide +kernel
theorem d221_45 : decode prog_12_method_97_code 45 = .ok (.aload_n 0, 1) := by decide +kernel
theorem d221_46 : decode prog_12_method_97_code 46 = .ok (.aload_n 0, 1) := by decide +kernel
theorem d221_47 : decode prog_12_method_97_code 47 = .ok (.iload_n 1, 1) := by decide +kernel
theorem d221_48 : decode prog_12_method_97_code 48 = .ok (.iconst 1, 1) := by decide +kernel
theorem d221_49 : decode prog_12_method_97_code 49 = .ok (.invokevirtual 147, 3) := by decide +kernel
theorem d221_52 : decode prog_12_method_97_code 52 = .ok (.invokevirtual 251, 3) := by decide +kernel
theorem d221_55 : decode prog_12_method_97_code 55 = .ok (.aload_n 0, 1) := by decide +kernel
theorem d221_56 : decode prog_12_method_97_code 56 = .ok (.bipush 43, 2) := by decide +kernel
theorem d221_58 : decode prog_12_method_97_code 58 = .ok (.invokevirtual 248, 3) := by decide +kernel
theorem d221_61 : decode prog_12_method_97_code 61 = .ok (.aload_n 0, 1) := by decide +kernel
theorem d221_62 : decode prog_12_method_97_code 62 = .ok (.aload_n 0, 1) := by decide +kernel
theorem d221_63 : decode prog_12_method_97_code 63 = .ok (.iload_n 1, 1) := by decide +kernel
theorem d221_64 : decode prog_12_method_97_code 64 = .ok (.iconst 2, 1) := by decide +kernel
theorem d221_65 : decode prog_12_method_97_code 65 = .ok (.invokevirtual 147, 3) := by decide +kernel
theorem d221_68 : decode prog_12_method_97_code 68 = .ok (.invokevirtual 251, 3) := by decide +kernel
theorem d221_71 : decode prog_12_method_97_code 71 = .ok (.iconst 0, 1) := by decide +kernel
theorem d221_72 : decode prog_12_method_97_code 72 = .ok (.istore_n 2, 1) := by decide +kernel
theorem d221_73 : decode prog_12_method_97_code 73 = .ok (.iload_n 2, 1) := by decide +kernel
theorem d221_74 : decode prog_12_method_97_code 74 = .ok (.bipush 6, 2) := by decide +kernel
theorem d221_76 : decode prog_12_method_97_code 76 = .ok (.if_icmp .ge 44, 3) := by decide +kernel
theorem d221_79 : decode prog_12_method_97_code 79 = .ok (.aload_n 0, 1) := by decide +kernel
theorem d221_80 : decode prog_12_method_97_code 80 = .ok (.getfield 7, 3) := by decide +kernel
theorem d221_83 : decode prog_12_method_97_code 83 = .ok (.bipush 12, 2) := by decide +kernel
theorem d221_85 : decode prog_12_method_97_code 85 = .ok (.iload_n 2, 1) := by decide +kernel
theorem d221_86 : decode prog_12_method_97_code 86 = .ok (.iadd, 1) := by decide +kernel
theorem d221_87 : decode prog_12_method_97_code 87 = .ok (.iaload, 1) := by decide +kernel
theorem d221_88 : decode prog_12_method_97_code 88 = .ok (.iload_n 1, 1) := by decide +kernel
theorem d221_89 : decode prog_12_method_97_code 89 = .ok (.iconst 1, 1) := by decide +kernel
theorem d221_90 : decode prog_12_method_97_code 90 = .ok (.iadd, 1) := by decide +kernel
theorem d221_91 : decode prog_12_method_97_code 91 = .ok (.if_icmp .eq 6, 3) := by decide +kernel
theorem d221_94 : decode prog_12_method_97_code 94 = .ok (.goto 20, 3) := by decide +kernel
theorem d221_97 : decode prog_12_method_97_code 97 = .ok (.aload_n 0, 1) := by decide +kernel
theorem d221_98 : decode prog_12_method_97_code 98 = .ok (.bipush 32, 2) := by decide +kernel
theorem d221_100 : decode prog_12_method_97_code 100 = .ok (.invokevirtual 248, 3) := by decide +kernel
theorem d221_103 : decode prog_12_method_97_code 103 = .ok (.aload_n 0, 1) := by decide +kernel
theorem d221_104 : decode prog_12_method_97_code 104 = .ok (.bipush 116, 2) := by decide +kernel
theorem d221_106 : decode prog_12_method_97_code 106 = .ok (.invokevirtual 248, 3) := by decide +kernel
theorem d221_109 : decode prog_12_method_97_code 109 = .ok (.aload_n 0, 1) := by decide +kernel
theorem d221_110 : decode prog_12_method_97_code 110 = .ok (.iload_n 2, 1) := by decide +kernel
theorem d221_111 : decode prog_12_method_97_code 111 = .ok (.invokevirtual 251, 3) := by decide +kernel
theorem d221_114 : decode prog_12_method_97_code 114 = .ok (.iinc 2 1, 3) := by decide +kernel
theorem d221_117 : decode prog_12_method_97_code 117 = .ok (.goto (-44), 3) := by decide +kernel
theorem d221_120 : decode prog_12_method_97_code 120 = .ok (.iconst 0, 1) := by decide +kernel
theorem d221_121 : decode prog_12_method_97_code 121 = .ok (.istore_n 2, 1) := by decide +kernel
theorem d221_122 : decode prog_12_method_97_code 122 = .ok (.iload_n 2, 1) := by decide +kernel
theorem d221_123 : decode prog_12_method_97_code 123 = .ok (.iconst 4, 1) := by decide +kernel
theorem d221_124 : decode prog_12_method_97_code 124 = .ok (.if_icmp .ge 49, 3) := by decide +kernel
theorem d221_127 : decode prog_12_method_97_code 127 = .ok (.aload_n 0, 1) := by decide +kernel
theorem d221_128 : decode prog_12_method_97_code 128 = .ok (.iload_n 1, 1) := by decide +kernel
theorem d221_129 : decode prog_12_method_97_code 129 = .ok (.iconst 4, 1) := by decide +kernel
theorem d221_130 : decode prog_12_method_97_code 130 = .ok (.iload_n 2, 1) := by decide +kernel
theorem d221_131 : decode prog_12_method_97_code 131 = .ok (.iadd, 1) := by decide +kernel
theorem d221_132 : decode prog_12_method_97_code 132 = .ok (.invokevirtual 147, 3) := by decide +kernel
theorem d221_135 : decode prog_12_method_97_code 135 = .ok (.ifCond .ne 6, 3) := by decide +kernel
theorem d221_138 : decode prog_12_method_97_code 138 = .ok (.goto 29, 3) := by decide +kernel
theorem d221_141 : decode prog_12_method_97_code 141 = .ok (.aload_n 0, 1) := by decide +kernel
theorem d221_142 : decode prog_12_method_97_code 142 = .ok (.bipush 32, 2) := by decide +kernel
theorem d221_144 : decode prog_12_method_97_code 144 = .ok (.invokevirtual 248, 3) := by decide +kernel
theorem d221_147 : decode prog_12_method_97_code 147 = .ok (.aload_n 0, 1) := by decide +kernel
theorem d221_148 : decode prog_12_method_97_code 148 = .ok (.bipush 97, 2) := by decide +kernel
theorem d221_150 : decode prog_12_method_97_code 150 = .ok (.iload_n 2, 1) := by decide +kernel
theorem d221_151 : decode prog_12_method_97_code 151 = .ok (.iadd, 1) := by decide +kernel
theorem d221_152 : decode prog_12_method_97_code 152 = .ok (.invokevirtual 248, 3) := by decide +kernel
theorem d221_155 : decode prog_12_method_97_code 155 = .ok (.aload_n 0, 1) := by decide +kernel
theorem d221_156 : decode prog_12_method_97_code 156 = .ok (.aload_n 0, 1) := by decide +kernel
theorem d221_157 : decode prog_12_method_97_code 157 = .ok (.iload_n 1, 1) := by decide +kernel
theorem d221_158 : decode prog_12_method_97_code 158 = .ok (.iconst 4, 1) := by decide +kernel
theorem d221_159 : decode prog_12_method_97_code 159 = .ok (.iload_n 2, 1) := by decide +kernel
theorem d221_160 : decode prog_12_method_97_code 160 = .ok (.iadd, 1) := by decide +kernel
theorem d221_161 : decode prog_12_method_97_code 161 = .ok (.invokevirtual 147, 3) := by decide +kernel
theorem d221_164 : decode prog_12_method_97_code 164 = .ok (.invokevirtual 251, 3) := by decide +kernel
theorem d221_167 : decode prog_12_method_97_code 167 = .ok (.iinc 2 1, 3) := by decide +kernel
theorem d221_170 : decode prog_12_method_97_code 170 = .ok (.goto (-48), 3) := by decide +kernel
theorem d221_173 : decode prog_12_method_97_code 173 = .ok (.aload_n 0, 1) := by decide +kernel
theorem d221_174 : decode prog_12_method_97_code 174 = .ok (.getfield 54, 3) := by decide +kernel
theorem d221_177 : decode prog_12_method_97_code 177 = .ok (.ireturn, 1) := by decide +kernel
theorem d222_0 : decode prog_12_method_96_code 0 = .ok (.iconst 1, 1) := by decide +kernel
theorem d222_1 : decode prog_12_method_96_code 1 = .ok (.istore_n 2, 1) := by decide +kernel
theorem d222_2 : decode prog_12_method_96_code 2 = .ok (.iload_n 1, 1) := by decide +kernel
theorem d222_3 : decode prog_12_method_96_code 3 = .ok (.iload_n 2, 1) := by decide +kernel
theorem d222_4 : decode prog_12_method_96_code 4 = .ok (.idiv, 1) := by decide +kernel
theorem d222_5 : decode prog_12_method_96_code 5 = .ok (.bipush 9, 2) := by decide +kernel
theorem d222_7 : decode prog_12_method_96_code 7 = .ok (.if_icmp .le 11, 3) := by decide +kernel
theorem d222_10 : decode prog_12_method_96_code 10 = .ok (.iload_n 2, 1) := by decide +kernel
theorem d222_11 : decode prog_12_method_96_code 11 = .ok (.bipush 10, 2) := by decide +kernel
theorem d222_13 : decode prog_12_method_96_code 13 = .ok (.imul, 1) := by decide +kernel
theorem d222_14 : decode prog_12_method_96_code 14 = .ok (.istore_n 2, 1) := by decide +kernel
theorem d222_15 : decode prog_12_method_96_code 15 = .ok (.goto (-13), 3) := by decide +kernel
theorem d222_18 : decode prog_12_method_96_code 18 = .ok (.iload_n 2, 1) := by decide +kernel
theorem d222_19 : decode prog_12_method_96_code 19 = .ok (.ifCond .le 24, 3) := by decide +kernel
theorem d222_22 : decode prog_12_method_96_code 22 = .ok (.aload_n 0, 1) := by decide +kernel
theorem d222_23 : decode prog_12_method_96_code 23 = .ok (.bipush 48, 2) := by decide +kernel
theorem d222_25 : decode prog_12_method_96_code 25 = .ok (.iload_n 1, 1) := by decide +kernel
theorem d222_26 : decode prog_12_method_96_code 26 = .ok (.iload_n 2, 1) := by decide +kernel
theorem d222_27 : decode prog_12_method_96_code 27 = .ok (.idiv, 1) := by decide +kernel
theorem d222_28 : decode prog_12_method_96_code 28 = .ok (.bipush 10, 2) := by decide +kernel
theorem d222_30 : decode prog_12_method_96_code 30 = .ok (.irem, 1) := by decide +kernel
theorem d222_31 : decode prog_12_method_96_code 31 = .ok (.iadd, 1) := by decide +kernel
theorem d222_32 : decode prog_12_method_96_code 32 = .ok (.invokevirtual 248, 3) := by decide +kernel
theorem d222_35 : decode prog_12_method_96_code 35 = .ok (.iload_n 2, 1) := by decide +kernel
theorem d222_36 : decode prog_12_method_96_code 36 = .ok (.bipush 10, 2) := by decide +kernel
theorem d222_38 : decode prog_12_method_96_code 38 = .ok (.idiv, 1) := by decide +kernel
theorem d222_39 : decode prog_12_method_96_code 39 = .ok (.istore_n 2, 1) := by decide +kernel
theorem d222_40 : decode prog_12_method_96_code 40 = .ok (.goto (-22), 3) := by decide +kernel
theorem d222_43 : decode prog_12_method_96_code 43 = .ok (.return_, 1) := by decide +kernel
theorem d223_0 : decode prog_12_method_95_code 0 = .ok (.aload_n 0, 1) := by decide +kernel
theorem d223_1 : decode prog_12_method_95_code 1 = .ok (.getfield 51, 3) := by decide +kernel
theorem d223_4 : decode prog_12_method_95_code 4 = .ok (.aload_n 0, 1) := by decide +kernel
theorem d223_5 : decode prog_12_method_95_code 5 = .ok (.getfield 54, 3) := by decide +kernel
theorem d223_8 : decode prog_12_method_95_code 8 = .ok (.iload_n 1, 1) := by decide +kernel
theorem d223_9 : decode prog_12_method_95_code 9 = .ok (.iastore, 1) := by decide +kernel
theorem d223_10 : decode prog_12_method_95_code 10 = .ok (.aload_n 0, 1) := by decide +kernel
theorem d223_11 : decode prog_12_method_95_code 11 = .ok (.dup, 1) := by decide +kernel
theorem d223_12 : decode prog_12_method_95_code 12 = .ok (.getfield 54, 3) := by decide +kernel
theorem d223_15 : decode prog_12_method_95_code 15 = .ok (.iconst 1, 1) := by decide +kernel
theorem d223_16 : decode prog_12_method_95_code 16 = .ok (.iadd, 1) := by decide +kernel
theorem d223_17 : decode prog_12_method_95_code 17 = .ok (.putfield 54, 3) := by decide +kernel
theorem d223_20 : decode prog_12_method_95_code 20 = .ok (.return_, 1) := by decide +kernel
theorem d224_0 : decode prog_12_method_98_code 0 = .ok (.aload_n 0, 1) := by decide +kernel
theorem d224_1 : decode prog_12_method_98_code 1 = .ok (.iload_n 1, 1) := by decide +kernel
theorem d224_2 : decode prog_12_method_98_code 2 = .ok (.invokestatic 123, 3) := by decide +kernel
theorem d224_5 : decode prog_12_method_98_code 5 = .ok (.invokevirtual 210, 3) := by decide +kernel
theorem d224_8 : decode prog_12_method_98_code 8 = .ok (.ifCond .le 5, 3) := by decide +kernel
theorem d224_11 : decode prog_12_method_98_code 11 = .ok (.iconst 0, 1) := by decide +kernel
theorem d224_12 : decode prog_12_method_98_code 12 = .ok (.ireturn, 1) := by decide +kernel
theorem d224_13 : decode prog_12_method_98_code 13 = .ok (.aload_n 0, 1) := by decide +kernel
theorem d224_14 : decode prog_12_method_98_code 14 = .ok (.iload_n 1, 1) := by decide +kernel
theorem d224_15 : decode prog_12_method_98_code 15 = .ok (.invokevirtual 238, 3) := by decide +kernel
theorem d224_18 : decode prog_12_method_98_code 18 = .ok (.aload_n 0, 1) := by decide +kernel
theorem d224_19 : decode prog_12_method_98_code 19 = .ok (.iconst 0, 1) := by decide +kernel
theorem d224_20 : decode prog_12_method_98_code 20 = .ok (.putfield 54, 3) := by decide +kernel
theorem d224_23 : decode prog_12_method_98_code 23 = .ok (.aload_n 0, 1) := by decide +kernel
theorem d224_24 : decode prog_12_method_98_code 24 = .ok (.iload_n 1, 1) := by decide +kernel
theorem d224_25 : decode prog_12_method_98_code 25 = .ok (.iconst 2, 1) := by decide +kernel
theorem d224_26 : decode prog_12_method_98_code 26 = .ok (.invokevirtual 147, 3) := by decide +kernel
theorem d224_29 : decode prog_12_method_98_code 29 = .ok (.istore_n 2, 1) := by decide +kernel
theorem d224_30 : decode prog_12_method_98_code 30 = .ok (.aload_n 0, 1) := by decide +kernel
theorem d224_31 : decode prog_12_method_98_code 31 = .ok (.iload_n 1, 1) := by decide +kernel
theorem d224_32 : decode prog_12_method_98_code 32 = .ok (.iconst 0, 1) := by decide +kernel
theorem d224_33 : decode prog_12_method_98_code 33 = .ok (.invokevirtual 147, 3) := by decide +kernel
theorem d224_36 : decode prog_12_method_98_code 36 = .ok (.istore_n 3, 1) := by decide +kernel
theorem d224_37 : decode prog_12_method_98_code 37 = .ok (.aload_n 0, 1) := by decide +kernel
theorem d224_38 : decode prog_12_method_98_code 38 = .ok (.iload_n 1, 1) := by decide +kernel
theorem d224_39 : decode prog_12_method_98_code 39 = .ok (.iconst 1, 1) := by decide +kernel
theorem d224_40 : decode prog_12_method_98_code 40 = .ok (.invokevirtual 147, 3) := by decide +kernel
theorem d224_43 : decode prog_12_method_98_code 43 = .ok (.istore 4, 2) := by decide +kernel
theorem d224_45 : decode prog_12_method_98_code 45 = .ok (.iconst 0, 1) := by decide +kernel
theorem d224_46 : decode prog_12_method_98_code 46 = .ok (.istore 5, 2) := by decide +kernel
theorem d224_48 : decode prog_12_method_98_code 48 = .ok (.iload 5, 2) := by decide +kernel
theorem d224_50 : decode prog_12_method_98_code 50 = .ok (.aload_n 0, 1) := by decide +kernel
theorem d224_51 : decode prog_12_method_98_code 51 = .ok (.getfield 41, 3) := by decide +kernel
theorem d224_54 : decode prog_12_method_98_code 54 = .ok (.if_icmp .ge 103, 3) := by decide +kernel
theorem d224_57 : decode prog_12_method_98_code 57 = .ok (.aload_n 0, 1) := by decide +kernel
theorem d224_58 : decode prog_12_method_98_code 58 = .ok (.getfield 25, 3) := by decide +kernel
theorem d224_61 : decode prog_12_method_98_code 61 = .ok (.iload 5, 2) := by decide +kernel
theorem d224_63 : decode prog_12_method_98_code 63 = .ok (.iaload, 1) := by decide +kernel
theorem d224_64 : decode prog_12_method_98_code 64 = .ok (.istore 6, 2) := by decide +kernel
theorem d224_66 : decode prog_12_method_98_code 66 = .ok (.iload_n 2, 1) := by decide +kernel
theorem d224_67 : decode prog_12_method_98_code 67 = .ok (.iload_n 3, 1) := by decide +kernel
theorem d224_68 : decode prog_12_method_98_code 68 = .ok (.aload_n 0, 1) := by decide +kernel
theorem d224_69 : decode prog_12_method_98_code 69 = .ok (.iload 6, 2) := by decide +kernel
theorem d224_71 : decode prog_12_method_98_code 71 = .ok (.iconst 1, 1) := by decide +kernel
theorem d224_72 : decode prog_12_method_98_code 72 = .ok (.invokevirtual 85, 3) := by decide +kernel
theorem d224_75 : decode prog_12_method_98_code 75 = .ok (.invokestatic 176, 3) := by decide +kernel
theorem d224_78 : decode prog_12_method_98_code 78 = .ok (.iload 4, 2) := by decide +kernel
theorem d224_80 : decode prog_12_method_98_code 80 = .ok (.aload_n 0, 1) := by decide +kernel
theorem d224_81 : decode prog_12_method_98_code 81 = .ok (.iload 6, 2) := by decide +kernel
theorem d224_83 : decode prog_12_method_98_code 83 = .ok (.iconst 2, 1) := by decide +kernel
theorem d224_84 : decode prog_12_method_98_code 84 = .ok (.invokevirtual 85, 3) := by decide +kernel
theorem d224_87 : decode prog_12_method_98_code 87 = .ok (.invokestatic 176, 3) := by decide +kernel
theorem d224_90 : decode prog_12_method_98_code 90 = .ok (.iadd, 1) := by decide +kernel
theorem d224_91 : decode prog_12_method_98_code 91 = .ok (.aload_n 0, 1) := by decide +kernel
theorem d224_92 : decode prog_12_method_98_code 92 = .ok (.iload 6, 2) := by decide +kernel
theorem d224_94 : decode prog_12_method_98_code 94 = .ok (.iconst 5, 1) := by decide +kernel
theorem d224_95 : decode prog_12_method_98_code 95 = .ok (.invokevirtual 85, 3) := by decide +kernel
theorem d224_98 : decode prog_12_method_98_code 98 = .ok (.iadd, 1) := by decide +kernel
theorem d224_99 : decode prog_12_method_98_code 99 = .ok (.iadd, 1) := by decide +kernel
theorem d224_100 : decode prog_12_method_98_code 100 = .ok (.istore_n 2, 1) := by decide +kernel
theorem d224_101 : decode prog_12_method_98_code 101 = .ok (.aload_n 0, 1) := by decide +kernel
theorem d224_102 : decode prog_12_method_98_code 102 = .ok (.iload 6, 2) := by decide +kernel
theorem d224_104 : decode prog_12_method_98_code 104 = .ok (.iconst 1, 1) := by decide +kernel
theorem d224_105 : decode prog_12_method_98_code 105 = .ok (.invokevirtual 85, 3) := by decide +kernel
theorem d224_108 : decode prog_12_method_98_code 108 = .ok (.istore_n 3, 1) := by decide +kernel
theorem d224_109 : decode prog_12_method_98_code 109 = .ok (.aload_n 0, 1) := by decide +kernel
theorem d224_110 : decode prog_12_method_98_code 110 = .ok (.iload 6, 2) := by decide +kernel
theorem d224_112 : decode prog_12_method_98_code 112 = .ok (.iconst 2, 1) := by decide +kernel
theorem d224_113 : decode prog_12_method_98_code 113 = .ok (.invokevirtual 85, 3) := by decide +kernel
theorem d224_116 : decode prog_12_method_98_code 116 = .ok (.istore 4, 2) := by decide +kernel
theorem d224_118 : decode prog_12_method_98_code 118 = .ok (.iload 5, 2) := by decide +kernel
theorem d224_120 : decode prog_12_method_98_code 120 = .ok (.ifCond .le 9, 3) := by decide +kernel
theorem d224_123 : decode prog_12_method_98_code 123 = .ok (.aload_n 0, 1) := by decide +kernel
theorem d224_124 : decode prog_12_method_98_code 124 = .ok (.bipush 62, 2) := by decide +kernel
theorem d224_126 : decode prog_12_method_98_code 126 = .ok (.invokevirtual 248, 3) := by decide +kernel
theorem d224_129 : decode prog_12_method_98_code 129 = .ok (.aload_n 0, 1) := by decide +kernel
theorem d224_130 : decode prog_12_method_98_code 130 = .ok (.aload_n 0, 1) := by decide +kernel
theorem d224_131 : decode prog_12_method_98_code 131 = .ok (.iload 6, 2) := by decide +kernel
theorem d224_133 : decode prog_12_method_98_code 133 = .ok (.iconst 0, 1) := by decide +kernel
theorem d224_134 : decode prog_12_method_98_code 134 = .ok (.invokevirtual 85, 3) := by decide +kernel
theorem d224_137 : decode prog_12_method_98_code 137 = .ok (.invokevirtual 251, 3) := by decide +kernel
theorem d224_140 : decode prog_12_method_98_code 140 = .ok (.aload_n 0, 1) := by decide +kernel
theorem d224_141 : decode prog_12_method_98_code 141 = .ok (.bipush 58, 2) := by decide +kernel
theorem d224_143 : decode prog_12_method_98_code 143 = .ok (.invokevirtual 248, 3) := by decide +kernel
theorem d224_146 : decode prog_12_method_98_code 146 = .ok (.aload_n 0, 1) := by decide +kernel
theorem d224_147 : decode prog_12_method_98_code 147 = .ok (.iload_n 2, 1) := by decide +kernel
theorem d224_148 : decode prog_12_method_98_code 148 = .ok (.invokevirtual 251, 3) := by decide +kernel
theorem d224_151 : decode prog_12_method_98_code 151 = .ok (.iinc 5 1, 3) := by decide +kernel
theorem d224_154 : decode prog_12_method_98_code 154 = .ok (.goto (-106), 3) := by decide +kernel
theorem d224_157 : decode prog_12_method_98_code 157 = .ok (.aload_n 0, 1) := by decide +kernel
theorem d224_158 : decode prog_12_method_98_code 158 = .ok (.getfield 54, 3) := by decide +kernel
theorem d224_161 : decode prog_12_method_98_code 161 = .ok (.ireturn, 1) := by decide +kernel
theorem d225_0 : decode prog_12_method_99_code 0 = .ok (.aload_n 0, 1) := by decide +kernel
theorem d225_1 : decode prog_12_method_99_code 1 = .ok (.iload_n 1, 1) := by decide +kernel
theorem d225_2 : decode prog_12_method_99_code 2 = .ok (.iconst 0, 1) := by decide +kernel
theorem d225_3 : decode prog_12_method_99_code 3 = .ok (.aload_n 0, 1) := by decide +kernel
theorem d225_4 : decode prog_12_method_99_code 4 = .ok (.getfield 54, 3) := by decide +kernel
theorem d225_7 : decode prog_12_method_99_code 7 = .ok (.iconst 1, 1) := by decide +kernel
theorem d225_8 : decode prog_12_method_99_code 8 = .ok (.isub, 1) := by decide +kernel
theorem d225_9 : decode prog_12_method_99_code 9 = .ok (.invokestatic 89, 3) := by decide +kernel
theorem d225_12 : decode prog_12_method_99_code 12 = .ok (.invokevirtual 210, 3) := by decide +kernel
theorem d225_15 : decode prog_12_method_99_code 15 = .ok (.ifCond .le 8, 3) := by decide +kernel
theorem d225_18 : decode prog_12_method_99_code 18 = .ok (.bipush 32, 2) := by decide +kernel
theorem d225_20 : decode prog_12_method_99_code 20 = .ok (.goto 10, 3) := by decide +kernel
theorem d225_23 : decode prog_12_method_99_code 23 = .ok (.aload_n 0, 1) := by decide +kernel
theorem d225_24 : decode prog_12_method_99_code 24 = .ok (.getfield 51, 3) := by decide +kernel
theorem d225_27 : decode prog_12_method_99_code 27 = .ok (.iload_n 1, 1) := by decide +kernel
theorem d225_28 : decode prog_12_method_99_code 28 = .ok (.iaload, 1) := by decide +kernel
theorem d225_29 : decode prog_12_method_99_code 29 = .ok (.i2c, 1) := by decide +kernel
theorem d225_30 : decode prog_12_method_99_code 30 = .ok (.ireturn, 1) := by decide +kernel
theorem d226_0 : decode prog_12_method_100_code 0 = .ok (.aload_n 0, 1) := by decide +kernel
theorem d226_1 : decode prog_12_method_100_code 1 = .ok (.aload_n 0, 1) := by decide +kernel
theorem d226_2 : decode prog_12_method_100_code 2 = .ok (.getfield 66, 3) := by decide +kernel
theorem d226_5 : decode prog_12_method_100_code 5 = .ok (.bipush 60, 2) := by decide +kernel
theorem d226_7 : decode prog_12_method_100_code 7 = .ok (.if_icmp .ge 7, 3) := by decide +kernel
theorem d226_10 : decode prog_12_method_100_code 10 = .ok (.iconst 1, 1) := by decide +kernel
theorem d226_11 : decode prog_12_method_100_code 11 = .ok (.goto 4, 3) := by decide +kernel
theorem d226_14 : decode prog_12_method_100_code 14 = .ok (.iconst 0, 1) := by decide +kernel
theorem d226_15 : decode prog_12_method_100_code 15 = .ok (.invokevirtual 210, 3) := by decide +kernel
theorem d226_18 : decode prog_12_method_100_code 18 = .ok (.ifCond .le 5, 3) := by decide +kernel
theorem d226_21 : decode prog_12_method_100_code 21 = .ok (.iconst 0, 1) := by decide +kernel
theorem d226_22 : decode prog_12_method_100_code 22 = .ok (.ireturn, 1) := by decide +kernel
theorem d226_23 : decode prog_12_method_100_code 23 = .ok (.aload_n 0, 1) := by decide +kernel
theorem d226_24 : decode prog_12_method_100_code 24 = .ok (.getfield 57, 3) := by decide +kernel
theorem d226_27 : decode prog_12_method_100_code 27 = .ok (.aload_n 0, 1) := by decide +kernel
theorem d226_28 : decode prog_12_method_100_code 28 = .ok (.getfield 66, 3) := by decide +kernel
theorem d226_31 : decode prog_12_method_100_code 31 = .ok (.iload_n 1, 1) := by decide +kernel
theorem d226_32 : decode prog_12_method_100_code 32 = .ok (.iastore, 1) := by decide +kernel
theorem d226_33 : decode prog_12_method_100_code 33 = .ok (.aload_n 0, 1) := by decide +kernel
theorem d226_34 : decode prog_12_method_100_code 34 = .ok (.dup, 1) := by decide +kernel
theorem d226_35 : decode prog_12_method_100_code 35 = .ok (.getfield 66, 3) := by decide +kernel
theorem d226_38 : decode prog_12_method_100_code 38 = .ok (.iconst 1, 1) := by decide +kernel
theorem d226_39 : decode prog_12_method_100_code 39 = .ok (.iadd, 1) := by decide +kernel
theorem d226_40 : decode prog_12_method_100_code 40 = .ok (.putfield 66, 3) := by decide +kernel
theorem d226_43 : decode prog_12_method_100_code 43 = .ok (.aload_n 0, 1) := by decide +kernel
theorem d226_44 : decode prog_12_method_100_code 44 = .ok (.getfield 66, 3) := by decide +kernel
theorem d226_47 : decode prog_12_method_100_code 47 = .ok (.ireturn, 1) := by decide +kernel
theorem d227_0 : decode prog_12_method_114_code 0 = .ok (.aload_n 0, 1) := by decide +kernel
theorem d227_1 : decode prog_12_method_114_code 1 = .ok (.invokevirtual 100, 3) := by decide +kernel
theorem d227_4 : decode prog_12_method_114_code 4 = .ok (.aload_n 0, 1) := by decide +kernel
theorem d227_5 : decode prog_12_method_114_code 5 = .ok (.invokevirtual 289, 3) := by decide +kernel
theorem d227_8 : decode prog_12_method_114_code 8 = .ok (.aload_n 0, 1) := by decide +kernel
theorem d227_9 : decode prog_12_method_114_code 9 = .ok (.getfield 78, 3) := by decide +kernel
theorem d227_12 : decode prog_12_method_114_code 12 = .ok (.ifCond .eq 17, 3) := by decide +kernel
theorem d227_15 : decode prog_12_method_114_code 15 = .ok (.aload_n 0, 1) := by decide +kernel
theorem d227_16 : decode prog_12_method_114_code 16 = .ok (.aload_n 0, 1) := by decide +kernel
theorem d227_17 : decode prog_12_method_114_code 17 = .ok (.getfield 72, 3) := by decide +kernel
theorem d227_20 : decode prog_12_method_114_code 20 = .ok (.putfield 35, 3) := by decide +kernel
theorem d227_23 : decode prog_12_method_114_code 23 = .ok (.aload_n 0, 1) := by decide +kernel
theorem d227_24 : decode prog_12_method_114_code 24 = .ok (.iconst 1, 1) := by decide +kernel
theorem d227_25 : decode prog_12_method_114_code 25 = .ok (.invokevirtual 107, 3) := by decide +kernel
theorem d227_28 : decode prog_12_method_114_code 28 = .ok (.ireturn, 1) := by decide +kernel
theorem d227_29 : decode prog_12_method_114_code 29 = .ok (.iconst 0, 1) := by decide +kernel
theorem d227_30 : decode prog_12_method_114_code 30 = .ok (.istore_n 1, 1) := by decide +kernel
theorem d227_31 : decode prog_12_method_114_code 31 = .ok (.iload_n 1, 1) := by decide +kernel
theorem d227_32 : decode prog_12_method_114_code 32 = .ok (.aload_n 0, 1) := by decide +kernel
theorem d227_33 : decode prog_12_method_114_code 33 = .ok (.getfield 75, 3) := by decide +kernel
theorem d227_36 : decode prog_12_method_114_code 36 = .ok (.if_icmp .ge 44, 3) := by decide +kernel
theorem d227_39 : decode prog_12_method_114_code 39 = .ok (.aload_n 0, 1) := by decide +kernel
theorem d227_40 : decode prog_12_method_114_code 40 = .ok (.iload_n 1, 1) := by decide +kernel
theorem d227_41 : decode prog_12_method_114_code 41 = .ok (.invokevirtual 292, 3) := by decide +kernel
theorem d227_44 : decode prog_12_method_114_code 44 = .ok (.ifCond .ne 6, 3) := by decide +kernel
theorem d227_47 : decode prog_12_method_114_code 47 = .ok (.goto 27, 3) := by decide +kernel
theorem d227_50 : decode prog_12_method_114_code 50 = .ok (.aload_n 0, 1) := by decide +kernel
theorem d227_51 : decode prog_12_method_114_code 51 = .ok (.getfield 13, 3) := by decide +kernel
theorem d227_54 : decode prog_12_method_114_code 54 = .ok (.iconst 0, 1) := by decide +kernel
theorem d227_55 : decode prog_12_method_114_code 55 = .ok (.aload_n 0, 1) := by decide +kernel
theorem d227_56 : decode prog_12_method_114_code 56 = .ok (.getfield 7, 3) := by decide +kernel
theorem d227_59 : decode prog_12_method_114_code 59 = .ok (.iconst 0, 1) := by decide +kernel
theorem d227_60 : decode prog_12_method_114_code 60 = .ok (.invokestatic 81, 3) := by decide +kernel
theorem d227_63 : decode prog_12_method_114_code 63 = .ok (.aload_n 0, 1) := by decide +kernel
theorem d227_64 : decode prog_12_method_114_code 64 = .ok (.iload_n 1, 1) := by decide +kernel
theorem d227_65 : decode prog_12_method_114_code 65 = .ok (.putfield 38, 3) := by decide +kernel
theorem d227_68 : decode prog_12_method_114_code 68 = .ok (.aload_n 0, 1) := by decide +kernel
theorem d227_69 : decode prog_12_method_114_code 69 = .ok (.iconst 2, 1) := by decide +kernel
theorem d227_70 : decode prog_12_method_114_code 70 = .ok (.invokevirtual 107, 3) := by decide +kernel
theorem d227_73 : decode prog_12_method_114_code 73 = .ok (.ireturn, 1) := by decide +kernel
theorem d227_74 : decode prog_12_method_114_code 74 = .ok (.iinc 1 1, 3) := by decide +kernel
theorem d227_77 : decode prog_12_method_114_code 77 = .ok (.goto (-46), 3) := by decide +kernel
theorem d227_80 : decode prog_12_method_114_code 80 = .ok (.aload_n 0, 1) := by decide +kernel
theorem d227_81 : decode prog_12_method_114_code 81 = .ok (.aload_n 0, 1) := by decide +kernel
theorem d227_82 : decode prog_12_method_114_code 82 = .ok (.getfield 75, 3) := by decide +kernel
theorem d227_85 : decode prog_12_method_114_code 85 = .ok (.invokevirtual 114, 3) := by decide +kernel
theorem d227_88 : decode prog_12_method_114_code 88 = .ok (.ireturn, 1) := by decide +kernel
theorem d228_0 : decode prog_12_method_112_code 0 = .ok (.aload_n 0, 1) := by decide +kernel
theorem d228_1 : decode prog_12_method_112_code 1 = .ok (.aload_n 0, 1) := by decide +kernel
theorem d228_2 : decode prog_12_method_112_code 2 = .ok (.getfield 66, 3) := by decide +kernel
theorem d228_5 : decode prog_12_method_112_code 5 = .ok (.putfield 69, 3) := by decide +kernel
theorem d228_8 : decode prog_12_method_112_code 8 = .ok (.aload_n 0, 1) := by decide +kernel
theorem d228_9 : decode prog_12_method_112_code 9 = .ok (.iconst 0, 1) := by decide +kernel
theorem d228_10 : decode prog_12_method_112_code 10 = .ok (.putfield 66, 3) := by decide +kernel
theorem d228_13 : decode prog_12_method_112_code 13 = .ok (.aload_n 0, 1) := by decide +kernel
theorem d228_14 : decode prog_12_method_112_code 14 = .ok (.iconst 0, 1) := by decide +kernel
theorem d228_15 : decode prog_12_method_112_code 15 = .ok (.putfield 72, 3) := by decide +kernel
theorem d228_18 : decode prog_12_method_112_code 18 = .ok (.aload_n 0, 1) := by decide +kernel
theorem d228_19 : decode prog_12_method_112_code 19 = .ok (.iconst 0, 1) := by decide +kernel
theorem d228_20 : decode prog_12_method_112_code 20 = .ok (.putfield 75, 3) := by decide +kernel
theorem d228_23 : decode prog_12_method_112_code 23 = .ok (.aload_n 0, 1) := by decide +kernel
theorem d228_24 : decode prog_12_method_112_code 24 = .ok (.iconst 0, 1) := by decide +kernel
theorem d228_25 : decode prog_12_method_112_code 25 = .ok (.putfield 78, 3) := by decide +kernel
theorem d228_28 : decode prog_12_method_112_code 28 = .ok (.aload_n 0, 1) := by decide +kernel
theorem d228_29 : decode prog_12_method_112_code 29 = .ok (.invokevirtual 286, 3) := by decide +kernel
theorem d228_32 : decode prog_12_method_112_code 32 = .ok (.aload_n 0, 1) := by decide +kernel
theorem d228_33 : decode prog_12_method_112_code 33 = .ok (.invokevirtual 254, 3) := by decide +kernel
theorem d228_36 : decode prog_12_method_112_code 36 = .ok (.bipush 59, 2) := by decide +kernel
theorem d228_38 : decode prog_12_method_112_code 38 = .ok (.if_icmp .ne 20, 3) := by decide +kernel
theorem d228_41 : decode prog_12_method_112_code 41 = .ok (.aload_n 0, 1) := by decide +kernel
theorem d228_42 : decode prog_12_method_112_code 42 = .ok (.dup, 1) := by decide +kernel
theorem d228_43 : decode prog_12_method_112_code 43 = .ok (.getfield 72, 3) := by decide +kernel
theorem d228_46 : decode prog_12_method_112_code 46 = .ok (.iconst 1, 1) := by decide +kernel
theorem d228_47 : decode prog_12_method_112_code 47 = .ok (.iadd, 1) := by decide +kernel
theorem d228_48 : decode prog_12_method_112_code 48 = .ok (.putfield 72, 3) := by decide +kernel
theorem d228_51 : decode prog_12_method_112_code 51 = .ok (.aload_n 0, 1) := by decide +kernel
theorem d228_52 : decode prog_12_method_112_code 52 = .ok (.invokevirtual 286, 3) := by decide +kernel
theorem d228_55 : decode prog_12_method_112_code 55 = .ok (.goto (-23), 3) := by decide +kernel
theorem d228_58 : decode prog_12_method_112_code 58 = .ok (.aload_n 0, 1) := by decide +kernel
theorem d228_59 : decode prog_12_method_112_code 59 = .ok (.dup, 1) := by decide +kernel
theorem d228_60 : decode prog_12_method_112_code 60 = .ok (.getfield 78, 3) := by decide +kernel
theorem d228_63 : decode prog_12_method_112_code 63 = .ok (.aload_n 0, 1) := by decide +kernel
theorem d228_64 : decode prog_12_method_112_code 64 = .ok (.getfield 72, 3) := by decide +kernel
theorem d228_67 : decode prog_12_method_112_code 67 = .ok (.aload_n 0, 1) := by decide +kernel
theorem d228_68 : decode prog_12_method_112_code 68 = .ok (.getfield 69, 3) := by decide +kernel
theorem d228_71 : decode prog_12_method_112_code 71 = .ok (.if_icmp .ge 7, 3) := by decide +kernel
theorem d228_74 : decode prog_12_method_112_code 74 = .ok (.iconst 1, 1) := by decide +kernel
theorem d228_75 : decode prog_12_method_112_code 75 = .ok (.goto 4, 3) := by decide +kernel
theorem d228_78 : decode prog_12_method_112_code 78 = .ok (.iconst 0, 1) := by decide +kernel
theorem d228_79 : decode prog_12_method_112_code 79 = .ok (.ior, 1) := by decide +kernel
theorem d228_80 : decode prog_12_method_112_code 80 = .ok (.putfield 78, 3) := by decide +kernel
theorem d228_83 : decode prog_12_method_112_code 83 = .ok (.return_, 1) := by decide +kernel
theorem d229_0 : decode prog_12_method_111_code 0 = .ok (.aload_n 0, 1) := by decide +kernel
theorem d229_1 : decode prog_12_method_111_code 1 = .ok (.invokevirtual 277, 3) := by decide +kernel
theorem d229_4 : decode prog_12_method_111_code 4 = .ok (.istore_n 1, 1) := by decide +kernel
theorem d229_5 : decode prog_12_method_111_code 5 = .ok (.aload_n 0, 1) := by decide +kernel
theorem d229_6 : decode prog_12_method_111_code 6 = .ok (.bipush 32, 2) := by decide +kernel
theorem d229_8 : decode prog_12_method_111_code 8 = .ok (.invokevirtual 271, 3) := by decide +kernel
theorem d229_11 : decode prog_12_method_111_code 11 = .ok (.iload_n 1, 1) := by decide +kernel
theorem d229_12 : decode prog_12_method_111_code 12 = .ok (.ifCond .ne 10, 3) := by decide +kernel
theorem d229_15 : decode prog_12_method_111_code 15 = .ok (.aload_n 0, 1) := by decide +kernel
theorem d229_16 : decode prog_12_method_111_code 16 = .ok (.invokevirtual 280, 3) := by decide +kernel
theorem d229_19 : decode prog_12_method_111_code 19 = .ok (.goto 8, 3) := by decide +kernel
theorem d229_22 : decode prog_12_method_111_code 22 = .ok (.aload_n 0, 1) := by decide +kernel
theorem d229_23 : decode prog_12_method_111_code 23 = .ok (.iload_n 1, 1) := by decide +kernel
theorem d229_24 : decode prog_12_method_111_code 24 = .ok (.invokevirtual 283, 3) := by decide +kernel
theorem d229_27 : decode prog_12_method_111_code 27 = .ok (.aload_n 0, 1) := by decide +kernel
theorem d229_28 : decode prog_12_method_111_code 28 = .ok (.getfield 78, 3) := by decide +kernel
theorem d229_31 : decode prog_12_method_111_code 31 = .ok (.ifCond .eq 4, 3) := by decide +kernel
theorem d229_34 : decode prog_12_method_111_code 34 = .ok (.return_, 1) := by decide +kernel
theorem d229_35 : decode prog_12_method_111_code 35 = .ok (.aload_n 0, 1) := by decide +kernel
theorem d229_36 : decode prog_12_method_111_code 36 = .ok (.getfield 60, 3) := by decide +kernel
theorem d229_39 : decode prog_12_method_111_code 39 = .ok (.aload_n 0, 1) := by decide +kernel
theorem d229_40 : decode prog_12_method_111_code 40 = .ok (.getfield 75, 3) := by decide +kernel
theorem d229_43 : decode prog_12_method_111_code 43 = .ok (.iload_n 1, 1) := by decide +kernel
theorem d229_44 : decode prog_12_method_111_code 44 = .ok (.iastore, 1) := by decide +kernel
theorem d229_45 : decode prog_12_method_111_code 45 = .ok (.aload_n 0, 1) := by decide +kernel
theorem d229_46 : decode prog_12_method_111_code 46 = .ok (.dup, 1) := by decide +kernel
theorem d229_47 : decode prog_12_method_111_code 47 = .ok (.getfield 75, 3) := by decide +kernel
theorem d229_50 : decode prog_12_method_111_code 50 = .ok (.iconst 1, 1) := by decide +kernel
theorem d229_51 : decode prog_12_method_111_code 51 = .ok (.iadd, 1) := by decide +kernel
theorem d229_52 : decode prog_12_method_111_code 52 = .ok (.putfield 75, 3) := by decide +kernel
theorem d229_55 : decode prog_12_method_111_code 55 = .ok (.return_, 1) := by decide +kernel
theorem d230_0 : decode prog_12_method_107_code 0 = .ok (.iconst 0, 1) := by decide +kernel
theorem d230_1 : decode prog_12_method_107_code 1 = .ok (.istore_n 1, 1) := by decide +kernel
theorem d230_2 : decode prog_12_method_107_code 2 = .ok (.iconst 0, 1) := by decide +kernel
theorem d230_3 : decode prog_12_method_107_code 3 = .ok (.istore_n 2, 1) := by decide +kernel
theorem d230_4 : decode prog_12_method_107_code 4 = .ok (.iload_n 2, 1) := by decide +kernel
theorem d230_5 : decode prog_12_method_107_code 5 = .ok (.bipush 11, 2) := by decide +kernel
theorem d230_7 : decode prog_12_method_107_code 7 = .ok (.if_icmp .ge 88, 3) := by decide +kernel
theorem d230_10 : decode prog_12_method_107_code 10 = .ok (.iconst 0, 1) := by decide +kernel
theorem d230_11 : decode prog_12_method_107_code 11 = .ok (.istore_n 3, 1) := by decide +kernel
theorem d230_12 : decode prog_12_method_107_code 12 = .ok (.iload_n 2, 1) := by decide +kernel
theorem d230_13 : decode prog_12_method_107_code 13 = .ok (.iload_n 3, 1) := by decide +kernel
theorem d230_14 : decode prog_12_method_107_code 14 = .ok (.invokestatic 262, 3) := by decide +kernel
theorem d230_17 : decode prog_12_method_107_code 17 = .ok (.ifCond .le 41, 3) := by decide +kernel
theorem d230_20 : decode prog_12_method_107_code 20 = .ok (.aload_n 0, 1) := by decide +kernel
theorem d230_21 : decode prog_12_method_107_code 21 = .ok (.getfield 72, 3) := by decide +kernel
theorem d230_24 : decode prog_12_method_107_code 24 = .ok (.iload_n 3, 1) := by decide +kernel
theorem d230_25 : decode prog_12_method_107_code 25 = .ok (.iadd, 1) := by decide +kernel
theorem d230_26 : decode prog_12_method_107_code 26 = .ok (.aload_n 0, 1) := by decide +kernel
theorem d230_27 : decode prog_12_method_107_code 27 = .ok (.getfield 69, 3) := by decide +kernel
theorem d230_30 : decode prog_12_method_107_code 30 = .ok (.if_icmp .ge 28, 3) := by decide +kernel
theorem d230_33 : decode prog_12_method_107_code 33 = .ok (.aload_n 0, 1) := by decide +kernel
theorem d230_34 : decode prog_12_method_107_code 34 = .ok (.getfield 57, 3) := by decide +kernel
theorem d230_37 : decode prog_12_method_107_code 37 = .ok (.aload_n 0, 1) := by decide +kernel
theorem d230_38 : decode prog_12_method_107_code 38 = .ok (.getfield 72, 3) := by decide +kernel
theorem d230_41 : decode prog_12_method_107_code 41 = .ok (.iload_n 3, 1) := by decide +kernel
theorem d230_42 : decode prog_12_method_107_code 42 = .ok (.iadd, 1) := by decide +kernel
theorem d230_43 : decode prog_12_method_107_code 43 = .ok (.iaload, 1) := by decide +kernel
theorem d230_44 : decode prog_12_method_107_code 44 = .ok (.iload_n 2, 1) := by decide +kernel
theorem d230_45 : decode prog_12_method_107_code 45 = .ok (.iload_n 3, 1) := by decide +kernel
theorem d230_46 : decode prog_12_method_107_code 46 = .ok (.invokestatic 262, 3) := by decide +kernel
theorem d230_49 : decode prog_12_method_107_code 49 = .ok (.if_icmp .ne 9, 3) := by decide +kernel
theorem d230_52 : decode prog_12_method_107_code 52 = .ok (.iinc 3 1, 3) := by decide +kernel
theorem d230_55 : decode prog_12_method_107_code 55 = .ok (.goto (-43), 3) := by decide +kernel
theorem d230_58 : decode prog_12_method_107_code 58 = .ok (.iload_n 2, 1) := by decide +kernel
theorem d230_59 : decode prog_12_method_107_code 59 = .ok (.iload_n 3, 1) := by decide +kernel
theorem d230_60 : decode prog_12_method_107_code 60 = .ok (.invokestatic 262, 3) := by decide +kernel
theorem d230_63 : decode prog_12_method_107_code 63 = .ok (.ifCond .ne 15, 3) := by decide +kernel
theorem d230_66 : decode prog_12_method_107_code 66 = .ok (.aload_n 0, 1) := by decide +kernel
theorem d230_67 : decode prog_12_method_107_code 67 = .ok (.dup, 1) := by decide +kernel
theorem d230_68 : decode prog_12_method_107_code 68 = .ok (.getfield 72, 3) := by decide +kernel
theorem d230_71 : decode prog_12_method_107_code 71 = .ok (.iload_n 3, 1) := by decide +kernel
theorem d230_72 : decode prog_12_method_107_code 72 = .ok (.iadd, 1) := by decide +kernel
theorem d230_73 : decode prog_12_method_107_code 73 = .ok (.putfield 72, 3) := by decide +kernel
theorem d230_76 : decode prog_12_method_107_code 76 = .ok (.iload_n 2, 1) := by decide +kernel
theorem d230_77 : decode prog_12_method_107_code 77 = .ok (.ireturn, 1) := by decide +kernel
theorem d230_78 : decode prog_12_method_107_code 78 = .ok (.iload_n 3, 1) := by decide +kernel
theorem d230_79 : decode prog_12_method_107_code 79 = .ok (.iload_n 1, 1) := by decide +kernel
theorem d230_80 : decode prog_12_method_107_code 80 = .ok (.if_icmp .le 7, 3) := by decide +kernel
theorem d230_83 : decode prog_12_method_107_code 83 = .ok (.iload_n 3, 1) := by decide +kernel
theorem d230_84 : decode prog_12_method_107_code 84 = .ok (.goto 4, 3) := by decide +kernel
theorem d230_87 : decode prog_12_method_107_code 87 = .ok (.iload_n 1, 1) := by decide +kernel
theorem d230_88 : decode prog_12_method_107_code 88 = .ok (.istore_n 1, 1) := by decide +kernel
theorem d230_89 : decode prog_12_method_107_code 89 = .ok (.iinc 2 1, 3) := by decide +kernel
theorem d230_92 : decode prog_12_method_107_code 92 = .ok (.goto (-88), 3) := by decide +kernel
theorem d230_95 : decode prog_12_method_107_code 95 = .ok (.aload_n 0, 1) := by decide +kernel
theorem d230_96 : decode prog_12_method_107_code 96 = .ok (.dup, 1) := by decide +kernel
theorem d230_97 : decode prog_12_method_107_code 97 = .ok (.getfield 72, 3) := by decide +kernel
theorem d230_100 : decode prog_12_method_107_code 100 = .ok (.iload_n 1, 1) := by decide +kernel
theorem d230_101 : decode prog_12_method_107_code 101 = .ok (.iadd, 1) := by decide +kernel
theorem d230_102 : decode prog_12_method_107_code 102 = .ok (.putfield 72, 3) := by decide +kernel
theorem d230_105 : decode prog_12_method_107_code 105 = .ok (.aload_n 0, 1) := by decide +kernel
theorem d230_106 : decode prog_12_method_107_code 106 = .ok (.iconst 1, 1) := by decide +kernel
theorem d230_107 : decode prog_12_method_107_code 107 = .ok (.putfield 78, 3) := by decide +kernel
theorem d230_110 : decode prog_12_method_107_code 110 = .ok (.iconst 0, 1) := by decide +kernel
theorem d230_111 : decode prog_12_method_107_code 111 = .ok (.ireturn, 1) := by decide +kernel
theorem d231_0 : decode prog_12_method_106_code 0 = .ok (.iload_n 0, 1) := by decide +kernel
theorem d231_1 : decode prog_12_method_106_code 1 = .ok (.tableswitch 210 0 9 #[55, 69, 86, 101, 116, 132, 147, 164, 181, 195], 55) := by decide +kernel
theorem d231_56 : decode prog_12_method_106_code 56 = .ok (.iload_n 1, 1) := by decide +kernel
theorem d231_57 : decode prog_12_method_106_code 57 = .ok (.bipush 106, 2) := by decide +kernel
theorem d231_59 : decode prog_12_method_106_code 59 = .ok (.bipush 111, 2) := by decide +kernel
theorem d231_61 : decode prog_12_method_106_code 61 = .ok (.bipush 98, 2) := by decide +kernel
theorem d231_63 : decode prog_12_method_106_code 63 = .ok (.iconst 0, 1) := by decide +kernel
theorem d231_64 : decode prog_12_method_106_code 64 = .ok (.iconst 0, 1) := by decide +kernel
theorem d231_65 : decode prog_12_method_106_code 65 = .ok (.iconst 0, 1) := by decide +kernel
theorem d231_66 : decode prog_12_method_106_code 66 = .ok (.invokestatic 258, 3) := by decide +kernel
theorem d231_69 : decode prog_12_method_106_code 69 = .ok (.ireturn, 1) := by decide +kernel
theorem d231_70 : decode prog_12_method_106_code 70 = .ok (.iload_n 1, 1) := by decide +kernel
theorem d231_71 : decode prog_12_method_106_code 71 = .ok (.bipush 99, 2) := by decide +kernel
theorem d231_73 : decode prog_12_method_106_code 73 = .ok (.bipush 97, 2) := by decide +kernel
theorem d231_75 : decode prog_12_method_106_code 75 = .ok (.bipush 110, 2) := by decide +kernel
theorem d231_77 : decode prog_12_method_106_code 77 = .ok (.bipush 99, 2) := by decide +kernel
theorem d231_79 : decode prog_12_method_106_code 79 = .ok (.bipush 101, 2) := by decide +kernel
theorem d231_81 : decode prog_12_method_106_code 81 = .ok (.bipush 108, 2) := by decide +kernel
theorem d231_83 : decode prog_12_method_106_code 83 = .ok (.invokestatic 258, 3) := by decide +kernel
theorem d231_86 : decode prog_12_method_106_code 86 = .ok (.ireturn, 1) := by decide +kernel
theorem d231_87 : decode prog_12_method_106_code 87 = .ok (.iload_n 1, 1) := by decide +kernel
theorem d231_88 : decode prog_12_method_106_code 88 = .ok (.bipush 103, 2) := by decide +kernel
theorem d231_90 : decode prog_12_method_106_code 90 = .ok (.bipush 105, 2) := by decide +kernel
theorem d231_92 : decode prog_12_method_106_code 92 = .ok (.bipush 118, 2) := by decide +kernel
theorem d231_94 : decode prog_12_method_106_code 94 = .ok (.bipush 101, 2) := by decide +kernel
theorem d231_96 : decode prog_12_method_106_code 96 = .ok (.iconst 0, 1) := by decide +kernel
theorem d231_97 : decode prog_12_method_106_code 97 = .ok (.iconst 0, 1) := by decide +kernel
theorem d231_98 : decode prog_12_method_106_code 98 = .ok (.invokestatic 258, 3) := by decide +kernel
theorem d231_101 : decode prog_12_method_106_code 101 = .ok (.ireturn, 1) := by decide +kernel
theorem d231_102 : decode prog_12_method_106_code 102 = .ok (.iload_n 1, 1) := by decide +kernel
theorem d231_103 : decode prog_12_method_106_code 103 = .ok (.bipush 116, 2) := by decide +kernel
theorem d231_105 : decode prog_12_method_106_code 105 = .ok (.bipush 97, 2) := by decide +kernel
theorem d231_107 : decode prog_12_method_106_code 107 = .ok (.bipush 107, 2) := by decide +kernel
theorem d231_109 : decode prog_12_method_106_code 109 = .ok (.bipush 101, 2) := by decide +kernel
theorem d231_111 : decode prog_12_method_106_code 111 = .ok (.iconst 0, 1) := by decide +kernel
theorem d231_112 : decode prog_12_method_106_code 112 = .ok (.iconst 0, 1) := by decide +kernel
theorem d231_113 : decode prog_12_method_106_code 113 = .ok (.invokestatic 258, 3) := by decide +kernel
theorem d231_116 : decode prog_12_method_106_code 116 = .ok (.ireturn, 1) := by decide +kernel
theorem d231_117 : decode prog_12_method_106_code 117 = .ok (.iload_n 1, 1) := by decide +kernel
theorem d231_118 : decode prog_12_method_106_code 118 = .ok (.bipush 115, 2) := by decide +kernel
theorem d231_120 : decode prog_12_method_106_code 120 = .ok (.bipush 116, 2) := by decide +kernel
theorem d231_122 : decode prog_12_method_106_code 122 = .ok (.bipush 111, 2) := by decide +kernel
theorem d231_124 : decode prog_12_method_106_code 124 = .ok (.bipush 99, 2) := by decide +kernel
theorem d231_126 : decode prog_12_method_106_code 126 = .ok (.bipush 107, 2) := by decide +kernel
theorem d231_128 : decode prog_12_method_106_code 128 = .ok (.iconst 0, 1) := by decide +kernel
theorem d231_129 : decode prog_12_method_106_code 129 = .ok (.invokestatic 258, 3) := by decide +kernel
theorem d231_132 : decode prog_12_method_106_code 132 = .ok (.ireturn, 1) := by decide +kernel
theorem d231_133 : decode prog_12_method_106_code 133 = .ok (.iload_n 1, 1) := by decide +kernel
theorem d231_134 : decode prog_12_method_106_code 134 = .ok (.bipush 108, 2) := by decide +kernel
theorem d231_136 : decode prog_12_method_106_code 136 = .ok (.bipush 111, 2) := by decide +kernel
theorem d231_138 : decode prog_12_method_106_code 138 = .ok (.bipush 97, 2) := by decide +kernel
theorem d231_140 : decode prog_12_method_106_code 140 = .ok (.bipush 100, 2) := by decide +kernel
theorem d231_142 : decode prog_12_method_106_code 142 = .ok (.iconst 0, 1) := by decide +kernel
theorem d231_143 : decode prog_12_method_106_code 143 = .ok (.iconst 0, 1) := by decide +kernel
theorem d231_144 : decode prog_12_method_106_code 144 = .ok (.invokestatic 258, 3) := by decide +kernel
theorem d231_147 : decode prog_12_method_106_code 147 = .ok (.ireturn, 1) := by decide +kernel
theorem d231_148 : decode prog_12_method_106_code 148 = .ok (.iload_n 1, 1) := by decide +kernel
theorem d231_149 : decode prog_12_method_106_code 149 = .ok (.bipush 98, 2) := by decide +kernel
theorem d231_151 : decode prog_12_method_106_code 151 = .ok (.bipush 111, 2) := by decide +kernel
theorem d231_153 : decode prog_12_method_106_code 153 = .ok (.bipush 114, 2) := by decide +kernel
theorem d231_155 : decode prog_12_method_106_code 155 = .ok (.bipush 114, 2) := by decide +kernel
theorem d231_157 : decode prog_12_method_106_code 157 = .ok (.bipush 111, 2) := by decide +kernel
theorem d231_159 : decode prog_12_method_106_code 159 = .ok (.bipush 119, 2) := by decide +kernel
theorem d231_161 : decode prog_12_method_106_code 161 = .ok (.invokestatic 258, 3) := by decide +kernel
theorem d231_164 : decode prog_12_method_106_code 164 = .ok (.ireturn, 1) := by decide +kernel
theorem d231_165 : decode prog_12_method_106_code 165 = .ok (.iload_n 1, 1) := by decide +kernel
theorem d231_166 : decode prog_12_method_106_code 166 = .ok (.bipush 114, 2) := by decide +kernel
theorem d231_168 : decode prog_12_method_106_code 168 = .ok (.bipush 101, 2) := by decide +kernel
theorem d231_170 : decode prog_12_method_106_code 170 = .ok (.bipush 116, 2) := by decide +kernel
theorem d231_172 : decode prog_12_method_106_code 172 = .ok (.bipush 117, 2) := by decide +kernel
theorem d231_174 : decode prog_12_method_106_code 174 = .ok (.bipush 114, 2) := by decide +kernel
theorem d231_176 : decode prog_12_method_106_code 176 = .ok (.bipush 110, 2) := by decide +kernel
theorem d231_178 : decode prog_12_method_106_code 178 = .ok (.invokestatic 258, 3) := by decide +kernel
theorem d231_181 : decode prog_12_method_106_code 181 = .ok (.ireturn, 1) := by decide +kernel
theorem d231_182 : decode prog_12_method_106_code 182 = .ok (.iload_n 1, 1) := by decide +kernel
theorem d231_183 : decode prog_12_method_106_code 183 = .ok (.bipush 102, 2) := by decide +kernel
theorem d231_185 : decode prog_12_method_106_code 185 = .ok (.bipush 105, 2) := by decide +kernel
theorem d231_187 : decode prog_12_method_106_code 187 = .ok (.bipush 120, 2) := by decide +kernel
theorem d231_189 : decode prog_12_method_106_code 189 = .ok (.iconst 0, 1) := by decide +kernel
theorem d231_190 : decode prog_12_method_106_code 190 = .ok (.iconst 0, 1) := by decide +kernel
theorem d231_191 : decode prog_12_method_106_code 191 = .ok (.iconst 0, 1) := by decide +kernel
theorem d231_192 : decode prog_12_method_106_code 192 = .ok (.invokestatic 258, 3) := by decide +kernel
theorem d231_195 : decode prog_12_method_106_code 195 = .ok (.ireturn, 1) := by decide +kernel
theorem d231_196 : decode prog_12_method_106_code 196 = .ok (.iload_n 1, 1) := by decide +kernel
theorem d231_197 : decode prog_12_method_106_code 197 = .ok (.bipush 104, 2) := by decide +kernel
theorem d231_199 : decode prog_12_method_106_code 199 = .ok (.bipush 111, 2) := by decide +kernel
theorem d231_201 : decode prog_12_method_106_code 201 = .ok (.bipush 109, 2) := by decide +kernel
theorem d231_203 : decode prog_12_method_106_code 203 = .ok (.bipush 101, 2) := by decide +kernel
theorem d231_205 : decode prog_12_method_106_code 205 = .ok (.iconst 0, 1) := by decide +kernel
theorem d231_206 : decode prog_12_method_106_code 206 = .ok (.iconst 0, 1) := by decide +kernel
theorem d231_207 : decode prog_12_method_106_code 207 = .ok (.invokestatic 258, 3) := by decide +kernel
theorem d231_210 : decode prog_12_method_106_code 210 = .ok (.ireturn, 1) := by decide +kernel
theorem d231_211 : decode prog_12_method_106_code 211 = .ok (.iload_n 1, 1) := by decide +kernel
theorem d231_212 : decode prog_12_method_106_code 212 = .ok (.bipush 114, 2) := by decide +kernel
theorem d231_214 : decode prog_12_method_106_code 214 = .ok (.bipush 101, 2) := by decide +kernel
theorem d231_216 : decode prog_12_method_106_code 216 = .ok (.bipush 115, 2) := by decide +kernel
theorem d231_218 : decode prog_12_method_106_code 218 = .ok (.bipush 116, 2) := by decide +kernel
theorem d231_220 : decode prog_12_method_106_code 220 = .ok (.iconst 0, 1) := by decide +kernel
theorem d231_221 : decode prog_12_method_106_code 221 = .ok (.iconst 0, 1) := by decide +kernel
theorem d231_222 : decode prog_12_method_106_code 222 = .ok (.invokestatic 258, 3) := by decide +kernel
theorem d231_225 : decode prog_12_method_106_code 225 = .ok (.ireturn, 1) := by decide +kernel
theorem d232_0 : decode prog_12_method_105_code 0 = .ok (.iload_n 0, 1) := by decide +kernel
theorem d232_1 : decode prog_12_method_105_code 1 = .ok (.tableswitch 54 0 5 #[39, 41, 43, 45, 48, 51], 39) := by decide +kernel
theorem d232_40 : decode prog_12_method_105_code 40 = .ok (.iload_n 1, 1) := by decide +kernel
theorem d232_41 : decode prog_12_method_105_code 41 = .ok (.ireturn, 1) := by decide +kernel
theorem d232_42 : decode prog_12_method_105_code 42 = .ok (.iload_n 2, 1) := by decide +kernel
theorem d232_43 : decode prog_12_method_105_code 43 = .ok (.ireturn, 1) := by decide +kernel
theorem d232_44 : decode prog_12_method_105_code 44 = .ok (.iload_n 3, 1) := by decide +kernel
theorem d232_45 : decode prog_12_method_105_code 45 = .ok (.ireturn, 1) := by decide +kernel
theorem d232_46 : decode prog_12_method_105_code 46 = .ok (.iload 4, 2) := by decide +kernel
theorem d232_48 : decode prog_12_method_105_code 48 = .ok (.ireturn, 1) := by decide +kernel
theorem d232_49 : decode prog_12_method_105_code 49 = .ok (.iload 5, 2) := by decide +kernel
theorem d232_51 : decode prog_12_method_105_code 51 = .ok (.ireturn, 1) := by decide +kernel
theorem d232_52 : decode prog_12_method_105_code 52 = .ok (.iload 6, 2) := by decide +kernel
theorem d232_54 : decode prog_12_method_105_code 54 = .ok (.ireturn, 1) := by decide +kernel
theorem d232_55 : decode prog_12_method_105_code 55 = .ok (.iconst 0, 1) := by decide +kernel
theorem d232_56 : decode prog_12_method_105_code 56 = .ok (.ireturn, 1) := by decide +kernel
theorem d233_0 : decode prog_12_method_102_code 0 = .ok (.aload_n 0, 1) := by decide +kernel
theorem d233_1 : decode prog_12_method_102_code 1 = .ok (.dup, 1) := by decide +kernel
theorem d233_2 : decode prog_12_method_102_code 2 = .ok (.getfield 78, 3) := by decide +kernel
theorem d233_5 : decode prog_12_method_102_code 5 = .ok (.aload_n 0, 1) := by decide +kernel
theorem d233_6 : decode prog_12_method_102_code 6 = .ok (.invokevirtual 254, 3) := by decide +kernel
theorem d233_9 : decode prog_12_method_102_code 9 = .ok (.iload_n 1, 1) := by decide +kernel
theorem d233_10 : decode prog_12_method_102_code 10 = .ok (.if_icmp .eq 7, 3) := by decide +kernel
theorem d233_13 : decode prog_12_method_102_code 13 = .ok (.iconst 1, 1) := by decide +kernel
theorem d233_14 : decode prog_12_method_102_code 14 = .ok (.goto 4, 3) := by decide +kernel
theorem d233_17 : decode prog_12_method_102_code 17 = .ok (.iconst 0, 1) := by decide +kernel
theorem d233_18 : decode prog_12_method_102_code 18 = .ok (.ior, 1) := by decide +kernel
theorem d233_19 : decode prog_12_method_102_code 19 = .ok (.putfield 78, 3) := by decide +kernel
theorem d233_22 : decode prog_12_method_102_code 22 = .ok (.aload_n 0, 1) := by decide +kernel
theorem d233_23 : decode prog_12_method_102_code 23 = .ok (.dup, 1) := by decide +kernel
theorem d233_24 : decode prog_12_method_102_code 24 = .ok (.getfield 72, 3) := by decide +kernel
theorem d233_27 : decode prog_12_method_102_code 27 = .ok (.aload_n 0, 1) := by decide +kernel
theorem d233_28 : decode prog_12_method_102_code 28 = .ok (.getfield 78, 3) := by decide +kernel
theorem d233_31 : decode prog_12_method_102_code 31 = .ok (.ifCond .eq 7, 3) := by decide +kernel
theorem d233_34 : decode prog_12_method_102_code 34 = .ok (.iconst 0, 1) := by decide +kernel
theorem d233_35 : decode prog_12_method_102_code 35 = .ok (.goto 4, 3) := by decide +kernel
theorem d233_38 : decode prog_12_method_102_code 38 = .ok (.iconst 1, 1) := by decide +kernel
theorem d233_39 : decode prog_12_method_102_code 39 = .ok (.iadd, 1) := by decide +kernel
theorem d233_40 : decode prog_12_method_102_code 40 = .ok (.putfield 72, 3) := by decide +kernel
theorem d233_43 : decode prog_12_method_102_code 43 = .ok (.return_, 1) := by decide +kernel
theorem d234_0 : decode prog_12_method_101_code 0 = .ok (.aload_n 0, 1) := by decide +kernel
theorem d234_1 : decode prog_12_method_101_code 1 = .ok (.getfield 78, 3) := by decide +kernel
theorem d234_4 : decode prog_12_method_101_code 4 = .ok (.ifCond .ne 26, 3) := by decide +kernel
theorem d234_7 : decode prog_12_method_101_code 7 = .ok (.aload_n 0, 1) := by decide +kernel
theorem d234_8 : decode prog_12_method_101_code 8 = .ok (.getfield 72, 3) := by decide +kernel
theorem d234_11 : decode prog_12_method_101_code 11 = .ok (.aload_n 0, 1) := by decide +kernel
theorem d234_12 : decode prog_12_method_101_code 12 = .ok (.getfield 69, 3) := by decide +kernel
theorem d234_15 : decode prog_12_method_101_code 15 = .ok (.if_icmp .ge 15, 3) := by decide +kernel
theorem d234_18 : decode prog_12_method_101_code 18 = .ok (.aload_n 0, 1) := by decide +kernel
theorem d234_19 : decode prog_12_method_101_code 19 = .ok (.getfield 57, 3) := by decide +kernel
theorem d234_22 : decode prog_12_method_101_code 22 = .ok (.aload_n 0, 1) := by decide +kernel
theorem d234_23 : decode prog_12_method_101_code 23 = .ok (.getfield 72, 3) := by decide +kernel
theorem d234_26 : decode prog_12_method_101_code 26 = .ok (.iaload, 1) := by decide +kernel
theorem d234_27 : decode prog_12_method_101_code 27 = .ok (.goto 4, 3) := by decide +kernel
theorem d234_30 : decode prog_12_method_101_code 30 = .ok (.iconst (-1), 1) := by decide +kernel
theorem d234_31 : decode prog_12_method_101_code 31 = .ok (.ireturn, 1) := by decide +kernel
theorem d235_0 : decode prog_12_method_109_code 0 = .ok (.aload_n 0, 1) := by decide +kernel
theorem d235_1 : decode prog_12_method_109_code 1 = .ok (.iconst 0, 1) := by decide +kernel
theorem d235_2 : decode prog_12_method_109_code 2 = .ok (.aload_n 0, 1) := by decide +kernel
theorem d235_3 : decode prog_12_method_109_code 3 = .ok (.iconst 3, 1) := by decide +kernel
theorem d235_4 : decode prog_12_method_109_code 4 = .ok (.invokevirtual 265, 3) := by decide +kernel
theorem d235_7 : decode prog_12_method_109_code 7 = .ok (.invokevirtual 268, 3) := by decide +kernel
theorem d235_10 : decode prog_12_method_109_code 10 = .ok (.aload_n 0, 1) := by decide +kernel
theorem d235_11 : decode prog_12_method_109_code 11 = .ok (.bipush 44, 2) := by decide +kernel
theorem d235_13 : decode prog_12_method_109_code 13 = .ok (.invokevirtual 271, 3) := by decide +kernel
theorem d235_16 : decode prog_12_method_109_code 16 = .ok (.aload_n 0, 1) := by decide +kernel
theorem d235_17 : decode prog_12_method_109_code 17 = .ok (.iconst 1, 1) := by decide +kernel
theorem d235_18 : decode prog_12_method_109_code 18 = .ok (.aload_n 0, 1) := by decide +kernel
theorem d235_19 : decode prog_12_method_109_code 19 = .ok (.iconst 3, 1) := by decide +kernel
theorem d235_20 : decode prog_12_method_109_code 20 = .ok (.invokevirtual 265, 3) := by decide +kernel
theorem d235_23 : decode prog_12_method_109_code 23 = .ok (.invokevirtual 268, 3) := by decide +kernel
theorem d235_26 : decode prog_12_method_109_code 26 = .ok (.aload_n 0, 1) := by decide +kernel
theorem d235_27 : decode prog_12_method_109_code 27 = .ok (.bipush 32, 2) := by decide +kernel
theorem d235_29 : decode prog_12_method_109_code 29 = .ok (.invokevirtual 271, 3) := by decide +kernel
theorem d235_32 : decode prog_12_method_109_code 32 = .ok (.aload_n 0, 1) := by decide +kernel
theorem d235_33 : decode prog_12_method_109_code 33 = .ok (.iconst 2, 1) := by decide +kernel
theorem d235_34 : decode prog_12_method_109_code 34 = .ok (.aload_n 0, 1) := by decide +kernel
theorem d235_35 : decode prog_12_method_109_code 35 = .ok (.invokevirtual 274, 3) := by decide +kernel
theorem d235_38 : decode prog_12_method_109_code 38 = .ok (.invokevirtual 268, 3) := by decide +kernel
theorem d235_41 : decode prog_12_method_109_code 41 = .ok (.aload_n 0, 1) := by decide +kernel
theorem d235_42 : decode prog_12_method_109_code 42 = .ok (.iconst 3, 1) := by decide +kernel
theorem d235_43 : decode prog_12_method_109_code 43 = .ok (.aload_n 0, 1) := by decide +kernel
theorem d235_44 : decode prog_12_method_109_code 44 = .ok (.iconst 1, 1) := by decide +kernel
theorem d235_45 : decode prog_12_method_109_code 45 = .ok (.invokevirtual 265, 3) := by decide +kernel
theorem d235_48 : decode prog_12_method_109_code 48 = .ok (.invokevirtual 268, 3) := by decide +kernel
theorem d235_51 : decode prog_12_method_109_code 51 = .ok (.aload_n 0, 1) := by decide +kernel
theorem d235_52 : decode prog_12_method_109_code 52 = .ok (.bipush 32, 2) := by decide +kernel
theorem d235_54 : decode prog_12_method_109_code 54 = .ok (.invokevirtual 271, 3) := by decide +kernel
theorem d235_57 : decode prog_12_method_109_code 57 = .ok (.aload_n 0, 1) := by decide +kernel
theorem d235_58 : decode prog_12_method_109_code 58 = .ok (.iconst 4, 1) := by decide +kernel
theorem d235_59 : decode prog_12_method_109_code 59 = .ok (.aload_n 0, 1) := by decide +kernel
theorem d235_60 : decode prog_12_method_109_code 60 = .ok (.iconst 1, 1) := by decide +kernel
theorem d235_61 : decode prog_12_method_109_code 61 = .ok (.invokevirtual 265, 3) := by decide +kernel
theorem d235_64 : decode prog_12_method_109_code 64 = .ok (.invokevirtual 268, 3) := by decide +kernel
theorem d235_67 : decode prog_12_method_109_code 67 = .ok (.aload_n 0, 1) := by decide +kernel
theorem d235_68 : decode prog_12_method_109_code 68 = .ok (.bipush 64, 2) := by decide +kernel
theorem d235_70 : decode prog_12_method_109_code 70 = .ok (.invokevirtual 271, 3) := by decide +kernel
theorem d235_73 : decode prog_12_method_109_code 73 = .ok (.aload_n 0, 1) := by decide +kernel
theorem d235_74 : decode prog_12_method_109_code 74 = .ok (.iconst 5, 1) := by decide +kernel
theorem d235_75 : decode prog_12_method_109_code 75 = .ok (.aload_n 0, 1) := by decide +kernel
theorem d235_76 : decode prog_12_method_109_code 76 = .ok (.iconst 3, 1) := by decide +kernel
theorem d235_77 : decode prog_12_method_109_code 77 = .ok (.invokevirtual 265, 3) := by decide +kernel
theorem d235_80 : decode prog_12_method_109_code 80 = .ok (.invokevirtual 268, 3) := by decide +kernel
theorem d235_83 : decode prog_12_method_109_code 83 = .ok (.return_, 1) := by decide +kernel
theorem d236_0 : decode prog_12_method_103_code 0 = .ok (.aload_n 0, 1) := by decide +kernel
theorem d236_1 : decode prog_12_method_103_code 1 = .ok (.dup, 1) := by decide +kernel
theorem d236_2 : decode prog_12_method_103_code 2 = .ok (.getfield 78, 3) := by decide +kernel
theorem d236_5 : decode prog_12_method_103_code 5 = .ok (.aload_n 0, 1) := by decide +kernel
theorem d236_6 : decode prog_12_method_103_code 6 = .ok (.invokevirtual 254, 3) := by decide +kernel
theorem d236_9 : decode prog_12_method_103_code 9 = .ok (.bipush 48, 2) := by decide +kernel
theorem d236_11 : decode prog_12_method_103_code 11 = .ok (.bipush 57, 2) := by decide +kernel
theorem d236_13 : decode prog_12_method_103_code 13 = .ok (.invokestatic 89, 3) := by decide +kernel
theorem d236_16 : decode prog_12_method_103_code 16 = .ok (.ifCond .ne 7, 3) := by decide +kernel
theorem d236_19 : decode prog_12_method_103_code 19 = .ok (.iconst 1, 1) := by decide +kernel
theorem d236_20 : decode prog_12_method_103_code 20 = .ok (.goto 4, 3) := by decide +kernel
theorem d236_23 : decode prog_12_method_103_code 23 = .ok (.iconst 0, 1) := by decide +kernel
theorem d236_24 : decode prog_12_method_103_code 24 = .ok (.ior, 1) := by decide +kernel
theorem d236_25 : decode prog_12_method_103_code 25 = .ok (.putfield 78, 3) := by decide +kernel
theorem d236_28 : decode prog_12_method_103_code 28 = .ok (.iconst 0, 1) := by decide +kernel
theorem d236_29 : decode prog_12_method_103_code 29 = .ok (.istore_n 2, 1) := by decide +kernel
theorem d236_30 : decode prog_12_method_103_code 30 = .ok (.iconst 0, 1) := by decide +kernel
theorem d236_31 : decode prog_12_method_103_code 31 = .ok (.istore_n 3, 1) := by decide +kernel
theorem d236_32 : decode prog_12_method_103_code 32 = .ok (.iload_n 3, 1) := by decide +kernel
theorem d236_33 : decode prog_12_method_103_code 33 = .ok (.iload_n 1, 1) := by decide +kernel
theorem d236_34 : decode prog_12_method_103_code 34 = .ok (.if_icmp .ge 51, 3) := by decide +kernel
theorem d236_37 : decode prog_12_method_103_code 37 = .ok (.aload_n 0, 1) := by decide +kernel
theorem d236_38 : decode prog_12_method_103_code 38 = .ok (.invokevirtual 254, 3) := by decide +kernel
theorem d236_41 : decode prog_12_method_103_code 41 = .ok (.bipush 48, 2) := by decide +kernel
theorem d236_43 : decode prog_12_method_103_code 43 = .ok (.bipush 57, 2) := by decide +kernel
theorem d236_45 : decode prog_12_method_103_code 45 = .ok (.invokestatic 89, 3) := by decide +kernel
theorem d236_48 : decode prog_12_method_103_code 48 = .ok (.ifCond .eq 37, 3) := by decide +kernel
theorem d236_51 : decode prog_12_method_103_code 51 = .ok (.bipush 10, 2) := by decide +kernel
theorem d236_53 : decode prog_12_method_103_code 53 = .ok (.iload_n 2, 1) := by decide +kernel
theorem d236_54 : decode prog_12_method_103_code 54 = .ok (.imul, 1) := by decide +kernel
theorem d236_55 : decode prog_12_method_103_code 55 = .ok (.aload_n 0, 1) := by decide +kernel
theorem d236_56 : decode prog_12_method_103_code 56 = .ok (.getfield 57, 3) := by decide +kernel
theorem d236_59 : decode prog_12_method_103_code 59 = .ok (.aload_n 0, 1) := by decide +kernel
theorem d236_60 : decode prog_12_method_103_code 60 = .ok (.getfield 72, 3) := by decide +kernel
theorem d236_63 : decode prog_12_method_103_code 63 = .ok (.iaload, 1) := by decide +kernel
theorem d236_64 : decode prog_12_method_103_code 64 = .ok (.iadd, 1) := by decide +kernel
theorem d236_65 : decode prog_12_method_103_code 65 = .ok (.bipush 48, 2) := by decide +kernel
theorem d236_67 : decode prog_12_method_103_code 67 = .ok (.isub, 1) := by decide +kernel
theorem d236_68 : decode prog_12_method_103_code 68 = .ok (.istore_n 2, 1) := by decide +kernel
theorem d236_69 : decode prog_12_method_103_code 69 = .ok (.aload_n 0, 1) := by decide +kernel
theorem d236_70 : decode prog_12_method_103_code 70 = .ok (.dup, 1) := by decide +kernel
theorem d236_71 : decode prog_12_method_103_code 71 = .ok (.getfield 72, 3) := by decide +kernel
theorem d236_74 : decode prog_12_method_103_code 74 = .ok (.iconst 1, 1) := by decide +kernel
theorem d236_75 : decode prog_12_method_103_code 75 = .ok (.iadd, 1) := by decide +kernel
theorem d236_76 : decode prog_12_method_103_code 76 = .ok (.putfield 72, 3) := by decide +kernel
theorem d236_79 : decode prog_12_method_103_code 79 = .ok (.iinc 3 1, 3) := by decide +kernel
theorem d236_82 : decode prog_12_method_103_code 82 = .ok (.goto (-50), 3) := by decide +kernel
theorem d236_85 : decode prog_12_method_103_code 85 = .ok (.iload_n 2, 1) := by decide +kernel
theorem d236_86 : decode prog_12_method_103_code 86 = .ok (.ireturn, 1) := by decide +kernel
theorem d237_0 : decode prog_12_method_108_code 0 = .ok (.aload_n 0, 1) := by decide +kernel
theorem d237_1 : decode prog_12_method_108_code 1 = .ok (.getfield 63, 3) := by decide +kernel
theorem d237_4 : decode prog_12_method_108_code 4 = .ok (.bipush 6, 2) := by decide +kernel
theorem d237_6 : decode prog_12_method_108_code 6 = .ok (.aload_n 0, 1) := by decide +kernel
theorem d237_7 : decode prog_12_method_108_code 7 = .ok (.getfield 75, 3) := by decide +kernel
theorem d237_10 : decode prog_12_method_108_code 10 = .ok (.imul, 1) := by decide +kernel
theorem d237_11 : decode prog_12_method_108_code 11 = .ok (.iload_n 1, 1) := by decide +kernel
theorem d237_12 : decode prog_12_method_108_code 12 = .ok (.iadd, 1) := by decide +kernel
theorem d237_13 : decode prog_12_method_108_code 13 = .ok (.iload_n 2, 1) := by decide +kernel
theorem d237_14 : decode prog_12_method_108_code 14 = .ok (.iastore, 1) := by decide +kernel
theorem d237_15 : decode prog_12_method_108_code 15 = .ok (.return_, 1) := by decide +kernel
theorem d238_0 : decode prog_12_method_104_code 0 = .ok (.aload_n 0, 1) := by decide +kernel
theorem d238_1 : decode prog_12_method_104_code 1 = .ok (.invokevirtual 254, 3) := by decide +kernel
theorem d238_4 : decode prog_12_method_104_code 4 = .ok (.istore_n 1, 1) := by decide +kernel
theorem d238_5 : decode prog_12_method_104_code 5 = .ok (.aload_n 0, 1) := by decide +kernel
theorem d238_6 : decode prog_12_method_104_code 6 = .ok (.dup, 1) := by decide +kernel
theorem d238_7 : decode prog_12_method_104_code 7 = .ok (.getfield 78, 3) := by decide +kernel
theorem d238_10 : decode prog_12_method_104_code 10 = .ok (.iload_n 1, 1) := by decide +kernel
theorem d238_11 : decode prog_12_method_104_code 11 = .ok (.invokestatic 93, 3) := by decide +kernel
theorem d238_14 : decode prog_12_method_104_code 14 = .ok (.ifCond .ne 7, 3) := by decide +kernel
theorem d238_17 : decode prog_12_method_104_code 17 = .ok (.iconst 1, 1) := by decide +kernel
theorem d238_18 : decode prog_12_method_104_code 18 = .ok (.goto 4, 3) := by decide +kernel
theorem d238_21 : decode prog_12_method_104_code 21 = .ok (.iconst 0, 1) := by decide +kernel
theorem d238_22 : decode prog_12_method_104_code 22 = .ok (.ior, 1) := by decide +kernel
theorem d238_23 : decode prog_12_method_104_code 23 = .ok (.putfield 78, 3) := by decide +kernel
theorem d238_26 : decode prog_12_method_104_code 26 = .ok (.aload_n 0, 1) := by decide +kernel
theorem d238_27 : decode prog_12_method_104_code 27 = .ok (.dup, 1) := by decide +kernel
theorem d238_28 : decode prog_12_method_104_code 28 = .ok (.getfield 72, 3) := by decide +kernel
theorem d238_31 : decode prog_12_method_104_code 31 = .ok (.aload_n 0, 1) := by decide +kernel
theorem d238_32 : decode prog_12_method_104_code 32 = .ok (.getfield 78, 3) := by decide +kernel
theorem d238_35 : decode prog_12_method_104_code 35 = .ok (.ifCond .eq 7, 3) := by decide +kernel
theorem d238_38 : decode prog_12_method_104_code 38 = .ok (.iconst 0, 1) := by decide +kernel
theorem d238_39 : decode prog_12_method_104_code 39 = .ok (.goto 4, 3) := by decide +kernel
theorem d238_42 : decode prog_12_method_104_code 42 = .ok (.iconst 1, 1) := by decide +kernel
theorem d238_43 : decode prog_12_method_104_code 43 = .ok (.iadd, 1) := by decide +kernel
theorem d238_44 : decode prog_12_method_104_code 44 = .ok (.putfield 72, 3) := by decide +kernel
theorem d238_47 : decode prog_12_method_104_code 47 = .ok (.iload_n 1, 1) := by decide +kernel
theorem d238_48 : decode prog_12_method_104_code 48 = .ok (.ireturn, 1) := by decide +kernel
theorem d239_0 : decode prog_12_method_110_code 0 = .ok (.iload_n 1, 1) := by decide +kernel
theorem d239_1 : decode prog_12_method_110_code 1 = .ok (.iconst 4, 1) := by decide +kernel
theorem d239_2 : decode prog_12_method_110_code 2 = .ok (.if_icmp .ne 15, 3) := by decide +kernel
theorem d239_5 : decode prog_12_method_110_code 5 = .ok (.aload_n 0, 1) := by decide +kernel
theorem d239_6 : decode prog_12_method_110_code 6 = .ok (.iconst 0, 1) := by decide +kernel
theorem d239_7 : decode prog_12_method_110_code 7 = .ok (.aload_n 0, 1) := by decide +kernel
theorem d239_8 : decode prog_12_method_110_code 8 = .ok (.invokevirtual 274, 3) := by decide +kernel
theorem d239_11 : decode prog_12_method_110_code 11 = .ok (.invokevirtual 268, 3) := by decide +kernel
theorem d239_14 : decode prog_12_method_110_code 14 = .ok (.goto 22, 3) := by decide +kernel
theorem d239_17 : decode prog_12_method_110_code 17 = .ok (.aload_n 0, 1) := by decide +kernel
theorem d239_18 : decode prog_12_method_110_code 18 = .ok (.iconst 0, 1) := by decide +kernel
theorem d239_19 : decode prog_12_method_110_code 19 = .ok (.aload_n 0, 1) := by decide +kernel
theorem d239_20 : decode prog_12_method_110_code 20 = .ok (.iload_n 1, 1) := by decide +kernel
theorem d239_21 : decode prog_12_method_110_code 21 = .ok (.iconst 4, 1) := by decide +kernel
theorem d239_22 : decode prog_12_method_110_code 22 = .ok (.if_icmp .ge 7, 3) := by decide +kernel
theorem d239_25 : decode prog_12_method_110_code 25 = .ok (.iconst 3, 1) := by decide +kernel
theorem d239_26 : decode prog_12_method_110_code 26 = .ok (.goto 4, 3) := by decide +kernel
theorem d239_29 : decode prog_12_method_110_code 29 = .ok (.iconst 1, 1) := by decide +kernel
theorem d239_30 : decode prog_12_method_110_code 30 = .ok (.invokevirtual 265, 3) := by decide +kernel
theorem d239_33 : decode prog_12_method_110_code 33 = .ok (.invokevirtual 268, 3) := by decide +kernel
theorem d239_36 : decode prog_12_method_110_code 36 = .ok (.iload_n 1, 1) := by decide +kernel
theorem d239_37 : decode prog_12_method_110_code 37 = .ok (.iconst 2, 1) := by decide +kernel
theorem d239_38 : decode prog_12_method_110_code 38 = .ok (.if_icmp .ne 9, 3) := by decide +kernel
theorem d239_41 : decode prog_12_method_110_code 41 = .ok (.aload_n 0, 1) := by decide +kernel
theorem d239_42 : decode prog_12_method_110_code 42 = .ok (.bipush 62, 2) := by decide +kernel
theorem d239_44 : decode prog_12_method_110_code 44 = .ok (.invokevirtual 271, 3) := by decide +kernel
theorem d239_47 : decode prog_12_method_110_code 47 = .ok (.iload_n 1, 1) := by decide +kernel
theorem d239_48 : decode prog_12_method_110_code 48 = .ok (.iconst 5, 1) := by decide +kernel
theorem d239_49 : decode prog_12_method_110_code 49 = .ok (.if_icmp .ne 12, 3) := by decide +kernel
theorem d239_52 : decode prog_12_method_110_code 52 = .ok (.aload_n 0, 1) := by decide +kernel
theorem d239_53 : decode prog_12_method_110_code 53 = .ok (.iconst 2, 1) := by decide +kernel
theorem d239_54 : decode prog_12_method_110_code 54 = .ok (.aload_n 0, 1) := by decide +kernel
theorem d239_55 : decode prog_12_method_110_code 55 = .ok (.invokevirtual 274, 3) := by decide +kernel
theorem d239_58 : decode prog_12_method_110_code 58 = .ok (.invokevirtual 268, 3) := by decide +kernel
theorem d239_61 : decode prog_12_method_110_code 61 = .ok (.iload_n 1, 1) := by decide +kernel
theorem d239_62 : decode prog_12_method_110_code 62 = .ok (.bipush 8, 2) := by decide +kernel
theorem d239_64 : decode prog_12_method_110_code 64 = .ok (.if_icmp .eq 9, 3) := by decide +kernel
theorem d239_67 : decode prog_12_method_110_code 67 = .ok (.iload_n 1, 1) := by decide +kernel
theorem d239_68 : decode prog_12_method_110_code 68 = .ok (.bipush 10, 2) := by decide +kernel
theorem d239_70 : decode prog_12_method_110_code 70 = .ok (.if_icmp .ne 9, 3) := by decide +kernel
theorem d239_73 : decode prog_12_method_110_code 73 = .ok (.aload_n 0, 1) := by decide +kernel
theorem d239_74 : decode prog_12_method_110_code 74 = .ok (.bipush 32, 2) := by decide +kernel
theorem d239_76 : decode prog_12_method_110_code 76 = .ok (.invokevirtual 271, 3) := by decide +kernel
theorem d239_79 : decode prog_12_method_110_code 79 = .ok (.iload_n 1, 1) := by decide +kernel
theorem d239_80 : decode prog_12_method_110_code 80 = .ok (.iconst 2, 1) := by decide +kernel
theorem d239_81 : decode prog_12_method_110_code 81 = .ok (.if_icmp .eq 15, 3) := by decide +kernel
theorem d239_84 : decode prog_12_method_110_code 84 = .ok (.iload_n 1, 1) := by decide +kernel
theorem d239_85 : decode prog_12_method_110_code 85 = .ok (.bipush 6, 2) := by decide +kernel
theorem d239_87 : decode prog_12_method_110_code 87 = .ok (.if_icmp .eq 9, 3) := by decide +kernel
theorem d239_90 : decode prog_12_method_110_code 90 = .ok (.iload_n 1, 1) := by decide +kernel
theorem d239_91 : decode prog_12_method_110_code 91 = .ok (.bipush 7, 2) := by decide +kernel
theorem d239_93 : decode prog_12_method_110_code 93 = .ok (.if_icmp .ne 13, 3) := by decide +kernel
theorem d239_96 : decode prog_12_method_110_code 96 = .ok (.aload_n 0, 1) := by decide +kernel
theorem d239_97 : decode prog_12_method_110_code 97 = .ok (.iconst 1, 1) := by decide +kernel
theorem d239_98 : decode prog_12_method_110_code 98 = .ok (.aload_n 0, 1) := by decide +kernel
theorem d239_99 : decode prog_12_method_110_code 99 = .ok (.iconst 1, 1) := by decide +kernel
theorem d239_100 : decode prog_12_method_110_code 100 = .ok (.invokevirtual 265, 3) := by decide +kernel
theorem d239_103 : decode prog_12_method_110_code 103 = .ok (.invokevirtual 268, 3) := by decide +kernel
theorem d239_106 : decode prog_12_method_110_code 106 = .ok (.iload_n 1, 1) := by decide +kernel
theorem d239_107 : decode prog_12_method_110_code 107 = .ok (.iconst 4, 1) := by decide +kernel
theorem d239_108 : decode prog_12_method_110_code 108 = .ok (.if_icmp .eq 20, 3) := by decide +kernel
theorem d239_111 : decode prog_12_method_110_code 111 = .ok (.iload_n 1, 1) := by decide +kernel
theorem d239_112 : decode prog_12_method_110_code 112 = .ok (.iconst 5, 1) := by decide +kernel
theorem d239_113 : decode prog_12_method_110_code 113 = .ok (.if_icmp .eq 15, 3) := by decide +kernel
theorem d239_116 : decode prog_12_method_110_code 116 = .ok (.iload_n 1, 1) := by decide +kernel
theorem d239_117 : decode prog_12_method_110_code 117 = .ok (.bipush 8, 2) := by decide +kernel
theorem d239_119 : decode prog_12_method_110_code 119 = .ok (.if_icmp .eq 9, 3) := by decide +kernel
theorem d239_122 : decode prog_12_method_110_code 122 = .ok (.iload_n 1, 1) := by decide +kernel
theorem d239_123 : decode prog_12_method_110_code 123 = .ok (.bipush 10, 2) := by decide +kernel
theorem d239_125 : decode prog_12_method_110_code 125 = .ok (.if_icmp .ne 13, 3) := by decide +kernel
theorem d239_128 : decode prog_12_method_110_code 128 = .ok (.aload_n 0, 1) := by decide +kernel
theorem d239_129 : decode prog_12_method_110_code 129 = .ok (.iconst 1, 1) := by decide +kernel
theorem d239_130 : decode prog_12_method_110_code 130 = .ok (.aload_n 0, 1) := by decide +kernel
theorem d239_131 : decode prog_12_method_110_code 131 = .ok (.iconst 3, 1) := by decide +kernel
theorem d239_132 : decode prog_12_method_110_code 132 = .ok (.invokevirtual 265, 3) := by decide +kernel
theorem d239_135 : decode prog_12_method_110_code 135 = .ok (.invokevirtual 268, 3) := by decide +kernel
theorem d239_138 : decode prog_12_method_110_code 138 = .ok (.return_, 1) := by decide +kernel
theorem d240_0 : decode prog_12_method_113_code 0 = .ok (.aload_n 0, 1) := by decide +kernel
theorem d240_1 : decode prog_12_method_113_code 1 = .ok (.getfield 63, 3) := by decide +kernel
theorem d240_4 : decode prog_12_method_113_code 4 = .ok (.bipush 6, 2) := by decide +kernel
theorem d240_6 : decode prog_12_method_113_code 6 = .ok (.iload_n 1, 1) := by decide +kernel
theorem d240_7 : decode prog_12_method_113_code 7 = .ok (.imul, 1) := by decide +kernel
theorem d240_8 : decode prog_12_method_113_code 8 = .ok (.iaload, 1) := by decide +kernel
theorem d240_9 : decode prog_12_method_113_code 9 = .ok (.istore_n 2, 1) := by decide +kernel
theorem d240_10 : decode prog_12_method_113_code 10 = .ok (.aload_n 0, 1) := by decide +kernel
theorem d240_11 : decode prog_12_method_113_code 11 = .ok (.getfield 63, 3) := by decide +kernel
theorem d240_14 : decode prog_12_method_113_code 14 = .ok (.bipush 6, 2) := by decide +kernel
theorem d240_16 : decode prog_12_method_113_code 16 = .ok (.iload_n 1, 1) := by decide +kernel
theorem d240_17 : decode prog_12_method_113_code 17 = .ok (.imul, 1) := by decide +kernel
theorem d240_18 : decode prog_12_method_113_code 18 = .ok (.iconst 1, 1) := by decide +kernel
theorem d240_19 : decode prog_12_method_113_code 19 = .ok (.iadd, 1) := by decide +kernel
theorem d240_20 : decode prog_12_method_113_code 20 = .ok (.iaload, 1) := by decide +kernel
theorem d240_21 : decode prog_12_method_113_code 21 = .ok (.istore_n 3, 1) := by decide +kernel
theorem d240_22 : decode prog_12_method_113_code 22 = .ok (.aload_n 0, 1) := by decide +kernel
theorem d240_23 : decode prog_12_method_113_code 23 = .ok (.getfield 63, 3) := by decide +kernel
theorem d240_26 : decode prog_12_method_113_code 26 = .ok (.bipush 6, 2) := by decide +kernel
theorem d240_28 : decode prog_12_method_113_code 28 = .ok (.iload_n 1, 1) := by decide +kernel
theorem d240_29 : decode prog_12_method_113_code 29 = .ok (.imul, 1) := by decide +kernel
theorem d240_30 : decode prog_12_method_113_code 30 = .ok (.iconst 2, 1) := by decide +kernel
theorem d240_31 : decode prog_12_method_113_code 31 = .ok (.iadd, 1) := by decide +kernel
theorem d240_32 : decode prog_12_method_113_code 32 = .ok (.iaload, 1) := by decide +kernel
theorem d240_33 : decode prog_12_method_113_code 33 = .ok (.istore 4, 2) := by decide +kernel
theorem d240_35 : decode prog_12_method_113_code 35 = .ok (.iconst 0, 1) := by decide +kernel
theorem d240_36 : decode prog_12_method_113_code 36 = .ok (.istore 5, 2) := by decide +kernel
theorem d240_38 : decode prog_12_method_113_code 38 = .ok (.aload_n 0, 1) := by decide +kernel
theorem d240_39 : decode prog_12_method_113_code 39 = .ok (.getfield 60, 3) := by decide +kernel
theorem d240_42 : decode prog_12_method_113_code 42 = .ok (.iload_n 1, 1) := by decide +kernel
theorem d240_43 : decode prog_12_method_113_code 43 = .ok (.iaload, 1) := by decide +kernel
theorem d240_44 : decode prog_12_method_113_code 44 = .ok (.tableswitch 345 0 9 #[56, 147, 170, 191, 210, 231, 256, 281, 306, 327], 56) := by decide +kernel
theorem d240_100 : decode prog_12_method_113_code 100 = .ok (.aload_n 0, 1) := by decide +kernel
theorem d240_101 : decode prog_12_method_113_code 101 = .ok (.iload_n 2, 1) := by decide +kernel
theorem d240_102 : decode prog_12_method_113_code 102 = .ok (.iload_n 3, 1) := by decide +kernel
theorem d240_103 : decode prog_12_method_113_code 103 = .ok (.iload 4, 2) := by decide +kernel
theorem d240_105 : decode prog_12_method_113_code 105 = .ok (.aload_n 0, 1) := by decide +kernel
theorem d240_106 : decode prog_12_method_113_code 106 = .ok (.getfield 63, 3) := by decide +kernel
theorem d240_109 : decode prog_12_method_113_code 109 = .ok (.bipush 6, 2) := by decide +kernel
theorem d240_111 : decode prog_12_method_113_code 111 = .ok (.iload_n 1, 1) := by decide +kernel
theorem d240_112 : decode prog_12_method_113_code 112 = .ok (.imul, 1) := by decide +kernel
theorem d240_113 : decode prog_12_method_113_code 113 = .ok (.iconst 3, 1) := by decide +kernel
theorem d240_114 : decode prog_12_method_113_code 114 = .ok (.iadd, 1) := by decide +kernel
theorem d240_115 : decode prog_12_method_113_code 115 = .ok (.iaload, 1) := by decide +kernel
theorem d240_116 : decode prog_12_method_113_code 116 = .ok (.aload_n 0, 1) := by decide +kernel
theorem d240_117 : decode prog_12_method_113_code 117 = .ok (.getfield 63, 3) := by decide +kernel
theorem d240_120 : decode prog_12_method_113_code 120 = .ok (.bipush 6, 2) := by decide +kernel
theorem d240_122 : decode prog_12_method_113_code 122 = .ok (.iload_n 1, 1) := by decide +kernel
theorem d240_123 : decode prog_12_method_113_code 123 = .ok (.imul, 1) := by decide +kernel
theorem d240_124 : decode prog_12_method_113_code 124 = .ok (.iconst 4, 1) := by decide +kernel
theorem d240_125 : decode prog_12_method_113_code 125 = .ok (.iadd, 1) := by decide +kernel
theorem d240_126 : decode prog_12_method_113_code 126 = .ok (.iaload, 1) := by decide +kernel
theorem d240_127 : decode prog_12_method_113_code 127 = .ok (.aload_n 0, 1) := by decide +kernel
theorem d240_128 : decode prog_12_method_113_code 128 = .ok (.getfield 63, 3) := by decide +kernel
theorem d240_131 : decode prog_12_method_113_code 131 = .ok (.bipush 6, 2) := by decide +kernel
theorem d240_133 : decode prog_12_method_113_code 133 = .ok (.iload_n 1, 1) := by decide +kernel
theorem d240_134 : decode prog_12_method_113_code 134 = .ok (.imul, 1) := by decide +kernel
theorem d240_135 : decode prog_12_method_113_code 135 = .ok (.iconst 5, 1) := by decide +kernel
theorem d240_136 : decode prog_12_method_113_code 136 = .ok (.iadd, 1) := by decide +kernel
theorem d240_137 : decode prog_12_method_113_code 137 = .ok (.iaload, 1) := by decide +kernel
theorem d240_138 : decode prog_12_method_113_code 138 = .ok (.invokevirtual 103, 3) := by decide +kernel
theorem d240_141 : decode prog_12_method_113_code 141 = .ok (.ifCond .le 5, 3) := by decide +kernel
theorem d240_144 : decode prog_12_method_113_code 144 = .ok (.iconst 1, 1) := by decide +kernel
theorem d240_145 : decode prog_12_method_113_code 145 = .ok (.ireturn, 1) := by decide +kernel
theorem d240_146 : decode prog_12_method_113_code 146 = .ok (.aload_n 0, 1) := by decide +kernel
theorem d240_147 : decode prog_12_method_113_code 147 = .ok (.iload_n 2, 1) := by decide +kernel
theorem d240_148 : decode prog_12_method_113_code 148 = .ok (.iload_n 3, 1) := by decide +kernel
theorem d240_149 : decode prog_12_method_113_code 149 = .ok (.iload 4, 2) := by decide +kernel
theorem d240_151 : decode prog_12_method_113_code 151 = .ok (.aload_n 0, 1) := by decide +kernel
theorem d240_152 : decode prog_12_method_113_code 152 = .ok (.getfield 63, 3) := by decide +kernel
theorem d240_155 : decode prog_12_method_113_code 155 = .ok (.bipush 6, 2) := by decide +kernel
theorem d240_157 : decode prog_12_method_113_code 157 = .ok (.iload_n 1, 1) := by decide +kernel
theorem d240_158 : decode prog_12_method_113_code 158 = .ok (.imul, 1) := by decide +kernel
theorem d240_159 : decode prog_12_method_113_code 159 = .ok (.iconst 3, 1) := by decide +kernel
theorem d240_160 : decode prog_12_method_113_code 160 = .ok (.iadd, 1) := by decide +kernel
theorem d240_161 : decode prog_12_method_113_code 161 = .ok (.iaload, 1) := by decide +kernel
theorem d240_162 : decode prog_12_method_113_code 162 = .ok (.aload_n 0, 1) := by decide +kernel
theorem d240_163 : decode prog_12_method_113_code 163 = .ok (.getfield 63, 3) := by decide +kernel
theorem d240_166 : decode prog_12_method_113_code 166 = .ok (.bipush 6, 2) := by decide +kernel
theorem d240_168 : decode prog_12_method_113_code 168 = .ok (.iload_n 1, 1) := by decide +kernel
theorem d240_169 : decode prog_12_method_113_code 169 = .ok (.imul, 1) := by decide +kernel
theorem d240_170 : decode prog_12_method_113_code 170 = .ok (.iconst 4, 1) := by decide +kernel
theorem d240_171 : decode prog_12_method_113_code 171 = .ok (.iadd, 1) := by decide +kernel
theorem d240_172 : decode prog_12_method_113_code 172 = .ok (.iaload, 1) := by decide +kernel
theorem d240_173 : decode prog_12_method_113_code 173 = .ok (.aload_n 0, 1) := by decide +kernel
theorem d240_174 : decode prog_12_method_113_code 174 = .ok (.getfield 63, 3) := by decide +kernel
theorem d240_177 : decode prog_12_method_113_code 177 = .ok (.bipush 6, 2) := by decide +kernel
theorem d240_179 : decode prog_12_method_113_code 179 = .ok (.iload_n 1, 1) := by decide +kernel
theorem d240_180 : decode prog_12_method_113_code 180 = .ok (.imul, 1) := by decide +kernel
theorem d240_181 : decode prog_12_method_113_code 181 = .ok (.iconst 5, 1) := by decide +kernel
theorem d240_182 : decode prog_12_method_113_code 182 = .ok (.iadd, 1) := by decide +kernel
theorem d240_183 : decode prog_12_method_113_code 183 = .ok (.iaload, 1) := by decide +kernel
theorem d240_184 : decode prog_12_method_113_code 184 = .ok (.invokevirtual 111, 3) := by decide +kernel
theorem d240_187 : decode prog_12_method_113_code 187 = .ok (.istore 5, 2) := by decide +kernel
theorem d240_189 : decode prog_12_method_113_code 189 = .ok (.iconst 0, 1) := by decide +kernel
theorem d240_190 : decode prog_12_method_113_code 190 = .ok (.ireturn, 1) := by decide +kernel
theorem d240_191 : decode prog_12_method_113_code 191 = .ok (.aload_n 0, 1) := by decide +kernel
theorem d240_192 : decode prog_12_method_113_code 192 = .ok (.iload_n 2, 1) := by decide +kernel
theorem d240_193 : decode prog_12_method_113_code 193 = .ok (.invokevirtual 117, 3) := by decide +kernel
theorem d240_196 : decode prog_12_method_113_code 196 = .ok (.ifCond .ge 5, 3) := by decide +kernel
theorem d240_199 : decode prog_12_method_113_code 199 = .ok (.iconst 1, 1) := by decide +kernel
theorem d240_200 : decode prog_12_method_113_code 200 = .ok (.ireturn, 1) := by decide +kernel
theorem d240_201 : decode prog_12_method_113_code 201 = .ok (.aload_n 0, 1) := by decide +kernel
theorem d240_202 : decode prog_12_method_113_code 202 = .ok (.aload_n 0, 1) := by decide +kernel
theorem d240_203 : decode prog_12_method_113_code 203 = .ok (.iload_n 2, 1) := by decide +kernel
theorem d240_204 : decode prog_12_method_113_code 204 = .ok (.invokevirtual 117, 3) := by decide +kernel
theorem d240_207 : decode prog_12_method_113_code 207 = .ok (.invokevirtual 120, 3) := by decide +kernel
theorem d240_210 : decode prog_12_method_113_code 210 = .ok (.istore 5, 2) := by decide +kernel
theorem d240_212 : decode prog_12_method_113_code 212 = .ok (.iconst 0, 1) := by decide +kernel
theorem d240_213 : decode prog_12_method_113_code 213 = .ok (.ireturn, 1) := by decide +kernel
theorem d240_214 : decode prog_12_method_113_code 214 = .ok (.aload_n 0, 1) := by decide +kernel
theorem d240_215 : decode prog_12_method_113_code 215 = .ok (.iload_n 2, 1) := by decide +kernel
theorem d240_216 : decode prog_12_method_113_code 216 = .ok (.iload_n 3, 1) := by decide +kernel
theorem d240_217 : decode prog_12_method_113_code 217 = .ok (.invokevirtual 129, 3) := by decide +kernel
theorem d240_220 : decode prog_12_method_113_code 220 = .ok (.ifCond .le 5, 3) := by decide +kernel
theorem d240_223 : decode prog_12_method_113_code 223 = .ok (.iconst 1, 1) := by decide +kernel
theorem d240_224 : decode prog_12_method_113_code 224 = .ok (.ireturn, 1) := by decide +kernel
theorem d240_225 : decode prog_12_method_113_code 225 = .ok (.aload_n 0, 1) := by decide +kernel
theorem d240_226 : decode prog_12_method_113_code 226 = .ok (.iload_n 2, 1) := by decide +kernel
theorem d240_227 : decode prog_12_method_113_code 227 = .ok (.iload_n 3, 1) := by decide +kernel
theorem d240_228 : decode prog_12_method_113_code 228 = .ok (.invokevirtual 132, 3) := by decide +kernel
theorem d240_231 : decode prog_12_method_113_code 231 = .ok (.istore 5, 2) := by decide +kernel
theorem d240_233 : decode prog_12_method_113_code 233 = .ok (.iconst 0, 1) := by decide +kernel
theorem d240_234 : decode prog_12_method_113_code 234 = .ok (.ireturn, 1) := by decide +kernel
theorem d240_235 : decode prog_12_method_113_code 235 = .ok (.aload_n 0, 1) := by decide +kernel
theorem d240_236 : decode prog_12_method_113_code 236 = .ok (.iload_n 2, 1) := by decide +kernel
theorem d240_237 : decode prog_12_method_113_code 237 = .ok (.invokevirtual 135, 3) := by decide +kernel
theorem d240_240 : decode prog_12_method_113_code 240 = .ok (.ifCond .le 5, 3) := by decide +kernel
theorem d240_243 : decode prog_12_method_113_code 243 = .ok (.iconst 1, 1) := by decide +kernel
theorem d240_244 : decode prog_12_method_113_code 244 = .ok (.ireturn, 1) := by decide +kernel
theorem d240_245 : decode prog_12_method_113_code 245 = .ok (.aload_n 0, 1) := by decide +kernel
theorem d240_246 : decode prog_12_method_113_code 246 = .ok (.iload_n 2, 1) := by decide +kernel
theorem d240_247 : decode prog_12_method_113_code 247 = .ok (.invokevirtual 138, 3) := by decide +kernel
theorem d240_250 : decode prog_12_method_113_code 250 = .ok (.istore 5, 2) := by decide +kernel
theorem d240_252 : decode prog_12_method_113_code 252 = .ok (.iconst 0, 1) := by decide +kernel
theorem d240_253 : decode prog_12_method_113_code 253 = .ok (.ireturn, 1) := by decide +kernel
theorem d240_254 : decode prog_12_method_113_code 254 = .ok (.aload_n 0, 1) := by decide +kernel
theorem d240_255 : decode prog_12_method_113_code 255 = .ok (.iload_n 2, 1) := by decide +kernel
theorem d240_256 : decode prog_12_method_113_code 256 = .ok (.iload_n 3, 1) := by decide +kernel
theorem d240_257 : decode prog_12_method_113_code 257 = .ok (.invokevirtual 141, 3) := by decide +kernel
theorem d240_260 : decode prog_12_method_113_code 260 = .ok (.ifCond .le 5, 3) := by decide +kernel
theorem d240_263 : decode prog_12_method_113_code 263 = .ok (.iconst 1, 1) := by decide +kernel
theorem d240_264 : decode prog_12_method_113_code 264 = .ok (.ireturn, 1) := by decide +kernel
theorem d240_265 : decode prog_12_method_113_code 265 = .ok (.aload_n 0, 1) := by decide +kernel
theorem d240_266 : decode prog_12_method_113_code 266 = .ok (.iload_n 2, 1) := by decide +kernel
theorem d240_267 : decode prog_12_method_113_code 267 = .ok (.iload_n 3, 1) := by decide +kernel
theorem d240_268 : decode prog_12_method_113_code 268 = .ok (.invokevirtual 144, 3) := by decide +kernel
theorem d240_271 : decode prog_12_method_113_code 271 = .ok (.istore 5, 2) := by decide +kernel
theorem d240_273 : decode prog_12_method_113_code 273 = .ok (.iconst 0, 1) := by decide +kernel
theorem d240_274 : decode prog_12_method_113_code 274 = .ok (.ireturn, 1) := by decide +kernel
theorem d240_275 : decode prog_12_method_113_code 275 = .ok (.aload_n 0, 1) := by decide +kernel
theorem d240_276 : decode prog_12_method_113_code 276 = .ok (.iload_n 2, 1) := by decide +kernel
theorem d240_277 : decode prog_12_method_113_code 277 = .ok (.iload 4, 2) := by decide +kernel
theorem d240_279 : decode prog_12_method_113_code 279 = .ok (.iload_n 3, 1) := by decide +kernel
theorem d240_280 : decode prog_12_method_113_code 280 = .ok (.invokevirtual 160, 3) := by decide +kernel
theorem d240_283 : decode prog_12_method_113_code 283 = .ok (.ifCond .le 5, 3) := by decide +kernel
theorem d240_286 : decode prog_12_method_113_code 286 = .ok (.iconst 1, 1) := by decide +kernel
theorem d240_287 : decode prog_12_method_113_code 287 = .ok (.ireturn, 1) := by decide +kernel
theorem d240_288 : decode prog_12_method_113_code 288 = .ok (.aload_n 0, 1) := by decide +kernel
theorem d240_289 : decode prog_12_method_113_code 289 = .ok (.iload_n 2, 1) := by decide +kernel
theorem d240_290 : decode prog_12_method_113_code 290 = .ok (.iload 4, 2) := by decide +kernel
theorem d240_292 : decode prog_12_method_113_code 292 = .ok (.iload_n 3, 1) := by decide +kernel
theorem d240_293 : decode prog_12_method_113_code 293 = .ok (.invokevirtual 164, 3) := by decide +kernel
theorem d240_296 : decode prog_12_method_113_code 296 = .ok (.istore 5, 2) := by decide +kernel
theorem d240_298 : decode prog_12_method_113_code 298 = .ok (.iconst 0, 1) := by decide +kernel
theorem d240_299 : decode prog_12_method_113_code 299 = .ok (.ireturn, 1) := by decide +kernel
theorem d240_300 : decode prog_12_method_113_code 300 = .ok (.aload_n 0, 1) := by decide +kernel
theorem d240_301 : decode prog_12_method_113_code 301 = .ok (.iload_n 2, 1) := by decide +kernel
theorem d240_302 : decode prog_12_method_113_code 302 = .ok (.iload_n 3, 1) := by decide +kernel
theorem d240_303 : decode prog_12_method_113_code 303 = .ok (.iconst 0, 1) := by decide +kernel
theorem d240_304 : decode prog_12_method_113_code 304 = .ok (.invokevirtual 170, 3) := by decide +kernel
theorem d240_307 : decode prog_12_method_113_code 307 = .ok (.ifCond .le 5, 3) := by decide +kernel
theorem d240_310 : decode prog_12_method_113_code 310 = .ok (.iconst 1, 1) := by decide +kernel
theorem d240_311 : decode prog_12_method_113_code 311 = .ok (.ireturn, 1) := by decide +kernel
theorem d240_312 : decode prog_12_method_113_code 312 = .ok (.aload_n 0, 1) := by decide +kernel
theorem d240_313 : decode prog_12_method_113_code 313 = .ok (.iload_n 2, 1) := by decide +kernel
theorem d240_314 : decode prog_12_method_113_code 314 = .ok (.iload_n 3, 1) := by decide +kernel
theorem d240_315 : decode prog_12_method_113_code 315 = .ok (.iload_n 2, 1) := by decide +kernel
theorem d240_316 : decode prog_12_method_113_code 316 = .ok (.iconst 1, 1) := by decide +kernel
theorem d240_317 : decode prog_12_method_113_code 317 = .ok (.iadd, 1) := by decide +kernel
theorem d240_318 : decode prog_12_method_113_code 318 = .ok (.invokevirtual 173, 3) := by decide +kernel
theorem d240_321 : decode prog_12_method_113_code 321 = .ok (.istore 5, 2) := by decide +kernel
theorem d240_323 : decode prog_12_method_113_code 323 = .ok (.iconst 0, 1) := by decide +kernel
theorem d240_324 : decode prog_12_method_113_code 324 = .ok (.ireturn, 1) := by decide +kernel
theorem d240_325 : decode prog_12_method_113_code 325 = .ok (.aload_n 0, 1) := by decide +kernel
theorem d240_326 : decode prog_12_method_113_code 326 = .ok (.iload_n 2, 1) := by decide +kernel
theorem d240_327 : decode prog_12_method_113_code 327 = .ok (.iload_n 3, 1) := by decide +kernel
theorem d240_328 : decode prog_12_method_113_code 328 = .ok (.iload_n 2, 1) := by decide +kernel
theorem d240_329 : decode prog_12_method_113_code 329 = .ok (.iconst 1, 1) := by decide +kernel
theorem d240_330 : decode prog_12_method_113_code 330 = .ok (.iadd, 1) := by decide +kernel
theorem d240_331 : decode prog_12_method_113_code 331 = .ok (.invokevirtual 170, 3) := by decide +kernel
theorem d240_334 : decode prog_12_method_113_code 334 = .ok (.ifCond .le 5, 3) := by decide +kernel
theorem d240_337 : decode prog_12_method_113_code 337 = .ok (.iconst 1, 1) := by decide +kernel
theorem d240_338 : decode prog_12_method_113_code 338 = .ok (.ireturn, 1) := by decide +kernel
theorem d240_339 : decode prog_12_method_113_code 339 = .ok (.aload_n 0, 1) := by decide +kernel
theorem d240_340 : decode prog_12_method_113_code 340 = .ok (.iload_n 2, 1) := by decide +kernel
theorem d240_341 : decode prog_12_method_113_code 341 = .ok (.iload_n 3, 1) := by decide +kernel
theorem d240_342 : decode prog_12_method_113_code 342 = .ok (.iconst 0, 1) := by decide +kernel
theorem d240_343 : decode prog_12_method_113_code 343 = .ok (.invokevirtual 173, 3) := by decide +kernel
theorem d240_346 : decode prog_12_method_113_code 346 = .ok (.istore 5, 2) := by decide +kernel
theorem d240_348 : decode prog_12_method_113_code 348 = .ok (.iconst 0, 1) := by decide +kernel
theorem d240_349 : decode prog_12_method_113_code 349 = .ok (.ireturn, 1) := by decide +kernel
theorem d240_350 : decode prog_12_method_113_code 350 = .ok (.aload_n 0, 1) := by decide +kernel
theorem d240_351 : decode prog_12_method_113_code 351 = .ok (.iload_n 2, 1) := by decide +kernel
theorem d240_352 : decode prog_12_method_113_code 352 = .ok (.iload_n 3, 1) := by decide +kernel
theorem d240_353 : decode prog_12_method_113_code 353 = .ok (.invokevirtual 192, 3) := by decide +kernel
theorem d240_356 : decode prog_12_method_113_code 356 = .ok (.ifCond .le 5, 3) := by decide +kernel
theorem d240_359 : decode prog_12_method_113_code 359 = .ok (.iconst 1, 1) := by decide +kernel
theorem d240_360 : decode prog_12_method_113_code 360 = .ok (.ireturn, 1) := by decide +kernel
theorem d240_361 : decode prog_12_method_113_code 361 = .ok (.aload_n 0, 1) := by decide +kernel
theorem d240_362 : decode prog_12_method_113_code 362 = .ok (.iload_n 2, 1) := by decide +kernel
theorem d240_363 : decode prog_12_method_113_code 363 = .ok (.iload_n 3, 1) := by decide +kernel
theorem d240_364 : decode prog_12_method_113_code 364 = .ok (.invokevirtual 195, 3) := by decide +kernel
theorem d240_367 : decode prog_12_method_113_code 367 = .ok (.istore 5, 2) := by decide +kernel
theorem d240_369 : decode prog_12_method_113_code 369 = .ok (.iconst 0, 1) := by decide +kernel
theorem d240_370 : decode prog_12_method_113_code 370 = .ok (.ireturn, 1) := by decide +kernel
theorem d240_371 : decode prog_12_method_113_code 371 = .ok (.iload_n 2, 1) := by decide +kernel
theorem d240_372 : decode prog_12_method_113_code 372 = .ok (.invokestatic 123, 3) := by decide +kernel
theorem d240_375 : decode prog_12_method_113_code 375 = .ok (.ifCond .ne 5, 3) := by decide +kernel
theorem d240_378 : decode prog_12_method_113_code 378 = .ok (.iconst 1, 1) := by decide +kernel
theorem d240_379 : decode prog_12_method_113_code 379 = .ok (.ireturn, 1) := by decide +kernel
theorem d240_380 : decode prog_12_method_113_code 380 = .ok (.aload_n 0, 1) := by decide +kernel
theorem d240_381 : decode prog_12_method_113_code 381 = .ok (.iload_n 2, 1) := by decide +kernel
theorem d240_382 : decode prog_12_method_113_code 382 = .ok (.invokevirtual 198, 3) := by decide +kernel
theorem d240_385 : decode prog_12_method_113_code 385 = .ok (.istore 5, 2) := by decide +kernel
theorem d240_387 : decode prog_12_method_113_code 387 = .ok (.iconst 0, 1) := by decide +kernel
theorem d240_388 : decode prog_12_method_113_code 388 = .ok (.ireturn, 1) := by decide +kernel
theorem d240_389 : decode prog_12_method_113_code 389 = .ok (.iload_n 2, 1) := by decide +kernel
theorem d240_390 : decode prog_12_method_113_code 390 = .ok (.iload_n 3, 1) := by decide +kernel
theorem d240_391 : decode prog_12_method_113_code 391 = .ok (.invokestatic 201, 3) := by decide +kernel
theorem d240_394 : decode prog_12_method_113_code 394 = .ok (.ifCond .le 5, 3) := by decide +kernel
theorem d240_397 : decode prog_12_method_113_code 397 = .ok (.iconst 1, 1) := by decide +kernel
theorem d240_398 : decode prog_12_method_113_code 398 = .ok (.ireturn, 1) := by decide +kernel
theorem d240_399 : decode prog_12_method_113_code 399 = .ok (.aload_n 0, 1) := by decide +kernel
theorem d240_400 : decode prog_12_method_113_code 400 = .ok (.iload_n 2, 1) := by decide +kernel
theorem d240_401 : decode prog_12_method_113_code 401 = .ok (.iload_n 3, 1) := by decide +kernel
theorem d240_402 : decode prog_12_method_113_code 402 = .ok (.invokevirtual 204, 3) := by decide +kernel
theorem d240_405 : decode prog_12_method_113_code 405 = .ok (.istore 5, 2) := by decide +kernel
theorem d240_407 : decode prog_12_method_113_code 407 = .ok (.iconst 0, 1) := by decide +kernel
theorem d240_408 : decode prog_12_method_113_code 408 = .ok (.ireturn, 1) := by decide +kernel
theorem d241_0 : decode prog_12_method_116_code 0 = .ok (.aload_n 0, 1) := by decide +kernel
theorem d241_1 : decode prog_12_method_116_code 1 = .ok (.aload_n 0, 1) := by decide +kernel
theorem d241_2 : decode prog_12_method_116_code 2 = .ok (.getfield 35, 3) := by decide +kernel
theorem d241_5 : decode prog_12_method_116_code 5 = .ok (.invokevirtual 295, 3) := by decide +kernel
theorem d241_8 : decode prog_12_method_116_code 8 = .ok (.ireturn, 1) := by decide +kernel
theorem d242_0 : decode prog_12_method_115_code 0 = .ok (.aload_n 0, 1) := by decide +kernel
theorem d242_1 : decode prog_12_method_115_code 1 = .ok (.iload_n 1, 1) := by decide +kernel
theorem d242_2 : decode prog_12_method_115_code 2 = .ok (.ifCond .lt 7, 3) := by decide +kernel
theorem d242_5 : decode prog_12_method_115_code 5 = .ok (.iconst 1, 1) := by decide +kernel
theorem d242_6 : decode prog_12_method_115_code 6 = .ok (.goto 4, 3) := by decide +kernel
theorem d242_9 : decode prog_12_method_115_code 9 = .ok (.iconst 0, 1) := by decide +kernel
theorem d242_10 : decode prog_12_method_115_code 10 = .ok (.invokevirtual 210, 3) := by decide +kernel
theorem d242_13 : decode prog_12_method_115_code 13 = .ok (.ifCond .le 7, 3) := by decide +kernel
theorem d242_16 : decode prog_12_method_115_code 16 = .ok (.iconst 0, 1) := by decide +kernel
theorem d242_17 : decode prog_12_method_115_code 17 = .ok (.goto 4, 3) := by decide +kernel
theorem d242_20 : decode prog_12_method_115_code 20 = .ok (.iload_n 1, 1) := by decide +kernel
theorem d242_21 : decode prog_12_method_115_code 21 = .ok (.ireturn, 1) := by decide +kernel
theorem d243_0 : decode prog_12_method_117_code 0 = .ok (.aload_n 0, 1) := by decide +kernel
theorem d243_1 : decode prog_12_method_117_code 1 = .ok (.aload_n 0, 1) := by decide +kernel
theorem d243_2 : decode prog_12_method_117_code 2 = .ok (.getfield 38, 3) := by decide +kernel
theorem d243_5 : decode prog_12_method_117_code 5 = .ok (.invokevirtual 295, 3) := by decide +kernel
theorem d243_8 : decode prog_12_method_117_code 8 = .ok (.ireturn, 1) := by decide +kernel
theorem d244_0 : decode prog_12_method_118_code 0 = .ok (.aload_n 0, 1) := by decide +kernel
theorem d244_1 : decode prog_12_method_118_code 1 = .ok (.aload_n 0, 1) := by decide +kernel
theorem d244_2 : decode prog_12_method_118_code 2 = .ok (.getfield 32, 3) := by decide +kernel
theorem d244_5 : decode prog_12_method_118_code 5 = .ok (.ifCond .le 7, 3) := by decide +kernel
theorem d244_8 : decode prog_12_method_118_code 8 = .ok (.iconst 1, 1) := by decide +kernel
theorem d244_9 : decode prog_12_method_118_code 9 = .ok (.goto 4, 3) := by decide +kernel
theorem d244_12 : decode prog_12_method_118_code 12 = .ok (.iconst 0, 1) := by decide +kernel
theorem d244_13 : decode prog_12_method_118_code 13 = .ok (.invokevirtual 210, 3) := by decide +kernel
theorem d244_16 : decode prog_12_method_118_code 16 = .ok (.ifCond .le 5, 3) := by decide +kernel
theorem d244_19 : decode prog_12_method_118_code 19 = .ok (.iconst 0, 1) := by decide +kernel
theorem d244_20 : decode prog_12_method_118_code 20 = .ok (.ireturn, 1) := by decide +kernel
theorem d244_21 : decode prog_12_method_118_code 21 = .ok (.aload_n 0, 1) := by decide +kernel
theorem d244_22 : decode prog_12_method_118_code 22 = .ok (.dup, 1) := by decide +kernel
theorem d244_23 : decode prog_12_method_118_code 23 = .ok (.getfield 32, 3) := by decide +kernel
theorem d244_26 : decode prog_12_method_118_code 26 = .ok (.iconst 1, 1) := by decide +kernel
theorem d244_27 : decode prog_12_method_118_code 27 = .ok (.isub, 1) := by decide +kernel
theorem d244_28 : decode prog_12_method_118_code 28 = .ok (.putfield 32, 3) := by decide +kernel
theorem d244_31 : decode prog_12_method_118_code 31 = .ok (.aload_n 0, 1) := by decide +kernel
theorem d244_32 : decode prog_12_method_118_code 32 = .ok (.getfield 19, 3) := by decide +kernel
theorem d244_35 : decode prog_12_method_118_code 35 = .ok (.sipush 140, 3) := by decide +kernel
theorem d244_38 : decode prog_12_method_118_code 38 = .ok (.aload_n 0, 1) := by decide +kernel
theorem d244_39 : decode prog_12_method_118_code 39 = .ok (.getfield 32, 3) := by decide +kernel
theorem d244_42 : decode prog_12_method_118_code 42 = .ok (.imul, 1) := by decide +kernel
theorem d244_43 : decode prog_12_method_118_code 43 = .ok (.aload_n 0, 1) := by decide +kernel
theorem d244_44 : decode prog_12_method_118_code 44 = .ok (.getfield 7, 3) := by decide +kernel
theorem d244_47 : decode prog_12_method_118_code 47 = .ok (.iconst 0, 1) := by decide +kernel
theorem d244_48 : decode prog_12_method_118_code 48 = .ok (.invokestatic 81, 3) := by decide +kernel
theorem d244_51 : decode prog_12_method_118_code 51 = .ok (.aload_n 0, 1) := by decide +kernel
theorem d244_52 : decode prog_12_method_118_code 52 = .ok (.getfield 32, 3) := by decide +kernel
theorem d244_55 : decode prog_12_method_118_code 55 = .ok (.ireturn, 1) := by decide +kernel
theorem d245_0 : decode prog_12_method_119_code 0 = .ok (.aload_n 0, 1) := by decide +kernel
theorem d245_1 : decode prog_12_method_119_code 1 = .ok (.iconst 0, 1) := by decide +kernel
theorem d245_2 : decode prog_12_method_119_code 2 = .ok (.putfield 28, 3) := by decide +kernel
theorem d245_5 : decode prog_12_method_119_code 5 = .ok (.aload_n 0, 1) := by decide +kernel
theorem d245_6 : decode prog_12_method_119_code 6 = .ok (.getfield 7, 3) := by decide +kernel
theorem d245_9 : decode prog_12_method_119_code 9 = .ok (.iconst 0, 1) := by decide +kernel
theorem d245_10 : decode prog_12_method_119_code 10 = .ok (.aload_n 0, 1) := by decide +kernel
theorem d245_11 : decode prog_12_method_119_code 11 = .ok (.getfield 16, 3) := by decide +kernel
theorem d245_14 : decode prog_12_method_119_code 14 = .ok (.iconst 0, 1) := by decide +kernel
theorem d245_15 : decode prog_12_method_119_code 15 = .ok (.invokestatic 81, 3) := by decide +kernel
theorem d245_18 : decode prog_12_method_119_code 18 = .ok (.aload_n 0, 1) := by decide +kernel
theorem d245_19 : decode prog_12_method_119_code 19 = .ok (.iconst 1, 1) := by decide +kernel
theorem d245_20 : decode prog_12_method_119_code 20 = .ok (.putfield 47, 3) := by decide +kernel
theorem d245_23 : decode prog_12_method_119_code 23 = .ok (.aload_n 0, 1) := by decide +kernel
theorem d245_24 : decode prog_12_method_119_code 24 = .ok (.getfield 7, 3) := by decide +kernel
theorem d245_27 : decode prog_12_method_119_code 27 = .ok (.iconst 0, 1) := by decide +kernel
theorem d245_28 : decode prog_12_method_119_code 28 = .ok (.iaload, 1) := by decide +kernel
theorem d245_29 : decode prog_12_method_119_code 29 = .ok (.ireturn, 1) := by decide +kernel
theorem d246_0 : decode prog_12_method_120_code 0 = .ok (.aload_n 0, 1) := by decide +kernel
theorem d246_1 : decode prog_12_method_120_code 1 = .ok (.aload_n 0, 1) := by decide +kernel
theorem d246_2 : decode prog_12_method_120_code 2 = .ok (.getfield 47, 3) := by decide +kernel
theorem d246_5 : decode prog_12_method_120_code 5 = .ok (.invokevirtual 210, 3) := by decide +kernel
theorem d246_8 : decode prog_12_method_120_code 8 = .ok (.ifCond .le 5, 3) := by decide +kernel
theorem d246_11 : decode prog_12_method_120_code 11 = .ok (.iconst 0, 1) := by decide +kernel
theorem d246_12 : decode prog_12_method_120_code 12 = .ok (.ireturn, 1) := by decide +kernel
theorem d246_13 : decode prog_12_method_120_code 13 = .ok (.aload_n 0, 1) := by decide +kernel
theorem d246_14 : decode prog_12_method_120_code 14 = .ok (.getfield 16, 3) := by decide +kernel
theorem d246_17 : decode prog_12_method_120_code 17 = .ok (.iconst 0, 1) := by decide +kernel
theorem d246_18 : decode prog_12_method_120_code 18 = .ok (.aload_n 0, 1) := by decide +kernel
theorem d246_19 : decode prog_12_method_120_code 19 = .ok (.getfield 7, 3) := by decide +kernel
theorem d246_22 : decode prog_12_method_120_code 22 = .ok (.iconst 0, 1) := by decide +kernel
theorem d246_23 : decode prog_12_method_120_code 23 = .ok (.invokestatic 81, 3) := by decide +kernel
theorem d246_26 : decode prog_12_method_120_code 26 = .ok (.aload_n 0, 1) := by decide +kernel
theorem d246_27 : decode prog_12_method_120_code 27 = .ok (.iconst 0, 1) := by decide +kernel
theorem d246_28 : decode prog_12_method_120_code 28 = .ok (.putfield 32, 3) := by decide +kernel
theorem d246_31 : decode prog_12_method_120_code 31 = .ok (.aload_n 0, 1) := by decide +kernel
theorem d246_32 : decode prog_12_method_120_code 32 = .ok (.getfield 7, 3) := by decide +kernel
theorem d246_35 : decode prog_12_method_120_code 35 = .ok (.iconst 0, 1) := by decide +kernel
theorem d246_36 : decode prog_12_method_120_code 36 = .ok (.iaload, 1) := by decide +kernel
theorem d246_37 : decode prog_12_method_120_code 37 = .ok (.ireturn, 1) := by decide +kernel
