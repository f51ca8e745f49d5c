/-! decode rows -/
theorem d126_0 : decode prog_12_method_1_code 0 = .ok (.aload_n 0, 1) := by decide +kernel
theorem d126_1 : decode prog_12_method_1_code 1 = .ok (.invokespecial 1, 3) := by decide +kernel
theorem d126_4 : decode prog_12_method_1_code 4 = .ok (.aload_n 0, 1) := by decide +kernel
theorem d126_5 : decode prog_12_method_1_code 5 = .ok (.sipush 140, 3) := by decide +kernel
theorem d126_8 : decode prog_12_method_1_code 8 = .ok (.newarray .int, 2) := by decide +kernel
theorem d126_10 : decode prog_12_method_1_code 10 = .ok (.putfield 7, 3) := by decide +kernel
theorem d126_13 : decode prog_12_method_1_code 13 = .ok (.aload_n 0, 1) := by decide +kernel
theorem d126_14 : decode prog_12_method_1_code 14 = .ok (.sipush 140, 3) := by decide +kernel
theorem d126_17 : decode prog_12_method_1_code 17 = .ok (.newarray .int, 2) := by decide +kernel
theorem d126_19 : decode prog_12_method_1_code 19 = .ok (.putfield 13, 3) := by decide +kernel
theorem d126_22 : decode prog_12_method_1_code 22 = .ok (.aload_n 0, 1) := by decide +kernel
theorem d126_23 : decode prog_12_method_1_code 23 = .ok (.sipush 140, 3) := by decide +kernel
theorem d126_26 : decode prog_12_method_1_code 26 = .ok (.newarray .int, 2) := by decide +kernel
theorem d126_28 : decode prog_12_method_1_code 28 = .ok (.putfield 16, 3) := by decide +kernel
theorem d126_31 : decode prog_12_method_1_code 31 = .ok (.aload_n 0, 1) := by decide +kernel
theorem d126_32 : decode prog_12_method_1_code 32 = .ok (.sipush 1120, 3) := by decide +kernel
theorem d126_35 : decode prog_12_method_1_code 35 = .ok (.newarray .int, 2) := by decide +kernel
theorem d126_37 : decode prog_12_method_1_code 37 = .ok (.putfield 19, 3) := by decide +kernel
theorem d126_40 : decode prog_12_method_1_code 40 = .ok (.aload_n 0, 1) := by decide +kernel
theorem d126_41 : decode prog_12_method_1_code 41 = .ok (.bipush 6, 2) := by decide +kernel
theorem d126_43 : decode prog_12_method_1_code 43 = .ok (.newarray .int, 2) := by decide +kernel
theorem d126_45 : decode prog_12_method_1_code 45 = .ok (.putfield 22, 3) := by decide +kernel
theorem d126_48 : decode prog_12_method_1_code 48 = .ok (.aload_n 0, 1) := by decide +kernel
theorem d126_49 : decode prog_12_method_1_code 49 = .ok (.bipush 6, 2) := by decide +kernel
theorem d126_51 : decode prog_12_method_1_code 51 = .ok (.newarray .int, 2) := by decide +kernel
theorem d126_53 : decode prog_12_method_1_code 53 = .ok (.putfield 25, 3) := by decide +kernel
theorem d126_56 : decode prog_12_method_1_code 56 = .ok (.aload_n 0, 1) := by decide +kernel
theorem d126_57 : decode prog_12_method_1_code 57 = .ok (.iconst 0, 1) := by decide +kernel
theorem d126_58 : decode prog_12_method_1_code 58 = .ok (.putfield 28, 3) := by decide +kernel
theorem d126_61 : decode prog_12_method_1_code 61 = .ok (.aload_n 0, 1) := by decide +kernel
theorem d126_62 : decode prog_12_method_1_code 62 = .ok (.iconst 0, 1) := by decide +kernel
theorem d126_63 : decode prog_12_method_1_code 63 = .ok (.putfield 32, 3) := by decide +kernel
theorem d126_66 : decode prog_12_method_1_code 66 = .ok (.aload_n 0, 1) := by decide +kernel
theorem d126_67 : decode prog_12_method_1_code 67 = .ok (.iconst (-1), 1) := by decide +kernel
theorem d126_68 : decode prog_12_method_1_code 68 = .ok (.putfield 35, 3) := by decide +kernel
theorem d126_71 : decode prog_12_method_1_code 71 = .ok (.aload_n 0, 1) := by decide +kernel
theorem d126_72 : decode prog_12_method_1_code 72 = .ok (.iconst (-1), 1) := by decide +kernel
theorem d126_73 : decode prog_12_method_1_code 73 = .ok (.putfield 38, 3) := by decide +kernel
theorem d126_76 : decode prog_12_method_1_code 76 = .ok (.aload_n 0, 1) := by decide +kernel
theorem d126_77 : decode prog_12_method_1_code 77 = .ok (.iconst 0, 1) := by decide +kernel
theorem d126_78 : decode prog_12_method_1_code 78 = .ok (.putfield 41, 3) := by decide +kernel
theorem d126_81 : decode prog_12_method_1_code 81 = .ok (.aload_n 0, 1) := by decide +kernel
theorem d126_82 : decode prog_12_method_1_code 82 = .ok (.iconst 0, 1) := by decide +kernel
theorem d126_83 : decode prog_12_method_1_code 83 = .ok (.putfield 44, 3) := by decide +kernel
theorem d126_86 : decode prog_12_method_1_code 86 = .ok (.aload_n 0, 1) := by decide +kernel
theorem d126_87 : decode prog_12_method_1_code 87 = .ok (.iconst 0, 1) := by decide +kernel
theorem d126_88 : decode prog_12_method_1_code 88 = .ok (.putfield 47, 3) := by decide +kernel
theorem d126_91 : decode prog_12_method_1_code 91 = .ok (.aload_n 0, 1) := by decide +kernel
theorem d126_92 : decode prog_12_method_1_code 92 = .ok (.bipush 100, 2) := by decide +kernel
theorem d126_94 : decode prog_12_method_1_code 94 = .ok (.newarray .int, 2) := by decide +kernel
theorem d126_96 : decode prog_12_method_1_code 96 = .ok (.putfield 51, 3) := by decide +kernel
theorem d126_99 : decode prog_12_method_1_code 99 = .ok (.aload_n 0, 1) := by decide +kernel
theorem d126_100 : decode prog_12_method_1_code 100 = .ok (.iconst 0, 1) := by decide +kernel
theorem d126_101 : decode prog_12_method_1_code 101 = .ok (.putfield 54, 3) := by decide +kernel
theorem d126_104 : decode prog_12_method_1_code 104 = .ok (.aload_n 0, 1) := by decide +kernel
theorem d126_105 : decode prog_12_method_1_code 105 = .ok (.bipush 60, 2) := by decide +kernel
theorem d126_107 : decode prog_12_method_1_code 107 = .ok (.newarray .int, 2) := by decide +kernel
theorem d126_109 : decode prog_12_method_1_code 109 = .ok (.putfield 57, 3) := by decide +kernel
theorem d126_112 : decode prog_12_method_1_code 112 = .ok (.aload_n 0, 1) := by decide +kernel
theorem d126_113 : decode prog_12_method_1_code 113 = .ok (.bipush 32, 2) := by decide +kernel
theorem d126_115 : decode prog_12_method_1_code 115 = .ok (.newarray .int, 2) := by decide +kernel
theorem d126_117 : decode prog_12_method_1_code 117 = .ok (.putfield 60, 3) := by decide +kernel
theorem d126_120 : decode prog_12_method_1_code 120 = .ok (.aload_n 0, 1) := by decide +kernel
theorem d126_121 : decode prog_12_method_1_code 121 = .ok (.sipush 192, 3) := by decide +kernel
theorem d126_124 : decode prog_12_method_1_code 124 = .ok (.newarray .int, 2) := by decide +kernel
theorem d126_126 : decode prog_12_method_1_code 126 = .ok (.putfield 63, 3) := by decide +kernel
theorem d126_129 : decode prog_12_method_1_code 129 = .ok (.aload_n 0, 1) := by decide +kernel
theorem d126_130 : decode prog_12_method_1_code 130 = .ok (.iconst 0, 1) := by decide +kernel
theorem d126_131 : decode prog_12_method_1_code 131 = .ok (.putfield 66, 3) := by decide +kernel
theorem d126_134 : decode prog_12_method_1_code 134 = .ok (.aload_n 0, 1) := by decide +kernel
theorem d126_135 : decode prog_12_method_1_code 135 = .ok (.iconst 0, 1) := by decide +kernel
theorem d126_136 : decode prog_12_method_1_code 136 = .ok (.putfield 69, 3) := by decide +kernel
theorem d126_139 : decode prog_12_method_1_code 139 = .ok (.aload_n 0, 1) := by decide +kernel
theorem d126_140 : decode prog_12_method_1_code 140 = .ok (.iconst 0, 1) := by decide +kernel
theorem d126_141 : decode prog_12_method_1_code 141 = .ok (.putfield 72, 3) := by decide +kernel
theorem d126_144 : decode prog_12_method_1_code 144 = .ok (.aload_n 0, 1) := by decide +kernel
theorem d126_145 : decode prog_12_method_1_code 145 = .ok (.iconst 0, 1) := by decide +kernel
theorem d126_146 : decode prog_12_method_1_code 146 = .ok (.putfield 75, 3) := by decide +kernel
theorem d126_149 : decode prog_12_method_1_code 149 = .ok (.aload_n 0, 1) := by decide +kernel
theorem d126_150 : decode prog_12_method_1_code 150 = .ok (.iconst 0, 1) := by decide +kernel
theorem d126_151 : decode prog_12_method_1_code 151 = .ok (.putfield 78, 3) := by decide +kernel
theorem d126_154 : decode prog_12_method_1_code 154 = .ok (.return_, 1) := by decide +kernel
theorem d127_0 : decode prog_12_method_2_code 0 = .ok (.aload_n 0, 1) := by decide +kernel
theorem d127_1 : decode prog_12_method_2_code 1 = .ok (.getfield 28, 3) := by decide +kernel
theorem d127_4 : decode prog_12_method_2_code 4 = .ok (.ireturn, 1) := by decide +kernel
theorem d128_0 : decode prog_12_method_17_code 0 = .ok (.aload_n 0, 1) := by decide +kernel
theorem d128_1 : decode prog_12_method_17_code 1 = .ok (.invokevirtual 100, 3) := by decide +kernel
theorem d128_4 : decode prog_12_method_17_code 4 = .ok (.aload_n 0, 1) := by decide +kernel
theorem d128_5 : decode prog_12_method_17_code 5 = .ok (.iload_n 1, 1) := by decide +kernel
theorem d128_6 : decode prog_12_method_17_code 6 = .ok (.iload_n 2, 1) := by decide +kernel
theorem d128_7 : decode prog_12_method_17_code 7 = .ok (.iload_n 3, 1) := by decide +kernel
theorem d128_8 : decode prog_12_method_17_code 8 = .ok (.iload 4, 2) := by decide +kernel
theorem d128_10 : decode prog_12_method_17_code 10 = .ok (.iload 5, 2) := by decide +kernel
theorem d128_12 : decode prog_12_method_17_code 12 = .ok (.iload 6, 2) := by decide +kernel
theorem d128_14 : decode prog_12_method_17_code 14 = .ok (.invokevirtual 103, 3) := by decide +kernel
theorem d128_17 : decode prog_12_method_17_code 17 = .ok (.istore 7, 2) := by decide +kernel
theorem d128_19 : decode prog_12_method_17_code 19 = .ok (.iload 7, 2) := by decide +kernel
theorem d128_21 : decode prog_12_method_17_code 21 = .ok (.ifCond .le 12, 3) := by decide +kernel
theorem d128_24 : decode prog_12_method_17_code 24 = .ok (.aload_n 0, 1) := by decide +kernel
theorem d128_25 : decode prog_12_method_17_code 25 = .ok (.iload 7, 2) := by decide +kernel
theorem d128_27 : decode prog_12_method_17_code 27 = .ok (.invokevirtual 107, 3) := by decide +kernel
theorem d128_30 : decode prog_12_method_17_code 30 = .ok (.goto 20, 3) := by decide +kernel
theorem d128_33 : decode prog_12_method_17_code 33 = .ok (.aload_n 0, 1) := by decide +kernel
theorem d128_34 : decode prog_12_method_17_code 34 = .ok (.aload_n 0, 1) := by decide +kernel
theorem d128_35 : decode prog_12_method_17_code 35 = .ok (.iload_n 1, 1) := by decide +kernel
theorem d128_36 : decode prog_12_method_17_code 36 = .ok (.iload_n 2, 1) := by decide +kernel
theorem d128_37 : decode prog_12_method_17_code 37 = .ok (.iload_n 3, 1) := by decide +kernel
theorem d128_38 : decode prog_12_method_17_code 38 = .ok (.iload 4, 2) := by decide +kernel
theorem d128_40 : decode prog_12_method_17_code 40 = .ok (.iload 5, 2) := by decide +kernel
theorem d128_42 : decode prog_12_method_17_code 42 = .ok (.iload 6, 2) := by decide +kernel
theorem d128_44 : decode prog_12_method_17_code 44 = .ok (.invokevirtual 111, 3) := by decide +kernel
theorem d128_47 : decode prog_12_method_17_code 47 = .ok (.invokevirtual 114, 3) := by decide +kernel
theorem d128_50 : decode prog_12_method_17_code 50 = .ok (.ireturn, 1) := by decide +kernel
theorem d129_0 : decode prog_12_method_6_code 0 = .ok (.aload_n 0, 1) := by decide +kernel
theorem d129_1 : decode prog_12_method_6_code 1 = .ok (.iconst 0, 1) := by decide +kernel
theorem d129_2 : decode prog_12_method_6_code 2 = .ok (.putfield 28, 3) := by decide +kernel
theorem d129_5 : decode prog_12_method_6_code 5 = .ok (.aload_n 0, 1) := by decide +kernel
theorem d129_6 : decode prog_12_method_6_code 6 = .ok (.getfield 7, 3) := by decide +kernel
theorem d129_9 : decode prog_12_method_6_code 9 = .ok (.iconst 0, 1) := by decide +kernel
theorem d129_10 : decode prog_12_method_6_code 10 = .ok (.aload_n 0, 1) := by decide +kernel
theorem d129_11 : decode prog_12_method_6_code 11 = .ok (.getfield 13, 3) := by decide +kernel
theorem d129_14 : decode prog_12_method_6_code 14 = .ok (.iconst 0, 1) := by decide +kernel
theorem d129_15 : decode prog_12_method_6_code 15 = .ok (.invokestatic 81, 3) := by decide +kernel
theorem d129_18 : decode prog_12_method_6_code 18 = .ok (.return_, 1) := by decide +kernel
theorem d130_0 : decode prog_12_method_4_code 0 = .ok (.iconst 0, 1) := by decide +kernel
theorem d130_1 : decode prog_12_method_4_code 1 = .ok (.istore 4, 2) := by decide +kernel
theorem d130_3 : decode prog_12_method_4_code 3 = .ok (.iload 4, 2) := by decide +kernel
theorem d130_5 : decode prog_12_method_4_code 5 = .ok (.sipush 140, 3) := by decide +kernel
theorem d130_8 : decode prog_12_method_4_code 8 = .ok (.if_icmp .ge 21, 3) := by decide +kernel
theorem d130_11 : decode prog_12_method_4_code 11 = .ok (.aload_n 2, 1) := by decide +kernel
theorem d130_12 : decode prog_12_method_4_code 12 = .ok (.iload_n 3, 1) := by decide +kernel
theorem d130_13 : decode prog_12_method_4_code 13 = .ok (.iload 4, 2) := by decide +kernel
theorem d130_15 : decode prog_12_method_4_code 15 = .ok (.iadd, 1) := by decide +kernel
theorem d130_16 : decode prog_12_method_4_code 16 = .ok (.aload_n 0, 1) := by decide +kernel
theorem d130_17 : decode prog_12_method_4_code 17 = .ok (.iload_n 1, 1) := by decide +kernel
theorem d130_18 : decode prog_12_method_4_code 18 = .ok (.iload 4, 2) := by decide +kernel
theorem d130_20 : decode prog_12_method_4_code 20 = .ok (.iadd, 1) := by decide +kernel
theorem d130_21 : decode prog_12_method_4_code 21 = .ok (.iaload, 1) := by decide +kernel
theorem d130_22 : decode prog_12_method_4_code 22 = .ok (.iastore, 1) := by decide +kernel
theorem d130_23 : decode prog_12_method_4_code 23 = .ok (.iinc 4 1, 3) := by decide +kernel
theorem d130_26 : decode prog_12_method_4_code 26 = .ok (.goto (-23), 3) := by decide +kernel
theorem d130_29 : decode prog_12_method_4_code 29 = .ok (.return_, 1) := by decide +kernel
theorem d131_0 : decode prog_12_method_15_code 0 = .ok (.iload_n 1, 1) := by decide +kernel
theorem d131_1 : decode prog_12_method_15_code 1 = .ok (.iconst 0, 1) := by decide +kernel
theorem d131_2 : decode prog_12_method_15_code 2 = .ok (.bipush 20, 2) := by decide +kernel
theorem d131_4 : decode prog_12_method_15_code 4 = .ok (.invokestatic 89, 3) := by decide +kernel
theorem d131_7 : decode prog_12_method_15_code 7 = .ok (.ifCond .eq 50, 3) := by decide +kernel
theorem d131_10 : decode prog_12_method_15_code 10 = .ok (.iload_n 2, 1) := by decide +kernel
theorem d131_11 : decode prog_12_method_15_code 11 = .ok (.iconst 0, 1) := by decide +kernel
theorem d131_12 : decode prog_12_method_15_code 12 = .ok (.bipush 20, 2) := by decide +kernel
theorem d131_14 : decode prog_12_method_15_code 14 = .ok (.invokestatic 89, 3) := by decide +kernel
theorem d131_17 : decode prog_12_method_15_code 17 = .ok (.ifCond .eq 40, 3) := by decide +kernel
theorem d131_20 : decode prog_12_method_15_code 20 = .ok (.iload_n 3, 1) := by decide +kernel
theorem d131_21 : decode prog_12_method_15_code 21 = .ok (.invokestatic 93, 3) := by decide +kernel
theorem d131_24 : decode prog_12_method_15_code 24 = .ok (.ifCond .eq 33, 3) := by decide +kernel
theorem d131_27 : decode prog_12_method_15_code 27 = .ok (.iload 4, 2) := by decide +kernel
theorem d131_29 : decode prog_12_method_15_code 29 = .ok (.invokestatic 97, 3) := by decide +kernel
theorem d131_32 : decode prog_12_method_15_code 32 = .ok (.ifCond .eq 25, 3) := by decide +kernel
theorem d131_35 : decode prog_12_method_15_code 35 = .ok (.iload 5, 2) := by decide +kernel
theorem d131_37 : decode prog_12_method_15_code 37 = .ok (.iconst 1, 1) := by decide +kernel
theorem d131_38 : decode prog_12_method_15_code 38 = .ok (.iconst 4, 1) := by decide +kernel
theorem d131_39 : decode prog_12_method_15_code 39 = .ok (.invokestatic 89, 3) := by decide +kernel
theorem d131_42 : decode prog_12_method_15_code 42 = .ok (.ifCond .eq 15, 3) := by decide +kernel
theorem d131_45 : decode prog_12_method_15_code 45 = .ok (.iload 6, 2) := by decide +kernel
theorem d131_47 : decode prog_12_method_15_code 47 = .ok (.iconst 1, 1) := by decide +kernel
theorem d131_48 : decode prog_12_method_15_code 48 = .ok (.sipush 199, 3) := by decide +kernel
theorem d131_51 : decode prog_12_method_15_code 51 = .ok (.invokestatic 89, 3) := by decide +kernel
theorem d131_54 : decode prog_12_method_15_code 54 = .ok (.ifCond .ne 5, 3) := by decide +kernel
theorem d131_57 : decode prog_12_method_15_code 57 = .ok (.iconst 1, 1) := by decide +kernel
theorem d131_58 : decode prog_12_method_15_code 58 = .ok (.ireturn, 1) := by decide +kernel
theorem d131_59 : decode prog_12_method_15_code 59 = .ok (.aload_n 0, 1) := by decide +kernel
theorem d131_60 : decode prog_12_method_15_code 60 = .ok (.getfield 7, 3) := by decide +kernel
theorem d131_63 : decode prog_12_method_15_code 63 = .ok (.iconst 0, 1) := by decide +kernel
theorem d131_64 : decode prog_12_method_15_code 64 = .ok (.iaload, 1) := by decide +kernel
theorem d131_65 : decode prog_12_method_15_code 65 = .ok (.bipush 12, 2) := by decide +kernel
theorem d131_67 : decode prog_12_method_15_code 67 = .ok (.if_icmp .ne 7, 3) := by decide +kernel
theorem d131_70 : decode prog_12_method_15_code 70 = .ok (.iconst 2, 1) := by decide +kernel
theorem d131_71 : decode prog_12_method_15_code 71 = .ok (.goto 4, 3) := by decide +kernel
theorem d131_74 : decode prog_12_method_15_code 74 = .ok (.iconst 0, 1) := by decide +kernel
theorem d131_75 : decode prog_12_method_15_code 75 = .ok (.ireturn, 1) := by decide +kernel
theorem d132_0 : decode prog_12_method_3_code 0 = .ok (.iload_n 0, 1) := by decide +kernel
theorem d132_1 : decode prog_12_method_3_code 1 = .ok (.iload_n 1, 1) := by decide +kernel
theorem d132_2 : decode prog_12_method_3_code 2 = .ok (.if_icmp .lt 12, 3) := by decide +kernel
theorem d132_5 : decode prog_12_method_3_code 5 = .ok (.iload_n 0, 1) := by decide +kernel
theorem d132_6 : decode prog_12_method_3_code 6 = .ok (.iload_n 2, 1) := by decide +kernel
theorem d132_7 : decode prog_12_method_3_code 7 = .ok (.if_icmp .gt 7, 3) := by decide +kernel
theorem d132_10 : decode prog_12_method_3_code 10 = .ok (.iconst 1, 1) := by decide +kernel
theorem d132_11 : decode prog_12_method_3_code 11 = .ok (.goto 4, 3) := by decide +kernel
theorem d132_14 : decode prog_12_method_3_code 14 = .ok (.iconst 0, 1) := by decide +kernel
theorem d132_15 : decode prog_12_method_3_code 15 = .ok (.ireturn, 1) := by decide +kernel
theorem d133_0 : decode prog_12_method_13_code 0 = .ok (.iload_n 0, 1) := by decide +kernel
theorem d133_1 : decode prog_12_method_13_code 1 = .ok (.bipush 97, 2) := by decide +kernel
theorem d133_3 : decode prog_12_method_13_code 3 = .ok (.bipush 100, 2) := by decide +kernel
theorem d133_5 : decode prog_12_method_13_code 5 = .ok (.invokestatic 89, 3) := by decide +kernel
theorem d133_8 : decode prog_12_method_13_code 8 = .ok (.ireturn, 1) := by decide +kernel
theorem d134_0 : decode prog_12_method_14_code 0 = .ok (.iload_n 0, 1) := by decide +kernel
theorem d134_1 : decode prog_12_method_14_code 1 = .ok (.iconst 0, 1) := by decide +kernel
theorem d134_2 : decode prog_12_method_14_code 2 = .ok (.iconst 5, 1) := by decide +kernel
theorem d134_3 : decode prog_12_method_14_code 3 = .ok (.invokestatic 89, 3) := by decide +kernel
theorem d134_6 : decode prog_12_method_14_code 6 = .ok (.ireturn, 1) := by decide +kernel
theorem d135_0 : decode prog_12_method_5_code 0 = .ok (.aload_n 0, 1) := by decide +kernel
theorem d135_1 : decode prog_12_method_5_code 1 = .ok (.iload_n 1, 1) := by decide +kernel
theorem d135_2 : decode prog_12_method_5_code 2 = .ok (.putfield 28, 3) := by decide +kernel
theorem d135_5 : decode prog_12_method_5_code 5 = .ok (.iconst 0, 1) := by decide +kernel
theorem d135_6 : decode prog_12_method_5_code 6 = .ok (.ireturn, 1) := by decide +kernel
theorem d136_0 : decode prog_12_method_16_code 0 = .ok (.bipush 42, 2) := by decide +kernel
theorem d136_2 : decode prog_12_method_16_code 2 = .ok (.bipush 8, 2) := by decide +kernel
theorem d136_4 : decode prog_12_method_16_code 4 = .ok (.aload_n 0, 1) := by decide +kernel
theorem d136_5 : decode prog_12_method_16_code 5 = .ok (.getfield 7, 3) := by decide +kernel
theorem d136_8 : decode prog_12_method_16_code 8 = .ok (.iconst 0, 1) := by decide +kernel
theorem d136_9 : decode prog_12_method_16_code 9 = .ok (.iaload, 1) := by decide +kernel
theorem d136_10 : decode prog_12_method_16_code 10 = .ok (.imul, 1) := by decide +kernel
theorem d136_11 : decode prog_12_method_16_code 11 = .ok (.iadd, 1) := by decide +kernel
theorem d136_12 : decode prog_12_method_16_code 12 = .ok (.istore 7, 2) := by decide +kernel
theorem d136_14 : decode prog_12_method_16_code 14 = .ok (.aload_n 0, 1) := by decide +kernel
theorem d136_15 : decode prog_12_method_16_code 15 = .ok (.getfield 7, 3) := by decide +kernel
theorem d136_18 : decode prog_12_method_16_code 18 = .ok (.iload 7, 2) := by decide +kernel
theorem d136_20 : decode prog_12_method_16_code 20 = .ok (.iconst 0, 1) := by decide +kernel
theorem d136_21 : decode prog_12_method_16_code 21 = .ok (.iadd, 1) := by decide +kernel
theorem d136_22 : decode prog_12_method_16_code 22 = .ok (.aload_n 0, 1) := by decide +kernel
theorem d136_23 : decode prog_12_method_16_code 23 = .ok (.getfield 7, 3) := by decide +kernel
theorem d136_26 : decode prog_12_method_16_code 26 = .ok (.iconst 1, 1) := by decide +kernel
theorem d136_27 : decode prog_12_method_16_code 27 = .ok (.iaload, 1) := by decide +kernel
theorem d136_28 : decode prog_12_method_16_code 28 = .ok (.iastore, 1) := by decide +kernel
theorem d136_29 : decode prog_12_method_16_code 29 = .ok (.aload_n 0, 1) := by decide +kernel
theorem d136_30 : decode prog_12_method_16_code 30 = .ok (.getfield 7, 3) := by decide +kernel
theorem d136_33 : decode prog_12_method_16_code 33 = .ok (.iload 7, 2) := by decide +kernel
theorem d136_35 : decode prog_12_method_16_code 35 = .ok (.iconst 1, 1) := by decide +kernel
theorem d136_36 : decode prog_12_method_16_code 36 = .ok (.iadd, 1) := by decide +kernel
theorem d136_37 : decode prog_12_method_16_code 37 = .ok (.iload_n 1, 1) := by decide +kernel
theorem d136_38 : decode prog_12_method_16_code 38 = .ok (.iastore, 1) := by decide +kernel
theorem d136_39 : decode prog_12_method_16_code 39 = .ok (.aload_n 0, 1) := by decide +kernel
theorem d136_40 : decode prog_12_method_16_code 40 = .ok (.getfield 7, 3) := by decide +kernel
theorem d136_43 : decode prog_12_method_16_code 43 = .ok (.iload 7, 2) := by decide +kernel
theorem d136_45 : decode prog_12_method_16_code 45 = .ok (.iconst 2, 1) := by decide +kernel
theorem d136_46 : decode prog_12_method_16_code 46 = .ok (.iadd, 1) := by decide +kernel
theorem d136_47 : decode prog_12_method_16_code 47 = .ok (.iload_n 2, 1) := by decide +kernel
theorem d136_48 : decode prog_12_method_16_code 48 = .ok (.iastore, 1) := by decide +kernel
theorem d136_49 : decode prog_12_method_16_code 49 = .ok (.aload_n 0, 1) := by decide +kernel
theorem d136_50 : decode prog_12_method_16_code 50 = .ok (.getfield 7, 3) := by decide +kernel
theorem d136_53 : decode prog_12_method_16_code 53 = .ok (.iload 7, 2) := by decide +kernel
theorem d136_55 : decode prog_12_method_16_code 55 = .ok (.iconst 3, 1) := by decide +kernel
theorem d136_56 : decode prog_12_method_16_code 56 = .ok (.iadd, 1) := by decide +kernel
theorem d136_57 : decode prog_12_method_16_code 57 = .ok (.iload_n 3, 1) := by decide +kernel
theorem d136_58 : decode prog_12_method_16_code 58 = .ok (.iastore, 1) := by decide +kernel
theorem d136_59 : decode prog_12_method_16_code 59 = .ok (.aload_n 0, 1) := by decide +kernel
theorem d136_60 : decode prog_12_method_16_code 60 = .ok (.getfield 7, 3) := by decide +kernel
theorem d136_63 : decode prog_12_method_16_code 63 = .ok (.iload 7, 2) := by decide +kernel
theorem d136_65 : decode prog_12_method_16_code 65 = .ok (.iconst 4, 1) := by decide +kernel
theorem d136_66 : decode prog_12_method_16_code 66 = .ok (.iadd, 1) := by decide +kernel
theorem d136_67 : decode prog_12_method_16_code 67 = .ok (.iload 4, 2) := by decide +kernel
theorem d136_69 : decode prog_12_method_16_code 69 = .ok (.iastore, 1) := by decide +kernel
theorem d136_70 : decode prog_12_method_16_code 70 = .ok (.aload_n 0, 1) := by decide +kernel
theorem d136_71 : decode prog_12_method_16_code 71 = .ok (.getfield 7, 3) := by decide +kernel
theorem d136_74 : decode prog_12_method_16_code 74 = .ok (.iload 7, 2) := by decide +kernel
theorem d136_76 : decode prog_12_method_16_code 76 = .ok (.iconst 5, 1) := by decide +kernel
theorem d136_77 : decode prog_12_method_16_code 77 = .ok (.iadd, 1) := by decide +kernel
theorem d136_78 : decode prog_12_method_16_code 78 = .ok (.iload 5, 2) := by decide +kernel
theorem d136_80 : decode prog_12_method_16_code 80 = .ok (.iastore, 1) := by decide +kernel
theorem d136_81 : decode prog_12_method_16_code 81 = .ok (.aload_n 0, 1) := by decide +kernel
theorem d136_82 : decode prog_12_method_16_code 82 = .ok (.getfield 7, 3) := by decide +kernel
theorem d136_85 : decode prog_12_method_16_code 85 = .ok (.iload 7, 2) := by decide +kernel
theorem d136_87 : decode prog_12_method_16_code 87 = .ok (.bipush 6, 2) := by decide +kernel
theorem d136_89 : decode prog_12_method_16_code 89 = .ok (.iadd, 1) := by decide +kernel
theorem d136_90 : decode prog_12_method_16_code 90 = .ok (.iload 6, 2) := by decide +kernel
theorem d136_92 : decode prog_12_method_16_code 92 = .ok (.iastore, 1) := by decide +kernel
theorem d136_93 : decode prog_12_method_16_code 93 = .ok (.aload_n 0, 1) := by decide +kernel
theorem d136_94 : decode prog_12_method_16_code 94 = .ok (.getfield 7, 3) := by decide +kernel
theorem d136_97 : decode prog_12_method_16_code 97 = .ok (.iload 7, 2) := by decide +kernel
theorem d136_99 : decode prog_12_method_16_code 99 = .ok (.bipush 7, 2) := by decide +kernel
theorem d136_101 : decode prog_12_method_16_code 101 = .ok (.iadd, 1) := by decide +kernel
theorem d136_102 : decode prog_12_method_16_code 102 = .ok (.iconst 0, 1) := by decide +kernel
theorem d136_103 : decode prog_12_method_16_code 103 = .ok (.iastore, 1) := by decide +kernel
theorem d136_104 : decode prog_12_method_16_code 104 = .ok (.aload_n 0, 1) := by decide +kernel
theorem d136_105 : decode prog_12_method_16_code 105 = .ok (.getfield 7, 3) := by decide +kernel
theorem d136_108 : decode prog_12_method_16_code 108 = .ok (.iconst 0, 1) := by decide +kernel
theorem d136_109 : decode prog_12_method_16_code 109 = .ok (.dup2, 1) := by decide +kernel
theorem d136_110 : decode prog_12_method_16_code 110 = .ok (.iaload, 1) := by decide +kernel
theorem d136_111 : decode prog_12_method_16_code 111 = .ok (.iconst 1, 1) := by decide +kernel
theorem d136_112 : decode prog_12_method_16_code 112 = .ok (.iadd, 1) := by decide +kernel
theorem d136_113 : decode prog_12_method_16_code 113 = .ok (.iastore, 1) := by decide +kernel
theorem d136_114 : decode prog_12_method_16_code 114 = .ok (.aload_n 0, 1) := by decide +kernel
theorem d136_115 : decode prog_12_method_16_code 115 = .ok (.getfield 7, 3) := by decide +kernel
theorem d136_118 : decode prog_12_method_16_code 118 = .ok (.iconst 1, 1) := by decide +kernel
theorem d136_119 : decode prog_12_method_16_code 119 = .ok (.dup2, 1) := by decide +kernel
theorem d136_120 : decode prog_12_method_16_code 120 = .ok (.iaload, 1) := by decide +kernel
theorem d136_121 : decode prog_12_method_16_code 121 = .ok (.iconst 1, 1) := by decide +kernel
theorem d136_122 : decode prog_12_method_16_code 122 = .ok (.iadd, 1) := by decide +kernel
theorem d136_123 : decode prog_12_method_16_code 123 = .ok (.iastore, 1) := by decide +kernel
theorem d136_124 : decode prog_12_method_16_code 124 = .ok (.aload_n 0, 1) := by decide +kernel
theorem d136_125 : decode prog_12_method_16_code 125 = .ok (.getfield 7, 3) := by decide +kernel
theorem d136_128 : decode prog_12_method_16_code 128 = .ok (.iconst 1, 1) := by decide +kernel
theorem d136_129 : decode prog_12_method_16_code 129 = .ok (.iaload, 1) := by decide +kernel
theorem d136_130 : decode prog_12_method_16_code 130 = .ok (.iconst 1, 1) := by decide +kernel
theorem d136_131 : decode prog_12_method_16_code 131 = .ok (.isub, 1) := by decide +kernel
theorem d136_132 : decode prog_12_method_16_code 132 = .ok (.ireturn, 1) := by decide +kernel
theorem d137_0 : decode prog_12_method_7_code 0 = .ok (.aload_n 0, 1) := by decide +kernel
theorem d137_1 : decode prog_12_method_7_code 1 = .ok (.getfield 32, 3) := by decide +kernel
theorem d137_4 : decode prog_12_method_7_code 4 = .ok (.bipush 8, 2) := by decide +kernel
theorem d137_6 : decode prog_12_method_7_code 6 = .ok (.if_icmp .ne 50, 3) := by decide +kernel
theorem d137_9 : decode prog_12_method_7_code 9 = .ok (.iconst 1, 1) := by decide +kernel
theorem d137_10 : decode prog_12_method_7_code 10 = .ok (.istore_n 2, 1) := by decide +kernel
theorem d137_11 : decode prog_12_method_7_code 11 = .ok (.iload_n 2, 1) := by decide +kernel
theorem d137_12 : decode prog_12_method_7_code 12 = .ok (.bipush 8, 2) := by decide +kernel
theorem d137_14 : decode prog_12_method_7_code 14 = .ok (.if_icmp .ge 32, 3) := by decide +kernel
theorem d137_17 : decode prog_12_method_7_code 17 = .ok (.aload_n 0, 1) := by decide +kernel
theorem d137_18 : decode prog_12_method_7_code 18 = .ok (.getfield 19, 3) := by decide +kernel
theorem d137_21 : decode prog_12_method_7_code 21 = .ok (.sipush 140, 3) := by decide +kernel
theorem d137_24 : decode prog_12_method_7_code 24 = .ok (.iload_n 2, 1) := by decide +kernel
theorem d137_25 : decode prog_12_method_7_code 25 = .ok (.imul, 1) := by decide +kernel
theorem d137_26 : decode prog_12_method_7_code 26 = .ok (.aload_n 0, 1) := by decide +kernel
theorem d137_27 : decode prog_12_method_7_code 27 = .ok (.getfield 19, 3) := by decide +kernel
theorem d137_30 : decode prog_12_method_7_code 30 = .ok (.sipush 140, 3) := by decide +kernel
theorem d137_33 : decode prog_12_method_7_code 33 = .ok (.iload_n 2, 1) := by decide +kernel
theorem d137_34 : decode prog_12_method_7_code 34 = .ok (.iconst 1, 1) := by decide +kernel
theorem d137_35 : decode prog_12_method_7_code 35 = .ok (.isub, 1) := by decide +kernel
theorem d137_36 : decode prog_12_method_7_code 36 = .ok (.imul, 1) := by decide +kernel
theorem d137_37 : decode prog_12_method_7_code 37 = .ok (.invokestatic 81, 3) := by decide +kernel
theorem d137_40 : decode prog_12_method_7_code 40 = .ok (.iinc 2 1, 3) := by decide +kernel
theorem d137_43 : decode prog_12_method_7_code 43 = .ok (.goto (-32), 3) := by decide +kernel
theorem d137_46 : decode prog_12_method_7_code 46 = .ok (.aload_n 0, 1) := by decide +kernel
theorem d137_47 : decode prog_12_method_7_code 47 = .ok (.dup, 1) := by decide +kernel
theorem d137_48 : decode prog_12_method_7_code 48 = .ok (.getfield 32, 3) := by decide +kernel
theorem d137_51 : decode prog_12_method_7_code 51 = .ok (.iconst 1, 1) := by decide +kernel
theorem d137_52 : decode prog_12_method_7_code 52 = .ok (.isub, 1) := by decide +kernel
theorem d137_53 : decode prog_12_method_7_code 53 = .ok (.putfield 32, 3) := by decide +kernel
theorem d137_56 : decode prog_12_method_7_code 56 = .ok (.aload_n 0, 1) := by decide +kernel
theorem d137_57 : decode prog_12_method_7_code 57 = .ok (.getfield 13, 3) := by decide +kernel
theorem d137_60 : decode prog_12_method_7_code 60 = .ok (.iconst 0, 1) := by decide +kernel
theorem d137_61 : decode prog_12_method_7_code 61 = .ok (.aload_n 0, 1) := by decide +kernel
theorem d137_62 : decode prog_12_method_7_code 62 = .ok (.getfield 19, 3) := by decide +kernel
theorem d137_65 : decode prog_12_method_7_code 65 = .ok (.sipush 140, 3) := by decide +kernel
theorem d137_68 : decode prog_12_method_7_code 68 = .ok (.aload_n 0, 1) := by decide +kernel
theorem d137_69 : decode prog_12_method_7_code 69 = .ok (.getfield 32, 3) := by decide +kernel
theorem d137_72 : decode prog_12_method_7_code 72 = .ok (.imul, 1) := by decide +kernel
theorem d137_73 : decode prog_12_method_7_code 73 = .ok (.invokestatic 81, 3) := by decide +kernel
theorem d137_76 : decode prog_12_method_7_code 76 = .ok (.aload_n 0, 1) := by decide +kernel
theorem d137_77 : decode prog_12_method_7_code 77 = .ok (.dup, 1) := by decide +kernel
theorem d137_78 : decode prog_12_method_7_code 78 = .ok (.getfield 32, 3) := by decide +kernel
theorem d137_81 : decode prog_12_method_7_code 81 = .ok (.iconst 1, 1) := by decide +kernel
theorem d137_82 : decode prog_12_method_7_code 82 = .ok (.iadd, 1) := by decide +kernel
theorem d137_83 : decode prog_12_method_7_code 83 = .ok (.putfield 32, 3) := by decide +kernel
theorem d137_86 : decode prog_12_method_7_code 86 = .ok (.iload_n 1, 1) := by decide +kernel
theorem d137_87 : decode prog_12_method_7_code 87 = .ok (.ireturn, 1) := by decide +kernel
theorem d138_0 : decode prog_12_method_19_code 0 = .ok (.aload_n 0, 1) := by decide +kernel
theorem d138_1 : decode prog_12_method_19_code 1 = .ok (.invokevirtual 100, 3) := by decide +kernel
theorem d138_4 : decode prog_12_method_19_code 4 = .ok (.aload_n 0, 1) := by decide +kernel
theorem d138_5 : decode prog_12_method_19_code 5 = .ok (.iload_n 1, 1) := by decide +kernel
theorem d138_6 : decode prog_12_method_19_code 6 = .ok (.invokevirtual 117, 3) := by decide +kernel
theorem d138_9 : decode prog_12_method_19_code 9 = .ok (.ifCond .ge 11, 3) := by decide +kernel
theorem d138_12 : decode prog_12_method_19_code 12 = .ok (.aload_n 0, 1) := by decide +kernel
theorem d138_13 : decode prog_12_method_19_code 13 = .ok (.iconst 1, 1) := by decide +kernel
theorem d138_14 : decode prog_12_method_19_code 14 = .ok (.invokevirtual 107, 3) := by decide +kernel
theorem d138_17 : decode prog_12_method_19_code 17 = .ok (.goto 16, 3) := by decide +kernel
theorem d138_20 : decode prog_12_method_19_code 20 = .ok (.aload_n 0, 1) := by decide +kernel
theorem d138_21 : decode prog_12_method_19_code 21 = .ok (.aload_n 0, 1) := by decide +kernel
theorem d138_22 : decode prog_12_method_19_code 22 = .ok (.aload_n 0, 1) := by decide +kernel
theorem d138_23 : decode prog_12_method_19_code 23 = .ok (.iload_n 1, 1) := by decide +kernel
theorem d138_24 : decode prog_12_method_19_code 24 = .ok (.invokevirtual 117, 3) := by decide +kernel
theorem d138_27 : decode prog_12_method_19_code 27 = .ok (.invokevirtual 120, 3) := by decide +kernel
theorem d138_30 : decode prog_12_method_19_code 30 = .ok (.invokevirtual 114, 3) := by decide +kernel
theorem d138_33 : decode prog_12_method_19_code 33 = .ok (.ireturn, 1) := by decide +kernel
theorem d139_0 : decode prog_12_method_11_code 0 = .ok (.iconst 0, 1) := by decide +kernel
theorem d139_1 : decode prog_12_method_11_code 1 = .ok (.istore_n 2, 1) := by decide +kernel
theorem d139_2 : decode prog_12_method_11_code 2 = .ok (.iload_n 2, 1) := by decide +kernel
theorem d139_3 : decode prog_12_method_11_code 3 = .ok (.aload_n 0, 1) := by decide +kernel
theorem d139_4 : decode prog_12_method_11_code 4 = .ok (.getfield 7, 3) := by decide +kernel
theorem d139_7 : decode prog_12_method_11_code 7 = .ok (.iconst 0, 1) := by decide +kernel
theorem d139_8 : decode prog_12_method_11_code 8 = .ok (.iaload, 1) := by decide +kernel
theorem d139_9 : decode prog_12_method_11_code 9 = .ok (.if_icmp .ge 21, 3) := by decide +kernel
theorem d139_12 : decode prog_12_method_11_code 12 = .ok (.aload_n 0, 1) := by decide +kernel
theorem d139_13 : decode prog_12_method_11_code 13 = .ok (.iload_n 2, 1) := by decide +kernel
theorem d139_14 : decode prog_12_method_11_code 14 = .ok (.iconst 0, 1) := by decide +kernel
theorem d139_15 : decode prog_12_method_11_code 15 = .ok (.invokevirtual 85, 3) := by decide +kernel
theorem d139_18 : decode prog_12_method_11_code 18 = .ok (.iload_n 1, 1) := by decide +kernel
theorem d139_19 : decode prog_12_method_11_code 19 = .ok (.if_icmp .ne 5, 3) := by decide +kernel
theorem d139_22 : decode prog_12_method_11_code 22 = .ok (.iload_n 2, 1) := by decide +kernel
theorem d139_23 : decode prog_12_method_11_code 23 = .ok (.ireturn, 1) := by decide +kernel
theorem d139_24 : decode prog_12_method_11_code 24 = .ok (.iinc 2 1, 3) := by decide +kernel
theorem d139_27 : decode prog_12_method_11_code 27 = .ok (.goto (-25), 3) := by decide +kernel
theorem d139_30 : decode prog_12_method_11_code 30 = .ok (.iconst (-1), 1) := by decide +kernel
theorem d139_31 : decode prog_12_method_11_code 31 = .ok (.ireturn, 1) := by decide +kernel
theorem d140_0 : decode prog_12_method_8_code 0 = .ok (.aload_n 0, 1) := by decide +kernel
theorem d140_1 : decode prog_12_method_8_code 1 = .ok (.getfield 7, 3) := by decide +kernel
theorem d140_4 : decode prog_12_method_8_code 4 = .ok (.bipush 42, 2) := by decide +kernel
theorem d140_6 : decode prog_12_method_8_code 6 = .ok (.bipush 8, 2) := by decide +kernel
theorem d140_8 : decode prog_12_method_8_code 8 = .ok (.iload_n 1, 1) := by decide +kernel
theorem d140_9 : decode prog_12_method_8_code 9 = .ok (.imul, 1) := by decide +kernel
theorem d140_10 : decode prog_12_method_8_code 10 = .ok (.iadd, 1) := by decide +kernel
theorem d140_11 : decode prog_12_method_8_code 11 = .ok (.iload_n 2, 1) := by decide +kernel
theorem d140_12 : decode prog_12_method_8_code 12 = .ok (.iadd, 1) := by decide +kernel
theorem d140_13 : decode prog_12_method_8_code 13 = .ok (.iaload, 1) := by decide +kernel
theorem d140_14 : decode prog_12_method_8_code 14 = .ok (.ireturn, 1) := by decide +kernel
theorem d141_0 : decode prog_12_method_18_code 0 = .ok (.aload_n 0, 1) := by decide +kernel
theorem d141_1 : decode prog_12_method_18_code 1 = .ok (.getfield 7, 3) := by decide +kernel
theorem d141_4 : decode prog_12_method_18_code 4 = .ok (.iconst 0, 1) := by decide +kernel
theorem d141_5 : decode prog_12_method_18_code 5 = .ok (.dup2, 1) := by decide +kernel
theorem d141_6 : decode prog_12_method_18_code 6 = .ok (.iaload, 1) := by decide +kernel
theorem d141_7 : decode prog_12_method_18_code 7 = .ok (.iconst 1, 1) := by decide +kernel
theorem d141_8 : decode prog_12_method_18_code 8 = .ok (.isub, 1) := by decide +kernel
theorem d141_9 : decode prog_12_method_18_code 9 = .ok (.iastore, 1) := by decide +kernel
theorem d141_10 : decode prog_12_method_18_code 10 = .ok (.bipush 42, 2) := by decide +kernel
theorem d141_12 : decode prog_12_method_18_code 12 = .ok (.bipush 8, 2) := by decide +kernel
theorem d141_14 : decode prog_12_method_18_code 14 = .ok (.iload_n 1, 1) := by decide +kernel
theorem d141_15 : decode prog_12_method_18_code 15 = .ok (.imul, 1) := by decide +kernel
theorem d141_16 : decode prog_12_method_18_code 16 = .ok (.iadd, 1) := by decide +kernel
theorem d141_17 : decode prog_12_method_18_code 17 = .ok (.istore_n 2, 1) := by decide +kernel
theorem d141_18 : decode prog_12_method_18_code 18 = .ok (.iload_n 2, 1) := by decide +kernel
theorem d141_19 : decode prog_12_method_18_code 19 = .ok (.bipush 42, 2) := by decide +kernel
theorem d141_21 : decode prog_12_method_18_code 21 = .ok (.bipush 8, 2) := by decide +kernel
theorem d141_23 : decode prog_12_method_18_code 23 = .ok (.aload_n 0, 1) := by decide +kernel
theorem d141_24 : decode prog_12_method_18_code 24 = .ok (.getfield 7, 3) := by decide +kernel
theorem d141_27 : decode prog_12_method_18_code 27 = .ok (.iconst 0, 1) := by decide +kernel
theorem d141_28 : decode prog_12_method_18_code 28 = .ok (.iaload, 1) := by decide +kernel
theorem d141_29 : decode prog_12_method_18_code 29 = .ok (.imul, 1) := by decide +kernel
theorem d141_30 : decode prog_12_method_18_code 30 = .ok (.iadd, 1) := by decide +kernel
theorem d141_31 : decode prog_12_method_18_code 31 = .ok (.if_icmp .ge 24, 3) := by decide +kernel
theorem d141_34 : decode prog_12_method_18_code 34 = .ok (.aload_n 0, 1) := by decide +kernel
theorem d141_35 : decode prog_12_method_18_code 35 = .ok (.getfield 7, 3) := by decide +kernel
theorem d141_38 : decode prog_12_method_18_code 38 = .ok (.iload_n 2, 1) := by decide +kernel
theorem d141_39 : decode prog_12_method_18_code 39 = .ok (.aload_n 0, 1) := by decide +kernel
theorem d141_40 : decode prog_12_method_18_code 40 = .ok (.getfield 7, 3) := by decide +kernel
theorem d141_43 : decode prog_12_method_18_code 43 = .ok (.iload_n 2, 1) := by decide +kernel
theorem d141_44 : decode prog_12_method_18_code 44 = .ok (.bipush 8, 2) := by decide +kernel
theorem d141_46 : decode prog_12_method_18_code 46 = .ok (.iadd, 1) := by decide +kernel
theorem d141_47 : decode prog_12_method_18_code 47 = .ok (.iaload, 1) := by decide +kernel
theorem d141_48 : decode prog_12_method_18_code 48 = .ok (.iastore, 1) := by decide +kernel
theorem d141_49 : decode prog_12_method_18_code 49 = .ok (.iinc 2 1, 3) := by decide +kernel
theorem d141_52 : decode prog_12_method_18_code 52 = .ok (.goto (-34), 3) := by decide +kernel
theorem d141_55 : decode prog_12_method_18_code 55 = .ok (.iconst 0, 1) := by decide +kernel
theorem d141_56 : decode prog_12_method_18_code 56 = .ok (.istore_n 2, 1) := by decide +kernel
theorem d141_57 : decode prog_12_method_18_code 57 = .ok (.iload_n 2, 1) := by decide +kernel
theorem d141_58 : decode prog_12_method_18_code 58 = .ok (.bipush 8, 2) := by decide +kernel
theorem d141_60 : decode prog_12_method_18_code 60 = .ok (.if_icmp .ge 29, 3) := by decide +kernel
theorem d141_63 : decode prog_12_method_18_code 63 = .ok (.aload_n 0, 1) := by decide +kernel
theorem d141_64 : decode prog_12_method_18_code 64 = .ok (.getfield 7, 3) := by decide +kernel
theorem d141_67 : decode prog_12_method_18_code 67 = .ok (.bipush 42, 2) := by decide +kernel
theorem d141_69 : decode prog_12_method_18_code 69 = .ok (.bipush 8, 2) := by decide +kernel
theorem d141_71 : decode prog_12_method_18_code 71 = .ok (.aload_n 0, 1) := by decide +kernel
theorem d141_72 : decode prog_12_method_18_code 72 = .ok (.getfield 7, 3) := by decide +kernel
theorem d141_75 : decode prog_12_method_18_code 75 = .ok (.iconst 0, 1) := by decide +kernel
theorem d141_76 : decode prog_12_method_18_code 76 = .ok (.iaload, 1) := by decide +kernel
theorem d141_77 : decode prog_12_method_18_code 77 = .ok (.imul, 1) := by decide +kernel
theorem d141_78 : decode prog_12_method_18_code 78 = .ok (.iadd, 1) := by decide +kernel
theorem d141_79 : decode prog_12_method_18_code 79 = .ok (.iload_n 2, 1) := by decide +kernel
theorem d141_80 : decode prog_12_method_18_code 80 = .ok (.iadd, 1) := by decide +kernel
theorem d141_81 : decode prog_12_method_18_code 81 = .ok (.iconst 0, 1) := by decide +kernel
theorem d141_82 : decode prog_12_method_18_code 82 = .ok (.iastore, 1) := by decide +kernel
theorem d141_83 : decode prog_12_method_18_code 83 = .ok (.iinc 2 1, 3) := by decide +kernel
theorem d141_86 : decode prog_12_method_18_code 86 = .ok (.goto (-29), 3) := by decide +kernel
theorem d141_89 : decode prog_12_method_18_code 89 = .ok (.aload_n 0, 1) := by decide +kernel
theorem d141_90 : decode prog_12_method_18_code 90 = .ok (.getfield 7, 3) := by decide +kernel
theorem d141_93 : decode prog_12_method_18_code 93 = .ok (.iconst 0, 1) := by decide +kernel
theorem d141_94 : decode prog_12_method_18_code 94 = .ok (.iaload, 1) := by decide +kernel
theorem d141_95 : decode prog_12_method_18_code 95 = .ok (.ireturn, 1) := by decide +kernel
theorem d142_0 : decode prog_12_method_23_code 0 = .ok (.aload_n 0, 1) := by decide +kernel
theorem d142_1 : decode prog_12_method_23_code 1 = .ok (.invokevirtual 100, 3) := by decide +kernel
theorem d142_4 : decode prog_12_method_23_code 4 = .ok (.aload_n 0, 1) := by decide +kernel
theorem d142_5 : decode prog_12_method_23_code 5 = .ok (.iload_n 1, 1) := by decide +kernel
theorem d142_6 : decode prog_12_method_23_code 6 = .ok (.iload_n 2, 1) := by decide +kernel
theorem d142_7 : decode prog_12_method_23_code 7 = .ok (.invokevirtual 129, 3) := by decide +kernel
theorem d142_10 : decode prog_12_method_23_code 10 = .ok (.istore_n 3, 1) := by decide +kernel
theorem d142_11 : decode prog_12_method_23_code 11 = .ok (.iload_n 3, 1) := by decide +kernel
theorem d142_12 : decode prog_12_method_23_code 12 = .ok (.ifCond .le 11, 3) := by decide +kernel
theorem d142_15 : decode prog_12_method_23_code 15 = .ok (.aload_n 0, 1) := by decide +kernel
theorem d142_16 : decode prog_12_method_23_code 16 = .ok (.iload_n 3, 1) := by decide +kernel
theorem d142_17 : decode prog_12_method_23_code 17 = .ok (.invokevirtual 107, 3) := by decide +kernel
theorem d142_20 : decode prog_12_method_23_code 20 = .ok (.goto 13, 3) := by decide +kernel
theorem d142_23 : decode prog_12_method_23_code 23 = .ok (.aload_n 0, 1) := by decide +kernel
theorem d142_24 : decode prog_12_method_23_code 24 = .ok (.aload_n 0, 1) := by decide +kernel
theorem d142_25 : decode prog_12_method_23_code 25 = .ok (.iload_n 1, 1) := by decide +kernel
theorem d142_26 : decode prog_12_method_23_code 26 = .ok (.iload_n 2, 1) := by decide +kernel
theorem d142_27 : decode prog_12_method_23_code 27 = .ok (.invokevirtual 132, 3) := by decide +kernel
theorem d142_30 : decode prog_12_method_23_code 30 = .ok (.invokevirtual 114, 3) := by decide +kernel
theorem d142_33 : decode prog_12_method_23_code 33 = .ok (.ireturn, 1) := by decide +kernel
theorem d143_0 : decode prog_12_method_21_code 0 = .ok (.aload_n 0, 1) := by decide +kernel
theorem d143_1 : decode prog_12_method_21_code 1 = .ok (.iload_n 1, 1) := by decide +kernel
theorem d143_2 : decode prog_12_method_21_code 2 = .ok (.invokevirtual 117, 3) := by decide +kernel
theorem d143_5 : decode prog_12_method_21_code 5 = .ok (.ifCond .ge 5, 3) := by decide +kernel
theorem d143_8 : decode prog_12_method_21_code 8 = .ok (.iconst 1, 1) := by decide +kernel
theorem d143_9 : decode prog_12_method_21_code 9 = .ok (.ireturn, 1) := by decide +kernel
theorem d143_10 : decode prog_12_method_21_code 10 = .ok (.iload_n 2, 1) := by decide +kernel
theorem d143_11 : decode prog_12_method_21_code 11 = .ok (.invokestatic 123, 3) := by decide +kernel
theorem d143_14 : decode prog_12_method_21_code 14 = .ok (.ifCond .ne 5, 3) := by decide +kernel
theorem d143_17 : decode prog_12_method_21_code 17 = .ok (.iconst 2, 1) := by decide +kernel
theorem d143_18 : decode prog_12_method_21_code 18 = .ok (.ireturn, 1) := by decide +kernel
theorem d143_19 : decode prog_12_method_21_code 19 = .ok (.aload_n 0, 1) := by decide +kernel
theorem d143_20 : decode prog_12_method_21_code 20 = .ok (.aload_n 0, 1) := by decide +kernel
theorem d143_21 : decode prog_12_method_21_code 21 = .ok (.iload_n 1, 1) := by decide +kernel
theorem d143_22 : decode prog_12_method_21_code 22 = .ok (.invokevirtual 117, 3) := by decide +kernel
theorem d143_25 : decode prog_12_method_21_code 25 = .ok (.bipush 7, 2) := by decide +kernel
theorem d143_27 : decode prog_12_method_21_code 27 = .ok (.invokevirtual 85, 3) := by decide +kernel
theorem d143_30 : decode prog_12_method_21_code 30 = .ok (.iload_n 2, 1) := by decide +kernel
theorem d143_31 : decode prog_12_method_21_code 31 = .ok (.iconst 1, 1) := by decide +kernel
theorem d143_32 : decode prog_12_method_21_code 32 = .ok (.iadd, 1) := by decide +kernel
theorem d143_33 : decode prog_12_method_21_code 33 = .ok (.if_icmp .eq 13, 3) := by decide +kernel
theorem d143_36 : decode prog_12_method_21_code 36 = .ok (.aload_n 0, 1) := by decide +kernel
theorem d143_37 : decode prog_12_method_21_code 37 = .ok (.iload_n 2, 1) := by decide +kernel
theorem d143_38 : decode prog_12_method_21_code 38 = .ok (.invokevirtual 126, 3) := by decide +kernel
theorem d143_41 : decode prog_12_method_21_code 41 = .ok (.bipush 6, 2) := by decide +kernel
theorem d143_43 : decode prog_12_method_21_code 43 = .ok (.if_icmp .ne 7, 3) := by decide +kernel
theorem d143_46 : decode prog_12_method_21_code 46 = .ok (.iconst 3, 1) := by decide +kernel
theorem d143_47 : decode prog_12_method_21_code 47 = .ok (.goto 4, 3) := by decide +kernel
theorem d143_50 : decode prog_12_method_21_code 50 = .ok (.iconst 0, 1) := by decide +kernel
theorem d143_51 : decode prog_12_method_21_code 51 = .ok (.ireturn, 1) := by decide +kernel
theorem d144_0 : decode prog_12_method_12_code 0 = .ok (.iload_n 0, 1) := by decide +kernel
theorem d144_1 : decode prog_12_method_12_code 1 = .ok (.iconst 0, 1) := by decide +kernel
theorem d144_2 : decode prog_12_method_12_code 2 = .ok (.iconst 2, 1) := by decide +kernel
theorem d144_3 : decode prog_12_method_12_code 3 = .ok (.invokestatic 89, 3) := by decide +kernel
theorem d144_6 : decode prog_12_method_12_code 6 = .ok (.ireturn, 1) := by decide +kernel
theorem d145_0 : decode prog_12_method_20_code 0 = .ok (.iconst 0, 1) := by decide +kernel
theorem d145_1 : decode prog_12_method_20_code 1 = .ok (.istore_n 2, 1) := by decide +kernel
theorem d145_2 : decode prog_12_method_20_code 2 = .ok (.iconst 0, 1) := by decide +kernel
theorem d145_3 : decode prog_12_method_20_code 3 = .ok (.istore_n 3, 1) := by decide +kernel
theorem d145_4 : decode prog_12_method_20_code 4 = .ok (.iload_n 3, 1) := by decide +kernel
theorem d145_5 : decode prog_12_method_20_code 5 = .ok (.aload_n 0, 1) := by decide +kernel
theorem d145_6 : decode prog_12_method_20_code 6 = .ok (.getfield 7, 3) := by decide +kernel
theorem d145_9 : decode prog_12_method_20_code 9 = .ok (.iconst 0, 1) := by decide +kernel
theorem d145_10 : decode prog_12_method_20_code 10 = .ok (.iaload, 1) := by decide +kernel
theorem d145_11 : decode prog_12_method_20_code 11 = .ok (.if_icmp .ge 30, 3) := by decide +kernel
theorem d145_14 : decode prog_12_method_20_code 14 = .ok (.iload_n 2, 1) := by decide +kernel
theorem d145_15 : decode prog_12_method_20_code 15 = .ok (.aload_n 0, 1) := by decide +kernel
theorem d145_16 : decode prog_12_method_20_code 16 = .ok (.iload_n 3, 1) := by decide +kernel
theorem d145_17 : decode prog_12_method_20_code 17 = .ok (.bipush 7, 2) := by decide +kernel
theorem d145_19 : decode prog_12_method_20_code 19 = .ok (.invokevirtual 85, 3) := by decide +kernel
theorem d145_22 : decode prog_12_method_20_code 22 = .ok (.iload_n 1, 1) := by decide +kernel
theorem d145_23 : decode prog_12_method_20_code 23 = .ok (.iconst 1, 1) := by decide +kernel
theorem d145_24 : decode prog_12_method_20_code 24 = .ok (.iadd, 1) := by decide +kernel
theorem d145_25 : decode prog_12_method_20_code 25 = .ok (.if_icmp .ne 7, 3) := by decide +kernel
theorem d145_28 : decode prog_12_method_20_code 28 = .ok (.iconst 1, 1) := by decide +kernel
theorem d145_29 : decode prog_12_method_20_code 29 = .ok (.goto 4, 3) := by decide +kernel
theorem d145_32 : decode prog_12_method_20_code 32 = .ok (.iconst 0, 1) := by decide +kernel
theorem d145_33 : decode prog_12_method_20_code 33 = .ok (.iadd, 1) := by decide +kernel
theorem d145_34 : decode prog_12_method_20_code 34 = .ok (.istore_n 2, 1) := by decide +kernel
theorem d145_35 : decode prog_12_method_20_code 35 = .ok (.iinc 3 1, 3) := by decide +kernel
theorem d145_38 : decode prog_12_method_20_code 38 = .ok (.goto (-34), 3) := by decide +kernel
theorem d145_41 : decode prog_12_method_20_code 41 = .ok (.iload_n 2, 1) := by decide +kernel
theorem d145_42 : decode prog_12_method_20_code 42 = .ok (.ireturn, 1) := by decide +kernel
theorem d146_0 : decode prog_12_method_22_code 0 = .ok (.aload_n 0, 1) := by decide +kernel
theorem d146_1 : decode prog_12_method_22_code 1 = .ok (.getfield 7, 3) := by decide +kernel
theorem d146_4 : decode prog_12_method_22_code 4 = .ok (.bipush 42, 2) := by decide +kernel
theorem d146_6 : decode prog_12_method_22_code 6 = .ok (.bipush 8, 2) := by decide +kernel
theorem d146_8 : decode prog_12_method_22_code 8 = .ok (.aload_n 0, 1) := by decide +kernel
theorem d146_9 : decode prog_12_method_22_code 9 = .ok (.iload_n 1, 1) := by decide +kernel
theorem d146_10 : decode prog_12_method_22_code 10 = .ok (.invokevirtual 117, 3) := by decide +kernel
theorem d146_13 : decode prog_12_method_22_code 13 = .ok (.imul, 1) := by decide +kernel
theorem d146_14 : decode prog_12_method_22_code 14 = .ok (.iadd, 1) := by decide +kernel
theorem d146_15 : decode prog_12_method_22_code 15 = .ok (.bipush 7, 2) := by decide +kernel
theorem d146_17 : decode prog_12_method_22_code 17 = .ok (.iadd, 1) := by decide +kernel
theorem d146_18 : decode prog_12_method_22_code 18 = .ok (.iload_n 2, 1) := by decide +kernel
theorem d146_19 : decode prog_12_method_22_code 19 = .ok (.iconst 1, 1) := by decide +kernel
theorem d146_20 : decode prog_12_method_22_code 20 = .ok (.iadd, 1) := by decide +kernel
theorem d146_21 : decode prog_12_method_22_code 21 = .ok (.iastore, 1) := by decide +kernel
theorem d146_22 : decode prog_12_method_22_code 22 = .ok (.aload_n 0, 1) := by decide +kernel
theorem d146_23 : decode prog_12_method_22_code 23 = .ok (.iload_n 2, 1) := by decide +kernel
theorem d146_24 : decode prog_12_method_22_code 24 = .ok (.invokevirtual 126, 3) := by decide +kernel
theorem d146_27 : decode prog_12_method_22_code 27 = .ok (.ireturn, 1) := by decide +kernel
theorem d147_0 : decode prog_12_method_26_code 0 = .ok (.aload_n 0, 1) := by decide +kernel
theorem d147_1 : decode prog_12_method_26_code 1 = .ok (.invokevirtual 100, 3) := by decide +kernel
theorem d147_4 : decode prog_12_method_26_code 4 = .ok (.aload_n 0, 1) := by decide +kernel
theorem d147_5 : decode prog_12_method_26_code 5 = .ok (.iload_n 1, 1) := by decide +kernel
theorem d147_6 : decode prog_12_method_26_code 6 = .ok (.invokevirtual 135, 3) := by decide +kernel
theorem d147_9 : decode prog_12_method_26_code 9 = .ok (.istore_n 2, 1) := by decide +kernel
theorem d147_10 : decode prog_12_method_26_code 10 = .ok (.iload_n 2, 1) := by decide +kernel
theorem d147_11 : decode prog_12_method_26_code 11 = .ok (.ifCond .le 11, 3) := by decide +kernel
theorem d147_14 : decode prog_12_method_26_code 14 = .ok (.aload_n 0, 1) := by decide +kernel
theorem d147_15 : decode prog_12_method_26_code 15 = .ok (.iload_n 2, 1) := by decide +kernel
theorem d147_16 : decode prog_12_method_26_code 16 = .ok (.invokevirtual 107, 3) := by decide +kernel
theorem d147_19 : decode prog_12_method_26_code 19 = .ok (.goto 12, 3) := by decide +kernel
theorem d147_22 : decode prog_12_method_26_code 22 = .ok (.aload_n 0, 1) := by decide +kernel
theorem d147_23 : decode prog_12_method_26_code 23 = .ok (.aload_n 0, 1) := by decide +kernel
theorem d147_24 : decode prog_12_method_26_code 24 = .ok (.iload_n 1, 1) := by decide +kernel
theorem d147_25 : decode prog_12_method_26_code 25 = .ok (.invokevirtual 138, 3) := by decide +kernel
theorem d147_28 : decode prog_12_method_26_code 28 = .ok (.invokevirtual 114, 3) := by decide +kernel
theorem d147_31 : decode prog_12_method_26_code 31 = .ok (.ireturn, 1) := by decide +kernel
theorem d148_0 : decode prog_12_method_24_code 0 = .ok (.aload_n 0, 1) := by decide +kernel
theorem d148_1 : decode prog_12_method_24_code 1 = .ok (.iload_n 1, 1) := by decide +kernel
theorem d148_2 : decode prog_12_method_24_code 2 = .ok (.invokevirtual 117, 3) := by decide +kernel
theorem d148_5 : decode prog_12_method_24_code 5 = .ok (.ifCond .ge 7, 3) := by decide +kernel
theorem d148_8 : decode prog_12_method_24_code 8 = .ok (.iconst 1, 1) := by decide +kernel
theorem d148_9 : decode prog_12_method_24_code 9 = .ok (.goto 22, 3) := by decide +kernel
theorem d148_12 : decode prog_12_method_24_code 12 = .ok (.aload_n 0, 1) := by decide +kernel
theorem d148_13 : decode prog_12_method_24_code 13 = .ok (.aload_n 0, 1) := by decide +kernel
theorem d148_14 : decode prog_12_method_24_code 14 = .ok (.iload_n 1, 1) := by decide +kernel
theorem d148_15 : decode prog_12_method_24_code 15 = .ok (.invokevirtual 117, 3) := by decide +kernel
theorem d148_18 : decode prog_12_method_24_code 18 = .ok (.bipush 7, 2) := by decide +kernel
theorem d148_20 : decode prog_12_method_24_code 20 = .ok (.invokevirtual 85, 3) := by decide +kernel
theorem d148_23 : decode prog_12_method_24_code 23 = .ok (.ifCond .ne 7, 3) := by decide +kernel
theorem d148_26 : decode prog_12_method_24_code 26 = .ok (.iconst 2, 1) := by decide +kernel
theorem d148_27 : decode prog_12_method_24_code 27 = .ok (.goto 4, 3) := by decide +kernel
theorem d148_30 : decode prog_12_method_24_code 30 = .ok (.iconst 0, 1) := by decide +kernel
theorem d148_31 : decode prog_12_method_24_code 31 = .ok (.ireturn, 1) := by decide +kernel
theorem d149_0 : decode prog_12_method_25_code 0 = .ok (.aload_n 0, 1) := by decide +kernel
theorem d149_1 : decode prog_12_method_25_code 1 = .ok (.aload_n 0, 1) := by decide +kernel
theorem d149_2 : decode prog_12_method_25_code 2 = .ok (.iload_n 1, 1) := by decide +kernel
theorem d149_3 : decode prog_12_method_25_code 3 = .ok (.invokevirtual 117, 3) := by decide +kernel
theorem d149_6 : decode prog_12_method_25_code 6 = .ok (.bipush 7, 2) := by decide +kernel
theorem d149_8 : decode prog_12_method_25_code 8 = .ok (.invokevirtual 85, 3) := by decide +kernel
theorem d149_11 : decode prog_12_method_25_code 11 = .ok (.iconst 1, 1) := by decide +kernel
theorem d149_12 : decode prog_12_method_25_code 12 = .ok (.isub, 1) := by decide +kernel
theorem d149_13 : decode prog_12_method_25_code 13 = .ok (.istore_n 2, 1) := by decide +kernel
theorem d149_14 : decode prog_12_method_25_code 14 = .ok (.aload_n 0, 1) := by decide +kernel
theorem d149_15 : decode prog_12_method_25_code 15 = .ok (.getfield 7, 3) := by decide +kernel
theorem d149_18 : decode prog_12_method_25_code 18 = .ok (.bipush 42, 2) := by decide +kernel
theorem d149_20 : decode prog_12_method_25_code 20 = .ok (.bipush 8, 2) := by decide +kernel
theorem d149_22 : decode prog_12_method_25_code 22 = .ok (.aload_n 0, 1) := by decide +kernel
theorem d149_23 : decode prog_12_method_25_code 23 = .ok (.iload_n 1, 1) := by decide +kernel
theorem d149_24 : decode prog_12_method_25_code 24 = .ok (.invokevirtual 117, 3) := by decide +kernel
theorem d149_27 : decode prog_12_method_25_code 27 = .ok (.imul, 1) := by decide +kernel
theorem d149_28 : decode prog_12_method_25_code 28 = .ok (.iadd, 1) := by decide +kernel
theorem d149_29 : decode prog_12_method_25_code 29 = .ok (.bipush 7, 2) := by decide +kernel
theorem d149_31 : decode prog_12_method_25_code 31 = .ok (.iadd, 1) := by decide +kernel
theorem d149_32 : decode prog_12_method_25_code 32 = .ok (.iconst 0, 1) := by decide +kernel
theorem d149_33 : decode prog_12_method_25_code 33 = .ok (.iastore, 1) := by decide +kernel
theorem d149_34 : decode prog_12_method_25_code 34 = .ok (.iload_n 2, 1) := by decide +kernel
theorem d149_35 : decode prog_12_method_25_code 35 = .ok (.ireturn, 1) := by decide +kernel
theorem d150_0 : decode prog_12_method_29_code 0 = .ok (.aload_n 0, 1) := by decide +kernel
theorem d150_1 : decode prog_12_method_29_code 1 = .ok (.invokevirtual 100, 3) := by decide +kernel
theorem d150_4 : decode prog_12_method_29_code 4 = .ok (.aload_n 0, 1) := by decide +kernel
theorem d150_5 : decode prog_12_method_29_code 5 = .ok (.iload_n 1, 1) := by decide +kernel
theorem d150_6 : decode prog_12_method_29_code 6 = .ok (.iload_n 2, 1) := by decide +kernel
theorem d150_7 : decode prog_12_method_29_code 7 = .ok (.invokevirtual 141, 3) := by decide +kernel
theorem d150_10 : decode prog_12_method_29_code 10 = .ok (.istore_n 3, 1) := by decide +kernel
theorem d150_11 : decode prog_12_method_29_code 11 = .ok (.iload_n 3, 1) := by decide +kernel
theorem d150_12 : decode prog_12_method_29_code 12 = .ok (.ifCond .le 11, 3) := by decide +kernel
theorem d150_15 : decode prog_12_method_29_code 15 = .ok (.aload_n 0, 1) := by decide +kernel
theorem d150_16 : decode prog_12_method_29_code 16 = .ok (.iload_n 3, 1) := by decide +kernel
theorem d150_17 : decode prog_12_method_29_code 17 = .ok (.invokevirtual 107, 3) := by decide +kernel
theorem d150_20 : decode prog_12_method_29_code 20 = .ok (.goto 13, 3) := by decide +kernel
theorem d150_23 : decode prog_12_method_29_code 23 = .ok (.aload_n 0, 1) := by decide +kernel
theorem d150_24 : decode prog_12_method_29_code 24 = .ok (.aload_n 0, 1) := by decide +kernel
theorem d150_25 : decode prog_12_method_29_code 25 = .ok (.iload_n 1, 1) := by decide +kernel
theorem d150_26 : decode prog_12_method_29_code 26 = .ok (.iload_n 2, 1) := by decide +kernel
theorem d150_27 : decode prog_12_method_29_code 27 = .ok (.invokevirtual 144, 3) := by decide +kernel
theorem d150_30 : decode prog_12_method_29_code 30 = .ok (.invokevirtual 114, 3) := by decide +kernel
theorem d150_33 : decode prog_12_method_29_code 33 = .ok (.ireturn, 1) := by decide +kernel
theorem d151_0 : decode prog_12_method_27_code 0 = .ok (.iload_n 1, 1) := by decide +kernel
theorem d151_1 : decode prog_12_method_27_code 1 = .ok (.invokestatic 93, 3) := by decide +kernel
theorem d151_4 : decode prog_12_method_27_code 4 = .ok (.ifCond .eq 13, 3) := by decide +kernel
theorem d151_7 : decode prog_12_method_27_code 7 = .ok (.iload_n 2, 1) := by decide +kernel
theorem d151_8 : decode prog_12_method_27_code 8 = .ok (.iconst 1, 1) := by decide +kernel
theorem d151_9 : decode prog_12_method_27_code 9 = .ok (.bipush 99, 2) := by decide +kernel
theorem d151_11 : decode prog_12_method_27_code 11 = .ok (.invokestatic 89, 3) := by decide +kernel
theorem d151_14 : decode prog_12_method_27_code 14 = .ok (.ifCond .ne 7, 3) := by decide +kernel
theorem d151_17 : decode prog_12_method_27_code 17 = .ok (.iconst 1, 1) := by decide +kernel
theorem d151_18 : decode prog_12_method_27_code 18 = .ok (.goto 27, 3) := by decide +kernel
theorem d151_21 : decode prog_12_method_27_code 21 = .ok (.aload_n 0, 1) := by decide +kernel
theorem d151_22 : decode prog_12_method_27_code 22 = .ok (.getfield 7, 3) := by decide +kernel
theorem d151_25 : decode prog_12_method_27_code 25 = .ok (.bipush 8, 2) := by decide +kernel
theorem d151_27 : decode prog_12_method_27_code 27 = .ok (.iload_n 1, 1) := by decide +kernel
theorem d151_28 : decode prog_12_method_27_code 28 = .ok (.iadd, 1) := by decide +kernel
theorem d151_29 : decode prog_12_method_27_code 29 = .ok (.bipush 97, 2) := by decide +kernel
theorem d151_31 : decode prog_12_method_27_code 31 = .ok (.isub, 1) := by decide +kernel
theorem d151_32 : decode prog_12_method_27_code 32 = .ok (.iaload, 1) := by decide +kernel
theorem d151_33 : decode prog_12_method_27_code 33 = .ok (.iload_n 2, 1) := by decide +kernel
theorem d151_34 : decode prog_12_method_27_code 34 = .ok (.iadd, 1) := by decide +kernel
theorem d151_35 : decode prog_12_method_27_code 35 = .ok (.bipush 99, 2) := by decide +kernel
theorem d151_37 : decode prog_12_method_27_code 37 = .ok (.if_icmp .le 7, 3) := by decide +kernel
theorem d151_40 : decode prog_12_method_27_code 40 = .ok (.iconst 2, 1) := by decide +kernel
theorem d151_41 : decode prog_12_method_27_code 41 = .ok (.goto 4, 3) := by decide +kernel
theorem d151_44 : decode prog_12_method_27_code 44 = .ok (.iconst 0, 1) := by decide +kernel
theorem d151_45 : decode prog_12_method_27_code 45 = .ok (.ireturn, 1) := by decide +kernel
theorem d152_0 : decode prog_12_method_28_code 0 = .ok (.aload_n 0, 1) := by decide +kernel
theorem d152_1 : decode prog_12_method_28_code 1 = .ok (.getfield 7, 3) := by decide +kernel
theorem d152_4 : decode prog_12_method_28_code 4 = .ok (.bipush 8, 2) := by decide +kernel
theorem d152_6 : decode prog_12_method_28_code 6 = .ok (.iload_n 1, 1) := by decide +kernel
theorem d152_7 : decode prog_12_method_28_code 7 = .ok (.iadd, 1) := by decide +kernel
theorem d152_8 : decode prog_12_method_28_code 8 = .ok (.bipush 97, 2) := by decide +kernel
theorem d152_10 : decode prog_12_method_28_code 10 = .ok (.isub, 1) := by decide +kernel
theorem d152_11 : decode prog_12_method_28_code 11 = .ok (.dup2, 1) := by decide +kernel
theorem d152_12 : decode prog_12_method_28_code 12 = .ok (.iaload, 1) := by decide +kernel
theorem d152_13 : decode prog_12_method_28_code 13 = .ok (.iload_n 2, 1) := by decide +kernel
theorem d152_14 : decode prog_12_method_28_code 14 = .ok (.iadd, 1) := by decide +kernel
theorem d152_15 : decode prog_12_method_28_code 15 = .ok (.iastore, 1) := by decide +kernel
theorem d152_16 : decode prog_12_method_28_code 16 = .ok (.aload_n 0, 1) := by decide +kernel
theorem d152_17 : decode prog_12_method_28_code 17 = .ok (.getfield 7, 3) := by decide +kernel
theorem d152_20 : decode prog_12_method_28_code 20 = .ok (.bipush 8, 2) := by decide +kernel
theorem d152_22 : decode prog_12_method_28_code 22 = .ok (.iload_n 1, 1) := by decide +kernel
theorem d152_23 : decode prog_12_method_28_code 23 = .ok (.iadd, 1) := by decide +kernel
theorem d152_24 : decode prog_12_method_28_code 24 = .ok (.bipush 97, 2) := by decide +kernel
theorem d152_26 : decode prog_12_method_28_code 26 = .ok (.isub, 1) := by decide +kernel
theorem d152_27 : decode prog_12_method_28_code 27 = .ok (.iaload, 1) := by decide +kernel
theorem d152_28 : decode prog_12_method_28_code 28 = .ok (.ireturn, 1) := by decide +kernel
theorem d153_0 : decode prog_12_method_34_code 0 = .ok (.aload_n 0, 1) := by decide +kernel
theorem d153_1 : decode prog_12_method_34_code 1 = .ok (.invokevirtual 100, 3) := by decide +kernel
theorem d153_4 : decode prog_12_method_34_code 4 = .ok (.aload_n 0, 1) := by decide +kernel
theorem d153_5 : decode prog_12_method_34_code 5 = .ok (.iload_n 1, 1) := by decide +kernel
theorem d153_6 : decode prog_12_method_34_code 6 = .ok (.iload_n 2, 1) := by decide +kernel
theorem d153_7 : decode prog_12_method_34_code 7 = .ok (.iload_n 3, 1) := by decide +kernel
theorem d153_8 : decode prog_12_method_34_code 8 = .ok (.invokevirtual 160, 3) := by decide +kernel
theorem d153_11 : decode prog_12_method_34_code 11 = .ok (.istore 4, 2) := by decide +kernel
theorem d153_13 : decode prog_12_method_34_code 13 = .ok (.iload 4, 2) := by decide +kernel
theorem d153_15 : decode prog_12_method_34_code 15 = .ok (.ifCond .le 12, 3) := by decide +kernel
theorem d153_18 : decode prog_12_method_34_code 18 = .ok (.aload_n 0, 1) := by decide +kernel
theorem d153_19 : decode prog_12_method_34_code 19 = .ok (.iload 4, 2) := by decide +kernel
theorem d153_21 : decode prog_12_method_34_code 21 = .ok (.invokevirtual 107, 3) := by decide +kernel
theorem d153_24 : decode prog_12_method_34_code 24 = .ok (.goto 14, 3) := by decide +kernel
theorem d153_27 : decode prog_12_method_34_code 27 = .ok (.aload_n 0, 1) := by decide +kernel
theorem d153_28 : decode prog_12_method_34_code 28 = .ok (.aload_n 0, 1) := by decide +kernel
theorem d153_29 : decode prog_12_method_34_code 29 = .ok (.iload_n 1, 1) := by decide +kernel
theorem d153_30 : decode prog_12_method_34_code 30 = .ok (.iload_n 2, 1) := by decide +kernel
theorem d153_31 : decode prog_12_method_34_code 31 = .ok (.iload_n 3, 1) := by decide +kernel
theorem d153_32 : decode prog_12_method_34_code 32 = .ok (.invokevirtual 164, 3) := by decide +kernel
theorem d153_35 : decode prog_12_method_34_code 35 = .ok (.invokevirtual 114, 3) := by decide +kernel
theorem d153_38 : decode prog_12_method_34_code 38 = .ok (.ireturn, 1) := by decide +kernel
theorem d154_0 : decode prog_12_method_32_code 0 = .ok (.iload_n 1, 1) := by decide +kernel
theorem d154_1 : decode prog_12_method_32_code 1 = .ok (.invokestatic 123, 3) := by decide +kernel
theorem d154_4 : decode prog_12_method_32_code 4 = .ok (.ifCond .ne 5, 3) := by decide +kernel
theorem d154_7 : decode prog_12_method_32_code 7 = .ok (.iconst 1, 1) := by decide +kernel
theorem d154_8 : decode prog_12_method_32_code 8 = .ok (.ireturn, 1) := by decide +kernel
theorem d154_9 : decode prog_12_method_32_code 9 = .ok (.iload_n 2, 1) := by decide +kernel
theorem d154_10 : decode prog_12_method_32_code 10 = .ok (.invokestatic 93, 3) := by decide +kernel
theorem d154_13 : decode prog_12_method_32_code 13 = .ok (.ifCond .eq 13, 3) := by decide +kernel
theorem d154_16 : decode prog_12_method_32_code 16 = .ok (.iload_n 3, 1) := by decide +kernel
theorem d154_17 : decode prog_12_method_32_code 17 = .ok (.iconst 1, 1) := by decide +kernel
theorem d154_18 : decode prog_12_method_32_code 18 = .ok (.bipush 10, 2) := by decide +kernel
theorem d154_20 : decode prog_12_method_32_code 20 = .ok (.invokestatic 89, 3) := by decide +kernel
theorem d154_23 : decode prog_12_method_32_code 23 = .ok (.ifCond .ne 5, 3) := by decide +kernel
theorem d154_26 : decode prog_12_method_32_code 26 = .ok (.iconst 2, 1) := by decide +kernel
theorem d154_27 : decode prog_12_method_32_code 27 = .ok (.ireturn, 1) := by decide +kernel
theorem d154_28 : decode prog_12_method_32_code 28 = .ok (.aload_n 0, 1) := by decide +kernel
theorem d154_29 : decode prog_12_method_32_code 29 = .ok (.iload_n 1, 1) := by decide +kernel
theorem d154_30 : decode prog_12_method_32_code 30 = .ok (.invokevirtual 150, 3) := by decide +kernel
theorem d154_33 : decode prog_12_method_32_code 33 = .ok (.ifCond .eq 15, 3) := by decide +kernel
theorem d154_36 : decode prog_12_method_32_code 36 = .ok (.aload_n 0, 1) := by decide +kernel
theorem d154_37 : decode prog_12_method_32_code 37 = .ok (.iload_n 1, 1) := by decide +kernel
theorem d154_38 : decode prog_12_method_32_code 38 = .ok (.invokevirtual 153, 3) := by decide +kernel
theorem d154_41 : decode prog_12_method_32_code 41 = .ok (.iload_n 3, 1) := by decide +kernel
theorem d154_42 : decode prog_12_method_32_code 42 = .ok (.iadd, 1) := by decide +kernel
theorem d154_43 : decode prog_12_method_32_code 43 = .ok (.bipush 10, 2) := by decide +kernel
theorem d154_45 : decode prog_12_method_32_code 45 = .ok (.if_icmp .le 5, 3) := by decide +kernel
theorem d154_48 : decode prog_12_method_32_code 48 = .ok (.iconst 3, 1) := by decide +kernel
theorem d154_49 : decode prog_12_method_32_code 49 = .ok (.ireturn, 1) := by decide +kernel
theorem d154_50 : decode prog_12_method_32_code 50 = .ok (.aload_n 0, 1) := by decide +kernel
theorem d154_51 : decode prog_12_method_32_code 51 = .ok (.getfield 7, 3) := by decide +kernel
theorem d154_54 : decode prog_12_method_32_code 54 = .ok (.bipush 8, 2) := by decide +kernel
theorem d154_56 : decode prog_12_method_32_code 56 = .ok (.iload_n 2, 1) := by decide +kernel
theorem d154_57 : decode prog_12_method_32_code 57 = .ok (.iadd, 1) := by decide +kernel
theorem d154_58 : decode prog_12_method_32_code 58 = .ok (.bipush 97, 2) := by decide +kernel
theorem d154_60 : decode prog_12_method_32_code 60 = .ok (.isub, 1) := by decide +kernel
theorem d154_61 : decode prog_12_method_32_code 61 = .ok (.iaload, 1) := by decide +kernel
theorem d154_62 : decode prog_12_method_32_code 62 = .ok (.iload_n 3, 1) := by decide +kernel
theorem d154_63 : decode prog_12_method_32_code 63 = .ok (.if_icmp .ge 7, 3) := by decide +kernel
theorem d154_66 : decode prog_12_method_32_code 66 = .ok (.iconst 4, 1) := by decide +kernel
theorem d154_67 : decode prog_12_method_32_code 67 = .ok (.goto 4, 3) := by decide +kernel
theorem d154_70 : decode prog_12_method_32_code 70 = .ok (.iconst 0, 1) := by decide +kernel
theorem d154_71 : decode prog_12_method_32_code 71 = .ok (.ireturn, 1) := by decide +kernel
theorem d155_0 : decode prog_12_method_30_code 0 = .ok (.aload_n 0, 1) := by decide +kernel
theorem d155_1 : decode prog_12_method_30_code 1 = .ok (.iload_n 1, 1) := by decide +kernel
theorem d155_2 : decode prog_12_method_30_code 2 = .ok (.iconst 0, 1) := by decide +kernel
theorem d155_3 : decode prog_12_method_30_code 3 = .ok (.invokevirtual 147, 3) := by decide +kernel
theorem d155_6 : decode prog_12_method_30_code 6 = .ok (.ifCond .ne 16, 3) := by decide +kernel
theorem d155_9 : decode prog_12_method_30_code 9 = .ok (.aload_n 0, 1) := by decide +kernel
theorem d155_10 : decode prog_12_method_30_code 10 = .ok (.iload_n 1, 1) := by decide +kernel
theorem d155_11 : decode prog_12_method_30_code 11 = .ok (.iconst 1, 1) := by decide +kernel
theorem d155_12 : decode prog_12_method_30_code 12 = .ok (.invokevirtual 147, 3) := by decide +kernel
theorem d155_15 : decode prog_12_method_30_code 15 = .ok (.ifCond .ne 7, 3) := by decide +kernel
theorem d155_18 : decode prog_12_method_30_code 18 = .ok (.iconst 1, 1) := by decide +kernel
theorem d155_19 : decode prog_12_method_30_code 19 = .ok (.goto 4, 3) := by decide +kernel
theorem d155_22 : decode prog_12_method_30_code 22 = .ok (.iconst 0, 1) := by decide +kernel
theorem d155_23 : decode prog_12_method_30_code 23 = .ok (.ireturn, 1) := by decide +kernel
theorem d156_0 : decode prog_12_method_9_code 0 = .ok (.aload_n 0, 1) := by decide +kernel
theorem d156_1 : decode prog_12_method_9_code 1 = .ok (.getfield 7, 3) := by decide +kernel
theorem d156_4 : decode prog_12_method_9_code 4 = .ok (.bipush 18, 2) := by decide +kernel
theorem d156_6 : decode prog_12_method_9_code 6 = .ok (.bipush 8, 2) := by decide +kernel
theorem d156_8 : decode prog_12_method_9_code 8 = .ok (.iload_n 1, 1) := by decide +kernel
theorem d156_9 : decode prog_12_method_9_code 9 = .ok (.imul, 1) := by decide +kernel
theorem d156_10 : decode prog_12_method_9_code 10 = .ok (.iadd, 1) := by decide +kernel
theorem d156_11 : decode prog_12_method_9_code 11 = .ok (.iload_n 2, 1) := by decide +kernel
theorem d156_12 : decode prog_12_method_9_code 12 = .ok (.iadd, 1) := by decide +kernel
theorem d156_13 : decode prog_12_method_9_code 13 = .ok (.iaload, 1) := by decide +kernel
theorem d156_14 : decode prog_12_method_9_code 14 = .ok (.ireturn, 1) := by decide +kernel
theorem d157_0 : decode prog_12_method_31_code 0 = .ok (.aload_n 0, 1) := by decide +kernel
theorem d157_1 : decode prog_12_method_31_code 1 = .ok (.iload_n 1, 1) := by decide +kernel
theorem d157_2 : decode prog_12_method_31_code 2 = .ok (.iconst 4, 1) := by decide +kernel
theorem d157_3 : decode prog_12_method_31_code 3 = .ok (.invokevirtual 147, 3) := by decide +kernel
theorem d157_6 : decode prog_12_method_31_code 6 = .ok (.aload_n 0, 1) := by decide +kernel
theorem d157_7 : decode prog_12_method_31_code 7 = .ok (.iload_n 1, 1) := by decide +kernel
theorem d157_8 : decode prog_12_method_31_code 8 = .ok (.iconst 5, 1) := by decide +kernel
theorem d157_9 : decode prog_12_method_31_code 9 = .ok (.invokevirtual 147, 3) := by decide +kernel
theorem d157_12 : decode prog_12_method_31_code 12 = .ok (.iadd, 1) := by decide +kernel
theorem d157_13 : decode prog_12_method_31_code 13 = .ok (.aload_n 0, 1) := by decide +kernel
theorem d157_14 : decode prog_12_method_31_code 14 = .ok (.iload_n 1, 1) := by decide +kernel
theorem d157_15 : decode prog_12_method_31_code 15 = .ok (.bipush 6, 2) := by decide +kernel
theorem d157_17 : decode prog_12_method_31_code 17 = .ok (.invokevirtual 147, 3) := by decide +kernel
theorem d157_20 : decode prog_12_method_31_code 20 = .ok (.iadd, 1) := by decide +kernel
theorem d157_21 : decode prog_12_method_31_code 21 = .ok (.aload_n 0, 1) := by decide +kernel
theorem d157_22 : decode prog_12_method_31_code 22 = .ok (.iload_n 1, 1) := by decide +kernel
theorem d157_23 : decode prog_12_method_31_code 23 = .ok (.bipush 7, 2) := by decide +kernel
theorem d157_25 : decode prog_12_method_31_code 25 = .ok (.invokevirtual 147, 3) := by decide +kernel
theorem d157_28 : decode prog_12_method_31_code 28 = .ok (.iadd, 1) := by decide +kernel
theorem d157_29 : decode prog_12_method_31_code 29 = .ok (.ireturn, 1) := by decide +kernel
theorem d158_0 : decode prog_12_method_33_code 0 = .ok (.aload_n 0, 1) := by decide +kernel
theorem d158_1 : decode prog_12_method_33_code 1 = .ok (.getfield 7, 3) := by decide +kernel
theorem d158_4 : decode prog_12_method_33_code 4 = .ok (.bipush 8, 2) := by decide +kernel
theorem d158_6 : decode prog_12_method_33_code 6 = .ok (.iload_n 2, 1) := by decide +kernel
theorem d158_7 : decode prog_12_method_33_code 7 = .ok (.iadd, 1) := by decide +kernel
theorem d158_8 : decode prog_12_method_33_code 8 = .ok (.bipush 97, 2) := by decide +kernel
theorem d158_10 : decode prog_12_method_33_code 10 = .ok (.isub, 1) := by decide +kernel
theorem d158_11 : decode prog_12_method_33_code 11 = .ok (.dup2, 1) := by decide +kernel
theorem d158_12 : decode prog_12_method_33_code 12 = .ok (.iaload, 1) := by decide +kernel
theorem d158_13 : decode prog_12_method_33_code 13 = .ok (.iload_n 3, 1) := by decide +kernel
theorem d158_14 : decode prog_12_method_33_code 14 = .ok (.isub, 1) := by decide +kernel
theorem d158_15 : decode prog_12_method_33_code 15 = .ok (.iastore, 1) := by decide +kernel
theorem d158_16 : decode prog_12_method_33_code 16 = .ok (.aload_n 0, 1) := by decide +kernel
theorem d158_17 : decode prog_12_method_33_code 17 = .ok (.iload_n 1, 1) := by decide +kernel
theorem d158_18 : decode prog_12_method_33_code 18 = .ok (.iconst 4, 1) := by decide +kernel
theorem d158_19 : decode prog_12_method_33_code 19 = .ok (.iload_n 2, 1) := by decide +kernel
theorem d158_20 : decode prog_12_method_33_code 20 = .ok (.iadd, 1) := by decide +kernel
theorem d158_21 : decode prog_12_method_33_code 21 = .ok (.bipush 97, 2) := by decide +kernel
theorem d158_23 : decode prog_12_method_33_code 23 = .ok (.isub, 1) := by decide +kernel
theorem d158_24 : decode prog_12_method_33_code 24 = .ok (.aload_n 0, 1) := by decide +kernel
theorem d158_25 : decode prog_12_method_33_code 25 = .ok (.iload_n 1, 1) := by decide +kernel
theorem d158_26 : decode prog_12_method_33_code 26 = .ok (.iconst 4, 1) := by decide +kernel
theorem d158_27 : decode prog_12_method_33_code 27 = .ok (.iload_n 2, 1) := by decide +kernel
theorem d158_28 : decode prog_12_method_33_code 28 = .ok (.iadd, 1) := by decide +kernel
theorem d158_29 : decode prog_12_method_33_code 29 = .ok (.bipush 97, 2) := by decide +kernel
theorem d158_31 : decode prog_12_method_33_code 31 = .ok (.isub, 1) := by decide +kernel
theorem d158_32 : decode prog_12_method_33_code 32 = .ok (.invokevirtual 147, 3) := by decide +kernel
theorem d158_35 : decode prog_12_method_33_code 35 = .ok (.iload_n 3, 1) := by decide +kernel
theorem d158_36 : decode prog_12_method_33_code 36 = .ok (.iadd, 1) := by decide +kernel
theorem d158_37 : decode prog_12_method_33_code 37 = .ok (.invokevirtual 156, 3) := by decide +kernel
theorem d158_40 : decode prog_12_method_33_code 40 = .ok (.aload_n 0, 1) := by decide +kernel
theorem d158_41 : decode prog_12_method_33_code 41 = .ok (.iload_n 1, 1) := by decide +kernel
theorem d158_42 : decode prog_12_method_33_code 42 = .ok (.invokevirtual 153, 3) := by decide +kernel
theorem d158_45 : decode prog_12_method_33_code 45 = .ok (.ireturn, 1) := by decide +kernel
theorem d159_0 : decode prog_12_method_10_code 0 = .ok (.aload_n 0, 1) := by decide +kernel
theorem d159_1 : decode prog_12_method_10_code 1 = .ok (.getfield 7, 3) := by decide +kernel
theorem d159_4 : decode prog_12_method_10_code 4 = .ok (.bipush 18, 2) := by decide +kernel
theorem d159_6 : decode prog_12_method_10_code 6 = .ok (.bipush 8, 2) := by decide +kernel
theorem d159_8 : decode prog_12_method_10_code 8 = .ok (.iload_n 1, 1) := by decide +kernel
theorem d159_9 : decode prog_12_method_10_code 9 = .ok (.imul, 1) := by decide +kernel
theorem d159_10 : decode prog_12_method_10_code 10 = .ok (.iadd, 1) := by decide +kernel
theorem d159_11 : decode prog_12_method_10_code 11 = .ok (.iload_n 2, 1) := by decide +kernel
theorem d159_12 : decode prog_12_method_10_code 12 = .ok (.iadd, 1) := by decide +kernel
theorem d159_13 : decode prog_12_method_10_code 13 = .ok (.iload_n 3, 1) := by decide +kernel
theorem d159_14 : decode prog_12_method_10_code 14 = .ok (.iastore, 1) := by decide +kernel
theorem d159_15 : decode prog_12_method_10_code 15 = .ok (.return_, 1) := by decide +kernel
theorem d160_0 : decode prog_12_method_38_code 0 = .ok (.aload_n 0, 1) := by decide +kernel
theorem d160_1 : decode prog_12_method_38_code 1 = .ok (.invokevirtual 100, 3) := by decide +kernel
theorem d160_4 : decode prog_12_method_38_code 4 = .ok (.aload_n 0, 1) := by decide +kernel
theorem d160_5 : decode prog_12_method_38_code 5 = .ok (.iload_n 1, 1) := by decide +kernel
theorem d160_6 : decode prog_12_method_38_code 6 = .ok (.iload_n 2, 1) := by decide +kernel
theorem d160_7 : decode prog_12_method_38_code 7 = .ok (.iconst 0, 1) := by decide +kernel
theorem d160_8 : decode prog_12_method_38_code 8 = .ok (.invokevirtual 170, 3) := by decide +kernel
theorem d160_11 : decode prog_12_method_38_code 11 = .ok (.istore_n 3, 1) := by decide +kernel
theorem d160_12 : decode prog_12_method_38_code 12 = .ok (.iload_n 3, 1) := by decide +kernel
theorem d160_13 : decode prog_12_method_38_code 13 = .ok (.ifCond .le 11, 3) := by decide +kernel
theorem d160_16 : decode prog_12_method_38_code 16 = .ok (.aload_n 0, 1) := by decide +kernel
theorem d160_17 : decode prog_12_method_38_code 17 = .ok (.iload_n 3, 1) := by decide +kernel
theorem d160_18 : decode prog_12_method_38_code 18 = .ok (.invokevirtual 107, 3) := by decide +kernel
theorem d160_21 : decode prog_12_method_38_code 21 = .ok (.goto 16, 3) := by decide +kernel
theorem d160_24 : decode prog_12_method_38_code 24 = .ok (.aload_n 0, 1) := by decide +kernel
theorem d160_25 : decode prog_12_method_38_code 25 = .ok (.aload_n 0, 1) := by decide +kernel
theorem d160_26 : decode prog_12_method_38_code 26 = .ok (.iload_n 1, 1) := by decide +kernel
theorem d160_27 : decode prog_12_method_38_code 27 = .ok (.iload_n 2, 1) := by decide +kernel
theorem d160_28 : decode prog_12_method_38_code 28 = .ok (.iload_n 1, 1) := by decide +kernel
theorem d160_29 : decode prog_12_method_38_code 29 = .ok (.iconst 1, 1) := by decide +kernel
theorem d160_30 : decode prog_12_method_38_code 30 = .ok (.iadd, 1) := by decide +kernel
theorem d160_31 : decode prog_12_method_38_code 31 = .ok (.invokevirtual 173, 3) := by decide +kernel
theorem d160_34 : decode prog_12_method_38_code 34 = .ok (.invokevirtual 114, 3) := by decide +kernel
theorem d160_37 : decode prog_12_method_38_code 37 = .ok (.ireturn, 1) := by decide +kernel
theorem d161_0 : decode prog_12_method_36_code 0 = .ok (.iload_n 1, 1) := by decide +kernel
theorem d161_1 : decode prog_12_method_36_code 1 = .ok (.invokestatic 123, 3) := by decide +kernel
theorem d161_4 : decode prog_12_method_36_code 4 = .ok (.ifCond .eq 10, 3) := by decide +kernel
theorem d161_7 : decode prog_12_method_36_code 7 = .ok (.iload_n 2, 1) := by decide +kernel
theorem d161_8 : decode prog_12_method_36_code 8 = .ok (.invokestatic 97, 3) := by decide +kernel
theorem d161_11 : decode prog_12_method_36_code 11 = .ok (.ifCond .ne 7, 3) := by decide +kernel
theorem d161_14 : decode prog_12_method_36_code 14 = .ok (.iconst 1, 1) := by decide +kernel
theorem d161_15 : decode prog_12_method_36_code 15 = .ok (.goto 29, 3) := by decide +kernel
theorem d161_18 : decode prog_12_method_36_code 18 = .ok (.aload_n 0, 1) := by decide +kernel
theorem d161_19 : decode prog_12_method_36_code 19 = .ok (.iload_n 1, 1) := by decide +kernel
theorem d161_20 : decode prog_12_method_36_code 20 = .ok (.invokevirtual 150, 3) := by decide +kernel
theorem d161_23 : decode prog_12_method_36_code 23 = .ok (.ifCond .eq 16, 3) := by decide +kernel
theorem d161_26 : decode prog_12_method_36_code 26 = .ok (.aload_n 0, 1) := by decide +kernel
theorem d161_27 : decode prog_12_method_36_code 27 = .ok (.getfield 7, 3) := by decide +kernel
theorem d161_30 : decode prog_12_method_36_code 30 = .ok (.bipush 12, 2) := by decide +kernel
theorem d161_32 : decode prog_12_method_36_code 32 = .ok (.iload_n 2, 1) := by decide +kernel
theorem d161_33 : decode prog_12_method_36_code 33 = .ok (.iadd, 1) := by decide +kernel
theorem d161_34 : decode prog_12_method_36_code 34 = .ok (.iaload, 1) := by decide +kernel
theorem d161_35 : decode prog_12_method_36_code 35 = .ok (.iload_n 3, 1) := by decide +kernel
theorem d161_36 : decode prog_12_method_36_code 36 = .ok (.if_icmp .eq 7, 3) := by decide +kernel
theorem d161_39 : decode prog_12_method_36_code 39 = .ok (.iconst 2, 1) := by decide +kernel
theorem d161_40 : decode prog_12_method_36_code 40 = .ok (.goto 4, 3) := by decide +kernel
theorem d161_43 : decode prog_12_method_36_code 43 = .ok (.iconst 0, 1) := by decide +kernel
theorem d161_44 : decode prog_12_method_36_code 44 = .ok (.ireturn, 1) := by decide +kernel
theorem d162_0 : decode prog_12_method_37_code 0 = .ok (.aload_n 0, 1) := by decide +kernel
theorem d162_1 : decode prog_12_method_37_code 1 = .ok (.getfield 7, 3) := by decide +kernel
theorem d162_4 : decode prog_12_method_37_code 4 = .ok (.bipush 12, 2) := by decide +kernel
theorem d162_6 : decode prog_12_method_37_code 6 = .ok (.iload_n 2, 1) := by decide +kernel
theorem d162_7 : decode prog_12_method_37_code 7 = .ok (.iadd, 1) := by decide +kernel
theorem d162_8 : decode prog_12_method_37_code 8 = .ok (.iload_n 3, 1) := by decide +kernel
theorem d162_9 : decode prog_12_method_37_code 9 = .ok (.iastore, 1) := by decide +kernel
theorem d162_10 : decode prog_12_method_37_code 10 = .ok (.aload_n 0, 1) := by decide +kernel
theorem d162_11 : decode prog_12_method_37_code 11 = .ok (.iload_n 1, 1) := by decide +kernel
theorem d162_12 : decode prog_12_method_37_code 12 = .ok (.invokevirtual 167, 3) := by decide +kernel
theorem d162_15 : decode prog_12_method_37_code 15 = .ok (.ireturn, 1) := by decide +kernel
theorem d163_0 : decode prog_12_method_35_code 0 = .ok (.iconst 0, 1) := by decide +kernel
theorem d163_1 : decode prog_12_method_35_code 1 = .ok (.istore_n 2, 1) := by decide +kernel
theorem d163_2 : decode prog_12_method_35_code 2 = .ok (.iconst 0, 1) := by decide +kernel
theorem d163_3 : decode prog_12_method_35_code 3 = .ok (.istore_n 3, 1) := by decide +kernel
theorem d163_4 : decode prog_12_method_35_code 4 = .ok (.iload_n 3, 1) := by decide +kernel
theorem d163_5 : decode prog_12_method_35_code 5 = .ok (.bipush 6, 2) := by decide +kernel
theorem d163_7 : decode prog_12_method_35_code 7 = .ok (.if_icmp .ge 32, 3) := by decide +kernel
theorem d163_10 : decode prog_12_method_35_code 10 = .ok (.iload_n 2, 1) := by decide +kernel
theorem d163_11 : decode prog_12_method_35_code 11 = .ok (.aload_n 0, 1) := by decide +kernel
theorem d163_12 : decode prog_12_method_35_code 12 = .ok (.getfield 7, 3) := by decide +kernel
theorem d163_15 : decode prog_12_method_35_code 15 = .ok (.bipush 12, 2) := by decide +kernel
theorem d163_17 : decode prog_12_method_35_code 17 = .ok (.iload_n 3, 1) := by decide +kernel
theorem d163_18 : decode prog_12_method_35_code 18 = .ok (.iadd, 1) := by decide +kernel
theorem d163_19 : decode prog_12_method_35_code 19 = .ok (.iaload, 1) := by decide +kernel
theorem d163_20 : decode prog_12_method_35_code 20 = .ok (.iload_n 1, 1) := by decide +kernel
theorem d163_21 : decode prog_12_method_35_code 21 = .ok (.iconst 1, 1) := by decide +kernel
theorem d163_22 : decode prog_12_method_35_code 22 = .ok (.iadd, 1) := by decide +kernel
theorem d163_23 : decode prog_12_method_35_code 23 = .ok (.if_icmp .ne 7, 3) := by decide +kernel
theorem d163_26 : decode prog_12_method_35_code 26 = .ok (.iconst 1, 1) := by decide +kernel
theorem d163_27 : decode prog_12_method_35_code 27 = .ok (.goto 4, 3) := by decide +kernel
theorem d163_30 : decode prog_12_method_35_code 30 = .ok (.iconst 0, 1) := by decide +kernel
theorem d163_31 : decode prog_12_method_35_code 31 = .ok (.iadd, 1) := by decide +kernel
theorem d163_32 : decode prog_12_method_35_code 32 = .ok (.istore_n 2, 1) := by decide +kernel
theorem d163_33 : decode prog_12_method_35_code 33 = .ok (.iinc 3 1, 3) := by decide +kernel
theorem d163_36 : decode prog_12_method_35_code 36 = .ok (.goto (-32), 3) := by decide +kernel
theorem d163_39 : decode prog_12_method_35_code 39 = .ok (.iload_n 2, 1) := by decide +kernel
theorem d163_40 : decode prog_12_method_35_code 40 = .ok (.ireturn, 1) := by decide +kernel
theorem d164_0 : decode prog_12_method_39_code 0 = .ok (.aload_n 0, 1) := by decide +kernel
theorem d164_1 : decode prog_12_method_39_code 1 = .ok (.invokevirtual 100, 3) := by decide +kernel
theorem d164_4 : decode prog_12_method_39_code 4 = .ok (.aload_n 0, 1) := by decide +kernel
theorem d164_5 : decode prog_12_method_39_code 5 = .ok (.iload_n 1, 1) := by decide +kernel
theorem d164_6 : decode prog_12_method_39_code 6 = .ok (.iload_n 2, 1) := by decide +kernel
theorem d164_7 : decode prog_12_method_39_code 7 = .ok (.iload_n 1, 1) := by decide +kernel
theorem d164_8 : decode prog_12_method_39_code 8 = .ok (.iconst 1, 1) := by decide +kernel
theorem d164_9 : decode prog_12_method_39_code 9 = .ok (.iadd, 1) := by decide +kernel
theorem d164_10 : decode prog_12_method_39_code 10 = .ok (.invokevirtual 170, 3) := by decide +kernel
theorem d164_13 : decode prog_12_method_39_code 13 = .ok (.istore_n 3, 1) := by decide +kernel
theorem d164_14 : decode prog_12_method_39_code 14 = .ok (.iload_n 3, 1) := by decide +kernel
theorem d164_15 : decode prog_12_method_39_code 15 = .ok (.ifCond .le 11, 3) := by decide +kernel
theorem d164_18 : decode prog_12_method_39_code 18 = .ok (.aload_n 0, 1) := by decide +kernel
theorem d164_19 : decode prog_12_method_39_code 19 = .ok (.iload_n 3, 1) := by decide +kernel
theorem d164_20 : decode prog_12_method_39_code 20 = .ok (.invokevirtual 107, 3) := by decide +kernel
theorem d164_23 : decode prog_12_method_39_code 23 = .ok (.goto 14, 3) := by decide +kernel
theorem d164_26 : decode prog_12_method_39_code 26 = .ok (.aload_n 0, 1) := by decide +kernel
theorem d164_27 : decode prog_12_method_39_code 27 = .ok (.aload_n 0, 1) := by decide +kernel
theorem d164_28 : decode prog_12_method_39_code 28 = .ok (.iload_n 1, 1) := by decide +kernel
theorem d164_29 : decode prog_12_method_39_code 29 = .ok (.iload_n 2, 1) := by decide +kernel
theorem d164_30 : decode prog_12_method_39_code 30 = .ok (.iconst 0, 1) := by decide +kernel
theorem d164_31 : decode prog_12_method_39_code 31 = .ok (.invokevirtual 173, 3) := by decide +kernel
theorem d164_34 : decode prog_12_method_39_code 34 = .ok (.invokevirtual 114, 3) := by decide +kernel
theorem d164_37 : decode prog_12_method_39_code 37 = .ok (.ireturn, 1) := by decide +kernel
theorem d165_0 : decode prog_12_method_47_code 0 = .ok (.aload_n 0, 1) := by decide +kernel
theorem d165_1 : decode prog_12_method_47_code 1 = .ok (.invokevirtual 100, 3) := by decide +kernel
theorem d165_4 : decode prog_12_method_47_code 4 = .ok (.aload_n 0, 1) := by decide +kernel
theorem d165_5 : decode prog_12_method_47_code 5 = .ok (.iload_n 1, 1) := by decide +kernel
theorem d165_6 : decode prog_12_method_47_code 6 = .ok (.iload_n 2, 1) := by decide +kernel
theorem d165_7 : decode prog_12_method_47_code 7 = .ok (.invokevirtual 192, 3) := by decide +kernel
theorem d165_10 : decode prog_12_method_47_code 10 = .ok (.istore_n 3, 1) := by decide +kernel
theorem d165_11 : decode prog_12_method_47_code 11 = .ok (.iload_n 3, 1) := by decide +kernel
theorem d165_12 : decode prog_12_method_47_code 12 = .ok (.ifCond .le 11, 3) := by decide +kernel
theorem d165_15 : decode prog_12_method_47_code 15 = .ok (.aload_n 0, 1) := by decide +kernel
theorem d165_16 : decode prog_12_method_47_code 16 = .ok (.iload_n 3, 1) := by decide +kernel
theorem d165_17 : decode prog_12_method_47_code 17 = .ok (.invokevirtual 107, 3) := by decide +kernel
theorem d165_20 : decode prog_12_method_47_code 20 = .ok (.goto 13, 3) := by decide +kernel
theorem d165_23 : decode prog_12_method_47_code 23 = .ok (.aload_n 0, 1) := by decide +kernel
theorem d165_24 : decode prog_12_method_47_code 24 = .ok (.aload_n 0, 1) := by decide +kernel
theorem d165_25 : decode prog_12_method_47_code 25 = .ok (.iload_n 1, 1) := by decide +kernel
theorem d165_26 : decode prog_12_method_47_code 26 = .ok (.iload_n 2, 1) := by decide +kernel
theorem d165_27 : decode prog_12_method_47_code 27 = .ok (.invokevirtual 195, 3) := by decide +kernel
theorem d165_30 : decode prog_12_method_47_code 30 = .ok (.invokevirtual 114, 3) := by decide +kernel
theorem d165_33 : decode prog_12_method_47_code 33 = .ok (.ireturn, 1) := by decide +kernel
theorem d166_0 : decode prog_12_method_45_code 0 = .ok (.iload_n 1, 1) := by decide +kernel
theorem d166_1 : decode prog_12_method_45_code 1 = .ok (.invokestatic 123, 3) := by decide +kernel
theorem d166_4 : decode prog_12_method_45_code 4 = .ok (.ifCond .ne 5, 3) := by decide +kernel
theorem d166_7 : decode prog_12_method_45_code 7 = .ok (.iconst 1, 1) := by decide +kernel
theorem d166_8 : decode prog_12_method_45_code 8 = .ok (.ireturn, 1) := by decide +kernel
theorem d166_9 : decode prog_12_method_45_code 9 = .ok (.aload_n 0, 1) := by decide +kernel
theorem d166_10 : decode prog_12_method_45_code 10 = .ok (.iload_n 2, 1) := by decide +kernel
theorem d166_11 : decode prog_12_method_45_code 11 = .ok (.invokevirtual 117, 3) := by decide +kernel
theorem d166_14 : decode prog_12_method_45_code 14 = .ok (.ifCond .ge 5, 3) := by decide +kernel
theorem d166_17 : decode prog_12_method_45_code 17 = .ok (.iconst 2, 1) := by decide +kernel
theorem d166_18 : decode prog_12_method_45_code 18 = .ok (.ireturn, 1) := by decide +kernel
theorem d166_19 : decode prog_12_method_45_code 19 = .ok (.aload_n 0, 1) := by decide +kernel
theorem d166_20 : decode prog_12_method_45_code 20 = .ok (.iload_n 1, 1) := by decide +kernel
theorem d166_21 : decode prog_12_method_45_code 21 = .ok (.aload_n 0, 1) := by decide +kernel
theorem d166_22 : decode prog_12_method_45_code 22 = .ok (.iload_n 2, 1) := by decide +kernel
theorem d166_23 : decode prog_12_method_45_code 23 = .ok (.invokevirtual 117, 3) := by decide +kernel
theorem d166_26 : decode prog_12_method_45_code 26 = .ok (.invokevirtual 182, 3) := by decide +kernel
theorem d166_29 : decode prog_12_method_45_code 29 = .ok (.ifCond .ne 7, 3) := by decide +kernel
theorem d166_32 : decode prog_12_method_45_code 32 = .ok (.iconst 3, 1) := by decide +kernel
theorem d166_33 : decode prog_12_method_45_code 33 = .ok (.goto 21, 3) := by decide +kernel
theorem d166_36 : decode prog_12_method_45_code 36 = .ok (.aload_n 0, 1) := by decide +kernel
theorem d166_37 : decode prog_12_method_45_code 37 = .ok (.iload_n 1, 1) := by decide +kernel
theorem d166_38 : decode prog_12_method_45_code 38 = .ok (.aload_n 0, 1) := by decide +kernel
theorem d166_39 : decode prog_12_method_45_code 39 = .ok (.iload_n 2, 1) := by decide +kernel
theorem d166_40 : decode prog_12_method_45_code 40 = .ok (.invokevirtual 117, 3) := by decide +kernel
theorem d166_43 : decode prog_12_method_45_code 43 = .ok (.invokevirtual 186, 3) := by decide +kernel
theorem d166_46 : decode prog_12_method_45_code 46 = .ok (.ifCond .ne 7, 3) := by decide +kernel
theorem d166_49 : decode prog_12_method_45_code 49 = .ok (.iconst 4, 1) := by decide +kernel
theorem d166_50 : decode prog_12_method_45_code 50 = .ok (.goto 4, 3) := by decide +kernel
theorem d166_53 : decode prog_12_method_45_code 53 = .ok (.iconst 0, 1) := by decide +kernel
theorem d166_54 : decode prog_12_method_45_code 54 = .ok (.ireturn, 1) := by decide +kernel
theorem d167_0 : decode prog_12_method_43_code 0 = .ok (.aload_n 0, 1) := by decide +kernel
theorem d167_1 : decode prog_12_method_43_code 1 = .ok (.getfield 7, 3) := by decide +kernel
theorem d167_4 : decode prog_12_method_43_code 4 = .ok (.bipush 12, 2) := by decide +kernel
theorem d167_6 : decode prog_12_method_43_code 6 = .ok (.aload_n 0, 1) := by decide +kernel
theorem d167_7 : decode prog_12_method_43_code 7 = .ok (.iload_n 2, 1) := by decide +kernel
theorem d167_8 : decode prog_12_method_43_code 8 = .ok (.iconst 4, 1) := by decide +kernel
theorem d167_9 : decode prog_12_method_43_code 9 = .ok (.invokevirtual 85, 3) := by decide +kernel
theorem d167_12 : decode prog_12_method_43_code 12 = .ok (.iadd, 1) := by decide +kernel
theorem d167_13 : decode prog_12_method_43_code 13 = .ok (.iaload, 1) := by decide +kernel
theorem d167_14 : decode prog_12_method_43_code 14 = .ok (.iload_n 1, 1) := by decide +kernel
theorem d167_15 : decode prog_12_method_43_code 15 = .ok (.iconst 1, 1) := by decide +kernel
theorem d167_16 : decode prog_12_method_43_code 16 = .ok (.iadd, 1) := by decide +kernel
theorem d167_17 : decode prog_12_method_43_code 17 = .ok (.if_icmp .ne 7, 3) := by decide +kernel
theorem d167_20 : decode prog_12_method_43_code 20 = .ok (.iconst 1, 1) := by decide +kernel
theorem d167_21 : decode prog_12_method_43_code 21 = .ok (.goto 4, 3) := by decide +kernel
theorem d167_24 : decode prog_12_method_43_code 24 = .ok (.iconst 0, 1) := by decide +kernel
theorem d167_25 : decode prog_12_method_43_code 25 = .ok (.ireturn, 1) := by decide +kernel
theorem d168_0 : decode prog_12_method_44_code 0 = .ok (.aload_n 0, 1) := by decide +kernel
theorem d168_1 : decode prog_12_method_44_code 1 = .ok (.iload_n 1, 1) := by decide +kernel
theorem d168_2 : decode prog_12_method_44_code 2 = .ok (.iconst 4, 1) := by decide +kernel
theorem d168_3 : decode prog_12_method_44_code 3 = .ok (.aload_n 0, 1) := by decide +kernel
theorem d168_4 : decode prog_12_method_44_code 4 = .ok (.iload_n 2, 1) := by decide +kernel
theorem d168_5 : decode prog_12_method_44_code 5 = .ok (.iconst 3, 1) := by decide +kernel
theorem d168_6 : decode prog_12_method_44_code 6 = .ok (.invokevirtual 85, 3) := by decide +kernel
theorem d168_9 : decode prog_12_method_44_code 9 = .ok (.iadd, 1) := by decide +kernel
theorem d168_10 : decode prog_12_method_44_code 10 = .ok (.bipush 97, 2) := by decide +kernel
theorem d168_12 : decode prog_12_method_44_code 12 = .ok (.isub, 1) := by decide +kernel
theorem d168_13 : decode prog_12_method_44_code 13 = .ok (.invokevirtual 147, 3) := by decide +kernel
theorem d168_16 : decode prog_12_method_44_code 16 = .ok (.ifCond .le 7, 3) := by decide +kernel
theorem d168_19 : decode prog_12_method_44_code 19 = .ok (.iconst 1, 1) := by decide +kernel
theorem d168_20 : decode prog_12_method_44_code 20 = .ok (.goto 4, 3) := by decide +kernel
theorem d168_23 : decode prog_12_method_44_code 23 = .ok (.iconst 0, 1) := by decide +kernel
theorem d168_24 : decode prog_12_method_44_code 24 = .ok (.ireturn, 1) := by decide +kernel
theorem d169_0 : decode prog_12_method_46_code 0 = .ok (.aload_n 0, 1) := by decide +kernel
theorem d169_1 : decode prog_12_method_46_code 1 = .ok (.iload_n 2, 1) := by decide +kernel
theorem d169_2 : decode prog_12_method_46_code 2 = .ok (.invokevirtual 117, 3) := by decide +kernel
theorem d169_5 : decode prog_12_method_46_code 5 = .ok (.istore_n 3, 1) := by decide +kernel
theorem d169_6 : decode prog_12_method_46_code 6 = .ok (.aload_n 0, 1) := by decide +kernel
theorem d169_7 : decode prog_12_method_46_code 7 = .ok (.iload_n 1, 1) := by decide +kernel
theorem d169_8 : decode prog_12_method_46_code 8 = .ok (.iload_n 3, 1) := by decide +kernel
theorem d169_9 : decode prog_12_method_46_code 9 = .ok (.invokevirtual 189, 3) := by decide +kernel
theorem d169_12 : decode prog_12_method_46_code 12 = .ok (.istore 4, 2) := by decide +kernel
theorem d169_14 : decode prog_12_method_46_code 14 = .ok (.iload 4, 2) := by decide +kernel
theorem d169_16 : decode prog_12_method_46_code 16 = .ok (.aload_n 0, 1) := by decide +kernel
theorem d169_17 : decode prog_12_method_46_code 17 = .ok (.iload_n 3, 1) := by decide +kernel
theorem d169_18 : decode prog_12_method_46_code 18 = .ok (.bipush 6, 2) := by decide +kernel
theorem d169_20 : decode prog_12_method_46_code 20 = .ok (.invokevirtual 85, 3) := by decide +kernel
theorem d169_23 : decode prog_12_method_46_code 23 = .ok (.if_icmp .le 16, 3) := by decide +kernel
theorem d169_26 : decode prog_12_method_46_code 26 = .ok (.iload 4, 2) := by decide +kernel
theorem d169_28 : decode prog_12_method_46_code 28 = .ok (.aload_n 0, 1) := by decide +kernel
theorem d169_29 : decode prog_12_method_46_code 29 = .ok (.iload_n 3, 1) := by decide +kernel
theorem d169_30 : decode prog_12_method_46_code 30 = .ok (.bipush 6, 2) := by decide +kernel
theorem d169_32 : decode prog_12_method_46_code 32 = .ok (.invokevirtual 85, 3) := by decide +kernel
theorem d169_35 : decode prog_12_method_46_code 35 = .ok (.isub, 1) := by decide +kernel
theorem d169_36 : decode prog_12_method_46_code 36 = .ok (.goto 4, 3) := by decide +kernel
theorem d169_39 : decode prog_12_method_46_code 39 = .ok (.iconst 0, 1) := by decide +kernel
theorem d169_40 : decode prog_12_method_46_code 40 = .ok (.istore 5, 2) := by decide +kernel
theorem d169_42 : decode prog_12_method_46_code 42 = .ok (.aload_n 0, 1) := by decide +kernel
theorem d169_43 : decode prog_12_method_46_code 43 = .ok (.iload_n 1, 1) := by decide +kernel
theorem d169_44 : decode prog_12_method_46_code 44 = .ok (.iconst 2, 1) := by decide +kernel
theorem d169_45 : decode prog_12_method_46_code 45 = .ok (.iload 4, 2) := by decide +kernel
theorem d169_47 : decode prog_12_method_46_code 47 = .ok (.invokevirtual 156, 3) := by decide +kernel
theorem d169_50 : decode prog_12_method_46_code 50 = .ok (.aload_n 0, 1) := by decide +kernel
theorem d169_51 : decode prog_12_method_46_code 51 = .ok (.iload_n 1, 1) := by decide +kernel
theorem d169_52 : decode prog_12_method_46_code 52 = .ok (.iconst 0, 1) := by decide +kernel
theorem d169_53 : decode prog_12_method_46_code 53 = .ok (.aload_n 0, 1) := by decide +kernel
theorem d169_54 : decode prog_12_method_46_code 54 = .ok (.iload_n 3, 1) := by decide +kernel
theorem d169_55 : decode prog_12_method_46_code 55 = .ok (.iconst 1, 1) := by decide +kernel
theorem d169_56 : decode prog_12_method_46_code 56 = .ok (.invokevirtual 85, 3) := by decide +kernel
theorem d169_59 : decode prog_12_method_46_code 59 = .ok (.invokevirtual 156, 3) := by decide +kernel
theorem d169_62 : decode prog_12_method_46_code 62 = .ok (.aload_n 0, 1) := by decide +kernel
theorem d169_63 : decode prog_12_method_46_code 63 = .ok (.iload_n 1, 1) := by decide +kernel
theorem d169_64 : decode prog_12_method_46_code 64 = .ok (.iconst 1, 1) := by decide +kernel
theorem d169_65 : decode prog_12_method_46_code 65 = .ok (.aload_n 0, 1) := by decide +kernel
theorem d169_66 : decode prog_12_method_46_code 66 = .ok (.iload_n 3, 1) := by decide +kernel
theorem d169_67 : decode prog_12_method_46_code 67 = .ok (.iconst 2, 1) := by decide +kernel
theorem d169_68 : decode prog_12_method_46_code 68 = .ok (.invokevirtual 85, 3) := by decide +kernel
theorem d169_71 : decode prog_12_method_46_code 71 = .ok (.invokevirtual 156, 3) := by decide +kernel
theorem d169_74 : decode prog_12_method_46_code 74 = .ok (.aload_n 0, 1) := by decide +kernel
theorem d169_75 : decode prog_12_method_46_code 75 = .ok (.iload_n 1, 1) := by decide +kernel
theorem d169_76 : decode prog_12_method_46_code 76 = .ok (.iconst 4, 1) := by decide +kernel
theorem d169_77 : decode prog_12_method_46_code 77 = .ok (.aload_n 0, 1) := by decide +kernel
theorem d169_78 : decode prog_12_method_46_code 78 = .ok (.iload_n 3, 1) := by decide +kernel
theorem d169_79 : decode prog_12_method_46_code 79 = .ok (.iconst 3, 1) := by decide +kernel
theorem d169_80 : decode prog_12_method_46_code 80 = .ok (.invokevirtual 85, 3) := by decide +kernel
theorem d169_83 : decode prog_12_method_46_code 83 = .ok (.iadd, 1) := by decide +kernel
theorem d169_84 : decode prog_12_method_46_code 84 = .ok (.bipush 97, 2) := by decide +kernel
theorem d169_86 : decode prog_12_method_46_code 86 = .ok (.isub, 1) := by decide +kernel
theorem d169_87 : decode prog_12_method_46_code 87 = .ok (.aload_n 0, 1) := by decide +kernel
theorem d169_88 : decode prog_12_method_46_code 88 = .ok (.iload_n 1, 1) := by decide +kernel
theorem d169_89 : decode prog_12_method_46_code 89 = .ok (.iconst 4, 1) := by decide +kernel
theorem d169_90 : decode prog_12_method_46_code 90 = .ok (.aload_n 0, 1) := by decide +kernel
theorem d169_91 : decode prog_12_method_46_code 91 = .ok (.iload_n 3, 1) := by decide +kernel
theorem d169_92 : decode prog_12_method_46_code 92 = .ok (.iconst 3, 1) := by decide +kernel
theorem d169_93 : decode prog_12_method_46_code 93 = .ok (.invokevirtual 85, 3) := by decide +kernel
theorem d169_96 : decode prog_12_method_46_code 96 = .ok (.iadd, 1) := by decide +kernel
theorem d169_97 : decode prog_12_method_46_code 97 = .ok (.bipush 97, 2) := by decide +kernel
theorem d169_99 : decode prog_12_method_46_code 99 = .ok (.isub, 1) := by decide +kernel
theorem d169_100 : decode prog_12_method_46_code 100 = .ok (.invokevirtual 147, 3) := by decide +kernel
theorem d169_103 : decode prog_12_method_46_code 103 = .ok (.iconst 1, 1) := by decide +kernel
theorem d169_104 : decode prog_12_method_46_code 104 = .ok (.isub, 1) := by decide +kernel
theorem d169_105 : decode prog_12_method_46_code 105 = .ok (.invokevirtual 156, 3) := by decide +kernel
theorem d169_108 : decode prog_12_method_46_code 108 = .ok (.aload_n 0, 1) := by decide +kernel
theorem d169_109 : decode prog_12_method_46_code 109 = .ok (.iload_n 1, 1) := by decide +kernel
theorem d169_110 : decode prog_12_method_46_code 110 = .ok (.iconst 3, 1) := by decide +kernel
theorem d169_111 : decode prog_12_method_46_code 111 = .ok (.aload_n 0, 1) := by decide +kernel
theorem d169_112 : decode prog_12_method_46_code 112 = .ok (.iload_n 1, 1) := by decide +kernel
theorem d169_113 : decode prog_12_method_46_code 113 = .ok (.iconst 3, 1) := by decide +kernel
theorem d169_114 : decode prog_12_method_46_code 114 = .ok (.invokevirtual 147, 3) := by decide +kernel
theorem d169_117 : decode prog_12_method_46_code 117 = .ok (.bipush 10, 2) := by decide +kernel
theorem d169_119 : decode prog_12_method_46_code 119 = .ok (.aload_n 0, 1) := by decide +kernel
theorem d169_120 : decode prog_12_method_46_code 120 = .ok (.iload_n 3, 1) := by decide +kernel
theorem d169_121 : decode prog_12_method_46_code 121 = .ok (.iconst 5, 1) := by decide +kernel
theorem d169_122 : decode prog_12_method_46_code 122 = .ok (.invokevirtual 85, 3) := by decide +kernel
theorem d169_125 : decode prog_12_method_46_code 125 = .ok (.imul, 1) := by decide +kernel
theorem d169_126 : decode prog_12_method_46_code 126 = .ok (.iadd, 1) := by decide +kernel
theorem d169_127 : decode prog_12_method_46_code 127 = .ok (.iconst 2, 1) := by decide +kernel
theorem d169_128 : decode prog_12_method_46_code 128 = .ok (.iload 5, 2) := by decide +kernel
theorem d169_130 : decode prog_12_method_46_code 130 = .ok (.imul, 1) := by decide +kernel
theorem d169_131 : decode prog_12_method_46_code 131 = .ok (.isub, 1) := by decide +kernel
theorem d169_132 : decode prog_12_method_46_code 132 = .ok (.invokevirtual 156, 3) := by decide +kernel
theorem d169_135 : decode prog_12_method_46_code 135 = .ok (.aload_n 0, 1) := by decide +kernel
theorem d169_136 : decode prog_12_method_46_code 136 = .ok (.getfield 7, 3) := by decide +kernel
theorem d169_139 : decode prog_12_method_46_code 139 = .ok (.iconst 4, 1) := by decide +kernel
theorem d169_140 : decode prog_12_method_46_code 140 = .ok (.dup2, 1) := by decide +kernel
theorem d169_141 : decode prog_12_method_46_code 141 = .ok (.iaload, 1) := by decide +kernel
theorem d169_142 : decode prog_12_method_46_code 142 = .ok (.aload_n 0, 1) := by decide +kernel
theorem d169_143 : decode prog_12_method_46_code 143 = .ok (.iload_n 3, 1) := by decide +kernel
theorem d169_144 : decode prog_12_method_46_code 144 = .ok (.iconst 5, 1) := by decide +kernel
theorem d169_145 : decode prog_12_method_46_code 145 = .ok (.invokevirtual 85, 3) := by decide +kernel
theorem d169_148 : decode prog_12_method_46_code 148 = .ok (.iadd, 1) := by decide +kernel
theorem d169_149 : decode prog_12_method_46_code 149 = .ok (.iastore, 1) := by decide +kernel
theorem d169_150 : decode prog_12_method_46_code 150 = .ok (.aload_n 0, 1) := by decide +kernel
theorem d169_151 : decode prog_12_method_46_code 151 = .ok (.getfield 7, 3) := by decide +kernel
theorem d169_154 : decode prog_12_method_46_code 154 = .ok (.iconst 3, 1) := by decide +kernel
theorem d169_155 : decode prog_12_method_46_code 155 = .ok (.dup2, 1) := by decide +kernel
theorem d169_156 : decode prog_12_method_46_code 156 = .ok (.iaload, 1) := by decide +kernel
theorem d169_157 : decode prog_12_method_46_code 157 = .ok (.iload 5, 2) := by decide +kernel
theorem d169_159 : decode prog_12_method_46_code 159 = .ok (.iadd, 1) := by decide +kernel
theorem d169_160 : decode prog_12_method_46_code 160 = .ok (.iastore, 1) := by decide +kernel
theorem d169_161 : decode prog_12_method_46_code 161 = .ok (.aload_n 0, 1) := by decide +kernel
theorem d169_162 : decode prog_12_method_46_code 162 = .ok (.getfield 7, 3) := by decide +kernel
theorem d169_165 : decode prog_12_method_46_code 165 = .ok (.iconst 2, 1) := by decide +kernel
theorem d169_166 : decode prog_12_method_46_code 166 = .ok (.dup2, 1) := by decide +kernel
theorem d169_167 : decode prog_12_method_46_code 167 = .ok (.iaload, 1) := by decide +kernel
theorem d169_168 : decode prog_12_method_46_code 168 = .ok (.iconst 1, 1) := by decide +kernel
theorem d169_169 : decode prog_12_method_46_code 169 = .ok (.iadd, 1) := by decide +kernel
theorem d169_170 : decode prog_12_method_46_code 170 = .ok (.iastore, 1) := by decide +kernel
theorem d169_171 : decode prog_12_method_46_code 171 = .ok (.aload_n 0, 1) := by decide +kernel
theorem d169_172 : decode prog_12_method_46_code 172 = .ok (.iload_n 3, 1) := by decide +kernel
theorem d169_173 : decode prog_12_method_46_code 173 = .ok (.invokevirtual 120, 3) := by decide +kernel
theorem d169_176 : decode prog_12_method_46_code 176 = .ok (.istore 6, 2) := by decide +kernel
theorem d169_178 : decode prog_12_method_46_code 178 = .ok (.iconst 2, 1) := by decide +kernel
theorem d169_179 : decode prog_12_method_46_code 179 = .ok (.iload 5, 2) := by decide +kernel
theorem d169_181 : decode prog_12_method_46_code 181 = .ok (.imul, 1) := by decide +kernel
theorem d169_182 : decode prog_12_method_46_code 182 = .ok (.ireturn, 1) := by decide +kernel
theorem d170_0 : decode prog_12_method_42_code 0 = .ok (.aload_n 0, 1) := by decide +kernel
theorem d170_1 : decode prog_12_method_42_code 1 = .ok (.iload_n 1, 1) := by decide +kernel
theorem d170_2 : decode prog_12_method_42_code 2 = .ok (.iconst 2, 1) := by decide +kernel
theorem d170_3 : decode prog_12_method_42_code 3 = .ok (.invokevirtual 147, 3) := by decide +kernel
theorem d170_6 : decode prog_12_method_42_code 6 = .ok (.aload_n 0, 1) := by decide +kernel
theorem d170_7 : decode prog_12_method_42_code 7 = .ok (.iload_n 1, 1) := by decide +kernel
theorem d170_8 : decode prog_12_method_42_code 8 = .ok (.iload_n 2, 1) := by decide +kernel
theorem d170_9 : decode prog_12_method_42_code 9 = .ok (.invokevirtual 179, 3) := by decide +kernel
theorem d170_12 : decode prog_12_method_42_code 12 = .ok (.iadd, 1) := by decide +kernel
theorem d170_13 : decode prog_12_method_42_code 13 = .ok (.aload_n 0, 1) := by decide +kernel
theorem d170_14 : decode prog_12_method_42_code 14 = .ok (.iload_n 2, 1) := by decide +kernel
theorem d170_15 : decode prog_12_method_42_code 15 = .ok (.iconst 5, 1) := by decide +kernel
theorem d170_16 : decode prog_12_method_42_code 16 = .ok (.invokevirtual 85, 3) := by decide +kernel
theorem d170_19 : decode prog_12_method_42_code 19 = .ok (.iadd, 1) := by decide +kernel
theorem d170_20 : decode prog_12_method_42_code 20 = .ok (.ireturn, 1) := by decide +kernel
theorem d171_0 : decode prog_12_method_41_code 0 = .ok (.aload_n 0, 1) := by decide +kernel
theorem d171_1 : decode prog_12_method_41_code 1 = .ok (.iload_n 1, 1) := by decide +kernel
theorem d171_2 : decode prog_12_method_41_code 2 = .ok (.iconst 0, 1) := by decide +kernel
theorem d171_3 : decode prog_12_method_41_code 3 = .ok (.invokevirtual 147, 3) := by decide +kernel
theorem d171_6 : decode prog_12_method_41_code 6 = .ok (.aload_n 0, 1) := by decide +kernel
theorem d171_7 : decode prog_12_method_41_code 7 = .ok (.iload_n 2, 1) := by decide +kernel
theorem d171_8 : decode prog_12_method_41_code 8 = .ok (.iconst 1, 1) := by decide +kernel
theorem d171_9 : decode prog_12_method_41_code 9 = .ok (.invokevirtual 85, 3) := by decide +kernel
theorem d171_12 : decode prog_12_method_41_code 12 = .ok (.invokestatic 176, 3) := by decide +kernel
theorem d171_15 : decode prog_12_method_41_code 15 = .ok (.aload_n 0, 1) := by decide +kernel
theorem d171_16 : decode prog_12_method_41_code 16 = .ok (.iload_n 1, 1) := by decide +kernel
theorem d171_17 : decode prog_12_method_41_code 17 = .ok (.iconst 1, 1) := by decide +kernel
theorem d171_18 : decode prog_12_method_41_code 18 = .ok (.invokevirtual 147, 3) := by decide +kernel
theorem d171_21 : decode prog_12_method_41_code 21 = .ok (.aload_n 0, 1) := by decide +kernel
theorem d171_22 : decode prog_12_method_41_code 22 = .ok (.iload_n 2, 1) := by decide +kernel
theorem d171_23 : decode prog_12_method_41_code 23 = .ok (.iconst 2, 1) := by decide +kernel
theorem d171_24 : decode prog_12_method_41_code 24 = .ok (.invokevirtual 85, 3) := by decide +kernel
theorem d171_27 : decode prog_12_method_41_code 27 = .ok (.invokestatic 176, 3) := by decide +kernel
theorem d171_30 : decode prog_12_method_41_code 30 = .ok (.iadd, 1) := by decide +kernel
theorem d171_31 : decode prog_12_method_41_code 31 = .ok (.ireturn, 1) := by decide +kernel
theorem d172_0 : decode prog_12_method_40_code 0 = .ok (.iload_n 0, 1) := by decide +kernel
theorem d172_1 : decode prog_12_method_40_code 1 = .ok (.iload_n 1, 1) := by decide +kernel
theorem d172_2 : decode prog_12_method_40_code 2 = .ok (.if_icmp .ge 9, 3) := by decide +kernel
theorem d172_5 : decode prog_12_method_40_code 5 = .ok (.iload_n 1, 1) := by decide +kernel
theorem d172_6 : decode prog_12_method_40_code 6 = .ok (.iload_n 0, 1) := by decide +kernel
theorem d172_7 : decode prog_12_method_40_code 7 = .ok (.isub, 1) := by decide +kernel
theorem d172_8 : decode prog_12_method_40_code 8 = .ok (.goto 6, 3) := by decide +kernel
theorem d172_11 : decode prog_12_method_40_code 11 = .ok (.iload_n 0, 1) := by decide +kernel
theorem d172_12 : decode prog_12_method_40_code 12 = .ok (.iload_n 1, 1) := by decide +kernel
theorem d172_13 : decode prog_12_method_40_code 13 = .ok (.isub, 1) := by decide +kernel
theorem d172_14 : decode prog_12_method_40_code 14 = .ok (.ireturn, 1) := by decide +kernel
theorem d173_0 : decode prog_12_method_49_code 0 = .ok (.aload_n 0, 1) := by decide +kernel
theorem d173_1 : decode prog_12_method_49_code 1 = .ok (.invokevirtual 100, 3) := by decide +kernel
theorem d173_4 : decode prog_12_method_49_code 4 = .ok (.iload_n 1, 1) := by decide +kernel
theorem d173_5 : decode prog_12_method_49_code 5 = .ok (.invokestatic 123, 3) := by decide +kernel
theorem d173_8 : decode prog_12_method_49_code 8 = .ok (.ifCond .eq 15, 3) := by decide +kernel
theorem d173_11 : decode prog_12_method_49_code 11 = .ok (.aload_n 0, 1) := by decide +kernel
theorem d173_12 : decode prog_12_method_49_code 12 = .ok (.aload_n 0, 1) := by decide +kernel
theorem d173_13 : decode prog_12_method_49_code 13 = .ok (.iload_n 1, 1) := by decide +kernel
theorem d173_14 : decode prog_12_method_49_code 14 = .ok (.invokevirtual 198, 3) := by decide +kernel
theorem d173_17 : decode prog_12_method_49_code 17 = .ok (.invokevirtual 114, 3) := by decide +kernel
theorem d173_20 : decode prog_12_method_49_code 20 = .ok (.goto 8, 3) := by decide +kernel
theorem d173_23 : decode prog_12_method_49_code 23 = .ok (.aload_n 0, 1) := by decide +kernel
theorem d173_24 : decode prog_12_method_49_code 24 = .ok (.iconst 1, 1) := by decide +kernel
theorem d173_25 : decode prog_12_method_49_code 25 = .ok (.invokevirtual 107, 3) := by decide +kernel
theorem d173_28 : decode prog_12_method_49_code 28 = .ok (.ireturn, 1) := by decide +kernel
theorem d174_0 : decode prog_12_method_48_code 0 = .ok (.aload_n 0, 1) := by decide +kernel
theorem d174_1 : decode prog_12_method_48_code 1 = .ok (.iload_n 1, 1) := by decide +kernel
theorem d174_2 : decode prog_12_method_48_code 2 = .ok (.iconst 2, 1) := by decide +kernel
theorem d174_3 : decode prog_12_method_48_code 3 = .ok (.aload_n 0, 1) := by decide +kernel
theorem d174_4 : decode prog_12_method_48_code 4 = .ok (.iload_n 1, 1) := by decide +kernel
theorem d174_5 : decode prog_12_method_48_code 5 = .ok (.iconst 2, 1) := by decide +kernel
theorem d174_6 : decode prog_12_method_48_code 6 = .ok (.invokevirtual 147, 3) := by decide +kernel
theorem d174_9 : decode prog_12_method_48_code 9 = .ok (.aload_n 0, 1) := by decide +kernel
theorem d174_10 : decode prog_12_method_48_code 10 = .ok (.iload_n 1, 1) := by decide +kernel
theorem d174_11 : decode prog_12_method_48_code 11 = .ok (.iconst 0, 1) := by decide +kernel
theorem d174_12 : decode prog_12_method_48_code 12 = .ok (.invokevirtual 147, 3) := by decide +kernel
theorem d174_15 : decode prog_12_method_48_code 15 = .ok (.iadd, 1) := by decide +kernel
theorem d174_16 : decode prog_12_method_48_code 16 = .ok (.aload_n 0, 1) := by decide +kernel
theorem d174_17 : decode prog_12_method_48_code 17 = .ok (.iload_n 1, 1) := by decide +kernel
theorem d174_18 : decode prog_12_method_48_code 18 = .ok (.iconst 1, 1) := by decide +kernel
theorem d174_19 : decode prog_12_method_48_code 19 = .ok (.invokevirtual 147, 3) := by decide +kernel
theorem d174_22 : decode prog_12_method_48_code 22 = .ok (.iadd, 1) := by decide +kernel
theorem d174_23 : decode prog_12_method_48_code 23 = .ok (.invokevirtual 156, 3) := by decide +kernel
theorem d174_26 : decode prog_12_method_48_code 26 = .ok (.aload_n 0, 1) := by decide +kernel
theorem d174_27 : decode prog_12_method_48_code 27 = .ok (.iload_n 1, 1) := by decide +kernel
theorem d174_28 : decode prog_12_method_48_code 28 = .ok (.iconst 0, 1) := by decide +kernel
theorem d174_29 : decode prog_12_method_48_code 29 = .ok (.iconst 0, 1) := by decide +kernel
theorem d174_30 : decode prog_12_method_48_code 30 = .ok (.invokevirtual 156, 3) := by decide +kernel
theorem d174_33 : decode prog_12_method_48_code 33 = .ok (.aload_n 0, 1) := by decide +kernel
theorem d174_34 : decode prog_12_method_48_code 34 = .ok (.iload_n 1, 1) := by decide +kernel
theorem d174_35 : decode prog_12_method_48_code 35 = .ok (.iconst 1, 1) := by decide +kernel
theorem d174_36 : decode prog_12_method_48_code 36 = .ok (.iconst 0, 1) := by decide +kernel
theorem d174_37 : decode prog_12_method_48_code 37 = .ok (.invokevirtual 156, 3) := by decide +kernel
theorem d174_40 : decode prog_12_method_48_code 40 = .ok (.aload_n 0, 1) := by decide +kernel
theorem d174_41 : decode prog_12_method_48_code 41 = .ok (.iload_n 1, 1) := by decide +kernel
theorem d174_42 : decode prog_12_method_48_code 42 = .ok (.iconst 2, 1) := by decide +kernel
theorem d174_43 : decode prog_12_method_48_code 43 = .ok (.invokevirtual 147, 3) := by decide +kernel
theorem d174_46 : decode prog_12_method_48_code 46 = .ok (.ireturn, 1) := by decide +kernel
theorem d175_0 : decode prog_12_method_52_code 0 = .ok (.aload_n 0, 1) := by decide +kernel
theorem d175_1 : decode prog_12_method_52_code 1 = .ok (.invokevirtual 100, 3) := by decide +kernel
theorem d175_4 : decode prog_12_method_52_code 4 = .ok (.iload_n 1, 1) := by decide +kernel
theorem d175_5 : decode prog_12_method_52_code 5 = .ok (.iload_n 2, 1) := by decide +kernel
theorem d175_6 : decode prog_12_method_52_code 6 = .ok (.invokestatic 201, 3) := by decide +kernel
theorem d175_9 : decode prog_12_method_52_code 9 = .ok (.istore_n 3, 1) := by decide +kernel
theorem d175_10 : decode prog_12_method_52_code 10 = .ok (.iload_n 3, 1) := by decide +kernel
theorem d175_11 : decode prog_12_method_52_code 11 = .ok (.ifCond .le 11, 3) := by decide +kernel
theorem d175_14 : decode prog_12_method_52_code 14 = .ok (.aload_n 0, 1) := by decide +kernel
theorem d175_15 : decode prog_12_method_52_code 15 = .ok (.iload_n 3, 1) := by decide +kernel
theorem d175_16 : decode prog_12_method_52_code 16 = .ok (.invokevirtual 107, 3) := by decide +kernel
theorem d175_19 : decode prog_12_method_52_code 19 = .ok (.goto 13, 3) := by decide +kernel
theorem d175_22 : decode prog_12_method_52_code 22 = .ok (.aload_n 0, 1) := by decide +kernel
theorem d175_23 : decode prog_12_method_52_code 23 = .ok (.aload_n 0, 1) := by decide +kernel
theorem d175_24 : decode prog_12_method_52_code 24 = .ok (.iload_n 1, 1) := by decide +kernel
theorem d175_25 : decode prog_12_method_52_code 25 = .ok (.iload_n 2, 1) := by decide +kernel
theorem d175_26 : decode prog_12_method_52_code 26 = .ok (.invokevirtual 204, 3) := by decide +kernel
theorem d175_29 : decode prog_12_method_52_code 29 = .ok (.invokevirtual 114, 3) := by decide +kernel
theorem d175_32 : decode prog_12_method_52_code 32 = .ok (.ireturn, 1) := by decide +kernel
theorem d176_0 : decode prog_12_method_51_code 0 = .ok (.iload_n 0, 1) := by decide +kernel
theorem d176_1 : decode prog_12_method_51_code 1 = .ok (.invokestatic 123, 3) := by decide +kernel
theorem d176_4 : decode prog_12_method_51_code 4 = .ok (.ifCond .ne 7, 3) := by decide +kernel
theorem d176_7 : decode prog_12_method_51_code 7 = .ok (.iconst 1, 1) := by decide +kernel
theorem d176_8 : decode prog_12_method_51_code 8 = .ok (.goto 18, 3) := by decide +kernel
theorem d176_11 : decode prog_12_method_51_code 11 = .ok (.iload_n 1, 1) := by decide +kernel
theorem d176_12 : decode prog_12_method_51_code 12 = .ok (.iconst 1, 1) := by decide +kernel
theorem d176_13 : decode prog_12_method_51_code 13 = .ok (.bipush 99, 2) := by decide +kernel
theorem d176_15 : decode prog_12_method_51_code 15 = .ok (.invokestatic 89, 3) := by decide +kernel
theorem d176_18 : decode prog_12_method_51_code 18 = .ok (.ifCond .ne 7, 3) := by decide +kernel
theorem d176_21 : decode prog_12_method_51_code 21 = .ok (.iconst 2, 1) := by decide +kernel
theorem d176_22 : decode prog_12_method_51_code 22 = .ok (.goto 4, 3) := by decide +kernel
theorem d176_25 : decode prog_12_method_51_code 25 = .ok (.iconst 0, 1) := by decide +kernel
theorem d176_26 : decode prog_12_method_51_code 26 = .ok (.ireturn, 1) := by decide +kernel
theorem d177_0 : decode prog_12_method_50_code 0 = .ok (.aload_n 0, 1) := by decide +kernel
theorem d177_1 : decode prog_12_method_50_code 1 = .ok (.iload_n 1, 1) := by decide +kernel
theorem d177_2 : decode prog_12_method_50_code 2 = .ok (.iconst 2, 1) := by decide +kernel
theorem d177_3 : decode prog_12_method_50_code 3 = .ok (.aload_n 0, 1) := by decide +kernel
theorem d177_4 : decode prog_12_method_50_code 4 = .ok (.iload_n 1, 1) := by decide +kernel
theorem d177_5 : decode prog_12_method_50_code 5 = .ok (.iconst 2, 1) := by decide +kernel
theorem d177_6 : decode prog_12_method_50_code 6 = .ok (.invokevirtual 147, 3) := by decide +kernel
theorem d177_9 : decode prog_12_method_50_code 9 = .ok (.iload_n 2, 1) := by decide +kernel
theorem d177_10 : decode prog_12_method_50_code 10 = .ok (.iadd, 1) := by decide +kernel
theorem d177_11 : decode prog_12_method_50_code 11 = .ok (.invokevirtual 156, 3) := by decide +kernel
theorem d177_14 : decode prog_12_method_50_code 14 = .ok (.aload_n 0, 1) := by decide +kernel
theorem d177_15 : decode prog_12_method_50_code 15 = .ok (.iload_n 1, 1) := by decide +kernel
theorem d177_16 : decode prog_12_method_50_code 16 = .ok (.iconst 2, 1) := by decide +kernel
theorem d177_17 : decode prog_12_method_50_code 17 = .ok (.invokevirtual 147, 3) := by decide +kernel
theorem d177_20 : decode prog_12_method_50_code 20 = .ok (.ireturn, 1) := by decide +kernel
theorem d178_0 : decode prog_12_method_55_code 0 = .ok (.aload_n 0, 1) := by decide +kernel
theorem d178_1 : decode prog_12_method_55_code 1 = .ok (.aload_n 0, 1) := by decide +kernel
theorem d178_2 : decode prog_12_method_55_code 2 = .ok (.getfield 7, 3) := by decide +kernel
theorem d178_5 : decode prog_12_method_55_code 5 = .ok (.iconst 0, 1) := by decide +kernel
theorem d178_6 : decode prog_12_method_55_code 6 = .ok (.iaload, 1) := by decide +kernel
theorem d178_7 : decode prog_12_method_55_code 7 = .ok (.invokevirtual 207, 3) := by decide +kernel
theorem d178_10 : decode prog_12_method_55_code 10 = .ok (.ireturn, 1) := by decide +kernel
theorem d179_0 : decode prog_12_method_53_code 0 = .ok (.aload_n 0, 1) := by decide +kernel
theorem d179_1 : decode prog_12_method_53_code 1 = .ok (.iconst 0, 1) := by decide +kernel
theorem d179_2 : decode prog_12_method_53_code 2 = .ok (.putfield 28, 3) := by decide +kernel
theorem d179_5 : decode prog_12_method_53_code 5 = .ok (.iload_n 1, 1) := by decide +kernel
theorem d179_6 : decode prog_12_method_53_code 6 = .ok (.ireturn, 1) := by decide +kernel
theorem d180_0 : decode prog_12_method_56_code 0 = .ok (.aload_n 0, 1) := by decide +kernel
theorem d180_1 : decode prog_12_method_56_code 1 = .ok (.aload_n 0, 1) := by decide +kernel
theorem d180_2 : decode prog_12_method_56_code 2 = .ok (.iload_n 1, 1) := by decide +kernel
theorem d180_3 : decode prog_12_method_56_code 3 = .ok (.invokevirtual 117, 3) := by decide +kernel
theorem d180_6 : decode prog_12_method_56_code 6 = .ok (.invokevirtual 207, 3) := by decide +kernel
theorem d180_9 : decode prog_12_method_56_code 9 = .ok (.ifCond .lt 7, 3) := by decide +kernel
theorem d180_12 : decode prog_12_method_56_code 12 = .ok (.iconst 1, 1) := by decide +kernel
theorem d180_13 : decode prog_12_method_56_code 13 = .ok (.goto 4, 3) := by decide +kernel
theorem d180_16 : decode prog_12_method_56_code 16 = .ok (.iconst 0, 1) := by decide +kernel
theorem d180_17 : decode prog_12_method_56_code 17 = .ok (.ireturn, 1) := by decide +kernel
theorem d181_0 : decode prog_12_method_58_code 0 = .ok (.aload_n 0, 1) := by decide +kernel
theorem d181_1 : decode prog_12_method_58_code 1 = .ok (.iload_n 1, 1) := by decide +kernel
theorem d181_2 : decode prog_12_method_58_code 2 = .ok (.iconst 3, 1) := by decide +kernel
theorem d181_3 : decode prog_12_method_58_code 3 = .ok (.invokevirtual 214, 3) := by decide +kernel
theorem d181_6 : decode prog_12_method_58_code 6 = .ok (.istore_n 2, 1) := by decide +kernel
theorem d181_7 : decode prog_12_method_58_code 7 = .ok (.aload_n 0, 1) := by decide +kernel
theorem d181_8 : decode prog_12_method_58_code 8 = .ok (.getfield 28, 3) := by decide +kernel
theorem d181_11 : decode prog_12_method_58_code 11 = .ok (.ifCond .le 8, 3) := by decide +kernel
theorem d181_14 : decode prog_12_method_58_code 14 = .ok (.bipush 32, 2) := by decide +kernel
theorem d181_16 : decode prog_12_method_58_code 16 = .ok (.goto 5, 3) := by decide +kernel
theorem d181_19 : decode prog_12_method_58_code 19 = .ok (.iload_n 2, 1) := by decide +kernel
theorem d181_20 : decode prog_12_method_58_code 20 = .ok (.i2c, 1) := by decide +kernel
theorem d181_21 : decode prog_12_method_58_code 21 = .ok (.ireturn, 1) := by decide +kernel
theorem d182_0 : decode prog_12_method_57_code 0 = .ok (.aload_n 0, 1) := by decide +kernel
theorem d182_1 : decode prog_12_method_57_code 1 = .ok (.aload_n 0, 1) := by decide +kernel
theorem d182_2 : decode prog_12_method_57_code 2 = .ok (.iload_n 1, 1) := by decide +kernel
theorem d182_3 : decode prog_12_method_57_code 3 = .ok (.invokevirtual 117, 3) := by decide +kernel
theorem d182_6 : decode prog_12_method_57_code 6 = .ok (.ifCond .lt 7, 3) := by decide +kernel
theorem d182_9 : decode prog_12_method_57_code 9 = .ok (.iconst 1, 1) := by decide +kernel
theorem d182_10 : decode prog_12_method_57_code 10 = .ok (.goto 4, 3) := by decide +kernel
theorem d182_13 : decode prog_12_method_57_code 13 = .ok (.iconst 0, 1) := by decide +kernel
theorem d182_14 : decode prog_12_method_57_code 14 = .ok (.invokevirtual 210, 3) := by decide +kernel
theorem d182_17 : decode prog_12_method_57_code 17 = .ok (.ifCond .le 7, 3) := by decide +kernel
theorem d182_20 : decode prog_12_method_57_code 20 = .ok (.iconst 0, 1) := by decide +kernel
theorem d182_21 : decode prog_12_method_57_code 21 = .ok (.goto 13, 3) := by decide +kernel
theorem d182_24 : decode prog_12_method_57_code 24 = .ok (.aload_n 0, 1) := by decide +kernel
theorem d182_25 : decode prog_12_method_57_code 25 = .ok (.aload_n 0, 1) := by decide +kernel
theorem d182_26 : decode prog_12_method_57_code 26 = .ok (.iload_n 1, 1) := by decide +kernel
theorem d182_27 : decode prog_12_method_57_code 27 = .ok (.invokevirtual 117, 3) := by decide +kernel
theorem d182_30 : decode prog_12_method_57_code 30 = .ok (.iload_n 2, 1) := by decide +kernel
theorem d182_31 : decode prog_12_method_57_code 31 = .ok (.invokevirtual 85, 3) := by decide +kernel
theorem d182_34 : decode prog_12_method_57_code 34 = .ok (.ireturn, 1) := by decide +kernel
theorem d183_0 : decode prog_12_method_54_code 0 = .ok (.aload_n 0, 1) := by decide +kernel
theorem d183_1 : decode prog_12_method_54_code 1 = .ok (.iload_n 1, 1) := by decide +kernel
theorem d183_2 : decode prog_12_method_54_code 2 = .ok (.ifCond .eq 7, 3) := by decide +kernel
theorem d183_5 : decode prog_12_method_54_code 5 = .ok (.iconst 0, 1) := by decide +kernel
theorem d183_6 : decode prog_12_method_54_code 6 = .ok (.goto 4, 3) := by decide +kernel
theorem d183_9 : decode prog_12_method_54_code 9 = .ok (.iconst 1, 1) := by decide +kernel
theorem d183_10 : decode prog_12_method_54_code 10 = .ok (.putfield 28, 3) := by decide +kernel
theorem d183_13 : decode prog_12_method_54_code 13 = .ok (.aload_n 0, 1) := by decide +kernel
theorem d183_14 : decode prog_12_method_54_code 14 = .ok (.getfield 28, 3) := by decide +kernel
theorem d183_17 : decode prog_12_method_54_code 17 = .ok (.ireturn, 1) := by decide +kernel
theorem d184_0 : decode prog_12_method_59_code 0 = .ok (.aload_n 0, 1) := by decide +kernel
theorem d184_1 : decode prog_12_method_59_code 1 = .ok (.iload_n 1, 1) := by decide +kernel
theorem d184_2 : decode prog_12_method_59_code 2 = .ok (.iconst 4, 1) := by decide +kernel
theorem d184_3 : decode prog_12_method_59_code 3 = .ok (.invokevirtual 214, 3) := by decide +kernel
theorem d184_6 : decode prog_12_method_59_code 6 = .ok (.ireturn, 1) := by decide +kernel
theorem d185_0 : decode prog_12_method_60_code 0 = .ok (.aload_n 0, 1) := by decide +kernel
theorem d185_1 : decode prog_12_method_60_code 1 = .ok (.iload_n 1, 1) := by decide +kernel
theorem d185_2 : decode prog_12_method_60_code 2 = .ok (.bipush 6, 2) := by decide +kernel
theorem d185_4 : decode prog_12_method_60_code 4 = .ok (.invokevirtual 214, 3) := by decide +kernel
theorem d185_7 : decode prog_12_method_60_code 7 = .ok (.ireturn, 1) := by decide +kernel
theorem d186_0 : decode prog_12_method_61_code 0 = .ok (.aload_n 0, 1) := by decide +kernel
theorem d186_1 : decode prog_12_method_61_code 1 = .ok (.iload_n 1, 1) := by decide +kernel
theorem d186_2 : decode prog_12_method_61_code 2 = .ok (.bipush 7, 2) := by decide +kernel
theorem d186_4 : decode prog_12_method_61_code 4 = .ok (.invokevirtual 214, 3) := by decide +kernel
theorem d186_7 : decode prog_12_method_61_code 7 = .ok (.istore_n 2, 1) := by decide +kernel
theorem d186_8 : decode prog_12_method_61_code 8 = .ok (.aload_n 0, 1) := by decide +kernel
theorem d186_9 : decode prog_12_method_61_code 9 = .ok (.getfield 28, 3) := by decide +kernel
theorem d186_12 : decode prog_12_method_61_code 12 = .ok (.ifCond .le 7, 3) := by decide +kernel
theorem d186_15 : decode prog_12_method_61_code 15 = .ok (.iconst 0, 1) := by decide +kernel
theorem d186_16 : decode prog_12_method_61_code 16 = .ok (.goto 18, 3) := by decide +kernel
theorem d186_19 : decode prog_12_method_61_code 19 = .ok (.iload_n 2, 1) := by decide +kernel
theorem d186_20 : decode prog_12_method_61_code 20 = .ok (.ifCond .ne 11, 3) := by decide +kernel
theorem d186_23 : decode prog_12_method_61_code 23 = .ok (.aload_n 0, 1) := by decide +kernel
theorem d186_24 : decode prog_12_method_61_code 24 = .ok (.iconst 1, 1) := by decide +kernel
theorem d186_25 : decode prog_12_method_61_code 25 = .ok (.invokevirtual 107, 3) := by decide +kernel
theorem d186_28 : decode prog_12_method_61_code 28 = .ok (.goto 6, 3) := by decide +kernel
theorem d186_31 : decode prog_12_method_61_code 31 = .ok (.iload_n 2, 1) := by decide +kernel
theorem d186_32 : decode prog_12_method_61_code 32 = .ok (.iconst 1, 1) := by decide +kernel
theorem d186_33 : decode prog_12_method_61_code 33 = .ok (.isub, 1) := by decide +kernel
theorem d186_34 : decode prog_12_method_61_code 34 = .ok (.ireturn, 1) := by decide +kernel
theorem d187_0 : decode prog_12_method_62_code 0 = .ok (.aload_n 0, 1) := by decide +kernel
theorem d187_1 : decode prog_12_method_62_code 1 = .ok (.iconst 0, 1) := by decide +kernel
theorem d187_2 : decode prog_12_method_62_code 2 = .ok (.putfield 28, 3) := by decide +kernel
theorem d187_5 : decode prog_12_method_62_code 5 = .ok (.iconst 0, 1) := by decide +kernel
theorem d187_6 : decode prog_12_method_62_code 6 = .ok (.istore_n 2, 1) := by decide +kernel
theorem d187_7 : decode prog_12_method_62_code 7 = .ok (.iload_n 2, 1) := by decide +kernel
theorem d187_8 : decode prog_12_method_62_code 8 = .ok (.aload_n 0, 1) := by decide +kernel
theorem d187_9 : decode prog_12_method_62_code 9 = .ok (.getfield 7, 3) := by decide +kernel
theorem d187_12 : decode prog_12_method_62_code 12 = .ok (.iconst 0, 1) := by decide +kernel
theorem d187_13 : decode prog_12_method_62_code 13 = .ok (.iaload, 1) := by decide +kernel
theorem d187_14 : decode prog_12_method_62_code 14 = .ok (.if_icmp .ge 93, 3) := by decide +kernel
theorem d187_17 : decode prog_12_method_62_code 17 = .ok (.iconst 0, 1) := by decide +kernel
theorem d187_18 : decode prog_12_method_62_code 18 = .ok (.istore_n 3, 1) := by decide +kernel
theorem d187_19 : decode prog_12_method_62_code 19 = .ok (.iconst 0, 1) := by decide +kernel
theorem d187_20 : decode prog_12_method_62_code 20 = .ok (.istore 4, 2) := by decide +kernel
theorem d187_22 : decode prog_12_method_62_code 22 = .ok (.iload 4, 2) := by decide +kernel
theorem d187_24 : decode prog_12_method_62_code 24 = .ok (.aload_n 0, 1) := by decide +kernel
theorem d187_25 : decode prog_12_method_62_code 25 = .ok (.getfield 7, 3) := by decide +kernel
theorem d187_28 : decode prog_12_method_62_code 28 = .ok (.iconst 0, 1) := by decide +kernel
theorem d187_29 : decode prog_12_method_62_code 29 = .ok (.iaload, 1) := by decide +kernel
theorem d187_30 : decode prog_12_method_62_code 30 = .ok (.if_icmp .ge 59, 3) := by decide +kernel
theorem d187_33 : decode prog_12_method_62_code 33 = .ok (.iload_n 3, 1) := by decide +kernel
theorem d187_34 : decode prog_12_method_62_code 34 = .ok (.aload_n 0, 1) := by decide +kernel
theorem d187_35 : decode prog_12_method_62_code 35 = .ok (.iload 4, 2) := by decide +kernel
theorem d187_37 : decode prog_12_method_62_code 37 = .ok (.bipush 6, 2) := by decide +kernel
theorem d187_39 : decode prog_12_method_62_code 39 = .ok (.invokevirtual 85, 3) := by decide +kernel
theorem d187_42 : decode prog_12_method_62_code 42 = .ok (.aload_n 0, 1) := by decide +kernel
theorem d187_43 : decode prog_12_method_62_code 43 = .ok (.iload_n 2, 1) := by decide +kernel
theorem d187_44 : decode prog_12_method_62_code 44 = .ok (.bipush 6, 2) := by decide +kernel
theorem d187_46 : decode prog_12_method_62_code 46 = .ok (.invokevirtual 85, 3) := by decide +kernel
theorem d187_49 : decode prog_12_method_62_code 49 = .ok (.if_icmp .lt 27, 3) := by decide +kernel
theorem d187_52 : decode prog_12_method_62_code 52 = .ok (.aload_n 0, 1) := by decide +kernel
theorem d187_53 : decode prog_12_method_62_code 53 = .ok (.iload 4, 2) := by decide +kernel
theorem d187_55 : decode prog_12_method_62_code 55 = .ok (.bipush 6, 2) := by decide +kernel
theorem d187_57 : decode prog_12_method_62_code 57 = .ok (.invokevirtual 85, 3) := by decide +kernel
theorem d187_60 : decode prog_12_method_62_code 60 = .ok (.aload_n 0, 1) := by decide +kernel
theorem d187_61 : decode prog_12_method_62_code 61 = .ok (.iload_n 2, 1) := by decide +kernel
theorem d187_62 : decode prog_12_method_62_code 62 = .ok (.bipush 6, 2) := by decide +kernel
theorem d187_64 : decode prog_12_method_62_code 64 = .ok (.invokevirtual 85, 3) := by decide +kernel
theorem d187_67 : decode prog_12_method_62_code 67 = .ok (.if_icmp .ne 13, 3) := by decide +kernel
theorem d187_70 : decode prog_12_method_62_code 70 = .ok (.iload 4, 2) := by decide +kernel
theorem d187_72 : decode prog_12_method_62_code 72 = .ok (.iload_n 2, 1) := by decide +kernel
theorem d187_73 : decode prog_12_method_62_code 73 = .ok (.if_icmp .ge 7, 3) := by decide +kernel
theorem d187_76 : decode prog_12_method_62_code 76 = .ok (.iconst 1, 1) := by decide +kernel
theorem d187_77 : decode prog_12_method_62_code 77 = .ok (.goto 4, 3) := by decide +kernel
theorem d187_80 : decode prog_12_method_62_code 80 = .ok (.iconst 0, 1) := by decide +kernel
theorem d187_81 : decode prog_12_method_62_code 81 = .ok (.iadd, 1) := by decide +kernel
theorem d187_82 : decode prog_12_method_62_code 82 = .ok (.istore_n 3, 1) := by decide +kernel
theorem d187_83 : decode prog_12_method_62_code 83 = .ok (.iinc 4 1, 3) := by decide +kernel
theorem d187_86 : decode prog_12_method_62_code 86 = .ok (.goto (-64), 3) := by decide +kernel
theorem d187_89 : decode prog_12_method_62_code 89 = .ok (.iload_n 3, 1) := by decide +kernel
theorem d187_90 : decode prog_12_method_62_code 90 = .ok (.iload_n 1, 1) := by decide +kernel
theorem d187_91 : decode prog_12_method_62_code 91 = .ok (.if_icmp .ne 10, 3) := by decide +kernel
theorem d187_94 : decode prog_12_method_62_code 94 = .ok (.aload_n 0, 1) := by decide +kernel
theorem d187_95 : decode prog_12_method_62_code 95 = .ok (.iload_n 2, 1) := by decide +kernel
theorem d187_96 : decode prog_12_method_62_code 96 = .ok (.iconst 0, 1) := by decide +kernel
theorem d187_97 : decode prog_12_method_62_code 97 = .ok (.invokevirtual 85, 3) := by decide +kernel
theorem d187_100 : decode prog_12_method_62_code 100 = .ok (.ireturn, 1) := by decide +kernel
theorem d187_101 : decode prog_12_method_62_code 101 = .ok (.iinc 2 1, 3) := by decide +kernel
theorem d187_104 : decode prog_12_method_62_code 104 = .ok (.goto (-97), 3) := by decide +kernel
theorem d187_107 : decode prog_12_method_62_code 107 = .ok (.aload_n 0, 1) := by decide +kernel
theorem d187_108 : decode prog_12_method_62_code 108 = .ok (.iconst 1, 1) := by decide +kernel
theorem d187_109 : decode prog_12_method_62_code 109 = .ok (.invokevirtual 107, 3) := by decide +kernel
theorem d187_112 : decode prog_12_method_62_code 112 = .ok (.ireturn, 1) := by decide +kernel
theorem d188_0 : decode prog_12_method_63_code 0 = .ok (.aload_n 0, 1) := by decide +kernel
theorem d188_1 : decode prog_12_method_63_code 1 = .ok (.iload_n 1, 1) := by decide +kernel
theorem d188_2 : decode prog_12_method_63_code 2 = .ok (.invokestatic 93, 3) := by decide +kernel
theorem d188_5 : decode prog_12_method_63_code 5 = .ok (.invokevirtual 210, 3) := by decide +kernel
theorem d188_8 : decode prog_12_method_63_code 8 = .ok (.ifCond .le 7, 3) := by decide +kernel
theorem d188_11 : decode prog_12_method_63_code 11 = .ok (.iconst 0, 1) := by decide +kernel
theorem d188_12 : decode prog_12_method_63_code 12 = .ok (.goto 15, 3) := by decide +kernel
theorem d188_15 : decode prog_12_method_63_code 15 = .ok (.aload_n 0, 1) := by decide +kernel
theorem d188_16 : decode prog_12_method_63_code 16 = .ok (.getfield 7, 3) := by decide +kernel
theorem d188_19 : decode prog_12_method_63_code 19 = .ok (.bipush 8, 2) := by decide +kernel
theorem d188_21 : decode prog_12_method_63_code 21 = .ok (.iload_n 1, 1) := by decide +kernel
theorem d188_22 : decode prog_12_method_63_code 22 = .ok (.iadd, 1) := by decide +kernel
theorem d188_23 : decode prog_12_method_63_code 23 = .ok (.bipush 97, 2) := by decide +kernel
theorem d188_25 : decode prog_12_method_63_code 25 = .ok (.isub, 1) := by decide +kernel
theorem d188_26 : decode prog_12_method_63_code 26 = .ok (.iaload, 1) := by decide +kernel
theorem d188_27 : decode prog_12_method_63_code 27 = .ok (.ireturn, 1) := by decide +kernel
theorem d189_0 : decode prog_12_method_64_code 0 = .ok (.aload_n 0, 1) := by decide +kernel
theorem d189_1 : decode prog_12_method_64_code 1 = .ok (.iload_n 1, 1) := by decide +kernel
theorem d189_2 : decode prog_12_method_64_code 2 = .ok (.invokestatic 123, 3) := by decide +kernel
theorem d189_5 : decode prog_12_method_64_code 5 = .ok (.ifCond .ne 7, 3) := by decide +kernel
theorem d189_8 : decode prog_12_method_64_code 8 = .ok (.iconst 1, 1) := by decide +kernel
theorem d189_9 : decode prog_12_method_64_code 9 = .ok (.goto 15, 3) := by decide +kernel
theorem d189_12 : decode prog_12_method_64_code 12 = .ok (.iload_n 2, 1) := by decide +kernel
theorem d189_13 : decode prog_12_method_64_code 13 = .ok (.invokestatic 93, 3) := by decide +kernel
theorem d189_16 : decode prog_12_method_64_code 16 = .ok (.ifCond .ne 7, 3) := by decide +kernel
theorem d189_19 : decode prog_12_method_64_code 19 = .ok (.iconst 2, 1) := by decide +kernel
theorem d189_20 : decode prog_12_method_64_code 20 = .ok (.goto 4, 3) := by decide +kernel
theorem d189_23 : decode prog_12_method_64_code 23 = .ok (.iconst 0, 1) := by decide +kernel
theorem d189_24 : decode prog_12_method_64_code 24 = .ok (.putfield 28, 3) := by decide +kernel
theorem d189_27 : decode prog_12_method_64_code 27 = .ok (.aload_n 0, 1) := by decide +kernel
theorem d189_28 : decode prog_12_method_64_code 28 = .ok (.getfield 28, 3) := by decide +kernel
theorem d189_31 : decode prog_12_method_64_code 31 = .ok (.ifCond .le 7, 3) := by decide +kernel
theorem d189_34 : decode prog_12_method_64_code 34 = .ok (.iconst 0, 1) := by decide +kernel
theorem d189_35 : decode prog_12_method_64_code 35 = .ok (.goto 14, 3) := by decide +kernel
theorem d189_38 : decode prog_12_method_64_code 38 = .ok (.aload_n 0, 1) := by decide +kernel
theorem d189_39 : decode prog_12_method_64_code 39 = .ok (.iload_n 1, 1) := by decide +kernel
theorem d189_40 : decode prog_12_method_64_code 40 = .ok (.iconst 4, 1) := by decide +kernel
theorem d189_41 : decode prog_12_method_64_code 41 = .ok (.iload_n 2, 1) := by decide +kernel
theorem d189_42 : decode prog_12_method_64_code 42 = .ok (.iadd, 1) := by decide +kernel
theorem d189_43 : decode prog_12_method_64_code 43 = .ok (.bipush 97, 2) := by decide +kernel
theorem d189_45 : decode prog_12_method_64_code 45 = .ok (.isub, 1) := by decide +kernel
theorem d189_46 : decode prog_12_method_64_code 46 = .ok (.invokevirtual 147, 3) := by decide +kernel
theorem d189_49 : decode prog_12_method_64_code 49 = .ok (.ireturn, 1) := by decide +kernel
theorem d190_0 : decode prog_12_method_65_code 0 = .ok (.aload_n 0, 1) := by decide +kernel
theorem d190_1 : decode prog_12_method_65_code 1 = .ok (.iload_n 1, 1) := by decide +kernel
theorem d190_2 : decode prog_12_method_65_code 2 = .ok (.invokestatic 123, 3) := by decide +kernel
theorem d190_5 : decode prog_12_method_65_code 5 = .ok (.invokevirtual 210, 3) := by decide +kernel
theorem d190_8 : decode prog_12_method_65_code 8 = .ok (.ifCond .le 7, 3) := by decide +kernel
theorem d190_11 : decode prog_12_method_65_code 11 = .ok (.iconst 0, 1) := by decide +kernel
theorem d190_12 : decode prog_12_method_65_code 12 = .ok (.goto 8, 3) := by decide +kernel
theorem d190_15 : decode prog_12_method_65_code 15 = .ok (.aload_n 0, 1) := by decide +kernel
theorem d190_16 : decode prog_12_method_65_code 16 = .ok (.iload_n 1, 1) := by decide +kernel
theorem d190_17 : decode prog_12_method_65_code 17 = .ok (.invokevirtual 167, 3) := by decide +kernel
theorem d190_20 : decode prog_12_method_65_code 20 = .ok (.ireturn, 1) := by decide +kernel
theorem d191_0 : decode prog_12_method_66_code 0 = .ok (.aload_n 0, 1) := by decide +kernel
theorem d191_1 : decode prog_12_method_66_code 1 = .ok (.iload_n 1, 1) := by decide +kernel
theorem d191_2 : decode prog_12_method_66_code 2 = .ok (.invokestatic 97, 3) := by decide +kernel
theorem d191_5 : decode prog_12_method_66_code 5 = .ok (.ifCond .ne 7, 3) := by decide +kernel
theorem d191_8 : decode prog_12_method_66_code 8 = .ok (.iconst 1, 1) := by decide +kernel
theorem d191_9 : decode prog_12_method_66_code 9 = .ok (.goto 20, 3) := by decide +kernel
theorem d191_12 : decode prog_12_method_66_code 12 = .ok (.aload_n 0, 1) := by decide +kernel
theorem d191_13 : decode prog_12_method_66_code 13 = .ok (.getfield 7, 3) := by decide +kernel
theorem d191_16 : decode prog_12_method_66_code 16 = .ok (.bipush 12, 2) := by decide +kernel
theorem d191_18 : decode prog_12_method_66_code 18 = .ok (.iload_n 1, 1) := by decide +kernel
theorem d191_19 : decode prog_12_method_66_code 19 = .ok (.iadd, 1) := by decide +kernel
theorem d191_20 : decode prog_12_method_66_code 20 = .ok (.iaload, 1) := by decide +kernel
theorem d191_21 : decode prog_12_method_66_code 21 = .ok (.ifCond .ne 7, 3) := by decide +kernel
theorem d191_24 : decode prog_12_method_66_code 24 = .ok (.iconst 2, 1) := by decide +kernel
theorem d191_25 : decode prog_12_method_66_code 25 = .ok (.goto 4, 3) := by decide +kernel
theorem d191_28 : decode prog_12_method_66_code 28 = .ok (.iconst 0, 1) := by decide +kernel
theorem d191_29 : decode prog_12_method_66_code 29 = .ok (.putfield 28, 3) := by decide +kernel
theorem d191_32 : decode prog_12_method_66_code 32 = .ok (.aload_n 0, 1) := by decide +kernel
theorem d191_33 : decode prog_12_method_66_code 33 = .ok (.getfield 28, 3) := by decide +kernel
theorem d191_36 : decode prog_12_method_66_code 36 = .ok (.ifCond .le 7, 3) := by decide +kernel
theorem d191_39 : decode prog_12_method_66_code 39 = .ok (.iconst 0, 1) := by decide +kernel
theorem d191_40 : decode prog_12_method_66_code 40 = .ok (.goto 14, 3) := by decide +kernel
theorem d191_43 : decode prog_12_method_66_code 43 = .ok (.aload_n 0, 1) := by decide +kernel
theorem d191_44 : decode prog_12_method_66_code 44 = .ok (.getfield 7, 3) := by decide +kernel
theorem d191_47 : decode prog_12_method_66_code 47 = .ok (.bipush 12, 2) := by decide +kernel
theorem d191_49 : decode prog_12_method_66_code 49 = .ok (.iload_n 1, 1) := by decide +kernel
theorem d191_50 : decode prog_12_method_66_code 50 = .ok (.iadd, 1) := by decide +kernel
theorem d191_51 : decode prog_12_method_66_code 51 = .ok (.iaload, 1) := by decide +kernel
theorem d191_52 : decode prog_12_method_66_code 52 = .ok (.iconst 1, 1) := by decide +kernel
theorem d191_53 : decode prog_12_method_66_code 53 = .ok (.isub, 1) := by decide +kernel
theorem d191_54 : decode prog_12_method_66_code 54 = .ok (.ireturn, 1) := by decide +kernel
theorem d192_0 : decode prog_12_method_68_code 0 = .ok (.aload_n 0, 1) := by decide +kernel
theorem d192_1 : decode prog_12_method_68_code 1 = .ok (.iload_n 1, 1) := by decide +kernel
theorem d192_2 : decode prog_12_method_68_code 2 = .ok (.iconst 0, 1) := by decide +kernel
theorem d192_3 : decode prog_12_method_68_code 3 = .ok (.invokevirtual 217, 3) := by decide +kernel
theorem d192_6 : decode prog_12_method_68_code 6 = .ok (.ireturn, 1) := by decide +kernel
theorem d193_0 : decode prog_12_method_67_code 0 = .ok (.aload_n 0, 1) := by decide +kernel
theorem d193_1 : decode prog_12_method_67_code 1 = .ok (.iload_n 1, 1) := by decide +kernel
theorem d193_2 : decode prog_12_method_67_code 2 = .ok (.invokestatic 123, 3) := by decide +kernel
theorem d193_5 : decode prog_12_method_67_code 5 = .ok (.invokevirtual 210, 3) := by decide +kernel
theorem d193_8 : decode prog_12_method_67_code 8 = .ok (.ifCond .le 7, 3) := by decide +kernel
theorem d193_11 : decode prog_12_method_67_code 11 = .ok (.iconst 0, 1) := by decide +kernel
theorem d193_12 : decode prog_12_method_67_code 12 = .ok (.goto 9, 3) := by decide +kernel
theorem d193_15 : decode prog_12_method_67_code 15 = .ok (.aload_n 0, 1) := by decide +kernel
theorem d193_16 : decode prog_12_method_67_code 16 = .ok (.iload_n 1, 1) := by decide +kernel
theorem d193_17 : decode prog_12_method_67_code 17 = .ok (.iload_n 2, 1) := by decide +kernel
theorem d193_18 : decode prog_12_method_67_code 18 = .ok (.invokevirtual 147, 3) := by decide +kernel
theorem d193_21 : decode prog_12_method_67_code 21 = .ok (.ireturn, 1) := by decide +kernel
theorem d194_0 : decode prog_12_method_69_code 0 = .ok (.aload_n 0, 1) := by decide +kernel
theorem d194_1 : decode prog_12_method_69_code 1 = .ok (.iload_n 1, 1) := by decide +kernel
theorem d194_2 : decode prog_12_method_69_code 2 = .ok (.iconst 1, 1) := by decide +kernel
theorem d194_3 : decode prog_12_method_69_code 3 = .ok (.invokevirtual 217, 3) := by decide +kernel
theorem d194_6 : decode prog_12_method_69_code 6 = .ok (.ireturn, 1) := by decide +kernel
theorem d195_0 : decode prog_12_method_70_code 0 = .ok (.aload_n 0, 1) := by decide +kernel
theorem d195_1 : decode prog_12_method_70_code 1 = .ok (.iload_n 1, 1) := by decide +kernel
theorem d195_2 : decode prog_12_method_70_code 2 = .ok (.iconst 2, 1) := by decide +kernel
theorem d195_3 : decode prog_12_method_70_code 3 = .ok (.invokevirtual 217, 3) := by decide +kernel
theorem d195_6 : decode prog_12_method_70_code 6 = .ok (.ireturn, 1) := by decide +kernel
theorem d196_0 : decode prog_12_method_71_code 0 = .ok (.aload_n 0, 1) := by decide +kernel
theorem d196_1 : decode prog_12_method_71_code 1 = .ok (.iload_n 1, 1) := by decide +kernel
theorem d196_2 : decode prog_12_method_71_code 2 = .ok (.invokestatic 123, 3) := by decide +kernel
theorem d196_5 : decode prog_12_method_71_code 5 = .ok (.invokevirtual 210, 3) := by decide +kernel
theorem d196_8 : decode prog_12_method_71_code 8 = .ok (.ifCond .ne 15, 3) := by decide +kernel
theorem d196_11 : decode prog_12_method_71_code 11 = .ok (.aload_n 0, 1) := by decide +kernel
theorem d196_12 : decode prog_12_method_71_code 12 = .ok (.iload_n 1, 1) := by decide +kernel
theorem d196_13 : decode prog_12_method_71_code 13 = .ok (.invokevirtual 150, 3) := by decide +kernel
theorem d196_16 : decode prog_12_method_71_code 16 = .ok (.ifCond .eq 7, 3) := by decide +kernel
theorem d196_19 : decode prog_12_method_71_code 19 = .ok (.iconst 1, 1) := by decide +kernel
theorem d196_20 : decode prog_12_method_71_code 20 = .ok (.goto 4, 3) := by decide +kernel
theorem d196_23 : decode prog_12_method_71_code 23 = .ok (.iconst 0, 1) := by decide +kernel
theorem d196_24 : decode prog_12_method_71_code 24 = .ok (.ireturn, 1) := by decide +kernel
theorem d197_0 : decode prog_12_method_72_code 0 = .ok (.aload_n 0, 1) := by decide +kernel
theorem d197_1 : decode prog_12_method_72_code 1 = .ok (.iload_n 1, 1) := by decide +kernel
theorem d197_2 : decode prog_12_method_72_code 2 = .ok (.invokestatic 123, 3) := by decide +kernel
theorem d197_5 : decode prog_12_method_72_code 5 = .ok (.invokevirtual 210, 3) := by decide +kernel
theorem d197_8 : decode prog_12_method_72_code 8 = .ok (.ifCond .le 7, 3) := by decide +kernel
theorem d197_11 : decode prog_12_method_72_code 11 = .ok (.iconst 0, 1) := by decide +kernel
theorem d197_12 : decode prog_12_method_72_code 12 = .ok (.goto 8, 3) := by decide +kernel
theorem d197_15 : decode prog_12_method_72_code 15 = .ok (.aload_n 0, 1) := by decide +kernel
theorem d197_16 : decode prog_12_method_72_code 16 = .ok (.iload_n 1, 1) := by decide +kernel
theorem d197_17 : decode prog_12_method_72_code 17 = .ok (.invokevirtual 126, 3) := by decide +kernel
theorem d197_20 : decode prog_12_method_72_code 20 = .ok (.ireturn, 1) := by decide +kernel
theorem d198_0 : decode prog_12_method_74_code 0 = .ok (.aload_n 0, 1) := by decide +kernel
theorem d198_1 : decode prog_12_method_74_code 1 = .ok (.iload_n 1, 1) := by decide +kernel
theorem d198_2 : decode prog_12_method_74_code 2 = .ok (.iload_n 2, 1) := by decide +kernel
theorem d198_3 : decode prog_12_method_74_code 3 = .ok (.invokevirtual 220, 3) := by decide +kernel
theorem d198_6 : decode prog_12_method_74_code 6 = .ok (.ifCond .eq 33, 3) := by decide +kernel
theorem d198_9 : decode prog_12_method_74_code 9 = .ok (.aload_n 0, 1) := by decide +kernel
theorem d198_10 : decode prog_12_method_74_code 10 = .ok (.iload_n 1, 1) := by decide +kernel
theorem d198_11 : decode prog_12_method_74_code 11 = .ok (.aload_n 0, 1) := by decide +kernel
theorem d198_12 : decode prog_12_method_74_code 12 = .ok (.iload_n 2, 1) := by decide +kernel
theorem d198_13 : decode prog_12_method_74_code 13 = .ok (.invokevirtual 117, 3) := by decide +kernel
theorem d198_16 : decode prog_12_method_74_code 16 = .ok (.invokevirtual 182, 3) := by decide +kernel
theorem d198_19 : decode prog_12_method_74_code 19 = .ok (.ifCond .eq 20, 3) := by decide +kernel
theorem d198_22 : decode prog_12_method_74_code 22 = .ok (.aload_n 0, 1) := by decide +kernel
theorem d198_23 : decode prog_12_method_74_code 23 = .ok (.iload_n 1, 1) := by decide +kernel
theorem d198_24 : decode prog_12_method_74_code 24 = .ok (.aload_n 0, 1) := by decide +kernel
theorem d198_25 : decode prog_12_method_74_code 25 = .ok (.iload_n 2, 1) := by decide +kernel
theorem d198_26 : decode prog_12_method_74_code 26 = .ok (.invokevirtual 117, 3) := by decide +kernel
theorem d198_29 : decode prog_12_method_74_code 29 = .ok (.invokevirtual 186, 3) := by decide +kernel
theorem d198_32 : decode prog_12_method_74_code 32 = .ok (.ifCond .eq 7, 3) := by decide +kernel
theorem d198_35 : decode prog_12_method_74_code 35 = .ok (.iconst 1, 1) := by decide +kernel
theorem d198_36 : decode prog_12_method_74_code 36 = .ok (.goto 4, 3) := by decide +kernel
theorem d198_39 : decode prog_12_method_74_code 39 = .ok (.iconst 0, 1) := by decide +kernel
theorem d198_40 : decode prog_12_method_74_code 40 = .ok (.ireturn, 1) := by decide +kernel
theorem d199_0 : decode prog_12_method_73_code 0 = .ok (.aload_n 0, 1) := by decide +kernel
theorem d199_1 : decode prog_12_method_73_code 1 = .ok (.iload_n 1, 1) := by decide +kernel
theorem d199_2 : decode prog_12_method_73_code 2 = .ok (.invokestatic 123, 3) := by decide +kernel
theorem d199_5 : decode prog_12_method_73_code 5 = .ok (.ifCond .ne 7, 3) := by decide +kernel
theorem d199_8 : decode prog_12_method_73_code 8 = .ok (.iconst 1, 1) := by decide +kernel
theorem d199_9 : decode prog_12_method_73_code 9 = .ok (.goto 16, 3) := by decide +kernel
theorem d199_12 : decode prog_12_method_73_code 12 = .ok (.aload_n 0, 1) := by decide +kernel
theorem d199_13 : decode prog_12_method_73_code 13 = .ok (.iload_n 2, 1) := by decide +kernel
theorem d199_14 : decode prog_12_method_73_code 14 = .ok (.invokevirtual 117, 3) := by decide +kernel
theorem d199_17 : decode prog_12_method_73_code 17 = .ok (.ifCond .ge 7, 3) := by decide +kernel
theorem d199_20 : decode prog_12_method_73_code 20 = .ok (.iconst 2, 1) := by decide +kernel
theorem d199_21 : decode prog_12_method_73_code 21 = .ok (.goto 4, 3) := by decide +kernel
theorem d199_24 : decode prog_12_method_73_code 24 = .ok (.iconst 0, 1) := by decide +kernel
theorem d199_25 : decode prog_12_method_73_code 25 = .ok (.putfield 28, 3) := by decide +kernel
theorem d199_28 : decode prog_12_method_73_code 28 = .ok (.aload_n 0, 1) := by decide +kernel
theorem d199_29 : decode prog_12_method_73_code 29 = .ok (.getfield 28, 3) := by decide +kernel
theorem d199_32 : decode prog_12_method_73_code 32 = .ok (.ifCond .ne 7, 3) := by decide +kernel
theorem d199_35 : decode prog_12_method_73_code 35 = .ok (.iconst 1, 1) := by decide +kernel
theorem d199_36 : decode prog_12_method_73_code 36 = .ok (.goto 4, 3) := by decide +kernel
theorem d199_39 : decode prog_12_method_73_code 39 = .ok (.iconst 0, 1) := by decide +kernel
theorem d199_40 : decode prog_12_method_73_code 40 = .ok (.ireturn, 1) := by decide +kernel
theorem d200_0 : decode prog_12_method_75_code 0 = .ok (.aload_n 0, 1) := by decide +kernel
theorem d200_1 : decode prog_12_method_75_code 1 = .ok (.iload_n 1, 1) := by decide +kernel
theorem d200_2 : decode prog_12_method_75_code 2 = .ok (.iload_n 2, 1) := by decide +kernel
theorem d200_3 : decode prog_12_method_75_code 3 = .ok (.invokevirtual 220, 3) := by decide +kernel
theorem d200_6 : decode prog_12_method_75_code 6 = .ok (.ifCond .eq 16, 3) := by decide +kernel
theorem d200_9 : decode prog_12_method_75_code 9 = .ok (.aload_n 0, 1) := by decide +kernel
theorem d200_10 : decode prog_12_method_75_code 10 = .ok (.iload_n 1, 1) := by decide +kernel
theorem d200_11 : decode prog_12_method_75_code 11 = .ok (.aload_n 0, 1) := by decide +kernel
theorem d200_12 : decode prog_12_method_75_code 12 = .ok (.iload_n 2, 1) := by decide +kernel
theorem d200_13 : decode prog_12_method_75_code 13 = .ok (.invokevirtual 117, 3) := by decide +kernel
theorem d200_16 : decode prog_12_method_75_code 16 = .ok (.invokevirtual 189, 3) := by decide +kernel
theorem d200_19 : decode prog_12_method_75_code 19 = .ok (.goto 4, 3) := by decide +kernel
theorem d200_22 : decode prog_12_method_75_code 22 = .ok (.iconst 0, 1) := by decide +kernel
theorem d200_23 : decode prog_12_method_75_code 23 = .ok (.ireturn, 1) := by decide +kernel
theorem d201_0 : decode prog_12_method_76_code 0 = .ok (.aload_n 0, 1) := by decide +kernel
theorem d201_1 : decode prog_12_method_76_code 1 = .ok (.aload_n 0, 1) := by decide +kernel
theorem d201_2 : decode prog_12_method_76_code 2 = .ok (.iload_n 1, 1) := by decide +kernel
theorem d201_3 : decode prog_12_method_76_code 3 = .ok (.invokevirtual 117, 3) := by decide +kernel
theorem d201_6 : decode prog_12_method_76_code 6 = .ok (.ifCond .lt 7, 3) := by decide +kernel
theorem d201_9 : decode prog_12_method_76_code 9 = .ok (.iconst 1, 1) := by decide +kernel
theorem d201_10 : decode prog_12_method_76_code 10 = .ok (.goto 4, 3) := by decide +kernel
theorem d201_13 : decode prog_12_method_76_code 13 = .ok (.iconst 0, 1) := by decide +kernel
theorem d201_14 : decode prog_12_method_76_code 14 = .ok (.invokevirtual 210, 3) := by decide +kernel
theorem d201_17 : decode prog_12_method_76_code 17 = .ok (.ifCond .le 5, 3) := by decide +kernel
theorem d201_20 : decode prog_12_method_76_code 20 = .ok (.iconst 0, 1) := by decide +kernel
theorem d201_21 : decode prog_12_method_76_code 21 = .ok (.ireturn, 1) := by decide +kernel
theorem d201_22 : decode prog_12_method_76_code 22 = .ok (.iconst 0, 1) := by decide +kernel
theorem d201_23 : decode prog_12_method_76_code 23 = .ok (.istore_n 2, 1) := by decide +kernel
theorem d201_24 : decode prog_12_method_76_code 24 = .ok (.iconst 1, 1) := by decide +kernel
theorem d201_25 : decode prog_12_method_76_code 25 = .ok (.istore_n 3, 1) := by decide +kernel
theorem d201_26 : decode prog_12_method_76_code 26 = .ok (.iload_n 3, 1) := by decide +kernel
theorem d201_27 : decode prog_12_method_76_code 27 = .ok (.iconst 3, 1) := by decide +kernel
theorem d201_28 : decode prog_12_method_76_code 28 = .ok (.if_icmp .ge 38, 3) := by decide +kernel
theorem d201_31 : decode prog_12_method_76_code 31 = .ok (.aload_n 0, 1) := by decide +kernel
theorem d201_32 : decode prog_12_method_76_code 32 = .ok (.iload_n 3, 1) := by decide +kernel
theorem d201_33 : decode prog_12_method_76_code 33 = .ok (.aload_n 0, 1) := by decide +kernel
theorem d201_34 : decode prog_12_method_76_code 34 = .ok (.iload_n 1, 1) := by decide +kernel
theorem d201_35 : decode prog_12_method_76_code 35 = .ok (.invokevirtual 117, 3) := by decide +kernel
theorem d201_38 : decode prog_12_method_76_code 38 = .ok (.invokevirtual 189, 3) := by decide +kernel
theorem d201_41 : decode prog_12_method_76_code 41 = .ok (.aload_n 0, 1) := by decide +kernel
theorem d201_42 : decode prog_12_method_76_code 42 = .ok (.iload_n 2, 1) := by decide +kernel
theorem d201_43 : decode prog_12_method_76_code 43 = .ok (.aload_n 0, 1) := by decide +kernel
theorem d201_44 : decode prog_12_method_76_code 44 = .ok (.iload_n 1, 1) := by decide +kernel
theorem d201_45 : decode prog_12_method_76_code 45 = .ok (.invokevirtual 117, 3) := by decide +kernel
theorem d201_48 : decode prog_12_method_76_code 48 = .ok (.invokevirtual 189, 3) := by decide +kernel
theorem d201_51 : decode prog_12_method_76_code 51 = .ok (.if_icmp .ge 7, 3) := by decide +kernel
theorem d201_54 : decode prog_12_method_76_code 54 = .ok (.iload_n 3, 1) := by decide +kernel
theorem d201_55 : decode prog_12_method_76_code 55 = .ok (.goto 4, 3) := by decide +kernel
theorem d201_58 : decode prog_12_method_76_code 58 = .ok (.iload_n 2, 1) := by decide +kernel
theorem d201_59 : decode prog_12_method_76_code 59 = .ok (.istore_n 2, 1) := by decide +kernel
theorem d201_60 : decode prog_12_method_76_code 60 = .ok (.iinc 3 1, 3) := by decide +kernel
theorem d201_63 : decode prog_12_method_76_code 63 = .ok (.goto (-37), 3) := by decide +kernel
theorem d201_66 : decode prog_12_method_76_code 66 = .ok (.iload_n 2, 1) := by decide +kernel
theorem d201_67 : decode prog_12_method_76_code 67 = .ok (.ireturn, 1) := by decide +kernel
theorem d202_0 : decode prog_12_method_83_code 0 = .ok (.aload_n 0, 1) := by decide +kernel
theorem d202_1 : decode prog_12_method_83_code 1 = .ok (.iload_n 1, 1) := by decide +kernel
theorem d202_2 : decode prog_12_method_83_code 2 = .ok (.invokevirtual 241, 3) := by decide +kernel
theorem d202_5 : decode prog_12_method_83_code 5 = .ok (.ireturn, 1) := by decide +kernel
theorem d203_0 : decode prog_12_method_82_code 0 = .ok (.aload_n 0, 1) := by decide +kernel
theorem d203_1 : decode prog_12_method_82_code 1 = .ok (.iload_n 1, 1) := by decide +kernel
theorem d203_2 : decode prog_12_method_82_code 2 = .ok (.invokestatic 123, 3) := by decide +kernel
theorem d203_5 : decode prog_12_method_82_code 5 = .ok (.invokevirtual 210, 3) := by decide +kernel
theorem d203_8 : decode prog_12_method_82_code 8 = .ok (.ifCond .le 5, 3) := by decide +kernel
theorem d203_11 : decode prog_12_method_82_code 11 = .ok (.iconst 0, 1) := by decide +kernel
theorem d203_12 : decode prog_12_method_82_code 12 = .ok (.ireturn, 1) := by decide +kernel
theorem d203_13 : decode prog_12_method_82_code 13 = .ok (.aload_n 0, 1) := by decide +kernel
theorem d203_14 : decode prog_12_method_82_code 14 = .ok (.iload_n 1, 1) := by decide +kernel
theorem d203_15 : decode prog_12_method_82_code 15 = .ok (.invokevirtual 238, 3) := by decide +kernel
theorem d203_18 : decode prog_12_method_82_code 18 = .ok (.aload_n 0, 1) := by decide +kernel
theorem d203_19 : decode prog_12_method_82_code 19 = .ok (.getfield 44, 3) := by decide +kernel
theorem d203_22 : decode prog_12_method_82_code 22 = .ok (.ireturn, 1) := by decide +kernel
theorem d204_0 : decode prog_12_method_81_code 0 = .ok (.aload_n 0, 1) := by decide +kernel
theorem d204_1 : decode prog_12_method_81_code 1 = .ok (.iconst 0, 1) := by decide +kernel
theorem d204_2 : decode prog_12_method_81_code 2 = .ok (.putfield 41, 3) := by decide +kernel
theorem d204_5 : decode prog_12_method_81_code 5 = .ok (.iconst 0, 1) := by decide +kernel
theorem d204_6 : decode prog_12_method_81_code 6 = .ok (.istore_n 2, 1) := by decide +kernel
theorem d204_7 : decode prog_12_method_81_code 7 = .ok (.iload_n 2, 1) := by decide +kernel
theorem d204_8 : decode prog_12_method_81_code 8 = .ok (.aload_n 0, 1) := by decide +kernel
theorem d204_9 : decode prog_12_method_81_code 9 = .ok (.getfield 7, 3) := by decide +kernel
theorem d204_12 : decode prog_12_method_81_code 12 = .ok (.iconst 0, 1) := by decide +kernel
theorem d204_13 : decode prog_12_method_81_code 13 = .ok (.iaload, 1) := by decide +kernel
theorem d204_14 : decode prog_12_method_81_code 14 = .ok (.if_icmp .ge 45, 3) := by decide +kernel
theorem d204_17 : decode prog_12_method_81_code 17 = .ok (.aload_n 0, 1) := by decide +kernel
theorem d204_18 : decode prog_12_method_81_code 18 = .ok (.iload_n 2, 1) := by decide +kernel
theorem d204_19 : decode prog_12_method_81_code 19 = .ok (.bipush 7, 2) := by decide +kernel
theorem d204_21 : decode prog_12_method_81_code 21 = .ok (.invokevirtual 85, 3) := by decide +kernel
theorem d204_24 : decode prog_12_method_81_code 24 = .ok (.iload_n 1, 1) := by decide +kernel
theorem d204_25 : decode prog_12_method_81_code 25 = .ok (.iconst 1, 1) := by decide +kernel
theorem d204_26 : decode prog_12_method_81_code 26 = .ok (.iadd, 1) := by decide +kernel
theorem d204_27 : decode prog_12_method_81_code 27 = .ok (.if_icmp .eq 6, 3) := by decide +kernel
theorem d204_30 : decode prog_12_method_81_code 30 = .ok (.goto 23, 3) := by decide +kernel
theorem d204_33 : decode prog_12_method_81_code 33 = .ok (.aload_n 0, 1) := by decide +kernel
theorem d204_34 : decode prog_12_method_81_code 34 = .ok (.getfield 22, 3) := by decide +kernel
theorem d204_37 : decode prog_12_method_81_code 37 = .ok (.aload_n 0, 1) := by decide +kernel
theorem d204_38 : decode prog_12_method_81_code 38 = .ok (.getfield 41, 3) := by decide +kernel
theorem d204_41 : decode prog_12_method_81_code 41 = .ok (.iload_n 2, 1) := by decide +kernel
theorem d204_42 : decode prog_12_method_81_code 42 = .ok (.iastore, 1) := by decide +kernel
theorem d204_43 : decode prog_12_method_81_code 43 = .ok (.aload_n 0, 1) := by decide +kernel
theorem d204_44 : decode prog_12_method_81_code 44 = .ok (.dup, 1) := by decide +kernel
theorem d204_45 : decode prog_12_method_81_code 45 = .ok (.getfield 41, 3) := by decide +kernel
theorem d204_48 : decode prog_12_method_81_code 48 = .ok (.iconst 1, 1) := by decide +kernel
theorem d204_49 : decode prog_12_method_81_code 49 = .ok (.iadd, 1) := by decide +kernel
theorem d204_50 : decode prog_12_method_81_code 50 = .ok (.putfield 41, 3) := by decide +kernel
theorem d204_53 : decode prog_12_method_81_code 53 = .ok (.iinc 2 1, 3) := by decide +kernel
theorem d204_56 : decode prog_12_method_81_code 56 = .ok (.goto (-49), 3) := by decide +kernel
theorem d204_59 : decode prog_12_method_81_code 59 = .ok (.aload_n 0, 1) := by decide +kernel
theorem d204_60 : decode prog_12_method_81_code 60 = .ok (.aload_n 0, 1) := by decide +kernel
theorem d204_61 : decode prog_12_method_81_code 61 = .ok (.iload_n 1, 1) := by decide +kernel
theorem d204_62 : decode prog_12_method_81_code 62 = .ok (.invokevirtual 227, 3) := by decide +kernel
theorem d204_65 : decode prog_12_method_81_code 65 = .ok (.invokevirtual 230, 3) := by decide +kernel
theorem d204_68 : decode prog_12_method_81_code 68 = .ok (.aload_n 0, 1) := by decide +kernel
theorem d204_69 : decode prog_12_method_81_code 69 = .ok (.invokevirtual 234, 3) := by decide +kernel
theorem d204_72 : decode prog_12_method_81_code 72 = .ok (.ifCond .eq 25, 3) := by decide +kernel
theorem d204_75 : decode prog_12_method_81_code 75 = .ok (.aload_n 0, 1) := by decide +kernel
theorem d204_76 : decode prog_12_method_81_code 76 = .ok (.iload_n 1, 1) := by decide +kernel
theorem d204_77 : decode prog_12_method_81_code 77 = .ok (.invokevirtual 227, 3) := by decide +kernel
theorem d204_80 : decode prog_12_method_81_code 80 = .ok (.istore_n 2, 1) := by decide +kernel
theorem d204_81 : decode prog_12_method_81_code 81 = .ok (.iload_n 2, 1) := by decide +kernel
theorem d204_82 : decode prog_12_method_81_code 82 = .ok (.aload_n 0, 1) := by decide +kernel
theorem d204_83 : decode prog_12_method_81_code 83 = .ok (.getfield 44, 3) := by decide +kernel
theorem d204_86 : decode prog_12_method_81_code 86 = .ok (.if_icmp .ge 8, 3) := by decide +kernel
theorem d204_89 : decode prog_12_method_81_code 89 = .ok (.aload_n 0, 1) := by decide +kernel
theorem d204_90 : decode prog_12_method_81_code 90 = .ok (.iload_n 2, 1) := by decide +kernel
theorem d204_91 : decode prog_12_method_81_code 91 = .ok (.invokevirtual 230, 3) := by decide +kernel
theorem d204_94 : decode prog_12_method_81_code 94 = .ok (.goto (-26), 3) := by decide +kernel
theorem d204_97 : decode prog_12_method_81_code 97 = .ok (.return_, 1) := by decide +kernel
theorem d205_0 : decode prog_12_method_77_code 0 = .ok (.aload_n 0, 1) := by decide +kernel
theorem d205_1 : decode prog_12_method_77_code 1 = .ok (.iload_n 1, 1) := by decide +kernel
theorem d205_2 : decode prog_12_method_77_code 2 = .ok (.iconst 2, 1) := by decide +kernel
theorem d205_3 : decode prog_12_method_77_code 3 = .ok (.invokevirtual 147, 3) := by decide +kernel
theorem d205_6 : decode prog_12_method_77_code 6 = .ok (.istore_n 2, 1) := by decide +kernel
theorem d205_7 : decode prog_12_method_77_code 7 = .ok (.aload_n 0, 1) := by decide +kernel
theorem d205_8 : decode prog_12_method_77_code 8 = .ok (.iload_n 1, 1) := by decide +kernel
theorem d205_9 : decode prog_12_method_77_code 9 = .ok (.iconst 0, 1) := by decide +kernel
theorem d205_10 : decode prog_12_method_77_code 10 = .ok (.invokevirtual 147, 3) := by decide +kernel
theorem d205_13 : decode prog_12_method_77_code 13 = .ok (.istore_n 3, 1) := by decide +kernel
theorem d205_14 : decode prog_12_method_77_code 14 = .ok (.aload_n 0, 1) := by decide +kernel
theorem d205_15 : decode prog_12_method_77_code 15 = .ok (.iload_n 1, 1) := by decide +kernel
theorem d205_16 : decode prog_12_method_77_code 16 = .ok (.iconst 1, 1) := by decide +kernel
theorem d205_17 : decode prog_12_method_77_code 17 = .ok (.invokevirtual 147, 3) := by decide +kernel
theorem d205_20 : decode prog_12_method_77_code 20 = .ok (.istore 4, 2) := by decide +kernel
theorem d205_22 : decode prog_12_method_77_code 22 = .ok (.iconst 0, 1) := by decide +kernel
theorem d205_23 : decode prog_12_method_77_code 23 = .ok (.istore 5, 2) := by decide +kernel
theorem d205_25 : decode prog_12_method_77_code 25 = .ok (.iconst 0, 1) := by decide +kernel
theorem d205_26 : decode prog_12_method_77_code 26 = .ok (.istore 6, 2) := by decide +kernel
theorem d205_28 : decode prog_12_method_77_code 28 = .ok (.iload 6, 2) := by decide +kernel
theorem d205_30 : decode prog_12_method_77_code 30 = .ok (.aload_n 0, 1) := by decide +kernel
theorem d205_31 : decode prog_12_method_77_code 31 = .ok (.getfield 41, 3) := by decide +kernel
theorem d205_34 : decode prog_12_method_77_code 34 = .ok (.if_icmp .ge 101, 3) := by decide +kernel
theorem d205_37 : decode prog_12_method_77_code 37 = .ok (.aload_n 0, 1) := by decide +kernel
theorem d205_38 : decode prog_12_method_77_code 38 = .ok (.getfield 22, 3) := by decide +kernel
theorem d205_41 : decode prog_12_method_77_code 41 = .ok (.iload 6, 2) := by decide +kernel
theorem d205_43 : decode prog_12_method_77_code 43 = .ok (.iaload, 1) := by decide +kernel
theorem d205_44 : decode prog_12_method_77_code 44 = .ok (.istore 7, 2) := by decide +kernel
theorem d205_46 : decode prog_12_method_77_code 46 = .ok (.iload_n 2, 1) := by decide +kernel
theorem d205_47 : decode prog_12_method_77_code 47 = .ok (.iload_n 3, 1) := by decide +kernel
theorem d205_48 : decode prog_12_method_77_code 48 = .ok (.aload_n 0, 1) := by decide +kernel
theorem d205_49 : decode prog_12_method_77_code 49 = .ok (.iload 7, 2) := by decide +kernel
theorem d205_51 : decode prog_12_method_77_code 51 = .ok (.iconst 1, 1) := by decide +kernel
theorem d205_52 : decode prog_12_method_77_code 52 = .ok (.invokevirtual 85, 3) := by decide +kernel
theorem d205_55 : decode prog_12_method_77_code 55 = .ok (.invokestatic 176, 3) := by decide +kernel
theorem d205_58 : decode prog_12_method_77_code 58 = .ok (.iload 4, 2) := by decide +kernel
theorem d205_60 : decode prog_12_method_77_code 60 = .ok (.aload_n 0, 1) := by decide +kernel
theorem d205_61 : decode prog_12_method_77_code 61 = .ok (.iload 7, 2) := by decide +kernel
theorem d205_63 : decode prog_12_method_77_code 63 = .ok (.iconst 2, 1) := by decide +kernel
theorem d205_64 : decode prog_12_method_77_code 64 = .ok (.invokevirtual 85, 3) := by decide +kernel
theorem d205_67 : decode prog_12_method_77_code 67 = .ok (.invokestatic 176, 3) := by decide +kernel
theorem d205_70 : decode prog_12_method_77_code 70 = .ok (.iadd, 1) := by decide +kernel
theorem d205_71 : decode prog_12_method_77_code 71 = .ok (.aload_n 0, 1) := by decide +kernel
theorem d205_72 : decode prog_12_method_77_code 72 = .ok (.iload 7, 2) := by decide +kernel
theorem d205_74 : decode prog_12_method_77_code 74 = .ok (.iconst 5, 1) := by decide +kernel
theorem d205_75 : decode prog_12_method_77_code 75 = .ok (.invokevirtual 85, 3) := by decide +kernel
theorem d205_78 : decode prog_12_method_77_code 78 = .ok (.iadd, 1) := by decide +kernel
theorem d205_79 : decode prog_12_method_77_code 79 = .ok (.iadd, 1) := by decide +kernel
theorem d205_80 : decode prog_12_method_77_code 80 = .ok (.istore_n 2, 1) := by decide +kernel
theorem d205_81 : decode prog_12_method_77_code 81 = .ok (.iload 5, 2) := by decide +kernel
theorem d205_83 : decode prog_12_method_77_code 83 = .ok (.iload_n 2, 1) := by decide +kernel
theorem d205_84 : decode prog_12_method_77_code 84 = .ok (.aload_n 0, 1) := by decide +kernel
theorem d205_85 : decode prog_12_method_77_code 85 = .ok (.iload 7, 2) := by decide +kernel
theorem d205_87 : decode prog_12_method_77_code 87 = .ok (.bipush 6, 2) := by decide +kernel
theorem d205_89 : decode prog_12_method_77_code 89 = .ok (.invokevirtual 85, 3) := by decide +kernel
theorem d205_92 : decode prog_12_method_77_code 92 = .ok (.if_icmp .le 16, 3) := by decide +kernel
theorem d205_95 : decode prog_12_method_77_code 95 = .ok (.iload_n 2, 1) := by decide +kernel
theorem d205_96 : decode prog_12_method_77_code 96 = .ok (.aload_n 0, 1) := by decide +kernel
theorem d205_97 : decode prog_12_method_77_code 97 = .ok (.iload 7, 2) := by decide +kernel
theorem d205_99 : decode prog_12_method_77_code 99 = .ok (.bipush 6, 2) := by decide +kernel
theorem d205_101 : decode prog_12_method_77_code 101 = .ok (.invokevirtual 85, 3) := by decide +kernel
theorem d205_104 : decode prog_12_method_77_code 104 = .ok (.isub, 1) := by decide +kernel
theorem d205_105 : decode prog_12_method_77_code 105 = .ok (.goto 4, 3) := by decide +kernel
theorem d205_108 : decode prog_12_method_77_code 108 = .ok (.iconst 0, 1) := by decide +kernel
theorem d205_109 : decode prog_12_method_77_code 109 = .ok (.iadd, 1) := by decide +kernel
theorem d205_110 : decode prog_12_method_77_code 110 = .ok (.istore 5, 2) := by decide +kernel
theorem d205_112 : decode prog_12_method_77_code 112 = .ok (.aload_n 0, 1) := by decide +kernel
theorem d205_113 : decode prog_12_method_77_code 113 = .ok (.iload 7, 2) := by decide +kernel
theorem d205_115 : decode prog_12_method_77_code 115 = .ok (.iconst 1, 1) := by decide +kernel
theorem d205_116 : decode prog_12_method_77_code 116 = .ok (.invokevirtual 85, 3) := by decide +kernel
theorem d205_119 : decode prog_12_method_77_code 119 = .ok (.istore_n 3, 1) := by decide +kernel
theorem d205_120 : decode prog_12_method_77_code 120 = .ok (.aload_n 0, 1) := by decide +kernel
theorem d205_121 : decode prog_12_method_77_code 121 = .ok (.iload 7, 2) := by decide +kernel
theorem d205_123 : decode prog_12_method_77_code 123 = .ok (.iconst 2, 1) := by decide +kernel
theorem d205_124 : decode prog_12_method_77_code 124 = .ok (.invokevirtual 85, 3) := by decide +kernel
theorem d205_127 : decode prog_12_method_77_code 127 = .ok (.istore 4, 2) := by decide +kernel
theorem d205_129 : decode prog_12_method_77_code 129 = .ok (.iinc 6 1, 3) := by decide +kernel
theorem d205_132 : decode prog_12_method_77_code 132 = .ok (.goto (-104), 3) := by decide +kernel
theorem d205_135 : decode prog_12_method_77_code 135 = .ok (.iload 5, 2) := by decide +kernel
theorem d205_137 : decode prog_12_method_77_code 137 = .ok (.ireturn, 1) := by decide +kernel
theorem d206_0 : decode prog_12_method_80_code 0 = .ok (.aload_n 0, 1) := by decide +kernel
theorem d206_1 : decode prog_12_method_80_code 1 = .ok (.iload_n 1, 1) := by decide +kernel
theorem d206_2 : decode prog_12_method_80_code 2 = .ok (.putfield 44, 3) := by decide +kernel
theorem d206_5 : decode prog_12_method_80_code 5 = .ok (.iconst 0, 1) := by decide +kernel
theorem d206_6 : decode prog_12_method_80_code 6 = .ok (.istore_n 2, 1) := by decide +kernel
theorem d206_7 : decode prog_12_method_80_code 7 = .ok (.iload_n 2, 1) := by decide +kernel
theorem d206_8 : decode prog_12_method_80_code 8 = .ok (.aload_n 0, 1) := by decide +kernel
theorem d206_9 : decode prog_12_method_80_code 9 = .ok (.getfield 41, 3) := by decide +kernel
theorem d206_12 : decode prog_12_method_80_code 12 = .ok (.if_icmp .ge 21, 3) := by decide +kernel
theorem d206_15 : decode prog_12_method_80_code 15 = .ok (.aload_n 0, 1) := by decide +kernel
theorem d206_16 : decode prog_12_method_80_code 16 = .ok (.getfield 25, 3) := by decide +kernel
theorem d206_19 : decode prog_12_method_80_code 19 = .ok (.iload_n 2, 1) := by decide +kernel
theorem d206_20 : decode prog_12_method_80_code 20 = .ok (.aload_n 0, 1) := by decide +kernel
theorem d206_21 : decode prog_12_method_80_code 21 = .ok (.getfield 22, 3) := by decide +kernel
theorem d206_24 : decode prog_12_method_80_code 24 = .ok (.iload_n 2, 1) := by decide +kernel
theorem d206_25 : decode prog_12_method_80_code 25 = .ok (.iaload, 1) := by decide +kernel
theorem d206_26 : decode prog_12_method_80_code 26 = .ok (.iastore, 1) := by decide +kernel
theorem d206_27 : decode prog_12_method_80_code 27 = .ok (.iinc 2 1, 3) := by decide +kernel
theorem d206_30 : decode prog_12_method_80_code 30 = .ok (.goto (-23), 3) := by decide +kernel
theorem d206_33 : decode prog_12_method_80_code 33 = .ok (.return_, 1) := by decide +kernel
theorem d207_0 : decode prog_12_method_79_code 0 = .ok (.aload_n 0, 1) := by decide +kernel
theorem d207_1 : decode prog_12_method_79_code 1 = .ok (.getfield 41, 3) := by decide +kernel
theorem d207_4 : decode prog_12_method_79_code 4 = .ok (.iconst 2, 1) := by decide +kernel
theorem d207_5 : decode prog_12_method_79_code 5 = .ok (.isub, 1) := by decide +kernel
theorem d207_6 : decode prog_12_method_79_code 6 = .ok (.istore_n 1, 1) := by decide +kernel
theorem d207_7 : decode prog_12_method_79_code 7 = .ok (.iload_n 1, 1) := by decide +kernel
theorem d207_8 : decode prog_12_method_79_code 8 = .ok (.ifCond .lt 26, 3) := by decide +kernel
theorem d207_11 : decode prog_12_method_79_code 11 = .ok (.aload_n 0, 1) := by decide +kernel
theorem d207_12 : decode prog_12_method_79_code 12 = .ok (.getfield 22, 3) := by decide +kernel
theorem d207_15 : decode prog_12_method_79_code 15 = .ok (.iload_n 1, 1) := by decide +kernel
theorem d207_16 : decode prog_12_method_79_code 16 = .ok (.iaload, 1) := by decide +kernel
theorem d207_17 : decode prog_12_method_79_code 17 = .ok (.aload_n 0, 1) := by decide +kernel
theorem d207_18 : decode prog_12_method_79_code 18 = .ok (.getfield 22, 3) := by decide +kernel
theorem d207_21 : decode prog_12_method_79_code 21 = .ok (.iload_n 1, 1) := by decide +kernel
theorem d207_22 : decode prog_12_method_79_code 22 = .ok (.iconst 1, 1) := by decide +kernel
theorem d207_23 : decode prog_12_method_79_code 23 = .ok (.iadd, 1) := by decide +kernel
theorem d207_24 : decode prog_12_method_79_code 24 = .ok (.iaload, 1) := by decide +kernel
theorem d207_25 : decode prog_12_method_79_code 25 = .ok (.if_icmp .le 9, 3) := by decide +kernel
theorem d207_28 : decode prog_12_method_79_code 28 = .ok (.iinc 1 (-1), 3) := by decide +kernel
theorem d207_31 : decode prog_12_method_79_code 31 = .ok (.goto (-24), 3) := by decide +kernel
theorem d207_34 : decode prog_12_method_79_code 34 = .ok (.iload_n 1, 1) := by decide +kernel
theorem d207_35 : decode prog_12_method_79_code 35 = .ok (.ifCond .ge 5, 3) := by decide +kernel
theorem d207_38 : decode prog_12_method_79_code 38 = .ok (.iconst 0, 1) := by decide +kernel
theorem d207_39 : decode prog_12_method_79_code 39 = .ok (.ireturn, 1) := by decide +kernel
theorem d207_40 : decode prog_12_method_79_code 40 = .ok (.aload_n 0, 1) := by decide +kernel
theorem d207_41 : decode prog_12_method_79_code 41 = .ok (.getfield 41, 3) := by decide +kernel
theorem d207_44 : decode prog_12_method_79_code 44 = .ok (.iconst 1, 1) := by decide +kernel
theorem d207_45 : decode prog_12_method_79_code 45 = .ok (.isub, 1) := by decide +kernel
theorem d207_46 : decode prog_12_method_79_code 46 = .ok (.istore_n 2, 1) := by decide +kernel
theorem d207_47 : decode prog_12_method_79_code 47 = .ok (.aload_n 0, 1) := by decide +kernel
theorem d207_48 : decode prog_12_method_79_code 48 = .ok (.getfield 22, 3) := by decide +kernel
theorem d207_51 : decode prog_12_method_79_code 51 = .ok (.iload_n 2, 1) := by decide +kernel
theorem d207_52 : decode prog_12_method_79_code 52 = .ok (.iaload, 1) := by decide +kernel
theorem d207_53 : decode prog_12_method_79_code 53 = .ok (.aload_n 0, 1) := by decide +kernel
theorem d207_54 : decode prog_12_method_79_code 54 = .ok (.getfield 22, 3) := by decide +kernel
theorem d207_57 : decode prog_12_method_79_code 57 = .ok (.iload_n 1, 1) := by decide +kernel
theorem d207_58 : decode prog_12_method_79_code 58 = .ok (.iaload, 1) := by decide +kernel
theorem d207_59 : decode prog_12_method_79_code 59 = .ok (.if_icmp .ge 9, 3) := by decide +kernel
theorem d207_62 : decode prog_12_method_79_code 62 = .ok (.iinc 2 (-1), 3) := by decide +kernel
theorem d207_65 : decode prog_12_method_79_code 65 = .ok (.goto (-18), 3) := by decide +kernel
theorem d207_68 : decode prog_12_method_79_code 68 = .ok (.aload_n 0, 1) := by decide +kernel
theorem d207_69 : decode prog_12_method_79_code 69 = .ok (.iload_n 1, 1) := by decide +kernel
theorem d207_70 : decode prog_12_method_79_code 70 = .ok (.iload_n 2, 1) := by decide +kernel
theorem d207_71 : decode prog_12_method_79_code 71 = .ok (.invokevirtual 223, 3) := by decide +kernel
theorem d207_74 : decode prog_12_method_79_code 74 = .ok (.iload_n 1, 1) := by decide +kernel
theorem d207_75 : decode prog_12_method_79_code 75 = .ok (.iconst 1, 1) := by decide +kernel
theorem d207_76 : decode prog_12_method_79_code 76 = .ok (.iadd, 1) := by decide +kernel
theorem d207_77 : decode prog_12_method_79_code 77 = .ok (.istore_n 3, 1) := by decide +kernel
theorem d207_78 : decode prog_12_method_79_code 78 = .ok (.aload_n 0, 1) := by decide +kernel
theorem d207_79 : decode prog_12_method_79_code 79 = .ok (.getfield 41, 3) := by decide +kernel
theorem d207_82 : decode prog_12_method_79_code 82 = .ok (.iconst 1, 1) := by decide +kernel
theorem d207_83 : decode prog_12_method_79_code 83 = .ok (.isub, 1) := by decide +kernel
theorem d207_84 : decode prog_12_method_79_code 84 = .ok (.istore 4, 2) := by decide +kernel
theorem d207_86 : decode prog_12_method_79_code 86 = .ok (.iload_n 3, 1) := by decide +kernel
theorem d207_87 : decode prog_12_method_79_code 87 = .ok (.iload 4, 2) := by decide +kernel
theorem d207_89 : decode prog_12_method_79_code 89 = .ok (.if_icmp .ge 19, 3) := by decide +kernel
theorem d207_92 : decode prog_12_method_79_code 92 = .ok (.aload_n 0, 1) := by decide +kernel
theorem d207_93 : decode prog_12_method_79_code 93 = .ok (.iload_n 3, 1) := by decide +kernel
theorem d207_94 : decode prog_12_method_79_code 94 = .ok (.iload 4, 2) := by decide +kernel
theorem d207_96 : decode prog_12_method_79_code 96 = .ok (.invokevirtual 223, 3) := by decide +kernel
theorem d207_99 : decode prog_12_method_79_code 99 = .ok (.iinc 3 1, 3) := by decide +kernel
theorem d207_102 : decode prog_12_method_79_code 102 = .ok (.iinc 4 (-1), 3) := by decide +kernel
theorem d207_105 : decode prog_12_method_79_code 105 = .ok (.goto (-19), 3) := by decide +kernel
theorem d207_108 : decode prog_12_method_79_code 108 = .ok (.iconst 1, 1) := by decide +kernel
theorem d207_109 : decode prog_12_method_79_code 109 = .ok (.ireturn, 1) := by decide +kernel
theorem d208_0 : decode prog_12_method_78_code 0 = .ok (.aload_n 0, 1) := by decide +kernel
theorem d208_1 : decode prog_12_method_78_code 1 = .ok (.getfield 22, 3) := by decide +kernel
theorem d208_4 : decode prog_12_method_78_code 4 = .ok (.iload_n 1, 1) := by decide +kernel
theorem d208_5 : decode prog_12_method_78_code 5 = .ok (.iaload, 1) := by decide +kernel
theorem d208_6 : decode prog_12_method_78_code 6 = .ok (.istore_n 3, 1) := by decide +kernel
theorem d208_7 : decode prog_12_method_78_code 7 = .ok (.aload_n 0, 1) := by decide +kernel
theorem d208_8 : decode prog_12_method_78_code 8 = .ok (.getfield 22, 3) := by decide +kernel
theorem d208_11 : decode prog_12_method_78_code 11 = .ok (.iload_n 1, 1) := by decide +kernel
theorem d208_12 : decode prog_12_method_78_code 12 = .ok (.aload_n 0, 1) := by decide +kernel
theorem d208_13 : decode prog_12_method_78_code 13 = .ok (.getfield 22, 3) := by decide +kernel
theorem d208_16 : decode prog_12_method_78_code 16 = .ok (.iload_n 2, 1) := by decide +kernel
theorem d208_17 : decode prog_12_method_78_code 17 = .ok (.iaload, 1) := by decide +kernel
theorem d208_18 : decode prog_12_method_78_code 18 = .ok (.iastore, 1) := by decide +kernel
theorem d208_19 : decode prog_12_method_78_code 19 = .ok (.aload_n 0, 1) := by decide +kernel
theorem d208_20 : decode prog_12_method_78_code 20 = .ok (.getfield 22, 3) := by decide +kernel
theorem d208_23 : decode prog_12_method_78_code 23 = .ok (.iload_n 2, 1) := by decide +kernel
theorem d208_24 : decode prog_12_method_78_code 24 = .ok (.iload_n 3, 1) := by decide +kernel
theorem d208_25 : decode prog_12_method_78_code 25 = .ok (.iastore, 1) := by decide +kernel
theorem d208_26 : decode prog_12_method_78_code 26 = .ok (.return_, 1) := by decide +kernel
theorem d209_0 : decode prog_12_method_84_code 0 = .ok (.aload_n 0, 1) := by decide +kernel
theorem d209_1 : decode prog_12_method_84_code 1 = .ok (.iload_n 1, 1) := by decide +kernel
theorem d209_2 : decode prog_12_method_84_code 2 = .ok (.invokevirtual 241, 3) := by decide +kernel
theorem d209_5 : decode prog_12_method_84_code 5 = .ok (.ireturn, 1) := by decide +kernel
theorem d210_0 : decode prog_12_method_85_code 0 = .ok (.aload_n 0, 1) := by decide +kernel
theorem d210_1 : decode prog_12_method_85_code 1 = .ok (.iload_n 1, 1) := by decide +kernel
theorem d210_2 : decode prog_12_method_85_code 2 = .ok (.invokestatic 123, 3) := by decide +kernel
theorem d210_5 : decode prog_12_method_85_code 5 = .ok (.invokevirtual 210, 3) := by decide +kernel
theorem d210_8 : decode prog_12_method_85_code 8 = .ok (.ifCond .le 5, 3) := by decide +kernel
theorem d210_11 : decode prog_12_method_85_code 11 = .ok (.iconst 0, 1) := by decide +kernel
theorem d210_12 : decode prog_12_method_85_code 12 = .ok (.ireturn, 1) := by decide +kernel
theorem d210_13 : decode prog_12_method_85_code 13 = .ok (.aload_n 0, 1) := by decide +kernel
theorem d210_14 : decode prog_12_method_85_code 14 = .ok (.iload_n 1, 1) := by decide +kernel
theorem d210_15 : decode prog_12_method_85_code 15 = .ok (.invokevirtual 238, 3) := by decide +kernel
theorem d210_18 : decode prog_12_method_85_code 18 = .ok (.iload_n 2, 1) := by decide +kernel
theorem d210_19 : decode prog_12_method_85_code 19 = .ok (.iconst 0, 1) := by decide +kernel
theorem d210_20 : decode prog_12_method_85_code 20 = .ok (.aload_n 0, 1) := by decide +kernel
theorem d210_21 : decode prog_12_method_85_code 21 = .ok (.getfield 41, 3) := by decide +kernel
theorem d210_24 : decode prog_12_method_85_code 24 = .ok (.iconst 1, 1) := by decide +kernel
theorem d210_25 : decode prog_12_method_85_code 25 = .ok (.isub, 1) := by decide +kernel
theorem d210_26 : decode prog_12_method_85_code 26 = .ok (.invokestatic 89, 3) := by decide +kernel
theorem d210_29 : decode prog_12_method_85_code 29 = .ok (.ifCond .eq 17, 3) := by decide +kernel
theorem d210_32 : decode prog_12_method_85_code 32 = .ok (.aload_n 0, 1) := by decide +kernel
theorem d210_33 : decode prog_12_method_85_code 33 = .ok (.aload_n 0, 1) := by decide +kernel
theorem d210_34 : decode prog_12_method_85_code 34 = .ok (.getfield 25, 3) := by decide +kernel
theorem d210_37 : decode prog_12_method_85_code 37 = .ok (.iload_n 2, 1) := by decide +kernel
theorem d210_38 : decode prog_12_method_85_code 38 = .ok (.iaload, 1) := by decide +kernel
theorem d210_39 : decode prog_12_method_85_code 39 = .ok (.iconst 0, 1) := by decide +kernel
theorem d210_40 : decode prog_12_method_85_code 40 = .ok (.invokevirtual 85, 3) := by decide +kernel
theorem d210_43 : decode prog_12_method_85_code 43 = .ok (.goto 8, 3) := by decide +kernel
theorem d210_46 : decode prog_12_method_85_code 46 = .ok (.aload_n 0, 1) := by decide +kernel
theorem d210_47 : decode prog_12_method_85_code 47 = .ok (.iconst 2, 1) := by decide +kernel
theorem d210_48 : decode prog_12_method_85_code 48 = .ok (.invokevirtual 107, 3) := by decide +kernel
theorem d210_51 : decode prog_12_method_85_code 51 = .ok (.ireturn, 1) := by decide +kernel
theorem d211_0 : decode prog_12_method_86_code 0 = .ok (.aload_n 0, 1) := by decide +kernel
theorem d211_1 : decode prog_12_method_86_code 1 = .ok (.iload_n 1, 1) := by decide +kernel
theorem d211_2 : decode prog_12_method_86_code 2 = .ok (.iconst 3, 1) := by decide +kernel
theorem d211_3 : decode prog_12_method_86_code 3 = .ok (.invokevirtual 217, 3) := by decide +kernel
theorem d211_6 : decode prog_12_method_86_code 6 = .ok (.ireturn, 1) := by decide +kernel
theorem d212_0 : decode prog_12_method_87_code 0 = .ok (.aload_n 0, 1) := by decide +kernel
theorem d212_1 : decode prog_12_method_87_code 1 = .ok (.aload_n 0, 1) := by decide +kernel
theorem d212_2 : decode prog_12_method_87_code 2 = .ok (.iconst 0, 1) := by decide +kernel
theorem d212_3 : decode prog_12_method_87_code 3 = .ok (.iconst 3, 1) := by decide +kernel
theorem d212_4 : decode prog_12_method_87_code 4 = .ok (.invokevirtual 147, 3) := by decide +kernel
theorem d212_7 : decode prog_12_method_87_code 7 = .ok (.aload_n 0, 1) := by decide +kernel
theorem d212_8 : decode prog_12_method_87_code 8 = .ok (.iconst 1, 1) := by decide +kernel
theorem d212_9 : decode prog_12_method_87_code 9 = .ok (.iconst 3, 1) := by decide +kernel
theorem d212_10 : decode prog_12_method_87_code 10 = .ok (.invokevirtual 147, 3) := by decide +kernel
theorem d212_13 : decode prog_12_method_87_code 13 = .ok (.iadd, 1) := by decide +kernel
theorem d212_14 : decode prog_12_method_87_code 14 = .ok (.aload_n 0, 1) := by decide +kernel
theorem d212_15 : decode prog_12_method_87_code 15 = .ok (.iconst 2, 1) := by decide +kernel
theorem d212_16 : decode prog_12_method_87_code 16 = .ok (.iconst 3, 1) := by decide +kernel
theorem d212_17 : decode prog_12_method_87_code 17 = .ok (.invokevirtual 147, 3) := by decide +kernel
theorem d212_20 : decode prog_12_method_87_code 20 = .ok (.iadd, 1) := by decide +kernel
theorem d212_21 : decode prog_12_method_87_code 21 = .ok (.invokevirtual 207, 3) := by decide +kernel
theorem d212_24 : decode prog_12_method_87_code 24 = .ok (.i2l, 1) := by decide +kernel
theorem d212_25 : decode prog_12_method_87_code 25 = .ok (.lreturn, 1) := by decide +kernel
theorem d213_0 : decode prog_12_method_88_code 0 = .ok (.aload_n 0, 1) := by decide +kernel
theorem d213_1 : decode prog_12_method_88_code 1 = .ok (.bipush 10, 2) := by decide +kernel
theorem d213_3 : decode prog_12_method_88_code 3 = .ok (.aload_n 0, 1) := by decide +kernel
theorem d213_4 : decode prog_12_method_88_code 4 = .ok (.getfield 7, 3) := by decide +kernel
theorem d213_7 : decode prog_12_method_88_code 7 = .ok (.iconst 4, 1) := by decide +kernel
theorem d213_8 : decode prog_12_method_88_code 8 = .ok (.iaload, 1) := by decide +kernel
theorem d213_9 : decode prog_12_method_88_code 9 = .ok (.imul, 1) := by decide +kernel
theorem d213_10 : decode prog_12_method_88_code 10 = .ok (.iconst 2, 1) := by decide +kernel
theorem d213_11 : decode prog_12_method_88_code 11 = .ok (.aload_n 0, 1) := by decide +kernel
theorem d213_12 : decode prog_12_method_88_code 12 = .ok (.getfield 7, 3) := by decide +kernel
theorem d213_15 : decode prog_12_method_88_code 15 = .ok (.iconst 3, 1) := by decide +kernel
theorem d213_16 : decode prog_12_method_88_code 16 = .ok (.iaload, 1) := by decide +kernel
theorem d213_17 : decode prog_12_method_88_code 17 = .ok (.imul, 1) := by decide +kernel
theorem d213_18 : decode prog_12_method_88_code 18 = .ok (.isub, 1) := by decide +kernel
theorem d213_19 : decode prog_12_method_88_code 19 = .ok (.invokevirtual 207, 3) := by decide +kernel
theorem d213_22 : decode prog_12_method_88_code 22 = .ok (.i2l, 1) := by decide +kernel
theorem d213_23 : decode prog_12_method_88_code 23 = .ok (.lreturn, 1) := by decide +kernel
theorem d214_0 : decode prog_12_method_89_code 0 = .ok (.aload_n 0, 1) := by decide +kernel
theorem d214_1 : decode prog_12_method_89_code 1 = .ok (.aload_n 0, 1) := by decide +kernel
theorem d214_2 : decode prog_12_method_89_code 2 = .ok (.getfield 7, 3) := by decide +kernel
theorem d214_5 : decode prog_12_method_89_code 5 = .ok (.iconst 2, 1) := by decide +kernel
theorem d214_6 : decode prog_12_method_89_code 6 = .ok (.iaload, 1) := by decide +kernel
theorem d214_7 : decode prog_12_method_89_code 7 = .ok (.invokevirtual 207, 3) := by decide +kernel
theorem d214_10 : decode prog_12_method_89_code 10 = .ok (.ireturn, 1) := by decide +kernel
theorem d215_0 : decode prog_12_method_90_code 0 = .ok (.aload_n 0, 1) := by decide +kernel
theorem d215_1 : decode prog_12_method_90_code 1 = .ok (.aload_n 0, 1) := by decide +kernel
theorem d215_2 : decode prog_12_method_90_code 2 = .ok (.getfield 7, 3) := by decide +kernel
theorem d215_5 : decode prog_12_method_90_code 5 = .ok (.iconst 2, 1) := by decide +kernel
theorem d215_6 : decode prog_12_method_90_code 6 = .ok (.iaload, 1) := by decide +kernel
theorem d215_7 : decode prog_12_method_90_code 7 = .ok (.ifCond .le 7, 3) := by decide +kernel
theorem d215_10 : decode prog_12_method_90_code 10 = .ok (.iconst 1, 1) := by decide +kernel
theorem d215_11 : decode prog_12_method_90_code 11 = .ok (.goto 4, 3) := by decide +kernel
theorem d215_14 : decode prog_12_method_90_code 14 = .ok (.iconst 0, 1) := by decide +kernel
theorem d215_15 : decode prog_12_method_90_code 15 = .ok (.invokevirtual 210, 3) := by decide +kernel
theorem d215_18 : decode prog_12_method_90_code 18 = .ok (.ifCond .le 7, 3) := by decide +kernel
theorem d215_21 : decode prog_12_method_90_code 21 = .ok (.dconst 0, 1) := by decide +kernel
theorem d215_22 : decode prog_12_method_90_code 22 = .ok (.goto 18, 3) := by decide +kernel
theorem d215_25 : decode prog_12_method_90_code 25 = .ok (.aload_n 0, 1) := by decide +kernel
theorem d215_26 : decode prog_12_method_90_code 26 = .ok (.getfield 7, 3) := by decide +kernel
theorem d215_29 : decode prog_12_method_90_code 29 = .ok (.iconst 3, 1) := by decide +kernel
theorem d215_30 : decode prog_12_method_90_code 30 = .ok (.iaload, 1) := by decide +kernel
theorem d215_31 : decode prog_12_method_90_code 31 = .ok (.i2d, 1) := by decide +kernel
theorem d215_32 : decode prog_12_method_90_code 32 = .ok (.aload_n 0, 1) := by decide +kernel
theorem d215_33 : decode prog_12_method_90_code 33 = .ok (.getfield 7, 3) := by decide +kernel
theorem d215_36 : decode prog_12_method_90_code 36 = .ok (.iconst 2, 1) := by decide +kernel
theorem d215_37 : decode prog_12_method_90_code 37 = .ok (.iaload, 1) := by decide +kernel
theorem d215_38 : decode prog_12_method_90_code 38 = .ok (.i2d, 1) := by decide +kernel
theorem d215_39 : decode prog_12_method_90_code 39 = .ok (.ddiv, 1) := by decide +kernel
theorem d215_40 : decode prog_12_method_90_code 40 = .ok (.dreturn, 1) := by decide +kernel
theorem d216_0 : decode prog_12_method_91_code 0 = .ok (.aload_n 0, 1) := by decide +kernel
theorem d216_1 : decode prog_12_method_91_code 1 = .ok (.iconst 0, 1) := by decide +kernel
theorem d216_2 : decode prog_12_method_91_code 2 = .ok (.putfield 28, 3) := by decide +kernel
theorem d216_5 : decode prog_12_method_91_code 5 = .ok (.aload_n 0, 1) := by decide +kernel
theorem d216_6 : decode prog_12_method_91_code 6 = .ok (.iconst 0, 1) := by decide +kernel
theorem d216_7 : decode prog_12_method_91_code 7 = .ok (.invokevirtual 167, 3) := by decide +kernel
theorem d216_10 : decode prog_12_method_91_code 10 = .ok (.aload_n 0, 1) := by decide +kernel
theorem d216_11 : decode prog_12_method_91_code 11 = .ok (.iconst 1, 1) := by decide +kernel
theorem d216_12 : decode prog_12_method_91_code 12 = .ok (.invokevirtual 167, 3) := by decide +kernel
theorem d216_15 : decode prog_12_method_91_code 15 = .ok (.iadd, 1) := by decide +kernel
theorem d216_16 : decode prog_12_method_91_code 16 = .ok (.aload_n 0, 1) := by decide +kernel
theorem d216_17 : decode prog_12_method_91_code 17 = .ok (.iconst 2, 1) := by decide +kernel
theorem d216_18 : decode prog_12_method_91_code 18 = .ok (.invokevirtual 167, 3) := by decide +kernel
theorem d216_21 : decode prog_12_method_91_code 21 = .ok (.iadd, 1) := by decide +kernel
theorem d216_22 : decode prog_12_method_91_code 22 = .ok (.i2f, 1) := by decide +kernel
theorem d216_23 : decode prog_12_method_91_code 23 = .ok (.ldc 244, 2) := by decide +kernel
theorem d216_25 : decode prog_12_method_91_code 25 = .ok (.fdiv, 1) := by decide +kernel
theorem d216_26 : decode prog_12_method_91_code 26 = .ok (.freturn, 1) := by decide +kernel
theorem d217_0 : decode prog_12_method_93_code 0 = .ok (.aload_n 0, 1) := by decide +kernel
theorem d217_1 : decode prog_12_method_93_code 1 = .ok (.iconst 0, 1) := by decide +kernel
theorem d217_2 : decode prog_12_method_93_code 2 = .ok (.putfield 28, 3) := by decide +kernel
theorem d217_5 : decode prog_12_method_93_code 5 = .ok (.iconst 0, 1) := by decide +kernel
theorem d217_6 : decode prog_12_method_93_code 6 = .ok (.istore_n 2, 1) := by decide +kernel
theorem d217_7 : decode prog_12_method_93_code 7 = .ok (.iload_n 2, 1) := by decide +kernel
theorem d217_8 : decode prog_12_method_93_code 8 = .ok (.iconst 3, 1) := by decide +kernel
theorem d217_9 : decode prog_12_method_93_code 9 = .ok (.if_icmp .ge 57, 3) := by decide +kernel
theorem d217_12 : decode prog_12_method_93_code 12 = .ok (.iconst 0, 1) := by decide +kernel
theorem d217_13 : decode prog_12_method_93_code 13 = .ok (.istore_n 3, 1) := by decide +kernel
theorem d217_14 : decode prog_12_method_93_code 14 = .ok (.iconst 0, 1) := by decide +kernel
theorem d217_15 : decode prog_12_method_93_code 15 = .ok (.istore 4, 2) := by decide +kernel
theorem d217_17 : decode prog_12_method_93_code 17 = .ok (.iload 4, 2) := by decide +kernel
theorem d217_19 : decode prog_12_method_93_code 19 = .ok (.iconst 3, 1) := by decide +kernel
theorem d217_20 : decode prog_12_method_93_code 20 = .ok (.if_icmp .ge 33, 3) := by decide +kernel
theorem d217_23 : decode prog_12_method_93_code 23 = .ok (.iload_n 3, 1) := by decide +kernel
theorem d217_24 : decode prog_12_method_93_code 24 = .ok (.iload 4, 2) := by decide +kernel
theorem d217_26 : decode prog_12_method_93_code 26 = .ok (.iload_n 2, 1) := by decide +kernel
theorem d217_27 : decode prog_12_method_93_code 27 = .ok (.if_icmp .eq 17, 3) := by decide +kernel
theorem d217_30 : decode prog_12_method_93_code 30 = .ok (.aload_n 0, 1) := by decide +kernel
theorem d217_31 : decode prog_12_method_93_code 31 = .ok (.iload 4, 2) := by decide +kernel
theorem d217_33 : decode prog_12_method_93_code 33 = .ok (.iload_n 2, 1) := by decide +kernel
theorem d217_34 : decode prog_12_method_93_code 34 = .ok (.invokevirtual 245, 3) := by decide +kernel
theorem d217_37 : decode prog_12_method_93_code 37 = .ok (.ifCond .eq 7, 3) := by decide +kernel
theorem d217_40 : decode prog_12_method_93_code 40 = .ok (.iconst 1, 1) := by decide +kernel
theorem d217_41 : decode prog_12_method_93_code 41 = .ok (.goto 4, 3) := by decide +kernel
theorem d217_44 : decode prog_12_method_93_code 44 = .ok (.iconst 0, 1) := by decide +kernel
theorem d217_45 : decode prog_12_method_93_code 45 = .ok (.iadd, 1) := by decide +kernel
theorem d217_46 : decode prog_12_method_93_code 46 = .ok (.istore_n 3, 1) := by decide +kernel
theorem d217_47 : decode prog_12_method_93_code 47 = .ok (.iinc 4 1, 3) := by decide +kernel
theorem d217_50 : decode prog_12_method_93_code 50 = .ok (.goto (-33), 3) := by decide +kernel
theorem d217_53 : decode prog_12_method_93_code 53 = .ok (.iload_n 3, 1) := by decide +kernel
theorem d217_54 : decode prog_12_method_93_code 54 = .ok (.iload_n 1, 1) := by decide +kernel
theorem d217_55 : decode prog_12_method_93_code 55 = .ok (.if_icmp .ne 5, 3) := by decide +kernel
theorem d217_58 : decode prog_12_method_93_code 58 = .ok (.iload_n 2, 1) := by decide +kernel
theorem d217_59 : decode prog_12_method_93_code 59 = .ok (.ireturn, 1) := by decide +kernel
theorem d217_60 : decode prog_12_method_93_code 60 = .ok (.iinc 2 1, 3) := by decide +kernel
theorem d217_63 : decode prog_12_method_93_code 63 = .ok (.goto (-56), 3) := by decide +kernel
theorem d217_66 : decode prog_12_method_93_code 66 = .ok (.aload_n 0, 1) := by decide +kernel
theorem d217_67 : decode prog_12_method_93_code 67 = .ok (.iconst 1, 1) := by decide +kernel
theorem d217_68 : decode prog_12_method_93_code 68 = .ok (.invokevirtual 107, 3) := by decide +kernel
theorem d217_71 : decode prog_12_method_93_code 71 = .ok (.ireturn, 1) := by decide +kernel
theorem d218_0 : decode prog_12_method_92_code 0 = .ok (.aload_n 0, 1) := by decide +kernel
theorem d218_1 : decode prog_12_method_92_code 1 = .ok (.iload_n 1, 1) := by decide +kernel
theorem d218_2 : decode prog_12_method_92_code 2 = .ok (.iconst 3, 1) := by decide +kernel
theorem d218_3 : decode prog_12_method_92_code 3 = .ok (.invokevirtual 147, 3) := by decide +kernel
theorem d218_6 : decode prog_12_method_92_code 6 = .ok (.aload_n 0, 1) := by decide +kernel
theorem d218_7 : decode prog_12_method_92_code 7 = .ok (.iload_n 2, 1) := by decide +kernel
theorem d218_8 : decode prog_12_method_92_code 8 = .ok (.iconst 3, 1) := by decide +kernel
theorem d218_9 : decode prog_12_method_92_code 9 = .ok (.invokevirtual 147, 3) := by decide +kernel
theorem d218_12 : decode prog_12_method_92_code 12 = .ok (.if_icmp .eq 24, 3) := by decide +kernel
theorem d218_15 : decode prog_12_method_92_code 15 = .ok (.aload_n 0, 1) := by decide +kernel
theorem d218_16 : decode prog_12_method_92_code 16 = .ok (.iload_n 1, 1) := by decide +kernel
theorem d218_17 : decode prog_12_method_92_code 17 = .ok (.iconst 3, 1) := by decide +kernel
theorem d218_18 : decode prog_12_method_92_code 18 = .ok (.invokevirtual 147, 3) := by decide +kernel
theorem d218_21 : decode prog_12_method_92_code 21 = .ok (.aload_n 0, 1) := by decide +kernel
theorem d218_22 : decode prog_12_method_92_code 22 = .ok (.iload_n 2, 1) := by decide +kernel
theorem d218_23 : decode prog_12_method_92_code 23 = .ok (.iconst 3, 1) := by decide +kernel
theorem d218_24 : decode prog_12_method_92_code 24 = .ok (.invokevirtual 147, 3) := by decide +kernel
theorem d218_27 : decode prog_12_method_92_code 27 = .ok (.if_icmp .le 7, 3) := by decide +kernel
theorem d218_30 : decode prog_12_method_92_code 30 = .ok (.iconst 1, 1) := by decide +kernel
theorem d218_31 : decode prog_12_method_92_code 31 = .ok (.goto 4, 3) := by decide +kernel
theorem d218_34 : decode prog_12_method_92_code 34 = .ok (.iconst 0, 1) := by decide +kernel
theorem d218_35 : decode prog_12_method_92_code 35 = .ok (.ireturn, 1) := by decide +kernel
theorem d218_36 : decode prog_12_method_92_code 36 = .ok (.aload_n 0, 1) := by decide +kernel
theorem d218_37 : decode prog_12_method_92_code 37 = .ok (.iload_n 1, 1) := by decide +kernel
theorem d218_38 : decode prog_12_method_92_code 38 = .ok (.iconst 2, 1) := by decide +kernel
theorem d218_39 : decode prog_12_method_92_code 39 = .ok (.invokevirtual 147, 3) := by decide +kernel
theorem d218_42 : decode prog_12_method_92_code 42 = .ok (.aload_n 0, 1) := by decide +kernel
theorem d218_43 : decode prog_12_method_92_code 43 = .ok (.iload_n 2, 1) := by decide +kernel
theorem d218_44 : decode prog_12_method_92_code 44 = .ok (.iconst 2, 1) := by decide +kernel
theorem d218_45 : decode prog_12_method_92_code 45 = .ok (.invokevirtual 147, 3) := by decide +kernel
theorem d218_48 : decode prog_12_method_92_code 48 = .ok (.if_icmp .lt 23, 3) := by decide +kernel
theorem d218_51 : decode prog_12_method_92_code 51 = .ok (.aload_n 0, 1) := by decide +kernel
theorem d218_52 : decode prog_12_method_92_code 52 = .ok (.iload_n 1, 1) := by decide +kernel
theorem d218_53 : decode prog_12_method_92_code 53 = .ok (.iconst 2, 1) := by decide +kernel
theorem d218_54 : decode prog_12_method_92_code 54 = .ok (.invokevirtual 147, 3) := by decide +kernel
theorem d218_57 : decode prog_12_method_92_code 57 = .ok (.aload_n 0, 1) := by decide +kernel
theorem d218_58 : decode prog_12_method_92_code 58 = .ok (.iload_n 2, 1) := by decide +kernel
theorem d218_59 : decode prog_12_method_92_code 59 = .ok (.iconst 2, 1) := by decide +kernel
theorem d218_60 : decode prog_12_method_92_code 60 = .ok (.invokevirtual 147, 3) := by decide +kernel
theorem d218_63 : decode prog_12_method_92_code 63 = .ok (.if_icmp .ne 12, 3) := by decide +kernel
theorem d218_66 : decode prog_12_method_92_code 66 = .ok (.iload_n 1, 1) := by decide +kernel
theorem d218_67 : decode prog_12_method_92_code 67 = .ok (.iload_n 2, 1) := by decide +kernel
theorem d218_68 : decode prog_12_method_92_code 68 = .ok (.if_icmp .ge 7, 3) := by decide +kernel
theorem d218_71 : decode prog_12_method_92_code 71 = .ok (.iconst 1, 1) := by decide +kernel
theorem d218_72 : decode prog_12_method_92_code 72 = .ok (.goto 4, 3) := by decide +kernel
theorem d218_75 : decode prog_12_method_92_code 75 = .ok (.iconst 0, 1) := by decide +kernel
theorem d218_76 : decode prog_12_method_92_code 76 = .ok (.ireturn, 1) := by decide +kernel
theorem d219_0 : decode prog_12_method_94_code 0 = .ok (.aload_n 0, 1) := by decide +kernel
theorem d219_1 : decode prog_12_method_94_code 1 = .ok (.iconst 1, 1) := by decide +kernel
theorem d219_2 : decode prog_12_method_94_code 2 = .ok (.invokevirtual 207, 3) := by decide +kernel
theorem d219_5 : decode prog_12_method_94_code 5 = .ok (.iconst 1, 1) := by decide +kernel
theorem d219_6 : decode prog_12_method_94_code 6 = .ok (.if_icmp .ne 7, 3) := by decide +kernel
theorem d219_9 : decode prog_12_method_94_code 9 = .ok (.iconst 1, 1) := by decide +kernel
theorem d219_10 : decode prog_12_method_94_code 10 = .ok (.goto 4, 3) := by decide +kernel
theorem d219_13 : decode prog_12_method_94_code 13 = .ok (.iconst 0, 1) := by decide +kernel
theorem d219_14 : decode prog_12_method_94_code 14 = .ok (.ireturn, 1) := by decide +kernel
theorem d220_0 : decode prog_12_method_97_code 0 = .ok (.aload_n 0, 1) := by decide +kernel
theorem d220_1 : decode prog_12_method_97_code 1 = .ok (.iload_n 1, 1) := by decide +kernel
theorem d220_2 : decode prog_12_method_97_code 2 = .ok (.invokestatic 123, 3) := by decide +kernel
theorem d220_5 : decode prog_12_method_97_code 5 = .ok (.invokevirtual 210, 3) := by decide +kernel
theorem d220_8 : decode prog_12_method_97_code 8 = .ok (.ifCond .le 5, 3) := by decide +kernel
theorem d220_11 : decode prog_12_method_97_code 11 = .ok (.iconst 0, 1) := by decide +kernel
theorem d220_12 : decode prog_12_method_97_code 12 = .ok (.ireturn, 1) := by decide +kernel
theorem d220_13 : decode prog_12_method_97_code 13 = .ok (.aload_n 0, 1) := by decide +kernel
theorem d220_14 : decode prog_12_method_97_code 14 = .ok (.iconst 0, 1) := by decide +kernel
theorem d220_15 : decode prog_12_method_97_code 15 = .ok (.putfield 54, 3) := by decide +kernel
theorem d220_18 : decode prog_12_method_97_code 18 = .ok (.aload_n 0, 1) := by decide +kernel
theorem d220_19 : decode prog_12_method_97_code 19 = .ok (.iload_n 1, 1) := by decide +kernel
theorem d220_20 : decode prog_12_method_97_code 20 = .ok (.invokevirtual 251, 3) := by decide +kernel
theorem d220_23 : decode prog_12_method_97_code 23 = .ok (.aload_n 0, 1) := by decide +kernel
theorem d220_24 : decode prog_12_method_97_code 24 = .ok (.bipush 64, 2) := by decide +kernel
theorem d220_26 : decode prog_12_method_97_code 26 = .ok (.invokevirtual 248, 3) := by decide +kernel
theorem d220_29 : decode prog_12_method_97_code 29 = .ok (.aload_n 0, 1) := by decide +kernel
theorem d220_30 : decode prog_12_method_97_code 30 = .ok (.aload_n 0, 1) := by decide +kernel
theorem d220_31 : decode prog_12_method_97_code 31 = .ok (.iload_n 1, 1) := by decide +kernel
theorem d220_32 : decode prog_12_method_97_code 32 = .ok (.iconst 0, 1) := by decide +kernel
theorem d220_33 : decode prog_12_method_97_code 33 = .ok (.invokevirtual 147, 3) := by decide +kernel
theorem d220_36 : decode prog_12_method_97_code 36 = .ok (.invokevirtual 251, 3) := by decide +kernel
theorem d220_39 : decode prog_12_method_97_code 39 = .ok (.aload_n 0, 1) := by decide +kernel
theorem d220_40 : decode prog_12_method_97_code 40 = .ok (.bipush 44, 2) := by decide +kernel
theorem d220_42 : decode prog_12_method_97_code 42 = .ok (.invokevirtual 248, 3) := by decide +kernel
theorem d220_45 : decode prog_12_method_97_code 45 = .ok (.aload_n 0, 1) := by decide +kernel
theorem d220_46 : decode prog_12_method_97_code 46 = .ok (.aload_n 0, 1) := by decide +kernel
theorem d220_47 : decode prog_12_method_97_code 47 = .ok (.iload_n 1, 1) := by decide +kernel
theorem d220_48 : decode prog_12_method_97_code 48 = .ok (.iconst 1, 1) := by decide +kernel
theorem d220_49 : decode prog_12_method_97_code 49 = .ok (.invokevirtual 147, 3) := by decide +kernel
theorem d220_52 : decode prog_12_method_97_code 52 = .ok (.invokevirtual 251, 3) := by decide +kernel
theorem d220_55 : decode prog_12_method_97_code 55 = .ok (.aload_n 0, 1) := by decide +kernel
theorem d220_56 : decode prog_12_method_97_code 56 = .ok (.bipush 43, 2) := by decide +kernel
theorem d220_58 : decode prog_12_method_97_code 58 = .ok (.invokevirtual 248, 3) := by decide +kernel
theorem d220_61 : decode prog_12_method_97_code 61 = .ok (.aload_n 0, 1) := by decide +kernel
theorem d220_62 : decode prog_12_method_97_code 62 = .ok (.aload_n 0, 1) := by decide +kernel
theorem d220_63 : decode prog_12_method_97_code 63 = .ok (.iload_n 1, 1) := by decide +kernel
theorem d220_64 : decode prog_12_method_97_code 64 = .ok (.iconst 2, 1) := by decide +kernel
theorem d220_65 : decode prog_12_method_97_code 65 = .ok (.invokevirtual 147, 3) := by decide +kernel
theorem d220_68 : decode prog_12_method_97_code 68 = .ok (.invokevirtual 251, 3) := by decide +kernel
theorem d220_71 : decode prog_12_method_97_code 71 = .ok (.iconst 0, 1) := by decide +kernel
theorem d220_72 : decode prog_12_method_97_code 72 = .ok (.istore_n 2, 1) := by decide +kernel
theorem d220_73 : decode prog_12_method_97_code 73 = .ok (.iload_n 2, 1) := by decide +kernel
theorem d220_74 : decode prog_12_method_97_code 74 = .ok (.bipush 6, 2) := by decide +kernel
theorem d220_76 : decode prog_12_method_97_code 76 = .ok (.if_icmp .ge 44, 3) := by decide +kernel
theorem d220_79 : decode prog_12_method_97_code 79 = .ok (.aload_n 0, 1) := by decide +kernel
theorem d220_80 : decode prog_12_method_97_code 80 = .ok (.getfield 7, 3) := by decide +kernel
theorem d220_83 : decode prog_12_method_97_code 83 = .ok (.bipush 12, 2) := by decide +kernel
theorem d220_85 : decode prog_12_method_97_code 85 = .ok (.iload_n 2, 1) := by decide +kernel
theorem d220_86 : decode prog_12_method_97_code 86 = .ok (.iadd, 1) := by decide +kernel
theorem d220_87 : decode prog_12_method_97_code 87 = .ok (.iaload, 1) := by decide +kernel
theorem d220_88 : decode prog_12_method_97_code 88 = .ok (.iload_n 1, 1) := by decide +kernel
theorem d220_89 : decode prog_12_method_97_code 89 = .ok (.iconst 1, 1) := by decide +kernel
theorem d220_90 : decode prog_12_method_97_code 90 = .ok (.iadd, 1) := by decide +kernel
theorem d220_91 : decode prog_12_method_97_code 91 = .ok (.if_icmp .eq 6, 3) := by decide +kernel
theorem d220_94 : decode prog_12_method_97_code 94 = .ok (.goto 20, 3) := by decide +kernel
theorem d220_97 : decode prog_12_method_97_code 97 = .ok (.aload_n 0, 1) := by decide +kernel
theorem d220_98 : decode prog_12_method_97_code 98 = .ok (.bipush 32, 2) := by decide +kernel
theorem d220_100 : decode prog_12_method_97_code 100 = .ok (.invokevirtual 248, 3) := by decide +kernel
theorem d220_103 : decode prog_12_method_97_code 103 = .ok (.aload_n 0, 1) := by decide +kernel
theorem d220_104 : decode prog_12_method_97_code 104 = .ok (.bipush 116, 2) := by decide +kernel
theorem d220_106 : decode prog_12_method_97_code 106 = .ok (.invokevirtual 248, 3) := by decide +kernel
theorem d220_109 : decode prog_12_method_97_code 109 = .ok (.aload_n 0, 1) := by decide +kernel
theorem d220_110 : decode prog_12_method_97_code 110 = .ok (.iload_n 2, 1) := by decide +kernel
theorem d220_111 : decode prog_12_method_97_code 111 = .ok (.invokevirtual 251, 3) := by decide +kernel
theorem d220_114 : decode prog_12_method_97_code 114 = .ok (.iinc 2 1, 3) := by decide +kernel
theorem d220_117 : decode prog_12_method_97_code 117 = .ok (.goto (-44), 3) := by decide +kernel
theorem d220_120 : decode prog_12_method_97_code 120 = .ok (.iconst 0, 1) := by decide +kernel
theorem d220_121 : decode prog_12_method_97_code 121 = .ok (.istore_n 2, 1) := by decide +kernel
theorem d220_122 : decode prog_12_method_97_code 122 = .ok (.iload_n 2, 1) := by decide +kernel
theorem d220_123 : decode prog_12_method_97_code 123 = .ok (.iconst 4, 1) := by decide +kernel
theorem d220_124 : decode prog_12_method_97_code 124 = .ok (.if_icmp .ge 49, 3) := by decide +kernel
theorem d220_127 : decode prog_12_method_97_code 127 = .ok (.aload_n 0, 1) := by decide +kernel
theorem d220_128 : decode prog_12_method_97_code 128 = .ok (.iload_n 1, 1) := by decide +kernel
theorem d220_129 : decode prog_12_method_97_code 129 = .ok (.iconst 4, 1) := by decide +kernel
theorem d220_130 : decode prog_12_method_97_code 130 = .ok (.iload_n 2, 1) := by decide +kernel
theorem d220_131 : decode prog_12_method_97_code 131 = .ok (.iadd, 1) := by decide +kernel
theorem d220_132 : decode prog_12_method_97_code 132 = .ok (.invokevirtual 147, 3) := by decide +kernel
theorem d220_135 : decode prog_12_method_97_code 135 = .ok (.ifCond .ne 6, 3) := by decide +kernel
theorem d220_138 : decode prog_12_method_97_code 138 = .ok (.goto 29, 3) := by decide +kernel
theorem d220_141 : decode prog_12_method_97_code 141 = .ok (.aload_n 0, 1) := by decide +kernel
theorem d220_142 : decode prog_12_method_97_code 142 = .ok (.bipush 32, 2) := by decide +kernel
theorem d220_144 : decode prog_12_method_97_code 144 = .ok (.invokevirtual 248, 3) := by decide +kernel
theorem d220_147 : decode prog_12_method_97_code 147 = .ok (.aload_n 0, 1) := by decide +kernel
theorem d220_148 : decode prog_12_method_97_code 148 = .ok (.bipush 97, 2) := by decide +kernel
theorem d220_150 : decode prog_12_method_97_code 150 = .ok (.iload_n 2, 1) := by decide +kernel
theorem d220_151 : decode prog_12_method_97_code 151 = .ok (.iadd, 1) := by decide +kernel
theorem d220_152 : decode prog_12_method_97_code 152 = .ok (.invokevirtual 248, 3) := by decide +kernel
theorem d220_155 : decode prog_12_method_97_code 155 = .ok (.aload_n 0, 1) := by decide +kernel
theorem d220_156 : decode prog_12_method_97_code 156 = .ok (.aload_n 0, 1) := by decide +kernel
theorem d220_157 : decode prog_12_method_97_code 157 = .ok (.iload_n 1, 1) := by decide +kernel
theorem d220_158 : decode prog_12_method_97_code 158 = .ok (.iconst 4, 1) := by decide +kernel
theorem d220_159 : decode prog_12_method_97_code 159 = .ok (.iload_n 2, 1) := by decide +kernel
theorem d220_160 : decode prog_12_method_97_code 160 = .ok (.iadd, 1) := by decide +kernel
theorem d220_161 : decode prog_12_method_97_code 161 = .ok (.invokevirtual 147, 3) := by decide +kernel
theorem d220_164 : decode prog_12_method_97_code 164 = .ok (.invokevirtual 251, 3) := by decide +kernel
theorem d220_167 : decode prog_12_method_97_code 167 = .ok (.iinc 2 1, 3) := by decide +kernel
theorem d220_170 : decode prog_12_method_97_code 170 = .ok (.goto (-48), 3) := by decide +kernel
theorem d220_173 : decode prog_12_method_97_code 173 = .ok (.aload_n 0, 1) := by decide +kernel
theorem d220_174 : decode prog_12_method_97_code 174 = .ok (.getfield 54, 3) := by decide +kernel
theorem d220_177 : decode prog_12_method_97_code 177 = .ok (.ireturn, 1) := by decide +kernel
theorem d221_0 : decode prog_12_method_96_code 0 = .ok (.iconst 1, 1) := by decide +kernel
theorem d221_1 : decode prog_12_method_96_code 1 = .ok (.istore_n 2, 1) := by decide +kernel
theorem d221_2 : decode prog_12_method_96_code 2 = .ok (.iload_n 1, 1) := by decide +kernel
theorem d221_3 : decode prog_12_method_96_code 3 = .ok (.iload_n 2, 1) := by decide +kernel
theorem d221_4 : decode prog_12_method_96_code 4 = .ok (.idiv, 1) := by decide +kernel
theorem d221_5 : decode prog_12_method_96_code 5 = .ok (.bipush 9, 2) := by decide +kernel
theorem d221_7 : decode prog_12_method_96_code 7 = .ok (.if_icmp .le 11, 3) := by decide +kernel
theorem d221_10 : decode prog_12_method_96_code 10 = .ok (.iload_n 2, 1) := by decide +kernel
theorem d221_11 : decode prog_12_method_96_code 11 = .ok (.bipush 10, 2) := by decide +kernel
theorem d221_13 : decode prog_12_method_96_code 13 = .ok (.imul, 1) := by decide +kernel
theorem d221_14 : decode prog_12_method_96_code 14 = .ok (.istore_n 2, 1) := by decide +kernel
theorem d221_15 : decode prog_12_method_96_code 15 = .ok (.goto (-13), 3) := by decide +kernel
theorem d221_18 : decode prog_12_method_96_code 18 = .ok (.iload_n 2, 1) := by decide +kernel
theorem d221_19 : decode prog_12_method_96_code 19 = .ok (.ifCond .le 24, 3) := by decide +kernel
theorem d221_22 : decode prog_12_method_96_code 22 = .ok (.aload_n 0, 1) := by decide +kernel
theorem d221_23 : decode prog_12_method_96_code 23 = .ok (.bipush 48, 2) := by decide +kernel
theorem d221_25 : decode prog_12_method_96_code 25 = .ok (.iload_n 1, 1) := by decide +kernel
theorem d221_26 : decode prog_12_method_96_code 26 = .ok (.iload_n 2, 1) := by decide +kernel
theorem d221_27 : decode prog_12_method_96_code 27 = .ok (.idiv, 1) := by decide +kernel
theorem d221_28 : decode prog_12_method_96_code 28 = .ok (.bipush 10, 2) := by decide +kernel
theorem d221_30 : decode prog_12_method_96_code 30 = .ok (.irem, 1) := by decide +kernel
theorem d221_31 : decode prog_12_method_96_code 31 = .ok (.iadd, 1) := by decide +kernel
theorem d221_32 : decode prog_12_method_96_code 32 = .ok (.invokevirtual 248, 3) := by decide +kernel
theorem d221_35 : decode prog_12_method_96_code 35 = .ok (.iload_n 2, 1) := by decide +kernel
theorem d221_36 : decode prog_12_method_96_code 36 = .ok (.bipush 10, 2) := by decide +kernel
theorem d221_38 : decode prog_12_method_96_code 38 = .ok (.idiv, 1) := by decide +kernel
theorem d221_39 : decode prog_12_method_96_code 39 = .ok (.istore_n 2, 1) := by decide +kernel
theorem d221_40 : decode prog_12_method_96_code 40 = .ok (.goto (-22), 3) := by decide +kernel
theorem d221_43 : decode prog_12_method_96_code 43 = .ok (.return_, 1) := by decide +kernel
theorem d222_0 : decode prog_12_method_95_code 0 = .ok (.aload_n 0, 1) := by decide +kernel
theorem d222_1 : decode prog_12_method_95_code 1 = .ok (.getfield 51, 3) := by decide +kernel
theorem d222_4 : decode prog_12_method_95_code 4 = .ok (.aload_n 0, 1) := by decide +kernel
theorem d222_5 : decode prog_12_method_95_code 5 = .ok (.getfield 54, 3) := by decide +kernel
theorem d222_8 : decode prog_12_method_95_code 8 = .ok (.iload_n 1, 1) := by decide +kernel
theorem d222_9 : decode prog_12_method_95_code 9 = .ok (.iastore, 1) := by decide +kernel
theorem d222_10 : decode prog_12_method_95_code 10 = .ok (.aload_n 0, 1) := by decide +kernel
theorem d222_11 : decode prog_12_method_95_code 11 = .ok (.dup, 1) := by decide +kernel
theorem d222_12 : decode prog_12_method_95_code 12 = .ok (.getfield 54, 3) := by decide +kernel
theorem d222_15 : decode prog_12_method_95_code 15 = .ok (.iconst 1, 1) := by decide +kernel
theorem d222_16 : decode prog_12_method_95_code 16 = .ok (.iadd, 1) := by decide +kernel
theorem d222_17 : decode prog_12_method_95_code 17 = .ok (.putfield 54, 3) := by decide +kernel
theorem d222_20 : decode prog_12_method_95_code 20 = .ok (.return_, 1) := by decide +kernel
theorem d223_0 : decode prog_12_method_98_code 0 = .ok (.aload_n 0, 1) := by decide +kernel
theorem d223_1 : decode prog_12_method_98_code 1 = .ok (.iload_n 1, 1) := by decide +kernel
theorem d223_2 : decode prog_12_method_98_code 2 = .ok (.invokestatic 123, 3) := by decide +kernel
theorem d223_5 : decode prog_12_method_98_code 5 = .ok (.invokevirtual 210, 3) := by decide +kernel
theorem d223_8 : decode prog_12_method_98_code 8 = .ok (.ifCond .le 5, 3) := by decide +kernel
theorem d223_11 : decode prog_12_method_98_code 11 = .ok (.iconst 0, 1) := by decide +kernel
theorem d223_12 : decode prog_12_method_98_code 12 = .ok (.ireturn, 1) := by decide +kernel
theorem d223_13 : decode prog_12_method_98_code 13 = .ok (.aload_n 0, 1) := by decide +kernel
theorem d223_14 : decode prog_12_method_98_code 14 = .ok (.iload_n 1, 1) := by decide +kernel
theorem d223_15 : decode prog_12_method_98_code 15 = .ok (.invokevirtual 238, 3) := by decide +kernel
theorem d223_18 : decode prog_12_method_98_code 18 = .ok (.aload_n 0, 1) := by decide +kernel
theorem d223_19 : decode prog_12_method_98_code 19 = .ok (.iconst 0, 1) := by decide +kernel
theorem d223_20 : decode prog_12_method_98_code 20 = .ok (.putfield 54, 3) := by decide +kernel
theorem d223_23 : decode prog_12_method_98_code 23 = .ok (.aload_n 0, 1) := by decide +kernel
theorem d223_24 : decode prog_12_method_98_code 24 = .ok (.iload_n 1, 1) := by decide +kernel
theorem d223_25 : decode prog_12_method_98_code 25 = .ok (.iconst 2, 1) := by decide +kernel
theorem d223_26 : decode prog_12_method_98_code 26 = .ok (.invokevirtual 147, 3) := by decide +kernel
theorem d223_29 : decode prog_12_method_98_code 29 = .ok (.istore_n 2, 1) := by decide +kernel
theorem d223_30 : decode prog_12_method_98_code 30 = .ok (.aload_n 0, 1) := by decide +kernel
theorem d223_31 : decode prog_12_method_98_code 31 = .ok (.iload_n 1, 1) := by decide +kernel
theorem d223_32 : decode prog_12_method_98_code 32 = .ok (.iconst 0, 1) := by decide +kernel
theorem d223_33 : decode prog_12_method_98_code 33 = .ok (.invokevirtual 147, 3) := by decide +kernel
theorem d223_36 : decode prog_12_method_98_code 36 = .ok (.istore_n 3, 1) := by decide +kernel
theorem d223_37 : decode prog_12_method_98_code 37 = .ok (.aload_n 0, 1) := by decide +kernel
theorem d223_38 : decode prog_12_method_98_code 38 = .ok (.iload_n 1, 1) := by decide +kernel
theorem d223_39 : decode prog_12_method_98_code 39 = .ok (.iconst 1, 1) := by decide +kernel
theorem d223_40 : decode prog_12_method_98_code 40 = .ok (.invokevirtual 147, 3) := by decide +kernel
theorem d223_43 : decode prog_12_method_98_code 43 = .ok (.istore 4, 2) := by decide +kernel
theorem d223_45 : decode prog_12_method_98_code 45 = .ok (.iconst 0, 1) := by decide +kernel
theorem d223_46 : decode prog_12_method_98_code 46 = .ok (.istore 5, 2) := by decide +kernel
theorem d223_48 : decode prog_12_method_98_code 48 = .ok (.iload 5, 2) := by decide +kernel
theorem d223_50 : decode prog_12_method_98_code 50 = .ok (.aload_n 0, 1) := by decide +kernel
theorem d223_51 : decode prog_12_method_98_code 51 = .ok (.getfield 41, 3) := by decide +kernel
theorem d223_54 : decode prog_12_method_98_code 54 = .ok (.if_icmp .ge 103, 3) := by decide +kernel
theorem d223_57 : decode prog_12_method_98_code 57 = .ok (.aload_n 0, 1) := by decide +kernel
theorem d223_58 : decode prog_12_method_98_code 58 = .ok (.getfield 25, 3) := by decide +kernel
theorem d223_61 : decode prog_12_method_98_code 61 = .ok (.iload 5, 2) := by decide +kernel
theorem d223_63 : decode prog_12_method_98_code 63 = .ok (.iaload, 1) := by decide +kernel
theorem d223_64 : decode prog_12_method_98_code 64 = .ok (.istore 6, 2) := by decide +kernel
theorem d223_66 : decode prog_12_method_98_code 66 = .ok (.iload_n 2, 1) := by decide +kernel
theorem d223_67 : decode prog_12_method_98_code 67 = .ok (.iload_n 3, 1) := by decide +kernel
theorem d223_68 : decode prog_12_method_98_code 68 = .ok (.aload_n 0, 1) := by decide +kernel
theorem d223_69 : decode prog_12_method_98_code 69 = .ok (.iload 6, 2) := by decide +kernel
theorem d223_71 : decode prog_12_method_98_code 71 = .ok (.iconst 1, 1) := by decide +kernel
theorem d223_72 : decode prog_12_method_98_code 72 = .ok (.invokevirtual 85, 3) := by decide +kernel
theorem d223_75 : decode prog_12_method_98_code 75 = .ok (.invokestatic 176, 3) := by decide +kernel
theorem d223_78 : decode prog_12_method_98_code 78 = .ok (.iload 4, 2) := by decide +kernel
theorem d223_80 : decode prog_12_method_98_code 80 = .ok (.aload_n 0, 1) := by decide +kernel
theorem d223_81 : decode prog_12_method_98_code 81 = .ok (.iload 6, 2) := by decide +kernel
theorem d223_83 : decode prog_12_method_98_code 83 = .ok (.iconst 2, 1) := by decide +kernel
theorem d223_84 : decode prog_12_method_98_code 84 = .ok (.invokevirtual 85, 3) := by decide +kernel
theorem d223_87 : decode prog_12_method_98_code 87 = .ok (.invokestatic 176, 3) := by decide +kernel
theorem d223_90 : decode prog_12_method_98_code 90 = .ok (.iadd, 1) := by decide +kernel
theorem d223_91 : decode prog_12_method_98_code 91 = .ok (.aload_n 0, 1) := by decide +kernel
theorem d223_92 : decode prog_12_method_98_code 92 = .ok (.iload 6, 2) := by decide +kernel
theorem d223_94 : decode prog_12_method_98_code 94 = .ok (.iconst 5, 1) := by decide +kernel
theorem d223_95 : decode prog_12_method_98_code 95 = .ok (.invokevirtual 85, 3) := by decide +kernel
theorem d223_98 : decode prog_12_method_98_code 98 = .ok (.iadd, 1) := by decide +kernel
theorem d223_99 : decode prog_12_method_98_code 99 = .ok (.iadd, 1) := by decide +kernel
theorem d223_100 : decode prog_12_method_98_code 100 = .ok (.istore_n 2, 1) := by decide +kernel
theorem d223_101 : decode prog_12_method_98_code 101 = .ok (.aload_n 0, 1) := by decide +kernel
theorem d223_102 : decode prog_12_method_98_code 102 = .ok (.iload 6, 2) := by decide +kernel
theorem d223_104 : decode prog_12_method_98_code 104 = .ok (.iconst 1, 1) := by decide +kernel
theorem d223_105 : decode prog_12_method_98_code 105 = .ok (.invokevirtual 85, 3) := by decide +kernel
theorem d223_108 : decode prog_12_method_98_code 108 = .ok (.istore_n 3, 1) := by decide +kernel
theorem d223_109 : decode prog_12_method_98_code 109 = .ok (.aload_n 0, 1) := by decide +kernel
theorem d223_110 : decode prog_12_method_98_code 110 = .ok (.iload 6, 2) := by decide +kernel
theorem d223_112 : decode prog_12_method_98_code 112 = .ok (.iconst 2, 1) := by decide +kernel
theorem d223_113 : decode prog_12_method_98_code 113 = .ok (.invokevirtual 85, 3) := by decide +kernel
theorem d223_116 : decode prog_12_method_98_code 116 = .ok (.istore 4, 2) := by decide +kernel
theorem d223_118 : decode prog_12_method_98_code 118 = .ok (.iload 5, 2) := by decide +kernel
theorem d223_120 : decode prog_12_method_98_code 120 = .ok (.ifCond .le 9, 3) := by decide +kernel
theorem d223_123 : decode prog_12_method_98_code 123 = .ok (.aload_n 0, 1) := by decide +kernel
theorem d223_124 : decode prog_12_method_98_code 124 = .ok (.bipush 62, 2) := by decide +kernel
theorem d223_126 : decode prog_12_method_98_code 126 = .ok (.invokevirtual 248, 3) := by decide +kernel
theorem d223_129 : decode prog_12_method_98_code 129 = .ok (.aload_n 0, 1) := by decide +kernel
theorem d223_130 : decode prog_12_method_98_code 130 = .ok (.aload_n 0, 1) := by decide +kernel
theorem d223_131 : decode prog_12_method_98_code 131 = .ok (.iload 6, 2) := by decide +kernel
theorem d223_133 : decode prog_12_method_98_code 133 = .ok (.iconst 0, 1) := by decide +kernel
theorem d223_134 : decode prog_12_method_98_code 134 = .ok (.invokevirtual 85, 3) := by decide +kernel
theorem d223_137 : decode prog_12_method_98_code 137 = .ok (.invokevirtual 251, 3) := by decide +kernel
theorem d223_140 : decode prog_12_method_98_code 140 = .ok (.aload_n 0, 1) := by decide +kernel
theorem d223_141 : decode prog_12_method_98_code 141 = .ok (.bipush 58, 2) := by decide +kernel
theorem d223_143 : decode prog_12_method_98_code 143 = .ok (.invokevirtual 248, 3) := by decide +kernel
theorem d223_146 : decode prog_12_method_98_code 146 = .ok (.aload_n 0, 1) := by decide +kernel
theorem d223_147 : decode prog_12_method_98_code 147 = .ok (.iload_n 2, 1) := by decide +kernel
theorem d223_148 : decode prog_12_method_98_code 148 = .ok (.invokevirtual 251, 3) := by decide +kernel
theorem d223_151 : decode prog_12_method_98_code 151 = .ok (.iinc 5 1, 3) := by decide +kernel
theorem d223_154 : decode prog_12_method_98_code 154 = .ok (.goto (-106), 3) := by decide +kernel
theorem d223_157 : decode prog_12_method_98_code 157 = .ok (.aload_n 0, 1) := by decide +kernel
theorem d223_158 : decode prog_12_method_98_code 158 = .ok (.getfield 54, 3) := by decide +kernel
theorem d223_161 : decode prog_12_method_98_code 161 = .ok (.ireturn, 1) := by decide +kernel
theorem d224_0 : decode prog_12_method_99_code 0 = .ok (.aload_n 0, 1) := by decide +kernel
theorem d224_1 : decode prog_12_method_99_code 1 = .ok (.iload_n 1, 1) := by decide +kernel
theorem d224_2 : decode prog_12_method_99_code 2 = .ok (.iconst 0, 1) := by decide +kernel
theorem d224_3 : decode prog_12_method_99_code 3 = .ok (.aload_n 0, 1) := by decide +kernel
theorem d224_4 : decode prog_12_method_99_code 4 = .ok (.getfield 54, 3) := by decide +kernel
theorem d224_7 : decode prog_12_method_99_code 7 = .ok (.iconst 1, 1) := by decide +kernel
theorem d224_8 : decode prog_12_method_99_code 8 = .ok (.isub, 1) := by decide +kernel
theorem d224_9 : decode prog_12_method_99_code 9 = .ok (.invokestatic 89, 3) := by decide +kernel
theorem d224_12 : decode prog_12_method_99_code 12 = .ok (.invokevirtual 210, 3) := by decide +kernel
theorem d224_15 : decode prog_12_method_99_code 15 = .ok (.ifCond .le 8, 3) := by decide +kernel
theorem d224_18 : decode prog_12_method_99_code 18 = .ok (.bipush 32, 2) := by decide +kernel
theorem d224_20 : decode prog_12_method_99_code 20 = .ok (.goto 10, 3) := by decide +kernel
theorem d224_23 : decode prog_12_method_99_code 23 = .ok (.aload_n 0, 1) := by decide +kernel
theorem d224_24 : decode prog_12_method_99_code 24 = .ok (.getfield 51, 3) := by decide +kernel
theorem d224_27 : decode prog_12_method_99_code 27 = .ok (.iload_n 1, 1) := by decide +kernel
theorem d224_28 : decode prog_12_method_99_code 28 = .ok (.iaload, 1) := by decide +kernel
theorem d224_29 : decode prog_12_method_99_code 29 = .ok (.i2c, 1) := by decide +kernel
theorem d224_30 : decode prog_12_method_99_code 30 = .ok (.ireturn, 1) := by decide +kernel
theorem d225_0 : decode prog_12_method_100_code 0 = .ok (.aload_n 0, 1) := by decide +kernel
theorem d225_1 : decode prog_12_method_100_code 1 = .ok (.aload_n 0, 1) := by decide +kernel
theorem d225_2 : decode prog_12_method_100_code 2 = .ok (.getfield 66, 3) := by decide +kernel
theorem d225_5 : decode prog_12_method_100_code 5 = .ok (.bipush 60, 2) := by decide +kernel
theorem d225_7 : decode prog_12_method_100_code 7 = .ok (.if_icmp .ge 7, 3) := by decide +kernel
theorem d225_10 : decode prog_12_method_100_code 10 = .ok (.iconst 1, 1) := by decide +kernel
theorem d225_11 : decode prog_12_method_100_code 11 = .ok (.goto 4, 3) := by decide +kernel
theorem d225_14 : decode prog_12_method_100_code 14 = .ok (.iconst 0, 1) := by decide +kernel
theorem d225_15 : decode prog_12_method_100_code 15 = .ok (.invokevirtual 210, 3) := by decide +kernel
theorem d225_18 : decode prog_12_method_100_code 18 = .ok (.ifCond .le 5, 3) := by decide +kernel
theorem d225_21 : decode prog_12_method_100_code 21 = .ok (.iconst 0, 1) := by decide +kernel
theorem d225_22 : decode prog_12_method_100_code 22 = .ok (.ireturn, 1) := by decide +kernel
theorem d225_23 : decode prog_12_method_100_code 23 = .ok (.aload_n 0, 1) := by decide +kernel
theorem d225_24 : decode prog_12_method_100_code 24 = .ok (.getfield 57, 3) := by decide +kernel
theorem d225_27 : decode prog_12_method_100_code 27 = .ok (.aload_n 0, 1) := by decide +kernel
theorem d225_28 : decode prog_12_method_100_code 28 = .ok (.getfield 66, 3) := by decide +kernel
theorem d225_31 : decode prog_12_method_100_code 31 = .ok (.iload_n 1, 1) := by decide +kernel
theorem d225_32 : decode prog_12_method_100_code 32 = .ok (.iastore, 1) := by decide +kernel
theorem d225_33 : decode prog_12_method_100_code 33 = .ok (.aload_n 0, 1) := by decide +kernel
theorem d225_34 : decode prog_12_method_100_code 34 = .ok (.dup, 1) := by decide +kernel
theorem d225_35 : decode prog_12_method_100_code 35 = .ok (.getfield 66, 3) := by decide +kernel
theorem d225_38 : decode prog_12_method_100_code 38 = .ok (.iconst 1, 1) := by decide +kernel
theorem d225_39 : decode prog_12_method_100_code 39 = .ok (.iadd, 1) := by decide +kernel
theorem d225_40 : decode prog_12_method_100_code 40 = .ok (.putfield 66, 3) := by decide +kernel
theorem d225_43 : decode prog_12_method_100_code 43 = .ok (.aload_n 0, 1) := by decide +kernel
theorem d225_44 : decode prog_12_method_100_code 44 = .ok (.getfield 66, 3) := by decide +kernel
theorem d225_47 : decode prog_12_method_100_code 47 = .ok (.ireturn, 1) := by decide +kernel
theorem d226_0 : decode prog_12_method_114_code 0 = .ok (.aload_n 0, 1) := by decide +kernel
theorem d226_1 : decode prog_12_method_114_code 1 = .ok (.invokevirtual 100, 3) := by decide +kernel
theorem d226_4 : decode prog_12_method_114_code 4 = .ok (.aload_n 0, 1) := by decide +kernel
theorem d226_5 : decode prog_12_method_114_code 5 = .ok (.invokevirtual 289, 3) := by decide +kernel
theorem d226_8 : decode prog_12_method_114_code 8 = .ok (.aload_n 0, 1) := by decide +kernel
theorem d226_9 : decode prog_12_method_114_code 9 = .ok (.getfield 78, 3) := by decide +kernel
theorem d226_12 : decode prog_12_method_114_code 12 = .ok (.ifCond .eq 17, 3) := by decide +kernel
theorem d226_15 : decode prog_12_method_114_code 15 = .ok (.aload_n 0, 1) := by decide +kernel
theorem d226_16 : decode prog_12_method_114_code 16 = .ok (.aload_n 0, 1) := by decide +kernel
theorem d226_17 : decode prog_12_method_114_code 17 = .ok (.getfield 72, 3) := by decide +kernel
theorem d226_20 : decode prog_12_method_114_code 20 = .ok (.putfield 35, 3) := by decide +kernel
theorem d226_23 : decode prog_12_method_114_code 23 = .ok (.aload_n 0, 1) := by decide +kernel
theorem d226_24 : decode prog_12_method_114_code 24 = .ok (.iconst 1, 1) := by decide +kernel
theorem d226_25 : decode prog_12_method_114_code 25 = .ok (.invokevirtual 107, 3) := by decide +kernel
theorem d226_28 : decode prog_12_method_114_code 28 = .ok (.ireturn, 1) := by decide +kernel
theorem d226_29 : decode prog_12_method_114_code 29 = .ok (.iconst 0, 1) := by decide +kernel
theorem d226_30 : decode prog_12_method_114_code 30 = .ok (.istore_n 1, 1) := by decide +kernel
theorem d226_31 : decode prog_12_method_114_code 31 = .ok (.iload_n 1, 1) := by decide +kernel
theorem d226_32 : decode prog_12_method_114_code 32 = .ok (.aload_n 0, 1) := by decide +kernel
theorem d226_33 : decode prog_12_method_114_code 33 = .ok (.getfield 75, 3) := by decide +kernel
theorem d226_36 : decode prog_12_method_114_code 36 = .ok (.if_icmp .ge 44, 3) := by decide +kernel
theorem d226_39 : decode prog_12_method_114_code 39 = .ok (.aload_n 0, 1) := by decide +kernel
theorem d226_40 : decode prog_12_method_114_code 40 = .ok (.iload_n 1, 1) := by decide +kernel
theorem d226_41 : decode prog_12_method_114_code 41 = .ok (.invokevirtual 292, 3) := by decide +kernel
theorem d226_44 : decode prog_12_method_114_code 44 = .ok (.ifCond .ne 6, 3) := by decide +kernel
theorem d226_47 : decode prog_12_method_114_code 47 = .ok (.goto 27, 3) := by decide +kernel
theorem d226_50 : decode prog_12_method_114_code 50 = .ok (.aload_n 0, 1) := by decide +kernel
theorem d226_51 : decode prog_12_method_114_code 51 = .ok (.getfield 13, 3) := by decide +kernel
theorem d226_54 : decode prog_12_method_114_code 54 = .ok (.iconst 0, 1) := by decide +kernel
theorem d226_55 : decode prog_12_method_114_code 55 = .ok (.aload_n 0, 1) := by decide +kernel
theorem d226_56 : decode prog_12_method_114_code 56 = .ok (.getfield 7, 3) := by decide +kernel
theorem d226_59 : decode prog_12_method_114_code 59 = .ok (.iconst 0, 1) := by decide +kernel
theorem d226_60 : decode prog_12_method_114_code 60 = .ok (.invokestatic 81, 3) := by decide +kernel
theorem d226_63 : decode prog_12_method_114_code 63 = .ok (.aload_n 0, 1) := by decide +kernel
theorem d226_64 : decode prog_12_method_114_code 64 = .ok (.iload_n 1, 1) := by decide +kernel
theorem d226_65 : decode prog_12_method_114_code 65 = .ok (.putfield 38, 3) := by decide +kernel
theorem d226_68 : decode prog_12_method_114_code 68 = .ok (.aload_n 0, 1) := by decide +kernel
theorem d226_69 : decode prog_12_method_114_code 69 = .ok (.iconst 2, 1) := by decide +kernel
theorem d226_70 : decode prog_12_method_114_code 70 = .ok (.invokevirtual 107, 3) := by decide +kernel
theorem d226_73 : decode prog_12_method_114_code 73 = .ok (.ireturn, 1) := by decide +kernel
theorem d226_74 : decode prog_12_method_114_code 74 = .ok (.iinc 1 1, 3) := by decide +kernel
theorem d226_77 : decode prog_12_method_114_code 77 = .ok (.goto (-46), 3) := by decide +kernel
theorem d226_80 : decode prog_12_method_114_code 80 = .ok (.aload_n 0, 1) := by decide +kernel
theorem d226_81 : decode prog_12_method_114_code 81 = .ok (.aload_n 0, 1) := by decide +kernel
theorem d226_82 : decode prog_12_method_114_code 82 = .ok (.getfield 75, 3) := by decide +kernel
theorem d226_85 : decode prog_12_method_114_code 85 = .ok (.invokevirtual 114, 3) := by decide +kernel
theorem d226_88 : decode prog_12_method_114_code 88 = .ok (.ireturn, 1) := by decide +kernel
theorem d227_0 : decode prog_12_method_112_code 0 = .ok (.aload_n 0, 1) := by decide +kernel
theorem d227_1 : decode prog_12_method_112_code 1 = .ok (.aload_n 0, 1) := by decide +kernel
theorem d227_2 : decode prog_12_method_112_code 2 = .ok (.getfield 66, 3) := by decide +kernel
theorem d227_5 : decode prog_12_method_112_code 5 = .ok (.putfield 69, 3) := by decide +kernel
theorem d227_8 : decode prog_12_method_112_code 8 = .ok (.aload_n 0, 1) := by decide +kernel
theorem d227_9 : decode prog_12_method_112_code 9 = .ok (.iconst 0, 1) := by decide +kernel
theorem d227_10 : decode prog_12_method_112_code 10 = .ok (.putfield 66, 3) := by decide +kernel
theorem d227_13 : decode prog_12_method_112_code 13 = .ok (.aload_n 0, 1) := by decide +kernel
theorem d227_14 : decode prog_12_method_112_code 14 = .ok (.iconst 0, 1) := by decide +kernel
theorem d227_15 : decode prog_12_method_112_code 15 = .ok (.putfield 72, 3) := by decide +kernel
theorem d227_18 : decode prog_12_method_112_code 18 = .ok (.aload_n 0, 1) := by decide +kernel
theorem d227_19 : decode prog_12_method_112_code 19 = .ok (.iconst 0, 1) := by decide +kernel
theorem d227_20 : decode prog_12_method_112_code 20 = .ok (.putfield 75, 3) := by decide +kernel
theorem d227_23 : decode prog_12_method_112_code 23 = .ok (.aload_n 0, 1) := by decide +kernel
theorem d227_24 : decode prog_12_method_112_code 24 = .ok (.iconst 0, 1) := by decide +kernel
theorem d227_25 : decode prog_12_method_112_code 25 = .ok (.putfield 78, 3) := by decide +kernel
theorem d227_28 : decode prog_12_method_112_code 28 = .ok (.aload_n 0, 1) := by decide +kernel
theorem d227_29 : decode prog_12_method_112_code 29 = .ok (.invokevirtual 286, 3) := by decide +kernel
theorem d227_32 : decode prog_12_method_112_code 32 = .ok (.aload_n 0, 1) := by decide +kernel
theorem d227_33 : decode prog_12_method_112_code 33 = .ok (.invokevirtual 254, 3) := by decide +kernel
theorem d227_36 : decode prog_12_method_112_code 36 = .ok (.bipush 59, 2) := by decide +kernel
theorem d227_38 : decode prog_12_method_112_code 38 = .ok (.if_icmp .ne 20, 3) := by decide +kernel
theorem d227_41 : decode prog_12_method_112_code 41 = .ok (.aload_n 0, 1) := by decide +kernel
theorem d227_42 : decode prog_12_method_112_code 42 = .ok (.dup, 1) := by decide +kernel
theorem d227_43 : decode prog_12_method_112_code 43 = .ok (.getfield 72, 3) := by decide +kernel
theorem d227_46 : decode prog_12_method_112_code 46 = .ok (.iconst 1, 1) := by decide +kernel
theorem d227_47 : decode prog_12_method_112_code 47 = .ok (.iadd, 1) := by decide +kernel
theorem d227_48 : decode prog_12_method_112_code 48 = .ok (.putfield 72, 3) := by decide +kernel
theorem d227_51 : decode prog_12_method_112_code 51 = .ok (.aload_n 0, 1) := by decide +kernel
theorem d227_52 : decode prog_12_method_112_code 52 = .ok (.invokevirtual 286, 3) := by decide +kernel
theorem d227_55 : decode prog_12_method_112_code 55 = .ok (.goto (-23), 3) := by decide +kernel
theorem d227_58 : decode prog_12_method_112_code 58 = .ok (.aload_n 0, 1) := by decide +kernel
theorem d227_59 : decode prog_12_method_112_code 59 = .ok (.dup, 1) := by decide +kernel
theorem d227_60 : decode prog_12_method_112_code 60 = .ok (.getfield 78, 3) := by decide +kernel
theorem d227_63 : decode prog_12_method_112_code 63 = .ok (.aload_n 0, 1) := by decide +kernel
theorem d227_64 : decode prog_12_method_112_code 64 = .ok (.getfield 72, 3) := by decide +kernel
theorem d227_67 : decode prog_12_method_112_code 67 = .ok (.aload_n 0, 1) := by decide +kernel
theorem d227_68 : decode prog_12_method_112_code 68 = .ok (.getfield 69, 3) := by decide +kernel
theorem d227_71 : decode prog_12_method_112_code 71 = .ok (.if_icmp .ge 7, 3) := by decide +kernel
theorem d227_74 : decode prog_12_method_112_code 74 = .ok (.iconst 1, 1) := by decide +kernel
theorem d227_75 : decode prog_12_method_112_code 75 = .ok (.goto 4, 3) := by decide +kernel
theorem d227_78 : decode prog_12_method_112_code 78 = .ok (.iconst 0, 1) := by decide +kernel
theorem d227_79 : decode prog_12_method_112_code 79 = .ok (.ior, 1) := by decide +kernel
theorem d227_80 : decode prog_12_method_112_code 80 = .ok (.putfield 78, 3) := by decide +kernel
theorem d227_83 : decode prog_12_method_112_code 83 = .ok (.return_, 1) := by decide +kernel
theorem d228_0 : decode prog_12_method_111_code 0 = .ok (.aload_n 0, 1) := by decide +kernel
theorem d228_1 : decode prog_12_method_111_code 1 = .ok (.invokevirtual 277, 3) := by decide +kernel
theorem d228_4 : decode prog_12_method_111_code 4 = .ok (.istore_n 1, 1) := by decide +kernel
theorem d228_5 : decode prog_12_method_111_code 5 = .ok (.aload_n 0, 1) := by decide +kernel
theorem d228_6 : decode prog_12_method_111_code 6 = .ok (.bipush 32, 2) := by decide +kernel
theorem d228_8 : decode prog_12_method_111_code 8 = .ok (.invokevirtual 271, 3) := by decide +kernel
theorem d228_11 : decode prog_12_method_111_code 11 = .ok (.iload_n 1, 1) := by decide +kernel
theorem d228_12 : decode prog_12_method_111_code 12 = .ok (.ifCond .ne 10, 3) := by decide +kernel
theorem d228_15 : decode prog_12_method_111_code 15 = .ok (.aload_n 0, 1) := by decide +kernel
theorem d228_16 : decode prog_12_method_111_code 16 = .ok (.invokevirtual 280, 3) := by decide +kernel
theorem d228_19 : decode prog_12_method_111_code 19 = .ok (.goto 8, 3) := by decide +kernel
theorem d228_22 : decode prog_12_method_111_code 22 = .ok (.aload_n 0, 1) := by decide +kernel
theorem d228_23 : decode prog_12_method_111_code 23 = .ok (.iload_n 1, 1) := by decide +kernel
theorem d228_24 : decode prog_12_method_111_code 24 = .ok (.invokevirtual 283, 3) := by decide +kernel
theorem d228_27 : decode prog_12_method_111_code 27 = .ok (.aload_n 0, 1) := by decide +kernel
theorem d228_28 : decode prog_12_method_111_code 28 = .ok (.getfield 78, 3) := by decide +kernel
theorem d228_31 : decode prog_12_method_111_code 31 = .ok (.ifCond .eq 4, 3) := by decide +kernel
theorem d228_34 : decode prog_12_method_111_code 34 = .ok (.return_, 1) := by decide +kernel
theorem d228_35 : decode prog_12_method_111_code 35 = .ok (.aload_n 0, 1) := by decide +kernel
theorem d228_36 : decode prog_12_method_111_code 36 = .ok (.getfield 60, 3) := by decide +kernel
theorem d228_39 : decode prog_12_method_111_code 39 = .ok (.aload_n 0, 1) := by decide +kernel
theorem d228_40 : decode prog_12_method_111_code 40 = .ok (.getfield 75, 3) := by decide +kernel
theorem d228_43 : decode prog_12_method_111_code 43 = .ok (.iload_n 1, 1) := by decide +kernel
theorem d228_44 : decode prog_12_method_111_code 44 = .ok (.iastore, 1) := by decide +kernel
theorem d228_45 : decode prog_12_method_111_code 45 = .ok (.aload_n 0, 1) := by decide +kernel
theorem d228_46 : decode prog_12_method_111_code 46 = .ok (.dup, 1) := by decide +kernel
theorem d228_47 : decode prog_12_method_111_code 47 = .ok (.getfield 75, 3) := by decide +kernel
theorem d228_50 : decode prog_12_method_111_code 50 = .ok (.iconst 1, 1) := by decide +kernel
theorem d228_51 : decode prog_12_method_111_code 51 = .ok (.iadd, 1) := by decide +kernel
theorem d228_52 : decode prog_12_method_111_code 52 = .ok (.putfield 75, 3) := by decide +kernel
theorem d228_55 : decode prog_12_method_111_code 55 = .ok (.return_, 1) := by decide +kernel
theorem d229_0 : decode prog_12_method_107_code 0 = .ok (.iconst 0, 1) := by decide +kernel
theorem d229_1 : decode prog_12_method_107_code 1 = .ok (.istore_n 1, 1) := by decide +kernel
theorem d229_2 : decode prog_12_method_107_code 2 = .ok (.iconst 0, 1) := by decide +kernel
theorem d229_3 : decode prog_12_method_107_code 3 = .ok (.istore_n 2, 1) := by decide +kernel
theorem d229_4 : decode prog_12_method_107_code 4 = .ok (.iload_n 2, 1) := by decide +kernel
theorem d229_5 : decode prog_12_method_107_code 5 = .ok (.bipush 11, 2) := by decide +kernel
theorem d229_7 : decode prog_12_method_107_code 7 = .ok (.if_icmp .ge 88, 3) := by decide +kernel
theorem d229_10 : decode prog_12_method_107_code 10 = .ok (.iconst 0, 1) := by decide +kernel
theorem d229_11 : decode prog_12_method_107_code 11 = .ok (.istore_n 3, 1) := by decide +kernel
theorem d229_12 : decode prog_12_method_107_code 12 = .ok (.iload_n 2, 1) := by decide +kernel
theorem d229_13 : decode prog_12_method_107_code 13 = .ok (.iload_n 3, 1) := by decide +kernel
theorem d229_14 : decode prog_12_method_107_code 14 = .ok (.invokestatic 262, 3) := by decide +kernel
theorem d229_17 : decode prog_12_method_107_code 17 = .ok (.ifCond .le 41, 3) := by decide +kernel
theorem d229_20 : decode prog_12_method_107_code 20 = .ok (.aload_n 0, 1) := by decide +kernel
theorem d229_21 : decode prog_12_method_107_code 21 = .ok (.getfield 72, 3) := by decide +kernel
theorem d229_24 : decode prog_12_method_107_code 24 = .ok (.iload_n 3, 1) := by decide +kernel
theorem d229_25 : decode prog_12_method_107_code 25 = .ok (.iadd, 1) := by decide +kernel
theorem d229_26 : decode prog_12_method_107_code 26 = .ok (.aload_n 0, 1) := by decide +kernel
theorem d229_27 : decode prog_12_method_107_code 27 = .ok (.getfield 69, 3) := by decide +kernel
theorem d229_30 : decode prog_12_method_107_code 30 = .ok (.if_icmp .ge 28, 3) := by decide +kernel
theorem d229_33 : decode prog_12_method_107_code 33 = .ok (.aload_n 0, 1) := by decide +kernel
theorem d229_34 : decode prog_12_method_107_code 34 = .ok (.getfield 57, 3) := by decide +kernel
theorem d229_37 : decode prog_12_method_107_code 37 = .ok (.aload_n 0, 1) := by decide +kernel
theorem d229_38 : decode prog_12_method_107_code 38 = .ok (.getfield 72, 3) := by decide +kernel
theorem d229_41 : decode prog_12_method_107_code 41 = .ok (.iload_n 3, 1) := by decide +kernel
theorem d229_42 : decode prog_12_method_107_code 42 = .ok (.iadd, 1) := by decide +kernel
theorem d229_43 : decode prog_12_method_107_code 43 = .ok (.iaload, 1) := by decide +kernel
theorem d229_44 : decode prog_12_method_107_code 44 = .ok (.iload_n 2, 1) := by decide +kernel
theorem d229_45 : decode prog_12_method_107_code 45 = .ok (.iload_n 3, 1) := by decide +kernel
theorem d229_46 : decode prog_12_method_107_code 46 = .ok (.invokestatic 262, 3) := by decide +kernel
theorem d229_49 : decode prog_12_method_107_code 49 = .ok (.if_icmp .ne 9, 3) := by decide +kernel
theorem d229_52 : decode prog_12_method_107_code 52 = .ok (.iinc 3 1, 3) := by decide +kernel
theorem d229_55 : decode prog_12_method_107_code 55 = .ok (.goto (-43), 3) := by decide +kernel
theorem d229_58 : decode prog_12_method_107_code 58 = .ok (.iload_n 2, 1) := by decide +kernel
theorem d229_59 : decode prog_12_method_107_code 59 = .ok (.iload_n 3, 1) := by decide +kernel
theorem d229_60 : decode prog_12_method_107_code 60 = .ok (.invokestatic 262, 3) := by decide +kernel
theorem d229_63 : decode prog_12_method_107_code 63 = .ok (.ifCond .ne 15, 3) := by decide +kernel
theorem d229_66 : decode prog_12_method_107_code 66 = .ok (.aload_n 0, 1) := by decide +kernel
theorem d229_67 : decode prog_12_method_107_code 67 = .ok (.dup, 1) := by decide +kernel
theorem d229_68 : decode prog_12_method_107_code 68 = .ok (.getfield 72, 3) := by decide +kernel
theorem d229_71 : decode prog_12_method_107_code 71 = .ok (.iload_n 3, 1) := by decide +kernel
theorem d229_72 : decode prog_12_method_107_code 72 = .ok (.iadd, 1) := by decide +kernel
theorem d229_73 : decode prog_12_method_107_code 73 = .ok (.putfield 72, 3) := by decide +kernel
theorem d229_76 : decode prog_12_method_107_code 76 = .ok (.iload_n 2, 1) := by decide +kernel
theorem d229_77 : decode prog_12_method_107_code 77 = .ok (.ireturn, 1) := by decide +kernel
theorem d229_78 : decode prog_12_method_107_code 78 = .ok (.iload_n 3, 1) := by decide +kernel
theorem d229_79 : decode prog_12_method_107_code 79 = .ok (.iload_n 1, 1) := by decide +kernel
theorem d229_80 : decode prog_12_method_107_code 80 = .ok (.if_icmp .le 7, 3) := by decide +kernel
theorem d229_83 : decode prog_12_method_107_code 83 = .ok (.iload_n 3, 1) := by decide +kernel
theorem d229_84 : decode prog_12_method_107_code 84 = .ok (.goto 4, 3) := by decide +kernel
theorem d229_87 : decode prog_12_method_107_code 87 = .ok (.iload_n 1, 1) := by decide +kernel
theorem d229_88 : decode prog_12_method_107_code 88 = .ok (.istore_n 1, 1) := by decide +kernel
theorem d229_89 : decode prog_12_method_107_code 89 = .ok (.iinc 2 1, 3) := by decide +kernel
theorem d229_92 : decode prog_12_method_107_code 92 = .ok (.goto (-88), 3) := by decide +kernel
theorem d229_95 : decode prog_12_method_107_code 95 = .ok (.aload_n 0, 1) := by decide +kernel
theorem d229_96 : decode prog_12_method_107_code 96 = .ok (.dup, 1) := by decide +kernel
theorem d229_97 : decode prog_12_method_107_code 97 = .ok (.getfield 72, 3) := by decide +kernel
theorem d229_100 : decode prog_12_method_107_code 100 = .ok (.iload_n 1, 1) := by decide +kernel
theorem d229_101 : decode prog_12_method_107_code 101 = .ok (.iadd, 1) := by decide +kernel
theorem d229_102 : decode prog_12_method_107_code 102 = .ok (.putfield 72, 3) := by decide +kernel
theorem d229_105 : decode prog_12_method_107_code 105 = .ok (.aload_n 0, 1) := by decide +kernel
theorem d229_106 : decode prog_12_method_107_code 106 = .ok (.iconst 1, 1) := by decide +kernel
theorem d229_107 : decode prog_12_method_107_code 107 = .ok (.putfield 78, 3) := by decide +kernel
theorem d229_110 : decode prog_12_method_107_code 110 = .ok (.iconst 0, 1) := by decide +kernel
theorem d229_111 : decode prog_12_method_107_code 111 = .ok (.ireturn, 1) := by decide +kernel
theorem d230_0 : decode prog_12_method_106_code 0 = .ok (.iload_n 0, 1) := by decide +kernel
theorem d230_1 : decode prog_12_method_106_code 1 = .ok (.tableswitch 210 0 9 #[55, 69, 86, 101, 116, 132, 147, 164, 181, 195], 55) := by decide +kernel
theorem d230_56 : decode prog_12_method_106_code 56 = .ok (.iload_n 1, 1) := by decide +kernel
theorem d230_57 : decode prog_12_method_106_code 57 = .ok (.bipush 106, 2) := by decide +kernel
theorem d230_59 : decode prog_12_method_106_code 59 = .ok (.bipush 111, 2) := by decide +kernel
theorem d230_61 : decode prog_12_method_106_code 61 = .ok (.bipush 98, 2) := by decide +kernel
theorem d230_63 : decode prog_12_method_106_code 63 = .ok (.iconst 0, 1) := by decide +kernel
theorem d230_64 : decode prog_12_method_106_code 64 = .ok (.iconst 0, 1) := by decide +kernel
theorem d230_65 : decode prog_12_method_106_code 65 = .ok (.iconst 0, 1) := by decide +kernel
theorem d230_66 : decode prog_12_method_106_code 66 = .ok (.invokestatic 258, 3) := by decide +kernel
theorem d230_69 : decode prog_12_method_106_code 69 = .ok (.ireturn, 1) := by decide +kernel
theorem d230_70 : decode prog_12_method_106_code 70 = .ok (.iload_n 1, 1) := by decide +kernel
theorem d230_71 : decode prog_12_method_106_code 71 = .ok (.bipush 99, 2) := by decide +kernel
theorem d230_73 : decode prog_12_method_106_code 73 = .ok (.bipush 97, 2) := by decide +kernel
theorem d230_75 : decode prog_12_method_106_code 75 = .ok (.bipush 110, 2) := by decide +kernel
theorem d230_77 : decode prog_12_method_106_code 77 = .ok (.bipush 99, 2) := by decide +kernel
theorem d230_79 : decode prog_12_method_106_code 79 = .ok (.bipush 101, 2) := by decide +kernel
theorem d230_81 : decode prog_12_method_106_code 81 = .ok (.bipush 108, 2) := by decide +kernel
theorem d230_83 : decode prog_12_method_106_code 83 = .ok (.invokestatic 258, 3) := by decide +kernel
theorem d230_86 : decode prog_12_method_106_code 86 = .ok (.ireturn, 1) := by decide +kernel
theorem d230_87 : decode prog_12_method_106_code 87 = .ok (.iload_n 1, 1) := by decide +kernel
theorem d230_88 : decode prog_12_method_106_code 88 = .ok (.bipush 103, 2) := by decide +kernel
theorem d230_90 : decode prog_12_method_106_code 90 = .ok (.bipush 105, 2) := by decide +kernel
theorem d230_92 : decode prog_12_method_106_code 92 = .ok (.bipush 118, 2) := by decide +kernel
theorem d230_94 : decode prog_12_method_106_code 94 = .ok (.bipush 101, 2) := by decide +kernel
theorem d230_96 : decode prog_12_method_106_code 96 = .ok (.iconst 0, 1) := by decide +kernel
theorem d230_97 : decode prog_12_method_106_code 97 = .ok (.iconst 0, 1) := by decide +kernel
theorem d230_98 : decode prog_12_method_106_code 98 = .ok (.invokestatic 258, 3) := by decide +kernel
theorem d230_101 : decode prog_12_method_106_code 101 = .ok (.ireturn, 1) := by decide +kernel
theorem d230_102 : decode prog_12_method_106_code 102 = .ok (.iload_n 1, 1) := by decide +kernel
theorem d230_103 : decode prog_12_method_106_code 103 = .ok (.bipush 116, 2) := by decide +kernel
theorem d230_105 : decode prog_12_method_106_code 105 = .ok (.bipush 97, 2) := by decide +kernel
theorem d230_107 : decode prog_12_method_106_code 107 = .ok (.bipush 107, 2) := by decide +kernel
theorem d230_109 : decode prog_12_method_106_code 109 = .ok (.bipush 101, 2) := by decide +kernel
theorem d230_111 : decode prog_12_method_106_code 111 = .ok (.iconst 0, 1) := by decide +kernel
theorem d230_112 : decode prog_12_method_106_code 112 = .ok (.iconst 0, 1) := by decide +kernel
theorem d230_113 : decode prog_12_method_106_code 113 = .ok (.invokestatic 258, 3) := by decide +kernel
theorem d230_116 : decode prog_12_method_106_code 116 = .ok (.ireturn, 1) := by decide +kernel
theorem d230_117 : decode prog_12_method_106_code 117 = .ok (.iload_n 1, 1) := by decide +kernel
theorem d230_118 : decode prog_12_method_106_code 118 = .ok (.bipush 115, 2) := by decide +kernel
theorem d230_120 : decode prog_12_method_106_code 120 = .ok (.bipush 116, 2) := by decide +kernel
theorem d230_122 : decode prog_12_method_106_code 122 = .ok (.bipush 111, 2) := by decide +kernel
theorem d230_124 : decode prog_12_method_106_code 124 = .ok (.bipush 99, 2) := by decide +kernel
theorem d230_126 : decode prog_12_method_106_code 126 = .ok (.bipush 107, 2) := by decide +kernel
theorem d230_128 : decode prog_12_method_106_code 128 = .ok (.iconst 0, 1) := by decide +kernel
theorem d230_129 : decode prog_12_method_106_code 129 = .ok (.invokestatic 258, 3) := by decide +kernel
theorem d230_132 : decode prog_12_method_106_code 132 = .ok (.ireturn, 1) := by decide +kernel
theorem d230_133 : decode prog_12_method_106_code 133 = .ok (.iload_n 1, 1) := by decide +kernel
theorem d230_134 : decode prog_12_method_106_code 134 = .ok (.bipush 108, 2) := by decide +kernel
theorem d230_136 : decode prog_12_method_106_code 136 = .ok (.bipush 111, 2) := by decide +kernel
theorem d230_138 : decode prog_12_method_106_code 138 = .ok (.bipush 97, 2) := by decide +kernel
theorem d230_140 : decode prog_12_method_106_code 140 = .ok (.bipush 100, 2) := by decide +kernel
theorem d230_142 : decode prog_12_method_106_code 142 = .ok (.iconst 0, 1) := by decide +kernel
theorem d230_143 : decode prog_12_method_106_code 143 = .ok (.iconst 0, 1) := by decide +kernel
theorem d230_144 : decode prog_12_method_106_code 144 = .ok (.invokestatic 258, 3) := by decide +kernel
theorem d230_147 : decode prog_12_method_106_code 147 = .ok (.ireturn, 1) := by decide +kernel
theorem d230_148 : decode prog_12_method_106_code 148 = .ok (.iload_n 1, 1) := by decide +kernel
theorem d230_149 : decode prog_12_method_106_code 149 = .ok (.bipush 98, 2) := by decide +kernel
theorem d230_151 : decode prog_12_method_106_code 151 = .ok (.bipush 111, 2) := by decide +kernel
theorem d230_153 : decode prog_12_method_106_code 153 = .ok (.bipush 114, 2) := by decide +kernel
theorem d230_155 : decode prog_12_method_106_code 155 = .ok (.bipush 114, 2) := by decide +kernel
theorem d230_157 : decode prog_12_method_106_code 157 = .ok (.bipush 111, 2) := by decide +kernel
theorem d230_159 : decode prog_12_method_106_code 159 = .ok (.bipush 119, 2) := by decide +kernel
theorem d230_161 : decode prog_12_method_106_code 161 = .ok (.invokestatic 258, 3) := by decide +kernel
theorem d230_164 : decode prog_12_method_106_code 164 = .ok (.ireturn, 1) := by decide +kernel
theorem d230_165 : decode prog_12_method_106_code 165 = .ok (.iload_n 1, 1) := by decide +kernel
theorem d230_166 : decode prog_12_method_106_code 166 = .ok (.bipush 114, 2) := by decide +kernel
theorem d230_168 : decode prog_12_method_106_code 168 = .ok (.bipush 101, 2) := by decide +kernel
theorem d230_170 : decode prog_12_method_106_code 170 = .ok (.bipush 116, 2) := by decide +kernel
theorem d230_172 : decode prog_12_method_106_code 172 = .ok (.bipush 117, 2) := by decide +kernel
theorem d230_174 : decode prog_12_method_106_code 174 = .ok (.bipush 114, 2) := by decide +kernel
theorem d230_176 : decode prog_12_method_106_code 176 = .ok (.bipush 110, 2) := by decide +kernel
theorem d230_178 : decode prog_12_method_106_code 178 = .ok (.invokestatic 258, 3) := by decide +kernel
theorem d230_181 : decode prog_12_method_106_code 181 = .ok (.ireturn, 1) := by decide +kernel
theorem d230_182 : decode prog_12_method_106_code 182 = .ok (.iload_n 1, 1) := by decide +kernel
theorem d230_183 : decode prog_12_method_106_code 183 = .ok (.bipush 102, 2) := by decide +kernel
theorem d230_185 : decode prog_12_method_106_code 185 = .ok (.bipush 105, 2) := by decide +kernel
theorem d230_187 : decode prog_12_method_106_code 187 = .ok (.bipush 120, 2) := by decide +kernel
theorem d230_189 : decode prog_12_method_106_code 189 = .ok (.iconst 0, 1) := by decide +kernel
theorem d230_190 : decode prog_12_method_106_code 190 = .ok (.iconst 0, 1) := by decide +kernel
theorem d230_191 : decode prog_12_method_106_code 191 = .ok (.iconst 0, 1) := by decide +kernel
theorem d230_192 : decode prog_12_method_106_code 192 = .ok (.invokestatic 258, 3) := by decide +kernel
theorem d230_195 : decode prog_12_method_106_code 195 = .ok (.ireturn, 1) := by decide +kernel
theorem d230_196 : decode prog_12_method_106_code 196 = .ok (.iload_n 1, 1) := by decide +kernel
theorem d230_197 : decode prog_12_method_106_code 197 = .ok (.bipush 104, 2) := by decide +kernel
theorem d230_199 : decode prog_12_method_106_code 199 = .ok (.bipush 111, 2) := by decide +kernel
theorem d230_201 : decode prog_12_method_106_code 201 = .ok (.bipush 109, 2) := by decide +kernel
theorem d230_203 : decode prog_12_method_106_code 203 = .ok (.bipush 101, 2) := by decide +kernel
theorem d230_205 : decode prog_12_method_106_code 205 = .ok (.iconst 0, 1) := by decide +kernel
theorem d230_206 : decode prog_12_method_106_code 206 = .ok (.iconst 0, 1) := by decide +kernel
theorem d230_207 : decode prog_12_method_106_code 207 = .ok (.invokestatic 258, 3) := by decide +kernel
theorem d230_210 : decode prog_12_method_106_code 210 = .ok (.ireturn, 1) := by decide +kernel
theorem d230_211 : decode prog_12_method_106_code 211 = .ok (.iload_n 1, 1) := by decide +kernel
theorem d230_212 : decode prog_12_method_106_code 212 = .ok (.bipush 114, 2) := by decide +kernel
theorem d230_214 : decode prog_12_method_106_code 214 = .ok (.bipush 101, 2) := by decide +kernel
theorem d230_216 : decode prog_12_method_106_code 216 = .ok (.bipush 115, 2) := by decide +kernel
theorem d230_218 : decode prog_12_method_106_code 218 = .ok (.bipush 116, 2) := by decide +kernel
theorem d230_220 : decode prog_12_method_106_code 220 = .ok (.iconst 0, 1) := by decide +kernel
theorem d230_221 : decode prog_12_method_106_code 221 = .ok (.iconst 0, 1) := by decide +kernel
theorem d230_222 : decode prog_12_method_106_code 222 = .ok (.invokestatic 258, 3) := by decide +kernel
theorem d230_225 : decode prog_12_method_106_code 225 = .ok (.ireturn, 1) := by decide +kernel
theorem d231_0 : decode prog_12_method_105_code 0 = .ok (.iload_n 0, 1) := by decide +kernel
theorem d231_1 : decode prog_12_method_105_code 1 = .ok (.tableswitch 54 0 5 #[39, 41, 43, 45, 48, 51], 39) := by decide +kernel
theorem d231_40 : decode prog_12_method_105_code 40 = .ok (.iload_n 1, 1) := by decide +kernel
theorem d231_41 : decode prog_12_method_105_code 41 = .ok (.ireturn, 1) := by decide +kernel
theorem d231_42 : decode prog_12_method_105_code 42 = .ok (.iload_n 2, 1) := by decide +kernel
theorem d231_43 : decode prog_12_method_105_code 43 = .ok (.ireturn, 1) := by decide +kernel
theorem d231_44 : decode prog_12_method_105_code 44 = .ok (.iload_n 3, 1) := by decide +kernel
theorem d231_45 : decode prog_12_method_105_code 45 = .ok (.ireturn, 1) := by decide +kernel
theorem d231_46 : decode prog_12_method_105_code 46 = .ok (.iload 4, 2) := by decide +kernel
theorem d231_48 : decode prog_12_method_105_code 48 = .ok (.ireturn, 1) := by decide +kernel
theorem d231_49 : decode prog_12_method_105_code 49 = .ok (.iload 5, 2) := by decide +kernel
theorem d231_51 : decode prog_12_method_105_code 51 = .ok (.ireturn, 1) := by decide +kernel
theorem d231_52 : decode prog_12_method_105_code 52 = .ok (.iload 6, 2) := by decide +kernel
theorem d231_54 : decode prog_12_method_105_code 54 = .ok (.ireturn, 1) := by decide +kernel
theorem d231_55 : decode prog_12_method_105_code 55 = .ok (.iconst 0, 1) := by decide +kernel
theorem d231_56 : decode prog_12_method_105_code 56 = .ok (.ireturn, 1) := by decide +kernel
theorem d232_0 : decode prog_12_method_102_code 0 = .ok (.aload_n 0, 1) := by decide +kernel
theorem d232_1 : decode prog_12_method_102_code 1 = .ok (.dup, 1) := by decide +kernel
theorem d232_2 : decode prog_12_method_102_code 2 = .ok (.getfield 78, 3) := by decide +kernel
theorem d232_5 : decode prog_12_method_102_code 5 = .ok (.aload_n 0, 1) := by decide +kernel
theorem d232_6 : decode prog_12_method_102_code 6 = .ok (.invokevirtual 254, 3) := by decide +kernel
theorem d232_9 : decode prog_12_method_102_code 9 = .ok (.iload_n 1, 1) := by decide +kernel
theorem d232_10 : decode prog_12_method_102_code 10 = .ok (.if_icmp .eq 7, 3) := by decide +kernel
theorem d232_13 : decode prog_12_method_102_code 13 = .ok (.iconst 1, 1) := by decide +kernel
theorem d232_14 : decode prog_12_method_102_code 14 = .ok (.goto 4, 3) := by decide +kernel
theorem d232_17 : decode prog_12_method_102_code 17 = .ok (.iconst 0, 1) := by decide +kernel
theorem d232_18 : decode prog_12_method_102_code 18 = .ok (.ior, 1) := by decide +kernel
theorem d232_19 : decode prog_12_method_102_code 19 = .ok (.putfield 78, 3) := by decide +kernel
theorem d232_22 : decode prog_12_method_102_code 22 = .ok (.aload_n 0, 1) := by decide +kernel
theorem d232_23 : decode prog_12_method_102_code 23 = .ok (.dup, 1) := by decide +kernel
theorem d232_24 : decode prog_12_method_102_code 24 = .ok (.getfield 72, 3) := by decide +kernel
theorem d232_27 : decode prog_12_method_102_code 27 = .ok (.aload_n 0, 1) := by decide +kernel
theorem d232_28 : decode prog_12_method_102_code 28 = .ok (.getfield 78, 3) := by decide +kernel
theorem d232_31 : decode prog_12_method_102_code 31 = .ok (.ifCond .eq 7, 3) := by decide +kernel
theorem d232_34 : decode prog_12_method_102_code 34 = .ok (.iconst 0, 1) := by decide +kernel
theorem d232_35 : decode prog_12_method_102_code 35 = .ok (.goto 4, 3) := by decide +kernel
theorem d232_38 : decode prog_12_method_102_code 38 = .ok (.iconst 1, 1) := by decide +kernel
theorem d232_39 : decode prog_12_method_102_code 39 = .ok (.iadd, 1) := by decide +kernel
theorem d232_40 : decode prog_12_method_102_code 40 = .ok (.putfield 72, 3) := by decide +kernel
theorem d232_43 : decode prog_12_method_102_code 43 = .ok (.return_, 1) := by decide +kernel
theorem d233_0 : decode prog_12_method_101_code 0 = .ok (.aload_n 0, 1) := by decide +kernel
theorem d233_1 : decode prog_12_method_101_code 1 = .ok (.getfield 78, 3) := by decide +kernel
theorem d233_4 : decode prog_12_method_101_code 4 = .ok (.ifCond .ne 26, 3) := by decide +kernel
theorem d233_7 : decode prog_12_method_101_code 7 = .ok (.aload_n 0, 1) := by decide +kernel
theorem d233_8 : decode prog_12_method_101_code 8 = .ok (.getfield 72, 3) := by decide +kernel
theorem d233_11 : decode prog_12_method_101_code 11 = .ok (.aload_n 0, 1) := by decide +kernel
theorem d233_12 : decode prog_12_method_101_code 12 = .ok (.getfield 69, 3) := by decide +kernel
theorem d233_15 : decode prog_12_method_101_code 15 = .ok (.if_icmp .ge 15, 3) := by decide +kernel
theorem d233_18 : decode prog_12_method_101_code 18 = .ok (.aload_n 0, 1) := by decide +kernel
theorem d233_19 : decode prog_12_method_101_code 19 = .ok (.getfield 57, 3) := by decide +kernel
theorem d233_22 : decode prog_12_method_101_code 22 = .ok (.aload_n 0, 1) := by decide +kernel
theorem d233_23 : decode prog_12_method_101_code 23 = .ok (.getfield 72, 3) := by decide +kernel
theorem d233_26 : decode prog_12_method_101_code 26 = .ok (.iaload, 1) := by decide +kernel
theorem d233_27 : decode prog_12_method_101_code 27 = .ok (.goto 4, 3) := by decide +kernel
theorem d233_30 : decode prog_12_method_101_code 30 = .ok (.iconst (-1), 1) := by decide +kernel
theorem d233_31 : decode prog_12_method_101_code 31 = .ok (.ireturn, 1) := by decide +kernel
theorem d234_0 : decode prog_12_method_109_code 0 = .ok (.aload_n 0, 1) := by decide +kernel
theorem d234_1 : decode prog_12_method_109_code 1 = .ok (.iconst 0, 1) := by decide +kernel
theorem d234_2 : decode prog_12_method_109_code 2 = .ok (.aload_n 0, 1) := by decide +kernel
theorem d234_3 : decode prog_12_method_109_code 3 = .ok (.iconst 3, 1) := by decide +kernel
theorem d234_4 : decode prog_12_method_109_code 4 = .ok (.invokevirtual 265, 3) := by decide +kernel
theorem d234_7 : decode prog_12_method_109_code 7 = .ok (.invokevirtual 268, 3) := by decide +kernel
theorem d234_10 : decode prog_12_method_109_code 10 = .ok (.aload_n 0, 1) := by decide +kernel
theorem d234_11 : decode prog_12_method_109_code 11 = .ok (.bipush 44, 2) := by decide +kernel
theorem d234_13 : decode prog_12_method_109_code 13 = .ok (.invokevirtual 271, 3) := by decide +kernel
theorem d234_16 : decode prog_12_method_109_code 16 = .ok (.aload_n 0, 1) := by decide +kernel
theorem d234_17 : decode prog_12_method_109_code 17 = .ok (.iconst 1, 1) := by decide +kernel
theorem d234_18 : decode prog_12_method_109_code 18 = .ok (.aload_n 0, 1) := by decide +kernel
theorem d234_19 : decode prog_12_method_109_code 19 = .ok (.iconst 3, 1) := by decide +kernel
theorem d234_20 : decode prog_12_method_109_code 20 = .ok (.invokevirtual 265, 3) := by decide +kernel
theorem d234_23 : decode prog_12_method_109_code 23 = .ok (.invokevirtual 268, 3) := by decide +kernel
theorem d234_26 : decode prog_12_method_109_code 26 = .ok (.aload_n 0, 1) := by decide +kernel
theorem d234_27 : decode prog_12_method_109_code 27 = .ok (.bipush 32, 2) := by decide +kernel
theorem d234_29 : decode prog_12_method_109_code 29 = .ok (.invokevirtual 271, 3) := by decide +kernel
theorem d234_32 : decode prog_12_method_109_code 32 = .ok (.aload_n 0, 1) := by decide +kernel
theorem d234_33 : decode prog_12_method_109_code 33 = .ok (.iconst 2, 1) := by decide +kernel
theorem d234_34 : decode prog_12_method_109_code 34 = .ok (.aload_n 0, 1) := by decide +kernel
theorem d234_35 : decode prog_12_method_109_code 35 = .ok (.invokevirtual 274, 3) := by decide +kernel
theorem d234_38 : decode prog_12_method_109_code 38 = .ok (.invokevirtual 268, 3) := by decide +kernel
theorem d234_41 : decode prog_12_method_109_code 41 = .ok (.aload_n 0, 1) := by decide +kernel
theorem d234_42 : decode prog_12_method_109_code 42 = .ok (.iconst 3, 1) := by decide +kernel
theorem d234_43 : decode prog_12_method_109_code 43 = .ok (.aload_n 0, 1) := by decide +kernel
theorem d234_44 : decode prog_12_method_109_code 44 = .ok (.iconst 1, 1) := by decide +kernel
theorem d234_45 : decode prog_12_method_109_code 45 = .ok (.invokevirtual 265, 3) := by decide +kernel
theorem d234_48 : decode prog_12_method_109_code 48 = .ok (.invokevirtual 268, 3) := by decide +kernel
theorem d234_51 : decode prog_12_method_109_code 51 = .ok (.aload_n 0, 1) := by decide +kernel
theorem d234_52 : decode prog_12_method_109_code 52 = .ok (.bipush 32, 2) := by decide +kernel
theorem d234_54 : decode prog_12_method_109_code 54 = .ok (.invokevirtual 271, 3) := by decide +kernel
theorem d234_57 : decode prog_12_method_109_code 57 = .ok (.aload_n 0, 1) := by decide +kernel
theorem d234_58 : decode prog_12_method_109_code 58 = .ok (.iconst 4, 1) := by decide +kernel
theorem d234_59 : decode prog_12_method_109_code 59 = .ok (.aload_n 0, 1) := by decide +kernel
theorem d234_60 : decode prog_12_method_109_code 60 = .ok (.iconst 1, 1) := by decide +kernel
theorem d234_61 : decode prog_12_method_109_code 61 = .ok (.invokevirtual 265, 3) := by decide +kernel
theorem d234_64 : decode prog_12_method_109_code 64 = .ok (.invokevirtual 268, 3) := by decide +kernel
theorem d234_67 : decode prog_12_method_109_code 67 = .ok (.aload_n 0, 1) := by decide +kernel
theorem d234_68 : decode prog_12_method_109_code 68 = .ok (.bipush 64, 2) := by decide +kernel
theorem d234_70 : decode prog_12_method_109_code 70 = .ok (.invokevirtual 271, 3) := by decide +kernel
theorem d234_73 : decode prog_12_method_109_code 73 = .ok (.aload_n 0, 1) := by decide +kernel
theorem d234_74 : decode prog_12_method_109_code 74 = .ok (.iconst 5, 1) := by decide +kernel
theorem d234_75 : decode prog_12_method_109_code 75 = .ok (.aload_n 0, 1) := by decide +kernel
theorem d234_76 : decode prog_12_method_109_code 76 = .ok (.iconst 3, 1) := by decide +kernel
theorem d234_77 : decode prog_12_method_109_code 77 = .ok (.invokevirtual 265, 3) := by decide +kernel
theorem d234_80 : decode prog_12_method_109_code 80 = .ok (.invokevirtual 268, 3) := by decide +kernel
theorem d234_83 : decode prog_12_method_109_code 83 = .ok (.return_, 1) := by decide +kernel
theorem d235_0 : decode prog_12_method_103_code 0 = .ok (.aload_n 0, 1) := by decide +kernel
theorem d235_1 : decode prog_12_method_103_code 1 = .ok (.dup, 1) := by decide +kernel
theorem d235_2 : decode prog_12_method_103_code 2 = .ok (.getfield 78, 3) := by decide +kernel
theorem d235_5 : decode prog_12_method_103_code 5 = .ok (.aload_n 0, 1) := by decide +kernel
theorem d235_6 : decode prog_12_method_103_code 6 = .ok (.invokevirtual 254, 3) := by decide +kernel
theorem d235_9 : decode prog_12_method_103_code 9 = .ok (.bipush 48, 2) := by decide +kernel
theorem d235_11 : decode prog_12_method_103_code 11 = .ok (.bipush 57, 2) := by decide +kernel
theorem d235_13 : decode prog_12_method_103_code 13 = .ok (.invokestatic 89, 3) := by decide +kernel
theorem d235_16 : decode prog_12_method_103_code 16 = .ok (.ifCond .ne 7, 3) := by decide +kernel
theorem d235_19 : decode prog_12_method_103_code 19 = .ok (.iconst 1, 1) := by decide +kernel
theorem d235_20 : decode prog_12_method_103_code 20 = .ok (.goto 4, 3) := by decide +kernel
theorem d235_23 : decode prog_12_method_103_code 23 = .ok (.iconst 0, 1) := by decide +kernel
theorem d235_24 : decode prog_12_method_103_code 24 = .ok (.ior, 1) := by decide +kernel
theorem d235_25 : decode prog_12_method_103_code 25 = .ok (.putfield 78, 3) := by decide +kernel
theorem d235_28 : decode prog_12_method_103_code 28 = .ok (.iconst 0, 1) := by decide +kernel
theorem d235_29 : decode prog_12_method_103_code 29 = .ok (.istore_n 2, 1) := by decide +kernel
theorem d235_30 : decode prog_12_method_103_code 30 = .ok (.iconst 0, 1) := by decide +kernel
theorem d235_31 : decode prog_12_method_103_code 31 = .ok (.istore_n 3, 1) := by decide +kernel
theorem d235_32 : decode prog_12_method_103_code 32 = .ok (.iload_n 3, 1) := by decide +kernel
theorem d235_33 : decode prog_12_method_103_code 33 = .ok (.iload_n 1, 1) := by decide +kernel
theorem d235_34 : decode prog_12_method_103_code 34 = .ok (.if_icmp .ge 51, 3) := by decide +kernel
theorem d235_37 : decode prog_12_method_103_code 37 = .ok (.aload_n 0, 1) := by decide +kernel
theorem d235_38 : decode prog_12_method_103_code 38 = .ok (.invokevirtual 254, 3) := by decide +kernel
theorem d235_41 : decode prog_12_method_103_code 41 = .ok (.bipush 48, 2) := by decide +kernel
theorem d235_43 : decode prog_12_method_103_code 43 = .ok (.bipush 57, 2) := by decide +kernel
theorem d235_45 : decode prog_12_method_103_code 45 = .ok (.invokestatic 89, 3) := by decide +kernel
theorem d235_48 : decode prog_12_method_103_code 48 = .ok (.ifCond .eq 37, 3) := by decide +kernel
theorem d235_51 : decode prog_12_method_103_code 51 = .ok (.bipush 10, 2) := by decide +kernel
theorem d235_53 : decode prog_12_method_103_code 53 = .ok (.iload_n 2, 1) := by decide +kernel
theorem d235_54 : decode prog_12_method_103_code 54 = .ok (.imul, 1) := by decide +kernel
theorem d235_55 : decode prog_12_method_103_code 55 = .ok (.aload_n 0, 1) := by decide +kernel
theorem d235_56 : decode prog_12_method_103_code 56 = .ok (.getfield 57, 3) := by decide +kernel
theorem d235_59 : decode prog_12_method_103_code 59 = .ok (.aload_n 0, 1) := by decide +kernel
theorem d235_60 : decode prog_12_method_103_code 60 = .ok (.getfield 72, 3) := by decide +kernel
theorem d235_63 : decode prog_12_method_103_code 63 = .ok (.iaload, 1) := by decide +kernel
theorem d235_64 : decode prog_12_method_103_code 64 = .ok (.iadd, 1) := by decide +kernel
theorem d235_65 : decode prog_12_method_103_code 65 = .ok (.bipush 48, 2) := by decide +kernel
theorem d235_67 : decode prog_12_method_103_code 67 = .ok (.isub, 1) := by decide +kernel
theorem d235_68 : decode prog_12_method_103_code 68 = .ok (.istore_n 2, 1) := by decide +kernel
theorem d235_69 : decode prog_12_method_103_code 69 = .ok (.aload_n 0, 1) := by decide +kernel
theorem d235_70 : decode prog_12_method_103_code 70 = .ok (.dup, 1) := by decide +kernel
theorem d235_71 : decode prog_12_method_103_code 71 = .ok (.getfield 72, 3) := by decide +kernel
theorem d235_74 : decode prog_12_method_103_code 74 = .ok (.iconst 1, 1) := by decide +kernel
theorem d235_75 : decode prog_12_method_103_code 75 = .ok (.iadd, 1) := by decide +kernel
theorem d235_76 : decode prog_12_method_103_code 76 = .ok (.putfield 72, 3) := by decide +kernel
theorem d235_79 : decode prog_12_method_103_code 79 = .ok (.iinc 3 1, 3) := by decide +kernel
theorem d235_82 : decode prog_12_method_103_code 82 = .ok (.goto (-50), 3) := by decide +kernel
theorem d235_85 : decode prog_12_method_103_code 85 = .ok (.iload_n 2, 1) := by decide +kernel
theorem d235_86 : decode prog_12_method_103_code 86 = .ok (.ireturn, 1) := by decide +kernel
theorem d236_0 : decode prog_12_method_108_code 0 = .ok (.aload_n 0, 1) := by decide +kernel
theorem d236_1 : decode prog_12_method_108_code 1 = .ok (.getfield 63, 3) := by decide +kernel
theorem d236_4 : decode prog_12_method_108_code 4 = .ok (.bipush 6, 2) := by decide +kernel
theorem d236_6 : decode prog_12_method_108_code 6 = .ok (.aload_n 0, 1) := by decide +kernel
theorem d236_7 : decode prog_12_method_108_code 7 = .ok (.getfield 75, 3) := by decide +kernel
theorem d236_10 : decode prog_12_method_108_code 10 = .ok (.imul, 1) := by decide +kernel
theorem d236_11 : decode prog_12_method_108_code 11 = .ok (.iload_n 1, 1) := by decide +kernel
theorem d236_12 : decode prog_12_method_108_code 12 = .ok (.iadd, 1) := by decide +kernel
theorem d236_13 : decode prog_12_method_108_code 13 = .ok (.iload_n 2, 1) := by decide +kernel
theorem d236_14 : decode prog_12_method_108_code 14 = .ok (.iastore, 1) := by decide +kernel
theorem d236_15 : decode prog_12_method_108_code 15 = .ok (.return_, 1) := by decide +kernel
theorem d237_0 : decode prog_12_method_104_code 0 = .ok (.aload_n 0, 1) := by decide +kernel
theorem d237_1 : decode prog_12_method_104_code 1 = .ok (.invokevirtual 254, 3) := by decide +kernel
theorem d237_4 : decode prog_12_method_104_code 4 = .ok (.istore_n 1, 1) := by decide +kernel
theorem d237_5 : decode prog_12_method_104_code 5 = .ok (.aload_n 0, 1) := by decide +kernel
theorem d237_6 : decode prog_12_method_104_code 6 = .ok (.dup, 1) := by decide +kernel
theorem d237_7 : decode prog_12_method_104_code 7 = .ok (.getfield 78, 3) := by decide +kernel
theorem d237_10 : decode prog_12_method_104_code 10 = .ok (.iload_n 1, 1) := by decide +kernel
theorem d237_11 : decode prog_12_method_104_code 11 = .ok (.invokestatic 93, 3) := by decide +kernel
theorem d237_14 : decode prog_12_method_104_code 14 = .ok (.ifCond .ne 7, 3) := by decide +kernel
theorem d237_17 : decode prog_12_method_104_code 17 = .ok (.iconst 1, 1) := by decide +kernel
theorem d237_18 : decode prog_12_method_104_code 18 = .ok (.goto 4, 3) := by decide +kernel
theorem d237_21 : decode prog_12_method_104_code 21 = .ok (.iconst 0, 1) := by decide +kernel
theorem d237_22 : decode prog_12_method_104_code 22 = .ok (.ior, 1) := by decide +kernel
theorem d237_23 : decode prog_12_method_104_code 23 = .ok (.putfield 78, 3) := by decide +kernel
theorem d237_26 : decode prog_12_method_104_code 26 = .ok (.aload_n 0, 1) := by decide +kernel
theorem d237_27 : decode prog_12_method_104_code 27 = .ok (.dup, 1) := by decide +kernel
theorem d237_28 : decode prog_12_method_104_code 28 = .ok (.getfield 72, 3) := by decide +kernel
theorem d237_31 : decode prog_12_method_104_code 31 = .ok (.aload_n 0, 1) := by decide +kernel
theorem d237_32 : decode prog_12_method_104_code 32 = .ok (.getfield 78, 3) := by decide +kernel
theorem d237_35 : decode prog_12_method_104_code 35 = .ok (.ifCond .eq 7, 3) := by decide +kernel
theorem d237_38 : decode prog_12_method_104_code 38 = .ok (.iconst 0, 1) := by decide +kernel
theorem d237_39 : decode prog_12_method_104_code 39 = .ok (.goto 4, 3) := by decide +kernel
theorem d237_42 : decode prog_12_method_104_code 42 = .ok (.iconst 1, 1) := by decide +kernel
theorem d237_43 : decode prog_12_method_104_code 43 = .ok (.iadd, 1) := by decide +kernel
theorem d237_44 : decode prog_12_method_104_code 44 = .ok (.putfield 72, 3) := by decide +kernel
theorem d237_47 : decode prog_12_method_104_code 47 = .ok (.iload_n 1, 1) := by decide +kernel
theorem d237_48 : decode prog_12_method_104_code 48 = .ok (.ireturn, 1) := by decide +kernel
theorem d238_0 : decode prog_12_method_110_code 0 = .ok (.iload_n 1, 1) := by decide +kernel
theorem d238_1 : decode prog_12_method_110_code 1 = .ok (.iconst 4, 1) := by decide +kernel
theorem d238_2 : decode prog_12_method_110_code 2 = .ok (.if_icmp .ne 15, 3) := by decide +kernel
theorem d238_5 : decode prog_12_method_110_code 5 = .ok (.aload_n 0, 1) := by decide +kernel
theorem d238_6 : decode prog_12_method_110_code 6 = .ok (.iconst 0, 1) := by decide +kernel
theorem d238_7 : decode prog_12_method_110_code 7 = .ok (.aload_n 0, 1) := by decide +kernel
theorem d238_8 : decode prog_12_method_110_code 8 = .ok (.invokevirtual 274, 3) := by decide +kernel
theorem d238_11 : decode prog_12_method_110_code 11 = .ok (.invokevirtual 268, 3) := by decide +kernel
theorem d238_14 : decode prog_12_method_110_code 14 = .ok (.goto 22, 3) := by decide +kernel
theorem d238_17 : decode prog_12_method_110_code 17 = .ok (.aload_n 0, 1) := by decide +kernel
theorem d238_18 : decode prog_12_method_110_code 18 = .ok (.iconst 0, 1) := by decide +kernel
theorem d238_19 : decode prog_12_method_110_code 19 = .ok (.aload_n 0, 1) := by decide +kernel
theorem d238_20 : decode prog_12_method_110_code 20 = .ok (.iload_n 1, 1) := by decide +kernel
theorem d238_21 : decode prog_12_method_110_code 21 = .ok (.iconst 4, 1) := by decide +kernel
theorem d238_22 : decode prog_12_method_110_code 22 = .ok (.if_icmp .ge 7, 3) := by decide +kernel
theorem d238_25 : decode prog_12_method_110_code 25 = .ok (.iconst 3, 1) := by decide +kernel
theorem d238_26 : decode prog_12_method_110_code 26 = .ok (.goto 4, 3) := by decide +kernel
theorem d238_29 : decode prog_12_method_110_code 29 = .ok (.iconst 1, 1) := by decide +kernel
theorem d238_30 : decode prog_12_method_110_code 30 = .ok (.invokevirtual 265, 3) := by decide +kernel
theorem d238_33 : decode prog_12_method_110_code 33 = .ok (.invokevirtual 268, 3) := by decide +kernel
theorem d238_36 : decode prog_12_method_110_code 36 = .ok (.iload_n 1, 1) := by decide +kernel
theorem d238_37 : decode prog_12_method_110_code 37 = .ok (.iconst 2, 1) := by decide +kernel
theorem d238_38 : decode prog_12_method_110_code 38 = .ok (.if_icmp .ne 9, 3) := by decide +kernel
theorem d238_41 : decode prog_12_method_110_code 41 = .ok (.aload_n 0, 1) := by decide +kernel
theorem d238_42 : decode prog_12_method_110_code 42 = .ok (.bipush 62, 2) := by decide +kernel
theorem d238_44 : decode prog_12_method_110_code 44 = .ok (.invokevirtual 271, 3) := by decide +kernel
theorem d238_47 : decode prog_12_method_110_code 47 = .ok (.iload_n 1, 1) := by decide +kernel
theorem d238_48 : decode prog_12_method_110_code 48 = .ok (.iconst 5, 1) := by decide +kernel
theorem d238_49 : decode prog_12_method_110_code 49 = .ok (.if_icmp .ne 12, 3) := by decide +kernel
theorem d238_52 : decode prog_12_method_110_code 52 = .ok (.aload_n 0, 1) := by decide +kernel
theorem d238_53 : decode prog_12_method_110_code 53 = .ok (.iconst 2, 1) := by decide +kernel
theorem d238_54 : decode prog_12_method_110_code 54 = .ok (.aload_n 0, 1) := by decide +kernel
theorem d238_55 : decode prog_12_method_110_code 55 = .ok (.invokevirtual 274, 3) := by decide +kernel
theorem d238_58 : decode prog_12_method_110_code 58 = .ok (.invokevirtual 268, 3) := by decide +kernel
theorem d238_61 : decode prog_12_method_110_code 61 = .ok (.iload_n 1, 1) := by decide +kernel
theorem d238_62 : decode prog_12_method_110_code 62 = .ok (.bipush 8, 2) := by decide +kernel
theorem d238_64 : decode prog_12_method_110_code 64 = .ok (.if_icmp .eq 9, 3) := by decide +kernel
theorem d238_67 : decode prog_12_method_110_code 67 = .ok (.iload_n 1, 1) := by decide +kernel
theorem d238_68 : decode prog_12_method_110_code 68 = .ok (.bipush 10, 2) := by decide +kernel
theorem d238_70 : decode prog_12_method_110_code 70 = .ok (.if_icmp .ne 9, 3) := by decide +kernel
theorem d238_73 : decode prog_12_method_110_code 73 = .ok (.aload_n 0, 1) := by decide +kernel
theorem d238_74 : decode prog_12_method_110_code 74 = .ok (.bipush 32, 2) := by decide +kernel
theorem d238_76 : decode prog_12_method_110_code 76 = .ok (.invokevirtual 271, 3) := by decide +kernel
theorem d238_79 : decode prog_12_method_110_code 79 = .ok (.iload_n 1, 1) := by decide +kernel
theorem d238_80 : decode prog_12_method_110_code 80 = .ok (.iconst 2, 1) := by decide +kernel
theorem d238_81 : decode prog_12_method_110_code 81 = .ok (.if_icmp .eq 15, 3) := by decide +kernel
theorem d238_84 : decode prog_12_method_110_code 84 = .ok (.iload_n 1, 1) := by decide +kernel
theorem d238_85 : decode prog_12_method_110_code 85 = .ok (.bipush 6, 2) := by decide +kernel
theorem d238_87 : decode prog_12_method_110_code 87 = .ok (.if_icmp .eq 9, 3) := by decide +kernel
theorem d238_90 : decode prog_12_method_110_code 90 = .ok (.iload_n 1, 1) := by decide +kernel
theorem d238_91 : decode prog_12_method_110_code 91 = .ok (.bipush 7, 2) := by decide +kernel
theorem d238_93 : decode prog_12_method_110_code 93 = .ok (.if_icmp .ne 13, 3) := by decide +kernel
theorem d238_96 : decode prog_12_method_110_code 96 = .ok (.aload_n 0, 1) := by decide +kernel
theorem d238_97 : decode prog_12_method_110_code 97 = .ok (.iconst 1, 1) := by decide +kernel
theorem d238_98 : decode prog_12_method_110_code 98 = .ok (.aload_n 0, 1) := by decide +kernel
theorem d238_99 : decode prog_12_method_110_code 99 = .ok (.iconst 1, 1) := by decide +kernel
theorem d238_100 : decode prog_12_method_110_code 100 = .ok (.invokevirtual 265, 3) := by decide +kernel
theorem d238_103 : decode prog_12_method_110_code 103 = .ok (.invokevirtual 268, 3) := by decide +kernel
theorem d238_106 : decode prog_12_method_110_code 106 = .ok (.iload_n 1, 1) := by decide +kernel
theorem d238_107 : decode prog_12_method_110_code 107 = .ok (.iconst 4, 1) := by decide +kernel
theorem d238_108 : decode prog_12_method_110_code 108 = .ok (.if_icmp .eq 20, 3) := by decide +kernel
theorem d238_111 : decode prog_12_method_110_code 111 = .ok (.iload_n 1, 1) := by decide +kernel
theorem d238_112 : decode prog_12_method_110_code 112 = .ok (.iconst 5, 1) := by decide +kernel
theorem d238_113 : decode prog_12_method_110_code 113 = .ok (.if_icmp .eq 15, 3) := by decide +kernel
theorem d238_116 : decode prog_12_method_110_code 116 = .ok (.iload_n 1, 1) := by decide +kernel
theorem d238_117 : decode prog_12_method_110_code 117 = .ok (.bipush 8, 2) := by decide +kernel
theorem d238_119 : decode prog_12_method_110_code 119 = .ok (.if_icmp .eq 9, 3) := by decide +kernel
theorem d238_122 : decode prog_12_method_110_code 122 = .ok (.iload_n 1, 1) := by decide +kernel
theorem d238_123 : decode prog_12_method_110_code 123 = .ok (.bipush 10, 2) := by decide +kernel
theorem d238_125 : decode prog_12_method_110_code 125 = .ok (.if_icmp .ne 13, 3) := by decide +kernel
theorem d238_128 : decode prog_12_method_110_code 128 = .ok (.aload_n 0, 1) := by decide +kernel
theorem d238_129 : decode prog_12_method_110_code 129 = .ok (.iconst 1, 1) := by decide +kernel
theorem d238_130 : decode prog_12_method_110_code 130 = .ok (.aload_n 0, 1) := by decide +kernel
theorem d238_131 : decode prog_12_method_110_code 131 = .ok (.iconst 3, 1) := by decide +kernel
theorem d238_132 : decode prog_12_method_110_code 132 = .ok (.invokevirtual 265, 3) := by decide +kernel
theorem d238_135 : decode prog_12_method_110_code 135 = .ok (.invokevirtual 268, 3) := by decide +kernel
theorem d238_138 : decode prog_12_method_110_code 138 = .ok (.return_, 1) := by decide +kernel
theorem d239_0 : decode prog_12_method_113_code 0 = .ok (.aload_n 0, 1) := by decide +kernel
theorem d239_1 : decode prog_12_method_113_code 1 = .ok (.getfield 63, 3) := by decide +kernel
theorem d239_4 : decode prog_12_method_113_code 4 = .ok (.bipush 6, 2) := by decide +kernel
theorem d239_6 : decode prog_12_method_113_code 6 = .ok (.iload_n 1, 1) := by decide +kernel
theorem d239_7 : decode prog_12_method_113_code 7 = .ok (.imul, 1) := by decide +kernel
theorem d239_8 : decode prog_12_method_113_code 8 = .ok (.iaload, 1) := by decide +kernel
theorem d239_9 : decode prog_12_method_113_code 9 = .ok (.istore_n 2, 1) := by decide +kernel
theorem d239_10 : decode prog_12_method_113_code 10 = .ok (.aload_n 0, 1) := by decide +kernel
theorem d239_11 : decode prog_12_method_113_code 11 = .ok (.getfield 63, 3) := by decide +kernel
theorem d239_14 : decode prog_12_method_113_code 14 = .ok (.bipush 6, 2) := by decide +kernel
theorem d239_16 : decode prog_12_method_113_code 16 = .ok (.iload_n 1, 1) := by decide +kernel
theorem d239_17 : decode prog_12_method_113_code 17 = .ok (.imul, 1) := by decide +kernel
theorem d239_18 : decode prog_12_method_113_code 18 = .ok (.iconst 1, 1) := by decide +kernel
theorem d239_19 : decode prog_12_method_113_code 19 = .ok (.iadd, 1) := by decide +kernel
theorem d239_20 : decode prog_12_method_113_code 20 = .ok (.iaload, 1) := by decide +kernel
theorem d239_21 : decode prog_12_method_113_code 21 = .ok (.istore_n 3, 1) := by decide +kernel
theorem d239_22 : decode prog_12_method_113_code 22 = .ok (.aload_n 0, 1) := by decide +kernel
theorem d239_23 : decode prog_12_method_113_code 23 = .ok (.getfield 63, 3) := by decide +kernel
theorem d239_26 : decode prog_12_method_113_code 26 = .ok (.bipush 6, 2) := by decide +kernel
theorem d239_28 : decode prog_12_method_113_code 28 = .ok (.iload_n 1, 1) := by decide +kernel
theorem d239_29 : decode prog_12_method_113_code 29 = .ok (.imul, 1) := by decide +kernel
theorem d239_30 : decode prog_12_method_113_code 30 = .ok (.iconst 2, 1) := by decide +kernel
theorem d239_31 : decode prog_12_method_113_code 31 = .ok (.iadd, 1) := by decide +kernel
theorem d239_32 : decode prog_12_method_113_code 32 = .ok (.iaload, 1) := by decide +kernel
theorem d239_33 : decode prog_12_method_113_code 33 = .ok (.istore 4, 2) := by decide +kernel
theorem d239_35 : decode prog_12_method_113_code 35 = .ok (.iconst 0, 1) := by decide +kernel
theorem d239_36 : decode prog_12_method_113_code 36 = .ok (.istore 5, 2) := by decide +kernel
theorem d239_38 : decode prog_12_method_113_code 38 = .ok (.aload_n 0, 1) := by decide +kernel
theorem d239_39 : decode prog_12_method_113_code 39 = .ok (.getfield 60, 3) := by decide +kernel
theorem d239_42 : decode prog_12_method_113_code 42 = .ok (.iload_n 1, 1) := by decide +kernel
theorem d239_43 : decode prog_12_method_113_code 43 = .ok (.iaload, 1) := by decide +kernel
theorem d239_44 : decode prog_12_method_113_code 44 = .ok (.tableswitch 345 0 9 #[56, 147, 170, 191, 210, 231, 256, 281, 306, 327], 56) := by decide +kernel
theorem d239_100 : decode prog_12_method_113_code 100 = .ok (.aload_n 0, 1) := by decide +kernel
theorem d239_101 : decode prog_12_method_113_code 101 = .ok (.iload_n 2, 1) := by decide +kernel
theorem d239_102 : decode prog_12_method_113_code 102 = .ok (.iload_n 3, 1) := by decide +kernel
theorem d239_103 : decode prog_12_method_113_code 103 = .ok (.iload 4, 2) := by decide +kernel
theorem d239_105 : decode prog_12_method_113_code 105 = .ok (.aload_n 0, 1) := by decide +kernel
theorem d239_106 : decode prog_12_method_113_code 106 = .ok (.getfield 63, 3) := by decide +kernel
theorem d239_109 : decode prog_12_method_113_code 109 = .ok (.bipush 6, 2) := by decide +kernel
theorem d239_111 : decode prog_12_method_113_code 111 = .ok (.iload_n 1, 1) := by decide +kernel
theorem d239_112 : decode prog_12_method_113_code 112 = .ok (.imul, 1) := by decide +kernel
theorem d239_113 : decode prog_12_method_113_code 113 = .ok (.iconst 3, 1) := by decide +kernel
theorem d239_114 : decode prog_12_method_113_code 114 = .ok (.iadd, 1) := by decide +kernel
theorem d239_115 : decode prog_12_method_113_code 115 = .ok (.iaload, 1) := by decide +kernel
theorem d239_116 : decode prog_12_method_113_code 116 = .ok (.aload_n 0, 1) := by decide +kernel
theorem d239_117 : decode prog_12_method_113_code 117 = .ok (.getfield 63, 3) := by decide +kernel
theorem d239_120 : decode prog_12_method_113_code 120 = .ok (.bipush 6, 2) := by decide +kernel
theorem d239_122 : decode prog_12_method_113_code 122 = .ok (.iload_n 1, 1) := by decide +kernel
theorem d239_123 : decode prog_12_method_113_code 123 = .ok (.imul, 1) := by decide +kernel
theorem d239_124 : decode prog_12_method_113_code 124 = .ok (.iconst 4, 1) := by decide +kernel
theorem d239_125 : decode prog_12_method_113_code 125 = .ok (.iadd, 1) := by decide +kernel
theorem d239_126 : decode prog_12_method_113_code 126 = .ok (.iaload, 1) := by decide +kernel
theorem d239_127 : decode prog_12_method_113_code 127 = .ok (.aload_n 0, 1) := by decide +kernel
theorem d239_128 : decode prog_12_method_113_code 128 = .ok (.getfield 63, 3) := by decide +kernel
theorem d239_131 : decode prog_12_method_113_code 131 = .ok (.bipush 6, 2) := by decide +kernel
theorem d239_133 : decode prog_12_method_113_code 133 = .ok (.iload_n 1, 1) := by decide +kernel
theorem d239_134 : decode prog_12_method_113_code 134 = .ok (.imul, 1) := by decide +kernel
theorem d239_135 : decode prog_12_method_113_code 135 = .ok (.iconst 5, 1) := by decide +kernel
theorem d239_136 : decode prog_12_method_113_code 136 = .ok (.iadd, 1) := by decide +kernel
theorem d239_137 : decode prog_12_method_113_code 137 = .ok (.iaload, 1) := by decide +kernel
theorem d239_138 : decode prog_12_method_113_code 138 = .ok (.invokevirtual 103, 3) := by decide +kernel
theorem d239_141 : decode prog_12_method_113_code 141 = .ok (.ifCond .le 5, 3) := by decide +kernel
theorem d239_144 : decode prog_12_method_113_code 144 = .ok (.iconst 1, 1) := by decide +kernel
theorem d239_145 : decode prog_12_method_113_code 145 = .ok (.ireturn, 1) := by decide +kernel
theorem d239_146 : decode prog_12_method_113_code 146 = .ok (.aload_n 0, 1) := by decide +kernel
theorem d239_147 : decode prog_12_method_113_code 147 = .ok (.iload_n 2, 1) := by decide +kernel
theorem d239_148 : decode prog_12_method_113_code 148 = .ok (.iload_n 3, 1) := by decide +kernel
theorem d239_149 : decode prog_12_method_113_code 149 = .ok (.iload 4, 2) := by decide +kernel
theorem d239_151 : decode prog_12_method_113_code 151 = .ok (.aload_n 0, 1) := by decide +kernel
theorem d239_152 : decode prog_12_method_113_code 152 = .ok (.getfield 63, 3) := by decide +kernel
theorem d239_155 : decode prog_12_method_113_code 155 = .ok (.bipush 6, 2) := by decide +kernel
theorem d239_157 : decode prog_12_method_113_code 157 = .ok (.iload_n 1, 1) := by decide +kernel
theorem d239_158 : decode prog_12_method_113_code 158 = .ok (.imul, 1) := by decide +kernel
theorem d239_159 : decode prog_12_method_113_code 159 = .ok (.iconst 3, 1) := by decide +kernel
theorem d239_160 : decode prog_12_method_113_code 160 = .ok (.iadd, 1) := by decide +kernel
theorem d239_161 : decode prog_12_method_113_code 161 = .ok (.iaload, 1) := by decide +kernel
theorem d239_162 : decode prog_12_method_113_code 162 = .ok (.aload_n 0, 1) := by decide +kernel
theorem d239_163 : decode prog_12_method_113_code 163 = .ok (.getfield 63, 3) := by decide +kernel
theorem d239_166 : decode prog_12_method_113_code 166 = .ok (.bipush 6, 2) := by decide +kernel
theorem d239_168 : decode prog_12_method_113_code 168 = .ok (.iload_n 1, 1) := by decide +kernel
theorem d239_169 : decode prog_12_method_113_code 169 = .ok (.imul, 1) := by decide +kernel
theorem d239_170 : decode prog_12_method_113_code 170 = .ok (.iconst 4, 1) := by decide +kernel
theorem d239_171 : decode prog_12_method_113_code 171 = .ok (.iadd, 1) := by decide +kernel
theorem d239_172 : decode prog_12_method_113_code 172 = .ok (.iaload, 1) := by decide +kernel
theorem d239_173 : decode prog_12_method_113_code 173 = .ok (.aload_n 0, 1) := by decide +kernel
theorem d239_174 : decode prog_12_method_113_code 174 = .ok (.getfield 63, 3) := by decide +kernel
theorem d239_177 : decode prog_12_method_113_code 177 = .ok (.bipush 6, 2) := by decide +kernel
theorem d239_179 : decode prog_12_method_113_code 179 = .ok (.iload_n 1, 1) := by decide +kernel
theorem d239_180 : decode prog_12_method_113_code 180 = .ok (.imul, 1) := by decide +kernel
theorem d239_181 : decode prog_12_method_113_code 181 = .ok (.iconst 5, 1) := by decide +kernel
theorem d239_182 : decode prog_12_method_113_code 182 = .ok (.iadd, 1) := by decide +kernel
theorem d239_183 : decode prog_12_method_113_code 183 = .ok (.iaload, 1) := by decide +kernel
theorem d239_184 : decode prog_12_method_113_code 184 = .ok (.invokevirtual 111, 3) := by decide +kernel
theorem d239_187 : decode prog_12_method_113_code 187 = .ok (.istore 5, 2) := by decide +kernel
theorem d239_189 : decode prog_12_method_113_code 189 = .ok (.iconst 0, 1) := by decide +kernel
theorem d239_190 : decode prog_12_method_113_code 190 = .ok (.ireturn, 1) := by decide +kernel
theorem d239_191 : decode prog_12_method_113_code 191 = .ok (.aload_n 0, 1) := by decide +kernel
theorem d239_192 : decode prog_12_method_113_code 192 = .ok (.iload_n 2, 1) := by decide +kernel
theorem d239_193 : decode prog_12_method_113_code 193 = .ok (.invokevirtual 117, 3) := by decide +kernel
theorem d239_196 : decode prog_12_method_113_code 196 = .ok (.ifCond .ge 5, 3) := by decide +kernel
theorem d239_199 : decode prog_12_method_113_code 199 = .ok (.iconst 1, 1) := by decide +kernel
theorem d239_200 : decode prog_12_method_113_code 200 = .ok (.ireturn, 1) := by decide +kernel
theorem d239_201 : decode prog_12_method_113_code 201 = .ok (.aload_n 0, 1) := by decide +kernel
theorem d239_202 : decode prog_12_method_113_code 202 = .ok (.aload_n 0, 1) := by decide +kernel
theorem d239_203 : decode prog_12_method_113_code 203 = .ok (.iload_n 2, 1) := by decide +kernel
theorem d239_204 : decode prog_12_method_113_code 204 = .ok (.invokevirtual 117, 3) := by decide +kernel
theorem d239_207 : decode prog_12_method_113_code 207 = .ok (.invokevirtual 120, 3) := by decide +kernel
theorem d239_210 : decode prog_12_method_113_code 210 = .ok (.istore 5, 2) := by decide +kernel
theorem d239_212 : decode prog_12_method_113_code 212 = .ok (.iconst 0, 1) := by decide +kernel
theorem d239_213 : decode prog_12_method_113_code 213 = .ok (.ireturn, 1) := by decide +kernel
theorem d239_214 : decode prog_12_method_113_code 214 = .ok (.aload_n 0, 1) := by decide +kernel
theorem d239_215 : decode prog_12_method_113_code 215 = .ok (.iload_n 2, 1) := by decide +kernel
theorem d239_216 : decode prog_12_method_113_code 216 = .ok (.iload_n 3, 1) := by decide +kernel
theorem d239_217 : decode prog_12_method_113_code 217 = .ok (.invokevirtual 129, 3) := by decide +kernel
theorem d239_220 : decode prog_12_method_113_code 220 = .ok (.ifCond .le 5, 3) := by decide +kernel
theorem d239_223 : decode prog_12_method_113_code 223 = .ok (.iconst 1, 1) := by decide +kernel
theorem d239_224 : decode prog_12_method_113_code 224 = .ok (.ireturn, 1) := by decide +kernel
theorem d239_225 : decode prog_12_method_113_code 225 = .ok (.aload_n 0, 1) := by decide +kernel
theorem d239_226 : decode prog_12_method_113_code 226 = .ok (.iload_n 2, 1) := by decide +kernel
theorem d239_227 : decode prog_12_method_113_code 227 = .ok (.iload_n 3, 1) := by decide +kernel
theorem d239_228 : decode prog_12_method_113_code 228 = .ok (.invokevirtual 132, 3) := by decide +kernel
theorem d239_231 : decode prog_12_method_113_code 231 = .ok (.istore 5, 2) := by decide +kernel
theorem d239_233 : decode prog_12_method_113_code 233 = .ok (.iconst 0, 1) := by decide +kernel
theorem d239_234 : decode prog_12_method_113_code 234 = .ok (.ireturn, 1) := by decide +kernel
theorem d239_235 : decode prog_12_method_113_code 235 = .ok (.aload_n 0, 1) := by decide +kernel
theorem d239_236 : decode prog_12_method_113_code 236 = .ok (.iload_n 2, 1) := by decide +kernel
theorem d239_237 : decode prog_12_method_113_code 237 = .ok (.invokevirtual 135, 3) := by decide +kernel
theorem d239_240 : decode prog_12_method_113_code 240 = .ok (.ifCond .le 5, 3) := by decide +kernel
theorem d239_243 : decode prog_12_method_113_code 243 = .ok (.iconst 1, 1) := by decide +kernel
theorem d239_244 : decode prog_12_method_113_code 244 = .ok (.ireturn, 1) := by decide +kernel
theorem d239_245 : decode prog_12_method_113_code 245 = .ok (.aload_n 0, 1) := by decide +kernel
theorem d239_246 : decode prog_12_method_113_code 246 = .ok (.iload_n 2, 1) := by decide +kernel
theorem d239_247 : decode prog_12_method_113_code 247 = .ok (.invokevirtual 138, 3) := by decide +kernel
theorem d239_250 : decode prog_12_method_113_code 250 = .ok (.istore 5, 2) := by decide +kernel
theorem d239_252 : decode prog_12_method_113_code 252 = .ok (.iconst 0, 1) := by decide +kernel
theorem d239_253 : decode prog_12_method_113_code 253 = .ok (.ireturn, 1) := by decide +kernel
theorem d239_254 : decode prog_12_method_113_code 254 = .ok (.aload_n 0, 1) := by decide +kernel
theorem d239_255 : decode prog_12_method_113_code 255 = .ok (.iload_n 2, 1) := by decide +kernel
theorem d239_256 : decode prog_12_method_113_code 256 = .ok (.iload_n 3, 1) := by decide +kernel
theorem d239_257 : decode prog_12_method_113_code 257 = .ok (.invokevirtual 141, 3) := by decide +kernel
theorem d239_260 : decode prog_12_method_113_code 260 = .ok (.ifCond .le 5, 3) := by decide +kernel
theorem d239_263 : decode prog_12_method_113_code 263 = .ok (.iconst 1, 1) := by decide +kernel
theorem d239_264 : decode prog_12_method_113_code 264 = .ok (.ireturn, 1) := by decide +kernel
theorem d239_265 : decode prog_12_method_113_code 265 = .ok (.aload_n 0, 1) := by decide +kernel
theorem d239_266 : decode prog_12_method_113_code 266 = .ok (.iload_n 2, 1) := by decide +kernel
theorem d239_267 : decode prog_12_method_113_code 267 = .ok (.iload_n 3, 1) := by decide +kernel
theorem d239_268 : decode prog_12_method_113_code 268 = .ok (.invokevirtual 144, 3) := by decide +kernel
theorem d239_271 : decode prog_12_method_113_code 271 = .ok (.istore 5, 2) := by decide +kernel
theorem d239_273 : decode prog_12_method_113_code 273 = .ok (.iconst 0, 1) := by decide +kernel
theorem d239_274 : decode prog_12_method_113_code 274 = .ok (.ireturn, 1) := by decide +kernel
theorem d239_275 : decode prog_12_method_113_code 275 = .ok (.aload_n 0, 1) := by decide +kernel
theorem d239_276 : decode prog_12_method_113_code 276 = .ok (.iload_n 2, 1) := by decide +kernel
theorem d239_277 : decode prog_12_method_113_code 277 = .ok (.iload 4, 2) := by decide +kernel
theorem d239_279 : decode prog_12_method_113_code 279 = .ok (.iload_n 3, 1) := by decide +kernel
theorem d239_280 : decode prog_12_method_113_code 280 = .ok (.invokevirtual 160, 3) := by decide +kernel
theorem d239_283 : decode prog_12_method_113_code 283 = .ok (.ifCond .le 5, 3) := by decide +kernel
theorem d239_286 : decode prog_12_method_113_code 286 = .ok (.iconst 1, 1) := by decide +kernel
theorem d239_287 : decode prog_12_method_113_code 287 = .ok (.ireturn, 1) := by decide +kernel
theorem d239_288 : decode prog_12_method_113_code 288 = .ok (.aload_n 0, 1) := by decide +kernel
theorem d239_289 : decode prog_12_method_113_code 289 = .ok (.iload_n 2, 1) := by decide +kernel
theorem d239_290 : decode prog_12_method_113_code 290 = .ok (.iload 4, 2) := by decide +kernel
theorem d239_292 : decode prog_12_method_113_code 292 = .ok (.iload_n 3, 1) := by decide +kernel
theorem d239_293 : decode prog_12_method_113_code 293 = .ok (.invokevirtual 164, 3) := by decide +kernel
theorem d239_296 : decode prog_12_method_113_code 296 = .ok (.istore 5, 2) := by decide +kernel
theorem d239_298 : decode prog_12_method_113_code 298 = .ok (.iconst 0, 1) := by decide +kernel
theorem d239_299 : decode prog_12_method_113_code 299 = .ok (.ireturn, 1) := by decide +kernel
theorem d239_300 : decode prog_12_method_113_code 300 = .ok (.aload_n 0, 1) := by decide +kernel
theorem d239_301 : decode prog_12_method_113_code 301 = .ok (.iload_n 2, 1) := by decide +kernel
theorem d239_302 : decode prog_12_method_113_code 302 = .ok (.iload_n 3, 1) := by decide +kernel
theorem d239_303 : decode prog_12_method_113_code 303 = .ok (.iconst 0, 1) := by decide +kernel
theorem d239_304 : decode prog_12_method_113_code 304 = .ok (.invokevirtual 170, 3) := by decide +kernel
theorem d239_307 : decode prog_12_method_113_code 307 = .ok (.ifCond .le 5, 3) := by decide +kernel
theorem d239_310 : decode prog_12_method_113_code 310 = .ok (.iconst 1, 1) := by decide +kernel
theorem d239_311 : decode prog_12_method_113_code 311 = .ok (.ireturn, 1) := by decide +kernel
theorem d239_312 : decode prog_12_method_113_code 312 = .ok (.aload_n 0, 1) := by decide +kernel
theorem d239_313 : decode prog_12_method_113_code 313 = .ok (.iload_n 2, 1) := by decide +kernel
theorem d239_314 : decode prog_12_method_113_code 314 = .ok (.iload_n 3, 1) := by decide +kernel
theorem d239_315 : decode prog_12_method_113_code 315 = .ok (.iload_n 2, 1) := by decide +kernel
theorem d239_316 : decode prog_12_method_113_code 316 = .ok (.iconst 1, 1) := by decide +kernel
theorem d239_317 : decode prog_12_method_113_code 317 = .ok (.iadd, 1) := by decide +kernel
theorem d239_318 : decode prog_12_method_113_code 318 = .ok (.invokevirtual 173, 3) := by decide +kernel
theorem d239_321 : decode prog_12_method_113_code 321 = .ok (.istore 5, 2) := by decide +kernel
theorem d239_323 : decode prog_12_method_113_code 323 = .ok (.iconst 0, 1) := by decide +kernel
theorem d239_324 : decode prog_12_method_113_code 324 = .ok (.ireturn, 1) := by decide +kernel
theorem d239_325 : decode prog_12_method_113_code 325 = .ok (.aload_n 0, 1) := by decide +kernel
theorem d239_326 : decode prog_12_method_113_code 326 = .ok (.iload_n 2, 1) := by decide +kernel
theorem d239_327 : decode prog_12_method_113_code 327 = .ok (.iload_n 3, 1) := by decide +kernel
theorem d239_328 : decode prog_12_method_113_code 328 = .ok (.iload_n 2, 1) := by decide +kernel
theorem d239_329 : decode prog_12_method_113_code 329 = .ok (.iconst 1, 1) := by decide +kernel
theorem d239_330 : decode prog_12_method_113_code 330 = .ok (.iadd, 1) := by decide +kernel
theorem d239_331 : decode prog_12_method_113_code 331 = .ok (.invokevirtual 170, 3) := by decide +kernel
theorem d239_334 : decode prog_12_method_113_code 334 = .ok (.ifCond .le 5, 3) := by decide +kernel
theorem d239_337 : decode prog_12_method_113_code 337 = .ok (.iconst 1, 1) := by decide +kernel
theorem d239_338 : decode prog_12_method_113_code 338 = .ok (.ireturn, 1) := by decide +kernel
theorem d239_339 : decode prog_12_method_113_code 339 = .ok (.aload_n 0, 1) := by decide +kernel
theorem d239_340 : decode prog_12_method_113_code 340 = .ok (.iload_n 2, 1) := by decide +kernel
theorem d239_341 : decode prog_12_method_113_code 341 = .ok (.iload_n 3, 1) := by decide +kernel
theorem d239_342 : decode prog_12_method_113_code 342 = .ok (.iconst 0, 1) := by decide +kernel
theorem d239_343 : decode prog_12_method_113_code 343 = .ok (.invokevirtual 173, 3) := by decide +kernel
theorem d239_346 : decode prog_12_method_113_code 346 = .ok (.istore 5, 2) := by decide +kernel
theorem d239_348 : decode prog_12_method_113_code 348 = .ok (.iconst 0, 1) := by decide +kernel
theorem d239_349 : decode prog_12_method_113_code 349 = .ok (.ireturn, 1) := by decide +kernel
theorem d239_350 : decode prog_12_method_113_code 350 = .ok (.aload_n 0, 1) := by decide +kernel
theorem d239_351 : decode prog_12_method_113_code 351 = .ok (.iload_n 2, 1) := by decide +kernel
theorem d239_352 : decode prog_12_method_113_code 352 = .ok (.iload_n 3, 1) := by decide +kernel
theorem d239_353 : decode prog_12_method_113_code 353 = .ok (.invokevirtual 192, 3) := by decide +kernel
theorem d239_356 : decode prog_12_method_113_code 356 = .ok (.ifCond .le 5, 3) := by decide +kernel
theorem d239_359 : decode prog_12_method_113_code 359 = .ok (.iconst 1, 1) := by decide +kernel
theorem d239_360 : decode prog_12_method_113_code 360 = .ok (.ireturn, 1) := by decide +kernel
theorem d239_361 : decode prog_12_method_113_code 361 = .ok (.aload_n 0, 1) := by decide +kernel
theorem d239_362 : decode prog_12_method_113_code 362 = .ok (.iload_n 2, 1) := by decide +kernel
theorem d239_363 : decode prog_12_method_113_code 363 = .ok (.iload_n 3, 1) := by decide +kernel
theorem d239_364 : decode prog_12_method_113_code 364 = .ok (.invokevirtual 195, 3) := by decide +kernel
theorem d239_367 : decode prog_12_method_113_code 367 = .ok (.istore 5, 2) := by decide +kernel
theorem d239_369 : decode prog_12_method_113_code 369 = .ok (.iconst 0, 1) := by decide +kernel
theorem d239_370 : decode prog_12_method_113_code 370 = .ok (.ireturn, 1) := by decide +kernel
theorem d239_371 : decode prog_12_method_113_code 371 = .ok (.iload_n 2, 1) := by decide +kernel
theorem d239_372 : decode prog_12_method_113_code 372 = .ok (.invokestatic 123, 3) := by decide +kernel
theorem d239_375 : decode prog_12_method_113_code 375 = .ok (.ifCond .ne 5, 3) := by decide +kernel
theorem d239_378 : decode prog_12_method_113_code 378 = .ok (.iconst 1, 1) := by decide +kernel
theorem d239_379 : decode prog_12_method_113_code 379 = .ok (.ireturn, 1) := by decide +kernel
theorem d239_380 : decode prog_12_method_113_code 380 = .ok (.aload_n 0, 1) := by decide +kernel
theorem d239_381 : decode prog_12_method_113_code 381 = .ok (.iload_n 2, 1) := by decide +kernel
theorem d239_382 : decode prog_12_method_113_code 382 = .ok (.invokevirtual 198, 3) := by decide +kernel
theorem d239_385 : decode prog_12_method_113_code 385 = .ok (.istore 5, 2) := by decide +kernel
theorem d239_387 : decode prog_12_method_113_code 387 = .ok (.iconst 0, 1) := by decide +kernel
theorem d239_388 : decode prog_12_method_113_code 388 = .ok (.ireturn, 1) := by decide +kernel
theorem d239_389 : decode prog_12_method_113_code 389 = .ok (.iload_n 2, 1) := by decide +kernel
theorem d239_390 : decode prog_12_method_113_code 390 = .ok (.iload_n 3, 1) := by decide +kernel
theorem d239_391 : decode prog_12_method_113_code 391 = .ok (.invokestatic 201, 3) := by decide +kernel
theorem d239_394 : decode prog_12_method_113_code 394 = .ok (.ifCond .le 5, 3) := by decide +kernel
theorem d239_397 : decode prog_12_method_113_code 397 = .ok (.iconst 1, 1) := by decide +kernel
theorem d239_398 : decode prog_12_method_113_code 398 = .ok (.ireturn, 1) := by decide +kernel
theorem d239_399 : decode prog_12_method_113_code 399 = .ok (.aload_n 0, 1) := by decide +kernel
theorem d239_400 : decode prog_12_method_113_code 400 = .ok (.iload_n 2, 1) := by decide +kernel
theorem d239_401 : decode prog_12_method_113_code 401 = .ok (.iload_n 3, 1) := by decide +kernel
theorem d239_402 : decode prog_12_method_113_code 402 = .ok (.invokevirtual 204, 3) := by decide +kernel
theorem d239_405 : decode prog_12_method_113_code 405 = .ok (.istore 5, 2) := by decide +kernel
theorem d239_407 : decode prog_12_method_113_code 407 = .ok (.iconst 0, 1) := by decide +kernel
theorem d239_408 : decode prog_12_method_113_code 408 = .ok (.ireturn, 1) := by decide +kernel
theorem d240_0 : decode prog_12_method_116_code 0 = .ok (.aload_n 0, 1) := by decide +kernel
theorem d240_1 : decode prog_12_method_116_code 1 = .ok (.aload_n 0, 1) := by decide +kernel
theorem d240_2 : decode prog_12_method_116_code 2 = .ok (.getfield 35, 3) := by decide +kernel
theorem d240_5 : decode prog_12_method_116_code 5 = .ok (.invokevirtual 295, 3) := by decide +kernel
theorem d240_8 : decode prog_12_method_116_code 8 = .ok (.ireturn, 1) := by decide +kernel
theorem d241_0 : decode prog_12_method_115_code 0 = .ok (.aload_n 0, 1) := by decide +kernel
theorem d241_1 : decode prog_12_method_115_code 1 = .ok (.iload_n 1, 1) := by decide +kernel
theorem d241_2 : decode prog_12_method_115_code 2 = .ok (.ifCond .lt 7, 3) := by decide +kernel
theorem d241_5 : decode prog_12_method_115_code 5 = .ok (.iconst 1, 1) := by decide +kernel
theorem d241_6 : decode prog_12_method_115_code 6 = .ok (.goto 4, 3) := by decide +kernel
theorem d241_9 : decode prog_12_method_115_code 9 = .ok (.iconst 0, 1) := by decide +kernel
theorem d241_10 : decode prog_12_method_115_code 10 = .ok (.invokevirtual 210, 3) := by decide +kernel
theorem d241_13 : decode prog_12_method_115_code 13 = .ok (.ifCond .le 7, 3) := by decide +kernel
theorem d241_16 : decode prog_12_method_115_code 16 = .ok (.iconst 0, 1) := by decide +kernel
theorem d241_17 : decode prog_12_method_115_code 17 = .ok (.goto 4, 3) := by decide +kernel
theorem d241_20 : decode prog_12_method_115_code 20 = .ok (.iload_n 1, 1) := by decide +kernel
theorem d241_21 : decode prog_12_method_115_code 21 = .ok (.ireturn, 1) := by decide +kernel
theorem d242_0 : decode prog_12_method_117_code 0 = .ok (.aload_n 0, 1) := by decide +kernel
theorem d242_1 : decode prog_12_method_117_code 1 = .ok (.aload_n 0, 1) := by decide +kernel
theorem d242_2 : decode prog_12_method_117_code 2 = .ok (.getfield 38, 3) := by decide +kernel
theorem d242_5 : decode prog_12_method_117_code 5 = .ok (.invokevirtual 295, 3) := by decide +kernel
theorem d242_8 : decode prog_12_method_117_code 8 = .ok (.ireturn, 1) := by decide +kernel
theorem d243_0 : decode prog_12_method_118_code 0 = .ok (.aload_n 0, 1) := by decide +kernel
theorem d243_1 : decode prog_12_method_118_code 1 = .ok (.aload_n 0, 1) := by decide +kernel
theorem d243_2 : decode prog_12_method_118_code 2 = .ok (.getfield 32, 3) := by decide +kernel
theorem d243_5 : decode prog_12_method_118_code 5 = .ok (.ifCond .le 7, 3) := by decide +kernel
theorem d243_8 : decode prog_12_method_118_code 8 = .ok (.iconst 1, 1) := by decide +kernel
theorem d243_9 : decode prog_12_method_118_code 9 = .ok (.goto 4, 3) := by decide +kernel
theorem d243_12 : decode prog_12_method_118_code 12 = .ok (.iconst 0, 1) := by decide +kernel
theorem d243_13 : decode prog_12_method_118_code 13 = .ok (.invokevirtual 210, 3) := by decide +kernel
theorem d243_16 : decode prog_12_method_118_code 16 = .ok (.ifCond .le 5, 3) := by decide +kernel
theorem d243_19 : decode prog_12_method_118_code 19 = .ok (.iconst 0, 1) := by decide +kernel
theorem d243_20 : decode prog_12_method_118_code 20 = .ok (.ireturn, 1) := by decide +kernel
theorem d243_21 : decode prog_12_method_118_code 21 = .ok (.aload_n 0, 1) := by decide +kernel
theorem d243_22 : decode prog_12_method_118_code 22 = .ok (.dup, 1) := by decide +kernel
theorem d243_23 : decode prog_12_method_118_code 23 = .ok (.getfield 32, 3) := by decide +kernel
theorem d243_26 : decode prog_12_method_118_code 26 = .ok (.iconst 1, 1) := by decide +kernel
theorem d243_27 : decode prog_12_method_118_code 27 = .ok (.isub, 1) := by decide +kernel
theorem d243_28 : decode prog_12_method_118_code 28 = .ok (.putfield 32, 3) := by decide +kernel
theorem d243_31 : decode prog_12_method_118_code 31 = .ok (.aload_n 0, 1) := by decide +kernel
theorem d243_32 : decode prog_12_method_118_code 32 = .ok (.getfield 19, 3) := by decide +kernel
theorem d243_35 : decode prog_12_method_118_code 35 = .ok (.sipush 140, 3) := by decide +kernel
theorem d243_38 : decode prog_12_method_118_code 38 = .ok (.aload_n 0, 1) := by decide +kernel
theorem d243_39 : decode prog_12_method_118_code 39 = .ok (.getfield 32, 3) := by decide +kernel
theorem d243_42 : decode prog_12_method_118_code 42 = .ok (.imul, 1) := by decide +kernel
theorem d243_43 : decode prog_12_method_118_code 43 = .ok (.aload_n 0, 1) := by decide +kernel
theorem d243_44 : decode prog_12_method_118_code 44 = .ok (.getfield 7, 3) := by decide +kernel
theorem d243_47 : decode prog_12_method_118_code 47 = .ok (.iconst 0, 1) := by decide +kernel
theorem d243_48 : decode prog_12_method_118_code 48 = .ok (.invokestatic 81, 3) := by decide +kernel
theorem d243_51 : decode prog_12_method_118_code 51 = .ok (.aload_n 0, 1) := by decide +kernel
theorem d243_52 : decode prog_12_method_118_code 52 = .ok (.getfield 32, 3) := by decide +kernel
theorem d243_55 : decode prog_12_method_118_code 55 = .ok (.ireturn, 1) := by decide +kernel
theorem d244_0 : decode prog_12_method_119_code 0 = .ok (.aload_n 0, 1) := by decide +kernel
theorem d244_1 : decode prog_12_method_119_code 1 = .ok (.iconst 0, 1) := by decide +kernel
theorem d244_2 : decode prog_12_method_119_code 2 = .ok (.putfield 28, 3) := by decide +kernel
theorem d244_5 : decode prog_12_method_119_code 5 = .ok (.aload_n 0, 1) := by decide +kernel
theorem d244_6 : decode prog_12_method_119_code 6 = .ok (.getfield 7, 3) := by decide +kernel
theorem d244_9 : decode prog_12_method_119_code 9 = .ok (.iconst 0, 1) := by decide +kernel
theorem d244_10 : decode prog_12_method_119_code 10 = .ok (.aload_n 0, 1) := by decide +kernel
theorem d244_11 : decode prog_12_method_119_code 11 = .ok (.getfield 16, 3) := by decide +kernel
theorem d244_14 : decode prog_12_method_119_code 14 = .ok (.iconst 0, 1) := by decide +kernel
theorem d244_15 : decode prog_12_method_119_code 15 = .ok (.invokestatic 81, 3) := by decide +kernel
theorem d244_18 : decode prog_12_method_119_code 18 = .ok (.aload_n 0, 1) := by decide +kernel
theorem d244_19 : decode prog_12_method_119_code 19 = .ok (.iconst 1, 1) := by decide +kernel
theorem d244_20 : decode prog_12_method_119_code 20 = .ok (.putfield 47, 3) := by decide +kernel
theorem d244_23 : decode prog_12_method_119_code 23 = .ok (.aload_n 0, 1) := by decide +kernel
theorem d244_24 : decode prog_12_method_119_code 24 = .ok (.getfield 7, 3) := by decide +kernel
theorem d244_27 : decode prog_12_method_119_code 27 = .ok (.iconst 0, 1) := by decide +kernel
theorem d244_28 : decode prog_12_method_119_code 28 = .ok (.iaload, 1) := by decide +kernel
theorem d244_29 : decode prog_12_method_119_code 29 = .ok (.ireturn, 1) := by decide +kernel
theorem d245_0 : decode prog_12_method_120_code 0 = .ok (.aload_n 0, 1) := by decide +kernel
theorem d245_1 : decode prog_12_method_120_code 1 = .ok (.aload_n 0, 1) := by decide +kernel
theorem d245_2 : decode prog_12_method_120_code 2 = .ok (.getfield 47, 3) := by decide +kernel
theorem d245_5 : decode prog_12_method_120_code 5 = .ok (.invokevirtual 210, 3) := by decide +kernel
theorem d245_8 : decode prog_12_method_120_code 8 = .ok (.ifCond .le 5, 3) := by decide +kernel
theorem d245_11 : decode prog_12_method_120_code 11 = .ok (.iconst 0, 1) := by decide +kernel
theorem d245_12 : decode prog_12_method_120_code 12 = .ok (.ireturn, 1) := by decide +kernel
theorem d245_13 : decode prog_12_method_120_code 13 = .ok (.aload_n 0, 1) := by decide +kernel
theorem d245_14 : decode prog_12_method_120_code 14 = .ok (.getfield 16, 3) := by decide +kernel
theorem d245_17 : decode prog_12_method_120_code 17 = .ok (.iconst 0, 1) := by decide +kernel
theorem d245_18 : decode prog_12_method_120_code 18 = .ok (.aload_n 0, 1) := by decide +kernel
theorem d245_19 : decode prog_12_method_120_code 19 = .ok (.getfield 7, 3) := by decide +kernel
theorem d245_22 : decode prog_12_method_120_code 22 = .ok (.iconst 0, 1) := by decide +kernel
theorem d245_23 : decode prog_12_method_120_code 23 = .ok (.invokestatic 81, 3) := by decide +kernel
theorem d245_26 : decode prog_12_method_120_code 26 = .ok (.aload_n 0, 1) := by decide +kernel
theorem d245_27 : decode prog_12_method_120_code 27 = .ok (.iconst 0, 1) := by decide +kernel
theorem d245_28 : decode prog_12_method_120_code 28 = .ok (.putfield 32, 3) := by decide +kernel
theorem d245_31 : decode prog_12_method_120_code 31 = .ok (.aload_n 0, 1) := by decide +kernel
theorem d245_32 : decode prog_12_method_120_code 32 = .ok (.getfield 7, 3) := by decide +kernel
theorem d245_35 : decode prog_12_method_120_code 35 = .ok (.iconst 0, 1) := by decide +kernel
theorem d245_36 : decode prog_12_method_120_code 36 = .ok (.iaload, 1) := by decide +kernel
theorem d245_37 : decode prog_12_method_120_code 37 = .ok (.ireturn, 1) := by decide +kernel
