theorem dX9_test_8 : decode cX9_test 8 = .ok (.iload_n 3, 1) := by decide +kernel
theorem dX9_test_9 : decode cX9_test 9 = .ok (.sipush 1600, 3) := by decide +kernel
theorem dX9_test_12 : decode cX9_test 12 = .ok (.if_icmp .ge 47, 3) := by decide +kernel
theorem dX9_test_15 : decode cX9_test 15 = .ok (.iload_n 2, 1) := by decide +kernel
theorem dX9_test_16 : decode cX9_test 16 = .ok (.ifCond .eq 43, 3) := by decide +kernel
theorem dX9_test_19 : decode cX9_test 19 = .ok (.aload_n 0, 1) := by decide +kernel
theorem dX9_test_20 : decode cX9_test 20 = .ok (.getfield 18, 3) := by decide +kernel
theorem dX9_test_23 : decode cX9_test 23 = .ok (.getfield 46, 3) := by decide +kernel
theorem dX9_test_26 : decode cX9_test 26 = .ok (.bipush 22, 2) := by decide +kernel
theorem dX9_test_28 : decode cX9_test 28 = .ok (.if_icmp .ne 31, 3) := by decide +kernel
theorem dX9_test_31 : decode cX9_test 31 = .ok (.aload_n 0, 1) := by decide +kernel
theorem dX9_test_32 : decode cX9_test 32 = .ok (.getfield 18, 3) := by decide +kernel
theorem dX9_test_35 : decode cX9_test 35 = .ok (.invokevirtual 51, 3) := by decide +kernel
theorem dX9_test_38 : decode cX9_test 38 = .ok (.aload_n 0, 1) := by decide +kernel
theorem dX9_test_39 : decode cX9_test 39 = .ok (.iload_n 1, 1) := by decide +kernel
theorem dX9_test_40 : decode cX9_test 40 = .ok (.invokevirtual 43, 3) := by decide +kernel
theorem dX9_test_43 : decode cX9_test 43 = .ok (.istore_n 2, 1) := by decide +kernel
theorem dX9_test_44 : decode cX9_test 44 = .ok (.aload_n 0, 1) := by decide +kernel
theorem dX9_test_45 : decode cX9_test 45 = .ok (.getfield 12, 3) := by decide +kernel
theorem dX9_test_48 : decode cX9_test 48 = .ok (.bipush (-21), 2) := by decide +kernel
theorem dX9_test_50 : decode cX9_test 50 = .ok (.invokevirtual 54, 3) := by decide +kernel
theorem dX9_test_53 : decode cX9_test 53 = .ok (.iinc 3 1, 3) := by decide +kernel
theorem dX9_test_56 : decode cX9_test 56 = .ok (.goto (-48), 3) := by decide +kernel
theorem dX9_test_59 : decode cX9_test 59 = .ok (.iload_n 2, 1) := by decide +kernel
theorem dX9_test_60 : decode cX9_test 60 = .ok (.ireturn, 1) := by decide +kernel
theorem dX9_both_0 : decode cX9_both 0 = .ok (.aload_n 0, 1) := by decide +kernel
theorem dX9_both_1 : decode cX9_both 1 = .ok (.iload_n 1, 1) := by decide +kernel
theorem dX9_both_2 : decode cX9_both 2 = .ok (.invokevirtual 58, 3) := by decide +kernel
theorem dX9_both_5 : decode cX9_both 5 = .ok (.istore_n 2, 1) := by decide +kernel
theorem dX9_both_6 : decode cX9_both 6 = .ok (.iconst 0, 1) := by decide +kernel
theorem dX9_both_7 : decode cX9_both 7 = .ok (.istore_n 3, 1) := by decide +kernel
theorem dX9_both_8 : decode cX9_both 8 = .ok (.iload_n 3, 1) := by decide +kernel
theorem dX9_both_9 : decode cX9_both 9 = .ok (.sipush 1600, 3) := by decide +kernel
theorem dX9_both_12 : decode cX9_both 12 = .ok (.if_icmp .ge 47, 3) := by decide +kernel
theorem dX9_both_15 : decode cX9_both 15 = .ok (.iload_n 2, 1) := by decide +kernel
theorem dX9_both_16 : decode cX9_both 16 = .ok (.ifCond .eq 43, 3) := by decide +kernel
theorem dX9_both_19 : decode cX9_both 19 = .ok (.aload_n 0, 1) := by decide +kernel
theorem dX9_both_20 : decode cX9_both 20 = .ok (.getfield 18, 3) := by decide +kernel
theorem dX9_both_23 : decode cX9_both 23 = .ok (.getfield 46, 3) := by decide +kernel
theorem dX9_both_26 : decode cX9_both 26 = .ok (.bipush 23, 2) := by decide +kernel
theorem dX9_both_28 : decode cX9_both 28 = .ok (.if_icmp .ne 31, 3) := by decide +kernel
theorem dX9_both_31 : decode cX9_both 31 = .ok (.aload_n 0, 1) := by decide +kernel
theorem dX9_both_32 : decode cX9_both 32 = .ok (.getfield 18, 3) := by decide +kernel
theorem dX9_both_35 : decode cX9_both 35 = .ok (.invokevirtual 51, 3) := by decide +kernel
theorem dX9_both_38 : decode cX9_both 38 = .ok (.aload_n 0, 1) := by decide +kernel
theorem dX9_both_39 : decode cX9_both 39 = .ok (.iload_n 1, 1) := by decide +kernel
theorem dX9_both_40 : decode cX9_both 40 = .ok (.invokevirtual 58, 3) := by decide +kernel
theorem dX9_both_43 : decode cX9_both 43 = .ok (.istore_n 2, 1) := by decide +kernel
theorem dX9_both_44 : decode cX9_both 44 = .ok (.aload_n 0, 1) := by decide +kernel
theorem dX9_both_45 : decode cX9_both 45 = .ok (.getfield 12, 3) := by decide +kernel
theorem dX9_both_48 : decode cX9_both 48 = .ok (.bipush (-20), 2) := by decide +kernel
theorem dX9_both_50 : decode cX9_both 50 = .ok (.invokevirtual 54, 3) := by decide +kernel
theorem dX9_both_53 : decode cX9_both 53 = .ok (.iinc 3 1, 3) := by decide +kernel
theorem dX9_both_56 : decode cX9_both 56 = .ok (.goto (-48), 3) := by decide +kernel
theorem dX9_both_59 : decode cX9_both 59 = .ok (.iload_n 2, 1) := by decide +kernel
theorem dX9_both_60 : decode cX9_both 60 = .ok (.ireturn, 1) := by decide +kernel
theorem dX9_fact_0 : decode cX9_fact 0 = .ok (.aload_n 0, 1) := by decide +kernel
theorem dX9_fact_1 : decode cX9_fact 1 = .ok (.getfield 18, 3) := by decide +kernel
theorem dX9_fact_4 : decode cX9_fact 4 = .ok (.getfield 61, 3) := by decide +kernel
theorem dX9_fact_7 : decode cX9_fact 7 = .ok (.bipush 91, 2) := by decide +kernel
theorem dX9_fact_9 : decode cX9_fact 9 = .ok (.if_icmp .ne 39, 3) := by decide +kernel
theorem dX9_fact_12 : decode cX9_fact 12 = .ok (.aload_n 0, 1) := by decide +kernel
theorem dX9_fact_13 : decode cX9_fact 13 = .ok (.iload_n 1, 1) := by decide +kernel
theorem dX9_fact_14 : decode cX9_fact 14 = .ok (.invokevirtual 64, 3) := by decide +kernel
theorem dX9_fact_17 : decode cX9_fact 17 = .ok (.ifCond .eq 29, 3) := by decide +kernel
theorem dX9_fact_20 : decode cX9_fact 20 = .ok (.aload_n 0, 1) := by decide +kernel
theorem dX9_fact_21 : decode cX9_fact 21 = .ok (.iload_n 1, 1) := by decide +kernel
theorem dX9_fact_22 : decode cX9_fact 22 = .ok (.iconst 1, 1) := by decide +kernel
theorem dX9_fact_23 : decode cX9_fact 23 = .ok (.iadd, 1) := by decide +kernel
theorem dX9_fact_24 : decode cX9_fact 24 = .ok (.invokevirtual 40, 3) := by decide +kernel
theorem dX9_fact_27 : decode cX9_fact 27 = .ok (.ifCond .eq 19, 3) := by decide +kernel
theorem dX9_fact_30 : decode cX9_fact 30 = .ok (.aload_n 0, 1) := by decide +kernel
theorem dX9_fact_31 : decode cX9_fact 31 = .ok (.getfield 18, 3) := by decide +kernel
theorem dX9_fact_34 : decode cX9_fact 34 = .ok (.bipush 93, 2) := by decide +kernel
theorem dX9_fact_36 : decode cX9_fact 36 = .ok (.invokevirtual 67, 3) := by decide +kernel
theorem dX9_fact_39 : decode cX9_fact 39 = .ok (.ifCond .eq 7, 3) := by decide +kernel
theorem dX9_fact_42 : decode cX9_fact 42 = .ok (.iconst 1, 1) := by decide +kernel
theorem dX9_fact_43 : decode cX9_fact 43 = .ok (.goto 4, 3) := by decide +kernel
theorem dX9_fact_46 : decode cX9_fact 46 = .ok (.iconst 0, 1) := by decide +kernel
theorem dX9_fact_47 : decode cX9_fact 47 = .ok (.ireturn, 1) := by decide +kernel
theorem dX9_fact_48 : decode cX9_fact 48 = .ok (.aload_n 0, 1) := by decide +kernel
theorem dX9_fact_49 : decode cX9_fact 49 = .ok (.getfield 18, 3) := by decide +kernel
theorem dX9_fact_52 : decode cX9_fact 52 = .ok (.getfield 46, 3) := by decide +kernel
theorem dX9_fact_55 : decode cX9_fact 55 = .ok (.bipush 24, 2) := by decide +kernel
theorem dX9_fact_57 : decode cX9_fact 57 = .ok (.if_icmp .ne 38, 3) := by decide +kernel
theorem dX9_fact_60 : decode cX9_fact 60 = .ok (.aload_n 0, 1) := by decide +kernel
theorem dX9_fact_61 : decode cX9_fact 61 = .ok (.iload_n 1, 1) := by decide +kernel
theorem dX9_fact_62 : decode cX9_fact 62 = .ok (.invokevirtual 64, 3) := by decide +kernel
theorem dX9_fact_65 : decode cX9_fact 65 = .ok (.ifCond .eq 17, 3) := by decide +kernel
theorem dX9_fact_68 : decode cX9_fact 68 = .ok (.aload_n 0, 1) := by decide +kernel
theorem dX9_fact_69 : decode cX9_fact 69 = .ok (.iload_n 1, 1) := by decide +kernel
theorem dX9_fact_70 : decode cX9_fact 70 = .ok (.iconst 1, 1) := by decide +kernel
theorem dX9_fact_71 : decode cX9_fact 71 = .ok (.iadd, 1) := by decide +kernel
theorem dX9_fact_72 : decode cX9_fact 72 = .ok (.invokevirtual 58, 3) := by decide +kernel
theorem dX9_fact_75 : decode cX9_fact 75 = .ok (.ifCond .eq 7, 3) := by decide +kernel
theorem dX9_fact_78 : decode cX9_fact 78 = .ok (.iconst 1, 1) := by decide +kernel
theorem dX9_fact_79 : decode cX9_fact 79 = .ok (.goto 4, 3) := by decide +kernel
theorem dX9_fact_82 : decode cX9_fact 82 = .ok (.iconst 0, 1) := by decide +kernel
theorem dX9_fact_83 : decode cX9_fact 83 = .ok (.istore_n 2, 1) := by decide +kernel
theorem dX9_fact_84 : decode cX9_fact 84 = .ok (.aload_n 0, 1) := by decide +kernel
theorem dX9_fact_85 : decode cX9_fact 85 = .ok (.getfield 12, 3) := by decide +kernel
theorem dX9_fact_88 : decode cX9_fact 88 = .ok (.bipush (-22), 2) := by decide +kernel
theorem dX9_fact_90 : decode cX9_fact 90 = .ok (.invokevirtual 54, 3) := by decide +kernel
theorem dX9_fact_93 : decode cX9_fact 93 = .ok (.iload_n 2, 1) := by decide +kernel
theorem dX9_fact_94 : decode cX9_fact 94 = .ok (.ireturn, 1) := by decide +kernel
theorem dX9_fact_95 : decode cX9_fact 95 = .ok (.aload_n 0, 1) := by decide +kernel
theorem dX9_fact_96 : decode cX9_fact 96 = .ok (.getfield 18, 3) := by decide +kernel
theorem dX9_fact_99 : decode cX9_fact 99 = .ok (.getfield 46, 3) := by decide +kernel
theorem dX9_fact_102 : decode cX9_fact 102 = .ok (.bipush 25, 2) := by decide +kernel
theorem dX9_fact_104 : decode cX9_fact 104 = .ok (.if_icmp .ne 20, 3) := by decide +kernel
theorem dX9_fact_107 : decode cX9_fact 107 = .ok (.aload_n 0, 1) := by decide +kernel
theorem dX9_fact_108 : decode cX9_fact 108 = .ok (.getfield 18, 3) := by decide +kernel
theorem dX9_fact_111 : decode cX9_fact 111 = .ok (.invokevirtual 51, 3) := by decide +kernel
theorem dX9_fact_114 : decode cX9_fact 114 = .ok (.aload_n 0, 1) := by decide +kernel
theorem dX9_fact_115 : decode cX9_fact 115 = .ok (.getfield 12, 3) := by decide +kernel
theorem dX9_fact_118 : decode cX9_fact 118 = .ok (.iconst 1, 1) := by decide +kernel
theorem dX9_fact_119 : decode cX9_fact 119 = .ok (.invokevirtual 54, 3) := by decide +kernel
theorem dX9_fact_122 : decode cX9_fact 122 = .ok (.iconst 1, 1) := by decide +kernel
theorem dX9_fact_123 : decode cX9_fact 123 = .ok (.ireturn, 1) := by decide +kernel
theorem dX9_fact_124 : decode cX9_fact 124 = .ok (.aload_n 0, 1) := by decide +kernel
theorem dX9_fact_125 : decode cX9_fact 125 = .ok (.iload_n 1, 1) := by decide +kernel
theorem dX9_fact_126 : decode cX9_fact 126 = .ok (.invokevirtual 30, 3) := by decide +kernel
theorem dX9_fact_129 : decode cX9_fact 129 = .ok (.ifCond .ne 5, 3) := by decide +kernel
theorem dX9_fact_132 : decode cX9_fact 132 = .ok (.iconst 0, 1) := by decide +kernel
theorem dX9_fact_133 : decode cX9_fact 133 = .ok (.ireturn, 1) := by decide +kernel
theorem dX9_fact_134 : decode cX9_fact 134 = .ok (.aload_n 0, 1) := by decide +kernel
theorem dX9_fact_135 : decode cX9_fact 135 = .ok (.getfield 18, 3) := by decide +kernel
theorem dX9_fact_138 : decode cX9_fact 138 = .ok (.getfield 61, 3) := by decide +kernel
theorem dX9_fact_141 : decode cX9_fact 141 = .ok (.istore_n 2, 1) := by decide +kernel
theorem dX9_fact_142 : decode cX9_fact 142 = .ok (.iload_n 2, 1) := by decide +kernel
theorem dX9_fact_143 : decode cX9_fact 143 = .ok (.bipush 60, 2) := by decide +kernel
theorem dX9_fact_145 : decode cX9_fact 145 = .ok (.if_icmp .eq 24, 3) := by decide +kernel
theorem dX9_fact_148 : decode cX9_fact 148 = .ok (.iload_n 2, 1) := by decide +kernel
theorem dX9_fact_149 : decode cX9_fact 149 = .ok (.bipush 62, 2) := by decide +kernel
theorem dX9_fact_151 : decode cX9_fact 151 = .ok (.if_icmp .eq 18, 3) := by decide +kernel
theorem dX9_fact_154 : decode cX9_fact 154 = .ok (.iload_n 2, 1) := by decide +kernel
theorem dX9_fact_155 : decode cX9_fact 155 = .ok (.bipush 61, 2) := by decide +kernel
theorem dX9_fact_157 : decode cX9_fact 157 = .ok (.if_icmp .eq 12, 3) := by decide +kernel
theorem dX9_fact_160 : decode cX9_fact 160 = .ok (.aload_n 0, 1) := by decide +kernel
theorem dX9_fact_161 : decode cX9_fact 161 = .ok (.getfield 18, 3) := by decide +kernel
theorem dX9_fact_164 : decode cX9_fact 164 = .ok (.iconst 1, 1) := by decide +kernel
theorem dX9_fact_165 : decode cX9_fact 165 = .ok (.invokevirtual 70, 3) := by decide +kernel
theorem dX9_fact_168 : decode cX9_fact 168 = .ok (.ireturn, 1) := by decide +kernel
theorem dX9_fact_169 : decode cX9_fact 169 = .ok (.aload_n 0, 1) := by decide +kernel
theorem dX9_fact_170 : decode cX9_fact 170 = .ok (.getfield 18, 3) := by decide +kernel
theorem dX9_fact_173 : decode cX9_fact 173 = .ok (.invokevirtual 51, 3) := by decide +kernel
theorem dX9_fact_176 : decode cX9_fact 176 = .ok (.aload_n 0, 1) := by decide +kernel
theorem dX9_fact_177 : decode cX9_fact 177 = .ok (.iload_n 1, 1) := by decide +kernel
theorem dX9_fact_178 : decode cX9_fact 178 = .ok (.invokevirtual 30, 3) := by decide +kernel
theorem dX9_fact_181 : decode cX9_fact 181 = .ok (.istore_n 3, 1) := by decide +kernel
theorem dX9_fact_182 : decode cX9_fact 182 = .ok (.aload_n 0, 1) := by decide +kernel
theorem dX9_fact_183 : decode cX9_fact 183 = .ok (.getfield 12, 3) := by decide +kernel
theorem dX9_fact_186 : decode cX9_fact 186 = .ok (.iload_n 2, 1) := by decide +kernel
theorem dX9_fact_187 : decode cX9_fact 187 = .ok (.bipush 60, 2) := by decide +kernel
theorem dX9_fact_189 : decode cX9_fact 189 = .ok (.if_icmp .ne 8, 3) := by decide +kernel
theorem dX9_fact_192 : decode cX9_fact 192 = .ok (.bipush (-17), 2) := by decide +kernel
theorem dX9_fact_194 : decode cX9_fact 194 = .ok (.goto 16, 3) := by decide +kernel
theorem dX9_fact_197 : decode cX9_fact 197 = .ok (.iload_n 2, 1) := by decide +kernel
theorem dX9_fact_198 : decode cX9_fact 198 = .ok (.bipush 62, 2) := by decide +kernel
theorem dX9_fact_200 : decode cX9_fact 200 = .ok (.if_icmp .ne 8, 3) := by decide +kernel
theorem dX9_fact_203 : decode cX9_fact 203 = .ok (.bipush (-18), 2) := by decide +kernel
theorem dX9_fact_205 : decode cX9_fact 205 = .ok (.goto 5, 3) := by decide +kernel
theorem dX9_fact_208 : decode cX9_fact 208 = .ok (.bipush (-19), 2) := by decide +kernel
theorem dX9_fact_210 : decode cX9_fact 210 = .ok (.invokevirtual 54, 3) := by decide +kernel
theorem dX9_fact_213 : decode cX9_fact 213 = .ok (.iload_n 3, 1) := by decide +kernel
theorem dX9_fact_214 : decode cX9_fact 214 = .ok (.ireturn, 1) := by decide +kernel
theorem dX9_sum_0 : decode cX9_sum 0 = .ok (.aload_n 0, 1) := by decide +kernel
theorem dX9_sum_1 : decode cX9_sum 1 = .ok (.iload_n 1, 1) := by decide +kernel
theorem dX9_sum_2 : decode cX9_sum 2 = .ok (.invokevirtual 73, 3) := by decide +kernel
theorem dX9_sum_5 : decode cX9_sum 5 = .ok (.istore_n 2, 1) := by decide +kernel
theorem dX9_sum_6 : decode cX9_sum 6 = .ok (.iconst 0, 1) := by decide +kernel
theorem dX9_sum_7 : decode cX9_sum 7 = .ok (.istore_n 3, 1) := by decide +kernel
theorem dX9_sum_8 : decode cX9_sum 8 = .ok (.iload_n 3, 1) := by decide +kernel
theorem dX9_sum_9 : decode cX9_sum 9 = .ok (.sipush 1600, 3) := by decide +kernel
theorem dX9_sum_12 : decode cX9_sum 12 = .ok (.if_icmp .ge 80, 3) := by decide +kernel
theorem dX9_sum_15 : decode cX9_sum 15 = .ok (.iload_n 2, 1) := by decide +kernel
theorem dX9_sum_16 : decode cX9_sum 16 = .ok (.ifCond .eq 76, 3) := by decide +kernel
theorem dX9_sum_19 : decode cX9_sum 19 = .ok (.aload_n 0, 1) := by decide +kernel
theorem dX9_sum_20 : decode cX9_sum 20 = .ok (.getfield 18, 3) := by decide +kernel
theorem dX9_sum_23 : decode cX9_sum 23 = .ok (.getfield 61, 3) := by decide +kernel
theorem dX9_sum_26 : decode cX9_sum 26 = .ok (.bipush 43, 2) := by decide +kernel
theorem dX9_sum_28 : decode cX9_sum 28 = .ok (.if_icmp .eq 15, 3) := by decide +kernel
theorem dX9_sum_31 : decode cX9_sum 31 = .ok (.aload_n 0, 1) := by decide +kernel
theorem dX9_sum_32 : decode cX9_sum 32 = .ok (.getfield 18, 3) := by decide +kernel
theorem dX9_sum_35 : decode cX9_sum 35 = .ok (.getfield 61, 3) := by decide +kernel
theorem dX9_sum_38 : decode cX9_sum 38 = .ok (.bipush 45, 2) := by decide +kernel
theorem dX9_sum_40 : decode cX9_sum 40 = .ok (.if_icmp .ne 52, 3) := by decide +kernel
theorem dX9_sum_43 : decode cX9_sum 43 = .ok (.aload_n 0, 1) := by decide +kernel
theorem dX9_sum_44 : decode cX9_sum 44 = .ok (.getfield 18, 3) := by decide +kernel
theorem dX9_sum_47 : decode cX9_sum 47 = .ok (.getfield 61, 3) := by decide +kernel
theorem dX9_sum_50 : decode cX9_sum 50 = .ok (.bipush 43, 2) := by decide +kernel
theorem dX9_sum_52 : decode cX9_sum 52 = .ok (.if_icmp .ne 8, 3) := by decide +kernel
theorem dX9_sum_55 : decode cX9_sum 55 = .ok (.bipush (-11), 2) := by decide +kernel
theorem dX9_sum_57 : decode cX9_sum 57 = .ok (.goto 5, 3) := by decide +kernel
theorem dX9_sum_60 : decode cX9_sum 60 = .ok (.bipush (-12), 2) := by decide +kernel
theorem dX9_sum_62 : decode cX9_sum 62 = .ok (.istore 4, 2) := by decide +kernel
theorem dX9_sum_64 : decode cX9_sum 64 = .ok (.aload_n 0, 1) := by decide +kernel
theorem dX9_sum_65 : decode cX9_sum 65 = .ok (.getfield 18, 3) := by decide +kernel
theorem dX9_sum_68 : decode cX9_sum 68 = .ok (.invokevirtual 51, 3) := by decide +kernel
theorem dX9_sum_71 : decode cX9_sum 71 = .ok (.aload_n 0, 1) := by decide +kernel
theorem dX9_sum_72 : decode cX9_sum 72 = .ok (.iload_n 1, 1) := by decide +kernel
theorem dX9_sum_73 : decode cX9_sum 73 = .ok (.invokevirtual 73, 3) := by decide +kernel
theorem dX9_sum_76 : decode cX9_sum 76 = .ok (.istore_n 2, 1) := by decide +kernel
theorem dX9_sum_77 : decode cX9_sum 77 = .ok (.aload_n 0, 1) := by decide +kernel
theorem dX9_sum_78 : decode cX9_sum 78 = .ok (.getfield 12, 3) := by decide +kernel
theorem dX9_sum_81 : decode cX9_sum 81 = .ok (.iload 4, 2) := by decide +kernel
theorem dX9_sum_83 : decode cX9_sum 83 = .ok (.invokevirtual 54, 3) := by decide +kernel
theorem dX9_sum_86 : decode cX9_sum 86 = .ok (.iinc 3 1, 3) := by decide +kernel
theorem dX9_sum_89 : decode cX9_sum 89 = .ok (.goto (-81), 3) := by decide +kernel
theorem dX9_sum_92 : decode cX9_sum 92 = .ok (.iload_n 2, 1) := by decide +kernel
theorem dX9_sum_93 : decode cX9_sum 93 = .ok (.ireturn, 1) := by decide +kernel
theorem dX9_product_0 : decode cX9_product 0 = .ok (.aload_n 0, 1) := by decide +kernel
theorem dX9_product_1 : decode cX9_product 1 = .ok (.iload_n 1, 1) := by decide +kernel
theorem dX9_product_2 : decode cX9_product 2 = .ok (.invokevirtual 76, 3) := by decide +kernel
theorem dX9_product_5 : decode cX9_product 5 = .ok (.istore_n 2, 1) := by decide +kernel
theorem dX9_product_6 : decode cX9_product 6 = .ok (.iconst 0, 1) := by decide +kernel
theorem dX9_product_7 : decode cX9_product 7 = .ok (.istore_n 3, 1) := by decide +kernel
theorem dX9_product_8 : decode cX9_product 8 = .ok (.iload_n 3, 1) := by decide +kernel
theorem dX9_product_9 : decode cX9_product 9 = .ok (.sipush 1600, 3) := by decide +kernel
theorem dX9_product_12 : decode cX9_product 12 = .ok (.if_icmp .ge 80, 3) := by decide +kernel
theorem dX9_product_15 : decode cX9_product 15 = .ok (.iload_n 2, 1) := by decide +kernel
theorem dX9_product_16 : decode cX9_product 16 = .ok (.ifCond .eq 76, 3) := by decide +kernel
theorem dX9_product_19 : decode cX9_product 19 = .ok (.aload_n 0, 1) := by decide +kernel
theorem dX9_product_20 : decode cX9_product 20 = .ok (.getfield 18, 3) := by decide +kernel
theorem dX9_product_23 : decode cX9_product 23 = .ok (.getfield 61, 3) := by decide +kernel
theorem dX9_product_26 : decode cX9_product 26 = .ok (.bipush 42, 2) := by decide +kernel
theorem dX9_product_28 : decode cX9_product 28 = .ok (.if_icmp .eq 15, 3) := by decide +kernel
theorem dX9_product_31 : decode cX9_product 31 = .ok (.aload_n 0, 1) := by decide +kernel
theorem dX9_product_32 : decode cX9_product 32 = .ok (.getfield 18, 3) := by decide +kernel
theorem dX9_product_35 : decode cX9_product 35 = .ok (.getfield 61, 3) := by decide +kernel
theorem dX9_product_38 : decode cX9_product 38 = .ok (.bipush 47, 2) := by decide +kernel
theorem dX9_product_40 : decode cX9_product 40 = .ok (.if_icmp .ne 52, 3) := by decide +kernel
theorem dX9_product_43 : decode cX9_product 43 = .ok (.aload_n 0, 1) := by decide +kernel
theorem dX9_product_44 : decode cX9_product 44 = .ok (.getfield 18, 3) := by decide +kernel
theorem dX9_product_47 : decode cX9_product 47 = .ok (.getfield 61, 3) := by decide +kernel
theorem dX9_product_50 : decode cX9_product 50 = .ok (.bipush 42, 2) := by decide +kernel
theorem dX9_product_52 : decode cX9_product 52 = .ok (.if_icmp .ne 8, 3) := by decide +kernel
theorem dX9_product_55 : decode cX9_product 55 = .ok (.bipush (-13), 2) := by decide +kernel
theorem dX9_product_57 : decode cX9_product 57 = .ok (.goto 5, 3) := by decide +kernel
theorem dX9_product_60 : decode cX9_product 60 = .ok (.bipush (-14), 2) := by decide +kernel
theorem dX9_product_62 : decode cX9_product 62 = .ok (.istore 4, 2) := by decide +kernel
theorem dX9_product_64 : decode cX9_product 64 = .ok (.aload_n 0, 1) := by decide +kernel
theorem dX9_product_65 : decode cX9_product 65 = .ok (.getfield 18, 3) := by decide +kernel
theorem dX9_product_68 : decode cX9_product 68 = .ok (.invokevirtual 51, 3) := by decide +kernel
theorem dX9_product_71 : decode cX9_product 71 = .ok (.aload_n 0, 1) := by decide +kernel
theorem dX9_product_72 : decode cX9_product 72 = .ok (.iload_n 1, 1) := by decide +kernel
theorem dX9_product_73 : decode cX9_product 73 = .ok (.invokevirtual 76, 3) := by decide +kernel
theorem dX9_product_76 : decode cX9_product 76 = .ok (.istore_n 2, 1) := by decide +kernel
theorem dX9_product_77 : decode cX9_product 77 = .ok (.aload_n 0, 1) := by decide +kernel
theorem dX9_product_78 : decode cX9_product 78 = .ok (.getfield 12, 3) := by decide +kernel
theorem dX9_product_81 : decode cX9_product 81 = .ok (.iload 4, 2) := by decide +kernel
theorem dX9_product_83 : decode cX9_product 83 = .ok (.invokevirtual 54, 3) := by decide +kernel
theorem dX9_product_86 : decode cX9_product 86 = .ok (.iinc 3 1, 3) := by decide +kernel
theorem dX9_product_89 : decode cX9_product 89 = .ok (.goto (-81), 3) := by decide +kernel
theorem dX9_product_92 : decode cX9_product 92 = .ok (.iload_n 2, 1) := by decide +kernel
theorem dX9_product_93 : decode cX9_product 93 = .ok (.ireturn, 1) := by decide +kernel
theorem dX9_part_0 : decode cX9_part 0 = .ok (.aload_n 0, 1) := by decide +kernel
theorem dX9_part_1 : decode cX9_part 1 = .ok (.getfield 18, 3) := by decide +kernel
theorem dX9_part_4 : decode cX9_part 4 = .ok (.getfield 79, 3) := by decide +kernel
theorem dX9_part_7 : decode cX9_part 7 = .ok (.iconst 2, 1) := by decide +kernel
theorem dX9_part_8 : decode cX9_part 8 = .ok (.if_icmp .ne 37, 3) := by decide +kernel
theorem dX9_part_11 : decode cX9_part 11 = .ok (.aload_n 0, 1) := by decide +kernel
theorem dX9_part_12 : decode cX9_part 12 = .ok (.getfield 12, 3) := by decide +kernel
theorem dX9_part_15 : decode cX9_part 15 = .ok (.aload_n 0, 1) := by decide +kernel
theorem dX9_part_16 : decode cX9_part 16 = .ok (.getfield 18, 3) := by decide +kernel
theorem dX9_part_19 : decode cX9_part 19 = .ok (.iconst 0, 1) := by decide +kernel
theorem dX9_part_20 : decode cX9_part 20 = .ok (.sipush 9999, 3) := by decide +kernel
theorem dX9_part_23 : decode cX9_part 23 = .ok (.invokevirtual 82, 3) := by decide +kernel
theorem dX9_part_26 : decode cX9_part 26 = .ok (.invokevirtual 54, 3) := by decide +kernel
theorem dX9_part_29 : decode cX9_part 29 = .ok (.aload_n 0, 1) := by decide +kernel
theorem dX9_part_30 : decode cX9_part 30 = .ok (.getfield 18, 3) := by decide +kernel
theorem dX9_part_33 : decode cX9_part 33 = .ok (.getfield 86, 3) := by decide +kernel
theorem dX9_part_36 : decode cX9_part 36 = .ok (.ifCond .ne 7, 3) := by decide +kernel
theorem dX9_part_39 : decode cX9_part 39 = .ok (.iconst 1, 1) := by decide +kernel
theorem dX9_part_40 : decode cX9_part 40 = .ok (.goto 4, 3) := by decide +kernel
theorem dX9_part_43 : decode cX9_part 43 = .ok (.iconst 0, 1) := by decide +kernel
theorem dX9_part_44 : decode cX9_part 44 = .ok (.ireturn, 1) := by decide +kernel
theorem dX9_part_45 : decode cX9_part 45 = .ok (.aload_n 0, 1) := by decide +kernel
theorem dX9_part_46 : decode cX9_part 46 = .ok (.getfield 18, 3) := by decide +kernel
theorem dX9_part_49 : decode cX9_part 49 = .ok (.getfield 61, 3) := by decide +kernel
theorem dX9_part_52 : decode cX9_part 52 = .ok (.bipush 40, 2) := by decide +kernel
theorem dX9_part_54 : decode cX9_part 54 = .ok (.if_icmp .ne 39, 3) := by decide +kernel
theorem dX9_part_57 : decode cX9_part 57 = .ok (.aload_n 0, 1) := by decide +kernel
theorem dX9_part_58 : decode cX9_part 58 = .ok (.iload_n 1, 1) := by decide +kernel
theorem dX9_part_59 : decode cX9_part 59 = .ok (.invokevirtual 64, 3) := by decide +kernel
theorem dX9_part_62 : decode cX9_part 62 = .ok (.ifCond .eq 29, 3) := by decide +kernel
theorem dX9_part_65 : decode cX9_part 65 = .ok (.aload_n 0, 1) := by decide +kernel
theorem dX9_part_66 : decode cX9_part 66 = .ok (.iload_n 1, 1) := by decide +kernel
theorem dX9_part_67 : decode cX9_part 67 = .ok (.iconst 1, 1) := by decide +kernel
theorem dX9_part_68 : decode cX9_part 68 = .ok (.iadd, 1) := by decide +kernel
theorem dX9_part_69 : decode cX9_part 69 = .ok (.invokevirtual 30, 3) := by decide +kernel
theorem dX9_part_72 : decode cX9_part 72 = .ok (.ifCond .eq 19, 3) := by decide +kernel
theorem dX9_part_75 : decode cX9_part 75 = .ok (.aload_n 0, 1) := by decide +kernel
theorem dX9_part_76 : decode cX9_part 76 = .ok (.getfield 18, 3) := by decide +kernel
theorem dX9_part_79 : decode cX9_part 79 = .ok (.bipush 41, 2) := by decide +kernel
theorem dX9_part_81 : decode cX9_part 81 = .ok (.invokevirtual 67, 3) := by decide +kernel
theorem dX9_part_84 : decode cX9_part 84 = .ok (.ifCond .eq 7, 3) := by decide +kernel
theorem dX9_part_87 : decode cX9_part 87 = .ok (.iconst 1, 1) := by decide +kernel
theorem dX9_part_88 : decode cX9_part 88 = .ok (.goto 4, 3) := by decide +kernel
theorem dX9_part_91 : decode cX9_part 91 = .ok (.iconst 0, 1) := by decide +kernel
theorem dX9_part_92 : decode cX9_part 92 = .ok (.ireturn, 1) := by decide +kernel
theorem dX9_part_93 : decode cX9_part 93 = .ok (.aload_n 0, 1) := by decide +kernel
theorem dX9_part_94 : decode cX9_part 94 = .ok (.getfield 18, 3) := by decide +kernel
theorem dX9_part_97 : decode cX9_part 97 = .ok (.getfield 46, 3) := by decide +kernel
theorem dX9_part_100 : decode cX9_part 100 = .ok (.bipush 26, 2) := by decide +kernel
theorem dX9_part_102 : decode cX9_part 102 = .ok (.if_icmp .eq 15, 3) := by decide +kernel
theorem dX9_part_105 : decode cX9_part 105 = .ok (.aload_n 0, 1) := by decide +kernel
theorem dX9_part_106 : decode cX9_part 106 = .ok (.getfield 18, 3) := by decide +kernel
theorem dX9_part_109 : decode cX9_part 109 = .ok (.getfield 46, 3) := by decide +kernel
theorem dX9_part_112 : decode cX9_part 112 = .ok (.bipush 27, 2) := by decide +kernel
theorem dX9_part_114 : decode cX9_part 114 = .ok (.if_icmp .ne 9, 3) := by decide +kernel
theorem dX9_part_117 : decode cX9_part 117 = .ok (.aload_n 0, 1) := by decide +kernel
theorem dX9_part_118 : decode cX9_part 118 = .ok (.iload_n 1, 1) := by decide +kernel
theorem dX9_part_119 : decode cX9_part 119 = .ok (.invokevirtual 89, 3) := by decide +kernel
theorem dX9_part_122 : decode cX9_part 122 = .ok (.ireturn, 1) := by decide +kernel
theorem dX9_part_123 : decode cX9_part 123 = .ok (.aload_n 0, 1) := by decide +kernel
theorem dX9_part_124 : decode cX9_part 124 = .ok (.getfield 26, 3) := by decide +kernel
theorem dX9_part_127 : decode cX9_part 127 = .ok (.ifCond .eq 50, 3) := by decide +kernel
theorem dX9_part_130 : decode cX9_part 130 = .ok (.aload_n 0, 1) := by decide +kernel
theorem dX9_part_131 : decode cX9_part 131 = .ok (.getfield 18, 3) := by decide +kernel
theorem dX9_part_134 : decode cX9_part 134 = .ok (.getfield 46, 3) := by decide +kernel
theorem dX9_part_137 : decode cX9_part 137 = .ok (.bipush 6, 2) := by decide +kernel
theorem dX9_part_139 : decode cX9_part 139 = .ok (.if_icmp .ne 38, 3) := by decide +kernel
theorem dX9_part_142 : decode cX9_part 142 = .ok (.aload_n 0, 1) := by decide +kernel
theorem dX9_part_143 : decode cX9_part 143 = .ok (.iload_n 1, 1) := by decide +kernel
theorem dX9_part_144 : decode cX9_part 144 = .ok (.invokevirtual 64, 3) := by decide +kernel
theorem dX9_part_147 : decode cX9_part 147 = .ok (.ifCond .eq 17, 3) := by decide +kernel
theorem dX9_part_150 : decode cX9_part 150 = .ok (.aload_n 0, 1) := by decide +kernel
theorem dX9_part_151 : decode cX9_part 151 = .ok (.iload_n 1, 1) := by decide +kernel
theorem dX9_part_152 : decode cX9_part 152 = .ok (.iconst 1, 1) := by decide +kernel
theorem dX9_part_153 : decode cX9_part 153 = .ok (.iadd, 1) := by decide +kernel
theorem dX9_part_154 : decode cX9_part 154 = .ok (.invokevirtual 76, 3) := by decide +kernel
theorem dX9_part_157 : decode cX9_part 157 = .ok (.ifCond .eq 7, 3) := by decide +kernel
theorem dX9_part_160 : decode cX9_part 160 = .ok (.iconst 1, 1) := by decide +kernel
theorem dX9_part_161 : decode cX9_part 161 = .ok (.goto 4, 3) := by decide +kernel
theorem dX9_part_164 : decode cX9_part 164 = .ok (.iconst 0, 1) := by decide +kernel
theorem dX9_part_165 : decode cX9_part 165 = .ok (.istore_n 2, 1) := by decide +kernel
theorem dX9_part_166 : decode cX9_part 166 = .ok (.aload_n 0, 1) := by decide +kernel
theorem dX9_part_167 : decode cX9_part 167 = .ok (.getfield 12, 3) := by decide +kernel
theorem dX9_part_170 : decode cX9_part 170 = .ok (.bipush (-23), 2) := by decide +kernel
theorem dX9_part_172 : decode cX9_part 172 = .ok (.invokevirtual 54, 3) := by decide +kernel
theorem dX9_part_175 : decode cX9_part 175 = .ok (.iload_n 2, 1) := by decide +kernel
theorem dX9_part_176 : decode cX9_part 176 = .ok (.ireturn, 1) := by decide +kernel
theorem dX9_part_177 : decode cX9_part 177 = .ok (.aload_n 0, 1) := by decide +kernel
theorem dX9_part_178 : decode cX9_part 178 = .ok (.getfield 26, 3) := by decide +kernel
theorem dX9_part_181 : decode cX9_part 181 = .ok (.ifCond .eq 16, 3) := by decide +kernel
theorem dX9_part_184 : decode cX9_part 184 = .ok (.aload_n 0, 1) := by decide +kernel
theorem dX9_part_185 : decode cX9_part 185 = .ok (.getfield 18, 3) := by decide +kernel
theorem dX9_part_188 : decode cX9_part 188 = .ok (.getfield 46, 3) := by decide +kernel
theorem dX9_part_191 : decode cX9_part 191 = .ok (.invokestatic 92, 3) := by decide +kernel
theorem dX9_part_194 : decode cX9_part 194 = .ok (.goto 13, 3) := by decide +kernel
theorem dX9_part_197 : decode cX9_part 197 = .ok (.aload_n 0, 1) := by decide +kernel
theorem dX9_part_198 : decode cX9_part 198 = .ok (.getfield 18, 3) := by decide +kernel
theorem dX9_part_201 : decode cX9_part 201 = .ok (.getfield 46, 3) := by decide +kernel
theorem dX9_part_204 : decode cX9_part 204 = .ok (.invokestatic 96, 3) := by decide +kernel
theorem dX9_part_207 : decode cX9_part 207 = .ok (.istore_n 2, 1) := by decide +kernel
theorem dX9_part_208 : decode cX9_part 208 = .ok (.iload_n 2, 1) := by decide +kernel
theorem dX9_part_209 : decode cX9_part 209 = .ok (.iconst (-1), 1) := by decide +kernel
theorem dX9_part_210 : decode cX9_part 210 = .ok (.if_icmp .ne 12, 3) := by decide +kernel
theorem dX9_part_213 : decode cX9_part 213 = .ok (.aload_n 0, 1) := by decide +kernel
theorem dX9_part_214 : decode cX9_part 214 = .ok (.getfield 18, 3) := by decide +kernel
theorem dX9_part_217 : decode cX9_part 217 = .ok (.iconst 1, 1) := by decide +kernel
theorem dX9_part_218 : decode cX9_part 218 = .ok (.invokevirtual 70, 3) := by decide +kernel
theorem dX9_part_221 : decode cX9_part 221 = .ok (.ireturn, 1) := by decide +kernel
theorem dX9_part_222 : decode cX9_part 222 = .ok (.aload_n 0, 1) := by decide +kernel
theorem dX9_part_223 : decode cX9_part 223 = .ok (.getfield 18, 3) := by decide +kernel
theorem dX9_part_226 : decode cX9_part 226 = .ok (.invokevirtual 51, 3) := by decide +kernel
theorem dX9_part_229 : decode cX9_part 229 = .ok (.aload_n 0, 1) := by decide +kernel
theorem dX9_part_230 : decode cX9_part 230 = .ok (.getfield 12, 3) := by decide +kernel
theorem dX9_part_233 : decode cX9_part 233 = .ok (.iconst (-1), 1) := by decide +kernel
theorem dX9_part_234 : decode cX9_part 234 = .ok (.iload_n 2, 1) := by decide +kernel
theorem dX9_part_235 : decode cX9_part 235 = .ok (.isub, 1) := by decide +kernel
theorem dX9_part_236 : decode cX9_part 236 = .ok (.invokevirtual 54, 3) := by decide +kernel
theorem dX9_part_239 : decode cX9_part 239 = .ok (.iconst 1, 1) := by decide +kernel
theorem dX9_part_240 : decode cX9_part 240 = .ok (.ireturn, 1) := by decide +kernel
theorem dX9_choice_0 : decode cX9_choice 0 = .ok (.aload_n 0, 1) := by decide +kernel
theorem dX9_choice_1 : decode cX9_choice 1 = .ok (.getfield 18, 3) := by decide +kernel
theorem dX9_choice_4 : decode cX9_choice 4 = .ok (.getfield 46, 3) := by decide +kernel
theorem dX9_choice_7 : decode cX9_choice 7 = .ok (.bipush 26, 2) := by decide +kernel
theorem dX9_choice_9 : decode cX9_choice 9 = .ok (.if_icmp .ne 8, 3) := by decide +kernel
theorem dX9_choice_12 : decode cX9_choice 12 = .ok (.bipush (-15), 2) := by decide +kernel
theorem dX9_choice_14 : decode cX9_choice 14 = .ok (.goto 5, 3) := by decide +kernel
theorem dX9_choice_17 : decode cX9_choice 17 = .ok (.bipush (-16), 2) := by decide +kernel
theorem dX9_choice_19 : decode cX9_choice 19 = .ok (.istore_n 2, 1) := by decide +kernel
theorem dX9_choice_20 : decode cX9_choice 20 = .ok (.aload_n 0, 1) := by decide +kernel
theorem dX9_choice_21 : decode cX9_choice 21 = .ok (.getfield 18, 3) := by decide +kernel
theorem dX9_choice_24 : decode cX9_choice 24 = .ok (.invokevirtual 51, 3) := by decide +kernel
theorem dX9_choice_27 : decode cX9_choice 27 = .ok (.aload_n 0, 1) := by decide +kernel
theorem dX9_choice_28 : decode cX9_choice 28 = .ok (.getfield 18, 3) := by decide +kernel
theorem dX9_choice_31 : decode cX9_choice 31 = .ok (.getfield 61, 3) := by decide +kernel
theorem dX9_choice_34 : decode cX9_choice 34 = .ok (.bipush 40, 2) := by decide +kernel
theorem dX9_choice_36 : decode cX9_choice 36 = .ok (.if_icmp .eq 12, 3) := by decide +kernel
theorem dX9_choice_39 : decode cX9_choice 39 = .ok (.aload_n 0, 1) := by decide +kernel
theorem dX9_choice_40 : decode cX9_choice 40 = .ok (.getfield 18, 3) := by decide +kernel
theorem dX9_choice_43 : decode cX9_choice 43 = .ok (.iconst 1, 1) := by decide +kernel
theorem dX9_choice_44 : decode cX9_choice 44 = .ok (.invokevirtual 70, 3) := by decide +kernel
theorem dX9_choice_47 : decode cX9_choice 47 = .ok (.ireturn, 1) := by decide +kernel
theorem dX9_choice_48 : decode cX9_choice 48 = .ok (.aload_n 0, 1) := by decide +kernel
theorem dX9_choice_49 : decode cX9_choice 49 = .ok (.iload_n 1, 1) := by decide +kernel
theorem dX9_choice_50 : decode cX9_choice 50 = .ok (.invokevirtual 64, 3) := by decide +kernel
theorem dX9_choice_53 : decode cX9_choice 53 = .ok (.ifCond .eq 51, 3) := by decide +kernel
theorem dX9_choice_56 : decode cX9_choice 56 = .ok (.aload_n 0, 1) := by decide +kernel
theorem dX9_choice_57 : decode cX9_choice 57 = .ok (.iload_n 1, 1) := by decide +kernel
theorem dX9_choice_58 : decode cX9_choice 58 = .ok (.iconst 1, 1) := by decide +kernel
theorem dX9_choice_59 : decode cX9_choice 59 = .ok (.iadd, 1) := by decide +kernel
theorem dX9_choice_60 : decode cX9_choice 60 = .ok (.invokevirtual 30, 3) := by decide +kernel
theorem dX9_choice_63 : decode cX9_choice 63 = .ok (.ifCond .eq 41, 3) := by decide +kernel
theorem dX9_choice_66 : decode cX9_choice 66 = .ok (.aload_n 0, 1) := by decide +kernel
theorem dX9_choice_67 : decode cX9_choice 67 = .ok (.getfield 18, 3) := by decide +kernel
theorem dX9_choice_70 : decode cX9_choice 70 = .ok (.bipush 44, 2) := by decide +kernel
theorem dX9_choice_72 : decode cX9_choice 72 = .ok (.invokevirtual 67, 3) := by decide +kernel
theorem dX9_choice_75 : decode cX9_choice 75 = .ok (.ifCond .eq 29, 3) := by decide +kernel
theorem dX9_choice_78 : decode cX9_choice 78 = .ok (.aload_n 0, 1) := by decide +kernel
theorem dX9_choice_79 : decode cX9_choice 79 = .ok (.iload_n 1, 1) := by decide +kernel
theorem dX9_choice_80 : decode cX9_choice 80 = .ok (.iconst 1, 1) := by decide +kernel
theorem dX9_choice_81 : decode cX9_choice 81 = .ok (.iadd, 1) := by decide +kernel
theorem dX9_choice_82 : decode cX9_choice 82 = .ok (.invokevirtual 30, 3) := by decide +kernel
theorem dX9_choice_85 : decode cX9_choice 85 = .ok (.ifCond .eq 19, 3) := by decide +kernel
theorem dX9_choice_88 : decode cX9_choice 88 = .ok (.aload_n 0, 1) := by decide +kernel
theorem dX9_choice_89 : decode cX9_choice 89 = .ok (.getfield 18, 3) := by decide +kernel
theorem dX9_choice_92 : decode cX9_choice 92 = .ok (.bipush 41, 2) := by decide +kernel
theorem dX9_choice_94 : decode cX9_choice 94 = .ok (.invokevirtual 67, 3) := by decide +kernel
theorem dX9_choice_97 : decode cX9_choice 97 = .ok (.ifCond .eq 7, 3) := by decide +kernel
theorem dX9_choice_100 : decode cX9_choice 100 = .ok (.iconst 1, 1) := by decide +kernel
theorem dX9_choice_101 : decode cX9_choice 101 = .ok (.goto 4, 3) := by decide +kernel
theorem dX9_choice_104 : decode cX9_choice 104 = .ok (.iconst 0, 1) := by decide +kernel
theorem dX9_choice_105 : decode cX9_choice 105 = .ok (.istore_n 3, 1) := by decide +kernel
theorem dX9_choice_106 : decode cX9_choice 106 = .ok (.aload_n 0, 1) := by decide +kernel
theorem dX9_choice_107 : decode cX9_choice 107 = .ok (.getfield 12, 3) := by decide +kernel
theorem dX9_choice_110 : decode cX9_choice 110 = .ok (.iload_n 2, 1) := by decide +kernel
theorem dX9_choice_111 : decode cX9_choice 111 = .ok (.invokevirtual 54, 3) := by decide +kernel
theorem dX9_choice_114 : decode cX9_choice 114 = .ok (.iload_n 3, 1) := by decide +kernel
theorem dX9_choice_115 : decode cX9_choice 115 = .ok (.ireturn, 1) := by decide +kernel
theorem dX9_opens_0 : decode cX9_opens 0 = .ok (.iload_n 1, 1) := by decide +kernel
theorem dX9_opens_1 : decode cX9_opens 1 = .ok (.bipush 6, 2) := by decide +kernel
theorem dX9_opens_3 : decode cX9_opens 3 = .ok (.if_icmp .lt 12, 3) := by decide +kernel
theorem dX9_opens_6 : decode cX9_opens 6 = .ok (.aload_n 0, 1) := by decide +kernel
theorem dX9_opens_7 : decode cX9_opens 7 = .ok (.getfield 18, 3) := by decide +kernel
theorem dX9_opens_10 : decode cX9_opens 10 = .ok (.iconst 4, 1) := by decide +kernel
theorem dX9_opens_11 : decode cX9_opens 11 = .ok (.invokevirtual 70, 3) := by decide +kernel
theorem dX9_opens_14 : decode cX9_opens 14 = .ok (.ireturn, 1) := by decide +kernel
theorem dX9_opens_15 : decode cX9_opens 15 = .ok (.aload_n 0, 1) := by decide +kernel
theorem dX9_opens_16 : decode cX9_opens 16 = .ok (.getfield 18, 3) := by decide +kernel
theorem dX9_opens_19 : decode cX9_opens 19 = .ok (.invokevirtual 51, 3) := by decide +kernel
theorem dX9_opens_22 : decode cX9_opens 22 = .ok (.iconst 1, 1) := by decide +kernel
theorem dX9_opens_23 : decode cX9_opens 23 = .ok (.ireturn, 1) := by decide +kernel
theorem dX9_heapValue_0 : decode cX9_heapValue 0 = .ok (.iload_n 0, 1) := by decide +kernel
theorem dX9_heapValue_1 : decode cX9_heapValue 1 = .ok (.bipush 11, 2) := by decide +kernel
theorem dX9_heapValue_3 : decode cX9_heapValue 3 = .ok (.if_icmp .ne 7, 3) := by decide +kernel
theorem dX9_heapValue_6 : decode cX9_heapValue 6 = .ok (.iconst 3, 1) := by decide +kernel
theorem dX9_heapValue_7 : decode cX9_heapValue 7 = .ok (.goto 7, 3) := by decide +kernel
theorem dX9_heapValue_10 : decode cX9_heapValue 10 = .ok (.iload_n 0, 1) := by decide +kernel
theorem dX9_heapValue_11 : decode cX9_heapValue 11 = .ok (.invokestatic 99, 3) := by decide +kernel
theorem dX9_heapValue_14 : decode cX9_heapValue 14 = .ok (.ireturn, 1) := by decide +kernel
theorem dX9_questionValue_0 : decode cX9_questionValue 0 = .ok (.iload_n 0, 1) := by decide +kernel
theorem dX9_questionValue_1 : decode cX9_questionValue 1 = .ok (.lookupswitch 55 #[(4, 52), (19, 43), (20, 46), (21, 49)], 43) := by decide +kernel
theorem dX9_questionValue_44 : decode cX9_questionValue 44 = .ok (.bipush 6, 2) := by decide +kernel
theorem dX9_questionValue_46 : decode cX9_questionValue 46 = .ok (.ireturn, 1) := by decide +kernel
theorem dX9_questionValue_47 : decode cX9_questionValue 47 = .ok (.bipush 7, 2) := by decide +kernel
theorem dX9_questionValue_49 : decode cX9_questionValue 49 = .ok (.ireturn, 1) := by decide +kernel
theorem dX9_questionValue_50 : decode cX9_questionValue 50 = .ok (.bipush 8, 2) := by decide +kernel
theorem dX9_questionValue_52 : decode cX9_questionValue 52 = .ok (.ireturn, 1) := by decide +kernel
theorem dX9_questionValue_53 : decode cX9_questionValue 53 = .ok (.bipush 9, 2) := by decide +kernel
theorem dX9_questionValue_55 : decode cX9_questionValue 55 = .ok (.ireturn, 1) := by decide +kernel
theorem dX9_questionValue_56 : decode cX9_questionValue 56 = .ok (.iload_n 0, 1) := by decide +kernel
theorem dX9_questionValue_57 : decode cX9_questionValue 57 = .ok (.invokestatic 99, 3) := by decide +kernel
theorem dX9_questionValue_60 : decode cX9_questionValue 60 = .ok (.ireturn, 1) := by decide +kernel
theorem dX9_commonValue_0 : decode cX9_commonValue 0 = .ok (.iload_n 0, 1) := by decide +kernel
theorem dX9_commonValue_1 : decode cX9_commonValue 1 = .ok (.lookupswitch 61 #[(1, 51), (2, 53), (3, 55), (17, 57), (18, 59)], 51) := by decide +kernel
theorem dX9_commonValue_52 : decode cX9_commonValue 52 = .ok (.iconst 0, 1) := by decide +kernel
theorem dX9_commonValue_53 : decode cX9_commonValue 53 = .ok (.ireturn, 1) := by decide +kernel
theorem dX9_commonValue_54 : decode cX9_commonValue 54 = .ok (.iconst 1, 1) := by decide +kernel
theorem dX9_commonValue_55 : decode cX9_commonValue 55 = .ok (.ireturn, 1) := by decide +kernel
theorem dX9_commonValue_56 : decode cX9_commonValue 56 = .ok (.iconst 2, 1) := by decide +kernel
theorem dX9_commonValue_57 : decode cX9_commonValue 57 = .ok (.ireturn, 1) := by decide +kernel
theorem dX9_commonValue_58 : decode cX9_commonValue 58 = .ok (.iconst 4, 1) := by decide +kernel
theorem dX9_commonValue_59 : decode cX9_commonValue 59 = .ok (.ireturn, 1) := by decide +kernel
theorem dX9_commonValue_60 : decode cX9_commonValue 60 = .ok (.iconst 5, 1) := by decide +kernel
theorem dX9_commonValue_61 : decode cX9_commonValue 61 = .ok (.ireturn, 1) := by decide +kernel
theorem dX9_commonValue_62 : decode cX9_commonValue 62 = .ok (.iconst (-1), 1) := by decide +kernel
theorem dX9_commonValue_63 : decode cX9_commonValue 63 = .ok (.ireturn, 1) := by decide +kernel
theorem dX3_read_0 : decode cX3_read 0 = .ok (.aload_n 0, 1) := by decide +kernel
theorem dX3_read_1 : decode cX3_read 1 = .ok (.getfield 12, 3) := by decide +kernel
theorem dX3_read_4 : decode cX3_read 4 = .ok (.invokevirtual 26, 3) := by decide +kernel
theorem dX3_read_7 : decode cX3_read 7 = .ok (.aload_n 0, 1) := by decide +kernel
theorem dX3_read_8 : decode cX3_read 8 = .ok (.getfield 18, 3) := by decide +kernel
theorem dX3_read_11 : decode cX3_read 11 = .ok (.invokevirtual 29, 3) := by decide +kernel
theorem dX3_read_14 : decode cX3_read 14 = .ok (.aload_n 0, 1) := by decide +kernel
theorem dX3_read_15 : decode cX3_read 15 = .ok (.iconst 0, 1) := by decide +kernel
theorem dX3_read_16 : decode cX3_read 16 = .ok (.putfield 34, 3) := by decide +kernel
theorem dX3_read_19 : decode cX3_read 19 = .ok (.aload_n 0, 1) := by decide +kernel
theorem dX3_read_20 : decode cX3_read 20 = .ok (.getfield 34, 3) := by decide +kernel
theorem dX3_read_23 : decode cX3_read 23 = .ok (.bipush 80, 2) := by decide +kernel
theorem dX3_read_25 : decode cX3_read 25 = .ok (.if_icmp .ge 47, 3) := by decide +kernel
theorem dX3_read_28 : decode cX3_read 28 = .ok (.aload_n 0, 1) := by decide +kernel
theorem dX3_read_29 : decode cX3_read 29 = .ok (.getfield 18, 3) := by decide +kernel
theorem dX3_read_32 : decode cX3_read 32 = .ok (.getfield 38, 3) := by decide +kernel
theorem dX3_read_35 : decode cX3_read 35 = .ok (.ifCond .eq 37, 3) := by decide +kernel
theorem dX3_read_38 : decode cX3_read 38 = .ok (.aload_n 0, 1) := by decide +kernel
theorem dX3_read_39 : decode cX3_read 39 = .ok (.invokevirtual 41, 3) := by decide +kernel
theorem dX3_read_42 : decode cX3_read 42 = .ok (.ifCond .eq 15, 3) := by decide +kernel
theorem dX3_read_45 : decode cX3_read 45 = .ok (.aload_n 0, 1) := by decide +kernel
theorem dX3_read_46 : decode cX3_read 46 = .ok (.getfield 18, 3) := by decide +kernel
theorem dX3_read_49 : decode cX3_read 49 = .ok (.bipush 59, 2) := by decide +kernel
theorem dX3_read_51 : decode cX3_read 51 = .ok (.invokevirtual 45, 3) := by decide +kernel
theorem dX3_read_54 : decode cX3_read 54 = .ok (.ifCond .ne 5, 3) := by decide +kernel
theorem dX3_read_57 : decode cX3_read 57 = .ok (.iconst 0, 1) := by decide +kernel
theorem dX3_read_58 : decode cX3_read 58 = .ok (.ireturn, 1) := by decide +kernel
theorem dX3_read_59 : decode cX3_read 59 = .ok (.aload_n 0, 1) := by decide +kernel
theorem dX3_read_60 : decode cX3_read 60 = .ok (.dup, 1) := by decide +kernel
theorem dX3_read_61 : decode cX3_read 61 = .ok (.getfield 34, 3) := by decide +kernel
theorem dX3_read_64 : decode cX3_read 64 = .ok (.iconst 1, 1) := by decide +kernel
theorem dX3_read_65 : decode cX3_read 65 = .ok (.iadd, 1) := by decide +kernel
theorem dX3_read_66 : decode cX3_read 66 = .ok (.putfield 34, 3) := by decide +kernel
theorem dX3_read_69 : decode cX3_read 69 = .ok (.goto (-50), 3) := by decide +kernel
theorem dX3_read_72 : decode cX3_read 72 = .ok (.aload_n 0, 1) := by decide +kernel
theorem dX3_read_73 : decode cX3_read 73 = .ok (.getfield 18, 3) := by decide +kernel
theorem dX3_read_76 : decode cX3_read 76 = .ok (.getfield 38, 3) := by decide +kernel
theorem dX3_read_79 : decode cX3_read 79 = .ok (.ifCond .eq 14, 3) := by decide +kernel
theorem dX3_read_82 : decode cX3_read 82 = .ok (.aload_n 0, 1) := by decide +kernel
theorem dX3_read_83 : decode cX3_read 83 = .ok (.getfield 18, 3) := by decide +kernel
theorem dX3_read_86 : decode cX3_read 86 = .ok (.iconst 5, 1) := by decide +kernel
theorem dX3_read_87 : decode cX3_read 87 = .ok (.invokevirtual 49, 3) := by decide +kernel
theorem dX3_read_90 : decode cX3_read 90 = .ok (.ifCond .eq 7, 3) := by decide +kernel
theorem dX3_read_93 : decode cX3_read 93 = .ok (.iconst 1, 1) := by decide +kernel
theorem dX3_read_94 : decode cX3_read 94 = .ok (.goto 4, 3) := by decide +kernel
theorem dX3_read_97 : decode cX3_read 97 = .ok (.iconst 0, 1) := by decide +kernel
theorem dX3_read_98 : decode cX3_read 98 = .ok (.ireturn, 1) := by decide +kernel
theorem dX3_statement_0 : decode cX3_statement 0 = .ok (.aload_n 0, 1) := by decide +kernel
theorem dX3_statement_1 : decode cX3_statement 1 = .ok (.getfield 18, 3) := by decide +kernel
theorem dX3_statement_4 : decode cX3_statement 4 = .ok (.getfield 52, 3) := by decide +kernel
theorem dX3_statement_7 : decode cX3_statement 7 = .ok (.invokestatic 55, 3) := by decide +kernel
theorem dX3_statement_10 : decode cX3_statement 10 = .ok (.istore_n 1, 1) := by decide +kernel
theorem dX3_statement_11 : decode cX3_statement 11 = .ok (.iload_n 1, 1) := by decide +kernel
theorem dX3_statement_12 : decode cX3_statement 12 = .ok (.iconst (-1), 1) := by decide +kernel
theorem dX3_statement_13 : decode cX3_statement 13 = .ok (.if_icmp .ne 12, 3) := by decide +kernel
theorem dX3_statement_16 : decode cX3_statement 16 = .ok (.aload_n 0, 1) := by decide +kernel
theorem dX3_statement_17 : decode cX3_statement 17 = .ok (.getfield 18, 3) := by decide +kernel
theorem dX3_statement_20 : decode cX3_statement 20 = .ok (.iconst 1, 1) := by decide +kernel
theorem dX3_statement_21 : decode cX3_statement 21 = .ok (.invokevirtual 49, 3) := by decide +kernel
theorem dX3_statement_24 : decode cX3_statement 24 = .ok (.ireturn, 1) := by decide +kernel
theorem dX3_statement_25 : decode cX3_statement 25 = .ok (.aload_n 0, 1) := by decide +kernel
theorem dX3_statement_26 : decode cX3_statement 26 = .ok (.getfield 12, 3) := by decide +kernel
theorem dX3_statement_29 : decode cX3_statement 29 = .ok (.getfield 59, 3) := by decide +kernel
theorem dX3_statement_32 : decode cX3_statement 32 = .ok (.iload_n 1, 1) := by decide +kernel
theorem dX3_statement_33 : decode cX3_statement 33 = .ok (.iaload, 1) := by decide +kernel
theorem dX3_statement_34 : decode cX3_statement 34 = .ok (.getstatic 63, 3) := by decide +kernel
theorem dX3_statement_37 : decode cX3_statement 37 = .ok (.iload_n 1, 1) := by decide +kernel
theorem dX3_statement_38 : decode cX3_statement 38 = .ok (.iaload, 1) := by decide +kernel
theorem dX3_statement_39 : decode cX3_statement 39 = .ok (.if_icmp .lt 12, 3) := by decide +kernel
theorem dX3_statement_42 : decode cX3_statement 42 = .ok (.aload_n 0, 1) := by decide +kernel
theorem dX3_statement_43 : decode cX3_statement 43 = .ok (.getfield 18, 3) := by decide +kernel
theorem dX3_statement_46 : decode cX3_statement 46 = .ok (.iconst 5, 1) := by decide +kernel
theorem dX3_statement_47 : decode cX3_statement 47 = .ok (.invokevirtual 49, 3) := by decide +kernel
theorem dX3_statement_50 : decode cX3_statement 50 = .ok (.ireturn, 1) := by decide +kernel
theorem dX3_statement_51 : decode cX3_statement 51 = .ok (.aload_n 0, 1) := by decide +kernel
theorem dX3_statement_52 : decode cX3_statement 52 = .ok (.getfield 18, 3) := by decide +kernel
theorem dX3_statement_55 : decode cX3_statement 55 = .ok (.invokevirtual 66, 3) := by decide +kernel
theorem dX3_statement_58 : decode cX3_statement 58 = .ok (.iload_n 1, 1) := by decide +kernel
theorem dX3_statement_59 : decode cX3_statement 59 = .ok (.tableswitch 166 0 8 #[49, 57, 65, 73, 81, 89, 105, 121, 129], 49) := by decide +kernel
theorem dX3_statement_108 : decode cX3_statement 108 = .ok (.aload_n 0, 1) := by decide +kernel
theorem dX3_statement_109 : decode cX3_statement 109 = .ok (.invokevirtual 69, 3) := by decide +kernel
theorem dX3_statement_112 : decode cX3_statement 112 = .ok (.istore_n 2, 1) := by decide +kernel
theorem dX3_statement_113 : decode cX3_statement 113 = .ok (.goto 146, 3) := by decide +kernel
theorem dX3_statement_116 : decode cX3_statement 116 = .ok (.aload_n 0, 1) := by decide +kernel
theorem dX3_statement_117 : decode cX3_statement 117 = .ok (.invokevirtual 72, 3) := by decide +kernel
theorem dX3_statement_120 : decode cX3_statement 120 = .ok (.istore_n 2, 1) := by decide +kernel
theorem dX3_statement_121 : decode cX3_statement 121 = .ok (.goto 138, 3) := by decide +kernel
theorem dX3_statement_124 : decode cX3_statement 124 = .ok (.aload_n 0, 1) := by decide +kernel
theorem dX3_statement_125 : decode cX3_statement 125 = .ok (.invokevirtual 75, 3) := by decide +kernel
theorem dX3_statement_128 : decode cX3_statement 128 = .ok (.istore_n 2, 1) := by decide +kernel
theorem dX3_statement_129 : decode cX3_statement 129 = .ok (.goto 130, 3) := by decide +kernel
theorem dX3_statement_132 : decode cX3_statement 132 = .ok (.aload_n 0, 1) := by decide +kernel
theorem dX3_statement_133 : decode cX3_statement 133 = .ok (.invokevirtual 78, 3) := by decide +kernel
theorem dX3_statement_136 : decode cX3_statement 136 = .ok (.istore_n 2, 1) := by decide +kernel
theorem dX3_statement_137 : decode cX3_statement 137 = .ok (.goto 122, 3) := by decide +kernel
theorem dX3_statement_140 : decode cX3_statement 140 = .ok (.aload_n 0, 1) := by decide +kernel
theorem dX3_statement_141 : decode cX3_statement 141 = .ok (.invokevirtual 81, 3) := by decide +kernel
theorem dX3_statement_144 : decode cX3_statement 144 = .ok (.istore_n 2, 1) := by decide +kernel
theorem dX3_statement_145 : decode cX3_statement 145 = .ok (.goto 114, 3) := by decide +kernel
theorem dX3_statement_148 : decode cX3_statement 148 = .ok (.aload_n 0, 1) := by decide +kernel
theorem dX3_statement_149 : decode cX3_statement 149 = .ok (.getfield 22, 3) := by decide +kernel
theorem dX3_statement_152 : decode cX3_statement 152 = .ok (.aload_n 0, 1) := by decide +kernel
theorem dX3_statement_153 : decode cX3_statement 153 = .ok (.getfield 12, 3) := by decide +kernel
theorem dX3_statement_156 : decode cX3_statement 156 = .ok (.iconst 0, 1) := by decide +kernel
theorem dX3_statement_157 : decode cX3_statement 157 = .ok (.invokevirtual 84, 3) := by decide +kernel
theorem dX3_statement_160 : decode cX3_statement 160 = .ok (.istore_n 2, 1) := by decide +kernel
theorem dX3_statement_161 : decode cX3_statement 161 = .ok (.goto 98, 3) := by decide +kernel
theorem dX3_statement_164 : decode cX3_statement 164 = .ok (.aload_n 0, 1) := by decide +kernel
theorem dX3_statement_165 : decode cX3_statement 165 = .ok (.getfield 22, 3) := by decide +kernel
theorem dX3_statement_168 : decode cX3_statement 168 = .ok (.aload_n 0, 1) := by decide +kernel
theorem dX3_statement_169 : decode cX3_statement 169 = .ok (.getfield 12, 3) := by decide +kernel
theorem dX3_statement_172 : decode cX3_statement 172 = .ok (.iconst 1, 1) := by decide +kernel
theorem dX3_statement_173 : decode cX3_statement 173 = .ok (.invokevirtual 84, 3) := by decide +kernel
theorem dX3_statement_176 : decode cX3_statement 176 = .ok (.istore_n 2, 1) := by decide +kernel
theorem dX3_statement_177 : decode cX3_statement 177 = .ok (.goto 82, 3) := by decide +kernel
theorem dX3_statement_180 : decode cX3_statement 180 = .ok (.aload_n 0, 1) := by decide +kernel
theorem dX3_statement_181 : decode cX3_statement 181 = .ok (.invokevirtual 90, 3) := by decide +kernel
theorem dX3_statement_184 : decode cX3_statement 184 = .ok (.istore_n 2, 1) := by decide +kernel
theorem dX3_statement_185 : decode cX3_statement 185 = .ok (.goto 74, 3) := by decide +kernel
theorem dX3_statement_188 : decode cX3_statement 188 = .ok (.aload_n 0, 1) := by decide +kernel
theorem dX3_statement_189 : decode cX3_statement 189 = .ok (.getfield 12, 3) := by decide +kernel
theorem dX3_statement_192 : decode cX3_statement 192 = .ok (.aload_n 0, 1) := by decide +kernel
theorem dX3_statement_193 : decode cX3_statement 193 = .ok (.getfield 18, 3) := by decide +kernel
theorem dX3_statement_196 : decode cX3_statement 196 = .ok (.iconst 0, 1) := by decide +kernel
theorem dX3_statement_197 : decode cX3_statement 197 = .ok (.bipush 99, 2) := by decide +kernel
theorem dX3_statement_199 : decode cX3_statement 199 = .ok (.invokevirtual 93, 3) := by decide +kernel
theorem dX3_statement_202 : decode cX3_statement 202 = .ok (.putfield 97, 3) := by decide +kernel
theorem dX3_statement_205 : decode cX3_statement 205 = .ok (.aload_n 0, 1) := by decide +kernel
theorem dX3_statement_206 : decode cX3_statement 206 = .ok (.getfield 12, 3) := by decide +kernel
theorem dX3_statement_209 : decode cX3_statement 209 = .ok (.getfield 97, 3) := by decide +kernel
theorem dX3_statement_212 : decode cX3_statement 212 = .ok (.iconst (-1), 1) := by decide +kernel
theorem dX3_statement_213 : decode cX3_statement 213 = .ok (.if_icmp .eq 7, 3) := by decide +kernel
theorem dX3_statement_216 : decode cX3_statement 216 = .ok (.iconst 1, 1) := by decide +kernel
theorem dX3_statement_217 : decode cX3_statement 217 = .ok (.goto 4, 3) := by decide +kernel
theorem dX3_statement_220 : decode cX3_statement 220 = .ok (.iconst 0, 1) := by decide +kernel
theorem dX3_statement_221 : decode cX3_statement 221 = .ok (.istore_n 2, 1) := by decide +kernel
theorem dX3_statement_222 : decode cX3_statement 222 = .ok (.goto 37, 3) := by decide +kernel
theorem dX3_statement_225 : decode cX3_statement 225 = .ok (.aload_n 0, 1) := by decide +kernel
theorem dX3_statement_226 : decode cX3_statement 226 = .ok (.getfield 12, 3) := by decide +kernel
theorem dX3_statement_229 : decode cX3_statement 229 = .ok (.aload_n 0, 1) := by decide +kernel
theorem dX3_statement_230 : decode cX3_statement 230 = .ok (.getfield 18, 3) := by decide +kernel
theorem dX3_statement_233 : decode cX3_statement 233 = .ok (.iconst 0, 1) := by decide +kernel
theorem dX3_statement_234 : decode cX3_statement 234 = .ok (.bipush 100, 2) := by decide +kernel
theorem dX3_statement_236 : decode cX3_statement 236 = .ok (.invokevirtual 93, 3) := by decide +kernel
theorem dX3_statement_239 : decode cX3_statement 239 = .ok (.putfield 100, 3) := by decide +kernel
theorem dX3_statement_242 : decode cX3_statement 242 = .ok (.aload_n 0, 1) := by decide +kernel
theorem dX3_statement_243 : decode cX3_statement 243 = .ok (.getfield 12, 3) := by decide +kernel
theorem dX3_statement_246 : decode cX3_statement 246 = .ok (.getfield 100, 3) := by decide +kernel
theorem dX3_statement_249 : decode cX3_statement 249 = .ok (.iconst (-1), 1) := by decide +kernel
theorem dX3_statement_250 : decode cX3_statement 250 = .ok (.if_icmp .eq 7, 3) := by decide +kernel
theorem dX3_statement_253 : decode cX3_statement 253 = .ok (.iconst 1, 1) := by decide +kernel
theorem dX3_statement_254 : decode cX3_statement 254 = .ok (.goto 4, 3) := by decide +kernel
theorem dX3_statement_257 : decode cX3_statement 257 = .ok (.iconst 0, 1) := by decide +kernel
theorem dX3_statement_258 : decode cX3_statement 258 = .ok (.istore_n 2, 1) := by decide +kernel
theorem dX3_statement_259 : decode cX3_statement 259 = .ok (.aload_n 0, 1) := by decide +kernel
theorem dX3_statement_260 : decode cX3_statement 260 = .ok (.getfield 12, 3) := by decide +kernel
theorem dX3_statement_263 : decode cX3_statement 263 = .ok (.getfield 59, 3) := by decide +kernel
theorem dX3_statement_266 : decode cX3_statement 266 = .ok (.iload_n 1, 1) := by decide +kernel
theorem dX3_statement_267 : decode cX3_statement 267 = .ok (.dup2, 1) := by decide +kernel
theorem dX3_statement_268 : decode cX3_statement 268 = .ok (.iaload, 1) := by decide +kernel
theorem dX3_statement_269 : decode cX3_statement 269 = .ok (.iconst 1, 1) := by decide +kernel
theorem dX3_statement_270 : decode cX3_statement 270 = .ok (.iadd, 1) := by decide +kernel
theorem dX3_statement_271 : decode cX3_statement 271 = .ok (.iastore, 1) := by decide +kernel
theorem dX3_statement_272 : decode cX3_statement 272 = .ok (.iload_n 2, 1) := by decide +kernel
theorem dX3_statement_273 : decode cX3_statement 273 = .ok (.ireturn, 1) := by decide +kernel
theorem dX3_kindOf_0 : decode cX3_kindOf 0 = .ok (.iload_n 0, 1) := by decide +kernel
theorem dX3_kindOf_1 : decode cX3_kindOf 1 = .ok (.tableswitch 107 0 16 #[83, 107, 107, 107, 85, 107, 98, 89, 91, 87, 107, 107, 107, 93, 95, 101, 104], 83) := by decide +kernel
theorem dX3_kindOf_84 : decode cX3_kindOf 84 = .ok (.iconst 0, 1) := by decide +kernel
theorem dX3_kindOf_85 : decode cX3_kindOf 85 = .ok (.ireturn, 1) := by decide +kernel
theorem dX3_kindOf_86 : decode cX3_kindOf 86 = .ok (.iconst 1, 1) := by decide +kernel
theorem dX3_kindOf_87 : decode cX3_kindOf 87 = .ok (.ireturn, 1) := by decide +kernel
theorem dX3_kindOf_88 : decode cX3_kindOf 88 = .ok (.iconst 2, 1) := by decide +kernel
theorem dX3_kindOf_89 : decode cX3_kindOf 89 = .ok (.ireturn, 1) := by decide +kernel
theorem dX3_kindOf_90 : decode cX3_kindOf 90 = .ok (.iconst 3, 1) := by decide +kernel
theorem dX3_kindOf_91 : decode cX3_kindOf 91 = .ok (.ireturn, 1) := by decide +kernel
theorem dX3_kindOf_92 : decode cX3_kindOf 92 = .ok (.iconst 4, 1) := by decide +kernel
theorem dX3_kindOf_93 : decode cX3_kindOf 93 = .ok (.ireturn, 1) := by decide +kernel
theorem dX3_kindOf_94 : decode cX3_kindOf 94 = .ok (.iconst 5, 1) := by decide +kernel
theorem dX3_kindOf_95 : decode cX3_kindOf 95 = .ok (.ireturn, 1) := by decide +kernel
theorem dX3_kindOf_96 : decode cX3_kindOf 96 = .ok (.bipush 6, 2) := by decide +kernel
theorem dX3_kindOf_98 : decode cX3_kindOf 98 = .ok (.ireturn, 1) := by decide +kernel
theorem dX3_kindOf_99 : decode cX3_kindOf 99 = .ok (.bipush 7, 2) := by decide +kernel
theorem dX3_kindOf_101 : decode cX3_kindOf 101 = .ok (.ireturn, 1) := by decide +kernel
theorem dX3_kindOf_102 : decode cX3_kindOf 102 = .ok (.bipush 8, 2) := by decide +kernel
theorem dX3_kindOf_104 : decode cX3_kindOf 104 = .ok (.ireturn, 1) := by decide +kernel
theorem dX3_kindOf_105 : decode cX3_kindOf 105 = .ok (.bipush 9, 2) := by decide +kernel
theorem dX3_kindOf_107 : decode cX3_kindOf 107 = .ok (.ireturn, 1) := by decide +kernel
theorem dX3_kindOf_108 : decode cX3_kindOf 108 = .ok (.iconst (-1), 1) := by decide +kernel
theorem dX3_kindOf_109 : decode cX3_kindOf 109 = .ok (.ireturn, 1) := by decide +kernel
theorem dX3_letterContent_0 : decode cX3_letterContent 0 = .ok (.aload_n 0, 1) := by decide +kernel
theorem dX3_letterContent_1 : decode cX3_letterContent 1 = .ok (.getfield 12, 3) := by decide +kernel
theorem dX3_letterContent_4 : decode cX3_letterContent 4 = .ok (.getfield 59, 3) := by decide +kernel
theorem dX3_letterContent_7 : decode cX3_letterContent 7 = .ok (.iconst 0, 1) := by decide +kernel
theorem dX3_letterContent_8 : decode cX3_letterContent 8 = .ok (.iaload, 1) := by decide +kernel
theorem dX3_letterContent_9 : decode cX3_letterContent 9 = .ok (.istore_n 1, 1) := by decide +kernel
theorem dX3_letterContent_10 : decode cX3_letterContent 10 = .ok (.aload_n 0, 1) := by decide +kernel
theorem dX3_letterContent_11 : decode cX3_letterContent 11 = .ok (.iconst 0, 1) := by decide +kernel
theorem dX3_letterContent_12 : decode cX3_letterContent 12 = .ok (.invokevirtual 103, 3) := by decide +kernel
theorem dX3_letterContent_15 : decode cX3_letterContent 15 = .ok (.ifCond .eq 64, 3) := by decide +kernel
theorem dX3_letterContent_18 : decode cX3_letterContent 18 = .ok (.aload_n 0, 1) := by decide +kernel
theorem dX3_letterContent_19 : decode cX3_letterContent 19 = .ok (.iconst 1, 1) := by decide +kernel
theorem dX3_letterContent_20 : decode cX3_letterContent 20 = .ok (.iconst 0, 1) := by decide +kernel
theorem dX3_letterContent_21 : decode cX3_letterContent 21 = .ok (.bipush 20, 2) := by decide +kernel
theorem dX3_letterContent_23 : decode cX3_letterContent 23 = .ok (.aload_n 0, 1) := by decide +kernel
theorem dX3_letterContent_24 : decode cX3_letterContent 24 = .ok (.getfield 12, 3) := by decide +kernel
theorem dX3_letterContent_27 : decode cX3_letterContent 27 = .ok (.getfield 106, 3) := by decide +kernel
theorem dX3_letterContent_30 : decode cX3_letterContent 30 = .ok (.iload_n 1, 1) := by decide +kernel
theorem dX3_letterContent_31 : decode cX3_letterContent 31 = .ok (.invokevirtual 109, 3) := by decide +kernel
theorem dX3_letterContent_34 : decode cX3_letterContent 34 = .ok (.ifCond .eq 45, 3) := by decide +kernel
theorem dX3_letterContent_37 : decode cX3_letterContent 37 = .ok (.aload_n 0, 1) := by decide +kernel
theorem dX3_letterContent_38 : decode cX3_letterContent 38 = .ok (.iconst 2, 1) := by decide +kernel
theorem dX3_letterContent_39 : decode cX3_letterContent 39 = .ok (.iconst 0, 1) := by decide +kernel
theorem dX3_letterContent_40 : decode cX3_letterContent 40 = .ok (.bipush 9, 2) := by decide +kernel
theorem dX3_letterContent_42 : decode cX3_letterContent 42 = .ok (.aload_n 0, 1) := by decide +kernel
theorem dX3_letterContent_43 : decode cX3_letterContent 43 = .ok (.getfield 12, 3) := by decide +kernel
theorem dX3_letterContent_46 : decode cX3_letterContent 46 = .ok (.getfield 113, 3) := by decide +kernel
theorem dX3_letterContent_49 : decode cX3_letterContent 49 = .ok (.iload_n 1, 1) := by decide +kernel
theorem dX3_letterContent_50 : decode cX3_letterContent 50 = .ok (.invokevirtual 109, 3) := by decide +kernel
theorem dX3_letterContent_53 : decode cX3_letterContent 53 = .ok (.ifCond .eq 26, 3) := by decide +kernel
theorem dX3_letterContent_56 : decode cX3_letterContent 56 = .ok (.aload_n 0, 1) := by decide +kernel
theorem dX3_letterContent_57 : decode cX3_letterContent 57 = .ok (.iconst 3, 1) := by decide +kernel
theorem dX3_letterContent_58 : decode cX3_letterContent 58 = .ok (.iconst 0, 1) := by decide +kernel
theorem dX3_letterContent_59 : decode cX3_letterContent 59 = .ok (.bipush 10, 2) := by decide +kernel
theorem dX3_letterContent_61 : decode cX3_letterContent 61 = .ok (.aload_n 0, 1) := by decide +kernel
theorem dX3_letterContent_62 : decode cX3_letterContent 62 = .ok (.getfield 12, 3) := by decide +kernel
theorem dX3_letterContent_65 : decode cX3_letterContent 65 = .ok (.getfield 116, 3) := by decide +kernel
theorem dX3_letterContent_68 : decode cX3_letterContent 68 = .ok (.iload_n 1, 1) := by decide +kernel
theorem dX3_letterContent_69 : decode cX3_letterContent 69 = .ok (.invokevirtual 109, 3) := by decide +kernel
theorem dX3_letterContent_72 : decode cX3_letterContent 72 = .ok (.ifCond .eq 7, 3) := by decide +kernel
theorem dX3_letterContent_75 : decode cX3_letterContent 75 = .ok (.iconst 1, 1) := by decide +kernel
theorem dX3_letterContent_76 : decode cX3_letterContent 76 = .ok (.goto 4, 3) := by decide +kernel
theorem dX3_letterContent_79 : decode cX3_letterContent 79 = .ok (.iconst 0, 1) := by decide +kernel
theorem dX3_letterContent_80 : decode cX3_letterContent 80 = .ok (.ireturn, 1) := by decide +kernel
theorem dX3_giftContent_0 : decode cX3_giftContent 0 = .ok (.aload_n 0, 1) := by decide +kernel
theorem dX3_giftContent_1 : decode cX3_giftContent 1 = .ok (.iconst 1, 1) := by decide +kernel
theorem dX3_giftContent_2 : decode cX3_giftContent 2 = .ok (.invokevirtual 103, 3) := by decide +kernel
theorem dX3_giftContent_5 : decode cX3_giftContent 5 = .ok (.ifCond .eq 33, 3) := by decide +kernel
theorem dX3_giftContent_8 : decode cX3_giftContent 8 = .ok (.aload_n 0, 1) := by decide +kernel
theorem dX3_giftContent_9 : decode cX3_giftContent 9 = .ok (.iconst 5, 1) := by decide +kernel
theorem dX3_giftContent_10 : decode cX3_giftContent 10 = .ok (.iconst 0, 1) := by decide +kernel
theorem dX3_giftContent_11 : decode cX3_giftContent 11 = .ok (.iconst 3, 1) := by decide +kernel
theorem dX3_giftContent_12 : decode cX3_giftContent 12 = .ok (.aload_n 0, 1) := by decide +kernel
theorem dX3_giftContent_13 : decode cX3_giftContent 13 = .ok (.getfield 12, 3) := by decide +kernel
theorem dX3_giftContent_16 : decode cX3_giftContent 16 = .ok (.getfield 119, 3) := by decide +kernel
theorem dX3_giftContent_19 : decode cX3_giftContent 19 = .ok (.aload_n 0, 1) := by decide +kernel
theorem dX3_giftContent_20 : decode cX3_giftContent 20 = .ok (.getfield 12, 3) := by decide +kernel
theorem dX3_giftContent_23 : decode cX3_giftContent 23 = .ok (.getfield 59, 3) := by decide +kernel
theorem dX3_giftContent_26 : decode cX3_giftContent 26 = .ok (.iconst 1, 1) := by decide +kernel
theorem dX3_giftContent_27 : decode cX3_giftContent 27 = .ok (.iaload, 1) := by decide +kernel
theorem dX3_giftContent_28 : decode cX3_giftContent 28 = .ok (.invokevirtual 109, 3) := by decide +kernel
theorem dX3_giftContent_31 : decode cX3_giftContent 31 = .ok (.ifCond .eq 7, 3) := by decide +kernel
theorem dX3_giftContent_34 : decode cX3_giftContent 34 = .ok (.iconst 1, 1) := by decide +kernel
theorem dX3_giftContent_35 : decode cX3_giftContent 35 = .ok (.goto 4, 3) := by decide +kernel
theorem dX3_giftContent_38 : decode cX3_giftContent 38 = .ok (.iconst 0, 1) := by decide +kernel
theorem dX3_giftContent_39 : decode cX3_giftContent 39 = .ok (.ireturn, 1) := by decide +kernel
theorem dX3_helperContent_0 : decode cX3_helperContent 0 = .ok (.aload_n 0, 1) := by decide +kernel
theorem dX3_helperContent_1 : decode cX3_helperContent 1 = .ok (.getfield 12, 3) := by decide +kernel
theorem dX3_helperContent_4 : decode cX3_helperContent 4 = .ok (.getfield 59, 3) := by decide +kernel
theorem dX3_helperContent_7 : decode cX3_helperContent 7 = .ok (.iconst 2, 1) := by decide +kernel
theorem dX3_helperContent_8 : decode cX3_helperContent 8 = .ok (.iaload, 1) := by decide +kernel
theorem dX3_helperContent_9 : decode cX3_helperContent 9 = .ok (.istore_n 1, 1) := by decide +kernel
theorem dX3_helperContent_10 : decode cX3_helperContent 10 = .ok (.aload_n 0, 1) := by decide +kernel
theorem dX3_helperContent_11 : decode cX3_helperContent 11 = .ok (.iconst 2, 1) := by decide +kernel
theorem dX3_helperContent_12 : decode cX3_helperContent 12 = .ok (.invokevirtual 103, 3) := by decide +kernel
theorem dX3_helperContent_15 : decode cX3_helperContent 15 = .ok (.ifCond .eq 68, 3) := by decide +kernel
theorem dX3_helperContent_18 : decode cX3_helperContent 18 = .ok (.aload_n 0, 1) := by decide +kernel
theorem dX3_helperContent_19 : decode cX3_helperContent 19 = .ok (.bipush 10, 2) := by decide +kernel
theorem dX3_helperContent_21 : decode cX3_helperContent 21 = .ok (.iconst 1, 1) := by decide +kernel
theorem dX3_helperContent_22 : decode cX3_helperContent 22 = .ok (.sipush 240, 3) := by decide +kernel
theorem dX3_helperContent_25 : decode cX3_helperContent 25 = .ok (.aload_n 0, 1) := by decide +kernel
theorem dX3_helperContent_26 : decode cX3_helperContent 26 = .ok (.getfield 12, 3) := by decide +kernel
theorem dX3_helperContent_29 : decode cX3_helperContent 29 = .ok (.getfield 122, 3) := by decide +kernel
theorem dX3_helperContent_32 : decode cX3_helperContent 32 = .ok (.iload_n 1, 1) := by decide +kernel
theorem dX3_helperContent_33 : decode cX3_helperContent 33 = .ok (.invokevirtual 109, 3) := by decide +kernel
theorem dX3_helperContent_36 : decode cX3_helperContent 36 = .ok (.ifCond .eq 47, 3) := by decide +kernel
theorem dX3_helperContent_39 : decode cX3_helperContent 39 = .ok (.aload_n 0, 1) := by decide +kernel
theorem dX3_helperContent_40 : decode cX3_helperContent 40 = .ok (.bipush 11, 2) := by decide +kernel
theorem dX3_helperContent_42 : decode cX3_helperContent 42 = .ok (.iconst 0, 1) := by decide +kernel
theorem dX3_helperContent_43 : decode cX3_helperContent 43 = .ok (.bipush 9, 2) := by decide +kernel
theorem dX3_helperContent_45 : decode cX3_helperContent 45 = .ok (.aload_n 0, 1) := by decide +kernel
theorem dX3_helperContent_46 : decode cX3_helperContent 46 = .ok (.getfield 12, 3) := by decide +kernel
theorem dX3_helperContent_49 : decode cX3_helperContent 49 = .ok (.getfield 125, 3) := by decide +kernel
theorem dX3_helperContent_52 : decode cX3_helperContent 52 = .ok (.iload_n 1, 1) := by decide +kernel
theorem dX3_helperContent_53 : decode cX3_helperContent 53 = .ok (.invokevirtual 109, 3) := by decide +kernel
theorem dX3_helperContent_56 : decode cX3_helperContent 56 = .ok (.ifCond .eq 27, 3) := by decide +kernel
theorem dX3_helperContent_59 : decode cX3_helperContent 59 = .ok (.aload_n 0, 1) := by decide +kernel
theorem dX3_helperContent_60 : decode cX3_helperContent 60 = .ok (.bipush 12, 2) := by decide +kernel
theorem dX3_helperContent_62 : decode cX3_helperContent 62 = .ok (.iconst 0, 1) := by decide +kernel
theorem dX3_helperContent_63 : decode cX3_helperContent 63 = .ok (.bipush 10, 2) := by decide +kernel
theorem dX3_helperContent_65 : decode cX3_helperContent 65 = .ok (.aload_n 0, 1) := by decide +kernel
theorem dX3_helperContent_66 : decode cX3_helperContent 66 = .ok (.getfield 12, 3) := by decide +kernel
theorem dX3_helperContent_69 : decode cX3_helperContent 69 = .ok (.getfield 128, 3) := by decide +kernel
theorem dX3_helperContent_72 : decode cX3_helperContent 72 = .ok (.iload_n 1, 1) := by decide +kernel
theorem dX3_helperContent_73 : decode cX3_helperContent 73 = .ok (.invokevirtual 109, 3) := by decide +kernel
theorem dX3_helperContent_76 : decode cX3_helperContent 76 = .ok (.ifCond .eq 7, 3) := by decide +kernel
theorem dX3_helperContent_79 : decode cX3_helperContent 79 = .ok (.iconst 1, 1) := by decide +kernel
theorem dX3_helperContent_80 : decode cX3_helperContent 80 = .ok (.goto 4, 3) := by decide +kernel
theorem dX3_helperContent_83 : decode cX3_helperContent 83 = .ok (.iconst 0, 1) := by decide +kernel
theorem dX3_helperContent_84 : decode cX3_helperContent 84 = .ok (.ireturn, 1) := by decide +kernel
theorem dX3_nearContent_0 : decode cX3_nearContent 0 = .ok (.aload_n 0, 1) := by decide +kernel
theorem dX3_nearContent_1 : decode cX3_nearContent 1 = .ok (.iconst 0, 1) := by decide +kernel
theorem dX3_nearContent_2 : decode cX3_nearContent 2 = .ok (.invokevirtual 131, 3) := by decide +kernel
theorem dX3_nearContent_5 : decode cX3_nearContent 5 = .ok (.istore_n 1, 1) := by decide +kernel
theorem dX3_nearContent_6 : decode cX3_nearContent 6 = .ok (.iload_n 1, 1) := by decide +kernel
theorem dX3_nearContent_7 : decode cX3_nearContent 7 = .ok (.iconst (-1), 1) := by decide +kernel
theorem dX3_nearContent_8 : decode cX3_nearContent 8 = .ok (.if_icmp .ne 7, 3) := by decide +kernel
theorem dX3_nearContent_11 : decode cX3_nearContent 11 = .ok (.iconst (-1), 1) := by decide +kernel
theorem dX3_nearContent_12 : decode cX3_nearContent 12 = .ok (.goto 8, 3) := by decide +kernel
theorem dX3_nearContent_15 : decode cX3_nearContent 15 = .ok (.aload_n 0, 1) := by decide +kernel
theorem dX3_nearContent_16 : decode cX3_nearContent 16 = .ok (.iconst 0, 1) := by decide +kernel
theorem dX3_nearContent_17 : decode cX3_nearContent 17 = .ok (.invokevirtual 134, 3) := by decide +kernel
theorem dX3_nearContent_20 : decode cX3_nearContent 20 = .ok (.istore_n 2, 1) := by decide +kernel
theorem dX3_nearContent_21 : decode cX3_nearContent 21 = .ok (.iload_n 2, 1) := by decide +kernel
theorem dX3_nearContent_22 : decode cX3_nearContent 22 = .ok (.iconst (-1), 1) := by decide +kernel
theorem dX3_nearContent_23 : decode cX3_nearContent 23 = .ok (.if_icmp .ne 5, 3) := by decide +kernel
theorem dX3_nearContent_26 : decode cX3_nearContent 26 = .ok (.iconst 0, 1) := by decide +kernel
theorem dX3_nearContent_27 : decode cX3_nearContent 27 = .ok (.ireturn, 1) := by decide +kernel
theorem dX3_nearContent_28 : decode cX3_nearContent 28 = .ok (.iload_n 1, 1) := by decide +kernel
theorem dX3_nearContent_29 : decode cX3_nearContent 29 = .ok (.iload_n 2, 1) := by decide +kernel
theorem dX3_nearContent_30 : decode cX3_nearContent 30 = .ok (.if_icmp .eq 15, 3) := by decide +kernel
theorem dX3_nearContent_33 : decode cX3_nearContent 33 = .ok (.aload_n 0, 1) := by decide +kernel
theorem dX3_nearContent_34 : decode cX3_nearContent 34 = .ok (.getfield 12, 3) := by decide +kernel
theorem dX3_nearContent_37 : decode cX3_nearContent 37 = .ok (.iload_n 1, 1) := by decide +kernel
theorem dX3_nearContent_38 : decode cX3_nearContent 38 = .ok (.iload_n 2, 1) := by decide +kernel
theorem dX3_nearContent_39 : decode cX3_nearContent 39 = .ok (.invokevirtual 137, 3) := by decide +kernel
theorem dX3_nearContent_42 : decode cX3_nearContent 42 = .ok (.ifCond .eq 12, 3) := by decide +kernel
theorem dX3_nearContent_45 : decode cX3_nearContent 45 = .ok (.aload_n 0, 1) := by decide +kernel
theorem dX3_nearContent_46 : decode cX3_nearContent 46 = .ok (.getfield 18, 3) := by decide +kernel
theorem dX3_nearContent_49 : decode cX3_nearContent 49 = .ok (.iconst 3, 1) := by decide +kernel
theorem dX3_nearContent_50 : decode cX3_nearContent 50 = .ok (.invokevirtual 49, 3) := by decide +kernel
theorem dX3_nearContent_53 : decode cX3_nearContent 53 = .ok (.ireturn, 1) := by decide +kernel
theorem dX3_nearContent_54 : decode cX3_nearContent 54 = .ok (.aload_n 0, 1) := by decide +kernel
theorem dX3_nearContent_55 : decode cX3_nearContent 55 = .ok (.getfield 18, 3) := by decide +kernel
theorem dX3_nearContent_58 : decode cX3_nearContent 58 = .ok (.invokevirtual 66, 3) := by decide +kernel
theorem dX3_nearContent_61 : decode cX3_nearContent 61 = .ok (.aload_n 0, 1) := by decide +kernel
theorem dX3_nearContent_62 : decode cX3_nearContent 62 = .ok (.getfield 12, 3) := by decide +kernel
theorem dX3_nearContent_65 : decode cX3_nearContent 65 = .ok (.getfield 141, 3) := by decide +kernel
theorem dX3_nearContent_68 : decode cX3_nearContent 68 = .ok (.iload_n 1, 1) := by decide +kernel
theorem dX3_nearContent_69 : decode cX3_nearContent 69 = .ok (.dup2, 1) := by decide +kernel
theorem dX3_nearContent_70 : decode cX3_nearContent 70 = .ok (.iaload, 1) := by decide +kernel
theorem dX3_nearContent_71 : decode cX3_nearContent 71 = .ok (.iconst 1, 1) := by decide +kernel
theorem dX3_nearContent_72 : decode cX3_nearContent 72 = .ok (.iload_n 2, 1) := by decide +kernel
theorem dX3_nearContent_73 : decode cX3_nearContent 73 = .ok (.ishl, 1) := by decide +kernel
theorem dX3_nearContent_74 : decode cX3_nearContent 74 = .ok (.ior, 1) := by decide +kernel
theorem dX3_nearContent_75 : decode cX3_nearContent 75 = .ok (.iastore, 1) := by decide +kernel
theorem dX3_nearContent_76 : decode cX3_nearContent 76 = .ok (.aload_n 0, 1) := by decide +kernel
theorem dX3_nearContent_77 : decode cX3_nearContent 77 = .ok (.getfield 12, 3) := by decide +kernel
theorem dX3_nearContent_80 : decode cX3_nearContent 80 = .ok (.getfield 141, 3) := by decide +kernel
theorem dX3_nearContent_83 : decode cX3_nearContent 83 = .ok (.iload_n 2, 1) := by decide +kernel
theorem dX3_nearContent_84 : decode cX3_nearContent 84 = .ok (.dup2, 1) := by decide +kernel
theorem dX3_nearContent_85 : decode cX3_nearContent 85 = .ok (.iaload, 1) := by decide +kernel
theorem dX3_nearContent_86 : decode cX3_nearContent 86 = .ok (.iconst 1, 1) := by decide +kernel
theorem dX3_nearContent_87 : decode cX3_nearContent 87 = .ok (.iload_n 1, 1) := by decide +kernel
theorem dX3_nearContent_88 : decode cX3_nearContent 88 = .ok (.ishl, 1) := by decide +kernel
theorem dX3_nearContent_89 : decode cX3_nearContent 89 = .ok (.ior, 1) := by decide +kernel
theorem dX3_nearContent_90 : decode cX3_nearContent 90 = .ok (.iastore, 1) := by decide +kernel
theorem dX3_nearContent_91 : decode cX3_nearContent 91 = .ok (.iconst 1, 1) := by decide +kernel
theorem dX3_nearContent_92 : decode cX3_nearContent 92 = .ok (.ireturn, 1) := by decide +kernel
theorem dX3_likeContent_0 : decode cX3_likeContent 0 = .ok (.aload_n 0, 1) := by decide +kernel
theorem dX3_likeContent_1 : decode cX3_likeContent 1 = .ok (.iconst 0, 1) := by decide +kernel
theorem dX3_likeContent_2 : decode cX3_likeContent 2 = .ok (.invokevirtual 131, 3) := by decide +kernel
theorem dX3_likeContent_5 : decode cX3_likeContent 5 = .ok (.istore_n 1, 1) := by decide +kernel
theorem dX3_likeContent_6 : decode cX3_likeContent 6 = .ok (.iload_n 1, 1) := by decide +kernel
theorem dX3_likeContent_7 : decode cX3_likeContent 7 = .ok (.iconst (-1), 1) := by decide +kernel
theorem dX3_likeContent_8 : decode cX3_likeContent 8 = .ok (.if_icmp .ne 7, 3) := by decide +kernel
theorem dX3_likeContent_11 : decode cX3_likeContent 11 = .ok (.iconst (-1), 1) := by decide +kernel
theorem dX3_likeContent_12 : decode cX3_likeContent 12 = .ok (.goto 8, 3) := by decide +kernel
theorem dX3_likeContent_15 : decode cX3_likeContent 15 = .ok (.aload_n 0, 1) := by decide +kernel
theorem dX3_likeContent_16 : decode cX3_likeContent 16 = .ok (.iconst 0, 1) := by decide +kernel
theorem dX3_likeContent_17 : decode cX3_likeContent 17 = .ok (.invokevirtual 134, 3) := by decide +kernel
theorem dX3_likeContent_20 : decode cX3_likeContent 20 = .ok (.istore_n 2, 1) := by decide +kernel
theorem dX3_likeContent_21 : decode cX3_likeContent 21 = .ok (.iload_n 2, 1) := by decide +kernel
theorem dX3_likeContent_22 : decode cX3_likeContent 22 = .ok (.iconst (-1), 1) := by decide +kernel
theorem dX3_likeContent_23 : decode cX3_likeContent 23 = .ok (.if_icmp .ne 5, 3) := by decide +kernel
theorem dX3_likeContent_26 : decode cX3_likeContent 26 = .ok (.iconst 0, 1) := by decide +kernel
theorem dX3_likeContent_27 : decode cX3_likeContent 27 = .ok (.ireturn, 1) := by decide +kernel
theorem dX3_likeContent_28 : decode cX3_likeContent 28 = .ok (.iload_n 1, 1) := by decide +kernel
theorem dX3_likeContent_29 : decode cX3_likeContent 29 = .ok (.iload_n 2, 1) := by decide +kernel
theorem dX3_likeContent_30 : decode cX3_likeContent 30 = .ok (.if_icmp .eq 18, 3) := by decide +kernel
theorem dX3_likeContent_33 : decode cX3_likeContent 33 = .ok (.aload_n 0, 1) := by decide +kernel
theorem dX3_likeContent_34 : decode cX3_likeContent 34 = .ok (.getfield 12, 3) := by decide +kernel
theorem dX3_likeContent_37 : decode cX3_likeContent 37 = .ok (.getfield 144, 3) := by decide +kernel
theorem dX3_likeContent_40 : decode cX3_likeContent 40 = .ok (.iload_n 1, 1) := by decide +kernel
theorem dX3_likeContent_41 : decode cX3_likeContent 41 = .ok (.aaload, 1) := by decide +kernel
theorem dX3_likeContent_42 : decode cX3_likeContent 42 = .ok (.iload_n 2, 1) := by decide +kernel
theorem dX3_likeContent_43 : decode cX3_likeContent 43 = .ok (.iaload, 1) := by decide +kernel
theorem dX3_likeContent_44 : decode cX3_likeContent 44 = .ok (.iconst (-1), 1) := by decide +kernel
theorem dX3_likeContent_45 : decode cX3_likeContent 45 = .ok (.if_icmp .eq 12, 3) := by decide +kernel
theorem dX3_likeContent_48 : decode cX3_likeContent 48 = .ok (.aload_n 0, 1) := by decide +kernel
theorem dX3_likeContent_49 : decode cX3_likeContent 49 = .ok (.getfield 18, 3) := by decide +kernel
theorem dX3_likeContent_52 : decode cX3_likeContent 52 = .ok (.iconst 3, 1) := by decide +kernel
theorem dX3_likeContent_53 : decode cX3_likeContent 53 = .ok (.invokevirtual 49, 3) := by decide +kernel
theorem dX3_likeContent_56 : decode cX3_likeContent 56 = .ok (.ireturn, 1) := by decide +kernel
theorem dX3_likeContent_57 : decode cX3_likeContent 57 = .ok (.aload_n 0, 1) := by decide +kernel
theorem dX3_likeContent_58 : decode cX3_likeContent 58 = .ok (.getfield 18, 3) := by decide +kernel
theorem dX3_likeContent_61 : decode cX3_likeContent 61 = .ok (.invokevirtual 66, 3) := by decide +kernel
theorem dX3_likeContent_64 : decode cX3_likeContent 64 = .ok (.aload_n 0, 1) := by decide +kernel
theorem dX3_likeContent_65 : decode cX3_likeContent 65 = .ok (.getfield 18, 3) := by decide +kernel
theorem dX3_likeContent_68 : decode cX3_likeContent 68 = .ok (.iconst 0, 1) := by decide +kernel
theorem dX3_likeContent_69 : decode cX3_likeContent 69 = .ok (.bipush 10, 2) := by decide +kernel
theorem dX3_likeContent_71 : decode cX3_likeContent 71 = .ok (.invokevirtual 93, 3) := by decide +kernel
theorem dX3_likeContent_74 : decode cX3_likeContent 74 = .ok (.istore_n 3, 1) := by decide +kernel
theorem dX3_likeContent_75 : decode cX3_likeContent 75 = .ok (.aload_n 0, 1) := by decide +kernel
theorem dX3_likeContent_76 : decode cX3_likeContent 76 = .ok (.getfield 12, 3) := by decide +kernel
theorem dX3_likeContent_79 : decode cX3_likeContent 79 = .ok (.getfield 144, 3) := by decide +kernel
theorem dX3_likeContent_82 : decode cX3_likeContent 82 = .ok (.iload_n 1, 1) := by decide +kernel
theorem dX3_likeContent_83 : decode cX3_likeContent 83 = .ok (.aaload, 1) := by decide +kernel
theorem dX3_likeContent_84 : decode cX3_likeContent 84 = .ok (.iload_n 2, 1) := by decide +kernel
theorem dX3_likeContent_85 : decode cX3_likeContent 85 = .ok (.iload_n 3, 1) := by decide +kernel
theorem dX3_likeContent_86 : decode cX3_likeContent 86 = .ok (.iastore, 1) := by decide +kernel
theorem dX3_likeContent_87 : decode cX3_likeContent 87 = .ok (.aload_n 0, 1) := by decide +kernel
theorem dX3_likeContent_88 : decode cX3_likeContent 88 = .ok (.getfield 12, 3) := by decide +kernel
theorem dX3_likeContent_91 : decode cX3_likeContent 91 = .ok (.getfield 144, 3) := by decide +kernel
theorem dX3_likeContent_94 : decode cX3_likeContent 94 = .ok (.iload_n 2, 1) := by decide +kernel
theorem dX3_likeContent_95 : decode cX3_likeContent 95 = .ok (.aaload, 1) := by decide +kernel
theorem dX3_likeContent_96 : decode cX3_likeContent 96 = .ok (.iload_n 1, 1) := by decide +kernel
theorem dX3_likeContent_97 : decode cX3_likeContent 97 = .ok (.iload_n 3, 1) := by decide +kernel
theorem dX3_likeContent_98 : decode cX3_likeContent 98 = .ok (.iastore, 1) := by decide +kernel
theorem dX3_likeContent_99 : decode cX3_likeContent 99 = .ok (.iload_n 3, 1) := by decide +kernel
theorem dX3_likeContent_100 : decode cX3_likeContent 100 = .ok (.iconst (-1), 1) := by decide +kernel
theorem dX3_likeContent_101 : decode cX3_likeContent 101 = .ok (.if_icmp .eq 7, 3) := by decide +kernel
theorem dX3_likeContent_104 : decode cX3_likeContent 104 = .ok (.iconst 1, 1) := by decide +kernel
theorem dX3_likeContent_105 : decode cX3_likeContent 105 = .ok (.goto 4, 3) := by decide +kernel
theorem dX3_likeContent_108 : decode cX3_likeContent 108 = .ok (.iconst 0, 1) := by decide +kernel
theorem dX3_likeContent_109 : decode cX3_likeContent 109 = .ok (.ireturn, 1) := by decide +kernel
theorem dX3_wishContent_0 : decode cX3_wishContent 0 = .ok (.aload_n 0, 1) := by decide +kernel
theorem dX3_wishContent_1 : decode cX3_wishContent 1 = .ok (.iconst 0, 1) := by decide +kernel
theorem dX3_wishContent_2 : decode cX3_wishContent 2 = .ok (.invokevirtual 131, 3) := by decide +kernel
theorem dX3_wishContent_5 : decode cX3_wishContent 5 = .ok (.istore_n 1, 1) := by decide +kernel
theorem dX3_wishContent_6 : decode cX3_wishContent 6 = .ok (.iload_n 1, 1) := by decide +kernel
theorem dX3_wishContent_7 : decode cX3_wishContent 7 = .ok (.iconst (-1), 1) := by decide +kernel
theorem dX3_wishContent_8 : decode cX3_wishContent 8 = .ok (.if_icmp .ne 7, 3) := by decide +kernel
theorem dX3_wishContent_11 : decode cX3_wishContent 11 = .ok (.iconst (-1), 1) := by decide +kernel
theorem dX3_wishContent_12 : decode cX3_wishContent 12 = .ok (.goto 8, 3) := by decide +kernel
theorem dX3_wishContent_15 : decode cX3_wishContent 15 = .ok (.aload_n 0, 1) := by decide +kernel
theorem dX3_wishContent_16 : decode cX3_wishContent 16 = .ok (.iconst 1, 1) := by decide +kernel
theorem dX3_wishContent_17 : decode cX3_wishContent 17 = .ok (.invokevirtual 131, 3) := by decide +kernel
theorem dX3_wishContent_20 : decode cX3_wishContent 20 = .ok (.istore_n 2, 1) := by decide +kernel
theorem dX3_wishContent_21 : decode cX3_wishContent 21 = .ok (.iload_n 2, 1) := by decide +kernel
theorem dX3_wishContent_22 : decode cX3_wishContent 22 = .ok (.iconst (-1), 1) := by decide +kernel
theorem dX3_wishContent_23 : decode cX3_wishContent 23 = .ok (.if_icmp .ne 7, 3) := by decide +kernel
theorem dX3_wishContent_26 : decode cX3_wishContent 26 = .ok (.iconst (-1), 1) := by decide +kernel
theorem dX3_wishContent_27 : decode cX3_wishContent 27 = .ok (.goto 13, 3) := by decide +kernel
theorem dX3_wishContent_30 : decode cX3_wishContent 30 = .ok (.aload_n 0, 1) := by decide +kernel
theorem dX3_wishContent_31 : decode cX3_wishContent 31 = .ok (.getfield 18, 3) := by decide +kernel
theorem dX3_wishContent_34 : decode cX3_wishContent 34 = .ok (.iconst 1, 1) := by decide +kernel
theorem dX3_wishContent_35 : decode cX3_wishContent 35 = .ok (.bipush 9, 2) := by decide +kernel
theorem dX3_wishContent_37 : decode cX3_wishContent 37 = .ok (.invokevirtual 93, 3) := by decide +kernel
theorem dX3_wishContent_40 : decode cX3_wishContent 40 = .ok (.istore_n 3, 1) := by decide +kernel
theorem dX3_wishContent_41 : decode cX3_wishContent 41 = .ok (.iload_n 3, 1) := by decide +kernel
theorem dX3_wishContent_42 : decode cX3_wishContent 42 = .ok (.iconst (-1), 1) := by decide +kernel
theorem dX3_wishContent_43 : decode cX3_wishContent 43 = .ok (.if_icmp .ne 5, 3) := by decide +kernel
theorem dX3_wishContent_46 : decode cX3_wishContent 46 = .ok (.iconst 0, 1) := by decide +kernel
theorem dX3_wishContent_47 : decode cX3_wishContent 47 = .ok (.ireturn, 1) := by decide +kernel
theorem dX3_wishContent_48 : decode cX3_wishContent 48 = .ok (.aload_n 0, 1) := by decide +kernel
theorem dX3_wishContent_49 : decode cX3_wishContent 49 = .ok (.getfield 12, 3) := by decide +kernel
theorem dX3_wishContent_52 : decode cX3_wishContent 52 = .ok (.getfield 148, 3) := by decide +kernel
theorem dX3_wishContent_55 : decode cX3_wishContent 55 = .ok (.iload_n 1, 1) := by decide +kernel
theorem dX3_wishContent_56 : decode cX3_wishContent 56 = .ok (.aaload, 1) := by decide +kernel
theorem dX3_wishContent_57 : decode cX3_wishContent 57 = .ok (.iload_n 2, 1) := by decide +kernel
theorem dX3_wishContent_58 : decode cX3_wishContent 58 = .ok (.iload_n 3, 1) := by decide +kernel
theorem dX3_wishContent_59 : decode cX3_wishContent 59 = .ok (.iastore, 1) := by decide +kernel
theorem dX3_wishContent_60 : decode cX3_wishContent 60 = .ok (.iconst 1, 1) := by decide +kernel
theorem dX3_wishContent_61 : decode cX3_wishContent 61 = .ok (.ireturn, 1) := by decide +kernel
theorem dX3_newName_0 : decode cX3_newName 0 = .ok (.aload_n 0, 1) := by decide +kernel
theorem dX3_newName_1 : decode cX3_newName 1 = .ok (.getfield 18, 3) := by decide +kernel
theorem dX3_newName_4 : decode cX3_newName 4 = .ok (.invokevirtual 151, 3) := by decide +kernel
theorem dX3_newName_7 : decode cX3_newName 7 = .ok (.istore_n 2, 1) := by decide +kernel
theorem dX3_newName_8 : decode cX3_newName 8 = .ok (.iload_n 2, 1) := by decide +kernel
theorem dX3_newName_9 : decode cX3_newName 9 = .ok (.iconst (-1), 1) := by decide +kernel
theorem dX3_newName_10 : decode cX3_newName 10 = .ok (.if_icmp .ne 5, 3) := by decide +kernel
theorem dX3_newName_13 : decode cX3_newName 13 = .ok (.iconst 0, 1) := by decide +kernel
theorem dX3_newName_14 : decode cX3_newName 14 = .ok (.ireturn, 1) := by decide +kernel
theorem dX3_newName_15 : decode cX3_newName 15 = .ok (.iconst 0, 1) := by decide +kernel
theorem dX3_newName_16 : decode cX3_newName 16 = .ok (.istore_n 3, 1) := by decide +kernel
theorem dX3_newName_17 : decode cX3_newName 17 = .ok (.iload_n 3, 1) := by decide +kernel
theorem dX3_newName_18 : decode cX3_newName 18 = .ok (.iconst 3, 1) := by decide +kernel
theorem dX3_newName_19 : decode cX3_newName 19 = .ok (.if_icmp .ge 31, 3) := by decide +kernel
theorem dX3_newName_22 : decode cX3_newName 22 = .ok (.aload_n 0, 1) := by decide +kernel
theorem dX3_newName_23 : decode cX3_newName 23 = .ok (.getfield 12, 3) := by decide +kernel
theorem dX3_newName_26 : decode cX3_newName 26 = .ok (.iload_n 3, 1) := by decide +kernel
theorem dX3_newName_27 : decode cX3_newName 27 = .ok (.iload_n 2, 1) := by decide +kernel
theorem dX3_newName_28 : decode cX3_newName 28 = .ok (.invokevirtual 155, 3) := by decide +kernel
theorem dX3_newName_31 : decode cX3_newName 31 = .ok (.iconst (-1), 1) := by decide +kernel
theorem dX3_newName_32 : decode cX3_newName 32 = .ok (.if_icmp .eq 12, 3) := by decide +kernel
theorem dX3_newName_35 : decode cX3_newName 35 = .ok (.aload_n 0, 1) := by decide +kernel
theorem dX3_newName_36 : decode cX3_newName 36 = .ok (.getfield 18, 3) := by decide +kernel
theorem dX3_newName_39 : decode cX3_newName 39 = .ok (.iconst 3, 1) := by decide +kernel
theorem dX3_newName_40 : decode cX3_newName 40 = .ok (.invokevirtual 49, 3) := by decide +kernel
theorem dX3_newName_43 : decode cX3_newName 43 = .ok (.ireturn, 1) := by decide +kernel
theorem dX3_newName_44 : decode cX3_newName 44 = .ok (.iinc 3 1, 3) := by decide +kernel
theorem dX3_newName_47 : decode cX3_newName 47 = .ok (.goto (-30), 3) := by decide +kernel
theorem dX3_newName_50 : decode cX3_newName 50 = .ok (.aload_n 0, 1) := by decide +kernel
theorem dX3_newName_51 : decode cX3_newName 51 = .ok (.getfield 12, 3) := by decide +kernel
theorem dX3_newName_54 : decode cX3_newName 54 = .ok (.getfield 158, 3) := by decide +kernel
theorem dX3_newName_57 : decode cX3_newName 57 = .ok (.iload_n 1, 1) := by decide +kernel
theorem dX3_newName_58 : decode cX3_newName 58 = .ok (.aaload, 1) := by decide +kernel
theorem dX3_newName_59 : decode cX3_newName 59 = .ok (.aload_n 0, 1) := by decide +kernel
theorem dX3_newName_60 : decode cX3_newName 60 = .ok (.getfield 12, 3) := by decide +kernel
theorem dX3_newName_63 : decode cX3_newName 63 = .ok (.getfield 59, 3) := by decide +kernel
theorem dX3_newName_66 : decode cX3_newName 66 = .ok (.iload_n 1, 1) := by decide +kernel
theorem dX3_newName_67 : decode cX3_newName 67 = .ok (.iaload, 1) := by decide +kernel
theorem dX3_newName_68 : decode cX3_newName 68 = .ok (.iload_n 2, 1) := by decide +kernel
theorem dX3_newName_69 : decode cX3_newName 69 = .ok (.iastore, 1) := by decide +kernel
theorem dX3_newName_70 : decode cX3_newName 70 = .ok (.aload_n 0, 1) := by decide +kernel
theorem dX3_newName_71 : decode cX3_newName 71 = .ok (.getfield 18, 3) := by decide +kernel
theorem dX3_newName_74 : decode cX3_newName 74 = .ok (.invokevirtual 66, 3) := by decide +kernel
theorem dX3_newName_77 : decode cX3_newName 77 = .ok (.iconst 1, 1) := by decide +kernel
theorem dX3_newName_78 : decode cX3_newName 78 = .ok (.ireturn, 1) := by decide +kernel
theorem dX3_knownHere_0 : decode cX3_knownHere 0 = .ok (.aload_n 0, 1) := by decide +kernel
theorem dX3_knownHere_1 : decode cX3_knownHere 1 = .ok (.getfield 18, 3) := by decide +kernel
theorem dX3_knownHere_4 : decode cX3_knownHere 4 = .ok (.invokevirtual 151, 3) := by decide +kernel
theorem dX3_knownHere_7 : decode cX3_knownHere 7 = .ok (.istore_n 2, 1) := by decide +kernel
theorem dX3_knownHere_8 : decode cX3_knownHere 8 = .ok (.iload_n 2, 1) := by decide +kernel
theorem dX3_knownHere_9 : decode cX3_knownHere 9 = .ok (.iconst (-1), 1) := by decide +kernel
theorem dX3_knownHere_10 : decode cX3_knownHere 10 = .ok (.if_icmp .ne 5, 3) := by decide +kernel
theorem dX3_knownHere_13 : decode cX3_knownHere 13 = .ok (.iconst (-1), 1) := by decide +kernel
theorem dX3_knownHere_14 : decode cX3_knownHere 14 = .ok (.ireturn, 1) := by decide +kernel
theorem dX3_knownHere_15 : decode cX3_knownHere 15 = .ok (.aload_n 0, 1) := by decide +kernel
theorem dX3_knownHere_16 : decode cX3_knownHere 16 = .ok (.getfield 12, 3) := by decide +kernel
theorem dX3_knownHere_19 : decode cX3_knownHere 19 = .ok (.iload_n 1, 1) := by decide +kernel
theorem dX3_knownHere_20 : decode cX3_knownHere 20 = .ok (.iload_n 2, 1) := by decide +kernel
theorem dX3_knownHere_21 : decode cX3_knownHere 21 = .ok (.invokevirtual 155, 3) := by decide +kernel
theorem dX3_knownHere_24 : decode cX3_knownHere 24 = .ok (.istore_n 3, 1) := by decide +kernel
theorem dX3_knownHere_25 : decode cX3_knownHere 25 = .ok (.iload_n 3, 1) := by decide +kernel
theorem dX3_knownHere_26 : decode cX3_knownHere 26 = .ok (.iconst (-1), 1) := by decide +kernel
theorem dX3_knownHere_27 : decode cX3_knownHere 27 = .ok (.if_icmp .ne 12, 3) := by decide +kernel
theorem dX3_knownHere_30 : decode cX3_knownHere 30 = .ok (.aload_n 0, 1) := by decide +kernel
theorem dX3_knownHere_31 : decode cX3_knownHere 31 = .ok (.getfield 18, 3) := by decide +kernel
theorem dX3_knownHere_34 : decode cX3_knownHere 34 = .ok (.iconst 3, 1) := by decide +kernel
theorem dX3_knownHere_35 : decode cX3_knownHere 35 = .ok (.invokevirtual 49, 3) := by decide +kernel
theorem dX3_knownHere_38 : decode cX3_knownHere 38 = .ok (.pop, 1) := by decide +kernel
theorem dX3_knownHere_39 : decode cX3_knownHere 39 = .ok (.iload_n 3, 1) := by decide +kernel
theorem dX3_knownHere_40 : decode cX3_knownHere 40 = .ok (.ireturn, 1) := by decide +kernel
theorem dX3_takeName_0 : decode cX3_takeName 0 = .ok (.aload_n 0, 1) := by decide +kernel
theorem dX3_takeName_1 : decode cX3_takeName 1 = .ok (.iload_n 1, 1) := by decide +kernel
theorem dX3_takeName_2 : decode cX3_takeName 2 = .ok (.invokevirtual 134, 3) := by decide +kernel
theorem dX3_takeName_5 : decode cX3_takeName 5 = .ok (.istore_n 2, 1) := by decide +kernel
theorem dX3_takeName_6 : decode cX3_takeName 6 = .ok (.iload_n 2, 1) := by decide +kernel
theorem dX3_takeName_7 : decode cX3_takeName 7 = .ok (.iconst (-1), 1) := by decide +kernel
theorem dX3_takeName_8 : decode cX3_takeName 8 = .ok (.if_icmp .eq 10, 3) := by decide +kernel
theorem dX3_takeName_11 : decode cX3_takeName 11 = .ok (.aload_n 0, 1) := by decide +kernel
theorem dX3_takeName_12 : decode cX3_takeName 12 = .ok (.getfield 18, 3) := by decide +kernel
theorem dX3_takeName_15 : decode cX3_takeName 15 = .ok (.invokevirtual 66, 3) := by decide +kernel
theorem dX3_takeName_18 : decode cX3_takeName 18 = .ok (.iload_n 2, 1) := by decide +kernel
theorem dX3_takeName_19 : decode cX3_takeName 19 = .ok (.ireturn, 1) := by decide +kernel
theorem dX3_measure_0 : decode cX3_measure 0 = .ok (.aload_n 0, 1) := by decide +kernel
theorem dX3_measure_1 : decode cX3_measure 1 = .ok (.getfield 18, 3) := by decide +kernel
theorem dX3_measure_4 : decode cX3_measure 4 = .ok (.getfield 52, 3) := by decide +kernel
theorem dX3_measure_7 : decode cX3_measure 7 = .ok (.iload_n 1, 1) := by decide +kernel
theorem dX3_measure_8 : decode cX3_measure 8 = .ok (.if_icmp .eq 12, 3) := by decide +kernel
theorem dX3_measure_11 : decode cX3_measure 11 = .ok (.aload_n 0, 1) := by decide +kernel
theorem dX3_measure_12 : decode cX3_measure 12 = .ok (.getfield 18, 3) := by decide +kernel
theorem dX3_measure_15 : decode cX3_measure 15 = .ok (.iconst 1, 1) := by decide +kernel
theorem dX3_measure_16 : decode cX3_measure 16 = .ok (.invokevirtual 49, 3) := by decide +kernel
theorem dX3_measure_19 : decode cX3_measure 19 = .ok (.ireturn, 1) := by decide +kernel
theorem dX3_measure_20 : decode cX3_measure 20 = .ok (.aload_n 0, 1) := by decide +kernel
theorem dX3_measure_21 : decode cX3_measure 21 = .ok (.getfield 18, 3) := by decide +kernel
theorem dX3_measure_24 : decode cX3_measure 24 = .ok (.invokevirtual 66, 3) := by decide +kernel
theorem dX3_measure_27 : decode cX3_measure 27 = .ok (.aload 4, 2) := by decide +kernel
theorem dX3_measure_29 : decode cX3_measure 29 = .ok (.iload 5, 2) := by decide +kernel
theorem dX3_measure_31 : decode cX3_measure 31 = .ok (.aload_n 0, 1) := by decide +kernel
theorem dX3_measure_32 : decode cX3_measure 32 = .ok (.getfield 18, 3) := by decide +kernel
theorem dX3_measure_35 : decode cX3_measure 35 = .ok (.iload_n 2, 1) := by decide +kernel
theorem dX3_measure_36 : decode cX3_measure 36 = .ok (.iload_n 3, 1) := by decide +kernel
theorem dX3_measure_37 : decode cX3_measure 37 = .ok (.invokevirtual 93, 3) := by decide +kernel
theorem dX3_measure_40 : decode cX3_measure 40 = .ok (.iastore, 1) := by decide +kernel
theorem dX3_measure_41 : decode cX3_measure 41 = .ok (.aload 4, 2) := by decide +kernel
theorem dX3_measure_43 : decode cX3_measure 43 = .ok (.iload 5, 2) := by decide +kernel
theorem dX3_measure_45 : decode cX3_measure 45 = .ok (.iaload, 1) := by decide +kernel
theorem dX3_measure_46 : decode cX3_measure 46 = .ok (.iconst (-1), 1) := by decide +kernel
theorem dX3_measure_47 : decode cX3_measure 47 = .ok (.if_icmp .eq 7, 3) := by decide +kernel
theorem dX3_measure_50 : decode cX3_measure 50 = .ok (.iconst 1, 1) := by decide +kernel
theorem dX3_measure_51 : decode cX3_measure 51 = .ok (.goto 4, 3) := by decide +kernel
theorem dX3_measure_54 : decode cX3_measure 54 = .ok (.iconst 0, 1) := by decide +kernel
theorem dX3_measure_55 : decode cX3_measure 55 = .ok (.ireturn, 1) := by decide +kernel
theorem dX5_read_0 : decode cX5_read 0 = .ok (.aload_n 0, 1) := by decide +kernel
theorem dX5_read_1 : decode cX5_read 1 = .ok (.getfield 9, 3) := by decide +kernel
theorem dX5_read_4 : decode cX5_read 4 = .ok (.invokevirtual 19, 3) := by decide +kernel
theorem dX5_read_7 : decode cX5_read 7 = .ok (.aload_n 0, 1) := by decide +kernel
theorem dX5_read_8 : decode cX5_read 8 = .ok (.aload_n 0, 1) := by decide +kernel
theorem dX5_read_9 : decode cX5_read 9 = .ok (.getfield 9, 3) := by decide +kernel
theorem dX5_read_12 : decode cX5_read 12 = .ok (.getfield 24, 3) := by decide +kernel
theorem dX5_read_15 : decode cX5_read 15 = .ok (.putfield 28, 3) := by decide +kernel
theorem dX5_read_18 : decode cX5_read 18 = .ok (.aload_n 0, 1) := by decide +kernel
theorem dX5_read_19 : decode cX5_read 19 = .ok (.getfield 28, 3) := by decide +kernel
theorem dX5_read_22 : decode cX5_read 22 = .ok (.bipush 28, 2) := by decide +kernel
theorem dX5_read_24 : decode cX5_read 24 = .ok (.if_icmp .ge 12, 3) := by decide +kernel
theorem dX5_read_27 : decode cX5_read 27 = .ok (.aload_n 0, 1) := by decide +kernel
theorem dX5_read_28 : decode cX5_read 28 = .ok (.getfield 9, 3) := by decide +kernel
theorem dX5_read_31 : decode cX5_read 31 = .ok (.iconst 1, 1) := by decide +kernel
theorem dX5_read_32 : decode cX5_read 32 = .ok (.invokevirtual 31, 3) := by decide +kernel
theorem dX5_read_35 : decode cX5_read 35 = .ok (.ireturn, 1) := by decide +kernel
theorem dX5_read_36 : decode cX5_read 36 = .ok (.aload_n 0, 1) := by decide +kernel
theorem dX5_read_37 : decode cX5_read 37 = .ok (.getfield 9, 3) := by decide +kernel
theorem dX5_read_40 : decode cX5_read 40 = .ok (.invokevirtual 35, 3) := by decide +kernel
theorem dX5_read_43 : decode cX5_read 43 = .ok (.aload_n 0, 1) := by decide +kernel
theorem dX5_read_44 : decode cX5_read 44 = .ok (.getfield 28, 3) := by decide +kernel
theorem dX5_read_47 : decode cX5_read 47 = .ok (.bipush 31, 2) := by decide +kernel
theorem dX5_read_49 : decode cX5_read 49 = .ok (.if_icmp .ge 13, 3) := by decide +kernel
theorem dX5_read_52 : decode cX5_read 52 = .ok (.aload_n 0, 1) := by decide +kernel
theorem dX5_read_53 : decode cX5_read 53 = .ok (.getfield 15, 3) := by decide +kernel
theorem dX5_read_56 : decode cX5_read 56 = .ok (.invokevirtual 38, 3) := by decide +kernel
theorem dX5_read_59 : decode cX5_read 59 = .ok (.goto 10, 3) := by decide +kernel
theorem dX5_read_62 : decode cX5_read 62 = .ok (.aload_n 0, 1) := by decide +kernel
theorem dX5_read_63 : decode cX5_read 63 = .ok (.getfield 15, 3) := by decide +kernel
theorem dX5_read_66 : decode cX5_read 66 = .ok (.invokevirtual 44, 3) := by decide +kernel
theorem dX5_read_69 : decode cX5_read 69 = .ok (.istore_n 1, 1) := by decide +kernel
theorem dX5_read_70 : decode cX5_read 70 = .ok (.iload_n 1, 1) := by decide +kernel
theorem dX5_read_71 : decode cX5_read 71 = .ok (.ifCond .ne 5, 3) := by decide +kernel
theorem dX5_read_74 : decode cX5_read 74 = .ok (.iconst 0, 1) := by decide +kernel
theorem dX5_read_75 : decode cX5_read 75 = .ok (.ireturn, 1) := by decide +kernel
theorem dX5_read_76 : decode cX5_read 76 = .ok (.aload_n 0, 1) := by decide +kernel
theorem dX5_read_77 : decode cX5_read 77 = .ok (.getfield 9, 3) := by decide +kernel
theorem dX5_read_80 : decode cX5_read 80 = .ok (.getfield 47, 3) := by decide +kernel
theorem dX5_read_83 : decode cX5_read 83 = .ok (.ifCond .eq 14, 3) := by decide +kernel
theorem dX5_read_86 : decode cX5_read 86 = .ok (.aload_n 0, 1) := by decide +kernel
theorem dX5_read_87 : decode cX5_read 87 = .ok (.getfield 9, 3) := by decide +kernel
theorem dX5_read_90 : decode cX5_read 90 = .ok (.iconst 1, 1) := by decide +kernel
theorem dX5_read_91 : decode cX5_read 91 = .ok (.invokevirtual 31, 3) := by decide +kernel
theorem dX5_read_94 : decode cX5_read 94 = .ok (.ifCond .eq 7, 3) := by decide +kernel
theorem dX5_read_97 : decode cX5_read 97 = .ok (.iconst 1, 1) := by decide +kernel
theorem dX5_read_98 : decode cX5_read 98 = .ok (.goto 4, 3) := by decide +kernel
theorem dX5_read_101 : decode cX5_read 101 = .ok (.iconst 0, 1) := by decide +kernel
theorem dX5_read_102 : decode cX5_read 102 = .ok (.ireturn, 1) := by decide +kernel
theorem dX5_over_0 : decode cX5_over 0 = .ok (.aload_n 0, 1) := by decide +kernel
theorem dX5_over_1 : decode cX5_over 1 = .ok (.getfield 28, 3) := by decide +kernel
theorem dX5_over_4 : decode cX5_over 4 = .ok (.bipush 28, 2) := by decide +kernel
theorem dX5_over_6 : decode cX5_over 6 = .ok (.if_icmp .eq 12, 3) := by decide +kernel
theorem dX5_over_9 : decode cX5_over 9 = .ok (.aload_n 0, 1) := by decide +kernel
theorem dX5_over_10 : decode cX5_over 10 = .ok (.getfield 28, 3) := by decide +kernel
theorem dX5_over_13 : decode cX5_over 13 = .ok (.bipush 29, 2) := by decide +kernel
theorem dX5_over_15 : decode cX5_over 15 = .ok (.if_icmp .ne 9, 3) := by decide +kernel
theorem dX5_over_18 : decode cX5_over 18 = .ok (.ldc2_w 50, 3) := by decide +kernel
theorem dX5_over_21 : decode cX5_over 21 = .ok (.goto 4, 3) := by decide +kernel
theorem dX5_over_24 : decode cX5_over 24 = .ok (.lconst 0, 1) := by decide +kernel
theorem dX5_over_25 : decode cX5_over 25 = .ok (.lstore 4, 2) := by decide +kernel
theorem dX5_over_27 : decode cX5_over 27 = .ok (.iconst 0, 1) := by decide +kernel
theorem dX5_over_28 : decode cX5_over 28 = .ok (.istore 6, 2) := by decide +kernel
theorem dX5_over_30 : decode cX5_over 30 = .ok (.iload 6, 2) := by decide +kernel
theorem dX5_over_32 : decode cX5_over 32 = .ok (.aload_n 1, 1) := by decide +kernel
theorem dX5_over_33 : decode cX5_over 33 = .ok (.getfield 52, 3) := by decide +kernel
theorem dX5_over_36 : decode cX5_over 36 = .ok (.iconst 0, 1) := by decide +kernel
theorem dX5_over_37 : decode cX5_over 37 = .ok (.iaload, 1) := by decide +kernel
theorem dX5_over_38 : decode cX5_over 38 = .ok (.if_icmp .ge 76, 3) := by decide +kernel
theorem dX5_over_41 : decode cX5_over 41 = .ok (.aload_n 3, 1) := by decide +kernel
theorem dX5_over_42 : decode cX5_over 42 = .ok (.aload_n 1, 1) := by decide +kernel
theorem dX5_over_43 : decode cX5_over 43 = .ok (.aload_n 2, 1) := by decide +kernel
theorem dX5_over_44 : decode cX5_over 44 = .ok (.iload 6, 2) := by decide +kernel
theorem dX5_over_46 : decode cX5_over 46 = .ok (.aload_n 0, 1) := by decide +kernel
theorem dX5_over_47 : decode cX5_over 47 = .ok (.getfield 15, 3) := by decide +kernel
theorem dX5_over_50 : decode cX5_over 50 = .ok (.getfield 58, 3) := by decide +kernel
theorem dX5_over_53 : decode cX5_over 53 = .ok (.invokevirtual 62, 3) := by decide +kernel
theorem dX5_over_56 : decode cX5_over 56 = .ok (.istore 7, 2) := by decide +kernel
theorem dX5_over_58 : decode cX5_over 58 = .ok (.aload_n 0, 1) := by decide +kernel
theorem dX5_over_59 : decode cX5_over 59 = .ok (.getfield 28, 3) := by decide +kernel
theorem dX5_over_62 : decode cX5_over 62 = .ok (.bipush 28, 2) := by decide +kernel
theorem dX5_over_64 : decode cX5_over 64 = .ok (.if_icmp .ne 12, 3) := by decide +kernel
theorem dX5_over_67 : decode cX5_over 67 = .ok (.iload 7, 2) := by decide +kernel
theorem dX5_over_69 : decode cX5_over 69 = .ok (.ifCond .eq 7, 3) := by decide +kernel
theorem dX5_over_72 : decode cX5_over 72 = .ok (.iload 6, 2) := by decide +kernel
theorem dX5_over_74 : decode cX5_over 74 = .ok (.i2l, 1) := by decide +kernel
theorem dX5_over_75 : decode cX5_over 75 = .ok (.lreturn, 1) := by decide +kernel
theorem dX5_over_76 : decode cX5_over 76 = .ok (.iload 6, 2) := by decide +kernel
theorem dX5_over_78 : decode cX5_over 78 = .ok (.ifCond .ne 18, 3) := by decide +kernel
theorem dX5_over_81 : decode cX5_over 81 = .ok (.aload_n 0, 1) := by decide +kernel
theorem dX5_over_82 : decode cX5_over 82 = .ok (.getfield 28, 3) := by decide +kernel
theorem dX5_over_85 : decode cX5_over 85 = .ok (.bipush 32, 2) := by decide +kernel
theorem dX5_over_87 : decode cX5_over 87 = .ok (.if_icmp .lt 9, 3) := by decide +kernel
theorem dX5_over_90 : decode cX5_over 90 = .ok (.iload 7, 2) := by decide +kernel
theorem dX5_over_92 : decode cX5_over 92 = .ok (.i2l, 1) := by decide +kernel
theorem dX5_over_93 : decode cX5_over 93 = .ok (.goto 13, 3) := by decide +kernel
theorem dX5_over_96 : decode cX5_over 96 = .ok (.aload_n 0, 1) := by decide +kernel
theorem dX5_over_97 : decode cX5_over 97 = .ok (.lload 4, 2) := by decide +kernel
theorem dX5_over_99 : decode cX5_over 99 = .ok (.iload 6, 2) := by decide +kernel
theorem dX5_over_101 : decode cX5_over 101 = .ok (.iload 7, 2) := by decide +kernel
theorem dX5_over_103 : decode cX5_over 103 = .ok (.invokevirtual 68, 3) := by decide +kernel
theorem dX5_over_106 : decode cX5_over 106 = .ok (.lstore 4, 2) := by decide +kernel
theorem dX5_over_108 : decode cX5_over 108 = .ok (.iinc 6 1, 3) := by decide +kernel
theorem dX5_over_111 : decode cX5_over 111 = .ok (.goto (-81), 3) := by decide +kernel
theorem dX5_over_114 : decode cX5_over 114 = .ok (.lload 4, 2) := by decide +kernel
theorem dX5_over_116 : decode cX5_over 116 = .ok (.lreturn, 1) := by decide +kernel
theorem dX5_with_0 : decode cX5_with 0 = .ok (.aload_n 0, 1) := by decide +kernel
theorem dX5_with_1 : decode cX5_with 1 = .ok (.getfield 28, 3) := by decide +kernel
theorem dX5_with_4 : decode cX5_with 4 = .ok (.tableswitch 70 29 33 #[36, 48, 48, 54, 62], 36) := by decide +kernel
theorem dX5_with_40 : decode cX5_with 40 = .ok (.iload 4, 2) := by decide +kernel
theorem dX5_with_42 : decode cX5_with 42 = .ok (.ifCond .eq 8, 3) := by decide +kernel
theorem dX5_with_45 : decode cX5_with 45 = .ok (.iload_n 3, 1) := by decide +kernel
theorem dX5_with_46 : decode cX5_with 46 = .ok (.i2l, 1) := by decide +kernel
theorem dX5_with_47 : decode cX5_with 47 = .ok (.goto 4, 3) := by decide +kernel
theorem dX5_with_50 : decode cX5_with 50 = .ok (.lload_n 1, 1) := by decide +kernel
theorem dX5_with_51 : decode cX5_with 51 = .ok (.lreturn, 1) := by decide +kernel
theorem dX5_with_52 : decode cX5_with 52 = .ok (.lload_n 1, 1) := by decide +kernel
theorem dX5_with_53 : decode cX5_with 53 = .ok (.iload 4, 2) := by decide +kernel
theorem dX5_with_55 : decode cX5_with 55 = .ok (.i2l, 1) := by decide +kernel
theorem dX5_with_56 : decode cX5_with 56 = .ok (.ladd, 1) := by decide +kernel
theorem dX5_with_57 : decode cX5_with 57 = .ok (.lreturn, 1) := by decide +kernel
theorem dX5_with_58 : decode cX5_with 58 = .ok (.lload_n 1, 1) := by decide +kernel
theorem dX5_with_59 : decode cX5_with 59 = .ok (.iload 4, 2) := by decide +kernel
theorem dX5_with_61 : decode cX5_with 61 = .ok (.i2l, 1) := by decide +kernel
theorem dX5_with_62 : decode cX5_with 62 = .ok (.invokestatic 72, 3) := by decide +kernel
theorem dX5_with_65 : decode cX5_with 65 = .ok (.lreturn, 1) := by decide +kernel
theorem dX5_with_66 : decode cX5_with 66 = .ok (.lload_n 1, 1) := by decide +kernel
theorem dX5_with_67 : decode cX5_with 67 = .ok (.iload 4, 2) := by decide +kernel
theorem dX5_with_69 : decode cX5_with 69 = .ok (.i2l, 1) := by decide +kernel
theorem dX5_with_70 : decode cX5_with 70 = .ok (.invokestatic 78, 3) := by decide +kernel
theorem dX5_with_73 : decode cX5_with 73 = .ok (.lreturn, 1) := by decide +kernel
theorem dX5_with_74 : decode cX5_with 74 = .ok (.lload_n 1, 1) := by decide +kernel
theorem dX5_with_75 : decode cX5_with 75 = .ok (.lreturn, 1) := by decide +kernel
theorem dX1_plan_0 : decode cX1_plan 0 = .ok (.iconst 0, 1) := by decide +kernel
theorem dX1_plan_1 : decode cX1_plan 1 = .ok (.istore_n 3, 1) := by decide +kernel
theorem dX1_plan_2 : decode cX1_plan 2 = .ok (.iconst 0, 1) := by decide +kernel
theorem dX1_plan_3 : decode cX1_plan 3 = .ok (.istore 4, 2) := by decide +kernel
theorem dX1_plan_5 : decode cX1_plan 5 = .ok (.iload 4, 2) := by decide +kernel
theorem dX1_plan_7 : decode cX1_plan 7 = .ok (.aload_n 1, 1) := by decide +kernel
theorem dX1_plan_8 : decode cX1_plan 8 = .ok (.getfield 39, 3) := by decide +kernel
theorem dX1_plan_11 : decode cX1_plan 11 = .ok (.iconst 0, 1) := by decide +kernel
theorem dX1_plan_12 : decode cX1_plan 12 = .ok (.iaload, 1) := by decide +kernel
theorem dX1_plan_13 : decode cX1_plan 13 = .ok (.if_icmp .ge 24, 3) := by decide +kernel
theorem dX1_plan_16 : decode cX1_plan 16 = .ok (.aload_n 0, 1) := by decide +kernel
theorem dX1_plan_17 : decode cX1_plan 17 = .ok (.aload_n 1, 1) := by decide +kernel
theorem dX1_plan_18 : decode cX1_plan 18 = .ok (.aload_n 2, 1) := by decide +kernel
theorem dX1_plan_19 : decode cX1_plan 19 = .ok (.iload 4, 2) := by decide +kernel
theorem dX1_plan_21 : decode cX1_plan 21 = .ok (.iload_n 3, 1) := by decide +kernel
theorem dX1_plan_22 : decode cX1_plan 22 = .ok (.invokevirtual 44, 3) := by decide +kernel
theorem dX1_plan_25 : decode cX1_plan 25 = .ok (.ifCond .eq 6, 3) := by decide +kernel
theorem dX1_plan_28 : decode cX1_plan 28 = .ok (.iinc 3 1, 3) := by decide +kernel
theorem dX1_plan_31 : decode cX1_plan 31 = .ok (.iinc 4 1, 3) := by decide +kernel
theorem dX1_plan_34 : decode cX1_plan 34 = .ok (.goto (-29), 3) := by decide +kernel
theorem dX1_plan_37 : decode cX1_plan 37 = .ok (.iconst 1, 1) := by decide +kernel
theorem dX1_plan_38 : decode cX1_plan 38 = .ok (.iload_n 3, 1) := by decide +kernel
theorem dX1_plan_39 : decode cX1_plan 39 = .ok (.ishl, 1) := by decide +kernel
theorem dX1_plan_40 : decode cX1_plan 40 = .ok (.iconst 1, 1) := by decide +kernel
theorem dX1_plan_41 : decode cX1_plan 41 = .ok (.isub, 1) := by decide +kernel
theorem dX1_plan_42 : decode cX1_plan 42 = .ok (.istore 4, 2) := by decide +kernel
theorem dX1_plan_44 : decode cX1_plan 44 = .ok (.aload_n 0, 1) := by decide +kernel
theorem dX1_plan_45 : decode cX1_plan 45 = .ok (.getfield 32, 3) := by decide +kernel
theorem dX1_plan_48 : decode cX1_plan 48 = .ok (.iconst 0, 1) := by decide +kernel
theorem dX1_plan_49 : decode cX1_plan 49 = .ok (.iload 4, 2) := by decide +kernel
theorem dX1_plan_51 : decode cX1_plan 51 = .ok (.iconst 1, 1) := by decide +kernel
theorem dX1_plan_52 : decode cX1_plan 52 = .ok (.iadd, 1) := by decide +kernel
theorem dX1_plan_53 : decode cX1_plan 53 = .ok (.ldc2_w 48, 3) := by decide +kernel
theorem dX1_plan_56 : decode cX1_plan 56 = .ok (.invokestatic 50, 3) := by decide +kernel
theorem dX1_plan_59 : decode cX1_plan 59 = .ok (.aload_n 0, 1) := by decide +kernel
theorem dX1_plan_60 : decode cX1_plan 60 = .ok (.getfield 32, 3) := by decide +kernel
theorem dX1_plan_63 : decode cX1_plan 63 = .ok (.iconst 0, 1) := by decide +kernel
theorem dX1_plan_64 : decode cX1_plan 64 = .ok (.lconst 0, 1) := by decide +kernel
theorem dX1_plan_65 : decode cX1_plan 65 = .ok (.lastore, 1) := by decide +kernel
theorem dX1_plan_66 : decode cX1_plan 66 = .ok (.iconst 0, 1) := by decide +kernel
theorem dX1_plan_67 : decode cX1_plan 67 = .ok (.istore 5, 2) := by decide +kernel
theorem dX1_plan_69 : decode cX1_plan 69 = .ok (.iload 5, 2) := by decide +kernel
theorem dX1_plan_71 : decode cX1_plan 71 = .ok (.aload_n 1, 1) := by decide +kernel
theorem dX1_plan_72 : decode cX1_plan 72 = .ok (.getfield 39, 3) := by decide +kernel
theorem dX1_plan_75 : decode cX1_plan 75 = .ok (.iconst 2, 1) := by decide +kernel
theorem dX1_plan_76 : decode cX1_plan 76 = .ok (.iaload, 1) := by decide +kernel
theorem dX1_plan_77 : decode cX1_plan 77 = .ok (.if_icmp .ge 34, 3) := by decide +kernel
theorem dX1_plan_80 : decode cX1_plan 80 = .ok (.iload_n 3, 1) := by decide +kernel
theorem dX1_plan_81 : decode cX1_plan 81 = .ok (.ifCond .le 30, 3) := by decide +kernel
theorem dX1_plan_84 : decode cX1_plan 84 = .ok (.aload_n 0, 1) := by decide +kernel
theorem dX1_plan_85 : decode cX1_plan 85 = .ok (.iload 5, 2) := by decide +kernel
theorem dX1_plan_87 : decode cX1_plan 87 = .ok (.iload 4, 2) := by decide +kernel
theorem dX1_plan_89 : decode cX1_plan 89 = .ok (.aload_n 2, 1) := by decide +kernel
theorem dX1_plan_90 : decode cX1_plan 90 = .ok (.getfield 56, 3) := by decide +kernel
theorem dX1_plan_93 : decode cX1_plan 93 = .ok (.iload 5, 2) := by decide +kernel
theorem dX1_plan_95 : decode cX1_plan 95 = .ok (.iaload, 1) := by decide +kernel
theorem dX1_plan_96 : decode cX1_plan 96 = .ok (.invokevirtual 61, 3) := by decide +kernel
theorem dX1_plan_99 : decode cX1_plan 99 = .ok (.aload_n 0, 1) := by decide +kernel
theorem dX1_plan_100 : decode cX1_plan 100 = .ok (.iload 4, 2) := by decide +kernel
theorem dX1_plan_102 : decode cX1_plan 102 = .ok (.invokevirtual 65, 3) := by decide +kernel
theorem dX1_plan_105 : decode cX1_plan 105 = .ok (.iinc 5 1, 3) := by decide +kernel
theorem dX1_plan_108 : decode cX1_plan 108 = .ok (.goto (-39), 3) := by decide +kernel
theorem dX1_plan_111 : decode cX1_plan 111 = .ok (.lconst 0, 1) := by decide +kernel
theorem dX1_plan_112 : decode cX1_plan 112 = .ok (.lstore 5, 2) := by decide +kernel
theorem dX1_plan_114 : decode cX1_plan 114 = .ok (.iconst 1, 1) := by decide +kernel
theorem dX1_plan_115 : decode cX1_plan 115 = .ok (.istore 7, 2) := by decide +kernel
theorem dX1_plan_117 : decode cX1_plan 117 = .ok (.iload 7, 2) := by decide +kernel
theorem dX1_plan_119 : decode cX1_plan 119 = .ok (.iload 4, 2) := by decide +kernel
theorem dX1_plan_121 : decode cX1_plan 121 = .ok (.if_icmp .gt 23, 3) := by decide +kernel
theorem dX1_plan_124 : decode cX1_plan 124 = .ok (.lload 5, 2) := by decide +kernel
theorem dX1_plan_126 : decode cX1_plan 126 = .ok (.aload_n 0, 1) := by decide +kernel
theorem dX1_plan_127 : decode cX1_plan 127 = .ok (.getfield 32, 3) := by decide +kernel
theorem dX1_plan_130 : decode cX1_plan 130 = .ok (.iload 7, 2) := by decide +kernel
theorem dX1_plan_132 : decode cX1_plan 132 = .ok (.laload, 1) := by decide +kernel
theorem dX1_plan_133 : decode cX1_plan 133 = .ok (.invokestatic 69, 3) := by decide +kernel
theorem dX1_plan_136 : decode cX1_plan 136 = .ok (.lstore 5, 2) := by decide +kernel
theorem dX1_plan_138 : decode cX1_plan 138 = .ok (.iinc 7 1, 3) := by decide +kernel
theorem dX1_plan_141 : decode cX1_plan 141 = .ok (.goto (-24), 3) := by decide +kernel
theorem dX1_plan_144 : decode cX1_plan 144 = .ok (.aload_n 0, 1) := by decide +kernel
theorem dX1_plan_145 : decode cX1_plan 145 = .ok (.lload 5, 2) := by decide +kernel
theorem dX1_plan_147 : decode cX1_plan 147 = .ok (.invokevirtual 75, 3) := by decide +kernel
theorem dX1_plan_150 : decode cX1_plan 150 = .ok (.return_, 1) := by decide +kernel
theorem dX1_close_0 : decode cX1_close 0 = .ok (.iconst 0, 1) := by decide +kernel
theorem dX1_close_1 : decode cX1_close 1 = .ok (.istore_n 3, 1) := by decide +kernel
theorem dX1_close_2 : decode cX1_close 2 = .ok (.iload_n 3, 1) := by decide +kernel
theorem dX1_close_3 : decode cX1_close 3 = .ok (.aload_n 1, 1) := by decide +kernel
theorem dX1_close_4 : decode cX1_close 4 = .ok (.getfield 39, 3) := by decide +kernel
theorem dX1_close_7 : decode cX1_close 7 = .ok (.iconst 0, 1) := by decide +kernel
theorem dX1_close_8 : decode cX1_close 8 = .ok (.iaload, 1) := by decide +kernel
theorem dX1_close_9 : decode cX1_close 9 = .ok (.if_icmp .ge 31, 3) := by decide +kernel
theorem dX1_close_12 : decode cX1_close 12 = .ok (.aload_n 0, 1) := by decide +kernel
theorem dX1_close_13 : decode cX1_close 13 = .ok (.getfield 9, 3) := by decide +kernel
theorem dX1_close_16 : decode cX1_close 16 = .ok (.iload_n 3, 1) := by decide +kernel
theorem dX1_close_17 : decode cX1_close 17 = .ok (.iaload, 1) := by decide +kernel
theorem dX1_close_18 : decode cX1_close 18 = .ok (.iconst (-1), 1) := by decide +kernel
theorem dX1_close_19 : decode cX1_close 19 = .ok (.if_icmp .eq 15, 3) := by decide +kernel
theorem dX1_close_22 : decode cX1_close 22 = .ok (.aload_n 2, 1) := by decide +kernel
theorem dX1_close_23 : decode cX1_close 23 = .ok (.getfield 79, 3) := by decide +kernel
theorem dX1_close_26 : decode cX1_close 26 = .ok (.iload_n 3, 1) := by decide +kernel
theorem dX1_close_27 : decode cX1_close 27 = .ok (.aload_n 0, 1) := by decide +kernel
theorem dX1_close_28 : decode cX1_close 28 = .ok (.getfield 9, 3) := by decide +kernel
theorem dX1_close_31 : decode cX1_close 31 = .ok (.iload_n 3, 1) := by decide +kernel
theorem dX1_close_32 : decode cX1_close 32 = .ok (.iaload, 1) := by decide +kernel
theorem dX1_close_33 : decode cX1_close 33 = .ok (.iastore, 1) := by decide +kernel
theorem dX1_close_34 : decode cX1_close 34 = .ok (.iinc 3 1, 3) := by decide +kernel
theorem dX1_close_37 : decode cX1_close 37 = .ok (.goto (-35), 3) := by decide +kernel
theorem dX1_close_40 : decode cX1_close 40 = .ok (.aload_n 2, 1) := by decide +kernel
theorem dX1_close_41 : decode cX1_close 41 = .ok (.dup, 1) := by decide +kernel
theorem dX1_close_42 : decode cX1_close 42 = .ok (.getfield 82, 3) := by decide +kernel
theorem dX1_close_45 : decode cX1_close 45 = .ok (.iconst 1, 1) := by decide +kernel
theorem dX1_close_46 : decode cX1_close 46 = .ok (.iadd, 1) := by decide +kernel
theorem dX1_close_47 : decode cX1_close 47 = .ok (.putfield 82, 3) := by decide +kernel
theorem dX1_close_50 : decode cX1_close 50 = .ok (.aload_n 2, 1) := by decide +kernel
theorem dX1_close_51 : decode cX1_close 51 = .ok (.aload_n 1, 1) := by decide +kernel
theorem dX1_close_52 : decode cX1_close 52 = .ok (.invokevirtual 86, 3) := by decide +kernel
theorem dX1_close_55 : decode cX1_close 55 = .ok (.return_, 1) := by decide +kernel
theorem dX1_weigh_0 : decode cX1_weigh 0 = .ok (.iconst 0, 1) := by decide +kernel
theorem dX1_weigh_1 : decode cX1_weigh 1 = .ok (.istore 5, 2) := by decide +kernel
theorem dX1_weigh_3 : decode cX1_weigh 3 = .ok (.iconst 0, 1) := by decide +kernel
theorem dX1_weigh_4 : decode cX1_weigh 4 = .ok (.istore 6, 2) := by decide +kernel
theorem dX1_weigh_6 : decode cX1_weigh 6 = .ok (.iload 6, 2) := by decide +kernel
theorem dX1_weigh_8 : decode cX1_weigh 8 = .ok (.aload_n 1, 1) := by decide +kernel
theorem dX1_weigh_9 : decode cX1_weigh 9 = .ok (.getfield 39, 3) := by decide +kernel
theorem dX1_weigh_12 : decode cX1_weigh 12 = .ok (.iconst 2, 1) := by decide +kernel
theorem dX1_weigh_13 : decode cX1_weigh 13 = .ok (.iaload, 1) := by decide +kernel
theorem dX1_weigh_14 : decode cX1_weigh 14 = .ok (.if_icmp .ge 93, 3) := by decide +kernel
theorem dX1_weigh_17 : decode cX1_weigh 17 = .ok (.aload_n 0, 1) := by decide +kernel
theorem dX1_weigh_18 : decode cX1_weigh 18 = .ok (.getfield 35, 3) := by decide +kernel
theorem dX1_weigh_21 : decode cX1_weigh 21 = .ok (.aload_n 1, 1) := by decide +kernel
theorem dX1_weigh_22 : decode cX1_weigh 22 = .ok (.aload_n 2, 1) := by decide +kernel
theorem dX1_weigh_23 : decode cX1_weigh 23 = .ok (.iload_n 3, 1) := by decide +kernel
theorem dX1_weigh_24 : decode cX1_weigh 24 = .ok (.iload 6, 2) := by decide +kernel
theorem dX1_weigh_26 : decode cX1_weigh 26 = .ok (.invokevirtual 90, 3) := by decide +kernel
theorem dX1_weigh_29 : decode cX1_weigh 29 = .ok (.istore 7, 2) := by decide +kernel
theorem dX1_weigh_31 : decode cX1_weigh 31 = .ok (.aload_n 0, 1) := by decide +kernel
theorem dX1_weigh_32 : decode cX1_weigh 32 = .ok (.getfield 17, 3) := by decide +kernel
theorem dX1_weigh_35 : decode cX1_weigh 35 = .ok (.iload 6, 2) := by decide +kernel
theorem dX1_weigh_37 : decode cX1_weigh 37 = .ok (.aaload, 1) := by decide +kernel
theorem dX1_weigh_38 : decode cX1_weigh 38 = .ok (.iload 4, 2) := by decide +kernel
theorem dX1_weigh_40 : decode cX1_weigh 40 = .ok (.iload 7, 2) := by decide +kernel
theorem dX1_weigh_42 : decode cX1_weigh 42 = .ok (.iastore, 1) := by decide +kernel
theorem dX1_weigh_43 : decode cX1_weigh 43 = .ok (.iload 7, 2) := by decide +kernel
theorem dX1_weigh_45 : decode cX1_weigh 45 = .ok (.iconst (-1), 1) := by decide +kernel
theorem dX1_weigh_46 : decode cX1_weigh 46 = .ok (.if_icmp .eq 55, 3) := by decide +kernel
theorem dX1_weigh_49 : decode cX1_weigh 49 = .ok (.iconst 1, 1) := by decide +kernel
theorem dX1_weigh_50 : decode cX1_weigh 50 = .ok (.istore 5, 2) := by decide +kernel
theorem dX1_weigh_52 : decode cX1_weigh 52 = .ok (.aload_n 0, 1) := by decide +kernel
theorem dX1_weigh_53 : decode cX1_weigh 53 = .ok (.getfield 35, 3) := by decide +kernel
theorem dX1_weigh_56 : decode cX1_weigh 56 = .ok (.aload_n 1, 1) := by decide +kernel
theorem dX1_weigh_57 : decode cX1_weigh 57 = .ok (.aload_n 2, 1) := by decide +kernel
theorem dX1_weigh_58 : decode cX1_weigh 58 = .ok (.iload_n 3, 1) := by decide +kernel
theorem dX1_weigh_59 : decode cX1_weigh 59 = .ok (.iload 6, 2) := by decide +kernel
theorem dX1_weigh_61 : decode cX1_weigh 61 = .ok (.invokevirtual 96, 3) := by decide +kernel
theorem dX1_weigh_64 : decode cX1_weigh 64 = .ok (.i2l, 1) := by decide +kernel
theorem dX1_weigh_65 : decode cX1_weigh 65 = .ok (.lstore 8, 2) := by decide +kernel
theorem dX1_weigh_67 : decode cX1_weigh 67 = .ok (.iload 6, 2) := by decide +kernel
theorem dX1_weigh_69 : decode cX1_weigh 69 = .ok (.iconst 1, 1) := by decide +kernel
theorem dX1_weigh_70 : decode cX1_weigh 70 = .ok (.iadd, 1) := by decide +kernel
theorem dX1_weigh_71 : decode cX1_weigh 71 = .ok (.i2l, 1) := by decide +kernel
theorem dX1_weigh_72 : decode cX1_weigh 72 = .ok (.iload_n 3, 1) := by decide +kernel
theorem dX1_weigh_73 : decode cX1_weigh 73 = .ok (.invokestatic 99, 3) := by decide +kernel
theorem dX1_weigh_76 : decode cX1_weigh 76 = .ok (.lshl, 1) := by decide +kernel
theorem dX1_weigh_77 : decode cX1_weigh 77 = .ok (.lstore 10, 2) := by decide +kernel
theorem dX1_weigh_79 : decode cX1_weigh 79 = .ok (.aload_n 0, 1) := by decide +kernel
theorem dX1_weigh_80 : decode cX1_weigh 80 = .ok (.getfield 22, 3) := by decide +kernel
theorem dX1_weigh_83 : decode cX1_weigh 83 = .ok (.iload 6, 2) := by decide +kernel
theorem dX1_weigh_85 : decode cX1_weigh 85 = .ok (.aaload, 1) := by decide +kernel
theorem dX1_weigh_86 : decode cX1_weigh 86 = .ok (.iload 4, 2) := by decide +kernel
theorem dX1_weigh_88 : decode cX1_weigh 88 = .ok (.ldc2_w 103, 3) := by decide +kernel
theorem dX1_weigh_91 : decode cX1_weigh 91 = .ok (.lload 8, 2) := by decide +kernel
theorem dX1_weigh_93 : decode cX1_weigh 93 = .ok (.ladd, 1) := by decide +kernel
theorem dX1_weigh_94 : decode cX1_weigh 94 = .ok (.bipush 16, 2) := by decide +kernel
theorem dX1_weigh_96 : decode cX1_weigh 96 = .ok (.lshl, 1) := by decide +kernel
theorem dX1_weigh_97 : decode cX1_weigh 97 = .ok (.lload 10, 2) := by decide +kernel
theorem dX1_weigh_99 : decode cX1_weigh 99 = .ok (.lsub, 1) := by decide +kernel
theorem dX1_weigh_100 : decode cX1_weigh 100 = .ok (.lastore, 1) := by decide +kernel
theorem dX1_weigh_101 : decode cX1_weigh 101 = .ok (.iinc 6 1, 3) := by decide +kernel
theorem dX1_weigh_104 : decode cX1_weigh 104 = .ok (.goto (-98), 3) := by decide +kernel
theorem dX1_weigh_107 : decode cX1_weigh 107 = .ok (.iload 5, 2) := by decide +kernel
theorem dX1_weigh_109 : decode cX1_weigh 109 = .ok (.ireturn, 1) := by decide +kernel
theorem dX1_price_0 : decode cX1_price 0 = .ok (.aload_n 0, 1) := by decide +kernel
theorem dX1_price_1 : decode cX1_price 1 = .ok (.getfield 28, 3) := by decide +kernel
theorem dX1_price_4 : decode cX1_price 4 = .ok (.iconst 0, 1) := by decide +kernel
theorem dX1_price_5 : decode cX1_price 5 = .ok (.lconst 0, 1) := by decide +kernel
theorem dX1_price_6 : decode cX1_price 6 = .ok (.lastore, 1) := by decide +kernel
theorem dX1_price_7 : decode cX1_price 7 = .ok (.aload_n 0, 1) := by decide +kernel
theorem dX1_price_8 : decode cX1_price 8 = .ok (.getfield 25, 3) := by decide +kernel
theorem dX1_price_11 : decode cX1_price 11 = .ok (.iconst 0, 1) := by decide +kernel
theorem dX1_price_12 : decode cX1_price 12 = .ok (.iconst 0, 1) := by decide +kernel
theorem dX1_price_13 : decode cX1_price 13 = .ok (.iastore, 1) := by decide +kernel
theorem dX1_price_14 : decode cX1_price 14 = .ok (.iconst 0, 1) := by decide +kernel
theorem dX1_price_15 : decode cX1_price 15 = .ok (.istore 4, 2) := by decide +kernel
theorem dX1_price_17 : decode cX1_price 17 = .ok (.iconst 1, 1) := by decide +kernel
theorem dX1_price_18 : decode cX1_price 18 = .ok (.istore 5, 2) := by decide +kernel
theorem dX1_price_20 : decode cX1_price 20 = .ok (.iload 5, 2) := by decide +kernel
theorem dX1_price_22 : decode cX1_price 22 = .ok (.iload_n 2, 1) := by decide +kernel
theorem dX1_price_23 : decode cX1_price 23 = .ok (.if_icmp .gt 131, 3) := by decide +kernel
theorem dX1_price_26 : decode cX1_price 26 = .ok (.iload 5, 2) := by decide +kernel
theorem dX1_price_28 : decode cX1_price 28 = .ok (.iconst 2, 1) := by decide +kernel
theorem dX1_price_29 : decode cX1_price 29 = .ok (.iload 4, 2) := by decide +kernel
theorem dX1_price_31 : decode cX1_price 31 = .ok (.ishl, 1) := by decide +kernel
theorem dX1_price_32 : decode cX1_price 32 = .ok (.if_icmp .ne 6, 3) := by decide +kernel
theorem dX1_price_35 : decode cX1_price 35 = .ok (.iinc 4 1, 3) := by decide +kernel
theorem dX1_price_38 : decode cX1_price 38 = .ok (.iload 5, 2) := by decide +kernel
theorem dX1_price_40 : decode cX1_price 40 = .ok (.iconst 1, 1) := by decide +kernel
theorem dX1_price_41 : decode cX1_price 41 = .ok (.iload 4, 2) := by decide +kernel
theorem dX1_price_43 : decode cX1_price 43 = .ok (.ishl, 1) := by decide +kernel
theorem dX1_price_44 : decode cX1_price 44 = .ok (.ixor, 1) := by decide +kernel
theorem dX1_price_45 : decode cX1_price 45 = .ok (.istore 6, 2) := by decide +kernel
theorem dX1_price_47 : decode cX1_price 47 = .ok (.aload_n 0, 1) := by decide +kernel
theorem dX1_price_48 : decode cX1_price 48 = .ok (.getfield 17, 3) := by decide +kernel
theorem dX1_price_51 : decode cX1_price 51 = .ok (.iload_n 1, 1) := by decide +kernel
theorem dX1_price_52 : decode cX1_price 52 = .ok (.aaload, 1) := by decide +kernel
theorem dX1_price_53 : decode cX1_price 53 = .ok (.iload 4, 2) := by decide +kernel
theorem dX1_price_55 : decode cX1_price 55 = .ok (.iaload, 1) := by decide +kernel
theorem dX1_price_56 : decode cX1_price 56 = .ok (.istore 7, 2) := by decide +kernel
theorem dX1_price_58 : decode cX1_price 58 = .ok (.aload_n 0, 1) := by decide +kernel
theorem dX1_price_59 : decode cX1_price 59 = .ok (.getfield 25, 3) := by decide +kernel
theorem dX1_price_62 : decode cX1_price 62 = .ok (.iload 5, 2) := by decide +kernel
theorem dX1_price_64 : decode cX1_price 64 = .ok (.aload_n 0, 1) := by decide +kernel
theorem dX1_price_65 : decode cX1_price 65 = .ok (.getfield 25, 3) := by decide +kernel
theorem dX1_price_68 : decode cX1_price 68 = .ok (.iload 6, 2) := by decide +kernel
theorem dX1_price_70 : decode cX1_price 70 = .ok (.iaload, 1) := by decide +kernel
theorem dX1_price_71 : decode cX1_price 71 = .ok (.iload 7, 2) := by decide +kernel
theorem dX1_price_73 : decode cX1_price 73 = .ok (.iadd, 1) := by decide +kernel
theorem dX1_price_74 : decode cX1_price 74 = .ok (.iastore, 1) := by decide +kernel
theorem dX1_price_75 : decode cX1_price 75 = .ok (.aload_n 0, 1) := by decide +kernel
theorem dX1_price_76 : decode cX1_price 76 = .ok (.getfield 28, 3) := by decide +kernel
theorem dX1_price_79 : decode cX1_price 79 = .ok (.iload 6, 2) := by decide +kernel
theorem dX1_price_81 : decode cX1_price 81 = .ok (.laload, 1) := by decide +kernel
theorem dX1_price_82 : decode cX1_price 82 = .ok (.ldc2_w 48, 3) := by decide +kernel
theorem dX1_price_85 : decode cX1_price 85 = .ok (.lcmp, 1) := by decide +kernel
theorem dX1_price_86 : decode cX1_price 86 = .ok (.ifCond .eq 24, 3) := by decide +kernel
theorem dX1_price_89 : decode cX1_price 89 = .ok (.iload 7, 2) := by decide +kernel
theorem dX1_price_91 : decode cX1_price 91 = .ok (.iconst (-1), 1) := by decide +kernel
theorem dX1_price_92 : decode cX1_price 92 = .ok (.if_icmp .eq 18, 3) := by decide +kernel
theorem dX1_price_95 : decode cX1_price 95 = .ok (.aload_n 0, 1) := by decide +kernel
theorem dX1_price_96 : decode cX1_price 96 = .ok (.getfield 25, 3) := by decide +kernel
theorem dX1_price_99 : decode cX1_price 99 = .ok (.iload 5, 2) := by decide +kernel
theorem dX1_price_101 : decode cX1_price 101 = .ok (.iaload, 1) := by decide +kernel
theorem dX1_price_102 : decode cX1_price 102 = .ok (.iload_n 3, 1) := by decide +kernel
theorem dX1_price_103 : decode cX1_price 103 = .ok (.if_icmp .gt 7, 3) := by decide +kernel
theorem dX1_price_106 : decode cX1_price 106 = .ok (.iconst 1, 1) := by decide +kernel
theorem dX1_price_107 : decode cX1_price 107 = .ok (.goto 4, 3) := by decide +kernel
theorem dX1_price_110 : decode cX1_price 110 = .ok (.iconst 0, 1) := by decide +kernel
theorem dX1_price_111 : decode cX1_price 111 = .ok (.istore 8, 2) := by decide +kernel
theorem dX1_price_113 : decode cX1_price 113 = .ok (.aload_n 0, 1) := by decide +kernel
theorem dX1_price_114 : decode cX1_price 114 = .ok (.getfield 28, 3) := by decide +kernel
theorem dX1_price_117 : decode cX1_price 117 = .ok (.iload 5, 2) := by decide +kernel
theorem dX1_price_119 : decode cX1_price 119 = .ok (.iload 8, 2) := by decide +kernel
theorem dX1_price_121 : decode cX1_price 121 = .ok (.ifCond .eq 23, 3) := by decide +kernel
theorem dX1_price_124 : decode cX1_price 124 = .ok (.aload_n 0, 1) := by decide +kernel
theorem dX1_price_125 : decode cX1_price 125 = .ok (.getfield 28, 3) := by decide +kernel
theorem dX1_price_128 : decode cX1_price 128 = .ok (.iload 6, 2) := by decide +kernel
theorem dX1_price_130 : decode cX1_price 130 = .ok (.laload, 1) := by decide +kernel
theorem dX1_price_131 : decode cX1_price 131 = .ok (.aload_n 0, 1) := by decide +kernel
theorem dX1_price_132 : decode cX1_price 132 = .ok (.getfield 22, 3) := by decide +kernel
theorem dX1_price_135 : decode cX1_price 135 = .ok (.iload_n 1, 1) := by decide +kernel
theorem dX1_price_136 : decode cX1_price 136 = .ok (.aaload, 1) := by decide +kernel
theorem dX1_price_137 : decode cX1_price 137 = .ok (.iload 4, 2) := by decide +kernel
theorem dX1_price_139 : decode cX1_price 139 = .ok (.laload, 1) := by decide +kernel
theorem dX1_price_140 : decode cX1_price 140 = .ok (.ladd, 1) := by decide +kernel
theorem dX1_price_141 : decode cX1_price 141 = .ok (.goto 6, 3) := by decide +kernel
theorem dX1_price_144 : decode cX1_price 144 = .ok (.ldc2_w 48, 3) := by decide +kernel
theorem dX1_price_147 : decode cX1_price 147 = .ok (.lastore, 1) := by decide +kernel
theorem dX1_price_148 : decode cX1_price 148 = .ok (.iinc 5 1, 3) := by decide +kernel
theorem dX1_price_151 : decode cX1_price 151 = .ok (.goto (-131), 3) := by decide +kernel
theorem dX1_price_154 : decode cX1_price 154 = .ok (.return_, 1) := by decide +kernel
theorem dX1_spread_0 : decode cX1_spread 0 = .ok (.iload_n 1, 1) := by decide +kernel
theorem dX1_spread_1 : decode cX1_spread 1 = .ok (.istore_n 2, 1) := by decide +kernel
theorem dX1_spread_2 : decode cX1_spread 2 = .ok (.iload_n 2, 1) := by decide +kernel
theorem dX1_spread_3 : decode cX1_spread 3 = .ok (.ifCond .lt 97, 3) := by decide +kernel
theorem dX1_spread_6 : decode cX1_spread 6 = .ok (.aload_n 0, 1) := by decide +kernel
theorem dX1_spread_7 : decode cX1_spread 7 = .ok (.getfield 32, 3) := by decide +kernel
theorem dX1_spread_10 : decode cX1_spread 10 = .ok (.iload_n 2, 1) := by decide +kernel
theorem dX1_spread_11 : decode cX1_spread 11 = .ok (.laload, 1) := by decide +kernel
theorem dX1_spread_12 : decode cX1_spread 12 = .ok (.ldc2_w 48, 3) := by decide +kernel
theorem dX1_spread_15 : decode cX1_spread 15 = .ok (.lcmp, 1) := by decide +kernel
theorem dX1_spread_16 : decode cX1_spread 16 = .ok (.ifCond .ne 6, 3) := by decide +kernel
theorem dX1_spread_19 : decode cX1_spread 19 = .ok (.goto 75, 3) := by decide +kernel
theorem dX1_spread_22 : decode cX1_spread 22 = .ok (.iload_n 1, 1) := by decide +kernel
theorem dX1_spread_23 : decode cX1_spread 23 = .ok (.iload_n 2, 1) := by decide +kernel
theorem dX1_spread_24 : decode cX1_spread 24 = .ok (.ixor, 1) := by decide +kernel
theorem dX1_spread_25 : decode cX1_spread 25 = .ok (.istore_n 3, 1) := by decide +kernel
theorem dX1_spread_26 : decode cX1_spread 26 = .ok (.iload_n 3, 1) := by decide +kernel
theorem dX1_spread_27 : decode cX1_spread 27 = .ok (.istore 4, 2) := by decide +kernel
theorem dX1_spread_29 : decode cX1_spread 29 = .ok (.iload 4, 2) := by decide +kernel
theorem dX1_spread_31 : decode cX1_spread 31 = .ok (.ifCond .le 63, 3) := by decide +kernel
theorem dX1_spread_34 : decode cX1_spread 34 = .ok (.aload_n 0, 1) := by decide +kernel
theorem dX1_spread_35 : decode cX1_spread 35 = .ok (.getfield 28, 3) := by decide +kernel
theorem dX1_spread_38 : decode cX1_spread 38 = .ok (.iload 4, 2) := by decide +kernel
theorem dX1_spread_40 : decode cX1_spread 40 = .ok (.laload, 1) := by decide +kernel
theorem dX1_spread_41 : decode cX1_spread 41 = .ok (.ldc2_w 48, 3) := by decide +kernel
theorem dX1_spread_44 : decode cX1_spread 44 = .ok (.lcmp, 1) := by decide +kernel
theorem dX1_spread_45 : decode cX1_spread 45 = .ok (.ifCond .eq 38, 3) := by decide +kernel
theorem dX1_spread_48 : decode cX1_spread 48 = .ok (.aload_n 0, 1) := by decide +kernel
theorem dX1_spread_49 : decode cX1_spread 49 = .ok (.getfield 32, 3) := by decide +kernel
theorem dX1_spread_52 : decode cX1_spread 52 = .ok (.iload_n 2, 1) := by decide +kernel
theorem dX1_spread_53 : decode cX1_spread 53 = .ok (.iload 4, 2) := by decide +kernel
theorem dX1_spread_55 : decode cX1_spread 55 = .ok (.ior, 1) := by decide +kernel
theorem dX1_spread_56 : decode cX1_spread 56 = .ok (.aload_n 0, 1) := by decide +kernel
theorem dX1_spread_57 : decode cX1_spread 57 = .ok (.getfield 32, 3) := by decide +kernel
theorem dX1_spread_60 : decode cX1_spread 60 = .ok (.iload_n 2, 1) := by decide +kernel
theorem dX1_spread_61 : decode cX1_spread 61 = .ok (.iload 4, 2) := by decide +kernel
theorem dX1_spread_63 : decode cX1_spread 63 = .ok (.ior, 1) := by decide +kernel
theorem dX1_spread_64 : decode cX1_spread 64 = .ok (.laload, 1) := by decide +kernel
theorem dX1_spread_65 : decode cX1_spread 65 = .ok (.aload_n 0, 1) := by decide +kernel
theorem dX1_spread_66 : decode cX1_spread 66 = .ok (.getfield 32, 3) := by decide +kernel
theorem dX1_spread_69 : decode cX1_spread 69 = .ok (.iload_n 2, 1) := by decide +kernel
theorem dX1_spread_70 : decode cX1_spread 70 = .ok (.laload, 1) := by decide +kernel
theorem dX1_spread_71 : decode cX1_spread 71 = .ok (.aload_n 0, 1) := by decide +kernel
theorem dX1_spread_72 : decode cX1_spread 72 = .ok (.getfield 28, 3) := by decide +kernel
theorem dX1_spread_75 : decode cX1_spread 75 = .ok (.iload 4, 2) := by decide +kernel
theorem dX1_spread_77 : decode cX1_spread 77 = .ok (.laload, 1) := by decide +kernel
theorem dX1_spread_78 : decode cX1_spread 78 = .ok (.ladd, 1) := by decide +kernel
theorem dX1_spread_79 : decode cX1_spread 79 = .ok (.invokestatic 69, 3) := by decide +kernel
theorem dX1_spread_82 : decode cX1_spread 82 = .ok (.lastore, 1) := by decide +kernel
theorem dX1_spread_83 : decode cX1_spread 83 = .ok (.iload 4, 2) := by decide +kernel
theorem dX1_spread_85 : decode cX1_spread 85 = .ok (.iconst 1, 1) := by decide +kernel
theorem dX1_spread_86 : decode cX1_spread 86 = .ok (.isub, 1) := by decide +kernel
theorem dX1_spread_87 : decode cX1_spread 87 = .ok (.iload_n 3, 1) := by decide +kernel
theorem dX1_spread_88 : decode cX1_spread 88 = .ok (.iand, 1) := by decide +kernel
theorem dX1_spread_89 : decode cX1_spread 89 = .ok (.istore 4, 2) := by decide +kernel
theorem dX1_spread_91 : decode cX1_spread 91 = .ok (.goto (-62), 3) := by decide +kernel
theorem dX1_spread_94 : decode cX1_spread 94 = .ok (.iinc 2 (-1), 3) := by decide +kernel
theorem dX1_spread_97 : decode cX1_spread 97 = .ok (.goto (-95), 3) := by decide +kernel
theorem dX1_spread_100 : decode cX1_spread 100 = .ok (.return_, 1) := by decide +kernel
theorem dX1_readOff_0 : decode cX1_readOff 0 = .ok (.lload_n 1, 1) := by decide +kernel
theorem dX1_readOff_1 : decode cX1_readOff 1 = .ok (.lneg, 1) := by decide +kernel
theorem dX1_readOff_2 : decode cX1_readOff 2 = .ok (.ldc2_w 105, 3) := by decide +kernel
theorem dX1_readOff_5 : decode cX1_readOff 5 = .ok (.land, 1) := by decide +kernel
theorem dX1_readOff_6 : decode cX1_readOff 6 = .ok (.l2i, 1) := by decide +kernel
theorem dX1_readOff_7 : decode cX1_readOff 7 = .ok (.istore_n 3, 1) := by decide +kernel
theorem dX1_readOff_8 : decode cX1_readOff 8 = .ok (.aload_n 0, 1) := by decide +kernel
theorem dX1_readOff_9 : decode cX1_readOff 9 = .ok (.iconst 0, 1) := by decide +kernel
theorem dX1_readOff_10 : decode cX1_readOff 10 = .ok (.putfield 107, 3) := by decide +kernel
theorem dX1_readOff_13 : decode cX1_readOff 13 = .ok (.iconst 0, 1) := by decide +kernel
theorem dX1_readOff_14 : decode cX1_readOff 14 = .ok (.istore 4, 2) := by decide +kernel
theorem dX1_readOff_16 : decode cX1_readOff 16 = .ok (.iload 4, 2) := by decide +kernel
theorem dX1_readOff_18 : decode cX1_readOff 18 = .ok (.bipush 8, 2) := by decide +kernel
theorem dX1_readOff_20 : decode cX1_readOff 20 = .ok (.if_icmp .ge 52, 3) := by decide +kernel
theorem dX1_readOff_23 : decode cX1_readOff 23 = .ok (.aload_n 0, 1) := by decide +kernel
theorem dX1_readOff_24 : decode cX1_readOff 24 = .ok (.getfield 9, 3) := by decide +kernel
theorem dX1_readOff_27 : decode cX1_readOff 27 = .ok (.iload 4, 2) := by decide +kernel
theorem dX1_readOff_29 : decode cX1_readOff 29 = .ok (.iload_n 3, 1) := by decide +kernel
theorem dX1_readOff_30 : decode cX1_readOff 30 = .ok (.iload 4, 2) := by decide +kernel
theorem dX1_readOff_32 : decode cX1_readOff 32 = .ok (.invokestatic 99, 3) := by decide +kernel
theorem dX1_readOff_35 : decode cX1_readOff 35 = .ok (.ishr, 1) := by decide +kernel
theorem dX1_readOff_36 : decode cX1_readOff 36 = .ok (.iconst 3, 1) := by decide +kernel
theorem dX1_readOff_37 : decode cX1_readOff 37 = .ok (.iand, 1) := by decide +kernel
theorem dX1_readOff_38 : decode cX1_readOff 38 = .ok (.iconst 1, 1) := by decide +kernel
theorem dX1_readOff_39 : decode cX1_readOff 39 = .ok (.isub, 1) := by decide +kernel
theorem dX1_readOff_40 : decode cX1_readOff 40 = .ok (.iastore, 1) := by decide +kernel
theorem dX1_readOff_41 : decode cX1_readOff 41 = .ok (.aload_n 0, 1) := by decide +kernel
theorem dX1_readOff_42 : decode cX1_readOff 42 = .ok (.dup, 1) := by decide +kernel
theorem dX1_readOff_43 : decode cX1_readOff 43 = .ok (.getfield 107, 3) := by decide +kernel
theorem dX1_readOff_46 : decode cX1_readOff 46 = .ok (.aload_n 0, 1) := by decide +kernel
theorem dX1_readOff_47 : decode cX1_readOff 47 = .ok (.getfield 9, 3) := by decide +kernel
theorem dX1_readOff_50 : decode cX1_readOff 50 = .ok (.iload 4, 2) := by decide +kernel
theorem dX1_readOff_52 : decode cX1_readOff 52 = .ok (.iaload, 1) := by decide +kernel
theorem dX1_readOff_53 : decode cX1_readOff 53 = .ok (.iconst (-1), 1) := by decide +kernel
theorem dX1_readOff_54 : decode cX1_readOff 54 = .ok (.if_icmp .ne 7, 3) := by decide +kernel
theorem dX1_readOff_57 : decode cX1_readOff 57 = .ok (.iconst 0, 1) := by decide +kernel
theorem dX1_readOff_58 : decode cX1_readOff 58 = .ok (.goto 4, 3) := by decide +kernel
theorem dX1_readOff_61 : decode cX1_readOff 61 = .ok (.iconst 1, 1) := by decide +kernel
theorem dX1_readOff_62 : decode cX1_readOff 62 = .ok (.iadd, 1) := by decide +kernel
theorem dX1_readOff_63 : decode cX1_readOff 63 = .ok (.putfield 107, 3) := by decide +kernel
theorem dX1_readOff_66 : decode cX1_readOff 66 = .ok (.iinc 4 1, 3) := by decide +kernel
theorem dX1_readOff_69 : decode cX1_readOff 69 = .ok (.goto (-53), 3) := by decide +kernel
theorem dX1_readOff_72 : decode cX1_readOff 72 = .ok (.aload_n 0, 1) := by decide +kernel
theorem dX1_readOff_73 : decode cX1_readOff 73 = .ok (.lload_n 1, 1) := by decide +kernel
theorem dX1_readOff_74 : decode cX1_readOff 74 = .ok (.iload_n 3, 1) := by decide +kernel
theorem dX1_readOff_75 : decode cX1_readOff 75 = .ok (.i2l, 1) := by decide +kernel
theorem dX1_readOff_76 : decode cX1_readOff 76 = .ok (.ladd, 1) := by decide +kernel
theorem dX1_readOff_77 : decode cX1_readOff 77 = .ok (.bipush 16, 2) := by decide +kernel
theorem dX1_readOff_79 : decode cX1_readOff 79 = .ok (.lshr, 1) := by decide +kernel
theorem dX1_readOff_80 : decode cX1_readOff 80 = .ok (.aload_n 0, 1) := by decide +kernel
theorem dX1_readOff_81 : decode cX1_readOff 81 = .ok (.getfield 107, 3) := by decide +kernel
theorem dX1_readOff_84 : decode cX1_readOff 84 = .ok (.i2l, 1) := by decide +kernel
theorem dX1_readOff_85 : decode cX1_readOff 85 = .ok (.bipush 28, 2) := by decide +kernel
theorem dX1_readOff_87 : decode cX1_readOff 87 = .ok (.lshl, 1) := by decide +kernel
theorem dX1_readOff_88 : decode cX1_readOff 88 = .ok (.lsub, 1) := by decide +kernel
theorem dX1_readOff_89 : decode cX1_readOff 89 = .ok (.putfield 110, 3) := by decide +kernel
theorem dX1_readOff_92 : decode cX1_readOff 92 = .ok (.return_, 1) := by decide +kernel
theorem dX1_rowShift_0 : decode cX1_rowShift 0 = .ok (.bipush 14, 2) := by decide +kernel
theorem dX1_rowShift_2 : decode cX1_rowShift 2 = .ok (.iconst 2, 1) := by decide +kernel
theorem dX1_rowShift_3 : decode cX1_rowShift 3 = .ok (.iload_n 0, 1) := by decide +kernel
theorem dX1_rowShift_4 : decode cX1_rowShift 4 = .ok (.imul, 1) := by decide +kernel
theorem dX1_rowShift_5 : decode cX1_rowShift 5 = .ok (.isub, 1) := by decide +kernel
theorem dX1_rowShift_6 : decode cX1_rowShift 6 = .ok (.ireturn, 1) := by decide +kernel
theorem dX6_plan_0 : decode cX6_plan 0 = .ok (.iconst 0, 1) := by decide +kernel
theorem dX6_plan_1 : decode cX6_plan 1 = .ok (.istore_n 3, 1) := by decide +kernel
theorem dX6_plan_2 : decode cX6_plan 2 = .ok (.iconst 0, 1) := by decide +kernel
theorem dX6_plan_3 : decode cX6_plan 3 = .ok (.istore 4, 2) := by decide +kernel
theorem dX6_plan_5 : decode cX6_plan 5 = .ok (.iload 4, 2) := by decide +kernel
theorem dX6_plan_7 : decode cX6_plan 7 = .ok (.aload_n 1, 1) := by decide +kernel
theorem dX6_plan_8 : decode cX6_plan 8 = .ok (.getfield 23, 3) := by decide +kernel
theorem dX6_plan_11 : decode cX6_plan 11 = .ok (.iconst 0, 1) := by decide +kernel
theorem dX6_plan_12 : decode cX6_plan 12 = .ok (.iaload, 1) := by decide +kernel
theorem dX6_plan_13 : decode cX6_plan 13 = .ok (.if_icmp .ge 58, 3) := by decide +kernel
theorem dX6_plan_16 : decode cX6_plan 16 = .ok (.aload_n 0, 1) := by decide +kernel
theorem dX6_plan_17 : decode cX6_plan 17 = .ok (.getfield 9, 3) := by decide +kernel
theorem dX6_plan_20 : decode cX6_plan 20 = .ok (.iload 4, 2) := by decide +kernel
theorem dX6_plan_22 : decode cX6_plan 22 = .ok (.iconst (-1), 1) := by decide +kernel
theorem dX6_plan_23 : decode cX6_plan 23 = .ok (.iastore, 1) := by decide +kernel
theorem dX6_plan_24 : decode cX6_plan 24 = .ok (.aload_n 2, 1) := by decide +kernel
theorem dX6_plan_25 : decode cX6_plan 25 = .ok (.getfield 28, 3) := by decide +kernel
theorem dX6_plan_28 : decode cX6_plan 28 = .ok (.iload 4, 2) := by decide +kernel
theorem dX6_plan_30 : decode cX6_plan 30 = .ok (.iaload, 1) := by decide +kernel
theorem dX6_plan_31 : decode cX6_plan 31 = .ok (.iconst (-1), 1) := by decide +kernel
