theorem dX9_choice_66 : decode cX9_choice 66 = .ok (.aload_n 0, 1) := by decide +kernel
theorem dX9_choice_67 : decode cX9_choice 67 = .ok (.getfield 18, 3) := by decide +kernel
theorem dX9_choice_70 : decode cX9_choice 70 = .ok (.bipush 44, 2) := by decide +kernel
theorem dX9_choice_72 : decode cX9_choice 72 = .ok (.invokevirtual 67, 3) := by decide +kernel
theorem dX9_choice_75 : decode cX9_choice 75 = .ok (.ifCond .eq 29, 3) := by decide +kernel
theorem dX9_choice_78 : decode cX9_choice 78 = .ok (.aload_n 0, 1) := by decide +kernel
theorem dX9_choice_79 : decode cX9_choice 79 = .ok (.iload_n 1, 1) := by decide +kernel
theorem dX9_choice_80 : decode cX9_choice 80 = .ok (.iconst 1, 1) := by decide +kernel
theorem dX9_choice_81 : decode cX9_choice 81 = .ok (.iadd, 1) := by decide +kernel
theorem dX9_choice_82 : decode cX9_choice 82 = .ok (.invokevirtual 30, 3) := by decide +kernel
theorem dX9_choice_85 : decode cX9_choice 85 = .ok (.ifCond .eq 19, 3) := by decide +kernel
theorem dX9_choice_88 : decode cX9_choice 88 = .ok (.aload_n 0, 1) := by decide +kernel
theorem dX9_choice_89 : decode cX9_choice 89 = .ok (.getfield 18, 3) := by decide +kernel
theorem dX9_choice_92 : decode cX9_choice 92 = .ok (.bipush 41, 2) := by decide +kernel
theorem dX9_choice_94 : decode cX9_choice 94 = .ok (.invokevirtual 67, 3) := by decide +kernel
theorem dX9_choice_97 : decode cX9_choice 97 = .ok (.ifCond .eq 7, 3) := by decide +kernel
theorem dX9_choice_100 : decode cX9_choice 100 = .ok (.iconst 1, 1) := by decide +kernel
theorem dX9_choice_101 : decode cX9_choice 101 = .ok (.goto 4, 3) := by decide +kernel
theorem dX9_choice_104 : decode cX9_choice 104 = .ok (.iconst 0, 1) := by decide +kernel
theorem dX9_choice_105 : decode cX9_choice 105 = .ok (.istore_n 3, 1) := by decide +kernel
theorem dX9_choice_106 : decode cX9_choice 106 = .ok (.aload_n 0, 1) := by decide +kernel
theorem dX9_choice_107 : decode cX9_choice 107 = .ok (.getfield 12, 3) := by decide +kernel
theorem dX9_choice_110 : decode cX9_choice 110 = .ok (.iload_n 2, 1) := by decide +kernel
theorem dX9_choice_111 : decode cX9_choice 111 = .ok (.invokevirtual 54, 3) := by decide +kernel
theorem dX9_choice_114 : decode cX9_choice 114 = .ok (.iload_n 3, 1) := by decide +kernel
theorem dX9_choice_115 : decode cX9_choice 115 = .ok (.ireturn, 1) := by decide +kernel
theorem dX9_fact_0 : decode cX9_fact 0 = .ok (.aload_n 0, 1) := by decide +kernel
theorem dX9_fact_1 : decode cX9_fact 1 = .ok (.getfield 18, 3) := by decide +kernel
theorem dX9_fact_4 : decode cX9_fact 4 = .ok (.getfield 61, 3) := by decide +kernel
theorem dX9_fact_7 : decode cX9_fact 7 = .ok (.bipush 91, 2) := by decide +kernel
theorem dX9_fact_9 : decode cX9_fact 9 = .ok (.if_icmp .ne 39, 3) := by decide +kernel
theorem dX9_fact_12 : decode cX9_fact 12 = .ok (.aload_n 0, 1) := by decide +kernel
theorem dX9_fact_13 : decode cX9_fact 13 = .ok (.iload_n 1, 1) := by decide +kernel
theorem dX9_fact_14 : decode cX9_fact 14 = .ok (.invokevirtual 64, 3) := by decide +kernel
theorem dX9_fact_17 : decode cX9_fact 17 = .ok (.ifCond .eq 29, 3) := by decide +kernel
theorem dX9_fact_20 : decode cX9_fact 20 = .ok (.aload_n 0, 1) := by decide +kernel
theorem dX9_fact_21 : decode cX9_fact 21 = .ok (.iload_n 1, 1) := by decide +kernel
theorem dX9_fact_22 : decode cX9_fact 22 = .ok (.iconst 1, 1) := by decide +kernel
theorem dX9_fact_23 : decode cX9_fact 23 = .ok (.iadd, 1) := by decide +kernel
theorem dX9_fact_24 : decode cX9_fact 24 = .ok (.invokevirtual 40, 3) := by decide +kernel
theorem dX9_fact_27 : decode cX9_fact 27 = .ok (.ifCond .eq 19, 3) := by decide +kernel
theorem dX9_fact_30 : decode cX9_fact 30 = .ok (.aload_n 0, 1) := by decide +kernel
theorem dX9_fact_31 : decode cX9_fact 31 = .ok (.getfield 18, 3) := by decide +kernel
theorem dX9_fact_34 : decode cX9_fact 34 = .ok (.bipush 93, 2) := by decide +kernel
theorem dX9_fact_36 : decode cX9_fact 36 = .ok (.invokevirtual 67, 3) := by decide +kernel
theorem dX9_fact_39 : decode cX9_fact 39 = .ok (.ifCond .eq 7, 3) := by decide +kernel
theorem dX9_fact_42 : decode cX9_fact 42 = .ok (.iconst 1, 1) := by decide +kernel
theorem dX9_fact_43 : decode cX9_fact 43 = .ok (.goto 4, 3) := by decide +kernel
theorem dX9_fact_46 : decode cX9_fact 46 = .ok (.iconst 0, 1) := by decide +kernel
theorem dX9_fact_47 : decode cX9_fact 47 = .ok (.ireturn, 1) := by decide +kernel
theorem dX9_fact_48 : decode cX9_fact 48 = .ok (.aload_n 0, 1) := by decide +kernel
theorem dX9_fact_49 : decode cX9_fact 49 = .ok (.getfield 18, 3) := by decide +kernel
theorem dX9_fact_52 : decode cX9_fact 52 = .ok (.getfield 46, 3) := by decide +kernel
theorem dX9_fact_55 : decode cX9_fact 55 = .ok (.bipush 24, 2) := by decide +kernel
theorem dX9_fact_57 : decode cX9_fact 57 = .ok (.if_icmp .ne 38, 3) := by decide +kernel
theorem dX9_fact_60 : decode cX9_fact 60 = .ok (.aload_n 0, 1) := by decide +kernel
theorem dX9_fact_61 : decode cX9_fact 61 = .ok (.iload_n 1, 1) := by decide +kernel
theorem dX9_fact_62 : decode cX9_fact 62 = .ok (.invokevirtual 64, 3) := by decide +kernel
theorem dX9_fact_65 : decode cX9_fact 65 = .ok (.ifCond .eq 17, 3) := by decide +kernel
theorem dX9_fact_68 : decode cX9_fact 68 = .ok (.aload_n 0, 1) := by decide +kernel
theorem dX9_fact_69 : decode cX9_fact 69 = .ok (.iload_n 1, 1) := by decide +kernel
theorem dX9_fact_70 : decode cX9_fact 70 = .ok (.iconst 1, 1) := by decide +kernel
theorem dX9_fact_71 : decode cX9_fact 71 = .ok (.iadd, 1) := by decide +kernel
theorem dX9_fact_72 : decode cX9_fact 72 = .ok (.invokevirtual 58, 3) := by decide +kernel
theorem dX9_fact_75 : decode cX9_fact 75 = .ok (.ifCond .eq 7, 3) := by decide +kernel
theorem dX9_fact_78 : decode cX9_fact 78 = .ok (.iconst 1, 1) := by decide +kernel
theorem dX9_fact_79 : decode cX9_fact 79 = .ok (.goto 4, 3) := by decide +kernel
theorem dX9_fact_82 : decode cX9_fact 82 = .ok (.iconst 0, 1) := by decide +kernel
theorem dX9_fact_83 : decode cX9_fact 83 = .ok (.istore_n 2, 1) := by decide +kernel
theorem dX9_fact_84 : decode cX9_fact 84 = .ok (.aload_n 0, 1) := by decide +kernel
theorem dX9_fact_85 : decode cX9_fact 85 = .ok (.getfield 12, 3) := by decide +kernel
theorem dX9_fact_88 : decode cX9_fact 88 = .ok (.bipush (-22), 2) := by decide +kernel
theorem dX9_fact_90 : decode cX9_fact 90 = .ok (.invokevirtual 54, 3) := by decide +kernel
theorem dX9_fact_93 : decode cX9_fact 93 = .ok (.iload_n 2, 1) := by decide +kernel
theorem dX9_fact_94 : decode cX9_fact 94 = .ok (.ireturn, 1) := by decide +kernel
theorem dX9_fact_95 : decode cX9_fact 95 = .ok (.aload_n 0, 1) := by decide +kernel
theorem dX9_fact_96 : decode cX9_fact 96 = .ok (.getfield 18, 3) := by decide +kernel
theorem dX9_fact_99 : decode cX9_fact 99 = .ok (.getfield 46, 3) := by decide +kernel
theorem dX9_fact_102 : decode cX9_fact 102 = .ok (.bipush 25, 2) := by decide +kernel
theorem dX9_fact_104 : decode cX9_fact 104 = .ok (.if_icmp .ne 20, 3) := by decide +kernel
theorem dX9_fact_107 : decode cX9_fact 107 = .ok (.aload_n 0, 1) := by decide +kernel
theorem dX9_fact_108 : decode cX9_fact 108 = .ok (.getfield 18, 3) := by decide +kernel
theorem dX9_fact_111 : decode cX9_fact 111 = .ok (.invokevirtual 51, 3) := by decide +kernel
theorem dX9_fact_114 : decode cX9_fact 114 = .ok (.aload_n 0, 1) := by decide +kernel
theorem dX9_fact_115 : decode cX9_fact 115 = .ok (.getfield 12, 3) := by decide +kernel
theorem dX9_fact_118 : decode cX9_fact 118 = .ok (.iconst 1, 1) := by decide +kernel
theorem dX9_fact_119 : decode cX9_fact 119 = .ok (.invokevirtual 54, 3) := by decide +kernel
theorem dX9_fact_122 : decode cX9_fact 122 = .ok (.iconst 1, 1) := by decide +kernel
theorem dX9_fact_123 : decode cX9_fact 123 = .ok (.ireturn, 1) := by decide +kernel
theorem dX9_fact_124 : decode cX9_fact 124 = .ok (.aload_n 0, 1) := by decide +kernel
theorem dX9_fact_125 : decode cX9_fact 125 = .ok (.iload_n 1, 1) := by decide +kernel
theorem dX9_fact_126 : decode cX9_fact 126 = .ok (.invokevirtual 30, 3) := by decide +kernel
theorem dX9_fact_129 : decode cX9_fact 129 = .ok (.ifCond .ne 5, 3) := by decide +kernel
theorem dX9_fact_132 : decode cX9_fact 132 = .ok (.iconst 0, 1) := by decide +kernel
theorem dX9_fact_133 : decode cX9_fact 133 = .ok (.ireturn, 1) := by decide +kernel
theorem dX9_fact_134 : decode cX9_fact 134 = .ok (.aload_n 0, 1) := by decide +kernel
theorem dX9_fact_135 : decode cX9_fact 135 = .ok (.getfield 18, 3) := by decide +kernel
theorem dX9_fact_138 : decode cX9_fact 138 = .ok (.getfield 61, 3) := by decide +kernel
theorem dX9_fact_141 : decode cX9_fact 141 = .ok (.istore_n 2, 1) := by decide +kernel
theorem dX9_fact_142 : decode cX9_fact 142 = .ok (.iload_n 2, 1) := by decide +kernel
theorem dX9_fact_143 : decode cX9_fact 143 = .ok (.bipush 60, 2) := by decide +kernel
theorem dX9_fact_145 : decode cX9_fact 145 = .ok (.if_icmp .eq 24, 3) := by decide +kernel
theorem dX9_fact_148 : decode cX9_fact 148 = .ok (.iload_n 2, 1) := by decide +kernel
theorem dX9_fact_149 : decode cX9_fact 149 = .ok (.bipush 62, 2) := by decide +kernel
theorem dX9_fact_151 : decode cX9_fact 151 = .ok (.if_icmp .eq 18, 3) := by decide +kernel
theorem dX9_fact_154 : decode cX9_fact 154 = .ok (.iload_n 2, 1) := by decide +kernel
theorem dX9_fact_155 : decode cX9_fact 155 = .ok (.bipush 61, 2) := by decide +kernel
theorem dX9_fact_157 : decode cX9_fact 157 = .ok (.if_icmp .eq 12, 3) := by decide +kernel
theorem dX9_fact_160 : decode cX9_fact 160 = .ok (.aload_n 0, 1) := by decide +kernel
theorem dX9_fact_161 : decode cX9_fact 161 = .ok (.getfield 18, 3) := by decide +kernel
theorem dX9_fact_164 : decode cX9_fact 164 = .ok (.iconst 1, 1) := by decide +kernel
theorem dX9_fact_165 : decode cX9_fact 165 = .ok (.invokevirtual 70, 3) := by decide +kernel
theorem dX9_fact_168 : decode cX9_fact 168 = .ok (.ireturn, 1) := by decide +kernel
theorem dX9_fact_169 : decode cX9_fact 169 = .ok (.aload_n 0, 1) := by decide +kernel
theorem dX9_fact_170 : decode cX9_fact 170 = .ok (.getfield 18, 3) := by decide +kernel
theorem dX9_fact_173 : decode cX9_fact 173 = .ok (.invokevirtual 51, 3) := by decide +kernel
theorem dX9_fact_176 : decode cX9_fact 176 = .ok (.aload_n 0, 1) := by decide +kernel
theorem dX9_fact_177 : decode cX9_fact 177 = .ok (.iload_n 1, 1) := by decide +kernel
theorem dX9_fact_178 : decode cX9_fact 178 = .ok (.invokevirtual 30, 3) := by decide +kernel
theorem dX9_fact_181 : decode cX9_fact 181 = .ok (.istore_n 3, 1) := by decide +kernel
theorem dX9_fact_182 : decode cX9_fact 182 = .ok (.aload_n 0, 1) := by decide +kernel
theorem dX9_fact_183 : decode cX9_fact 183 = .ok (.getfield 12, 3) := by decide +kernel
theorem dX9_fact_186 : decode cX9_fact 186 = .ok (.iload_n 2, 1) := by decide +kernel
theorem dX9_fact_187 : decode cX9_fact 187 = .ok (.bipush 60, 2) := by decide +kernel
theorem dX9_fact_189 : decode cX9_fact 189 = .ok (.if_icmp .ne 8, 3) := by decide +kernel
theorem dX9_fact_192 : decode cX9_fact 192 = .ok (.bipush (-17), 2) := by decide +kernel
theorem dX9_fact_194 : decode cX9_fact 194 = .ok (.goto 16, 3) := by decide +kernel
theorem dX9_fact_197 : decode cX9_fact 197 = .ok (.iload_n 2, 1) := by decide +kernel
theorem dX9_fact_198 : decode cX9_fact 198 = .ok (.bipush 62, 2) := by decide +kernel
theorem dX9_fact_200 : decode cX9_fact 200 = .ok (.if_icmp .ne 8, 3) := by decide +kernel
theorem dX9_fact_203 : decode cX9_fact 203 = .ok (.bipush (-18), 2) := by decide +kernel
theorem dX9_fact_205 : decode cX9_fact 205 = .ok (.goto 5, 3) := by decide +kernel
theorem dX9_fact_208 : decode cX9_fact 208 = .ok (.bipush (-19), 2) := by decide +kernel
theorem dX9_fact_210 : decode cX9_fact 210 = .ok (.invokevirtual 54, 3) := by decide +kernel
theorem dX9_fact_213 : decode cX9_fact 213 = .ok (.iload_n 3, 1) := by decide +kernel
theorem dX9_fact_214 : decode cX9_fact 214 = .ok (.ireturn, 1) := by decide +kernel
theorem dX9_readTest_0 : decode cX9_readTest 0 = .ok (.aload_n 0, 1) := by decide +kernel
theorem dX9_readTest_1 : decode cX9_readTest 1 = .ok (.getfield 12, 3) := by decide +kernel
theorem dX9_readTest_4 : decode cX9_readTest 4 = .ok (.iconst 0, 1) := by decide +kernel
theorem dX9_readTest_5 : decode cX9_readTest 5 = .ok (.putfield 22, 3) := by decide +kernel
theorem dX9_readTest_8 : decode cX9_readTest 8 = .ok (.aload_n 0, 1) := by decide +kernel
theorem dX9_readTest_9 : decode cX9_readTest 9 = .ok (.iconst 1, 1) := by decide +kernel
theorem dX9_readTest_10 : decode cX9_readTest 10 = .ok (.putfield 26, 3) := by decide +kernel
theorem dX9_readTest_13 : decode cX9_readTest 13 = .ok (.aload_n 0, 1) := by decide +kernel
theorem dX9_readTest_14 : decode cX9_readTest 14 = .ok (.iconst 0, 1) := by decide +kernel
theorem dX9_readTest_15 : decode cX9_readTest 15 = .ok (.invokevirtual 40, 3) := by decide +kernel
theorem dX9_readTest_18 : decode cX9_readTest 18 = .ok (.ireturn, 1) := by decide +kernel
theorem dX9_heapValue_0 : decode cX9_heapValue 0 = .ok (.iload_n 0, 1) := by decide +kernel
theorem dX9_heapValue_1 : decode cX9_heapValue 1 = .ok (.bipush 11, 2) := by decide +kernel
theorem dX9_heapValue_3 : decode cX9_heapValue 3 = .ok (.if_icmp .ne 7, 3) := by decide +kernel
theorem dX9_heapValue_6 : decode cX9_heapValue 6 = .ok (.iconst 3, 1) := by decide +kernel
theorem dX9_heapValue_7 : decode cX9_heapValue 7 = .ok (.goto 7, 3) := by decide +kernel
theorem dX9_heapValue_10 : decode cX9_heapValue 10 = .ok (.iload_n 0, 1) := by decide +kernel
theorem dX9_heapValue_11 : decode cX9_heapValue 11 = .ok (.invokestatic 99, 3) := by decide +kernel
theorem dX9_heapValue_14 : decode cX9_heapValue 14 = .ok (.ireturn, 1) := by decide +kernel
theorem dX9_readHeapSum_0 : decode cX9_readHeapSum 0 = .ok (.aload_n 0, 1) := by decide +kernel
theorem dX9_readHeapSum_1 : decode cX9_readHeapSum 1 = .ok (.getfield 12, 3) := by decide +kernel
theorem dX9_readHeapSum_4 : decode cX9_readHeapSum 4 = .ok (.iconst 0, 1) := by decide +kernel
theorem dX9_readHeapSum_5 : decode cX9_readHeapSum 5 = .ok (.putfield 22, 3) := by decide +kernel
theorem dX9_readHeapSum_8 : decode cX9_readHeapSum 8 = .ok (.aload_n 0, 1) := by decide +kernel
theorem dX9_readHeapSum_9 : decode cX9_readHeapSum 9 = .ok (.iconst 0, 1) := by decide +kernel
theorem dX9_readHeapSum_10 : decode cX9_readHeapSum 10 = .ok (.putfield 26, 3) := by decide +kernel
theorem dX9_readHeapSum_13 : decode cX9_readHeapSum 13 = .ok (.aload_n 0, 1) := by decide +kernel
theorem dX9_readHeapSum_14 : decode cX9_readHeapSum 14 = .ok (.iconst 0, 1) := by decide +kernel
theorem dX9_readHeapSum_15 : decode cX9_readHeapSum 15 = .ok (.invokevirtual 30, 3) := by decide +kernel
theorem dX9_readHeapSum_18 : decode cX9_readHeapSum 18 = .ok (.istore_n 3, 1) := by decide +kernel
theorem dX9_readHeapSum_19 : decode cX9_readHeapSum 19 = .ok (.aload_n 1, 1) := by decide +kernel
theorem dX9_readHeapSum_20 : decode cX9_readHeapSum 20 = .ok (.iload_n 2, 1) := by decide +kernel
theorem dX9_readHeapSum_21 : decode cX9_readHeapSum 21 = .ok (.aload_n 0, 1) := by decide +kernel
theorem dX9_readHeapSum_22 : decode cX9_readHeapSum 22 = .ok (.getfield 12, 3) := by decide +kernel
theorem dX9_readHeapSum_25 : decode cX9_readHeapSum 25 = .ok (.invokevirtual 34, 3) := by decide +kernel
theorem dX9_readHeapSum_28 : decode cX9_readHeapSum 28 = .ok (.iload_n 3, 1) := by decide +kernel
theorem dX9_readHeapSum_29 : decode cX9_readHeapSum 29 = .ok (.ireturn, 1) := by decide +kernel
theorem dX9_readQuestionSum_0 : decode cX9_readQuestionSum 0 = .ok (.aload_n 0, 1) := by decide +kernel
theorem dX9_readQuestionSum_1 : decode cX9_readQuestionSum 1 = .ok (.getfield 12, 3) := by decide +kernel
theorem dX9_readQuestionSum_4 : decode cX9_readQuestionSum 4 = .ok (.iconst 0, 1) := by decide +kernel
theorem dX9_readQuestionSum_5 : decode cX9_readQuestionSum 5 = .ok (.putfield 22, 3) := by decide +kernel
theorem dX9_readQuestionSum_8 : decode cX9_readQuestionSum 8 = .ok (.aload_n 0, 1) := by decide +kernel
theorem dX9_readQuestionSum_9 : decode cX9_readQuestionSum 9 = .ok (.iconst 1, 1) := by decide +kernel
theorem dX9_readQuestionSum_10 : decode cX9_readQuestionSum 10 = .ok (.putfield 26, 3) := by decide +kernel
theorem dX9_readQuestionSum_13 : decode cX9_readQuestionSum 13 = .ok (.aload_n 0, 1) := by decide +kernel
theorem dX9_readQuestionSum_14 : decode cX9_readQuestionSum 14 = .ok (.iconst 0, 1) := by decide +kernel
theorem dX9_readQuestionSum_15 : decode cX9_readQuestionSum 15 = .ok (.invokevirtual 30, 3) := by decide +kernel
theorem dX9_readQuestionSum_18 : decode cX9_readQuestionSum 18 = .ok (.ireturn, 1) := by decide +kernel
theorem dX9_opens_0 : decode cX9_opens 0 = .ok (.iload_n 1, 1) := by decide +kernel
theorem dX9_opens_1 : decode cX9_opens 1 = .ok (.bipush 6, 2) := by decide +kernel
theorem dX9_opens_3 : decode cX9_opens 3 = .ok (.if_icmp .lt 12, 3) := by decide +kernel
theorem dX9_opens_6 : decode cX9_opens 6 = .ok (.aload_n 0, 1) := by decide +kernel
theorem dX9_opens_7 : decode cX9_opens 7 = .ok (.getfield 18, 3) := by decide +kernel
theorem dX9_opens_10 : decode cX9_opens 10 = .ok (.iconst 4, 1) := by decide +kernel
theorem dX9_opens_11 : decode cX9_opens 11 = .ok (.invokevirtual 70, 3) := by decide +kernel
theorem dX9_opens_14 : decode cX9_opens 14 = .ok (.ireturn, 1) := by decide +kernel
theorem dX9_opens_15 : decode cX9_opens 15 = .ok (.aload_n 0, 1) := by decide +kernel
theorem dX9_opens_16 : decode cX9_opens 16 = .ok (.getfield 18, 3) := by decide +kernel
theorem dX9_opens_19 : decode cX9_opens 19 = .ok (.invokevirtual 51, 3) := by decide +kernel
theorem dX9_opens_22 : decode cX9_opens 22 = .ok (.iconst 1, 1) := by decide +kernel
theorem dX9_opens_23 : decode cX9_opens 23 = .ok (.ireturn, 1) := by decide +kernel
theorem dX9_questionValue_0 : decode cX9_questionValue 0 = .ok (.iload_n 0, 1) := by decide +kernel
theorem dX9_questionValue_1 : decode cX9_questionValue 1 = .ok (.lookupswitch 55 #[(4, 52), (19, 43), (20, 46), (21, 49)], 43) := by decide +kernel
theorem dX9_questionValue_44 : decode cX9_questionValue 44 = .ok (.bipush 6, 2) := by decide +kernel
theorem dX9_questionValue_46 : decode cX9_questionValue 46 = .ok (.ireturn, 1) := by decide +kernel
theorem dX9_questionValue_47 : decode cX9_questionValue 47 = .ok (.bipush 7, 2) := by decide +kernel
theorem dX9_questionValue_49 : decode cX9_questionValue 49 = .ok (.ireturn, 1) := by decide +kernel
theorem dX9_questionValue_50 : decode cX9_questionValue 50 = .ok (.bipush 8, 2) := by decide +kernel
theorem dX9_questionValue_52 : decode cX9_questionValue 52 = .ok (.ireturn, 1) := by decide +kernel
theorem dX9_questionValue_53 : decode cX9_questionValue 53 = .ok (.bipush 9, 2) := by decide +kernel
theorem dX9_questionValue_55 : decode cX9_questionValue 55 = .ok (.ireturn, 1) := by decide +kernel
theorem dX9_questionValue_56 : decode cX9_questionValue 56 = .ok (.iload_n 0, 1) := by decide +kernel
theorem dX9_questionValue_57 : decode cX9_questionValue 57 = .ok (.invokestatic 99, 3) := by decide +kernel
theorem dX9_questionValue_60 : decode cX9_questionValue 60 = .ok (.ireturn, 1) := by decide +kernel
theorem dX9_both_0 : decode cX9_both 0 = .ok (.aload_n 0, 1) := by decide +kernel
theorem dX9_both_1 : decode cX9_both 1 = .ok (.iload_n 1, 1) := by decide +kernel
theorem dX9_both_2 : decode cX9_both 2 = .ok (.invokevirtual 58, 3) := by decide +kernel
theorem dX9_both_5 : decode cX9_both 5 = .ok (.istore_n 2, 1) := by decide +kernel
theorem dX9_both_6 : decode cX9_both 6 = .ok (.iconst 0, 1) := by decide +kernel
theorem dX9_both_7 : decode cX9_both 7 = .ok (.istore_n 3, 1) := by decide +kernel
theorem dX9_both_8 : decode cX9_both 8 = .ok (.iload_n 3, 1) := by decide +kernel
theorem dX9_both_9 : decode cX9_both 9 = .ok (.sipush 1600, 3) := by decide +kernel
theorem dX9_both_12 : decode cX9_both 12 = .ok (.if_icmp .ge 47, 3) := by decide +kernel
theorem dX9_both_15 : decode cX9_both 15 = .ok (.iload_n 2, 1) := by decide +kernel
theorem dX9_both_16 : decode cX9_both 16 = .ok (.ifCond .eq 43, 3) := by decide +kernel
theorem dX9_both_19 : decode cX9_both 19 = .ok (.aload_n 0, 1) := by decide +kernel
theorem dX9_both_20 : decode cX9_both 20 = .ok (.getfield 18, 3) := by decide +kernel
theorem dX9_both_23 : decode cX9_both 23 = .ok (.getfield 46, 3) := by decide +kernel
theorem dX9_both_26 : decode cX9_both 26 = .ok (.bipush 23, 2) := by decide +kernel
theorem dX9_both_28 : decode cX9_both 28 = .ok (.if_icmp .ne 31, 3) := by decide +kernel
theorem dX9_both_31 : decode cX9_both 31 = .ok (.aload_n 0, 1) := by decide +kernel
theorem dX9_both_32 : decode cX9_both 32 = .ok (.getfield 18, 3) := by decide +kernel
theorem dX9_both_35 : decode cX9_both 35 = .ok (.invokevirtual 51, 3) := by decide +kernel
theorem dX9_both_38 : decode cX9_both 38 = .ok (.aload_n 0, 1) := by decide +kernel
theorem dX9_both_39 : decode cX9_both 39 = .ok (.iload_n 1, 1) := by decide +kernel
theorem dX9_both_40 : decode cX9_both 40 = .ok (.invokevirtual 58, 3) := by decide +kernel
theorem dX9_both_43 : decode cX9_both 43 = .ok (.istore_n 2, 1) := by decide +kernel
theorem dX9_both_44 : decode cX9_both 44 = .ok (.aload_n 0, 1) := by decide +kernel
theorem dX9_both_45 : decode cX9_both 45 = .ok (.getfield 12, 3) := by decide +kernel
theorem dX9_both_48 : decode cX9_both 48 = .ok (.bipush (-20), 2) := by decide +kernel
theorem dX9_both_50 : decode cX9_both 50 = .ok (.invokevirtual 54, 3) := by decide +kernel
theorem dX9_both_53 : decode cX9_both 53 = .ok (.iinc 3 1, 3) := by decide +kernel
theorem dX9_both_56 : decode cX9_both 56 = .ok (.goto (-48), 3) := by decide +kernel
theorem dX9_both_59 : decode cX9_both 59 = .ok (.iload_n 2, 1) := by decide +kernel
theorem dX9_both_60 : decode cX9_both 60 = .ok (.ireturn, 1) := by decide +kernel
theorem dX9_sum_0 : decode cX9_sum 0 = .ok (.aload_n 0, 1) := by decide +kernel
theorem dX9_sum_1 : decode cX9_sum 1 = .ok (.iload_n 1, 1) := by decide +kernel
theorem dX9_sum_2 : decode cX9_sum 2 = .ok (.invokevirtual 73, 3) := by decide +kernel
theorem dX9_sum_5 : decode cX9_sum 5 = .ok (.istore_n 2, 1) := by decide +kernel
theorem dX9_sum_6 : decode cX9_sum 6 = .ok (.iconst 0, 1) := by decide +kernel
theorem dX9_sum_7 : decode cX9_sum 7 = .ok (.istore_n 3, 1) := by decide +kernel
theorem dX9_sum_8 : decode cX9_sum 8 = .ok (.iload_n 3, 1) := by decide +kernel
theorem dX9_sum_9 : decode cX9_sum 9 = .ok (.sipush 1600, 3) := by decide +kernel
theorem dX9_sum_12 : decode cX9_sum 12 = .ok (.if_icmp .ge 80, 3) := by decide +kernel
theorem dX9_sum_15 : decode cX9_sum 15 = .ok (.iload_n 2, 1) := by decide +kernel
theorem dX9_sum_16 : decode cX9_sum 16 = .ok (.ifCond .eq 76, 3) := by decide +kernel
theorem dX9_sum_19 : decode cX9_sum 19 = .ok (.aload_n 0, 1) := by decide +kernel
theorem dX9_sum_20 : decode cX9_sum 20 = .ok (.getfield 18, 3) := by decide +kernel
theorem dX9_sum_23 : decode cX9_sum 23 = .ok (.getfield 61, 3) := by decide +kernel
theorem dX9_sum_26 : decode cX9_sum 26 = .ok (.bipush 43, 2) := by decide +kernel
theorem dX9_sum_28 : decode cX9_sum 28 = .ok (.if_icmp .eq 15, 3) := by decide +kernel
theorem dX9_sum_31 : decode cX9_sum 31 = .ok (.aload_n 0, 1) := by decide +kernel
theorem dX9_sum_32 : decode cX9_sum 32 = .ok (.getfield 18, 3) := by decide +kernel
theorem dX9_sum_35 : decode cX9_sum 35 = .ok (.getfield 61, 3) := by decide +kernel
theorem dX9_sum_38 : decode cX9_sum 38 = .ok (.bipush 45, 2) := by decide +kernel
theorem dX9_sum_40 : decode cX9_sum 40 = .ok (.if_icmp .ne 52, 3) := by decide +kernel
theorem dX9_sum_43 : decode cX9_sum 43 = .ok (.aload_n 0, 1) := by decide +kernel
theorem dX9_sum_44 : decode cX9_sum 44 = .ok (.getfield 18, 3) := by decide +kernel
theorem dX9_sum_47 : decode cX9_sum 47 = .ok (.getfield 61, 3) := by decide +kernel
theorem dX9_sum_50 : decode cX9_sum 50 = .ok (.bipush 43, 2) := by decide +kernel
theorem dX9_sum_52 : decode cX9_sum 52 = .ok (.if_icmp .ne 8, 3) := by decide +kernel
theorem dX9_sum_55 : decode cX9_sum 55 = .ok (.bipush (-11), 2) := by decide +kernel
theorem dX9_sum_57 : decode cX9_sum 57 = .ok (.goto 5, 3) := by decide +kernel
theorem dX9_sum_60 : decode cX9_sum 60 = .ok (.bipush (-12), 2) := by decide +kernel
theorem dX9_sum_62 : decode cX9_sum 62 = .ok (.istore 4, 2) := by decide +kernel
theorem dX9_sum_64 : decode cX9_sum 64 = .ok (.aload_n 0, 1) := by decide +kernel
theorem dX9_sum_65 : decode cX9_sum 65 = .ok (.getfield 18, 3) := by decide +kernel
theorem dX9_sum_68 : decode cX9_sum 68 = .ok (.invokevirtual 51, 3) := by decide +kernel
theorem dX9_sum_71 : decode cX9_sum 71 = .ok (.aload_n 0, 1) := by decide +kernel
theorem dX9_sum_72 : decode cX9_sum 72 = .ok (.iload_n 1, 1) := by decide +kernel
theorem dX9_sum_73 : decode cX9_sum 73 = .ok (.invokevirtual 73, 3) := by decide +kernel
theorem dX9_sum_76 : decode cX9_sum 76 = .ok (.istore_n 2, 1) := by decide +kernel
theorem dX9_sum_77 : decode cX9_sum 77 = .ok (.aload_n 0, 1) := by decide +kernel
theorem dX9_sum_78 : decode cX9_sum 78 = .ok (.getfield 12, 3) := by decide +kernel
theorem dX9_sum_81 : decode cX9_sum 81 = .ok (.iload 4, 2) := by decide +kernel
theorem dX9_sum_83 : decode cX9_sum 83 = .ok (.invokevirtual 54, 3) := by decide +kernel
theorem dX9_sum_86 : decode cX9_sum 86 = .ok (.iinc 3 1, 3) := by decide +kernel
theorem dX9_sum_89 : decode cX9_sum 89 = .ok (.goto (-81), 3) := by decide +kernel
theorem dX9_sum_92 : decode cX9_sum 92 = .ok (.iload_n 2, 1) := by decide +kernel
theorem dX9_sum_93 : decode cX9_sum 93 = .ok (.ireturn, 1) := by decide +kernel
theorem dX9_product_0 : decode cX9_product 0 = .ok (.aload_n 0, 1) := by decide +kernel
theorem dX9_product_1 : decode cX9_product 1 = .ok (.iload_n 1, 1) := by decide +kernel
theorem dX9_product_2 : decode cX9_product 2 = .ok (.invokevirtual 76, 3) := by decide +kernel
theorem dX9_product_5 : decode cX9_product 5 = .ok (.istore_n 2, 1) := by decide +kernel
theorem dX9_product_6 : decode cX9_product 6 = .ok (.iconst 0, 1) := by decide +kernel
theorem dX9_product_7 : decode cX9_product 7 = .ok (.istore_n 3, 1) := by decide +kernel
theorem dX9_product_8 : decode cX9_product 8 = .ok (.iload_n 3, 1) := by decide +kernel
theorem dX9_product_9 : decode cX9_product 9 = .ok (.sipush 1600, 3) := by decide +kernel
theorem dX9_product_12 : decode cX9_product 12 = .ok (.if_icmp .ge 80, 3) := by decide +kernel
theorem dX9_product_15 : decode cX9_product 15 = .ok (.iload_n 2, 1) := by decide +kernel
theorem dX9_product_16 : decode cX9_product 16 = .ok (.ifCond .eq 76, 3) := by decide +kernel
theorem dX9_product_19 : decode cX9_product 19 = .ok (.aload_n 0, 1) := by decide +kernel
theorem dX9_product_20 : decode cX9_product 20 = .ok (.getfield 18, 3) := by decide +kernel
theorem dX9_product_23 : decode cX9_product 23 = .ok (.getfield 61, 3) := by decide +kernel
theorem dX9_product_26 : decode cX9_product 26 = .ok (.bipush 42, 2) := by decide +kernel
theorem dX9_product_28 : decode cX9_product 28 = .ok (.if_icmp .eq 15, 3) := by decide +kernel
theorem dX9_product_31 : decode cX9_product 31 = .ok (.aload_n 0, 1) := by decide +kernel
theorem dX9_product_32 : decode cX9_product 32 = .ok (.getfield 18, 3) := by decide +kernel
theorem dX9_product_35 : decode cX9_product 35 = .ok (.getfield 61, 3) := by decide +kernel
theorem dX9_product_38 : decode cX9_product 38 = .ok (.bipush 47, 2) := by decide +kernel
theorem dX9_product_40 : decode cX9_product 40 = .ok (.if_icmp .ne 52, 3) := by decide +kernel
theorem dX9_product_43 : decode cX9_product 43 = .ok (.aload_n 0, 1) := by decide +kernel
theorem dX9_product_44 : decode cX9_product 44 = .ok (.getfield 18, 3) := by decide +kernel
theorem dX9_product_47 : decode cX9_product 47 = .ok (.getfield 61, 3) := by decide +kernel
theorem dX9_product_50 : decode cX9_product 50 = .ok (.bipush 42, 2) := by decide +kernel
theorem dX9_product_52 : decode cX9_product 52 = .ok (.if_icmp .ne 8, 3) := by decide +kernel
theorem dX9_product_55 : decode cX9_product 55 = .ok (.bipush (-13), 2) := by decide +kernel
theorem dX9_product_57 : decode cX9_product 57 = .ok (.goto 5, 3) := by decide +kernel
theorem dX9_product_60 : decode cX9_product 60 = .ok (.bipush (-14), 2) := by decide +kernel
theorem dX9_product_62 : decode cX9_product 62 = .ok (.istore 4, 2) := by decide +kernel
theorem dX9_product_64 : decode cX9_product 64 = .ok (.aload_n 0, 1) := by decide +kernel
theorem dX9_product_65 : decode cX9_product 65 = .ok (.getfield 18, 3) := by decide +kernel
theorem dX9_product_68 : decode cX9_product 68 = .ok (.invokevirtual 51, 3) := by decide +kernel
theorem dX9_product_71 : decode cX9_product 71 = .ok (.aload_n 0, 1) := by decide +kernel
theorem dX9_product_72 : decode cX9_product 72 = .ok (.iload_n 1, 1) := by decide +kernel
theorem dX9_product_73 : decode cX9_product 73 = .ok (.invokevirtual 76, 3) := by decide +kernel
theorem dX9_product_76 : decode cX9_product 76 = .ok (.istore_n 2, 1) := by decide +kernel
theorem dX9_product_77 : decode cX9_product 77 = .ok (.aload_n 0, 1) := by decide +kernel
theorem dX9_product_78 : decode cX9_product 78 = .ok (.getfield 12, 3) := by decide +kernel
theorem dX9_product_81 : decode cX9_product 81 = .ok (.iload 4, 2) := by decide +kernel
theorem dX9_product_83 : decode cX9_product 83 = .ok (.invokevirtual 54, 3) := by decide +kernel
theorem dX9_product_86 : decode cX9_product 86 = .ok (.iinc 3 1, 3) := by decide +kernel
theorem dX9_product_89 : decode cX9_product 89 = .ok (.goto (-81), 3) := by decide +kernel
theorem dX9_product_92 : decode cX9_product 92 = .ok (.iload_n 2, 1) := by decide +kernel
theorem dX9_product_93 : decode cX9_product 93 = .ok (.ireturn, 1) := by decide +kernel
theorem dX9_test_0 : decode cX9_test 0 = .ok (.aload_n 0, 1) := by decide +kernel
theorem dX9_test_1 : decode cX9_test 1 = .ok (.iload_n 1, 1) := by decide +kernel
theorem dX9_test_2 : decode cX9_test 2 = .ok (.invokevirtual 43, 3) := by decide +kernel
theorem dX9_test_5 : decode cX9_test 5 = .ok (.istore_n 2, 1) := by decide +kernel
theorem dX9_test_6 : decode cX9_test 6 = .ok (.iconst 0, 1) := by decide +kernel
theorem dX9_test_7 : decode cX9_test 7 = .ok (.istore_n 3, 1) := by decide +kernel
theorem dX9_test_8 : decode cX9_test 8 = .ok (.iload_n 3, 1) := by decide +kernel
theorem dX9_test_9 : decode cX9_test 9 = .ok (.sipush 1600, 3) := by decide +kernel
theorem dX9_test_12 : decode cX9_test 12 = .ok (.if_icmp .ge 47, 3) := by decide +kernel
theorem dX9_test_15 : decode cX9_test 15 = .ok (.iload_n 2, 1) := by decide +kernel
theorem dX9_test_16 : decode cX9_test 16 = .ok (.ifCond .eq 43, 3) := by decide +kernel
theorem dX9_test_19 : decode cX9_test 19 = .ok (.aload_n 0, 1) := by decide +kernel
theorem dX9_test_20 : decode cX9_test 20 = .ok (.getfield 18, 3) := by decide +kernel
theorem dX9_test_23 : decode cX9_test 23 = .ok (.getfield 46, 3) := by decide +kernel
theorem dX9_test_26 : decode cX9_test 26 = .ok (.bipush 22, 2) := by decide +kernel
theorem dX9_test_28 : decode cX9_test 28 = .ok (.if_icmp .ne 31, 3) := by decide +kernel
theorem dX9_test_31 : decode cX9_test 31 = .ok (.aload_n 0, 1) := by decide +kernel
theorem dX9_test_32 : decode cX9_test 32 = .ok (.getfield 18, 3) := by decide +kernel
theorem dX9_test_35 : decode cX9_test 35 = .ok (.invokevirtual 51, 3) := by decide +kernel
theorem dX9_test_38 : decode cX9_test 38 = .ok (.aload_n 0, 1) := by decide +kernel
theorem dX9_test_39 : decode cX9_test 39 = .ok (.iload_n 1, 1) := by decide +kernel
theorem dX9_test_40 : decode cX9_test 40 = .ok (.invokevirtual 43, 3) := by decide +kernel
theorem dX9_test_43 : decode cX9_test 43 = .ok (.istore_n 2, 1) := by decide +kernel
theorem dX9_test_44 : decode cX9_test 44 = .ok (.aload_n 0, 1) := by decide +kernel
theorem dX9_test_45 : decode cX9_test 45 = .ok (.getfield 12, 3) := by decide +kernel
theorem dX9_test_48 : decode cX9_test 48 = .ok (.bipush (-21), 2) := by decide +kernel
theorem dX9_test_50 : decode cX9_test 50 = .ok (.invokevirtual 54, 3) := by decide +kernel
theorem dX9_test_53 : decode cX9_test 53 = .ok (.iinc 3 1, 3) := by decide +kernel
theorem dX9_test_56 : decode cX9_test 56 = .ok (.goto (-48), 3) := by decide +kernel
theorem dX9_test_59 : decode cX9_test 59 = .ok (.iload_n 2, 1) := by decide +kernel
theorem dX9_test_60 : decode cX9_test 60 = .ok (.ireturn, 1) := by decide +kernel
theorem dX9_part_0 : decode cX9_part 0 = .ok (.aload_n 0, 1) := by decide +kernel
theorem dX9_part_1 : decode cX9_part 1 = .ok (.getfield 18, 3) := by decide +kernel
theorem dX9_part_4 : decode cX9_part 4 = .ok (.getfield 79, 3) := by decide +kernel
theorem dX9_part_7 : decode cX9_part 7 = .ok (.iconst 2, 1) := by decide +kernel
theorem dX9_part_8 : decode cX9_part 8 = .ok (.if_icmp .ne 37, 3) := by decide +kernel
theorem dX9_part_11 : decode cX9_part 11 = .ok (.aload_n 0, 1) := by decide +kernel
theorem dX9_part_12 : decode cX9_part 12 = .ok (.getfield 12, 3) := by decide +kernel
theorem dX9_part_15 : decode cX9_part 15 = .ok (.aload_n 0, 1) := by decide +kernel
theorem dX9_part_16 : decode cX9_part 16 = .ok (.getfield 18, 3) := by decide +kernel
theorem dX9_part_19 : decode cX9_part 19 = .ok (.iconst 0, 1) := by decide +kernel
theorem dX9_part_20 : decode cX9_part 20 = .ok (.sipush 9999, 3) := by decide +kernel
theorem dX9_part_23 : decode cX9_part 23 = .ok (.invokevirtual 82, 3) := by decide +kernel
theorem dX9_part_26 : decode cX9_part 26 = .ok (.invokevirtual 54, 3) := by decide +kernel
theorem dX9_part_29 : decode cX9_part 29 = .ok (.aload_n 0, 1) := by decide +kernel
theorem dX9_part_30 : decode cX9_part 30 = .ok (.getfield 18, 3) := by decide +kernel
theorem dX9_part_33 : decode cX9_part 33 = .ok (.getfield 86, 3) := by decide +kernel
theorem dX9_part_36 : decode cX9_part 36 = .ok (.ifCond .ne 7, 3) := by decide +kernel
theorem dX9_part_39 : decode cX9_part 39 = .ok (.iconst 1, 1) := by decide +kernel
theorem dX9_part_40 : decode cX9_part 40 = .ok (.goto 4, 3) := by decide +kernel
theorem dX9_part_43 : decode cX9_part 43 = .ok (.iconst 0, 1) := by decide +kernel
theorem dX9_part_44 : decode cX9_part 44 = .ok (.ireturn, 1) := by decide +kernel
theorem dX9_part_45 : decode cX9_part 45 = .ok (.aload_n 0, 1) := by decide +kernel
theorem dX9_part_46 : decode cX9_part 46 = .ok (.getfield 18, 3) := by decide +kernel
theorem dX9_part_49 : decode cX9_part 49 = .ok (.getfield 61, 3) := by decide +kernel
theorem dX9_part_52 : decode cX9_part 52 = .ok (.bipush 40, 2) := by decide +kernel
theorem dX9_part_54 : decode cX9_part 54 = .ok (.if_icmp .ne 39, 3) := by decide +kernel
theorem dX9_part_57 : decode cX9_part 57 = .ok (.aload_n 0, 1) := by decide +kernel
theorem dX9_part_58 : decode cX9_part 58 = .ok (.iload_n 1, 1) := by decide +kernel
theorem dX9_part_59 : decode cX9_part 59 = .ok (.invokevirtual 64, 3) := by decide +kernel
theorem dX9_part_62 : decode cX9_part 62 = .ok (.ifCond .eq 29, 3) := by decide +kernel
theorem dX9_part_65 : decode cX9_part 65 = .ok (.aload_n 0, 1) := by decide +kernel
theorem dX9_part_66 : decode cX9_part 66 = .ok (.iload_n 1, 1) := by decide +kernel
theorem dX9_part_67 : decode cX9_part 67 = .ok (.iconst 1, 1) := by decide +kernel
theorem dX9_part_68 : decode cX9_part 68 = .ok (.iadd, 1) := by decide +kernel
theorem dX9_part_69 : decode cX9_part 69 = .ok (.invokevirtual 30, 3) := by decide +kernel
theorem dX9_part_72 : decode cX9_part 72 = .ok (.ifCond .eq 19, 3) := by decide +kernel
theorem dX9_part_75 : decode cX9_part 75 = .ok (.aload_n 0, 1) := by decide +kernel
theorem dX9_part_76 : decode cX9_part 76 = .ok (.getfield 18, 3) := by decide +kernel
theorem dX9_part_79 : decode cX9_part 79 = .ok (.bipush 41, 2) := by decide +kernel
theorem dX9_part_81 : decode cX9_part 81 = .ok (.invokevirtual 67, 3) := by decide +kernel
theorem dX9_part_84 : decode cX9_part 84 = .ok (.ifCond .eq 7, 3) := by decide +kernel
theorem dX9_part_87 : decode cX9_part 87 = .ok (.iconst 1, 1) := by decide +kernel
theorem dX9_part_88 : decode cX9_part 88 = .ok (.goto 4, 3) := by decide +kernel
theorem dX9_part_91 : decode cX9_part 91 = .ok (.iconst 0, 1) := by decide +kernel
theorem dX9_part_92 : decode cX9_part 92 = .ok (.ireturn, 1) := by decide +kernel
theorem dX9_part_93 : decode cX9_part 93 = .ok (.aload_n 0, 1) := by decide +kernel
theorem dX9_part_94 : decode cX9_part 94 = .ok (.getfield 18, 3) := by decide +kernel
theorem dX9_part_97 : decode cX9_part 97 = .ok (.getfield 46, 3) := by decide +kernel
theorem dX9_part_100 : decode cX9_part 100 = .ok (.bipush 26, 2) := by decide +kernel
theorem dX9_part_102 : decode cX9_part 102 = .ok (.if_icmp .eq 15, 3) := by decide +kernel
theorem dX9_part_105 : decode cX9_part 105 = .ok (.aload_n 0, 1) := by decide +kernel
theorem dX9_part_106 : decode cX9_part 106 = .ok (.getfield 18, 3) := by decide +kernel
theorem dX9_part_109 : decode cX9_part 109 = .ok (.getfield 46, 3) := by decide +kernel
theorem dX9_part_112 : decode cX9_part 112 = .ok (.bipush 27, 2) := by decide +kernel
theorem dX9_part_114 : decode cX9_part 114 = .ok (.if_icmp .ne 9, 3) := by decide +kernel
theorem dX9_part_117 : decode cX9_part 117 = .ok (.aload_n 0, 1) := by decide +kernel
theorem dX9_part_118 : decode cX9_part 118 = .ok (.iload_n 1, 1) := by decide +kernel
theorem dX9_part_119 : decode cX9_part 119 = .ok (.invokevirtual 89, 3) := by decide +kernel
theorem dX9_part_122 : decode cX9_part 122 = .ok (.ireturn, 1) := by decide +kernel
theorem dX9_part_123 : decode cX9_part 123 = .ok (.aload_n 0, 1) := by decide +kernel
theorem dX9_part_124 : decode cX9_part 124 = .ok (.getfield 26, 3) := by decide +kernel
theorem dX9_part_127 : decode cX9_part 127 = .ok (.ifCond .eq 50, 3) := by decide +kernel
theorem dX9_part_130 : decode cX9_part 130 = .ok (.aload_n 0, 1) := by decide +kernel
theorem dX9_part_131 : decode cX9_part 131 = .ok (.getfield 18, 3) := by decide +kernel
theorem dX9_part_134 : decode cX9_part 134 = .ok (.getfield 46, 3) := by decide +kernel
theorem dX9_part_137 : decode cX9_part 137 = .ok (.bipush 6, 2) := by decide +kernel
theorem dX9_part_139 : decode cX9_part 139 = .ok (.if_icmp .ne 38, 3) := by decide +kernel
theorem dX9_part_142 : decode cX9_part 142 = .ok (.aload_n 0, 1) := by decide +kernel
theorem dX9_part_143 : decode cX9_part 143 = .ok (.iload_n 1, 1) := by decide +kernel
theorem dX9_part_144 : decode cX9_part 144 = .ok (.invokevirtual 64, 3) := by decide +kernel
theorem dX9_part_147 : decode cX9_part 147 = .ok (.ifCond .eq 17, 3) := by decide +kernel
theorem dX9_part_150 : decode cX9_part 150 = .ok (.aload_n 0, 1) := by decide +kernel
theorem dX9_part_151 : decode cX9_part 151 = .ok (.iload_n 1, 1) := by decide +kernel
theorem dX9_part_152 : decode cX9_part 152 = .ok (.iconst 1, 1) := by decide +kernel
theorem dX9_part_153 : decode cX9_part 153 = .ok (.iadd, 1) := by decide +kernel
theorem dX9_part_154 : decode cX9_part 154 = .ok (.invokevirtual 76, 3) := by decide +kernel
theorem dX9_part_157 : decode cX9_part 157 = .ok (.ifCond .eq 7, 3) := by decide +kernel
theorem dX9_part_160 : decode cX9_part 160 = .ok (.iconst 1, 1) := by decide +kernel
theorem dX9_part_161 : decode cX9_part 161 = .ok (.goto 4, 3) := by decide +kernel
theorem dX9_part_164 : decode cX9_part 164 = .ok (.iconst 0, 1) := by decide +kernel
theorem dX9_part_165 : decode cX9_part 165 = .ok (.istore_n 2, 1) := by decide +kernel
theorem dX9_part_166 : decode cX9_part 166 = .ok (.aload_n 0, 1) := by decide +kernel
theorem dX9_part_167 : decode cX9_part 167 = .ok (.getfield 12, 3) := by decide +kernel
theorem dX9_part_170 : decode cX9_part 170 = .ok (.bipush (-23), 2) := by decide +kernel
theorem dX9_part_172 : decode cX9_part 172 = .ok (.invokevirtual 54, 3) := by decide +kernel
theorem dX9_part_175 : decode cX9_part 175 = .ok (.iload_n 2, 1) := by decide +kernel
theorem dX9_part_176 : decode cX9_part 176 = .ok (.ireturn, 1) := by decide +kernel
theorem dX9_part_177 : decode cX9_part 177 = .ok (.aload_n 0, 1) := by decide +kernel
theorem dX9_part_178 : decode cX9_part 178 = .ok (.getfield 26, 3) := by decide +kernel
theorem dX9_part_181 : decode cX9_part 181 = .ok (.ifCond .eq 16, 3) := by decide +kernel
theorem dX9_part_184 : decode cX9_part 184 = .ok (.aload_n 0, 1) := by decide +kernel
theorem dX9_part_185 : decode cX9_part 185 = .ok (.getfield 18, 3) := by decide +kernel
theorem dX9_part_188 : decode cX9_part 188 = .ok (.getfield 46, 3) := by decide +kernel
theorem dX9_part_191 : decode cX9_part 191 = .ok (.invokestatic 92, 3) := by decide +kernel
theorem dX9_part_194 : decode cX9_part 194 = .ok (.goto 13, 3) := by decide +kernel
theorem dX9_part_197 : decode cX9_part 197 = .ok (.aload_n 0, 1) := by decide +kernel
theorem dX9_part_198 : decode cX9_part 198 = .ok (.getfield 18, 3) := by decide +kernel
theorem dX9_part_201 : decode cX9_part 201 = .ok (.getfield 46, 3) := by decide +kernel
theorem dX9_part_204 : decode cX9_part 204 = .ok (.invokestatic 96, 3) := by decide +kernel
theorem dX9_part_207 : decode cX9_part 207 = .ok (.istore_n 2, 1) := by decide +kernel
theorem dX9_part_208 : decode cX9_part 208 = .ok (.iload_n 2, 1) := by decide +kernel
theorem dX9_part_209 : decode cX9_part 209 = .ok (.iconst (-1), 1) := by decide +kernel
theorem dX9_part_210 : decode cX9_part 210 = .ok (.if_icmp .ne 12, 3) := by decide +kernel
theorem dX9_part_213 : decode cX9_part 213 = .ok (.aload_n 0, 1) := by decide +kernel
theorem dX9_part_214 : decode cX9_part 214 = .ok (.getfield 18, 3) := by decide +kernel
theorem dX9_part_217 : decode cX9_part 217 = .ok (.iconst 1, 1) := by decide +kernel
theorem dX9_part_218 : decode cX9_part 218 = .ok (.invokevirtual 70, 3) := by decide +kernel
theorem dX9_part_221 : decode cX9_part 221 = .ok (.ireturn, 1) := by decide +kernel
theorem dX9_part_222 : decode cX9_part 222 = .ok (.aload_n 0, 1) := by decide +kernel
theorem dX9_part_223 : decode cX9_part 223 = .ok (.getfield 18, 3) := by decide +kernel
theorem dX9_part_226 : decode cX9_part 226 = .ok (.invokevirtual 51, 3) := by decide +kernel
theorem dX9_part_229 : decode cX9_part 229 = .ok (.aload_n 0, 1) := by decide +kernel
theorem dX9_part_230 : decode cX9_part 230 = .ok (.getfield 12, 3) := by decide +kernel
theorem dX9_part_233 : decode cX9_part 233 = .ok (.iconst (-1), 1) := by decide +kernel
theorem dX9_part_234 : decode cX9_part 234 = .ok (.iload_n 2, 1) := by decide +kernel
theorem dX9_part_235 : decode cX9_part 235 = .ok (.isub, 1) := by decide +kernel
theorem dX9_part_236 : decode cX9_part 236 = .ok (.invokevirtual 54, 3) := by decide +kernel
theorem dX9_part_239 : decode cX9_part 239 = .ok (.iconst 1, 1) := by decide +kernel
theorem dX9_part_240 : decode cX9_part 240 = .ok (.ireturn, 1) := by decide +kernel
theorem dX3_measure_0 : decode cX3_measure 0 = .ok (.aload_n 0, 1) := by decide +kernel
theorem dX3_measure_1 : decode cX3_measure 1 = .ok (.getfield 18, 3) := by decide +kernel
theorem dX3_measure_4 : decode cX3_measure 4 = .ok (.getfield 52, 3) := by decide +kernel
theorem dX3_measure_7 : decode cX3_measure 7 = .ok (.iload_n 1, 1) := by decide +kernel
theorem dX3_measure_8 : decode cX3_measure 8 = .ok (.if_icmp .eq 12, 3) := by decide +kernel
theorem dX3_measure_11 : decode cX3_measure 11 = .ok (.aload_n 0, 1) := by decide +kernel
theorem dX3_measure_12 : decode cX3_measure 12 = .ok (.getfield 18, 3) := by decide +kernel
theorem dX3_measure_15 : decode cX3_measure 15 = .ok (.iconst 1, 1) := by decide +kernel
theorem dX3_measure_16 : decode cX3_measure 16 = .ok (.invokevirtual 49, 3) := by decide +kernel
theorem dX3_measure_19 : decode cX3_measure 19 = .ok (.ireturn, 1) := by decide +kernel
theorem dX3_measure_20 : decode cX3_measure 20 = .ok (.aload_n 0, 1) := by decide +kernel
theorem dX3_measure_21 : decode cX3_measure 21 = .ok (.getfield 18, 3) := by decide +kernel
theorem dX3_measure_24 : decode cX3_measure 24 = .ok (.invokevirtual 66, 3) := by decide +kernel
theorem dX3_measure_27 : decode cX3_measure 27 = .ok (.aload 4, 2) := by decide +kernel
theorem dX3_measure_29 : decode cX3_measure 29 = .ok (.iload 5, 2) := by decide +kernel
theorem dX3_measure_31 : decode cX3_measure 31 = .ok (.aload_n 0, 1) := by decide +kernel
theorem dX3_measure_32 : decode cX3_measure 32 = .ok (.getfield 18, 3) := by decide +kernel
theorem dX3_measure_35 : decode cX3_measure 35 = .ok (.iload_n 2, 1) := by decide +kernel
theorem dX3_measure_36 : decode cX3_measure 36 = .ok (.iload_n 3, 1) := by decide +kernel
theorem dX3_measure_37 : decode cX3_measure 37 = .ok (.invokevirtual 93, 3) := by decide +kernel
theorem dX3_measure_40 : decode cX3_measure 40 = .ok (.iastore, 1) := by decide +kernel
theorem dX3_measure_41 : decode cX3_measure 41 = .ok (.aload 4, 2) := by decide +kernel
theorem dX3_measure_43 : decode cX3_measure 43 = .ok (.iload 5, 2) := by decide +kernel
theorem dX3_measure_45 : decode cX3_measure 45 = .ok (.iaload, 1) := by decide +kernel
theorem dX3_measure_46 : decode cX3_measure 46 = .ok (.iconst (-1), 1) := by decide +kernel
theorem dX3_measure_47 : decode cX3_measure 47 = .ok (.if_icmp .eq 7, 3) := by decide +kernel
theorem dX3_measure_50 : decode cX3_measure 50 = .ok (.iconst 1, 1) := by decide +kernel
theorem dX3_measure_51 : decode cX3_measure 51 = .ok (.goto 4, 3) := by decide +kernel
theorem dX3_measure_54 : decode cX3_measure 54 = .ok (.iconst 0, 1) := by decide +kernel
theorem dX3_measure_55 : decode cX3_measure 55 = .ok (.ireturn, 1) := by decide +kernel
theorem dX3_takeName_0 : decode cX3_takeName 0 = .ok (.aload_n 0, 1) := by decide +kernel
theorem dX3_takeName_1 : decode cX3_takeName 1 = .ok (.iload_n 1, 1) := by decide +kernel
theorem dX3_takeName_2 : decode cX3_takeName 2 = .ok (.invokevirtual 134, 3) := by decide +kernel
theorem dX3_takeName_5 : decode cX3_takeName 5 = .ok (.istore_n 2, 1) := by decide +kernel
theorem dX3_takeName_6 : decode cX3_takeName 6 = .ok (.iload_n 2, 1) := by decide +kernel
theorem dX3_takeName_7 : decode cX3_takeName 7 = .ok (.iconst (-1), 1) := by decide +kernel
theorem dX3_takeName_8 : decode cX3_takeName 8 = .ok (.if_icmp .eq 10, 3) := by decide +kernel
theorem dX3_takeName_11 : decode cX3_takeName 11 = .ok (.aload_n 0, 1) := by decide +kernel
theorem dX3_takeName_12 : decode cX3_takeName 12 = .ok (.getfield 18, 3) := by decide +kernel
theorem dX3_takeName_15 : decode cX3_takeName 15 = .ok (.invokevirtual 66, 3) := by decide +kernel
theorem dX3_takeName_18 : decode cX3_takeName 18 = .ok (.iload_n 2, 1) := by decide +kernel
theorem dX3_takeName_19 : decode cX3_takeName 19 = .ok (.ireturn, 1) := by decide +kernel
theorem dX3_kindOf_0 : decode cX3_kindOf 0 = .ok (.iload_n 0, 1) := by decide +kernel
theorem dX3_kindOf_1 : decode cX3_kindOf 1 = .ok (.tableswitch 107 0 16 #[83, 107, 107, 107, 85, 107, 98, 89, 91, 87, 107, 107, 107, 93, 95, 101, 104], 83) := by decide +kernel
theorem dX3_kindOf_84 : decode cX3_kindOf 84 = .ok (.iconst 0, 1) := by decide +kernel
theorem dX3_kindOf_85 : decode cX3_kindOf 85 = .ok (.ireturn, 1) := by decide +kernel
theorem dX3_kindOf_86 : decode cX3_kindOf 86 = .ok (.iconst 1, 1) := by decide +kernel
theorem dX3_kindOf_87 : decode cX3_kindOf 87 = .ok (.ireturn, 1) := by decide +kernel
theorem dX3_kindOf_88 : decode cX3_kindOf 88 = .ok (.iconst 2, 1) := by decide +kernel
theorem dX3_kindOf_89 : decode cX3_kindOf 89 = .ok (.ireturn, 1) := by decide +kernel
theorem dX3_kindOf_90 : decode cX3_kindOf 90 = .ok (.iconst 3, 1) := by decide +kernel
theorem dX3_kindOf_91 : decode cX3_kindOf 91 = .ok (.ireturn, 1) := by decide +kernel
theorem dX3_kindOf_92 : decode cX3_kindOf 92 = .ok (.iconst 4, 1) := by decide +kernel
theorem dX3_kindOf_93 : decode cX3_kindOf 93 = .ok (.ireturn, 1) := by decide +kernel
theorem dX3_kindOf_94 : decode cX3_kindOf 94 = .ok (.iconst 5, 1) := by decide +kernel
theorem dX3_kindOf_95 : decode cX3_kindOf 95 = .ok (.ireturn, 1) := by decide +kernel
theorem dX3_kindOf_96 : decode cX3_kindOf 96 = .ok (.bipush 6, 2) := by decide +kernel
theorem dX3_kindOf_98 : decode cX3_kindOf 98 = .ok (.ireturn, 1) := by decide +kernel
theorem dX3_kindOf_99 : decode cX3_kindOf 99 = .ok (.bipush 7, 2) := by decide +kernel
theorem dX3_kindOf_101 : decode cX3_kindOf 101 = .ok (.ireturn, 1) := by decide +kernel
theorem dX3_kindOf_102 : decode cX3_kindOf 102 = .ok (.bipush 8, 2) := by decide +kernel
theorem dX3_kindOf_104 : decode cX3_kindOf 104 = .ok (.ireturn, 1) := by decide +kernel
theorem dX3_kindOf_105 : decode cX3_kindOf 105 = .ok (.bipush 9, 2) := by decide +kernel
theorem dX3_kindOf_107 : decode cX3_kindOf 107 = .ok (.ireturn, 1) := by decide +kernel
theorem dX3_kindOf_108 : decode cX3_kindOf 108 = .ok (.iconst (-1), 1) := by decide +kernel
theorem dX3_kindOf_109 : decode cX3_kindOf 109 = .ok (.ireturn, 1) := by decide +kernel
theorem dX5_read_0 : decode cX5_read 0 = .ok (.aload_n 0, 1) := by decide +kernel
theorem dX5_read_1 : decode cX5_read 1 = .ok (.getfield 9, 3) := by decide +kernel
theorem dX5_read_4 : decode cX5_read 4 = .ok (.invokevirtual 19, 3) := by decide +kernel
theorem dX5_read_7 : decode cX5_read 7 = .ok (.aload_n 0, 1) := by decide +kernel
theorem dX5_read_8 : decode cX5_read 8 = .ok (.aload_n 0, 1) := by decide +kernel
theorem dX5_read_9 : decode cX5_read 9 = .ok (.getfield 9, 3) := by decide +kernel
theorem dX5_read_12 : decode cX5_read 12 = .ok (.getfield 24, 3) := by decide +kernel
theorem dX5_read_15 : decode cX5_read 15 = .ok (.putfield 28, 3) := by decide +kernel
theorem dX5_read_18 : decode cX5_read 18 = .ok (.aload_n 0, 1) := by decide +kernel
theorem dX5_read_19 : decode cX5_read 19 = .ok (.getfield 28, 3) := by decide +kernel
theorem dX5_read_22 : decode cX5_read 22 = .ok (.bipush 28, 2) := by decide +kernel
theorem dX5_read_24 : decode cX5_read 24 = .ok (.if_icmp .ge 12, 3) := by decide +kernel
theorem dX5_read_27 : decode cX5_read 27 = .ok (.aload_n 0, 1) := by decide +kernel
theorem dX5_read_28 : decode cX5_read 28 = .ok (.getfield 9, 3) := by decide +kernel
theorem dX5_read_31 : decode cX5_read 31 = .ok (.iconst 1, 1) := by decide +kernel
theorem dX5_read_32 : decode cX5_read 32 = .ok (.invokevirtual 31, 3) := by decide +kernel
theorem dX5_read_35 : decode cX5_read 35 = .ok (.ireturn, 1) := by decide +kernel
theorem dX5_read_36 : decode cX5_read 36 = .ok (.aload_n 0, 1) := by decide +kernel
theorem dX5_read_37 : decode cX5_read 37 = .ok (.getfield 9, 3) := by decide +kernel
theorem dX5_read_40 : decode cX5_read 40 = .ok (.invokevirtual 35, 3) := by decide +kernel
theorem dX5_read_43 : decode cX5_read 43 = .ok (.aload_n 0, 1) := by decide +kernel
theorem dX5_read_44 : decode cX5_read 44 = .ok (.getfield 28, 3) := by decide +kernel
theorem dX5_read_47 : decode cX5_read 47 = .ok (.bipush 31, 2) := by decide +kernel
theorem dX5_read_49 : decode cX5_read 49 = .ok (.if_icmp .ge 13, 3) := by decide +kernel
theorem dX5_read_52 : decode cX5_read 52 = .ok (.aload_n 0, 1) := by decide +kernel
theorem dX5_read_53 : decode cX5_read 53 = .ok (.getfield 15, 3) := by decide +kernel
theorem dX5_read_56 : decode cX5_read 56 = .ok (.invokevirtual 38, 3) := by decide +kernel
theorem dX5_read_59 : decode cX5_read 59 = .ok (.goto 10, 3) := by decide +kernel
theorem dX5_read_62 : decode cX5_read 62 = .ok (.aload_n 0, 1) := by decide +kernel
theorem dX5_read_63 : decode cX5_read 63 = .ok (.getfield 15, 3) := by decide +kernel
theorem dX5_read_66 : decode cX5_read 66 = .ok (.invokevirtual 44, 3) := by decide +kernel
theorem dX5_read_69 : decode cX5_read 69 = .ok (.istore_n 1, 1) := by decide +kernel
theorem dX5_read_70 : decode cX5_read 70 = .ok (.iload_n 1, 1) := by decide +kernel
theorem dX5_read_71 : decode cX5_read 71 = .ok (.ifCond .ne 5, 3) := by decide +kernel
theorem dX5_read_74 : decode cX5_read 74 = .ok (.iconst 0, 1) := by decide +kernel
theorem dX5_read_75 : decode cX5_read 75 = .ok (.ireturn, 1) := by decide +kernel
theorem dX5_read_76 : decode cX5_read 76 = .ok (.aload_n 0, 1) := by decide +kernel
theorem dX5_read_77 : decode cX5_read 77 = .ok (.getfield 9, 3) := by decide +kernel
theorem dX5_read_80 : decode cX5_read 80 = .ok (.getfield 47, 3) := by decide +kernel
theorem dX5_read_83 : decode cX5_read 83 = .ok (.ifCond .eq 14, 3) := by decide +kernel
theorem dX5_read_86 : decode cX5_read 86 = .ok (.aload_n 0, 1) := by decide +kernel
theorem dX5_read_87 : decode cX5_read 87 = .ok (.getfield 9, 3) := by decide +kernel
theorem dX5_read_90 : decode cX5_read 90 = .ok (.iconst 1, 1) := by decide +kernel
theorem dX5_read_91 : decode cX5_read 91 = .ok (.invokevirtual 31, 3) := by decide +kernel
theorem dX5_read_94 : decode cX5_read 94 = .ok (.ifCond .eq 7, 3) := by decide +kernel
theorem dX5_read_97 : decode cX5_read 97 = .ok (.iconst 1, 1) := by decide +kernel
theorem dX5_read_98 : decode cX5_read 98 = .ok (.goto 4, 3) := by decide +kernel
theorem dX5_read_101 : decode cX5_read 101 = .ok (.iconst 0, 1) := by decide +kernel
theorem dX5_read_102 : decode cX5_read 102 = .ok (.ireturn, 1) := by decide +kernel
theorem dX5_with_0 : decode cX5_with 0 = .ok (.aload_n 0, 1) := by decide +kernel
theorem dX5_with_1 : decode cX5_with 1 = .ok (.getfield 28, 3) := by decide +kernel
theorem dX5_with_4 : decode cX5_with 4 = .ok (.tableswitch 70 29 33 #[36, 48, 48, 54, 62], 36) := by decide +kernel
theorem dX5_with_40 : decode cX5_with 40 = .ok (.iload 4, 2) := by decide +kernel
theorem dX5_with_42 : decode cX5_with 42 = .ok (.ifCond .eq 8, 3) := by decide +kernel
theorem dX5_with_45 : decode cX5_with 45 = .ok (.iload_n 3, 1) := by decide +kernel
theorem dX5_with_46 : decode cX5_with 46 = .ok (.i2l, 1) := by decide +kernel
theorem dX5_with_47 : decode cX5_with 47 = .ok (.goto 4, 3) := by decide +kernel
theorem dX5_with_50 : decode cX5_with 50 = .ok (.lload_n 1, 1) := by decide +kernel
theorem dX5_with_51 : decode cX5_with 51 = .ok (.lreturn, 1) := by decide +kernel
theorem dX5_with_52 : decode cX5_with 52 = .ok (.lload_n 1, 1) := by decide +kernel
theorem dX5_with_53 : decode cX5_with 53 = .ok (.iload 4, 2) := by decide +kernel
theorem dX5_with_55 : decode cX5_with 55 = .ok (.i2l, 1) := by decide +kernel
theorem dX5_with_56 : decode cX5_with 56 = .ok (.ladd, 1) := by decide +kernel
theorem dX5_with_57 : decode cX5_with 57 = .ok (.lreturn, 1) := by decide +kernel
theorem dX5_with_58 : decode cX5_with 58 = .ok (.lload_n 1, 1) := by decide +kernel
theorem dX5_with_59 : decode cX5_with 59 = .ok (.iload 4, 2) := by decide +kernel
theorem dX5_with_61 : decode cX5_with 61 = .ok (.i2l, 1) := by decide +kernel
theorem dX5_with_62 : decode cX5_with 62 = .ok (.invokestatic 72, 3) := by decide +kernel
theorem dX5_with_65 : decode cX5_with 65 = .ok (.lreturn, 1) := by decide +kernel
theorem dX5_with_66 : decode cX5_with 66 = .ok (.lload_n 1, 1) := by decide +kernel
theorem dX5_with_67 : decode cX5_with 67 = .ok (.iload 4, 2) := by decide +kernel
theorem dX5_with_69 : decode cX5_with 69 = .ok (.i2l, 1) := by decide +kernel
theorem dX5_with_70 : decode cX5_with 70 = .ok (.invokestatic 78, 3) := by decide +kernel
theorem dX5_with_73 : decode cX5_with 73 = .ok (.lreturn, 1) := by decide +kernel
theorem dX5_with_74 : decode cX5_with 74 = .ok (.lload_n 1, 1) := by decide +kernel
theorem dX5_with_75 : decode cX5_with 75 = .ok (.lreturn, 1) := by decide +kernel
theorem dX5_over_0 : decode cX5_over 0 = .ok (.aload_n 0, 1) := by decide +kernel
theorem dX5_over_1 : decode cX5_over 1 = .ok (.getfield 28, 3) := by decide +kernel
theorem dX5_over_4 : decode cX5_over 4 = .ok (.bipush 28, 2) := by decide +kernel
theorem dX5_over_6 : decode cX5_over 6 = .ok (.if_icmp .eq 12, 3) := by decide +kernel
theorem dX5_over_9 : decode cX5_over 9 = .ok (.aload_n 0, 1) := by decide +kernel
theorem dX5_over_10 : decode cX5_over 10 = .ok (.getfield 28, 3) := by decide +kernel
theorem dX5_over_13 : decode cX5_over 13 = .ok (.bipush 29, 2) := by decide +kernel
theorem dX5_over_15 : decode cX5_over 15 = .ok (.if_icmp .ne 9, 3) := by decide +kernel
theorem dX5_over_18 : decode cX5_over 18 = .ok (.ldc2_w 50, 3) := by decide +kernel
theorem dX5_over_21 : decode cX5_over 21 = .ok (.goto 4, 3) := by decide +kernel
theorem dX5_over_24 : decode cX5_over 24 = .ok (.lconst 0, 1) := by decide +kernel
theorem dX5_over_25 : decode cX5_over 25 = .ok (.lstore 4, 2) := by decide +kernel
theorem dX5_over_27 : decode cX5_over 27 = .ok (.iconst 0, 1) := by decide +kernel
theorem dX5_over_28 : decode cX5_over 28 = .ok (.istore 6, 2) := by decide +kernel
theorem dX5_over_30 : decode cX5_over 30 = .ok (.iload 6, 2) := by decide +kernel
theorem dX5_over_32 : decode cX5_over 32 = .ok (.aload_n 1, 1) := by decide +kernel
theorem dX5_over_33 : decode cX5_over 33 = .ok (.getfield 52, 3) := by decide +kernel
theorem dX5_over_36 : decode cX5_over 36 = .ok (.iconst 0, 1) := by decide +kernel
theorem dX5_over_37 : decode cX5_over 37 = .ok (.iaload, 1) := by decide +kernel
theorem dX5_over_38 : decode cX5_over 38 = .ok (.if_icmp .ge 76, 3) := by decide +kernel
theorem dX5_over_41 : decode cX5_over 41 = .ok (.aload_n 3, 1) := by decide +kernel
theorem dX5_over_42 : decode cX5_over 42 = .ok (.aload_n 1, 1) := by decide +kernel
theorem dX5_over_43 : decode cX5_over 43 = .ok (.aload_n 2, 1) := by decide +kernel
theorem dX5_over_44 : decode cX5_over 44 = .ok (.iload 6, 2) := by decide +kernel
theorem dX5_over_46 : decode cX5_over 46 = .ok (.aload_n 0, 1) := by decide +kernel
theorem dX5_over_47 : decode cX5_over 47 = .ok (.getfield 15, 3) := by decide +kernel
theorem dX5_over_50 : decode cX5_over 50 = .ok (.getfield 58, 3) := by decide +kernel
theorem dX5_over_53 : decode cX5_over 53 = .ok (.invokevirtual 62, 3) := by decide +kernel
theorem dX5_over_56 : decode cX5_over 56 = .ok (.istore 7, 2) := by decide +kernel
theorem dX5_over_58 : decode cX5_over 58 = .ok (.aload_n 0, 1) := by decide +kernel
theorem dX5_over_59 : decode cX5_over 59 = .ok (.getfield 28, 3) := by decide +kernel
theorem dX5_over_62 : decode cX5_over 62 = .ok (.bipush 28, 2) := by decide +kernel
theorem dX5_over_64 : decode cX5_over 64 = .ok (.if_icmp .ne 12, 3) := by decide +kernel
theorem dX5_over_67 : decode cX5_over 67 = .ok (.iload 7, 2) := by decide +kernel
theorem dX5_over_69 : decode cX5_over 69 = .ok (.ifCond .eq 7, 3) := by decide +kernel
theorem dX5_over_72 : decode cX5_over 72 = .ok (.iload 6, 2) := by decide +kernel
theorem dX5_over_74 : decode cX5_over 74 = .ok (.i2l, 1) := by decide +kernel
theorem dX5_over_75 : decode cX5_over 75 = .ok (.lreturn, 1) := by decide +kernel
theorem dX5_over_76 : decode cX5_over 76 = .ok (.iload 6, 2) := by decide +kernel
theorem dX5_over_78 : decode cX5_over 78 = .ok (.ifCond .ne 18, 3) := by decide +kernel
theorem dX5_over_81 : decode cX5_over 81 = .ok (.aload_n 0, 1) := by decide +kernel
theorem dX5_over_82 : decode cX5_over 82 = .ok (.getfield 28, 3) := by decide +kernel
theorem dX5_over_85 : decode cX5_over 85 = .ok (.bipush 32, 2) := by decide +kernel
theorem dX5_over_87 : decode cX5_over 87 = .ok (.if_icmp .lt 9, 3) := by decide +kernel
theorem dX5_over_90 : decode cX5_over 90 = .ok (.iload 7, 2) := by decide +kernel
theorem dX5_over_92 : decode cX5_over 92 = .ok (.i2l, 1) := by decide +kernel
theorem dX5_over_93 : decode cX5_over 93 = .ok (.goto 13, 3) := by decide +kernel
theorem dX5_over_96 : decode cX5_over 96 = .ok (.aload_n 0, 1) := by decide +kernel
theorem dX5_over_97 : decode cX5_over 97 = .ok (.lload 4, 2) := by decide +kernel
theorem dX5_over_99 : decode cX5_over 99 = .ok (.iload 6, 2) := by decide +kernel
theorem dX5_over_101 : decode cX5_over 101 = .ok (.iload 7, 2) := by decide +kernel
theorem dX5_over_103 : decode cX5_over 103 = .ok (.invokevirtual 68, 3) := by decide +kernel
theorem dX5_over_106 : decode cX5_over 106 = .ok (.lstore 4, 2) := by decide +kernel
theorem dX5_over_108 : decode cX5_over 108 = .ok (.iinc 6 1, 3) := by decide +kernel
theorem dX5_over_111 : decode cX5_over 111 = .ok (.goto (-81), 3) := by decide +kernel
theorem dX5_over_114 : decode cX5_over 114 = .ok (.lload 4, 2) := by decide +kernel
theorem dX5_over_116 : decode cX5_over 116 = .ok (.lreturn, 1) := by decide +kernel
theorem dX1_plan_0 : decode cX1_plan 0 = .ok (.iconst 0, 1) := by decide +kernel
theorem dX1_plan_1 : decode cX1_plan 1 = .ok (.istore_n 3, 1) := by decide +kernel
theorem dX1_plan_2 : decode cX1_plan 2 = .ok (.iconst 0, 1) := by decide +kernel
theorem dX1_plan_3 : decode cX1_plan 3 = .ok (.istore 4, 2) := by decide +kernel
theorem dX1_plan_5 : decode cX1_plan 5 = .ok (.iload 4, 2) := by decide +kernel
theorem dX1_plan_7 : decode cX1_plan 7 = .ok (.aload_n 1, 1) := by decide +kernel
theorem dX1_plan_8 : decode cX1_plan 8 = .ok (.getfield 39, 3) := by decide +kernel
theorem dX1_plan_11 : decode cX1_plan 11 = .ok (.iconst 0, 1) := by decide +kernel
theorem dX1_plan_12 : decode cX1_plan 12 = .ok (.iaload, 1) := by decide +kernel
theorem dX1_plan_13 : decode cX1_plan 13 = .ok (.if_icmp .ge 24, 3) := by decide +kernel
theorem dX1_plan_16 : decode cX1_plan 16 = .ok (.aload_n 0, 1) := by decide +kernel
theorem dX1_plan_17 : decode cX1_plan 17 = .ok (.aload_n 1, 1) := by decide +kernel
theorem dX1_plan_18 : decode cX1_plan 18 = .ok (.aload_n 2, 1) := by decide +kernel
theorem dX1_plan_19 : decode cX1_plan 19 = .ok (.iload 4, 2) := by decide +kernel
theorem dX1_plan_21 : decode cX1_plan 21 = .ok (.iload_n 3, 1) := by decide +kernel
theorem dX1_plan_22 : decode cX1_plan 22 = .ok (.invokevirtual 44, 3) := by decide +kernel
theorem dX1_plan_25 : decode cX1_plan 25 = .ok (.ifCond .eq 6, 3) := by decide +kernel
theorem dX1_plan_28 : decode cX1_plan 28 = .ok (.iinc 3 1, 3) := by decide +kernel
theorem dX1_plan_31 : decode cX1_plan 31 = .ok (.iinc 4 1, 3) := by decide +kernel
theorem dX1_plan_34 : decode cX1_plan 34 = .ok (.goto (-29), 3) := by decide +kernel
theorem dX1_plan_37 : decode cX1_plan 37 = .ok (.iconst 1, 1) := by decide +kernel
theorem dX1_plan_38 : decode cX1_plan 38 = .ok (.iload_n 3, 1) := by decide +kernel
theorem dX1_plan_39 : decode cX1_plan 39 = .ok (.ishl, 1) := by decide +kernel
theorem dX1_plan_40 : decode cX1_plan 40 = .ok (.iconst 1, 1) := by decide +kernel
theorem dX1_plan_41 : decode cX1_plan 41 = .ok (.isub, 1) := by decide +kernel
theorem dX1_plan_42 : decode cX1_plan 42 = .ok (.istore 4, 2) := by decide +kernel
theorem dX1_plan_44 : decode cX1_plan 44 = .ok (.aload_n 0, 1) := by decide +kernel
theorem dX1_plan_45 : decode cX1_plan 45 = .ok (.getfield 32, 3) := by decide +kernel
theorem dX1_plan_48 : decode cX1_plan 48 = .ok (.iconst 0, 1) := by decide +kernel
theorem dX1_plan_49 : decode cX1_plan 49 = .ok (.iload 4, 2) := by decide +kernel
theorem dX1_plan_51 : decode cX1_plan 51 = .ok (.iconst 1, 1) := by decide +kernel
theorem dX1_plan_52 : decode cX1_plan 52 = .ok (.iadd, 1) := by decide +kernel
theorem dX1_plan_53 : decode cX1_plan 53 = .ok (.ldc2_w 48, 3) := by decide +kernel
theorem dX1_plan_56 : decode cX1_plan 56 = .ok (.invokestatic 50, 3) := by decide +kernel
theorem dX1_plan_59 : decode cX1_plan 59 = .ok (.aload_n 0, 1) := by decide +kernel
theorem dX1_plan_60 : decode cX1_plan 60 = .ok (.getfield 32, 3) := by decide +kernel
theorem dX1_plan_63 : decode cX1_plan 63 = .ok (.iconst 0, 1) := by decide +kernel
theorem dX1_plan_64 : decode cX1_plan 64 = .ok (.lconst 0, 1) := by decide +kernel
theorem dX1_plan_65 : decode cX1_plan 65 = .ok (.lastore, 1) := by decide +kernel
theorem dX1_plan_66 : decode cX1_plan 66 = .ok (.iconst 0, 1) := by decide +kernel
theorem dX1_plan_67 : decode cX1_plan 67 = .ok (.istore 5, 2) := by decide +kernel
theorem dX1_plan_69 : decode cX1_plan 69 = .ok (.iload 5, 2) := by decide +kernel
theorem dX1_plan_71 : decode cX1_plan 71 = .ok (.aload_n 1, 1) := by decide +kernel
theorem dX1_plan_72 : decode cX1_plan 72 = .ok (.getfield 39, 3) := by decide +kernel
theorem dX1_plan_75 : decode cX1_plan 75 = .ok (.iconst 2, 1) := by decide +kernel
theorem dX1_plan_76 : decode cX1_plan 76 = .ok (.iaload, 1) := by decide +kernel
theorem dX1_plan_77 : decode cX1_plan 77 = .ok (.if_icmp .ge 34, 3) := by decide +kernel
theorem dX1_plan_80 : decode cX1_plan 80 = .ok (.iload_n 3, 1) := by decide +kernel
theorem dX1_plan_81 : decode cX1_plan 81 = .ok (.ifCond .le 30, 3) := by decide +kernel
theorem dX1_plan_84 : decode cX1_plan 84 = .ok (.aload_n 0, 1) := by decide +kernel
theorem dX1_plan_85 : decode cX1_plan 85 = .ok (.iload 5, 2) := by decide +kernel
theorem dX1_plan_87 : decode cX1_plan 87 = .ok (.iload 4, 2) := by decide +kernel
theorem dX1_plan_89 : decode cX1_plan 89 = .ok (.aload_n 2, 1) := by decide +kernel
theorem dX1_plan_90 : decode cX1_plan 90 = .ok (.getfield 56, 3) := by decide +kernel
theorem dX1_plan_93 : decode cX1_plan 93 = .ok (.iload 5, 2) := by decide +kernel
theorem dX1_plan_95 : decode cX1_plan 95 = .ok (.iaload, 1) := by decide +kernel
theorem dX1_plan_96 : decode cX1_plan 96 = .ok (.invokevirtual 61, 3) := by decide +kernel
theorem dX1_plan_99 : decode cX1_plan 99 = .ok (.aload_n 0, 1) := by decide +kernel
theorem dX1_plan_100 : decode cX1_plan 100 = .ok (.iload 4, 2) := by decide +kernel
theorem dX1_plan_102 : decode cX1_plan 102 = .ok (.invokevirtual 65, 3) := by decide +kernel
theorem dX1_plan_105 : decode cX1_plan 105 = .ok (.iinc 5 1, 3) := by decide +kernel
theorem dX1_plan_108 : decode cX1_plan 108 = .ok (.goto (-39), 3) := by decide +kernel
theorem dX1_plan_111 : decode cX1_plan 111 = .ok (.lconst 0, 1) := by decide +kernel
theorem dX1_plan_112 : decode cX1_plan 112 = .ok (.lstore 5, 2) := by decide +kernel
theorem dX1_plan_114 : decode cX1_plan 114 = .ok (.iconst 1, 1) := by decide +kernel
theorem dX1_plan_115 : decode cX1_plan 115 = .ok (.istore 7, 2) := by decide +kernel
theorem dX1_plan_117 : decode cX1_plan 117 = .ok (.iload 7, 2) := by decide +kernel
theorem dX1_plan_119 : decode cX1_plan 119 = .ok (.iload 4, 2) := by decide +kernel
theorem dX1_plan_121 : decode cX1_plan 121 = .ok (.if_icmp .gt 23, 3) := by decide +kernel
theorem dX1_plan_124 : decode cX1_plan 124 = .ok (.lload 5, 2) := by decide +kernel
theorem dX1_plan_126 : decode cX1_plan 126 = .ok (.aload_n 0, 1) := by decide +kernel
theorem dX1_plan_127 : decode cX1_plan 127 = .ok (.getfield 32, 3) := by decide +kernel
theorem dX1_plan_130 : decode cX1_plan 130 = .ok (.iload 7, 2) := by decide +kernel
theorem dX1_plan_132 : decode cX1_plan 132 = .ok (.laload, 1) := by decide +kernel
theorem dX1_plan_133 : decode cX1_plan 133 = .ok (.invokestatic 69, 3) := by decide +kernel
theorem dX1_plan_136 : decode cX1_plan 136 = .ok (.lstore 5, 2) := by decide +kernel
theorem dX1_plan_138 : decode cX1_plan 138 = .ok (.iinc 7 1, 3) := by decide +kernel
theorem dX1_plan_141 : decode cX1_plan 141 = .ok (.goto (-24), 3) := by decide +kernel
theorem dX1_plan_144 : decode cX1_plan 144 = .ok (.aload_n 0, 1) := by decide +kernel
theorem dX1_plan_145 : decode cX1_plan 145 = .ok (.lload 5, 2) := by decide +kernel
theorem dX1_plan_147 : decode cX1_plan 147 = .ok (.invokevirtual 75, 3) := by decide +kernel
theorem dX1_plan_150 : decode cX1_plan 150 = .ok (.return_, 1) := by decide +kernel
theorem dX1_weigh_0 : decode cX1_weigh 0 = .ok (.iconst 0, 1) := by decide +kernel
theorem dX1_weigh_1 : decode cX1_weigh 1 = .ok (.istore 5, 2) := by decide +kernel
theorem dX1_weigh_3 : decode cX1_weigh 3 = .ok (.iconst 0, 1) := by decide +kernel
theorem dX1_weigh_4 : decode cX1_weigh 4 = .ok (.istore 6, 2) := by decide +kernel
theorem dX1_weigh_6 : decode cX1_weigh 6 = .ok (.iload 6, 2) := by decide +kernel
theorem dX1_weigh_8 : decode cX1_weigh 8 = .ok (.aload_n 1, 1) := by decide +kernel
theorem dX1_weigh_9 : decode cX1_weigh 9 = .ok (.getfield 39, 3) := by decide +kernel
theorem dX1_weigh_12 : decode cX1_weigh 12 = .ok (.iconst 2, 1) := by decide +kernel
theorem dX1_weigh_13 : decode cX1_weigh 13 = .ok (.iaload, 1) := by decide +kernel
theorem dX1_weigh_14 : decode cX1_weigh 14 = .ok (.if_icmp .ge 93, 3) := by decide +kernel
theorem dX1_weigh_17 : decode cX1_weigh 17 = .ok (.aload_n 0, 1) := by decide +kernel
theorem dX1_weigh_18 : decode cX1_weigh 18 = .ok (.getfield 35, 3) := by decide +kernel
theorem dX1_weigh_21 : decode cX1_weigh 21 = .ok (.aload_n 1, 1) := by decide +kernel
theorem dX1_weigh_22 : decode cX1_weigh 22 = .ok (.aload_n 2, 1) := by decide +kernel
theorem dX1_weigh_23 : decode cX1_weigh 23 = .ok (.iload_n 3, 1) := by decide +kernel
theorem dX1_weigh_24 : decode cX1_weigh 24 = .ok (.iload 6, 2) := by decide +kernel
theorem dX1_weigh_26 : decode cX1_weigh 26 = .ok (.invokevirtual 90, 3) := by decide +kernel
theorem dX1_weigh_29 : decode cX1_weigh 29 = .ok (.istore 7, 2) := by decide +kernel
theorem dX1_weigh_31 : decode cX1_weigh 31 = .ok (.aload_n 0, 1) := by decide +kernel
theorem dX1_weigh_32 : decode cX1_weigh 32 = .ok (.getfield 17, 3) := by decide +kernel
theorem dX1_weigh_35 : decode cX1_weigh 35 = .ok (.iload 6, 2) := by decide +kernel
theorem dX1_weigh_37 : decode cX1_weigh 37 = .ok (.aaload, 1) := by decide +kernel
theorem dX1_weigh_38 : decode cX1_weigh 38 = .ok (.iload 4, 2) := by decide +kernel
theorem dX1_weigh_40 : decode cX1_weigh 40 = .ok (.iload 7, 2) := by decide +kernel
theorem dX1_weigh_42 : decode cX1_weigh 42 = .ok (.iastore, 1) := by decide +kernel
theorem dX1_weigh_43 : decode cX1_weigh 43 = .ok (.iload 7, 2) := by decide +kernel
theorem dX1_weigh_45 : decode cX1_weigh 45 = .ok (.iconst (-1), 1) := by decide +kernel
theorem dX1_weigh_46 : decode cX1_weigh 46 = .ok (.if_icmp .eq 55, 3) := by decide +kernel
theorem dX1_weigh_49 : decode cX1_weigh 49 = .ok (.iconst 1, 1) := by decide +kernel
theorem dX1_weigh_50 : decode cX1_weigh 50 = .ok (.istore 5, 2) := by decide +kernel
theorem dX1_weigh_52 : decode cX1_weigh 52 = .ok (.aload_n 0, 1) := by decide +kernel
theorem dX1_weigh_53 : decode cX1_weigh 53 = .ok (.getfield 35, 3) := by decide +kernel
theorem dX1_weigh_56 : decode cX1_weigh 56 = .ok (.aload_n 1, 1) := by decide +kernel
theorem dX1_weigh_57 : decode cX1_weigh 57 = .ok (.aload_n 2, 1) := by decide +kernel
theorem dX1_weigh_58 : decode cX1_weigh 58 = .ok (.iload_n 3, 1) := by decide +kernel
theorem dX1_weigh_59 : decode cX1_weigh 59 = .ok (.iload 6, 2) := by decide +kernel
theorem dX1_weigh_61 : decode cX1_weigh 61 = .ok (.invokevirtual 96, 3) := by decide +kernel
theorem dX1_weigh_64 : decode cX1_weigh 64 = .ok (.i2l, 1) := by decide +kernel
theorem dX1_weigh_65 : decode cX1_weigh 65 = .ok (.lstore 8, 2) := by decide +kernel
theorem dX1_weigh_67 : decode cX1_weigh 67 = .ok (.iload 6, 2) := by decide +kernel
theorem dX1_weigh_69 : decode cX1_weigh 69 = .ok (.iconst 1, 1) := by decide +kernel
theorem dX1_weigh_70 : decode cX1_weigh 70 = .ok (.iadd, 1) := by decide +kernel
theorem dX1_weigh_71 : decode cX1_weigh 71 = .ok (.i2l, 1) := by decide +kernel
theorem dX1_weigh_72 : decode cX1_weigh 72 = .ok (.iload_n 3, 1) := by decide +kernel
theorem dX1_weigh_73 : decode cX1_weigh 73 = .ok (.invokestatic 99, 3) := by decide +kernel
theorem dX1_weigh_76 : decode cX1_weigh 76 = .ok (.lshl, 1) := by decide +kernel
theorem dX1_weigh_77 : decode cX1_weigh 77 = .ok (.lstore 10, 2) := by decide +kernel
theorem dX1_weigh_79 : decode cX1_weigh 79 = .ok (.aload_n 0, 1) := by decide +kernel
theorem dX1_weigh_80 : decode cX1_weigh 80 = .ok (.getfield 22, 3) := by decide +kernel
theorem dX1_weigh_83 : decode cX1_weigh 83 = .ok (.iload 6, 2) := by decide +kernel
theorem dX1_weigh_85 : decode cX1_weigh 85 = .ok (.aaload, 1) := by decide +kernel
theorem dX1_weigh_86 : decode cX1_weigh 86 = .ok (.iload 4, 2) := by decide +kernel
theorem dX1_weigh_88 : decode cX1_weigh 88 = .ok (.ldc2_w 103, 3) := by decide +kernel
theorem dX1_weigh_91 : decode cX1_weigh 91 = .ok (.lload 8, 2) := by decide +kernel
theorem dX1_weigh_93 : decode cX1_weigh 93 = .ok (.ladd, 1) := by decide +kernel
theorem dX1_weigh_94 : decode cX1_weigh 94 = .ok (.bipush 16, 2) := by decide +kernel
theorem dX1_weigh_96 : decode cX1_weigh 96 = .ok (.lshl, 1) := by decide +kernel
theorem dX1_weigh_97 : decode cX1_weigh 97 = .ok (.lload 10, 2) := by decide +kernel
theorem dX1_weigh_99 : decode cX1_weigh 99 = .ok (.lsub, 1) := by decide +kernel
theorem dX1_weigh_100 : decode cX1_weigh 100 = .ok (.lastore, 1) := by decide +kernel
theorem dX1_weigh_101 : decode cX1_weigh 101 = .ok (.iinc 6 1, 3) := by decide +kernel
theorem dX1_weigh_104 : decode cX1_weigh 104 = .ok (.goto (-98), 3) := by decide +kernel
theorem dX1_weigh_107 : decode cX1_weigh 107 = .ok (.iload 5, 2) := by decide +kernel
theorem dX1_weigh_109 : decode cX1_weigh 109 = .ok (.ireturn, 1) := by decide +kernel
theorem dX1_spread_0 : decode cX1_spread 0 = .ok (.iload_n 1, 1) := by decide +kernel
theorem dX1_spread_1 : decode cX1_spread 1 = .ok (.istore_n 2, 1) := by decide +kernel
theorem dX1_spread_2 : decode cX1_spread 2 = .ok (.iload_n 2, 1) := by decide +kernel
theorem dX1_spread_3 : decode cX1_spread 3 = .ok (.ifCond .lt 97, 3) := by decide +kernel
theorem dX1_spread_6 : decode cX1_spread 6 = .ok (.aload_n 0, 1) := by decide +kernel
theorem dX1_spread_7 : decode cX1_spread 7 = .ok (.getfield 32, 3) := by decide +kernel
theorem dX1_spread_10 : decode cX1_spread 10 = .ok (.iload_n 2, 1) := by decide +kernel
theorem dX1_spread_11 : decode cX1_spread 11 = .ok (.laload, 1) := by decide +kernel
theorem dX1_spread_12 : decode cX1_spread 12 = .ok (.ldc2_w 48, 3) := by decide +kernel
theorem dX1_spread_15 : decode cX1_spread 15 = .ok (.lcmp, 1) := by decide +kernel
theorem dX1_spread_16 : decode cX1_spread 16 = .ok (.ifCond .ne 6, 3) := by decide +kernel
theorem dX1_spread_19 : decode cX1_spread 19 = .ok (.goto 75, 3) := by decide +kernel
theorem dX1_spread_22 : decode cX1_spread 22 = .ok (.iload_n 1, 1) := by decide +kernel
theorem dX1_spread_23 : decode cX1_spread 23 = .ok (.iload_n 2, 1) := by decide +kernel
theorem dX1_spread_24 : decode cX1_spread 24 = .ok (.ixor, 1) := by decide +kernel
theorem dX1_spread_25 : decode cX1_spread 25 = .ok (.istore_n 3, 1) := by decide +kernel
theorem dX1_spread_26 : decode cX1_spread 26 = .ok (.iload_n 3, 1) := by decide +kernel
theorem dX1_spread_27 : decode cX1_spread 27 = .ok (.istore 4, 2) := by decide +kernel
theorem dX1_spread_29 : decode cX1_spread 29 = .ok (.iload 4, 2) := by decide +kernel
theorem dX1_spread_31 : decode cX1_spread 31 = .ok (.ifCond .le 63, 3) := by decide +kernel
theorem dX1_spread_34 : decode cX1_spread 34 = .ok (.aload_n 0, 1) := by decide +kernel
theorem dX1_spread_35 : decode cX1_spread 35 = .ok (.getfield 28, 3) := by decide +kernel
theorem dX1_spread_38 : decode cX1_spread 38 = .ok (.iload 4, 2) := by decide +kernel
theorem dX1_spread_40 : decode cX1_spread 40 = .ok (.laload, 1) := by decide +kernel
theorem dX1_spread_41 : decode cX1_spread 41 = .ok (.ldc2_w 48, 3) := by decide +kernel
theorem dX1_spread_44 : decode cX1_spread 44 = .ok (.lcmp, 1) := by decide +kernel
theorem dX1_spread_45 : decode cX1_spread 45 = .ok (.ifCond .eq 38, 3) := by decide +kernel
theorem dX1_spread_48 : decode cX1_spread 48 = .ok (.aload_n 0, 1) := by decide +kernel
theorem dX1_spread_49 : decode cX1_spread 49 = .ok (.getfield 32, 3) := by decide +kernel
theorem dX1_spread_52 : decode cX1_spread 52 = .ok (.iload_n 2, 1) := by decide +kernel
theorem dX1_spread_53 : decode cX1_spread 53 = .ok (.iload 4, 2) := by decide +kernel
theorem dX1_spread_55 : decode cX1_spread 55 = .ok (.ior, 1) := by decide +kernel
theorem dX1_spread_56 : decode cX1_spread 56 = .ok (.aload_n 0, 1) := by decide +kernel
theorem dX1_spread_57 : decode cX1_spread 57 = .ok (.getfield 32, 3) := by decide +kernel
theorem dX1_spread_60 : decode cX1_spread 60 = .ok (.iload_n 2, 1) := by decide +kernel
theorem dX1_spread_61 : decode cX1_spread 61 = .ok (.iload 4, 2) := by decide +kernel
theorem dX1_spread_63 : decode cX1_spread 63 = .ok (.ior, 1) := by decide +kernel
theorem dX1_spread_64 : decode cX1_spread 64 = .ok (.laload, 1) := by decide +kernel
theorem dX1_spread_65 : decode cX1_spread 65 = .ok (.aload_n 0, 1) := by decide +kernel
theorem dX1_spread_66 : decode cX1_spread 66 = .ok (.getfield 32, 3) := by decide +kernel
theorem dX1_spread_69 : decode cX1_spread 69 = .ok (.iload_n 2, 1) := by decide +kernel
theorem dX1_spread_70 : decode cX1_spread 70 = .ok (.laload, 1) := by decide +kernel
theorem dX1_spread_71 : decode cX1_spread 71 = .ok (.aload_n 0, 1) := by decide +kernel
theorem dX1_spread_72 : decode cX1_spread 72 = .ok (.getfield 28, 3) := by decide +kernel
theorem dX1_spread_75 : decode cX1_spread 75 = .ok (.iload 4, 2) := by decide +kernel
theorem dX1_spread_77 : decode cX1_spread 77 = .ok (.laload, 1) := by decide +kernel
theorem dX1_spread_78 : decode cX1_spread 78 = .ok (.ladd, 1) := by decide +kernel
theorem dX1_spread_79 : decode cX1_spread 79 = .ok (.invokestatic 69, 3) := by decide +kernel
theorem dX1_spread_82 : decode cX1_spread 82 = .ok (.lastore, 1) := by decide +kernel
theorem dX1_spread_83 : decode cX1_spread 83 = .ok (.iload 4, 2) := by decide +kernel
theorem dX1_spread_85 : decode cX1_spread 85 = .ok (.iconst 1, 1) := by decide +kernel
theorem dX1_spread_86 : decode cX1_spread 86 = .ok (.isub, 1) := by decide +kernel
theorem dX1_spread_87 : decode cX1_spread 87 = .ok (.iload_n 3, 1) := by decide +kernel
theorem dX1_spread_88 : decode cX1_spread 88 = .ok (.iand, 1) := by decide +kernel
theorem dX1_spread_89 : decode cX1_spread 89 = .ok (.istore 4, 2) := by decide +kernel
theorem dX1_spread_91 : decode cX1_spread 91 = .ok (.goto (-62), 3) := by decide +kernel
theorem dX1_spread_94 : decode cX1_spread 94 = .ok (.iinc 2 (-1), 3) := by decide +kernel
theorem dX1_spread_97 : decode cX1_spread 97 = .ok (.goto (-95), 3) := by decide +kernel
theorem dX1_spread_100 : decode cX1_spread 100 = .ok (.return_, 1) := by decide +kernel
theorem dX1_readOff_0 : decode cX1_readOff 0 = .ok (.lload_n 1, 1) := by decide +kernel
theorem dX1_readOff_1 : decode cX1_readOff 1 = .ok (.lneg, 1) := by decide +kernel
theorem dX1_readOff_2 : decode cX1_readOff 2 = .ok (.ldc2_w 105, 3) := by decide +kernel
theorem dX1_readOff_5 : decode cX1_readOff 5 = .ok (.land, 1) := by decide +kernel
theorem dX1_readOff_6 : decode cX1_readOff 6 = .ok (.l2i, 1) := by decide +kernel
theorem dX1_readOff_7 : decode cX1_readOff 7 = .ok (.istore_n 3, 1) := by decide +kernel
theorem dX1_readOff_8 : decode cX1_readOff 8 = .ok (.aload_n 0, 1) := by decide +kernel
theorem dX1_readOff_9 : decode cX1_readOff 9 = .ok (.iconst 0, 1) := by decide +kernel
theorem dX1_readOff_10 : decode cX1_readOff 10 = .ok (.putfield 107, 3) := by decide +kernel
theorem dX1_readOff_13 : decode cX1_readOff 13 = .ok (.iconst 0, 1) := by decide +kernel
theorem dX1_readOff_14 : decode cX1_readOff 14 = .ok (.istore 4, 2) := by decide +kernel
theorem dX1_readOff_16 : decode cX1_readOff 16 = .ok (.iload 4, 2) := by decide +kernel
theorem dX1_readOff_18 : decode cX1_readOff 18 = .ok (.bipush 8, 2) := by decide +kernel
theorem dX1_readOff_20 : decode cX1_readOff 20 = .ok (.if_icmp .ge 52, 3) := by decide +kernel
theorem dX1_readOff_23 : decode cX1_readOff 23 = .ok (.aload_n 0, 1) := by decide +kernel
theorem dX1_readOff_24 : decode cX1_readOff 24 = .ok (.getfield 9, 3) := by decide +kernel
theorem dX1_readOff_27 : decode cX1_readOff 27 = .ok (.iload 4, 2) := by decide +kernel
theorem dX1_readOff_29 : decode cX1_readOff 29 = .ok (.iload_n 3, 1) := by decide +kernel
theorem dX1_readOff_30 : decode cX1_readOff 30 = .ok (.iload 4, 2) := by decide +kernel
theorem dX1_readOff_32 : decode cX1_readOff 32 = .ok (.invokestatic 99, 3) := by decide +kernel
theorem dX1_readOff_35 : decode cX1_readOff 35 = .ok (.ishr, 1) := by decide +kernel
theorem dX1_readOff_36 : decode cX1_readOff 36 = .ok (.iconst 3, 1) := by decide +kernel
theorem dX1_readOff_37 : decode cX1_readOff 37 = .ok (.iand, 1) := by decide +kernel
theorem dX1_readOff_38 : decode cX1_readOff 38 = .ok (.iconst 1, 1) := by decide +kernel
theorem dX1_readOff_39 : decode cX1_readOff 39 = .ok (.isub, 1) := by decide +kernel
theorem dX1_readOff_40 : decode cX1_readOff 40 = .ok (.iastore, 1) := by decide +kernel
theorem dX1_readOff_41 : decode cX1_readOff 41 = .ok (.aload_n 0, 1) := by decide +kernel
theorem dX1_readOff_42 : decode cX1_readOff 42 = .ok (.dup, 1) := by decide +kernel
theorem dX1_readOff_43 : decode cX1_readOff 43 = .ok (.getfield 107, 3) := by decide +kernel
theorem dX1_readOff_46 : decode cX1_readOff 46 = .ok (.aload_n 0, 1) := by decide +kernel
theorem dX1_readOff_47 : decode cX1_readOff 47 = .ok (.getfield 9, 3) := by decide +kernel
theorem dX1_readOff_50 : decode cX1_readOff 50 = .ok (.iload 4, 2) := by decide +kernel
theorem dX1_readOff_52 : decode cX1_readOff 52 = .ok (.iaload, 1) := by decide +kernel
theorem dX1_readOff_53 : decode cX1_readOff 53 = .ok (.iconst (-1), 1) := by decide +kernel
theorem dX1_readOff_54 : decode cX1_readOff 54 = .ok (.if_icmp .ne 7, 3) := by decide +kernel
theorem dX1_readOff_57 : decode cX1_readOff 57 = .ok (.iconst 0, 1) := by decide +kernel
theorem dX1_readOff_58 : decode cX1_readOff 58 = .ok (.goto 4, 3) := by decide +kernel
theorem dX1_readOff_61 : decode cX1_readOff 61 = .ok (.iconst 1, 1) := by decide +kernel
theorem dX1_readOff_62 : decode cX1_readOff 62 = .ok (.iadd, 1) := by decide +kernel
theorem dX1_readOff_63 : decode cX1_readOff 63 = .ok (.putfield 107, 3) := by decide +kernel
theorem dX1_readOff_66 : decode cX1_readOff 66 = .ok (.iinc 4 1, 3) := by decide +kernel
theorem dX1_readOff_69 : decode cX1_readOff 69 = .ok (.goto (-53), 3) := by decide +kernel
theorem dX1_readOff_72 : decode cX1_readOff 72 = .ok (.aload_n 0, 1) := by decide +kernel
theorem dX1_readOff_73 : decode cX1_readOff 73 = .ok (.lload_n 1, 1) := by decide +kernel
theorem dX1_readOff_74 : decode cX1_readOff 74 = .ok (.iload_n 3, 1) := by decide +kernel
theorem dX1_readOff_75 : decode cX1_readOff 75 = .ok (.i2l, 1) := by decide +kernel
theorem dX1_readOff_76 : decode cX1_readOff 76 = .ok (.ladd, 1) := by decide +kernel
theorem dX1_readOff_77 : decode cX1_readOff 77 = .ok (.bipush 16, 2) := by decide +kernel
theorem dX1_readOff_79 : decode cX1_readOff 79 = .ok (.lshr, 1) := by decide +kernel
theorem dX1_readOff_80 : decode cX1_readOff 80 = .ok (.aload_n 0, 1) := by decide +kernel
theorem dX1_readOff_81 : decode cX1_readOff 81 = .ok (.getfield 107, 3) := by decide +kernel
theorem dX1_readOff_84 : decode cX1_readOff 84 = .ok (.i2l, 1) := by decide +kernel
theorem dX1_readOff_85 : decode cX1_readOff 85 = .ok (.bipush 28, 2) := by decide +kernel
theorem dX1_readOff_87 : decode cX1_readOff 87 = .ok (.lshl, 1) := by decide +kernel
theorem dX1_readOff_88 : decode cX1_readOff 88 = .ok (.lsub, 1) := by decide +kernel
theorem dX1_readOff_89 : decode cX1_readOff 89 = .ok (.putfield 110, 3) := by decide +kernel
theorem dX1_readOff_92 : decode cX1_readOff 92 = .ok (.return_, 1) := by decide +kernel
theorem dX1_rowShift_0 : decode cX1_rowShift 0 = .ok (.bipush 14, 2) := by decide +kernel
theorem dX1_rowShift_2 : decode cX1_rowShift 2 = .ok (.iconst 2, 1) := by decide +kernel
theorem dX1_rowShift_3 : decode cX1_rowShift 3 = .ok (.iload_n 0, 1) := by decide +kernel
theorem dX1_rowShift_4 : decode cX1_rowShift 4 = .ok (.imul, 1) := by decide +kernel
theorem dX1_rowShift_5 : decode cX1_rowShift 5 = .ok (.isub, 1) := by decide +kernel
theorem dX1_rowShift_6 : decode cX1_rowShift 6 = .ok (.ireturn, 1) := by decide +kernel
theorem dX1_close_0 : decode cX1_close 0 = .ok (.iconst 0, 1) := by decide +kernel
theorem dX1_close_1 : decode cX1_close 1 = .ok (.istore_n 3, 1) := by decide +kernel
theorem dX1_close_2 : decode cX1_close 2 = .ok (.iload_n 3, 1) := by decide +kernel
theorem dX1_close_3 : decode cX1_close 3 = .ok (.aload_n 1, 1) := by decide +kernel
theorem dX1_close_4 : decode cX1_close 4 = .ok (.getfield 39, 3) := by decide +kernel
theorem dX1_close_7 : decode cX1_close 7 = .ok (.iconst 0, 1) := by decide +kernel
theorem dX1_close_8 : decode cX1_close 8 = .ok (.iaload, 1) := by decide +kernel
theorem dX1_close_9 : decode cX1_close 9 = .ok (.if_icmp .ge 31, 3) := by decide +kernel
theorem dX1_close_12 : decode cX1_close 12 = .ok (.aload_n 0, 1) := by decide +kernel
theorem dX1_close_13 : decode cX1_close 13 = .ok (.getfield 9, 3) := by decide +kernel
theorem dX1_close_16 : decode cX1_close 16 = .ok (.iload_n 3, 1) := by decide +kernel
theorem dX1_close_17 : decode cX1_close 17 = .ok (.iaload, 1) := by decide +kernel
theorem dX1_close_18 : decode cX1_close 18 = .ok (.iconst (-1), 1) := by decide +kernel
theorem dX1_close_19 : decode cX1_close 19 = .ok (.if_icmp .eq 15, 3) := by decide +kernel
theorem dX1_close_22 : decode cX1_close 22 = .ok (.aload_n 2, 1) := by decide +kernel
theorem dX1_close_23 : decode cX1_close 23 = .ok (.getfield 79, 3) := by decide +kernel
theorem dX1_close_26 : decode cX1_close 26 = .ok (.iload_n 3, 1) := by decide +kernel
theorem dX1_close_27 : decode cX1_close 27 = .ok (.aload_n 0, 1) := by decide +kernel
theorem dX1_close_28 : decode cX1_close 28 = .ok (.getfield 9, 3) := by decide +kernel
theorem dX1_close_31 : decode cX1_close 31 = .ok (.iload_n 3, 1) := by decide +kernel
theorem dX1_close_32 : decode cX1_close 32 = .ok (.iaload, 1) := by decide +kernel
theorem dX1_close_33 : decode cX1_close 33 = .ok (.iastore, 1) := by decide +kernel
theorem dX1_close_34 : decode cX1_close 34 = .ok (.iinc 3 1, 3) := by decide +kernel
theorem dX1_close_37 : decode cX1_close 37 = .ok (.goto (-35), 3) := by decide +kernel
theorem dX1_close_40 : decode cX1_close 40 = .ok (.aload_n 2, 1) := by decide +kernel
theorem dX1_close_41 : decode cX1_close 41 = .ok (.dup, 1) := by decide +kernel
theorem dX1_close_42 : decode cX1_close 42 = .ok (.getfield 82, 3) := by decide +kernel
theorem dX1_close_45 : decode cX1_close 45 = .ok (.iconst 1, 1) := by decide +kernel
theorem dX1_close_46 : decode cX1_close 46 = .ok (.iadd, 1) := by decide +kernel
theorem dX1_close_47 : decode cX1_close 47 = .ok (.putfield 82, 3) := by decide +kernel
theorem dX1_close_50 : decode cX1_close 50 = .ok (.aload_n 2, 1) := by decide +kernel
theorem dX1_close_51 : decode cX1_close 51 = .ok (.aload_n 1, 1) := by decide +kernel
theorem dX1_close_52 : decode cX1_close 52 = .ok (.invokevirtual 86, 3) := by decide +kernel
theorem dX1_close_55 : decode cX1_close 55 = .ok (.return_, 1) := by decide +kernel
theorem dX1_price_0 : decode cX1_price 0 = .ok (.aload_n 0, 1) := by decide +kernel
theorem dX1_price_1 : decode cX1_price 1 = .ok (.getfield 28, 3) := by decide +kernel
theorem dX1_price_4 : decode cX1_price 4 = .ok (.iconst 0, 1) := by decide +kernel
theorem dX1_price_5 : decode cX1_price 5 = .ok (.lconst 0, 1) := by decide +kernel
theorem dX1_price_6 : decode cX1_price 6 = .ok (.lastore, 1) := by decide +kernel
theorem dX1_price_7 : decode cX1_price 7 = .ok (.aload_n 0, 1) := by decide +kernel
theorem dX1_price_8 : decode cX1_price 8 = .ok (.getfield 25, 3) := by decide +kernel
theorem dX1_price_11 : decode cX1_price 11 = .ok (.iconst 0, 1) := by decide +kernel
theorem dX1_price_12 : decode cX1_price 12 = .ok (.iconst 0, 1) := by decide +kernel
theorem dX1_price_13 : decode cX1_price 13 = .ok (.iastore, 1) := by decide +kernel
theorem dX1_price_14 : decode cX1_price 14 = .ok (.iconst 0, 1) := by decide +kernel
theorem dX1_price_15 : decode cX1_price 15 = .ok (.istore 4, 2) := by decide +kernel
theorem dX1_price_17 : decode cX1_price 17 = .ok (.iconst 1, 1) := by decide +kernel
theorem dX1_price_18 : decode cX1_price 18 = .ok (.istore 5, 2) := by decide +kernel
theorem dX1_price_20 : decode cX1_price 20 = .ok (.iload 5, 2) := by decide +kernel
theorem dX1_price_22 : decode cX1_price 22 = .ok (.iload_n 2, 1) := by decide +kernel
theorem dX1_price_23 : decode cX1_price 23 = .ok (.if_icmp .gt 131, 3) := by decide +kernel
theorem dX1_price_26 : decode cX1_price 26 = .ok (.iload 5, 2) := by decide +kernel
theorem dX1_price_28 : decode cX1_price 28 = .ok (.iconst 2, 1) := by decide +kernel
theorem dX1_price_29 : decode cX1_price 29 = .ok (.iload 4, 2) := by decide +kernel
theorem dX1_price_31 : decode cX1_price 31 = .ok (.ishl, 1) := by decide +kernel
theorem dX1_price_32 : decode cX1_price 32 = .ok (.if_icmp .ne 6, 3) := by decide +kernel
theorem dX1_price_35 : decode cX1_price 35 = .ok (.iinc 4 1, 3) := by decide +kernel
theorem dX1_price_38 : decode cX1_price 38 = .ok (.iload 5, 2) := by decide +kernel
theorem dX1_price_40 : decode cX1_price 40 = .ok (.iconst 1, 1) := by decide +kernel
theorem dX1_price_41 : decode cX1_price 41 = .ok (.iload 4, 2) := by decide +kernel
theorem dX1_price_43 : decode cX1_price 43 = .ok (.ishl, 1) := by decide +kernel
theorem dX1_price_44 : decode cX1_price 44 = .ok (.ixor, 1) := by decide +kernel
theorem dX1_price_45 : decode cX1_price 45 = .ok (.istore 6, 2) := by decide +kernel
theorem dX1_price_47 : decode cX1_price 47 = .ok (.aload_n 0, 1) := by decide +kernel
theorem dX1_price_48 : decode cX1_price 48 = .ok (.getfield 17, 3) := by decide +kernel
theorem dX1_price_51 : decode cX1_price 51 = .ok (.iload_n 1, 1) := by decide +kernel
theorem dX1_price_52 : decode cX1_price 52 = .ok (.aaload, 1) := by decide +kernel
theorem dX1_price_53 : decode cX1_price 53 = .ok (.iload 4, 2) := by decide +kernel
theorem dX1_price_55 : decode cX1_price 55 = .ok (.iaload, 1) := by decide +kernel
theorem dX1_price_56 : decode cX1_price 56 = .ok (.istore 7, 2) := by decide +kernel
theorem dX1_price_58 : decode cX1_price 58 = .ok (.aload_n 0, 1) := by decide +kernel
theorem dX1_price_59 : decode cX1_price 59 = .ok (.getfield 25, 3) := by decide +kernel
theorem dX1_price_62 : decode cX1_price 62 = .ok (.iload 5, 2) := by decide +kernel
theorem dX1_price_64 : decode cX1_price 64 = .ok (.aload_n 0, 1) := by decide +kernel
theorem dX1_price_65 : decode cX1_price 65 = .ok (.getfield 25, 3) := by decide +kernel
theorem dX1_price_68 : decode cX1_price 68 = .ok (.iload 6, 2) := by decide +kernel
theorem dX1_price_70 : decode cX1_price 70 = .ok (.iaload, 1) := by decide +kernel
theorem dX1_price_71 : decode cX1_price 71 = .ok (.iload 7, 2) := by decide +kernel
theorem dX1_price_73 : decode cX1_price 73 = .ok (.iadd, 1) := by decide +kernel
theorem dX1_price_74 : decode cX1_price 74 = .ok (.iastore, 1) := by decide +kernel
theorem dX1_price_75 : decode cX1_price 75 = .ok (.aload_n 0, 1) := by decide +kernel
theorem dX1_price_76 : decode cX1_price 76 = .ok (.getfield 28, 3) := by decide +kernel
theorem dX1_price_79 : decode cX1_price 79 = .ok (.iload 6, 2) := by decide +kernel
theorem dX1_price_81 : decode cX1_price 81 = .ok (.laload, 1) := by decide +kernel
theorem dX1_price_82 : decode cX1_price 82 = .ok (.ldc2_w 48, 3) := by decide +kernel
theorem dX1_price_85 : decode cX1_price 85 = .ok (.lcmp, 1) := by decide +kernel
theorem dX1_price_86 : decode cX1_price 86 = .ok (.ifCond .eq 24, 3) := by decide +kernel
theorem dX1_price_89 : decode cX1_price 89 = .ok (.iload 7, 2) := by decide +kernel
theorem dX1_price_91 : decode cX1_price 91 = .ok (.iconst (-1), 1) := by decide +kernel
theorem dX1_price_92 : decode cX1_price 92 = .ok (.if_icmp .eq 18, 3) := by decide +kernel
theorem dX1_price_95 : decode cX1_price 95 = .ok (.aload_n 0, 1) := by decide +kernel
theorem dX1_price_96 : decode cX1_price 96 = .ok (.getfield 25, 3) := by decide +kernel
theorem dX1_price_99 : decode cX1_price 99 = .ok (.iload 5, 2) := by decide +kernel
theorem dX1_price_101 : decode cX1_price 101 = .ok (.iaload, 1) := by decide +kernel
theorem dX1_price_102 : decode cX1_price 102 = .ok (.iload_n 3, 1) := by decide +kernel
theorem dX1_price_103 : decode cX1_price 103 = .ok (.if_icmp .gt 7, 3) := by decide +kernel
theorem dX1_price_106 : decode cX1_price 106 = .ok (.iconst 1, 1) := by decide +kernel
theorem dX1_price_107 : decode cX1_price 107 = .ok (.goto 4, 3) := by decide +kernel
theorem dX1_price_110 : decode cX1_price 110 = .ok (.iconst 0, 1) := by decide +kernel
theorem dX1_price_111 : decode cX1_price 111 = .ok (.istore 8, 2) := by decide +kernel
theorem dX1_price_113 : decode cX1_price 113 = .ok (.aload_n 0, 1) := by decide +kernel
theorem dX1_price_114 : decode cX1_price 114 = .ok (.getfield 28, 3) := by decide +kernel
theorem dX1_price_117 : decode cX1_price 117 = .ok (.iload 5, 2) := by decide +kernel
theorem dX1_price_119 : decode cX1_price 119 = .ok (.iload 8, 2) := by decide +kernel
theorem dX1_price_121 : decode cX1_price 121 = .ok (.ifCond .eq 23, 3) := by decide +kernel
theorem dX1_price_124 : decode cX1_price 124 = .ok (.aload_n 0, 1) := by decide +kernel
theorem dX1_price_125 : decode cX1_price 125 = .ok (.getfield 28, 3) := by decide +kernel
theorem dX1_price_128 : decode cX1_price 128 = .ok (.iload 6, 2) := by decide +kernel
theorem dX1_price_130 : decode cX1_price 130 = .ok (.laload, 1) := by decide +kernel
theorem dX1_price_131 : decode cX1_price 131 = .ok (.aload_n 0, 1) := by decide +kernel
theorem dX1_price_132 : decode cX1_price 132 = .ok (.getfield 22, 3) := by decide +kernel
theorem dX1_price_135 : decode cX1_price 135 = .ok (.iload_n 1, 1) := by decide +kernel
theorem dX1_price_136 : decode cX1_price 136 = .ok (.aaload, 1) := by decide +kernel
theorem dX1_price_137 : decode cX1_price 137 = .ok (.iload 4, 2) := by decide +kernel
theorem dX1_price_139 : decode cX1_price 139 = .ok (.laload, 1) := by decide +kernel
theorem dX1_price_140 : decode cX1_price 140 = .ok (.ladd, 1) := by decide +kernel
theorem dX1_price_141 : decode cX1_price 141 = .ok (.goto 6, 3) := by decide +kernel
theorem dX1_price_144 : decode cX1_price 144 = .ok (.ldc2_w 48, 3) := by decide +kernel
theorem dX1_price_147 : decode cX1_price 147 = .ok (.lastore, 1) := by decide +kernel
theorem dX1_price_148 : decode cX1_price 148 = .ok (.iinc 5 1, 3) := by decide +kernel
theorem dX1_price_151 : decode cX1_price 151 = .ok (.goto (-131), 3) := by decide +kernel
theorem dX1_price_154 : decode cX1_price 154 = .ok (.return_, 1) := by decide +kernel
theorem dX6_mostBy_0 : decode cX6_mostBy 0 = .ok (.iload_n 3, 1) := by decide +kernel
theorem dX6_mostBy_1 : decode cX6_mostBy 1 = .ok (.iconst 2, 1) := by decide +kernel
theorem dX6_mostBy_2 : decode cX6_mostBy 2 = .ok (.iload 4, 2) := by decide +kernel
theorem dX6_mostBy_4 : decode cX6_mostBy 4 = .ok (.imul, 1) := by decide +kernel
theorem dX6_mostBy_5 : decode cX6_mostBy 5 = .ok (.ishr, 1) := by decide +kernel
theorem dX6_mostBy_6 : decode cX6_mostBy 6 = .ok (.iconst 3, 1) := by decide +kernel
theorem dX6_mostBy_7 : decode cX6_mostBy 7 = .ok (.iand, 1) := by decide +kernel
theorem dX6_mostBy_8 : decode cX6_mostBy 8 = .ok (.ifCond .ne 5, 3) := by decide +kernel
theorem dX6_mostBy_11 : decode cX6_mostBy 11 = .ok (.iconst (-1), 1) := by decide +kernel
theorem dX6_mostBy_12 : decode cX6_mostBy 12 = .ok (.ireturn, 1) := by decide +kernel
theorem dX6_mostBy_13 : decode cX6_mostBy 13 = .ok (.aload_n 0, 1) := by decide +kernel
theorem dX6_mostBy_14 : decode cX6_mostBy 14 = .ok (.getfield 15, 3) := by decide +kernel
theorem dX6_mostBy_17 : decode cX6_mostBy 17 = .ok (.iload_n 2, 1) := by decide +kernel
theorem dX6_mostBy_18 : decode cX6_mostBy 18 = .ok (.iaload, 1) := by decide +kernel
theorem dX6_mostBy_19 : decode cX6_mostBy 19 = .ok (.istore 5, 2) := by decide +kernel
theorem dX6_mostBy_21 : decode cX6_mostBy 21 = .ok (.aload_n 1, 1) := by decide +kernel
theorem dX6_mostBy_22 : decode cX6_mostBy 22 = .ok (.getfield 33, 3) := by decide +kernel
theorem dX6_mostBy_25 : decode cX6_mostBy 25 = .ok (.iload 5, 2) := by decide +kernel
theorem dX6_mostBy_27 : decode cX6_mostBy 27 = .ok (.iaload, 1) := by decide +kernel
theorem dX6_mostBy_28 : decode cX6_mostBy 28 = .ok (.aload_n 1, 1) := by decide +kernel
theorem dX6_mostBy_29 : decode cX6_mostBy 29 = .ok (.getfield 75, 3) := by decide +kernel
theorem dX6_mostBy_32 : decode cX6_mostBy 32 = .ok (.iload 5, 2) := by decide +kernel
theorem dX6_mostBy_34 : decode cX6_mostBy 34 = .ok (.aaload, 1) := by decide +kernel
theorem dX6_mostBy_35 : decode cX6_mostBy 35 = .ok (.iload 4, 2) := by decide +kernel
theorem dX6_mostBy_37 : decode cX6_mostBy 37 = .ok (.iaload, 1) := by decide +kernel
theorem dX6_mostBy_38 : decode cX6_mostBy 38 = .ok (.imul, 1) := by decide +kernel
theorem dX6_mostBy_39 : decode cX6_mostBy 39 = .ok (.aload_n 0, 1) := by decide +kernel
theorem dX6_mostBy_40 : decode cX6_mostBy 40 = .ok (.getfield 20, 3) := by decide +kernel
theorem dX6_mostBy_43 : decode cX6_mostBy 43 = .ok (.iload_n 2, 1) := by decide +kernel
theorem dX6_mostBy_44 : decode cX6_mostBy 44 = .ok (.iconst 1, 1) := by decide +kernel
theorem dX6_mostBy_45 : decode cX6_mostBy 45 = .ok (.iadd, 1) := by decide +kernel
theorem dX6_mostBy_46 : decode cX6_mostBy 46 = .ok (.aaload, 1) := by decide +kernel
theorem dX6_mostBy_47 : decode cX6_mostBy 47 = .ok (.iload_n 3, 1) := by decide +kernel
theorem dX6_mostBy_48 : decode cX6_mostBy 48 = .ok (.iconst 1, 1) := by decide +kernel
theorem dX6_mostBy_49 : decode cX6_mostBy 49 = .ok (.iconst 2, 1) := by decide +kernel
theorem dX6_mostBy_50 : decode cX6_mostBy 50 = .ok (.iload 4, 2) := by decide +kernel
theorem dX6_mostBy_52 : decode cX6_mostBy 52 = .ok (.imul, 1) := by decide +kernel
theorem dX6_mostBy_53 : decode cX6_mostBy 53 = .ok (.ishl, 1) := by decide +kernel
theorem dX6_mostBy_54 : decode cX6_mostBy 54 = .ok (.isub, 1) := by decide +kernel
theorem dX6_mostBy_55 : decode cX6_mostBy 55 = .ok (.iaload, 1) := by decide +kernel
theorem dX6_mostBy_56 : decode cX6_mostBy 56 = .ok (.iadd, 1) := by decide +kernel
theorem dX6_mostBy_57 : decode cX6_mostBy 57 = .ok (.ireturn, 1) := by decide +kernel
theorem dX6_isWithin_0 : decode cX6_isWithin 0 = .ok (.iconst 0, 1) := by decide +kernel
theorem dX6_isWithin_1 : decode cX6_isWithin 1 = .ok (.istore_n 2, 1) := by decide +kernel
theorem dX6_isWithin_2 : decode cX6_isWithin 2 = .ok (.iload_n 2, 1) := by decide +kernel
theorem dX6_isWithin_3 : decode cX6_isWithin 3 = .ok (.bipush 8, 2) := by decide +kernel
theorem dX6_isWithin_5 : decode cX6_isWithin 5 = .ok (.if_icmp .ge 24, 3) := by decide +kernel
theorem dX6_isWithin_8 : decode cX6_isWithin 8 = .ok (.iload_n 0, 1) := by decide +kernel
theorem dX6_isWithin_9 : decode cX6_isWithin 9 = .ok (.iload_n 2, 1) := by decide +kernel
theorem dX6_isWithin_10 : decode cX6_isWithin 10 = .ok (.ishr, 1) := by decide +kernel
theorem dX6_isWithin_11 : decode cX6_isWithin 11 = .ok (.iconst 3, 1) := by decide +kernel
theorem dX6_isWithin_12 : decode cX6_isWithin 12 = .ok (.iand, 1) := by decide +kernel
theorem dX6_isWithin_13 : decode cX6_isWithin 13 = .ok (.iload_n 1, 1) := by decide +kernel
theorem dX6_isWithin_14 : decode cX6_isWithin 14 = .ok (.iload_n 2, 1) := by decide +kernel
theorem dX6_isWithin_15 : decode cX6_isWithin 15 = .ok (.ishr, 1) := by decide +kernel
theorem dX6_isWithin_16 : decode cX6_isWithin 16 = .ok (.iconst 3, 1) := by decide +kernel
theorem dX6_isWithin_17 : decode cX6_isWithin 17 = .ok (.iand, 1) := by decide +kernel
theorem dX6_isWithin_18 : decode cX6_isWithin 18 = .ok (.if_icmp .le 5, 3) := by decide +kernel
theorem dX6_isWithin_21 : decode cX6_isWithin 21 = .ok (.iconst 0, 1) := by decide +kernel
theorem dX6_isWithin_22 : decode cX6_isWithin 22 = .ok (.ireturn, 1) := by decide +kernel
theorem dX6_isWithin_23 : decode cX6_isWithin 23 = .ok (.iinc 2 2, 3) := by decide +kernel
theorem dX6_isWithin_26 : decode cX6_isWithin 26 = .ok (.goto (-24), 3) := by decide +kernel
theorem dX6_isWithin_29 : decode cX6_isWithin 29 = .ok (.iconst 1, 1) := by decide +kernel
theorem dX6_isWithin_30 : decode cX6_isWithin 30 = .ok (.ireturn, 1) := by decide +kernel
theorem dX6_choose_0 : decode cX6_choose 0 = .ok (.iload_n 3, 1) := by decide +kernel
theorem dX6_choose_1 : decode cX6_choose 1 = .ok (.istore 4, 2) := by decide +kernel
theorem dX6_choose_3 : decode cX6_choose 3 = .ok (.iconst 0, 1) := by decide +kernel
theorem dX6_choose_4 : decode cX6_choose 4 = .ok (.istore 5, 2) := by decide +kernel
theorem dX6_choose_6 : decode cX6_choose 6 = .ok (.iload 5, 2) := by decide +kernel
theorem dX6_choose_8 : decode cX6_choose 8 = .ok (.iload_n 2, 1) := by decide +kernel
theorem dX6_choose_9 : decode cX6_choose 9 = .ok (.if_icmp .ge 109, 3) := by decide +kernel
theorem dX6_choose_12 : decode cX6_choose 12 = .ok (.aload_n 0, 1) := by decide +kernel
theorem dX6_choose_13 : decode cX6_choose 13 = .ok (.getfield 20, 3) := by decide +kernel
theorem dX6_choose_16 : decode cX6_choose 16 = .ok (.iload 5, 2) := by decide +kernel
theorem dX6_choose_18 : decode cX6_choose 18 = .ok (.iconst 1, 1) := by decide +kernel
theorem dX6_choose_19 : decode cX6_choose 19 = .ok (.iadd, 1) := by decide +kernel
theorem dX6_choose_20 : decode cX6_choose 20 = .ok (.aaload, 1) := by decide +kernel
theorem dX6_choose_21 : decode cX6_choose 21 = .ok (.iload 4, 2) := by decide +kernel
theorem dX6_choose_23 : decode cX6_choose 23 = .ok (.iaload, 1) := by decide +kernel
theorem dX6_choose_24 : decode cX6_choose 24 = .ok (.aload_n 0, 1) := by decide +kernel
theorem dX6_choose_25 : decode cX6_choose 25 = .ok (.getfield 20, 3) := by decide +kernel
theorem dX6_choose_28 : decode cX6_choose 28 = .ok (.iload 5, 2) := by decide +kernel
theorem dX6_choose_30 : decode cX6_choose 30 = .ok (.aaload, 1) := by decide +kernel
theorem dX6_choose_31 : decode cX6_choose 31 = .ok (.iload 4, 2) := by decide +kernel
theorem dX6_choose_33 : decode cX6_choose 33 = .ok (.iaload, 1) := by decide +kernel
theorem dX6_choose_34 : decode cX6_choose 34 = .ok (.if_icmp .ne 6, 3) := by decide +kernel
theorem dX6_choose_37 : decode cX6_choose 37 = .ok (.goto 75, 3) := by decide +kernel
theorem dX6_choose_40 : decode cX6_choose 40 = .ok (.iconst 0, 1) := by decide +kernel
theorem dX6_choose_41 : decode cX6_choose 41 = .ok (.istore 6, 2) := by decide +kernel
theorem dX6_choose_43 : decode cX6_choose 43 = .ok (.iload 6, 2) := by decide +kernel
theorem dX6_choose_45 : decode cX6_choose 45 = .ok (.aload_n 1, 1) := by decide +kernel
theorem dX6_choose_46 : decode cX6_choose 46 = .ok (.getfield 23, 3) := by decide +kernel
theorem dX6_choose_49 : decode cX6_choose 49 = .ok (.iconst 1, 1) := by decide +kernel
theorem dX6_choose_50 : decode cX6_choose 50 = .ok (.iaload, 1) := by decide +kernel
theorem dX6_choose_51 : decode cX6_choose 51 = .ok (.if_icmp .ge 61, 3) := by decide +kernel
theorem dX6_choose_54 : decode cX6_choose 54 = .ok (.aload_n 0, 1) := by decide +kernel
theorem dX6_choose_55 : decode cX6_choose 55 = .ok (.aload_n 1, 1) := by decide +kernel
theorem dX6_choose_56 : decode cX6_choose 56 = .ok (.iload 5, 2) := by decide +kernel
theorem dX6_choose_58 : decode cX6_choose 58 = .ok (.iload 4, 2) := by decide +kernel
theorem dX6_choose_60 : decode cX6_choose 60 = .ok (.iload 6, 2) := by decide +kernel
theorem dX6_choose_62 : decode cX6_choose 62 = .ok (.invokevirtual 65, 3) := by decide +kernel
theorem dX6_choose_65 : decode cX6_choose 65 = .ok (.aload_n 0, 1) := by decide +kernel
theorem dX6_choose_66 : decode cX6_choose 66 = .ok (.getfield 20, 3) := by decide +kernel
theorem dX6_choose_69 : decode cX6_choose 69 = .ok (.iload 5, 2) := by decide +kernel
theorem dX6_choose_71 : decode cX6_choose 71 = .ok (.aaload, 1) := by decide +kernel
theorem dX6_choose_72 : decode cX6_choose 72 = .ok (.iload 4, 2) := by decide +kernel
theorem dX6_choose_74 : decode cX6_choose 74 = .ok (.iaload, 1) := by decide +kernel
theorem dX6_choose_75 : decode cX6_choose 75 = .ok (.if_icmp .ne 31, 3) := by decide +kernel
theorem dX6_choose_78 : decode cX6_choose 78 = .ok (.aload_n 0, 1) := by decide +kernel
theorem dX6_choose_79 : decode cX6_choose 79 = .ok (.getfield 9, 3) := by decide +kernel
theorem dX6_choose_82 : decode cX6_choose 82 = .ok (.aload_n 0, 1) := by decide +kernel
theorem dX6_choose_83 : decode cX6_choose 83 = .ok (.getfield 15, 3) := by decide +kernel
theorem dX6_choose_86 : decode cX6_choose 86 = .ok (.iload 5, 2) := by decide +kernel
theorem dX6_choose_88 : decode cX6_choose 88 = .ok (.iaload, 1) := by decide +kernel
theorem dX6_choose_89 : decode cX6_choose 89 = .ok (.iload 6, 2) := by decide +kernel
theorem dX6_choose_91 : decode cX6_choose 91 = .ok (.iastore, 1) := by decide +kernel
theorem dX6_choose_92 : decode cX6_choose 92 = .ok (.iload 4, 2) := by decide +kernel
theorem dX6_choose_94 : decode cX6_choose 94 = .ok (.iconst 1, 1) := by decide +kernel
theorem dX6_choose_95 : decode cX6_choose 95 = .ok (.iconst 2, 1) := by decide +kernel
theorem dX6_choose_96 : decode cX6_choose 96 = .ok (.iload 6, 2) := by decide +kernel
theorem dX6_choose_98 : decode cX6_choose 98 = .ok (.imul, 1) := by decide +kernel
theorem dX6_choose_99 : decode cX6_choose 99 = .ok (.ishl, 1) := by decide +kernel
theorem dX6_choose_100 : decode cX6_choose 100 = .ok (.isub, 1) := by decide +kernel
theorem dX6_choose_101 : decode cX6_choose 101 = .ok (.istore 4, 2) := by decide +kernel
theorem dX6_choose_103 : decode cX6_choose 103 = .ok (.goto 9, 3) := by decide +kernel
theorem dX6_choose_106 : decode cX6_choose 106 = .ok (.iinc 6 1, 3) := by decide +kernel
theorem dX6_choose_109 : decode cX6_choose 109 = .ok (.goto (-66), 3) := by decide +kernel
theorem dX6_choose_112 : decode cX6_choose 112 = .ok (.iinc 5 1, 3) := by decide +kernel
theorem dX6_choose_115 : decode cX6_choose 115 = .ok (.goto (-109), 3) := by decide +kernel
theorem dX6_choose_118 : decode cX6_choose 118 = .ok (.return_, 1) := by decide +kernel
theorem dX6_plan_0 : decode cX6_plan 0 = .ok (.iconst 0, 1) := by decide +kernel
theorem dX6_plan_1 : decode cX6_plan 1 = .ok (.istore_n 3, 1) := by decide +kernel
theorem dX6_plan_2 : decode cX6_plan 2 = .ok (.iconst 0, 1) := by decide +kernel
theorem dX6_plan_3 : decode cX6_plan 3 = .ok (.istore 4, 2) := by decide +kernel
theorem dX6_plan_5 : decode cX6_plan 5 = .ok (.iload 4, 2) := by decide +kernel
theorem dX6_plan_7 : decode cX6_plan 7 = .ok (.aload_n 1, 1) := by decide +kernel
theorem dX6_plan_8 : decode cX6_plan 8 = .ok (.getfield 23, 3) := by decide +kernel
theorem dX6_plan_11 : decode cX6_plan 11 = .ok (.iconst 0, 1) := by decide +kernel
theorem dX6_plan_12 : decode cX6_plan 12 = .ok (.iaload, 1) := by decide +kernel
theorem dX6_plan_13 : decode cX6_plan 13 = .ok (.if_icmp .ge 58, 3) := by decide +kernel
theorem dX6_plan_16 : decode cX6_plan 16 = .ok (.aload_n 0, 1) := by decide +kernel
theorem dX6_plan_17 : decode cX6_plan 17 = .ok (.getfield 9, 3) := by decide +kernel
theorem dX6_plan_20 : decode cX6_plan 20 = .ok (.iload 4, 2) := by decide +kernel
theorem dX6_plan_22 : decode cX6_plan 22 = .ok (.iconst (-1), 1) := by decide +kernel
theorem dX6_plan_23 : decode cX6_plan 23 = .ok (.iastore, 1) := by decide +kernel
theorem dX6_plan_24 : decode cX6_plan 24 = .ok (.aload_n 2, 1) := by decide +kernel
theorem dX6_plan_25 : decode cX6_plan 25 = .ok (.getfield 28, 3) := by decide +kernel
theorem dX6_plan_28 : decode cX6_plan 28 = .ok (.iload 4, 2) := by decide +kernel
theorem dX6_plan_30 : decode cX6_plan 30 = .ok (.iaload, 1) := by decide +kernel
theorem dX6_plan_31 : decode cX6_plan 31 = .ok (.iconst (-1), 1) := by decide +kernel
theorem dX6_plan_32 : decode cX6_plan 32 = .ok (.if_icmp .ne 33, 3) := by decide +kernel
theorem dX6_plan_35 : decode cX6_plan 35 = .ok (.aload_n 1, 1) := by decide +kernel
theorem dX6_plan_36 : decode cX6_plan 36 = .ok (.getfield 33, 3) := by decide +kernel
theorem dX6_plan_39 : decode cX6_plan 39 = .ok (.iload 4, 2) := by decide +kernel
theorem dX6_plan_41 : decode cX6_plan 41 = .ok (.iaload, 1) := by decide +kernel
theorem dX6_plan_42 : decode cX6_plan 42 = .ok (.ifCond .le 23, 3) := by decide +kernel
theorem dX6_plan_45 : decode cX6_plan 45 = .ok (.aload_n 1, 1) := by decide +kernel
theorem dX6_plan_46 : decode cX6_plan 46 = .ok (.iload 4, 2) := by decide +kernel
theorem dX6_plan_48 : decode cX6_plan 48 = .ok (.invokevirtual 36, 3) := by decide +kernel
theorem dX6_plan_51 : decode cX6_plan 51 = .ok (.ifCond .le 14, 3) := by decide +kernel
theorem dX6_plan_54 : decode cX6_plan 54 = .ok (.aload_n 0, 1) := by decide +kernel
theorem dX6_plan_55 : decode cX6_plan 55 = .ok (.getfield 15, 3) := by decide +kernel
theorem dX6_plan_58 : decode cX6_plan 58 = .ok (.iload_n 3, 1) := by decide +kernel
theorem dX6_plan_59 : decode cX6_plan 59 = .ok (.iinc 3 1, 3) := by decide +kernel
theorem dX6_plan_62 : decode cX6_plan 62 = .ok (.iload 4, 2) := by decide +kernel
theorem dX6_plan_64 : decode cX6_plan 64 = .ok (.iastore, 1) := by decide +kernel
theorem dX6_plan_65 : decode cX6_plan 65 = .ok (.iinc 4 1, 3) := by decide +kernel
theorem dX6_plan_68 : decode cX6_plan 68 = .ok (.goto (-63), 3) := by decide +kernel
theorem dX6_plan_71 : decode cX6_plan 71 = .ok (.iconst 0, 1) := by decide +kernel
theorem dX6_plan_72 : decode cX6_plan 72 = .ok (.istore 4, 2) := by decide +kernel
theorem dX6_plan_74 : decode cX6_plan 74 = .ok (.iconst 0, 1) := by decide +kernel
theorem dX6_plan_75 : decode cX6_plan 75 = .ok (.istore 5, 2) := by decide +kernel
theorem dX6_plan_77 : decode cX6_plan 77 = .ok (.iload 5, 2) := by decide +kernel
theorem dX6_plan_79 : decode cX6_plan 79 = .ok (.aload_n 1, 1) := by decide +kernel
theorem dX6_plan_80 : decode cX6_plan 80 = .ok (.getfield 23, 3) := by decide +kernel
theorem dX6_plan_83 : decode cX6_plan 83 = .ok (.iconst 1, 1) := by decide +kernel
theorem dX6_plan_84 : decode cX6_plan 84 = .ok (.iaload, 1) := by decide +kernel
theorem dX6_plan_85 : decode cX6_plan 85 = .ok (.if_icmp .ge 28, 3) := by decide +kernel
theorem dX6_plan_88 : decode cX6_plan 88 = .ok (.iload 4, 2) := by decide +kernel
theorem dX6_plan_90 : decode cX6_plan 90 = .ok (.aload_n 2, 1) := by decide +kernel
theorem dX6_plan_91 : decode cX6_plan 91 = .ok (.getfield 40, 3) := by decide +kernel
theorem dX6_plan_94 : decode cX6_plan 94 = .ok (.iload 5, 2) := by decide +kernel
theorem dX6_plan_96 : decode cX6_plan 96 = .ok (.iaload, 1) := by decide +kernel
theorem dX6_plan_97 : decode cX6_plan 97 = .ok (.iconst 3, 1) := by decide +kernel
theorem dX6_plan_98 : decode cX6_plan 98 = .ok (.iand, 1) := by decide +kernel
theorem dX6_plan_99 : decode cX6_plan 99 = .ok (.iconst 2, 1) := by decide +kernel
theorem dX6_plan_100 : decode cX6_plan 100 = .ok (.iload 5, 2) := by decide +kernel
theorem dX6_plan_102 : decode cX6_plan 102 = .ok (.imul, 1) := by decide +kernel
theorem dX6_plan_103 : decode cX6_plan 103 = .ok (.ishl, 1) := by decide +kernel
theorem dX6_plan_104 : decode cX6_plan 104 = .ok (.ior, 1) := by decide +kernel
theorem dX6_plan_105 : decode cX6_plan 105 = .ok (.istore 4, 2) := by decide +kernel
theorem dX6_plan_107 : decode cX6_plan 107 = .ok (.iinc 5 1, 3) := by decide +kernel
theorem dX6_plan_110 : decode cX6_plan 110 = .ok (.goto (-33), 3) := by decide +kernel
theorem dX6_plan_113 : decode cX6_plan 113 = .ok (.aload_n 0, 1) := by decide +kernel
theorem dX6_plan_114 : decode cX6_plan 114 = .ok (.getfield 20, 3) := by decide +kernel
theorem dX6_plan_117 : decode cX6_plan 117 = .ok (.iload_n 3, 1) := by decide +kernel
theorem dX6_plan_118 : decode cX6_plan 118 = .ok (.aaload, 1) := by decide +kernel
theorem dX6_plan_119 : decode cX6_plan 119 = .ok (.iconst 0, 1) := by decide +kernel
theorem dX6_plan_120 : decode cX6_plan 120 = .ok (.iload 4, 2) := by decide +kernel
theorem dX6_plan_122 : decode cX6_plan 122 = .ok (.iconst 1, 1) := by decide +kernel
theorem dX6_plan_123 : decode cX6_plan 123 = .ok (.iadd, 1) := by decide +kernel
theorem dX6_plan_124 : decode cX6_plan 124 = .ok (.iconst 0, 1) := by decide +kernel
theorem dX6_plan_125 : decode cX6_plan 125 = .ok (.invokestatic 43, 3) := by decide +kernel
theorem dX6_plan_128 : decode cX6_plan 128 = .ok (.iload_n 3, 1) := by decide +kernel
theorem dX6_plan_129 : decode cX6_plan 129 = .ok (.iconst 1, 1) := by decide +kernel
theorem dX6_plan_130 : decode cX6_plan 130 = .ok (.isub, 1) := by decide +kernel
theorem dX6_plan_131 : decode cX6_plan 131 = .ok (.istore 5, 2) := by decide +kernel
theorem dX6_plan_133 : decode cX6_plan 133 = .ok (.iload 5, 2) := by decide +kernel
theorem dX6_plan_135 : decode cX6_plan 135 = .ok (.ifCond .lt 58, 3) := by decide +kernel
theorem dX6_plan_138 : decode cX6_plan 138 = .ok (.iconst 0, 1) := by decide +kernel
theorem dX6_plan_139 : decode cX6_plan 139 = .ok (.istore 6, 2) := by decide +kernel
theorem dX6_plan_141 : decode cX6_plan 141 = .ok (.iload 6, 2) := by decide +kernel
theorem dX6_plan_143 : decode cX6_plan 143 = .ok (.iload 4, 2) := by decide +kernel
theorem dX6_plan_145 : decode cX6_plan 145 = .ok (.if_icmp .gt 42, 3) := by decide +kernel
theorem dX6_plan_148 : decode cX6_plan 148 = .ok (.aload_n 0, 1) := by decide +kernel
theorem dX6_plan_149 : decode cX6_plan 149 = .ok (.getfield 20, 3) := by decide +kernel
theorem dX6_plan_152 : decode cX6_plan 152 = .ok (.iload 5, 2) := by decide +kernel
theorem dX6_plan_154 : decode cX6_plan 154 = .ok (.aaload, 1) := by decide +kernel
theorem dX6_plan_155 : decode cX6_plan 155 = .ok (.iload 6, 2) := by decide +kernel
theorem dX6_plan_157 : decode cX6_plan 157 = .ok (.iload 6, 2) := by decide +kernel
theorem dX6_plan_159 : decode cX6_plan 159 = .ok (.iload 4, 2) := by decide +kernel
theorem dX6_plan_161 : decode cX6_plan 161 = .ok (.invokestatic 49, 3) := by decide +kernel
theorem dX6_plan_164 : decode cX6_plan 164 = .ok (.ifCond .eq 15, 3) := by decide +kernel
theorem dX6_plan_167 : decode cX6_plan 167 = .ok (.aload_n 0, 1) := by decide +kernel
theorem dX6_plan_168 : decode cX6_plan 168 = .ok (.aload_n 1, 1) := by decide +kernel
theorem dX6_plan_169 : decode cX6_plan 169 = .ok (.iload 5, 2) := by decide +kernel
theorem dX6_plan_171 : decode cX6_plan 171 = .ok (.iload 6, 2) := by decide +kernel
theorem dX6_plan_173 : decode cX6_plan 173 = .ok (.invokevirtual 53, 3) := by decide +kernel
theorem dX6_plan_176 : decode cX6_plan 176 = .ok (.goto 4, 3) := by decide +kernel
theorem dX6_plan_179 : decode cX6_plan 179 = .ok (.iconst 0, 1) := by decide +kernel
theorem dX6_plan_180 : decode cX6_plan 180 = .ok (.iastore, 1) := by decide +kernel
theorem dX6_plan_181 : decode cX6_plan 181 = .ok (.iinc 6 1, 3) := by decide +kernel
theorem dX6_plan_184 : decode cX6_plan 184 = .ok (.goto (-43), 3) := by decide +kernel
theorem dX6_plan_187 : decode cX6_plan 187 = .ok (.iinc 5 (-1), 3) := by decide +kernel
theorem dX6_plan_190 : decode cX6_plan 190 = .ok (.goto (-57), 3) := by decide +kernel
theorem dX6_plan_193 : decode cX6_plan 193 = .ok (.aload_n 0, 1) := by decide +kernel
theorem dX6_plan_194 : decode cX6_plan 194 = .ok (.aload_n 0, 1) := by decide +kernel
theorem dX6_plan_195 : decode cX6_plan 195 = .ok (.getfield 20, 3) := by decide +kernel
theorem dX6_plan_198 : decode cX6_plan 198 = .ok (.iconst 0, 1) := by decide +kernel
theorem dX6_plan_199 : decode cX6_plan 199 = .ok (.aaload, 1) := by decide +kernel
theorem dX6_plan_200 : decode cX6_plan 200 = .ok (.iload 4, 2) := by decide +kernel
theorem dX6_plan_202 : decode cX6_plan 202 = .ok (.iaload, 1) := by decide +kernel
theorem dX6_plan_203 : decode cX6_plan 203 = .ok (.putfield 57, 3) := by decide +kernel
theorem dX6_plan_206 : decode cX6_plan 206 = .ok (.aload_n 0, 1) := by decide +kernel
theorem dX6_plan_207 : decode cX6_plan 207 = .ok (.aload_n 1, 1) := by decide +kernel
theorem dX6_plan_208 : decode cX6_plan 208 = .ok (.iload_n 3, 1) := by decide +kernel
theorem dX6_plan_209 : decode cX6_plan 209 = .ok (.iload 4, 2) := by decide +kernel
theorem dX6_plan_211 : decode cX6_plan 211 = .ok (.invokevirtual 61, 3) := by decide +kernel
theorem dX6_plan_214 : decode cX6_plan 214 = .ok (.return_, 1) := by decide +kernel
theorem dX6_mostFrom_0 : decode cX6_mostFrom 0 = .ok (.aload_n 0, 1) := by decide +kernel
theorem dX6_mostFrom_1 : decode cX6_mostFrom 1 = .ok (.getfield 20, 3) := by decide +kernel
theorem dX6_mostFrom_4 : decode cX6_mostFrom 4 = .ok (.iload_n 2, 1) := by decide +kernel
theorem dX6_mostFrom_5 : decode cX6_mostFrom 5 = .ok (.iconst 1, 1) := by decide +kernel
theorem dX6_mostFrom_6 : decode cX6_mostFrom 6 = .ok (.iadd, 1) := by decide +kernel
theorem dX6_mostFrom_7 : decode cX6_mostFrom 7 = .ok (.aaload, 1) := by decide +kernel
theorem dX6_mostFrom_8 : decode cX6_mostFrom 8 = .ok (.iload_n 3, 1) := by decide +kernel
theorem dX6_mostFrom_9 : decode cX6_mostFrom 9 = .ok (.iaload, 1) := by decide +kernel
theorem dX6_mostFrom_10 : decode cX6_mostFrom 10 = .ok (.istore 4, 2) := by decide +kernel
theorem dX6_mostFrom_12 : decode cX6_mostFrom 12 = .ok (.iconst 0, 1) := by decide +kernel
theorem dX6_mostFrom_13 : decode cX6_mostFrom 13 = .ok (.istore 5, 2) := by decide +kernel
theorem dX6_mostFrom_15 : decode cX6_mostFrom 15 = .ok (.iload 5, 2) := by decide +kernel
theorem dX6_mostFrom_17 : decode cX6_mostFrom 17 = .ok (.aload_n 1, 1) := by decide +kernel
theorem dX6_mostFrom_18 : decode cX6_mostFrom 18 = .ok (.getfield 23, 3) := by decide +kernel
theorem dX6_mostFrom_21 : decode cX6_mostFrom 21 = .ok (.iconst 1, 1) := by decide +kernel
theorem dX6_mostFrom_22 : decode cX6_mostFrom 22 = .ok (.iaload, 1) := by decide +kernel
theorem dX6_mostFrom_23 : decode cX6_mostFrom 23 = .ok (.if_icmp .ge 25, 3) := by decide +kernel
theorem dX6_mostFrom_26 : decode cX6_mostFrom 26 = .ok (.iload 4, 2) := by decide +kernel
theorem dX6_mostFrom_28 : decode cX6_mostFrom 28 = .ok (.aload_n 0, 1) := by decide +kernel
theorem dX6_mostFrom_29 : decode cX6_mostFrom 29 = .ok (.aload_n 1, 1) := by decide +kernel
theorem dX6_mostFrom_30 : decode cX6_mostFrom 30 = .ok (.iload_n 2, 1) := by decide +kernel
theorem dX6_mostFrom_31 : decode cX6_mostFrom 31 = .ok (.iload_n 3, 1) := by decide +kernel
theorem dX6_mostFrom_32 : decode cX6_mostFrom 32 = .ok (.iload 5, 2) := by decide +kernel
theorem dX6_mostFrom_34 : decode cX6_mostFrom 34 = .ok (.invokevirtual 65, 3) := by decide +kernel
theorem dX6_mostFrom_37 : decode cX6_mostFrom 37 = .ok (.invokestatic 69, 3) := by decide +kernel
theorem dX6_mostFrom_40 : decode cX6_mostFrom 40 = .ok (.istore 4, 2) := by decide +kernel
theorem dX6_mostFrom_42 : decode cX6_mostFrom 42 = .ok (.iinc 5 1, 3) := by decide +kernel
theorem dX6_mostFrom_45 : decode cX6_mostFrom 45 = .ok (.goto (-30), 3) := by decide +kernel
theorem dX6_mostFrom_48 : decode cX6_mostFrom 48 = .ok (.iload 4, 2) := by decide +kernel
theorem dX6_mostFrom_50 : decode cX6_mostFrom 50 = .ok (.ireturn, 1) := by decide +kernel
theorem dX7_chooseGroups_0 : decode cX7_chooseGroups 0 = .ok (.aload_n 1, 1) := by decide +kernel
theorem dX7_chooseGroups_1 : decode cX7_chooseGroups 1 = .ok (.getfield 33, 3) := by decide +kernel
theorem dX7_chooseGroups_4 : decode cX7_chooseGroups 4 = .ok (.iconst 0, 1) := by decide +kernel
theorem dX7_chooseGroups_5 : decode cX7_chooseGroups 5 = .ok (.iaload, 1) := by decide +kernel
theorem dX7_chooseGroups_6 : decode cX7_chooseGroups 6 = .ok (.istore_n 2, 1) := by decide +kernel
theorem dX7_chooseGroups_7 : decode cX7_chooseGroups 7 = .ok (.aload_n 0, 1) := by decide +kernel
theorem dX7_chooseGroups_8 : decode cX7_chooseGroups 8 = .ok (.getfield 21, 3) := by decide +kernel
theorem dX7_chooseGroups_11 : decode cX7_chooseGroups 11 = .ok (.iload_n 2, 1) := by decide +kernel
theorem dX7_chooseGroups_12 : decode cX7_chooseGroups 12 = .ok (.lconst 1, 1) := by decide +kernel
theorem dX7_chooseGroups_13 : decode cX7_chooseGroups 13 = .ok (.lastore, 1) := by decide +kernel
theorem dX7_chooseGroups_14 : decode cX7_chooseGroups 14 = .ok (.iload_n 2, 1) := by decide +kernel
theorem dX7_chooseGroups_15 : decode cX7_chooseGroups 15 = .ok (.iconst 1, 1) := by decide +kernel
theorem dX7_chooseGroups_16 : decode cX7_chooseGroups 16 = .ok (.isub, 1) := by decide +kernel
theorem dX7_chooseGroups_17 : decode cX7_chooseGroups 17 = .ok (.istore_n 3, 1) := by decide +kernel
theorem dX7_chooseGroups_18 : decode cX7_chooseGroups 18 = .ok (.iload_n 3, 1) := by decide +kernel
theorem dX7_chooseGroups_19 : decode cX7_chooseGroups 19 = .ok (.ifCond .lt 30, 3) := by decide +kernel
theorem dX7_chooseGroups_22 : decode cX7_chooseGroups 22 = .ok (.aload_n 0, 1) := by decide +kernel
theorem dX7_chooseGroups_23 : decode cX7_chooseGroups 23 = .ok (.getfield 21, 3) := by decide +kernel
theorem dX7_chooseGroups_26 : decode cX7_chooseGroups 26 = .ok (.iload_n 3, 1) := by decide +kernel
theorem dX7_chooseGroups_27 : decode cX7_chooseGroups 27 = .ok (.aload_n 0, 1) := by decide +kernel
theorem dX7_chooseGroups_28 : decode cX7_chooseGroups 28 = .ok (.getfield 21, 3) := by decide +kernel
theorem dX7_chooseGroups_31 : decode cX7_chooseGroups 31 = .ok (.iload_n 3, 1) := by decide +kernel
theorem dX7_chooseGroups_32 : decode cX7_chooseGroups 32 = .ok (.iconst 1, 1) := by decide +kernel
theorem dX7_chooseGroups_33 : decode cX7_chooseGroups 33 = .ok (.iadd, 1) := by decide +kernel
theorem dX7_chooseGroups_34 : decode cX7_chooseGroups 34 = .ok (.laload, 1) := by decide +kernel
theorem dX7_chooseGroups_35 : decode cX7_chooseGroups 35 = .ok (.aload_n 0, 1) := by decide +kernel
theorem dX7_chooseGroups_36 : decode cX7_chooseGroups 36 = .ok (.aload_n 1, 1) := by decide +kernel
theorem dX7_chooseGroups_37 : decode cX7_chooseGroups 37 = .ok (.iload_n 3, 1) := by decide +kernel
theorem dX7_chooseGroups_38 : decode cX7_chooseGroups 38 = .ok (.invokevirtual 52, 3) := by decide +kernel
theorem dX7_chooseGroups_41 : decode cX7_chooseGroups 41 = .ok (.lmul, 1) := by decide +kernel
theorem dX7_chooseGroups_42 : decode cX7_chooseGroups 42 = .ok (.lastore, 1) := by decide +kernel
theorem dX7_chooseGroups_43 : decode cX7_chooseGroups 43 = .ok (.iinc 3 (-1), 3) := by decide +kernel
theorem dX7_chooseGroups_46 : decode cX7_chooseGroups 46 = .ok (.goto (-28), 3) := by decide +kernel
theorem dX7_chooseGroups_49 : decode cX7_chooseGroups 49 = .ok (.aload_n 0, 1) := by decide +kernel
theorem dX7_chooseGroups_50 : decode cX7_chooseGroups 50 = .ok (.ldc2_w 56, 3) := by decide +kernel
theorem dX7_chooseGroups_53 : decode cX7_chooseGroups 53 = .ok (.putfield 58, 3) := by decide +kernel
theorem dX7_chooseGroups_56 : decode cX7_chooseGroups 56 = .ok (.aload_n 0, 1) := by decide +kernel
theorem dX7_chooseGroups_57 : decode cX7_chooseGroups 57 = .ok (.iconst 0, 1) := by decide +kernel
theorem dX7_chooseGroups_58 : decode cX7_chooseGroups 58 = .ok (.putfield 62, 3) := by decide +kernel
theorem dX7_chooseGroups_61 : decode cX7_chooseGroups 61 = .ok (.aload_n 0, 1) := by decide +kernel
theorem dX7_chooseGroups_62 : decode cX7_chooseGroups 62 = .ok (.aload_n 1, 1) := by decide +kernel
theorem dX7_chooseGroups_63 : decode cX7_chooseGroups 63 = .ok (.iconst 0, 1) := by decide +kernel
theorem dX7_chooseGroups_64 : decode cX7_chooseGroups 64 = .ok (.iconst 0, 1) := by decide +kernel
theorem dX7_chooseGroups_65 : decode cX7_chooseGroups 65 = .ok (.lconst 1, 1) := by decide +kernel
theorem dX7_chooseGroups_66 : decode cX7_chooseGroups 66 = .ok (.invokevirtual 65, 3) := by decide +kernel
theorem dX7_chooseGroups_69 : decode cX7_chooseGroups 69 = .ok (.return_, 1) := by decide +kernel
theorem dX7_paint_0 : decode cX7_paint 0 = .ok (.iload_n 2, 1) := by decide +kernel
theorem dX7_paint_1 : decode cX7_paint 1 = .ok (.aload_n 1, 1) := by decide +kernel
theorem dX7_paint_2 : decode cX7_paint 2 = .ok (.getfield 33, 3) := by decide +kernel
theorem dX7_paint_5 : decode cX7_paint 5 = .ok (.iconst 0, 1) := by decide +kernel
theorem dX7_paint_6 : decode cX7_paint 6 = .ok (.iaload, 1) := by decide +kernel
theorem dX7_paint_7 : decode cX7_paint 7 = .ok (.if_icmp .lt 5, 3) := by decide +kernel
theorem dX7_paint_10 : decode cX7_paint 10 = .ok (.iconst 1, 1) := by decide +kernel
theorem dX7_paint_11 : decode cX7_paint 11 = .ok (.ireturn, 1) := by decide +kernel
theorem dX7_paint_12 : decode cX7_paint 12 = .ok (.iconst 1, 1) := by decide +kernel
theorem dX7_paint_13 : decode cX7_paint 13 = .ok (.istore 5, 2) := by decide +kernel
theorem dX7_paint_15 : decode cX7_paint 15 = .ok (.iload 5, 2) := by decide +kernel
theorem dX7_paint_17 : decode cX7_paint 17 = .ok (.iload 4, 2) := by decide +kernel
theorem dX7_paint_19 : decode cX7_paint 19 = .ok (.if_icmp .gt 57, 3) := by decide +kernel
theorem dX7_paint_22 : decode cX7_paint 22 = .ok (.iload 5, 2) := by decide +kernel
theorem dX7_paint_24 : decode cX7_paint 24 = .ok (.iload_n 3, 1) := by decide +kernel
theorem dX7_paint_25 : decode cX7_paint 25 = .ok (.iconst 1, 1) := by decide +kernel
theorem dX7_paint_26 : decode cX7_paint 26 = .ok (.iadd, 1) := by decide +kernel
theorem dX7_paint_27 : decode cX7_paint 27 = .ok (.if_icmp .gt 49, 3) := by decide +kernel
theorem dX7_paint_30 : decode cX7_paint 30 = .ok (.aload_n 0, 1) := by decide +kernel
theorem dX7_paint_31 : decode cX7_paint 31 = .ok (.getfield 9, 3) := by decide +kernel
theorem dX7_paint_34 : decode cX7_paint 34 = .ok (.iload_n 2, 1) := by decide +kernel
theorem dX7_paint_35 : decode cX7_paint 35 = .ok (.iload 5, 2) := by decide +kernel
theorem dX7_paint_37 : decode cX7_paint 37 = .ok (.iastore, 1) := by decide +kernel
theorem dX7_paint_38 : decode cX7_paint 38 = .ok (.aload_n 0, 1) := by decide +kernel
theorem dX7_paint_39 : decode cX7_paint 39 = .ok (.aload_n 1, 1) := by decide +kernel
theorem dX7_paint_40 : decode cX7_paint 40 = .ok (.iload_n 2, 1) := by decide +kernel
theorem dX7_paint_41 : decode cX7_paint 41 = .ok (.iload 5, 2) := by decide +kernel
theorem dX7_paint_43 : decode cX7_paint 43 = .ok (.invokevirtual 38, 3) := by decide +kernel
theorem dX7_paint_46 : decode cX7_paint 46 = .ok (.ifCond .eq 24, 3) := by decide +kernel
theorem dX7_paint_49 : decode cX7_paint 49 = .ok (.aload_n 0, 1) := by decide +kernel
theorem dX7_paint_50 : decode cX7_paint 50 = .ok (.aload_n 1, 1) := by decide +kernel
theorem dX7_paint_51 : decode cX7_paint 51 = .ok (.iload_n 2, 1) := by decide +kernel
theorem dX7_paint_52 : decode cX7_paint 52 = .ok (.iconst 1, 1) := by decide +kernel
theorem dX7_paint_53 : decode cX7_paint 53 = .ok (.iadd, 1) := by decide +kernel
theorem dX7_paint_54 : decode cX7_paint 54 = .ok (.iload_n 3, 1) := by decide +kernel
theorem dX7_paint_55 : decode cX7_paint 55 = .ok (.iload 5, 2) := by decide +kernel
theorem dX7_paint_57 : decode cX7_paint 57 = .ok (.invokestatic 42, 3) := by decide +kernel
theorem dX7_paint_60 : decode cX7_paint 60 = .ok (.iload 4, 2) := by decide +kernel
theorem dX7_paint_62 : decode cX7_paint 62 = .ok (.invokevirtual 29, 3) := by decide +kernel
theorem dX7_paint_65 : decode cX7_paint 65 = .ok (.ifCond .eq 5, 3) := by decide +kernel
theorem dX7_paint_68 : decode cX7_paint 68 = .ok (.iconst 1, 1) := by decide +kernel
theorem dX7_paint_69 : decode cX7_paint 69 = .ok (.ireturn, 1) := by decide +kernel
theorem dX7_paint_70 : decode cX7_paint 70 = .ok (.iinc 5 1, 3) := by decide +kernel
theorem dX7_paint_73 : decode cX7_paint 73 = .ok (.goto (-58), 3) := by decide +kernel
theorem dX7_paint_76 : decode cX7_paint 76 = .ok (.iconst 0, 1) := by decide +kernel
theorem dX7_paint_77 : decode cX7_paint 77 = .ok (.ireturn, 1) := by decide +kernel
theorem dX7_bestOdds_0 : decode cX7_bestOdds 0 = .ok (.lconst 1, 1) := by decide +kernel
theorem dX7_bestOdds_1 : decode cX7_bestOdds 1 = .ok (.lstore_n 3, 1) := by decide +kernel
theorem dX7_bestOdds_2 : decode cX7_bestOdds 2 = .ok (.iconst 0, 1) := by decide +kernel
theorem dX7_bestOdds_3 : decode cX7_bestOdds 3 = .ok (.istore 5, 2) := by decide +kernel
theorem dX7_bestOdds_5 : decode cX7_bestOdds 5 = .ok (.iload 5, 2) := by decide +kernel
theorem dX7_bestOdds_7 : decode cX7_bestOdds 7 = .ok (.iload_n 2, 1) := by decide +kernel
theorem dX7_bestOdds_8 : decode cX7_bestOdds 8 = .ok (.if_icmp .ge 44, 3) := by decide +kernel
theorem dX7_bestOdds_11 : decode cX7_bestOdds 11 = .ok (.aload_n 1, 1) := by decide +kernel
theorem dX7_bestOdds_12 : decode cX7_bestOdds 12 = .ok (.getfield 69, 3) := by decide +kernel
theorem dX7_bestOdds_15 : decode cX7_bestOdds 15 = .ok (.iload_n 2, 1) := by decide +kernel
theorem dX7_bestOdds_16 : decode cX7_bestOdds 16 = .ok (.aaload, 1) := by decide +kernel
theorem dX7_bestOdds_17 : decode cX7_bestOdds 17 = .ok (.iload 5, 2) := by decide +kernel
theorem dX7_bestOdds_19 : decode cX7_bestOdds 19 = .ok (.iaload, 1) := by decide +kernel
theorem dX7_bestOdds_20 : decode cX7_bestOdds 20 = .ok (.istore 6, 2) := by decide +kernel
theorem dX7_bestOdds_22 : decode cX7_bestOdds 22 = .ok (.lload_n 3, 1) := by decide +kernel
theorem dX7_bestOdds_23 : decode cX7_bestOdds 23 = .ok (.iload 6, 2) := by decide +kernel
theorem dX7_bestOdds_25 : decode cX7_bestOdds 25 = .ok (.iconst (-1), 1) := by decide +kernel
theorem dX7_bestOdds_26 : decode cX7_bestOdds 26 = .ok (.if_icmp .ne 7, 3) := by decide +kernel
theorem dX7_bestOdds_29 : decode cX7_bestOdds 29 = .ok (.lconst 1, 1) := by decide +kernel
theorem dX7_bestOdds_30 : decode cX7_bestOdds 30 = .ok (.goto 14, 3) := by decide +kernel
theorem dX7_bestOdds_33 : decode cX7_bestOdds 33 = .ok (.iload 6, 2) := by decide +kernel
theorem dX7_bestOdds_35 : decode cX7_bestOdds 35 = .ok (.bipush 10, 2) := by decide +kernel
theorem dX7_bestOdds_37 : decode cX7_bestOdds 37 = .ok (.iload 6, 2) := by decide +kernel
theorem dX7_bestOdds_39 : decode cX7_bestOdds 39 = .ok (.isub, 1) := by decide +kernel
theorem dX7_bestOdds_40 : decode cX7_bestOdds 40 = .ok (.invokestatic 42, 3) := by decide +kernel
theorem dX7_bestOdds_43 : decode cX7_bestOdds 43 = .ok (.i2l, 1) := by decide +kernel
theorem dX7_bestOdds_44 : decode cX7_bestOdds 44 = .ok (.lmul, 1) := by decide +kernel
theorem dX7_bestOdds_45 : decode cX7_bestOdds 45 = .ok (.lstore_n 3, 1) := by decide +kernel
theorem dX7_bestOdds_46 : decode cX7_bestOdds 46 = .ok (.iinc 5 1, 3) := by decide +kernel
theorem dX7_bestOdds_49 : decode cX7_bestOdds 49 = .ok (.goto (-44), 3) := by decide +kernel
theorem dX7_bestOdds_52 : decode cX7_bestOdds 52 = .ok (.lload_n 3, 1) := by decide +kernel
theorem dX7_bestOdds_53 : decode cX7_bestOdds 53 = .ok (.lreturn, 1) := by decide +kernel
theorem dX7_isFree_0 : decode cX7_isFree 0 = .ok (.iconst 0, 1) := by decide +kernel
theorem dX7_isFree_1 : decode cX7_isFree 1 = .ok (.istore 4, 2) := by decide +kernel
theorem dX7_isFree_3 : decode cX7_isFree 3 = .ok (.iload 4, 2) := by decide +kernel
theorem dX7_isFree_5 : decode cX7_isFree 5 = .ok (.iload_n 2, 1) := by decide +kernel
theorem dX7_isFree_6 : decode cX7_isFree 6 = .ok (.if_icmp .ge 32, 3) := by decide +kernel
theorem dX7_isFree_9 : decode cX7_isFree 9 = .ok (.aload_n 1, 1) := by decide +kernel
theorem dX7_isFree_10 : decode cX7_isFree 10 = .ok (.iload_n 2, 1) := by decide +kernel
theorem dX7_isFree_11 : decode cX7_isFree 11 = .ok (.iload 4, 2) := by decide +kernel
theorem dX7_isFree_13 : decode cX7_isFree 13 = .ok (.invokevirtual 48, 3) := by decide +kernel
theorem dX7_isFree_16 : decode cX7_isFree 16 = .ok (.ifCond .eq 16, 3) := by decide +kernel
theorem dX7_isFree_19 : decode cX7_isFree 19 = .ok (.aload_n 0, 1) := by decide +kernel
theorem dX7_isFree_20 : decode cX7_isFree 20 = .ok (.getfield 9, 3) := by decide +kernel
theorem dX7_isFree_23 : decode cX7_isFree 23 = .ok (.iload 4, 2) := by decide +kernel
theorem dX7_isFree_25 : decode cX7_isFree 25 = .ok (.iaload, 1) := by decide +kernel
theorem dX7_isFree_26 : decode cX7_isFree 26 = .ok (.iload_n 3, 1) := by decide +kernel
theorem dX7_isFree_27 : decode cX7_isFree 27 = .ok (.if_icmp .ne 5, 3) := by decide +kernel
theorem dX7_isFree_30 : decode cX7_isFree 30 = .ok (.iconst 0, 1) := by decide +kernel
theorem dX7_isFree_31 : decode cX7_isFree 31 = .ok (.ireturn, 1) := by decide +kernel
theorem dX7_isFree_32 : decode cX7_isFree 32 = .ok (.iinc 4 1, 3) := by decide +kernel
theorem dX7_isFree_35 : decode cX7_isFree 35 = .ok (.goto (-32), 3) := by decide +kernel
theorem dX7_isFree_38 : decode cX7_isFree 38 = .ok (.iconst 1, 1) := by decide +kernel
theorem dX7_isFree_39 : decode cX7_isFree 39 = .ok (.ireturn, 1) := by decide +kernel
theorem dX7_oddsOf_0 : decode cX7_oddsOf 0 = .ok (.lconst 1, 1) := by decide +kernel
theorem dX7_oddsOf_1 : decode cX7_oddsOf 1 = .ok (.lstore_n 3, 1) := by decide +kernel
theorem dX7_oddsOf_2 : decode cX7_oddsOf 2 = .ok (.iconst 0, 1) := by decide +kernel
theorem dX7_oddsOf_3 : decode cX7_oddsOf 3 = .ok (.istore 5, 2) := by decide +kernel
theorem dX7_oddsOf_5 : decode cX7_oddsOf 5 = .ok (.iload 5, 2) := by decide +kernel
theorem dX7_oddsOf_7 : decode cX7_oddsOf 7 = .ok (.iload_n 2, 1) := by decide +kernel
theorem dX7_oddsOf_8 : decode cX7_oddsOf 8 = .ok (.if_icmp .ge 57, 3) := by decide +kernel
theorem dX7_oddsOf_11 : decode cX7_oddsOf 11 = .ok (.aload_n 1, 1) := by decide +kernel
theorem dX7_oddsOf_12 : decode cX7_oddsOf 12 = .ok (.getfield 69, 3) := by decide +kernel
theorem dX7_oddsOf_15 : decode cX7_oddsOf 15 = .ok (.iload_n 2, 1) := by decide +kernel
theorem dX7_oddsOf_16 : decode cX7_oddsOf 16 = .ok (.aaload, 1) := by decide +kernel
theorem dX7_oddsOf_17 : decode cX7_oddsOf 17 = .ok (.iload 5, 2) := by decide +kernel
theorem dX7_oddsOf_19 : decode cX7_oddsOf 19 = .ok (.iaload, 1) := by decide +kernel
theorem dX7_oddsOf_20 : decode cX7_oddsOf 20 = .ok (.istore 6, 2) := by decide +kernel
theorem dX7_oddsOf_22 : decode cX7_oddsOf 22 = .ok (.iload 6, 2) := by decide +kernel
theorem dX7_oddsOf_24 : decode cX7_oddsOf 24 = .ok (.iconst (-1), 1) := by decide +kernel
theorem dX7_oddsOf_25 : decode cX7_oddsOf 25 = .ok (.if_icmp .eq 34, 3) := by decide +kernel
theorem dX7_oddsOf_28 : decode cX7_oddsOf 28 = .ok (.lload_n 3, 1) := by decide +kernel
theorem dX7_oddsOf_29 : decode cX7_oddsOf 29 = .ok (.aload_n 0, 1) := by decide +kernel
theorem dX7_oddsOf_30 : decode cX7_oddsOf 30 = .ok (.getfield 18, 3) := by decide +kernel
theorem dX7_oddsOf_33 : decode cX7_oddsOf 33 = .ok (.iload_n 2, 1) := by decide +kernel
theorem dX7_oddsOf_34 : decode cX7_oddsOf 34 = .ok (.iaload, 1) := by decide +kernel
theorem dX7_oddsOf_35 : decode cX7_oddsOf 35 = .ok (.aload_n 0, 1) := by decide +kernel
theorem dX7_oddsOf_36 : decode cX7_oddsOf 36 = .ok (.getfield 18, 3) := by decide +kernel
theorem dX7_oddsOf_39 : decode cX7_oddsOf 39 = .ok (.iload 5, 2) := by decide +kernel
theorem dX7_oddsOf_41 : decode cX7_oddsOf 41 = .ok (.iaload, 1) := by decide +kernel
theorem dX7_oddsOf_42 : decode cX7_oddsOf 42 = .ok (.if_icmp .ne 9, 3) := by decide +kernel
theorem dX7_oddsOf_45 : decode cX7_oddsOf 45 = .ok (.iload 6, 2) := by decide +kernel
theorem dX7_oddsOf_47 : decode cX7_oddsOf 47 = .ok (.i2l, 1) := by decide +kernel
theorem dX7_oddsOf_48 : decode cX7_oddsOf 48 = .ok (.goto 9, 3) := by decide +kernel
theorem dX7_oddsOf_51 : decode cX7_oddsOf 51 = .ok (.bipush 10, 2) := by decide +kernel
theorem dX7_oddsOf_53 : decode cX7_oddsOf 53 = .ok (.iload 6, 2) := by decide +kernel
theorem dX7_oddsOf_55 : decode cX7_oddsOf 55 = .ok (.isub, 1) := by decide +kernel
theorem dX7_oddsOf_56 : decode cX7_oddsOf 56 = .ok (.i2l, 1) := by decide +kernel
theorem dX7_oddsOf_57 : decode cX7_oddsOf 57 = .ok (.lmul, 1) := by decide +kernel
theorem dX7_oddsOf_58 : decode cX7_oddsOf 58 = .ok (.lstore_n 3, 1) := by decide +kernel
theorem dX7_oddsOf_59 : decode cX7_oddsOf 59 = .ok (.iinc 5 1, 3) := by decide +kernel
theorem dX7_oddsOf_62 : decode cX7_oddsOf 62 = .ok (.goto (-57), 3) := by decide +kernel
theorem dX7_oddsOf_65 : decode cX7_oddsOf 65 = .ok (.lload_n 3, 1) := by decide +kernel
theorem dX7_oddsOf_66 : decode cX7_oddsOf 66 = .ok (.lreturn, 1) := by decide +kernel
theorem dX7_chooseSheets_0 : decode cX7_chooseSheets 0 = .ok (.aload_n 0, 1) := by decide +kernel
theorem dX7_chooseSheets_1 : decode cX7_chooseSheets 1 = .ok (.iconst 0, 1) := by decide +kernel
theorem dX7_chooseSheets_2 : decode cX7_chooseSheets 2 = .ok (.putfield 25, 3) := by decide +kernel
theorem dX7_chooseSheets_5 : decode cX7_chooseSheets 5 = .ok (.iconst 0, 1) := by decide +kernel
theorem dX7_chooseSheets_6 : decode cX7_chooseSheets 6 = .ok (.istore_n 2, 1) := by decide +kernel
theorem dX7_chooseSheets_7 : decode cX7_chooseSheets 7 = .ok (.iload_n 2, 1) := by decide +kernel
theorem dX7_chooseSheets_8 : decode cX7_chooseSheets 8 = .ok (.bipush 8, 2) := by decide +kernel
theorem dX7_chooseSheets_10 : decode cX7_chooseSheets 10 = .ok (.if_icmp .gt 26, 3) := by decide +kernel
theorem dX7_chooseSheets_13 : decode cX7_chooseSheets 13 = .ok (.aload_n 0, 1) := by decide +kernel
theorem dX7_chooseSheets_14 : decode cX7_chooseSheets 14 = .ok (.aload_n 1, 1) := by decide +kernel
theorem dX7_chooseSheets_15 : decode cX7_chooseSheets 15 = .ok (.iconst 0, 1) := by decide +kernel
theorem dX7_chooseSheets_16 : decode cX7_chooseSheets 16 = .ok (.iconst 0, 1) := by decide +kernel
theorem dX7_chooseSheets_17 : decode cX7_chooseSheets 17 = .ok (.iload_n 2, 1) := by decide +kernel
theorem dX7_chooseSheets_18 : decode cX7_chooseSheets 18 = .ok (.invokevirtual 29, 3) := by decide +kernel
theorem dX7_chooseSheets_21 : decode cX7_chooseSheets 21 = .ok (.ifCond .eq 9, 3) := by decide +kernel
theorem dX7_chooseSheets_24 : decode cX7_chooseSheets 24 = .ok (.aload_n 0, 1) := by decide +kernel
theorem dX7_chooseSheets_25 : decode cX7_chooseSheets 25 = .ok (.iload_n 2, 1) := by decide +kernel
theorem dX7_chooseSheets_26 : decode cX7_chooseSheets 26 = .ok (.putfield 25, 3) := by decide +kernel
theorem dX7_chooseSheets_29 : decode cX7_chooseSheets 29 = .ok (.return_, 1) := by decide +kernel
theorem dX7_chooseSheets_30 : decode cX7_chooseSheets 30 = .ok (.iinc 2 1, 3) := by decide +kernel
theorem dX7_chooseSheets_33 : decode cX7_chooseSheets 33 = .ok (.goto (-26), 3) := by decide +kernel
theorem dX7_chooseSheets_36 : decode cX7_chooseSheets 36 = .ok (.return_, 1) := by decide +kernel
theorem dX7_place_0 : decode cX7_place 0 = .ok (.lload 4, 2) := by decide +kernel
theorem dX7_place_2 : decode cX7_place 2 = .ok (.aload_n 0, 1) := by decide +kernel
theorem dX7_place_3 : decode cX7_place 3 = .ok (.getfield 21, 3) := by decide +kernel
theorem dX7_place_6 : decode cX7_place 6 = .ok (.iload_n 2, 1) := by decide +kernel
theorem dX7_place_7 : decode cX7_place 7 = .ok (.laload, 1) := by decide +kernel
theorem dX7_place_8 : decode cX7_place 8 = .ok (.lmul, 1) := by decide +kernel
theorem dX7_place_9 : decode cX7_place 9 = .ok (.aload_n 0, 1) := by decide +kernel
theorem dX7_place_10 : decode cX7_place 10 = .ok (.getfield 58, 3) := by decide +kernel
theorem dX7_place_13 : decode cX7_place 13 = .ok (.lcmp, 1) := by decide +kernel
theorem dX7_place_14 : decode cX7_place 14 = .ok (.ifCond .gt 4, 3) := by decide +kernel
theorem dX7_place_17 : decode cX7_place 17 = .ok (.return_, 1) := by decide +kernel
theorem dX7_place_18 : decode cX7_place 18 = .ok (.iload_n 2, 1) := by decide +kernel
theorem dX7_place_19 : decode cX7_place 19 = .ok (.aload_n 1, 1) := by decide +kernel
theorem dX7_place_20 : decode cX7_place 20 = .ok (.getfield 33, 3) := by decide +kernel
theorem dX7_place_23 : decode cX7_place 23 = .ok (.iconst 0, 1) := by decide +kernel
theorem dX7_place_24 : decode cX7_place 24 = .ok (.iaload, 1) := by decide +kernel
theorem dX7_place_25 : decode cX7_place 25 = .ok (.if_icmp .lt 29, 3) := by decide +kernel
theorem dX7_place_28 : decode cX7_place 28 = .ok (.aload_n 0, 1) := by decide +kernel
theorem dX7_place_29 : decode cX7_place 29 = .ok (.lload 4, 2) := by decide +kernel
theorem dX7_place_31 : decode cX7_place 31 = .ok (.putfield 58, 3) := by decide +kernel
theorem dX7_place_34 : decode cX7_place 34 = .ok (.aload_n 0, 1) := by decide +kernel
theorem dX7_place_35 : decode cX7_place 35 = .ok (.iload_n 3, 1) := by decide +kernel
theorem dX7_place_36 : decode cX7_place 36 = .ok (.putfield 62, 3) := by decide +kernel
theorem dX7_place_39 : decode cX7_place 39 = .ok (.aload_n 0, 1) := by decide +kernel
theorem dX7_place_40 : decode cX7_place 40 = .ok (.getfield 18, 3) := by decide +kernel
theorem dX7_place_43 : decode cX7_place 43 = .ok (.iconst 0, 1) := by decide +kernel
theorem dX7_place_44 : decode cX7_place 44 = .ok (.aload_n 0, 1) := by decide +kernel
theorem dX7_place_45 : decode cX7_place 45 = .ok (.getfield 15, 3) := by decide +kernel
theorem dX7_place_48 : decode cX7_place 48 = .ok (.iconst 0, 1) := by decide +kernel
theorem dX7_place_49 : decode cX7_place 49 = .ok (.iload_n 2, 1) := by decide +kernel
theorem dX7_place_50 : decode cX7_place 50 = .ok (.invokestatic 73, 3) := by decide +kernel
theorem dX7_place_53 : decode cX7_place 53 = .ok (.return_, 1) := by decide +kernel
theorem dX7_place_54 : decode cX7_place 54 = .ok (.iconst 0, 1) := by decide +kernel
theorem dX7_place_55 : decode cX7_place 55 = .ok (.istore 6, 2) := by decide +kernel
theorem dX7_place_57 : decode cX7_place 57 = .ok (.iload 6, 2) := by decide +kernel
theorem dX7_place_59 : decode cX7_place 59 = .ok (.iload_n 3, 1) := by decide +kernel
theorem dX7_place_60 : decode cX7_place 60 = .ok (.if_icmp .gt 42, 3) := by decide +kernel
theorem dX7_place_63 : decode cX7_place 63 = .ok (.aload_n 0, 1) := by decide +kernel
theorem dX7_place_64 : decode cX7_place 64 = .ok (.getfield 18, 3) := by decide +kernel
theorem dX7_place_67 : decode cX7_place 67 = .ok (.iload_n 2, 1) := by decide +kernel
theorem dX7_place_68 : decode cX7_place 68 = .ok (.iload 6, 2) := by decide +kernel
theorem dX7_place_70 : decode cX7_place 70 = .ok (.iastore, 1) := by decide +kernel
theorem dX7_place_71 : decode cX7_place 71 = .ok (.aload_n 0, 1) := by decide +kernel
