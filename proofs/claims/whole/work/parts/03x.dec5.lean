theorem dX12_sheets_40 : decode cX12_sheets 40 = .ok (.aload_n 0, 1) := by decide +kernel
theorem dX12_sheets_41 : decode cX12_sheets 41 = .ok (.getfield 148, 3) := by decide +kernel
theorem dX12_sheets_44 : decode cX12_sheets 44 = .ok (.iload_n 1, 1) := by decide +kernel
theorem dX12_sheets_45 : decode cX12_sheets 45 = .ok (.iaload, 1) := by decide +kernel
theorem dX12_sheets_46 : decode cX12_sheets 46 = .ok (.ireturn, 1) := by decide +kernel
theorem dX12_mostAlike_0 : decode cX12_mostAlike 0 = .ok (.iconst 0, 1) := by decide +kernel
theorem dX12_mostAlike_1 : decode cX12_mostAlike 1 = .ok (.istore_n 3, 1) := by decide +kernel
theorem dX12_mostAlike_2 : decode cX12_mostAlike 2 = .ok (.iconst 0, 1) := by decide +kernel
theorem dX12_mostAlike_3 : decode cX12_mostAlike 3 = .ok (.istore 4, 2) := by decide +kernel
theorem dX12_mostAlike_5 : decode cX12_mostAlike 5 = .ok (.iload 4, 2) := by decide +kernel
theorem dX12_mostAlike_7 : decode cX12_mostAlike 7 = .ok (.aload_n 0, 1) := by decide +kernel
theorem dX12_mostAlike_8 : decode cX12_mostAlike 8 = .ok (.invokevirtual 422, 3) := by decide +kernel
theorem dX12_mostAlike_11 : decode cX12_mostAlike 11 = .ok (.if_icmp .ge 79, 3) := by decide +kernel
theorem dX12_mostAlike_14 : decode cX12_mostAlike 14 = .ok (.iconst 0, 1) := by decide +kernel
theorem dX12_mostAlike_15 : decode cX12_mostAlike 15 = .ok (.istore 5, 2) := by decide +kernel
theorem dX12_mostAlike_17 : decode cX12_mostAlike 17 = .ok (.iconst 0, 1) := by decide +kernel
theorem dX12_mostAlike_18 : decode cX12_mostAlike 18 = .ok (.istore 6, 2) := by decide +kernel
theorem dX12_mostAlike_20 : decode cX12_mostAlike 20 = .ok (.iload 6, 2) := by decide +kernel
theorem dX12_mostAlike_22 : decode cX12_mostAlike 22 = .ok (.aload_n 0, 1) := by decide +kernel
theorem dX12_mostAlike_23 : decode cX12_mostAlike 23 = .ok (.invokevirtual 422, 3) := by decide +kernel
theorem dX12_mostAlike_26 : decode cX12_mostAlike 26 = .ok (.if_icmp .ge 49, 3) := by decide +kernel
theorem dX12_mostAlike_29 : decode cX12_mostAlike 29 = .ok (.iload_n 2, 1) := by decide +kernel
theorem dX12_mostAlike_30 : decode cX12_mostAlike 30 = .ok (.iload 4, 2) := by decide +kernel
theorem dX12_mostAlike_32 : decode cX12_mostAlike 32 = .ok (.ishr, 1) := by decide +kernel
theorem dX12_mostAlike_33 : decode cX12_mostAlike 33 = .ok (.iconst 1, 1) := by decide +kernel
theorem dX12_mostAlike_34 : decode cX12_mostAlike 34 = .ok (.iand, 1) := by decide +kernel
theorem dX12_mostAlike_35 : decode cX12_mostAlike 35 = .ok (.iconst 1, 1) := by decide +kernel
theorem dX12_mostAlike_36 : decode cX12_mostAlike 36 = .ok (.if_icmp .ne 33, 3) := by decide +kernel
theorem dX12_mostAlike_39 : decode cX12_mostAlike 39 = .ok (.iload_n 2, 1) := by decide +kernel
theorem dX12_mostAlike_40 : decode cX12_mostAlike 40 = .ok (.iload 6, 2) := by decide +kernel
theorem dX12_mostAlike_42 : decode cX12_mostAlike 42 = .ok (.ishr, 1) := by decide +kernel
theorem dX12_mostAlike_43 : decode cX12_mostAlike 43 = .ok (.iconst 1, 1) := by decide +kernel
theorem dX12_mostAlike_44 : decode cX12_mostAlike 44 = .ok (.iand, 1) := by decide +kernel
theorem dX12_mostAlike_45 : decode cX12_mostAlike 45 = .ok (.iconst 1, 1) := by decide +kernel
theorem dX12_mostAlike_46 : decode cX12_mostAlike 46 = .ok (.if_icmp .ne 23, 3) := by decide +kernel
theorem dX12_mostAlike_49 : decode cX12_mostAlike 49 = .ok (.aload_n 0, 1) := by decide +kernel
theorem dX12_mostAlike_50 : decode cX12_mostAlike 50 = .ok (.iload_n 1, 1) := by decide +kernel
theorem dX12_mostAlike_51 : decode cX12_mostAlike 51 = .ok (.iload 6, 2) := by decide +kernel
theorem dX12_mostAlike_53 : decode cX12_mostAlike 53 = .ok (.invokevirtual 461, 3) := by decide +kernel
theorem dX12_mostAlike_56 : decode cX12_mostAlike 56 = .ok (.aload_n 0, 1) := by decide +kernel
theorem dX12_mostAlike_57 : decode cX12_mostAlike 57 = .ok (.iload_n 1, 1) := by decide +kernel
theorem dX12_mostAlike_58 : decode cX12_mostAlike 58 = .ok (.iload 4, 2) := by decide +kernel
theorem dX12_mostAlike_60 : decode cX12_mostAlike 60 = .ok (.invokevirtual 461, 3) := by decide +kernel
theorem dX12_mostAlike_63 : decode cX12_mostAlike 63 = .ok (.if_icmp .ne 6, 3) := by decide +kernel
theorem dX12_mostAlike_66 : decode cX12_mostAlike 66 = .ok (.iinc 5 1, 3) := by decide +kernel
theorem dX12_mostAlike_69 : decode cX12_mostAlike 69 = .ok (.iinc 6 1, 3) := by decide +kernel
theorem dX12_mostAlike_72 : decode cX12_mostAlike 72 = .ok (.goto (-52), 3) := by decide +kernel
theorem dX12_mostAlike_75 : decode cX12_mostAlike 75 = .ok (.iload 5, 2) := by decide +kernel
theorem dX12_mostAlike_77 : decode cX12_mostAlike 77 = .ok (.iload_n 3, 1) := by decide +kernel
theorem dX12_mostAlike_78 : decode cX12_mostAlike 78 = .ok (.if_icmp .le 6, 3) := by decide +kernel
theorem dX12_mostAlike_81 : decode cX12_mostAlike 81 = .ok (.iload 5, 2) := by decide +kernel
theorem dX12_mostAlike_83 : decode cX12_mostAlike 83 = .ok (.istore_n 3, 1) := by decide +kernel
theorem dX12_mostAlike_84 : decode cX12_mostAlike 84 = .ok (.iinc 4 1, 3) := by decide +kernel
theorem dX12_mostAlike_87 : decode cX12_mostAlike 87 = .ok (.goto (-82), 3) := by decide +kernel
theorem dX12_mostAlike_90 : decode cX12_mostAlike 90 = .ok (.iload_n 3, 1) := by decide +kernel
theorem dX12_mostAlike_91 : decode cX12_mostAlike 91 = .ok (.ireturn, 1) := by decide +kernel
theorem dX12_qEndsPart_0 : decode cX12_qEndsPart 0 = .ok (.aload_n 0, 1) := by decide +kernel
theorem dX12_qEndsPart_1 : decode cX12_qEndsPart 1 = .ok (.getfield 263, 3) := by decide +kernel
theorem dX12_qEndsPart_4 : decode cX12_qEndsPart 4 = .ok (.ifCond .ne 47, 3) := by decide +kernel
theorem dX12_qEndsPart_7 : decode cX12_qEndsPart 7 = .ok (.aload_n 0, 1) := by decide +kernel
theorem dX12_qEndsPart_8 : decode cX12_qEndsPart 8 = .ok (.getfield 355, 3) := by decide +kernel
theorem dX12_qEndsPart_11 : decode cX12_qEndsPart 11 = .ok (.aload_n 0, 1) := by decide +kernel
theorem dX12_qEndsPart_12 : decode cX12_qEndsPart 12 = .ok (.getfield 361, 3) := by decide +kernel
theorem dX12_qEndsPart_15 : decode cX12_qEndsPart 15 = .ok (.if_icmp .le 36, 3) := by decide +kernel
theorem dX12_qEndsPart_18 : decode cX12_qEndsPart 18 = .ok (.aload_n 0, 1) := by decide +kernel
theorem dX12_qEndsPart_19 : decode cX12_qEndsPart 19 = .ok (.getfield 251, 3) := by decide +kernel
theorem dX12_qEndsPart_22 : decode cX12_qEndsPart 22 = .ok (.aload_n 0, 1) := by decide +kernel
theorem dX12_qEndsPart_23 : decode cX12_qEndsPart 23 = .ok (.getfield 355, 3) := by decide +kernel
theorem dX12_qEndsPart_26 : decode cX12_qEndsPart 26 = .ok (.iconst 1, 1) := by decide +kernel
theorem dX12_qEndsPart_27 : decode cX12_qEndsPart 27 = .ok (.isub, 1) := by decide +kernel
theorem dX12_qEndsPart_28 : decode cX12_qEndsPart 28 = .ok (.iaload, 1) := by decide +kernel
theorem dX12_qEndsPart_29 : decode cX12_qEndsPart 29 = .ok (.bipush 60, 2) := by decide +kernel
theorem dX12_qEndsPart_31 : decode cX12_qEndsPart 31 = .ok (.if_icmp .lt 20, 3) := by decide +kernel
theorem dX12_qEndsPart_34 : decode cX12_qEndsPart 34 = .ok (.aload_n 0, 1) := by decide +kernel
theorem dX12_qEndsPart_35 : decode cX12_qEndsPart 35 = .ok (.dup, 1) := by decide +kernel
theorem dX12_qEndsPart_36 : decode cX12_qEndsPart 36 = .ok (.getfield 358, 3) := by decide +kernel
theorem dX12_qEndsPart_39 : decode cX12_qEndsPart 39 = .ok (.iconst 1, 1) := by decide +kernel
theorem dX12_qEndsPart_40 : decode cX12_qEndsPart 40 = .ok (.isub, 1) := by decide +kernel
theorem dX12_qEndsPart_41 : decode cX12_qEndsPart 41 = .ok (.putfield 358, 3) := by decide +kernel
theorem dX12_qEndsPart_44 : decode cX12_qEndsPart 44 = .ok (.aload_n 0, 1) := by decide +kernel
theorem dX12_qEndsPart_45 : decode cX12_qEndsPart 45 = .ok (.invokevirtual 600, 3) := by decide +kernel
theorem dX12_qEndsPart_48 : decode cX12_qEndsPart 48 = .ok (.goto (-48), 3) := by decide +kernel
theorem dX12_qEndsPart_51 : decode cX12_qEndsPart 51 = .ok (.return_, 1) := by decide +kernel
theorem dX12_on_0 : decode cX12_on 0 = .ok (.aload_n 0, 1) := by decide +kernel
theorem dX12_on_1 : decode cX12_on 1 = .ok (.getfield 260, 3) := by decide +kernel
theorem dX12_on_4 : decode cX12_on 4 = .ok (.istore_n 1, 1) := by decide +kernel
theorem dX12_on_5 : decode cX12_on 5 = .ok (.aload_n 0, 1) := by decide +kernel
theorem dX12_on_6 : decode cX12_on 6 = .ok (.iconst 0, 1) := by decide +kernel
theorem dX12_on_7 : decode cX12_on 7 = .ok (.putfield 260, 3) := by decide +kernel
theorem dX12_on_10 : decode cX12_on 10 = .ok (.aload_n 0, 1) := by decide +kernel
theorem dX12_on_11 : decode cX12_on 11 = .ok (.iload_n 1, 1) := by decide +kernel
theorem dX12_on_12 : decode cX12_on 12 = .ok (.invokevirtual 699, 3) := by decide +kernel
theorem dX12_on_15 : decode cX12_on 15 = .ok (.ifCond .ne 15, 3) := by decide +kernel
theorem dX12_on_18 : decode cX12_on 18 = .ok (.aload_n 0, 1) := by decide +kernel
theorem dX12_on_19 : decode cX12_on 19 = .ok (.getfield 17, 3) := by decide +kernel
theorem dX12_on_22 : decode cX12_on 22 = .ok (.iconst 5, 1) := by decide +kernel
theorem dX12_on_23 : decode cX12_on 23 = .ok (.dup2, 1) := by decide +kernel
theorem dX12_on_24 : decode cX12_on 24 = .ok (.iaload, 1) := by decide +kernel
theorem dX12_on_25 : decode cX12_on 25 = .ok (.iconst 1, 1) := by decide +kernel
theorem dX12_on_26 : decode cX12_on 26 = .ok (.iadd, 1) := by decide +kernel
theorem dX12_on_27 : decode cX12_on 27 = .ok (.iastore, 1) := by decide +kernel
theorem dX12_on_28 : decode cX12_on 28 = .ok (.iconst 0, 1) := by decide +kernel
theorem dX12_on_29 : decode cX12_on 29 = .ok (.ireturn, 1) := by decide +kernel
theorem dX12_on_30 : decode cX12_on 30 = .ok (.aload_n 0, 1) := by decide +kernel
theorem dX12_on_31 : decode cX12_on 31 = .ok (.getfield 142, 3) := by decide +kernel
theorem dX12_on_34 : decode cX12_on 34 = .ok (.iconst 0, 1) := by decide +kernel
theorem dX12_on_35 : decode cX12_on 35 = .ok (.sipush 256, 3) := by decide +kernel
theorem dX12_on_38 : decode cX12_on 38 = .ok (.aload_n 0, 1) := by decide +kernel
theorem dX12_on_39 : decode cX12_on 39 = .ok (.getfield 7, 3) := by decide +kernel
theorem dX12_on_42 : decode cX12_on 42 = .ok (.iconst 0, 1) := by decide +kernel
theorem dX12_on_43 : decode cX12_on 43 = .ok (.iaload, 1) := by decide +kernel
theorem dX12_on_44 : decode cX12_on 44 = .ok (.imul, 1) := by decide +kernel
theorem dX12_on_45 : decode cX12_on 45 = .ok (.aload_n 0, 1) := by decide +kernel
theorem dX12_on_46 : decode cX12_on 46 = .ok (.getfield 7, 3) := by decide +kernel
theorem dX12_on_49 : decode cX12_on 49 = .ok (.iconst 1, 1) := by decide +kernel
theorem dX12_on_50 : decode cX12_on 50 = .ok (.iaload, 1) := by decide +kernel
theorem dX12_on_51 : decode cX12_on 51 = .ok (.iadd, 1) := by decide +kernel
theorem dX12_on_52 : decode cX12_on 52 = .ok (.iastore, 1) := by decide +kernel
theorem dX12_on_53 : decode cX12_on 53 = .ok (.iconst 2, 1) := by decide +kernel
theorem dX12_on_54 : decode cX12_on 54 = .ok (.istore_n 2, 1) := by decide +kernel
theorem dX12_on_55 : decode cX12_on 55 = .ok (.iconst 0, 1) := by decide +kernel
theorem dX12_on_56 : decode cX12_on 56 = .ok (.istore_n 3, 1) := by decide +kernel
theorem dX12_on_57 : decode cX12_on 57 = .ok (.iload_n 3, 1) := by decide +kernel
theorem dX12_on_58 : decode cX12_on 58 = .ok (.aload_n 0, 1) := by decide +kernel
theorem dX12_on_59 : decode cX12_on 59 = .ok (.invokevirtual 422, 3) := by decide +kernel
theorem dX12_on_62 : decode cX12_on 62 = .ok (.if_icmp .ge 26, 3) := by decide +kernel
theorem dX12_on_65 : decode cX12_on 65 = .ok (.aload_n 0, 1) := by decide +kernel
theorem dX12_on_66 : decode cX12_on 66 = .ok (.getfield 142, 3) := by decide +kernel
theorem dX12_on_69 : decode cX12_on 69 = .ok (.iconst 1, 1) := by decide +kernel
theorem dX12_on_70 : decode cX12_on 70 = .ok (.iload_n 3, 1) := by decide +kernel
theorem dX12_on_71 : decode cX12_on 71 = .ok (.iadd, 1) := by decide +kernel
theorem dX12_on_72 : decode cX12_on 72 = .ok (.aload_n 0, 1) := by decide +kernel
theorem dX12_on_73 : decode cX12_on 73 = .ok (.getfield 7, 3) := by decide +kernel
theorem dX12_on_76 : decode cX12_on 76 = .ok (.iload_n 2, 1) := by decide +kernel
theorem dX12_on_77 : decode cX12_on 77 = .ok (.iaload, 1) := by decide +kernel
theorem dX12_on_78 : decode cX12_on 78 = .ok (.iastore, 1) := by decide +kernel
theorem dX12_on_79 : decode cX12_on 79 = .ok (.iinc 2 1, 3) := by decide +kernel
theorem dX12_on_82 : decode cX12_on 82 = .ok (.iinc 3 1, 3) := by decide +kernel
theorem dX12_on_85 : decode cX12_on 85 = .ok (.goto (-28), 3) := by decide +kernel
theorem dX12_on_88 : decode cX12_on 88 = .ok (.iconst 0, 1) := by decide +kernel
theorem dX12_on_89 : decode cX12_on 89 = .ok (.istore_n 3, 1) := by decide +kernel
theorem dX12_on_90 : decode cX12_on 90 = .ok (.iload_n 3, 1) := by decide +kernel
theorem dX12_on_91 : decode cX12_on 91 = .ok (.aload_n 0, 1) := by decide +kernel
theorem dX12_on_92 : decode cX12_on 92 = .ok (.invokevirtual 410, 3) := by decide +kernel
theorem dX12_on_95 : decode cX12_on 95 = .ok (.if_icmp .ge 26, 3) := by decide +kernel
theorem dX12_on_98 : decode cX12_on 98 = .ok (.aload_n 0, 1) := by decide +kernel
theorem dX12_on_99 : decode cX12_on 99 = .ok (.getfield 142, 3) := by decide +kernel
theorem dX12_on_102 : decode cX12_on 102 = .ok (.iconst 4, 1) := by decide +kernel
theorem dX12_on_103 : decode cX12_on 103 = .ok (.iload_n 3, 1) := by decide +kernel
theorem dX12_on_104 : decode cX12_on 104 = .ok (.iadd, 1) := by decide +kernel
theorem dX12_on_105 : decode cX12_on 105 = .ok (.aload_n 0, 1) := by decide +kernel
theorem dX12_on_106 : decode cX12_on 106 = .ok (.getfield 7, 3) := by decide +kernel
theorem dX12_on_109 : decode cX12_on 109 = .ok (.iload_n 2, 1) := by decide +kernel
theorem dX12_on_110 : decode cX12_on 110 = .ok (.iaload, 1) := by decide +kernel
theorem dX12_on_111 : decode cX12_on 111 = .ok (.iastore, 1) := by decide +kernel
theorem dX12_on_112 : decode cX12_on 112 = .ok (.iinc 2 1, 3) := by decide +kernel
theorem dX12_on_115 : decode cX12_on 115 = .ok (.iinc 3 1, 3) := by decide +kernel
theorem dX12_on_118 : decode cX12_on 118 = .ok (.goto (-28), 3) := by decide +kernel
theorem dX12_on_121 : decode cX12_on 121 = .ok (.iconst 0, 1) := by decide +kernel
theorem dX12_on_122 : decode cX12_on 122 = .ok (.istore_n 3, 1) := by decide +kernel
theorem dX12_on_123 : decode cX12_on 123 = .ok (.iload_n 3, 1) := by decide +kernel
theorem dX12_on_124 : decode cX12_on 124 = .ok (.iconst 3, 1) := by decide +kernel
theorem dX12_on_125 : decode cX12_on 125 = .ok (.aload_n 0, 1) := by decide +kernel
theorem dX12_on_126 : decode cX12_on 126 = .ok (.invokevirtual 419, 3) := by decide +kernel
theorem dX12_on_129 : decode cX12_on 129 = .ok (.imul, 1) := by decide +kernel
theorem dX12_on_130 : decode cX12_on 130 = .ok (.if_icmp .ge 26, 3) := by decide +kernel
theorem dX12_on_133 : decode cX12_on 133 = .ok (.aload_n 0, 1) := by decide +kernel
theorem dX12_on_134 : decode cX12_on 134 = .ok (.getfield 142, 3) := by decide +kernel
theorem dX12_on_137 : decode cX12_on 137 = .ok (.bipush 8, 2) := by decide +kernel
theorem dX12_on_139 : decode cX12_on 139 = .ok (.iload_n 3, 1) := by decide +kernel
theorem dX12_on_140 : decode cX12_on 140 = .ok (.iadd, 1) := by decide +kernel
theorem dX12_on_141 : decode cX12_on 141 = .ok (.aload_n 0, 1) := by decide +kernel
theorem dX12_on_142 : decode cX12_on 142 = .ok (.getfield 7, 3) := by decide +kernel
theorem dX12_on_145 : decode cX12_on 145 = .ok (.iload_n 2, 1) := by decide +kernel
theorem dX12_on_146 : decode cX12_on 146 = .ok (.iload_n 3, 1) := by decide +kernel
theorem dX12_on_147 : decode cX12_on 147 = .ok (.iadd, 1) := by decide +kernel
theorem dX12_on_148 : decode cX12_on 148 = .ok (.iaload, 1) := by decide +kernel
theorem dX12_on_149 : decode cX12_on 149 = .ok (.iastore, 1) := by decide +kernel
theorem dX12_on_150 : decode cX12_on 150 = .ok (.iinc 3 1, 3) := by decide +kernel
theorem dX12_on_153 : decode cX12_on 153 = .ok (.goto (-30), 3) := by decide +kernel
theorem dX12_on_156 : decode cX12_on 156 = .ok (.aload_n 0, 1) := by decide +kernel
theorem dX12_on_157 : decode cX12_on 157 = .ok (.iconst 0, 1) := by decide +kernel
theorem dX12_on_158 : decode cX12_on 158 = .ok (.putfield 413, 3) := by decide +kernel
theorem dX12_on_161 : decode cX12_on 161 = .ok (.iconst 1, 1) := by decide +kernel
theorem dX12_on_162 : decode cX12_on 162 = .ok (.ireturn, 1) := by decide +kernel
theorem dX12_canGive_0 : decode cX12_canGive 0 = .ok (.iconst 0, 1) := by decide +kernel
theorem dX12_canGive_1 : decode cX12_canGive 1 = .ok (.istore_n 1, 1) := by decide +kernel
theorem dX12_canGive_2 : decode cX12_canGive 2 = .ok (.iload_n 1, 1) := by decide +kernel
theorem dX12_canGive_3 : decode cX12_canGive 3 = .ok (.aload_n 0, 1) := by decide +kernel
theorem dX12_canGive_4 : decode cX12_canGive 4 = .ok (.invokevirtual 410, 3) := by decide +kernel
theorem dX12_canGive_7 : decode cX12_canGive 7 = .ok (.if_icmp .ge 23, 3) := by decide +kernel
theorem dX12_canGive_10 : decode cX12_canGive 10 = .ok (.aload_n 0, 1) := by decide +kernel
theorem dX12_canGive_11 : decode cX12_canGive 11 = .ok (.getfield 166, 3) := by decide +kernel
theorem dX12_canGive_14 : decode cX12_canGive 14 = .ok (.iload_n 1, 1) := by decide +kernel
theorem dX12_canGive_15 : decode cX12_canGive 15 = .ok (.aload_n 0, 1) := by decide +kernel
theorem dX12_canGive_16 : decode cX12_canGive 16 = .ok (.getfield 142, 3) := by decide +kernel
theorem dX12_canGive_19 : decode cX12_canGive 19 = .ok (.iconst 4, 1) := by decide +kernel
theorem dX12_canGive_20 : decode cX12_canGive 20 = .ok (.iload_n 1, 1) := by decide +kernel
theorem dX12_canGive_21 : decode cX12_canGive 21 = .ok (.iadd, 1) := by decide +kernel
theorem dX12_canGive_22 : decode cX12_canGive 22 = .ok (.iaload, 1) := by decide +kernel
theorem dX12_canGive_23 : decode cX12_canGive 23 = .ok (.iastore, 1) := by decide +kernel
theorem dX12_canGive_24 : decode cX12_canGive 24 = .ok (.iinc 1 1, 3) := by decide +kernel
theorem dX12_canGive_27 : decode cX12_canGive 27 = .ok (.goto (-25), 3) := by decide +kernel
theorem dX12_canGive_30 : decode cX12_canGive 30 = .ok (.iconst 0, 1) := by decide +kernel
theorem dX12_canGive_31 : decode cX12_canGive 31 = .ok (.istore_n 1, 1) := by decide +kernel
theorem dX12_canGive_32 : decode cX12_canGive 32 = .ok (.iload_n 1, 1) := by decide +kernel
theorem dX12_canGive_33 : decode cX12_canGive 33 = .ok (.aload_n 0, 1) := by decide +kernel
theorem dX12_canGive_34 : decode cX12_canGive 34 = .ok (.invokevirtual 419, 3) := by decide +kernel
theorem dX12_canGive_37 : decode cX12_canGive 37 = .ok (.if_icmp .ge 56, 3) := by decide +kernel
theorem dX12_canGive_40 : decode cX12_canGive 40 = .ok (.aload_n 0, 1) := by decide +kernel
theorem dX12_canGive_41 : decode cX12_canGive 41 = .ok (.getfield 148, 3) := by decide +kernel
theorem dX12_canGive_44 : decode cX12_canGive 44 = .ok (.iload_n 1, 1) := by decide +kernel
theorem dX12_canGive_45 : decode cX12_canGive 45 = .ok (.iaload, 1) := by decide +kernel
theorem dX12_canGive_46 : decode cX12_canGive 46 = .ok (.ifCond .ne 6, 3) := by decide +kernel
theorem dX12_canGive_49 : decode cX12_canGive 49 = .ok (.goto 38, 3) := by decide +kernel
theorem dX12_canGive_52 : decode cX12_canGive 52 = .ok (.aload_n 0, 1) := by decide +kernel
theorem dX12_canGive_53 : decode cX12_canGive 53 = .ok (.getfield 166, 3) := by decide +kernel
theorem dX12_canGive_56 : decode cX12_canGive 56 = .ok (.aload_n 0, 1) := by decide +kernel
theorem dX12_canGive_57 : decode cX12_canGive 57 = .ok (.getfield 148, 3) := by decide +kernel
theorem dX12_canGive_60 : decode cX12_canGive 60 = .ok (.iload_n 1, 1) := by decide +kernel
theorem dX12_canGive_61 : decode cX12_canGive 61 = .ok (.iaload, 1) := by decide +kernel
theorem dX12_canGive_62 : decode cX12_canGive 62 = .ok (.iconst 1, 1) := by decide +kernel
theorem dX12_canGive_63 : decode cX12_canGive 63 = .ok (.isub, 1) := by decide +kernel
theorem dX12_canGive_64 : decode cX12_canGive 64 = .ok (.dup2, 1) := by decide +kernel
theorem dX12_canGive_65 : decode cX12_canGive 65 = .ok (.iaload, 1) := by decide +kernel
theorem dX12_canGive_66 : decode cX12_canGive 66 = .ok (.iconst 1, 1) := by decide +kernel
theorem dX12_canGive_67 : decode cX12_canGive 67 = .ok (.isub, 1) := by decide +kernel
theorem dX12_canGive_68 : decode cX12_canGive 68 = .ok (.iastore, 1) := by decide +kernel
theorem dX12_canGive_69 : decode cX12_canGive 69 = .ok (.aload_n 0, 1) := by decide +kernel
theorem dX12_canGive_70 : decode cX12_canGive 70 = .ok (.getfield 166, 3) := by decide +kernel
theorem dX12_canGive_73 : decode cX12_canGive 73 = .ok (.aload_n 0, 1) := by decide +kernel
theorem dX12_canGive_74 : decode cX12_canGive 74 = .ok (.getfield 148, 3) := by decide +kernel
theorem dX12_canGive_77 : decode cX12_canGive 77 = .ok (.iload_n 1, 1) := by decide +kernel
theorem dX12_canGive_78 : decode cX12_canGive 78 = .ok (.iaload, 1) := by decide +kernel
theorem dX12_canGive_79 : decode cX12_canGive 79 = .ok (.iconst 1, 1) := by decide +kernel
theorem dX12_canGive_80 : decode cX12_canGive 80 = .ok (.isub, 1) := by decide +kernel
theorem dX12_canGive_81 : decode cX12_canGive 81 = .ok (.iaload, 1) := by decide +kernel
theorem dX12_canGive_82 : decode cX12_canGive 82 = .ok (.ifCond .ge 5, 3) := by decide +kernel
theorem dX12_canGive_85 : decode cX12_canGive 85 = .ok (.iconst 0, 1) := by decide +kernel
theorem dX12_canGive_86 : decode cX12_canGive 86 = .ok (.ireturn, 1) := by decide +kernel
theorem dX12_canGive_87 : decode cX12_canGive 87 = .ok (.iinc 1 1, 3) := by decide +kernel
theorem dX12_canGive_90 : decode cX12_canGive 90 = .ok (.goto (-58), 3) := by decide +kernel
theorem dX12_canGive_93 : decode cX12_canGive 93 = .ok (.iconst 1, 1) := by decide +kernel
theorem dX12_canGive_94 : decode cX12_canGive 94 = .ok (.ireturn, 1) := by decide +kernel
theorem dX12_drawOf_0 : decode cX12_drawOf 0 = .ok (.aload_n 0, 1) := by decide +kernel
theorem dX12_drawOf_1 : decode cX12_drawOf 1 = .ok (.ldc2_w 583, 3) := by decide +kernel
theorem dX12_drawOf_4 : decode cX12_drawOf 4 = .ok (.aload_n 0, 1) := by decide +kernel
theorem dX12_drawOf_5 : decode cX12_drawOf 5 = .ok (.getfield 175, 3) := by decide +kernel
theorem dX12_drawOf_8 : decode cX12_drawOf 8 = .ok (.lmul, 1) := by decide +kernel
theorem dX12_drawOf_9 : decode cX12_drawOf 9 = .ok (.ldc2_w 585, 3) := by decide +kernel
theorem dX12_drawOf_12 : decode cX12_drawOf 12 = .ok (.ladd, 1) := by decide +kernel
theorem dX12_drawOf_13 : decode cX12_drawOf 13 = .ok (.ldc2_w 587, 3) := by decide +kernel
theorem dX12_drawOf_16 : decode cX12_drawOf 16 = .ok (.lrem, 1) := by decide +kernel
theorem dX12_drawOf_17 : decode cX12_drawOf 17 = .ok (.putfield 175, 3) := by decide +kernel
theorem dX12_drawOf_20 : decode cX12_drawOf 20 = .ok (.aload_n 0, 1) := by decide +kernel
theorem dX12_drawOf_21 : decode cX12_drawOf 21 = .ok (.getfield 175, 3) := by decide +kernel
theorem dX12_drawOf_24 : decode cX12_drawOf 24 = .ok (.ldc2_w 589, 3) := by decide +kernel
theorem dX12_drawOf_27 : decode cX12_drawOf 27 = .ok (.ldiv, 1) := by decide +kernel
theorem dX12_drawOf_28 : decode cX12_drawOf 28 = .ok (.iload_n 1, 1) := by decide +kernel
theorem dX12_drawOf_29 : decode cX12_drawOf 29 = .ok (.i2l, 1) := by decide +kernel
theorem dX12_drawOf_30 : decode cX12_drawOf 30 = .ok (.lrem, 1) := by decide +kernel
theorem dX12_drawOf_31 : decode cX12_drawOf 31 = .ok (.l2i, 1) := by decide +kernel
theorem dX12_drawOf_32 : decode cX12_drawOf 32 = .ok (.ireturn, 1) := by decide +kernel
theorem dX12_qTest_0 : decode cX12_qTest 0 = .ok (.iconst 1, 1) := by decide +kernel
theorem dX12_qTest_1 : decode cX12_qTest 1 = .ok (.istore_n 1, 1) := by decide +kernel
theorem dX12_qTest_2 : decode cX12_qTest 2 = .ok (.iload_n 1, 1) := by decide +kernel
theorem dX12_qTest_3 : decode cX12_qTest 3 = .ok (.ifCond .eq 107, 3) := by decide +kernel
theorem dX12_qTest_6 : decode cX12_qTest 6 = .ok (.aload_n 0, 1) := by decide +kernel
theorem dX12_qTest_7 : decode cX12_qTest 7 = .ok (.getfield 263, 3) := by decide +kernel
theorem dX12_qTest_10 : decode cX12_qTest 10 = .ok (.ifCond .ne 100, 3) := by decide +kernel
theorem dX12_qTest_13 : decode cX12_qTest 13 = .ok (.aload_n 0, 1) := by decide +kernel
theorem dX12_qTest_14 : decode cX12_qTest 14 = .ok (.invokevirtual 275, 3) := by decide +kernel
theorem dX12_qTest_17 : decode cX12_qTest 17 = .ok (.istore_n 2, 1) := by decide +kernel
theorem dX12_qTest_18 : decode cX12_qTest 18 = .ok (.iload_n 2, 1) := by decide +kernel
theorem dX12_qTest_19 : decode cX12_qTest 19 = .ok (.bipush 91, 2) := by decide +kernel
theorem dX12_qTest_21 : decode cX12_qTest 21 = .ok (.if_icmp .ne 26, 3) := by decide +kernel
theorem dX12_qTest_24 : decode cX12_qTest 24 = .ok (.aload_n 0, 1) := by decide +kernel
theorem dX12_qTest_25 : decode cX12_qTest 25 = .ok (.bipush 25, 2) := by decide +kernel
theorem dX12_qTest_27 : decode cX12_qTest 27 = .ok (.aload_n 0, 1) := by decide +kernel
theorem dX12_qTest_28 : decode cX12_qTest 28 = .ok (.getfield 269, 3) := by decide +kernel
theorem dX12_qTest_31 : decode cX12_qTest 31 = .ok (.invokevirtual 612, 3) := by decide +kernel
theorem dX12_qTest_34 : decode cX12_qTest 34 = .ok (.aload_n 0, 1) := by decide +kernel
theorem dX12_qTest_35 : decode cX12_qTest 35 = .ok (.dup, 1) := by decide +kernel
theorem dX12_qTest_36 : decode cX12_qTest 36 = .ok (.getfield 269, 3) := by decide +kernel
theorem dX12_qTest_39 : decode cX12_qTest 39 = .ok (.iconst 1, 1) := by decide +kernel
theorem dX12_qTest_40 : decode cX12_qTest 40 = .ok (.iadd, 1) := by decide +kernel
theorem dX12_qTest_41 : decode cX12_qTest 41 = .ok (.putfield 269, 3) := by decide +kernel
theorem dX12_qTest_44 : decode cX12_qTest 44 = .ok (.goto (-42), 3) := by decide +kernel
theorem dX12_qTest_47 : decode cX12_qTest 47 = .ok (.aload_n 0, 1) := by decide +kernel
theorem dX12_qTest_48 : decode cX12_qTest 48 = .ok (.aload_n 0, 1) := by decide +kernel
theorem dX12_qTest_49 : decode cX12_qTest 49 = .ok (.getfield 197, 3) := by decide +kernel
theorem dX12_qTest_52 : decode cX12_qTest 52 = .ok (.invokevirtual 286, 3) := by decide +kernel
theorem dX12_qTest_55 : decode cX12_qTest 55 = .ok (.ifCond .eq 24, 3) := by decide +kernel
theorem dX12_qTest_58 : decode cX12_qTest 58 = .ok (.aload_n 0, 1) := by decide +kernel
theorem dX12_qTest_59 : decode cX12_qTest 59 = .ok (.bipush 12, 2) := by decide +kernel
theorem dX12_qTest_61 : decode cX12_qTest 61 = .ok (.aload_n 0, 1) := by decide +kernel
theorem dX12_qTest_62 : decode cX12_qTest 62 = .ok (.getfield 269, 3) := by decide +kernel
theorem dX12_qTest_65 : decode cX12_qTest 65 = .ok (.invokevirtual 612, 3) := by decide +kernel
theorem dX12_qTest_68 : decode cX12_qTest 68 = .ok (.aload_n 0, 1) := by decide +kernel
theorem dX12_qTest_69 : decode cX12_qTest 69 = .ok (.aload_n 0, 1) := by decide +kernel
theorem dX12_qTest_70 : decode cX12_qTest 70 = .ok (.getfield 197, 3) := by decide +kernel
theorem dX12_qTest_73 : decode cX12_qTest 73 = .ok (.invokevirtual 337, 3) := by decide +kernel
theorem dX12_qTest_76 : decode cX12_qTest 76 = .ok (.goto (-74), 3) := by decide +kernel
theorem dX12_qTest_79 : decode cX12_qTest 79 = .ok (.aload_n 0, 1) := by decide +kernel
theorem dX12_qTest_80 : decode cX12_qTest 80 = .ok (.invokevirtual 636, 3) := by decide +kernel
theorem dX12_qTest_83 : decode cX12_qTest 83 = .ok (.aload_n 0, 1) := by decide +kernel
theorem dX12_qTest_84 : decode cX12_qTest 84 = .ok (.invokevirtual 639, 3) := by decide +kernel
theorem dX12_qTest_87 : decode cX12_qTest 87 = .ok (.aload_n 0, 1) := by decide +kernel
theorem dX12_qTest_88 : decode cX12_qTest 88 = .ok (.getfield 263, 3) := by decide +kernel
theorem dX12_qTest_91 : decode cX12_qTest 91 = .ok (.ifCond .ne 14, 3) := by decide +kernel
theorem dX12_qTest_94 : decode cX12_qTest 94 = .ok (.aload_n 0, 1) := by decide +kernel
theorem dX12_qTest_95 : decode cX12_qTest 95 = .ok (.invokevirtual 642, 3) := by decide +kernel
theorem dX12_qTest_98 : decode cX12_qTest 98 = .ok (.ifCond .eq 7, 3) := by decide +kernel
theorem dX12_qTest_101 : decode cX12_qTest 101 = .ok (.iconst 1, 1) := by decide +kernel
theorem dX12_qTest_102 : decode cX12_qTest 102 = .ok (.goto 4, 3) := by decide +kernel
theorem dX12_qTest_105 : decode cX12_qTest 105 = .ok (.iconst 0, 1) := by decide +kernel
theorem dX12_qTest_106 : decode cX12_qTest 106 = .ok (.istore_n 1, 1) := by decide +kernel
theorem dX12_qTest_107 : decode cX12_qTest 107 = .ok (.goto (-105), 3) := by decide +kernel
theorem dX12_qTest_110 : decode cX12_qTest 110 = .ok (.aload_n 0, 1) := by decide +kernel
theorem dX12_qTest_111 : decode cX12_qTest 111 = .ok (.getfield 263, 3) := by decide +kernel
theorem dX12_qTest_114 : decode cX12_qTest 114 = .ok (.ifCond .ne 17, 3) := by decide +kernel
theorem dX12_qTest_117 : decode cX12_qTest 117 = .ok (.aload_n 0, 1) := by decide +kernel
theorem dX12_qTest_118 : decode cX12_qTest 118 = .ok (.getfield 355, 3) := by decide +kernel
theorem dX12_qTest_121 : decode cX12_qTest 121 = .ok (.ifCond .le 10, 3) := by decide +kernel
theorem dX12_qTest_124 : decode cX12_qTest 124 = .ok (.aload_n 0, 1) := by decide +kernel
theorem dX12_qTest_125 : decode cX12_qTest 125 = .ok (.invokevirtual 600, 3) := by decide +kernel
theorem dX12_qTest_128 : decode cX12_qTest 128 = .ok (.goto (-18), 3) := by decide +kernel
theorem dX12_qTest_131 : decode cX12_qTest 131 = .ok (.return_, 1) := by decide +kernel
theorem dX12_watched_0 : decode cX12_watched 0 = .ok (.iload_n 1, 1) := by decide +kernel
theorem dX12_watched_1 : decode cX12_watched 1 = .ok (.i2l, 1) := by decide +kernel
theorem dX12_watched_2 : decode cX12_watched 2 = .ok (.lconst 0, 1) := by decide +kernel
theorem dX12_watched_3 : decode cX12_watched 3 = .ok (.lconst 1, 1) := by decide +kernel
theorem dX12_watched_4 : decode cX12_watched 4 = .ok (.invokestatic 303, 3) := by decide +kernel
theorem dX12_watched_7 : decode cX12_watched 7 = .ok (.ifCond .ne 5, 3) := by decide +kernel
theorem dX12_watched_10 : decode cX12_watched 10 = .ok (.iconst (-1), 1) := by decide +kernel
theorem dX12_watched_11 : decode cX12_watched 11 = .ok (.ireturn, 1) := by decide +kernel
theorem dX12_watched_12 : decode cX12_watched 12 = .ok (.aload_n 0, 1) := by decide +kernel
theorem dX12_watched_13 : decode cX12_watched 13 = .ok (.invokevirtual 566, 3) := by decide +kernel
theorem dX12_watched_16 : decode cX12_watched 16 = .ok (.istore_n 2, 1) := by decide +kernel
theorem dX12_watched_17 : decode cX12_watched 17 = .ok (.iconst (-1), 1) := by decide +kernel
theorem dX12_watched_18 : decode cX12_watched 18 = .ok (.istore_n 3, 1) := by decide +kernel
theorem dX12_watched_19 : decode cX12_watched 19 = .ok (.iconst 0, 1) := by decide +kernel
theorem dX12_watched_20 : decode cX12_watched 20 = .ok (.istore 4, 2) := by decide +kernel
theorem dX12_watched_22 : decode cX12_watched 22 = .ok (.iconst 0, 1) := by decide +kernel
theorem dX12_watched_23 : decode cX12_watched 23 = .ok (.istore 5, 2) := by decide +kernel
theorem dX12_watched_25 : decode cX12_watched 25 = .ok (.iload 5, 2) := by decide +kernel
theorem dX12_watched_27 : decode cX12_watched 27 = .ok (.aload_n 0, 1) := by decide +kernel
theorem dX12_watched_28 : decode cX12_watched 28 = .ok (.invokevirtual 419, 3) := by decide +kernel
theorem dX12_watched_31 : decode cX12_watched 31 = .ok (.if_icmp .ge 44, 3) := by decide +kernel
theorem dX12_watched_34 : decode cX12_watched 34 = .ok (.iload_n 2, 1) := by decide +kernel
theorem dX12_watched_35 : decode cX12_watched 35 = .ok (.ifCond .eq 40, 3) := by decide +kernel
theorem dX12_watched_38 : decode cX12_watched 38 = .ok (.aload_n 0, 1) := by decide +kernel
theorem dX12_watched_39 : decode cX12_watched 39 = .ok (.iload 5, 2) := by decide +kernel
theorem dX12_watched_41 : decode cX12_watched 41 = .ok (.iload_n 2, 1) := by decide +kernel
theorem dX12_watched_42 : decode cX12_watched 42 = .ok (.invokevirtual 569, 3) := by decide +kernel
theorem dX12_watched_45 : decode cX12_watched 45 = .ok (.istore 6, 2) := by decide +kernel
theorem dX12_watched_47 : decode cX12_watched 47 = .ok (.iload_n 3, 1) := by decide +kernel
theorem dX12_watched_48 : decode cX12_watched 48 = .ok (.iconst (-1), 1) := by decide +kernel
theorem dX12_watched_49 : decode cX12_watched 49 = .ok (.if_icmp .eq 13, 3) := by decide +kernel
theorem dX12_watched_52 : decode cX12_watched 52 = .ok (.iload 6, 2) := by decide +kernel
theorem dX12_watched_54 : decode cX12_watched 54 = .ok (.iload 4, 2) := by decide +kernel
theorem dX12_watched_56 : decode cX12_watched 56 = .ok (.if_icmp .lt 6, 3) := by decide +kernel
theorem dX12_watched_59 : decode cX12_watched 59 = .ok (.goto 10, 3) := by decide +kernel
theorem dX12_watched_62 : decode cX12_watched 62 = .ok (.iload 5, 2) := by decide +kernel
theorem dX12_watched_64 : decode cX12_watched 64 = .ok (.istore_n 3, 1) := by decide +kernel
theorem dX12_watched_65 : decode cX12_watched 65 = .ok (.iload 6, 2) := by decide +kernel
theorem dX12_watched_67 : decode cX12_watched 67 = .ok (.istore 4, 2) := by decide +kernel
theorem dX12_watched_69 : decode cX12_watched 69 = .ok (.iinc 5 1, 3) := by decide +kernel
theorem dX12_watched_72 : decode cX12_watched 72 = .ok (.goto (-47), 3) := by decide +kernel
theorem dX12_watched_75 : decode cX12_watched 75 = .ok (.iload_n 3, 1) := by decide +kernel
theorem dX12_watched_76 : decode cX12_watched 76 = .ok (.iconst (-1), 1) := by decide +kernel
theorem dX12_watched_77 : decode cX12_watched 77 = .ok (.if_icmp .ne 7, 3) := by decide +kernel
theorem dX12_watched_80 : decode cX12_watched 80 = .ok (.iconst (-1), 1) := by decide +kernel
theorem dX12_watched_81 : decode cX12_watched 81 = .ok (.goto 13, 3) := by decide +kernel
theorem dX12_watched_84 : decode cX12_watched 84 = .ok (.iload_n 1, 1) := by decide +kernel
theorem dX12_watched_85 : decode cX12_watched 85 = .ok (.ifCond .ne 7, 3) := by decide +kernel
theorem dX12_watched_88 : decode cX12_watched 88 = .ok (.iload_n 3, 1) := by decide +kernel
theorem dX12_watched_89 : decode cX12_watched 89 = .ok (.goto 5, 3) := by decide +kernel
theorem dX12_watched_92 : decode cX12_watched 92 = .ok (.iload 4, 2) := by decide +kernel
theorem dX12_watched_94 : decode cX12_watched 94 = .ok (.ireturn, 1) := by decide +kernel
theorem dX12_asks_0 : decode cX12_asks 0 = .ok (.aload_n 0, 1) := by decide +kernel
theorem dX12_asks_1 : decode cX12_asks 1 = .ok (.getfield 263, 3) := by decide +kernel
theorem dX12_asks_4 : decode cX12_asks 4 = .ok (.ifCond .ne 20, 3) := by decide +kernel
theorem dX12_asks_7 : decode cX12_asks 7 = .ok (.aload_n 0, 1) := by decide +kernel
theorem dX12_asks_8 : decode cX12_asks 8 = .ok (.aload_n 1, 1) := by decide +kernel
theorem dX12_asks_9 : decode cX12_asks 9 = .ok (.invokevirtual 290, 3) := by decide +kernel
theorem dX12_asks_12 : decode cX12_asks 12 = .ok (.ifCond .ne 12, 3) := by decide +kernel
theorem dX12_asks_15 : decode cX12_asks 15 = .ok (.aload_n 0, 1) := by decide +kernel
theorem dX12_asks_16 : decode cX12_asks 16 = .ok (.iconst 1, 1) := by decide +kernel
theorem dX12_asks_17 : decode cX12_asks 17 = .ok (.aload_n 0, 1) := by decide +kernel
theorem dX12_asks_18 : decode cX12_asks 18 = .ok (.getfield 269, 3) := by decide +kernel
theorem dX12_asks_21 : decode cX12_asks 21 = .ok (.invokevirtual 293, 3) := by decide +kernel
theorem dX12_asks_24 : decode cX12_asks 24 = .ok (.return_, 1) := by decide +kernel
theorem dX12_sharedIn_0 : decode cX12_sharedIn 0 = .ok (.iconst 0, 1) := by decide +kernel
theorem dX12_sharedIn_1 : decode cX12_sharedIn 1 = .ok (.istore_n 1, 1) := by decide +kernel
theorem dX12_sharedIn_2 : decode cX12_sharedIn 2 = .ok (.iconst 0, 1) := by decide +kernel
theorem dX12_sharedIn_3 : decode cX12_sharedIn 3 = .ok (.istore_n 2, 1) := by decide +kernel
theorem dX12_sharedIn_4 : decode cX12_sharedIn 4 = .ok (.iload_n 2, 1) := by decide +kernel
theorem dX12_sharedIn_5 : decode cX12_sharedIn 5 = .ok (.aload_n 0, 1) := by decide +kernel
theorem dX12_sharedIn_6 : decode cX12_sharedIn 6 = .ok (.invokevirtual 419, 3) := by decide +kernel
theorem dX12_sharedIn_9 : decode cX12_sharedIn 9 = .ok (.if_icmp .ge 46, 3) := by decide +kernel
theorem dX12_sharedIn_12 : decode cX12_sharedIn 12 = .ok (.aload_n 0, 1) := by decide +kernel
theorem dX12_sharedIn_13 : decode cX12_sharedIn 13 = .ok (.getfield 148, 3) := by decide +kernel
theorem dX12_sharedIn_16 : decode cX12_sharedIn 16 = .ok (.iload_n 2, 1) := by decide +kernel
theorem dX12_sharedIn_17 : decode cX12_sharedIn 17 = .ok (.iaload, 1) := by decide +kernel
theorem dX12_sharedIn_18 : decode cX12_sharedIn 18 = .ok (.ifCond .le 31, 3) := by decide +kernel
theorem dX12_sharedIn_21 : decode cX12_sharedIn 21 = .ok (.iload_n 1, 1) := by decide +kernel
theorem dX12_sharedIn_22 : decode cX12_sharedIn 22 = .ok (.aload_n 0, 1) := by decide +kernel
theorem dX12_sharedIn_23 : decode cX12_sharedIn 23 = .ok (.getfield 112, 3) := by decide +kernel
theorem dX12_sharedIn_26 : decode cX12_sharedIn 26 = .ok (.bipush 25, 2) := by decide +kernel
theorem dX12_sharedIn_28 : decode cX12_sharedIn 28 = .ok (.iconst 3, 1) := by decide +kernel
theorem dX12_sharedIn_29 : decode cX12_sharedIn 29 = .ok (.iload_n 2, 1) := by decide +kernel
theorem dX12_sharedIn_30 : decode cX12_sharedIn 30 = .ok (.imul, 1) := by decide +kernel
theorem dX12_sharedIn_31 : decode cX12_sharedIn 31 = .ok (.iadd, 1) := by decide +kernel
theorem dX12_sharedIn_32 : decode cX12_sharedIn 32 = .ok (.iaload, 1) := by decide +kernel
theorem dX12_sharedIn_33 : decode cX12_sharedIn 33 = .ok (.aload_n 0, 1) := by decide +kernel
theorem dX12_sharedIn_34 : decode cX12_sharedIn 34 = .ok (.iload_n 2, 1) := by decide +kernel
theorem dX12_sharedIn_35 : decode cX12_sharedIn 35 = .ok (.aload_n 0, 1) := by decide +kernel
theorem dX12_sharedIn_36 : decode cX12_sharedIn 36 = .ok (.getfield 148, 3) := by decide +kernel
theorem dX12_sharedIn_39 : decode cX12_sharedIn 39 = .ok (.iload_n 2, 1) := by decide +kernel
theorem dX12_sharedIn_40 : decode cX12_sharedIn 40 = .ok (.iaload, 1) := by decide +kernel
theorem dX12_sharedIn_41 : decode cX12_sharedIn 41 = .ok (.iconst 1, 1) := by decide +kernel
theorem dX12_sharedIn_42 : decode cX12_sharedIn 42 = .ok (.isub, 1) := by decide +kernel
theorem dX12_sharedIn_43 : decode cX12_sharedIn 43 = .ok (.invokevirtual 425, 3) := by decide +kernel
theorem dX12_sharedIn_46 : decode cX12_sharedIn 46 = .ok (.imul, 1) := by decide +kernel
theorem dX12_sharedIn_47 : decode cX12_sharedIn 47 = .ok (.iadd, 1) := by decide +kernel
theorem dX12_sharedIn_48 : decode cX12_sharedIn 48 = .ok (.istore_n 1, 1) := by decide +kernel
theorem dX12_sharedIn_49 : decode cX12_sharedIn 49 = .ok (.iinc 2 1, 3) := by decide +kernel
theorem dX12_sharedIn_52 : decode cX12_sharedIn 52 = .ok (.goto (-48), 3) := by decide +kernel
theorem dX12_sharedIn_55 : decode cX12_sharedIn 55 = .ok (.iload_n 1, 1) := by decide +kernel
theorem dX12_sharedIn_56 : decode cX12_sharedIn 56 = .ok (.ireturn, 1) := by decide +kernel
theorem dX12_manyWith_0 : decode cX12_manyWith 0 = .ok (.iconst 0, 1) := by decide +kernel
theorem dX12_manyWith_1 : decode cX12_manyWith 1 = .ok (.istore_n 2, 1) := by decide +kernel
theorem dX12_manyWith_2 : decode cX12_manyWith 2 = .ok (.iconst 0, 1) := by decide +kernel
theorem dX12_manyWith_3 : decode cX12_manyWith 3 = .ok (.istore_n 3, 1) := by decide +kernel
theorem dX12_manyWith_4 : decode cX12_manyWith 4 = .ok (.iload_n 3, 1) := by decide +kernel
theorem dX12_manyWith_5 : decode cX12_manyWith 5 = .ok (.aload_n 0, 1) := by decide +kernel
theorem dX12_manyWith_6 : decode cX12_manyWith 6 = .ok (.invokevirtual 419, 3) := by decide +kernel
theorem dX12_manyWith_9 : decode cX12_manyWith 9 = .ok (.if_icmp .ge 28, 3) := by decide +kernel
theorem dX12_manyWith_12 : decode cX12_manyWith 12 = .ok (.aload_n 0, 1) := by decide +kernel
theorem dX12_manyWith_13 : decode cX12_manyWith 13 = .ok (.getfield 142, 3) := by decide +kernel
theorem dX12_manyWith_16 : decode cX12_manyWith 16 = .ok (.bipush 8, 2) := by decide +kernel
theorem dX12_manyWith_18 : decode cX12_manyWith 18 = .ok (.iconst 3, 1) := by decide +kernel
theorem dX12_manyWith_19 : decode cX12_manyWith 19 = .ok (.iload_n 3, 1) := by decide +kernel
theorem dX12_manyWith_20 : decode cX12_manyWith 20 = .ok (.imul, 1) := by decide +kernel
theorem dX12_manyWith_21 : decode cX12_manyWith 21 = .ok (.iadd, 1) := by decide +kernel
theorem dX12_manyWith_22 : decode cX12_manyWith 22 = .ok (.iload_n 1, 1) := by decide +kernel
theorem dX12_manyWith_23 : decode cX12_manyWith 23 = .ok (.iadd, 1) := by decide +kernel
theorem dX12_manyWith_24 : decode cX12_manyWith 24 = .ok (.iaload, 1) := by decide +kernel
theorem dX12_manyWith_25 : decode cX12_manyWith 25 = .ok (.ifCond .le 6, 3) := by decide +kernel
theorem dX12_manyWith_28 : decode cX12_manyWith 28 = .ok (.iinc 2 1, 3) := by decide +kernel
theorem dX12_manyWith_31 : decode cX12_manyWith 31 = .ok (.iinc 3 1, 3) := by decide +kernel
theorem dX12_manyWith_34 : decode cX12_manyWith 34 = .ok (.goto (-30), 3) := by decide +kernel
theorem dX12_manyWith_37 : decode cX12_manyWith 37 = .ok (.iload_n 2, 1) := by decide +kernel
theorem dX12_manyWith_38 : decode cX12_manyWith 38 = .ok (.ireturn, 1) := by decide +kernel
theorem dX12_sheetOf_0 : decode cX12_sheetOf 0 = .ok (.aload_n 0, 1) := by decide +kernel
theorem dX12_sheetOf_1 : decode cX12_sheetOf 1 = .ok (.getfield 142, 3) := by decide +kernel
theorem dX12_sheetOf_4 : decode cX12_sheetOf 4 = .ok (.bipush 8, 2) := by decide +kernel
theorem dX12_sheetOf_6 : decode cX12_sheetOf 6 = .ok (.iconst 3, 1) := by decide +kernel
theorem dX12_sheetOf_7 : decode cX12_sheetOf 7 = .ok (.iload_n 1, 1) := by decide +kernel
theorem dX12_sheetOf_8 : decode cX12_sheetOf 8 = .ok (.imul, 1) := by decide +kernel
theorem dX12_sheetOf_9 : decode cX12_sheetOf 9 = .ok (.iadd, 1) := by decide +kernel
theorem dX12_sheetOf_10 : decode cX12_sheetOf 10 = .ok (.iconst 1, 1) := by decide +kernel
theorem dX12_sheetOf_11 : decode cX12_sheetOf 11 = .ok (.iadd, 1) := by decide +kernel
theorem dX12_sheetOf_12 : decode cX12_sheetOf 12 = .ok (.iaload, 1) := by decide +kernel
theorem dX12_sheetOf_13 : decode cX12_sheetOf 13 = .ok (.ireturn, 1) := by decide +kernel
theorem dX12_newName_0 : decode cX12_newName 0 = .ok (.aload_n 0, 1) := by decide +kernel
theorem dX12_newName_1 : decode cX12_newName 1 = .ok (.invokevirtual 322, 3) := by decide +kernel
theorem dX12_newName_4 : decode cX12_newName 4 = .ok (.lstore_n 1, 1) := by decide +kernel
theorem dX12_newName_5 : decode cX12_newName 5 = .ok (.iconst 0, 1) := by decide +kernel
theorem dX12_newName_6 : decode cX12_newName 6 = .ok (.istore_n 3, 1) := by decide +kernel
theorem dX12_newName_7 : decode cX12_newName 7 = .ok (.iload_n 3, 1) := by decide +kernel
theorem dX12_newName_8 : decode cX12_newName 8 = .ok (.iconst 3, 1) := by decide +kernel
theorem dX12_newName_9 : decode cX12_newName 9 = .ok (.if_icmp .ge 35, 3) := by decide +kernel
theorem dX12_newName_12 : decode cX12_newName 12 = .ok (.aload_n 0, 1) := by decide +kernel
theorem dX12_newName_13 : decode cX12_newName 13 = .ok (.getfield 263, 3) := by decide +kernel
theorem dX12_newName_16 : decode cX12_newName 16 = .ok (.ifCond .ne 22, 3) := by decide +kernel
theorem dX12_newName_19 : decode cX12_newName 19 = .ok (.aload_n 0, 1) := by decide +kernel
theorem dX12_newName_20 : decode cX12_newName 20 = .ok (.iload_n 3, 1) := by decide +kernel
theorem dX12_newName_21 : decode cX12_newName 21 = .ok (.lload_n 1, 1) := by decide +kernel
theorem dX12_newName_22 : decode cX12_newName 22 = .ok (.invokevirtual 326, 3) := by decide +kernel
theorem dX12_newName_25 : decode cX12_newName 25 = .ok (.iconst (-1), 1) := by decide +kernel
theorem dX12_newName_26 : decode cX12_newName 26 = .ok (.if_icmp .eq 12, 3) := by decide +kernel
theorem dX12_newName_29 : decode cX12_newName 29 = .ok (.aload_n 0, 1) := by decide +kernel
theorem dX12_newName_30 : decode cX12_newName 30 = .ok (.iconst 3, 1) := by decide +kernel
theorem dX12_newName_31 : decode cX12_newName 31 = .ok (.aload_n 0, 1) := by decide +kernel
theorem dX12_newName_32 : decode cX12_newName 32 = .ok (.getfield 311, 3) := by decide +kernel
theorem dX12_newName_35 : decode cX12_newName 35 = .ok (.invokevirtual 293, 3) := by decide +kernel
theorem dX12_newName_38 : decode cX12_newName 38 = .ok (.iinc 3 1, 3) := by decide +kernel
theorem dX12_newName_41 : decode cX12_newName 41 = .ok (.goto (-34), 3) := by decide +kernel
theorem dX12_newName_44 : decode cX12_newName 44 = .ok (.lload_n 1, 1) := by decide +kernel
theorem dX12_newName_45 : decode cX12_newName 45 = .ok (.lreturn, 1) := by decide +kernel
theorem dX12_giftTold_0 : decode cX12_giftTold 0 = .ok (.aload_n 0, 1) := by decide +kernel
theorem dX12_giftTold_1 : decode cX12_giftTold 1 = .ok (.iconst 1, 1) := by decide +kernel
theorem dX12_giftTold_2 : decode cX12_giftTold 2 = .ok (.iconst 4, 1) := by decide +kernel
theorem dX12_giftTold_3 : decode cX12_giftTold 3 = .ok (.iload_n 1, 1) := by decide +kernel
theorem dX12_giftTold_4 : decode cX12_giftTold 4 = .ok (.invokevirtual 330, 3) := by decide +kernel
theorem dX12_giftTold_7 : decode cX12_giftTold 7 = .ok (.ifCond .eq 4, 3) := by decide +kernel
theorem dX12_giftTold_10 : decode cX12_giftTold 10 = .ok (.return_, 1) := by decide +kernel
theorem dX12_giftTold_11 : decode cX12_giftTold 11 = .ok (.aload_n 0, 1) := by decide +kernel
theorem dX12_giftTold_12 : decode cX12_giftTold 12 = .ok (.invokevirtual 334, 3) := by decide +kernel
theorem dX12_giftTold_15 : decode cX12_giftTold 15 = .ok (.lstore_n 2, 1) := by decide +kernel
theorem dX12_giftTold_16 : decode cX12_giftTold 16 = .ok (.aload_n 0, 1) := by decide +kernel
theorem dX12_giftTold_17 : decode cX12_giftTold 17 = .ok (.aload_n 0, 1) := by decide +kernel
theorem dX12_giftTold_18 : decode cX12_giftTold 18 = .ok (.getfield 36, 3) := by decide +kernel
theorem dX12_giftTold_21 : decode cX12_giftTold 21 = .ok (.invokevirtual 337, 3) := by decide +kernel
theorem dX12_giftTold_24 : decode cX12_giftTold 24 = .ok (.aload_n 0, 1) := by decide +kernel
theorem dX12_giftTold_25 : decode cX12_giftTold 25 = .ok (.iconst 0, 1) := by decide +kernel
theorem dX12_giftTold_26 : decode cX12_giftTold 26 = .ok (.iconst 3, 1) := by decide +kernel
theorem dX12_giftTold_27 : decode cX12_giftTold 27 = .ok (.invokevirtual 341, 3) := by decide +kernel
theorem dX12_giftTold_30 : decode cX12_giftTold 30 = .ok (.istore 4, 2) := by decide +kernel
theorem dX12_giftTold_32 : decode cX12_giftTold 32 = .ok (.aload_n 0, 1) := by decide +kernel
theorem dX12_giftTold_33 : decode cX12_giftTold 33 = .ok (.getfield 263, 3) := by decide +kernel
theorem dX12_giftTold_36 : decode cX12_giftTold 36 = .ok (.ifCond .ne 16, 3) := by decide +kernel
theorem dX12_giftTold_39 : decode cX12_giftTold 39 = .ok (.aload_n 0, 1) := by decide +kernel
theorem dX12_giftTold_40 : decode cX12_giftTold 40 = .ok (.getfield 115, 3) := by decide +kernel
theorem dX12_giftTold_43 : decode cX12_giftTold 43 = .ok (.aload_n 0, 1) := by decide +kernel
theorem dX12_giftTold_44 : decode cX12_giftTold 44 = .ok (.iconst 1, 1) := by decide +kernel
theorem dX12_giftTold_45 : decode cX12_giftTold 45 = .ok (.lload_n 2, 1) := by decide +kernel
theorem dX12_giftTold_46 : decode cX12_giftTold 46 = .ok (.invokevirtual 345, 3) := by decide +kernel
theorem dX12_giftTold_49 : decode cX12_giftTold 49 = .ok (.iload 4, 2) := by decide +kernel
theorem dX12_giftTold_51 : decode cX12_giftTold 51 = .ok (.iastore, 1) := by decide +kernel
theorem dX12_giftTold_52 : decode cX12_giftTold 52 = .ok (.return_, 1) := by decide +kernel
theorem dX12_can_0 : decode cX12_can 0 = .ok (.aload_n 0, 1) := by decide +kernel
theorem dX12_can_1 : decode cX12_can 1 = .ok (.iload_n 1, 1) := by decide +kernel
theorem dX12_can_2 : decode cX12_can 2 = .ok (.invokevirtual 501, 3) := by decide +kernel
theorem dX12_can_5 : decode cX12_can 5 = .ok (.ifCond .eq 28, 3) := by decide +kernel
theorem dX12_can_8 : decode cX12_can 8 = .ok (.aload_n 0, 1) := by decide +kernel
theorem dX12_can_9 : decode cX12_can 9 = .ok (.iload_n 2, 1) := by decide +kernel
theorem dX12_can_10 : decode cX12_can 10 = .ok (.invokevirtual 516, 3) := by decide +kernel
theorem dX12_can_13 : decode cX12_can 13 = .ok (.ifCond .eq 20, 3) := by decide +kernel
theorem dX12_can_16 : decode cX12_can 16 = .ok (.aload_n 0, 1) := by decide +kernel
theorem dX12_can_17 : decode cX12_can 17 = .ok (.iload_n 1, 1) := by decide +kernel
theorem dX12_can_18 : decode cX12_can 18 = .ok (.iload_n 2, 1) := by decide +kernel
theorem dX12_can_19 : decode cX12_can 19 = .ok (.invokevirtual 521, 3) := by decide +kernel
theorem dX12_can_22 : decode cX12_can 22 = .ok (.ifCond .eq 7, 3) := by decide +kernel
theorem dX12_can_25 : decode cX12_can 25 = .ok (.iconst 1, 1) := by decide +kernel
theorem dX12_can_26 : decode cX12_can 26 = .ok (.goto 8, 3) := by decide +kernel
theorem dX12_can_29 : decode cX12_can 29 = .ok (.iconst 0, 1) := by decide +kernel
theorem dX12_can_30 : decode cX12_can 30 = .ok (.goto 4, 3) := by decide +kernel
theorem dX12_can_33 : decode cX12_can 33 = .ok (.iconst (-1), 1) := by decide +kernel
theorem dX12_can_34 : decode cX12_can 34 = .ok (.ireturn, 1) := by decide +kernel
theorem dX12_ask_0 : decode cX12_ask 0 = .ok (.aload_n 0, 1) := by decide +kernel
theorem dX12_ask_1 : decode cX12_ask 1 = .ok (.aload_n 0, 1) := by decide +kernel
theorem dX12_ask_2 : decode cX12_ask 2 = .ok (.getfield 260, 3) := by decide +kernel
theorem dX12_ask_5 : decode cX12_ask 5 = .ok (.putfield 272, 3) := by decide +kernel
theorem dX12_ask_8 : decode cX12_ask 8 = .ok (.aload_n 0, 1) := by decide +kernel
theorem dX12_ask_9 : decode cX12_ask 9 = .ok (.iconst 0, 1) := by decide +kernel
theorem dX12_ask_10 : decode cX12_ask 10 = .ok (.putfield 260, 3) := by decide +kernel
theorem dX12_ask_13 : decode cX12_ask 13 = .ok (.aload_n 0, 1) := by decide +kernel
theorem dX12_ask_14 : decode cX12_ask 14 = .ok (.iconst 0, 1) := by decide +kernel
theorem dX12_ask_15 : decode cX12_ask 15 = .ok (.putfield 269, 3) := by decide +kernel
theorem dX12_ask_18 : decode cX12_ask 18 = .ok (.aload_n 0, 1) := by decide +kernel
theorem dX12_ask_19 : decode cX12_ask 19 = .ok (.iconst (-1), 1) := by decide +kernel
theorem dX12_ask_20 : decode cX12_ask 20 = .ok (.putfield 283, 3) := by decide +kernel
theorem dX12_ask_23 : decode cX12_ask 23 = .ok (.aload_n 0, 1) := by decide +kernel
theorem dX12_ask_24 : decode cX12_ask 24 = .ok (.iconst 0, 1) := by decide +kernel
theorem dX12_ask_25 : decode cX12_ask 25 = .ok (.putfield 263, 3) := by decide +kernel
theorem dX12_ask_28 : decode cX12_ask 28 = .ok (.aload_n 0, 1) := by decide +kernel
theorem dX12_ask_29 : decode cX12_ask 29 = .ok (.iconst (-1), 1) := by decide +kernel
theorem dX12_ask_30 : decode cX12_ask 30 = .ok (.putfield 266, 3) := by decide +kernel
theorem dX12_ask_33 : decode cX12_ask 33 = .ok (.aload_n 0, 1) := by decide +kernel
theorem dX12_ask_34 : decode cX12_ask 34 = .ok (.iconst 0, 1) := by decide +kernel
theorem dX12_ask_35 : decode cX12_ask 35 = .ok (.putfield 318, 3) := by decide +kernel
theorem dX12_ask_38 : decode cX12_ask 38 = .ok (.aload_n 0, 1) := by decide +kernel
theorem dX12_ask_39 : decode cX12_ask 39 = .ok (.iconst 0, 1) := by decide +kernel
theorem dX12_ask_40 : decode cX12_ask 40 = .ok (.putfield 352, 3) := by decide +kernel
theorem dX12_ask_43 : decode cX12_ask 43 = .ok (.aload_n 0, 1) := by decide +kernel
theorem dX12_ask_44 : decode cX12_ask 44 = .ok (.iconst 0, 1) := by decide +kernel
theorem dX12_ask_45 : decode cX12_ask 45 = .ok (.putfield 355, 3) := by decide +kernel
theorem dX12_ask_48 : decode cX12_ask 48 = .ok (.aload_n 0, 1) := by decide +kernel
theorem dX12_ask_49 : decode cX12_ask 49 = .ok (.iconst 0, 1) := by decide +kernel
theorem dX12_ask_50 : decode cX12_ask 50 = .ok (.putfield 358, 3) := by decide +kernel
theorem dX12_ask_53 : decode cX12_ask 53 = .ok (.aload_n 0, 1) := by decide +kernel
theorem dX12_ask_54 : decode cX12_ask 54 = .ok (.iconst 0, 1) := by decide +kernel
theorem dX12_ask_55 : decode cX12_ask 55 = .ok (.putfield 361, 3) := by decide +kernel
theorem dX12_ask_58 : decode cX12_ask 58 = .ok (.aload_n 0, 1) := by decide +kernel
theorem dX12_ask_59 : decode cX12_ask 59 = .ok (.invokevirtual 672, 3) := by decide +kernel
theorem dX12_ask_62 : decode cX12_ask 62 = .ok (.istore_n 1, 1) := by decide +kernel
theorem dX12_ask_63 : decode cX12_ask 63 = .ok (.aload_n 0, 1) := by decide +kernel
theorem dX12_ask_64 : decode cX12_ask 64 = .ok (.getfield 263, 3) := by decide +kernel
theorem dX12_ask_67 : decode cX12_ask 67 = .ok (.ifCond .ne 15, 3) := by decide +kernel
theorem dX12_ask_70 : decode cX12_ask 70 = .ok (.iload_n 1, 1) := by decide +kernel
theorem dX12_ask_71 : decode cX12_ask 71 = .ok (.iconst 3, 1) := by decide +kernel
theorem dX12_ask_72 : decode cX12_ask 72 = .ok (.if_icmp .ge 10, 3) := by decide +kernel
theorem dX12_ask_75 : decode cX12_ask 75 = .ok (.aload_n 0, 1) := by decide +kernel
theorem dX12_ask_76 : decode cX12_ask 76 = .ok (.invokevirtual 675, 3) := by decide +kernel
theorem dX12_ask_79 : decode cX12_ask 79 = .ok (.goto 14, 3) := by decide +kernel
theorem dX12_ask_82 : decode cX12_ask 82 = .ok (.aload_n 0, 1) := by decide +kernel
theorem dX12_ask_83 : decode cX12_ask 83 = .ok (.getfield 263, 3) := by decide +kernel
theorem dX12_ask_86 : decode cX12_ask 86 = .ok (.ifCond .ne 7, 3) := by decide +kernel
theorem dX12_ask_89 : decode cX12_ask 89 = .ok (.aload_n 0, 1) := by decide +kernel
theorem dX12_ask_90 : decode cX12_ask 90 = .ok (.invokevirtual 364, 3) := by decide +kernel
theorem dX12_ask_93 : decode cX12_ask 93 = .ok (.aload_n 0, 1) := by decide +kernel
theorem dX12_ask_94 : decode cX12_ask 94 = .ok (.getfield 263, 3) := by decide +kernel
theorem dX12_ask_97 : decode cX12_ask 97 = .ok (.ifCond .ne 20, 3) := by decide +kernel
theorem dX12_ask_100 : decode cX12_ask 100 = .ok (.aload_n 0, 1) := by decide +kernel
theorem dX12_ask_101 : decode cX12_ask 101 = .ok (.invokevirtual 275, 3) := by decide +kernel
theorem dX12_ask_104 : decode cX12_ask 104 = .ok (.iconst (-1), 1) := by decide +kernel
theorem dX12_ask_105 : decode cX12_ask 105 = .ok (.if_icmp .eq 12, 3) := by decide +kernel
theorem dX12_ask_108 : decode cX12_ask 108 = .ok (.aload_n 0, 1) := by decide +kernel
theorem dX12_ask_109 : decode cX12_ask 109 = .ok (.iconst 1, 1) := by decide +kernel
theorem dX12_ask_110 : decode cX12_ask 110 = .ok (.aload_n 0, 1) := by decide +kernel
theorem dX12_ask_111 : decode cX12_ask 111 = .ok (.getfield 269, 3) := by decide +kernel
theorem dX12_ask_114 : decode cX12_ask 114 = .ok (.invokevirtual 293, 3) := by decide +kernel
theorem dX12_ask_117 : decode cX12_ask 117 = .ok (.aload_n 0, 1) := by decide +kernel
theorem dX12_ask_118 : decode cX12_ask 118 = .ok (.aload_n 0, 1) := by decide +kernel
theorem dX12_ask_119 : decode cX12_ask 119 = .ok (.getfield 263, 3) := by decide +kernel
theorem dX12_ask_122 : decode cX12_ask 122 = .ok (.putfield 401, 3) := by decide +kernel
theorem dX12_ask_125 : decode cX12_ask 125 = .ok (.aload_n 0, 1) := by decide +kernel
theorem dX12_ask_126 : decode cX12_ask 126 = .ok (.aload_n 0, 1) := by decide +kernel
theorem dX12_ask_127 : decode cX12_ask 127 = .ok (.getfield 266, 3) := by decide +kernel
theorem dX12_ask_130 : decode cX12_ask 130 = .ok (.putfield 13, 3) := by decide +kernel
theorem dX12_ask_133 : decode cX12_ask 133 = .ok (.aload_n 0, 1) := by decide +kernel
theorem dX12_ask_134 : decode cX12_ask 134 = .ok (.getfield 263, 3) := by decide +kernel
theorem dX12_ask_137 : decode cX12_ask 137 = .ok (.ifCond .eq 7, 3) := by decide +kernel
theorem dX12_ask_140 : decode cX12_ask 140 = .ok (.ldc2_w 519, 3) := by decide +kernel
theorem dX12_ask_143 : decode cX12_ask 143 = .ok (.lreturn, 1) := by decide +kernel
theorem dX12_ask_144 : decode cX12_ask 144 = .ok (.aload_n 0, 1) := by decide +kernel
theorem dX12_ask_145 : decode cX12_ask 145 = .ok (.iload_n 1, 1) := by decide +kernel
theorem dX12_ask_146 : decode cX12_ask 146 = .ok (.iconst 2, 1) := by decide +kernel
theorem dX12_ask_147 : decode cX12_ask 147 = .ok (.if_icmp .ge 9, 3) := by decide +kernel
theorem dX12_ask_150 : decode cX12_ask 150 = .ok (.ldc2_w 667, 3) := by decide +kernel
theorem dX12_ask_153 : decode cX12_ask 153 = .ok (.goto 4, 3) := by decide +kernel
theorem dX12_ask_156 : decode cX12_ask 156 = .ok (.lconst 0, 1) := by decide +kernel
theorem dX12_ask_157 : decode cX12_ask 157 = .ok (.putfield 664, 3) := by decide +kernel
theorem dX12_ask_160 : decode cX12_ask 160 = .ok (.aload_n 0, 1) := by decide +kernel
theorem dX12_ask_161 : decode cX12_ask 161 = .ok (.iconst 1, 1) := by decide +kernel
theorem dX12_ask_162 : decode cX12_ask 162 = .ok (.putfield 669, 3) := by decide +kernel
theorem dX12_ask_165 : decode cX12_ask 165 = .ok (.aload_n 0, 1) := by decide +kernel
theorem dX12_ask_166 : decode cX12_ask 166 = .ok (.iconst 0, 1) := by decide +kernel
theorem dX12_ask_167 : decode cX12_ask 167 = .ok (.putfield 318, 3) := by decide +kernel
theorem dX12_ask_170 : decode cX12_ask 170 = .ok (.iconst 0, 1) := by decide +kernel
theorem dX12_ask_171 : decode cX12_ask 171 = .ok (.istore_n 2, 1) := by decide +kernel
theorem dX12_ask_172 : decode cX12_ask 172 = .ok (.iload_n 2, 1) := by decide +kernel
theorem dX12_ask_173 : decode cX12_ask 173 = .ok (.aload_n 0, 1) := by decide +kernel
theorem dX12_ask_174 : decode cX12_ask 174 = .ok (.invokevirtual 419, 3) := by decide +kernel
theorem dX12_ask_177 : decode cX12_ask 177 = .ok (.if_icmp .ge 20, 3) := by decide +kernel
theorem dX12_ask_180 : decode cX12_ask 180 = .ok (.aload_n 0, 1) := by decide +kernel
theorem dX12_ask_181 : decode cX12_ask 181 = .ok (.iload_n 1, 1) := by decide +kernel
theorem dX12_ask_182 : decode cX12_ask 182 = .ok (.aload_n 0, 1) := by decide +kernel
theorem dX12_ask_183 : decode cX12_ask 183 = .ok (.iload_n 2, 1) := by decide +kernel
theorem dX12_ask_184 : decode cX12_ask 184 = .ok (.invokevirtual 678, 3) := by decide +kernel
theorem dX12_ask_187 : decode cX12_ask 187 = .ok (.iload_n 2, 1) := by decide +kernel
theorem dX12_ask_188 : decode cX12_ask 188 = .ok (.invokevirtual 682, 3) := by decide +kernel
theorem dX12_ask_191 : decode cX12_ask 191 = .ok (.iinc 2 1, 3) := by decide +kernel
theorem dX12_ask_194 : decode cX12_ask 194 = .ok (.goto (-22), 3) := by decide +kernel
theorem dX12_ask_197 : decode cX12_ask 197 = .ok (.aload_n 0, 1) := by decide +kernel
theorem dX12_ask_198 : decode cX12_ask 198 = .ok (.getfield 664, 3) := by decide +kernel
theorem dX12_ask_201 : decode cX12_ask 201 = .ok (.lreturn, 1) := by decide +kernel
theorem dX12_letterMany_0 : decode cX12_letterMany 0 = .ok (.aload_n 0, 1) := by decide +kernel
theorem dX12_letterMany_1 : decode cX12_letterMany 1 = .ok (.getfield 105, 3) := by decide +kernel
theorem dX12_letterMany_4 : decode cX12_letterMany 4 = .ok (.iconst 5, 1) := by decide +kernel
theorem dX12_letterMany_5 : decode cX12_letterMany 5 = .ok (.iaload, 1) := by decide +kernel
theorem dX12_letterMany_6 : decode cX12_letterMany 6 = .ok (.ireturn, 1) := by decide +kernel
theorem dX12_octet_0 : decode cX12_octet 0 = .ok (.iload_n 1, 1) := by decide +kernel
theorem dX12_octet_1 : decode cX12_octet 1 = .ok (.ifCond .lt 20, 3) := by decide +kernel
theorem dX12_octet_4 : decode cX12_octet 4 = .ok (.iload_n 1, 1) := by decide +kernel
theorem dX12_octet_5 : decode cX12_octet 5 = .ok (.aload_n 0, 1) := by decide +kernel
theorem dX12_octet_6 : decode cX12_octet 6 = .ok (.getfield 686, 3) := by decide +kernel
theorem dX12_octet_9 : decode cX12_octet 9 = .ok (.if_icmp .ge 12, 3) := by decide +kernel
theorem dX12_octet_12 : decode cX12_octet 12 = .ok (.aload_n 0, 1) := by decide +kernel
theorem dX12_octet_13 : decode cX12_octet 13 = .ok (.getfield 257, 3) := by decide +kernel
theorem dX12_octet_16 : decode cX12_octet 16 = .ok (.iload_n 1, 1) := by decide +kernel
theorem dX12_octet_17 : decode cX12_octet 17 = .ok (.iaload, 1) := by decide +kernel
theorem dX12_octet_18 : decode cX12_octet 18 = .ok (.goto 4, 3) := by decide +kernel
theorem dX12_octet_21 : decode cX12_octet 21 = .ok (.iconst (-1), 1) := by decide +kernel
theorem dX12_octet_22 : decode cX12_octet 22 = .ok (.ireturn, 1) := by decide +kernel
theorem dX12_answer_0 : decode cX12_answer 0 = .ok (.aload_n 0, 1) := by decide +kernel
theorem dX12_answer_1 : decode cX12_answer 1 = .ok (.iload_n 1, 1) := by decide +kernel
theorem dX12_answer_2 : decode cX12_answer 2 = .ok (.invokevirtual 501, 3) := by decide +kernel
theorem dX12_answer_5 : decode cX12_answer 5 = .ok (.ifCond .eq 20, 3) := by decide +kernel
theorem dX12_answer_8 : decode cX12_answer 8 = .ok (.aload_n 0, 1) := by decide +kernel
theorem dX12_answer_9 : decode cX12_answer 9 = .ok (.iload_n 2, 1) := by decide +kernel
theorem dX12_answer_10 : decode cX12_answer 10 = .ok (.invokevirtual 516, 3) := by decide +kernel
theorem dX12_answer_13 : decode cX12_answer 13 = .ok (.ifCond .eq 12, 3) := by decide +kernel
theorem dX12_answer_16 : decode cX12_answer 16 = .ok (.aload_n 0, 1) := by decide +kernel
theorem dX12_answer_17 : decode cX12_answer 17 = .ok (.iload_n 1, 1) := by decide +kernel
theorem dX12_answer_18 : decode cX12_answer 18 = .ok (.iload_n 2, 1) := by decide +kernel
theorem dX12_answer_19 : decode cX12_answer 19 = .ok (.invokevirtual 521, 3) := by decide +kernel
theorem dX12_answer_22 : decode cX12_answer 22 = .ok (.ifCond .ne 9, 3) := by decide +kernel
theorem dX12_answer_25 : decode cX12_answer 25 = .ok (.aload_n 0, 1) := by decide +kernel
theorem dX12_answer_26 : decode cX12_answer 26 = .ok (.iconst 2, 1) := by decide +kernel
theorem dX12_answer_27 : decode cX12_answer 27 = .ok (.invokevirtual 560, 3) := by decide +kernel
theorem dX12_answer_30 : decode cX12_answer 30 = .ok (.ireturn, 1) := by decide +kernel
theorem dX12_answer_31 : decode cX12_answer 31 = .ok (.aload_n 0, 1) := by decide +kernel
theorem dX12_answer_32 : decode cX12_answer 32 = .ok (.invokevirtual 575, 3) := by decide +kernel
theorem dX12_answer_35 : decode cX12_answer 35 = .ok (.aload_n 0, 1) := by decide +kernel
theorem dX12_answer_36 : decode cX12_answer 36 = .ok (.iload_n 1, 1) := by decide +kernel
theorem dX12_answer_37 : decode cX12_answer 37 = .ok (.iload_n 2, 1) := by decide +kernel
theorem dX12_answer_38 : decode cX12_answer 38 = .ok (.invokevirtual 461, 3) := by decide +kernel
theorem dX12_answer_41 : decode cX12_answer 41 = .ok (.istore_n 3, 1) := by decide +kernel
theorem dX12_answer_42 : decode cX12_answer 42 = .ok (.aload_n 0, 1) := by decide +kernel
theorem dX12_answer_43 : decode cX12_answer 43 = .ok (.iload_n 1, 1) := by decide +kernel
theorem dX12_answer_44 : decode cX12_answer 44 = .ok (.iload_n 2, 1) := by decide +kernel
theorem dX12_answer_45 : decode cX12_answer 45 = .ok (.invokevirtual 488, 3) := by decide +kernel
theorem dX12_answer_48 : decode cX12_answer 48 = .ok (.iload_n 3, 1) := by decide +kernel
theorem dX12_answer_49 : decode cX12_answer 49 = .ok (.ireturn, 1) := by decide +kernel
theorem dX12_qOpens_0 : decode cX12_qOpens 0 = .ok (.aload_n 0, 1) := by decide +kernel
theorem dX12_qOpens_1 : decode cX12_qOpens 1 = .ok (.getfield 263, 3) := by decide +kernel
theorem dX12_qOpens_4 : decode cX12_qOpens 4 = .ok (.ifCond .eq 4, 3) := by decide +kernel
theorem dX12_qOpens_7 : decode cX12_qOpens 7 = .ok (.return_, 1) := by decide +kernel
theorem dX12_qOpens_8 : decode cX12_qOpens 8 = .ok (.aload_n 0, 1) := by decide +kernel
theorem dX12_qOpens_9 : decode cX12_qOpens 9 = .ok (.getfield 358, 3) := by decide +kernel
theorem dX12_qOpens_12 : decode cX12_qOpens 12 = .ok (.bipush 6, 2) := by decide +kernel
theorem dX12_qOpens_14 : decode cX12_qOpens 14 = .ok (.if_icmp .ne 10, 3) := by decide +kernel
theorem dX12_qOpens_17 : decode cX12_qOpens 17 = .ok (.aload_n 0, 1) := by decide +kernel
theorem dX12_qOpens_18 : decode cX12_qOpens 18 = .ok (.iconst 4, 1) := by decide +kernel
theorem dX12_qOpens_19 : decode cX12_qOpens 19 = .ok (.iload_n 2, 1) := by decide +kernel
theorem dX12_qOpens_20 : decode cX12_qOpens 20 = .ok (.invokevirtual 293, 3) := by decide +kernel
theorem dX12_qOpens_23 : decode cX12_qOpens 23 = .ok (.return_, 1) := by decide +kernel
theorem dX12_qOpens_24 : decode cX12_qOpens 24 = .ok (.aload_n 0, 1) := by decide +kernel
theorem dX12_qOpens_25 : decode cX12_qOpens 25 = .ok (.dup, 1) := by decide +kernel
theorem dX12_qOpens_26 : decode cX12_qOpens 26 = .ok (.getfield 358, 3) := by decide +kernel
theorem dX12_qOpens_29 : decode cX12_qOpens 29 = .ok (.iconst 1, 1) := by decide +kernel
theorem dX12_qOpens_30 : decode cX12_qOpens 30 = .ok (.iadd, 1) := by decide +kernel
theorem dX12_qOpens_31 : decode cX12_qOpens 31 = .ok (.putfield 358, 3) := by decide +kernel
theorem dX12_qOpens_34 : decode cX12_qOpens 34 = .ok (.aload_n 0, 1) := by decide +kernel
theorem dX12_qOpens_35 : decode cX12_qOpens 35 = .ok (.getfield 251, 3) := by decide +kernel
theorem dX12_qOpens_38 : decode cX12_qOpens 38 = .ok (.aload_n 0, 1) := by decide +kernel
theorem dX12_qOpens_39 : decode cX12_qOpens 39 = .ok (.getfield 355, 3) := by decide +kernel
theorem dX12_qOpens_42 : decode cX12_qOpens 42 = .ok (.iload_n 1, 1) := by decide +kernel
theorem dX12_qOpens_43 : decode cX12_qOpens 43 = .ok (.iastore, 1) := by decide +kernel
theorem dX12_qOpens_44 : decode cX12_qOpens 44 = .ok (.aload_n 0, 1) := by decide +kernel
theorem dX12_qOpens_45 : decode cX12_qOpens 45 = .ok (.dup, 1) := by decide +kernel
theorem dX12_qOpens_46 : decode cX12_qOpens 46 = .ok (.getfield 355, 3) := by decide +kernel
theorem dX12_qOpens_49 : decode cX12_qOpens 49 = .ok (.iconst 1, 1) := by decide +kernel
theorem dX12_qOpens_50 : decode cX12_qOpens 50 = .ok (.iadd, 1) := by decide +kernel
theorem dX12_qOpens_51 : decode cX12_qOpens 51 = .ok (.putfield 355, 3) := by decide +kernel
theorem dX12_qOpens_54 : decode cX12_qOpens 54 = .ok (.return_, 1) := by decide +kernel
theorem dX12_wishOf_0 : decode cX12_wishOf 0 = .ok (.aload_n 0, 1) := by decide +kernel
theorem dX12_wishOf_1 : decode cX12_wishOf 1 = .ok (.getfield 118, 3) := by decide +kernel
theorem dX12_wishOf_4 : decode cX12_wishOf 4 = .ok (.bipush 32, 2) := by decide +kernel
theorem dX12_wishOf_6 : decode cX12_wishOf 6 = .ok (.iconst 4, 1) := by decide +kernel
theorem dX12_wishOf_7 : decode cX12_wishOf 7 = .ok (.iload_n 1, 1) := by decide +kernel
theorem dX12_wishOf_8 : decode cX12_wishOf 8 = .ok (.imul, 1) := by decide +kernel
theorem dX12_wishOf_9 : decode cX12_wishOf 9 = .ok (.iadd, 1) := by decide +kernel
theorem dX12_wishOf_10 : decode cX12_wishOf 10 = .ok (.iload_n 2, 1) := by decide +kernel
theorem dX12_wishOf_11 : decode cX12_wishOf 11 = .ok (.iadd, 1) := by decide +kernel
theorem dX12_wishOf_12 : decode cX12_wishOf 12 = .ok (.iaload, 1) := by decide +kernel
theorem dX12_wishOf_13 : decode cX12_wishOf 13 = .ok (.ireturn, 1) := by decide +kernel
theorem dX12_see_0 : decode cX12_see 0 = .ok (.aload_n 0, 1) := by decide +kernel
theorem dX12_see_1 : decode cX12_see 1 = .ok (.getfield 260, 3) := by decide +kernel
theorem dX12_see_4 : decode cX12_see 4 = .ok (.istore_n 1, 1) := by decide +kernel
theorem dX12_see_5 : decode cX12_see 5 = .ok (.aload_n 0, 1) := by decide +kernel
theorem dX12_see_6 : decode cX12_see 6 = .ok (.iconst 0, 1) := by decide +kernel
theorem dX12_see_7 : decode cX12_see 7 = .ok (.putfield 260, 3) := by decide +kernel
theorem dX12_see_10 : decode cX12_see 10 = .ok (.iload_n 1, 1) := by decide +kernel
theorem dX12_see_11 : decode cX12_see 11 = .ok (.ifCond .le 21, 3) := by decide +kernel
theorem dX12_see_14 : decode cX12_see 14 = .ok (.iload_n 1, 1) := by decide +kernel
theorem dX12_see_15 : decode cX12_see 15 = .ok (.iconst 3, 1) := by decide +kernel
theorem dX12_see_16 : decode cX12_see 16 = .ok (.irem, 1) := by decide +kernel
theorem dX12_see_17 : decode cX12_see 17 = .ok (.ifCond .ne 15, 3) := by decide +kernel
theorem dX12_see_20 : decode cX12_see 20 = .ok (.iload_n 1, 1) := by decide +kernel
theorem dX12_see_21 : decode cX12_see 21 = .ok (.iconst 3, 1) := by decide +kernel
theorem dX12_see_22 : decode cX12_see 22 = .ok (.idiv, 1) := by decide +kernel
theorem dX12_see_23 : decode cX12_see 23 = .ok (.bipush 16, 2) := by decide +kernel
theorem dX12_see_25 : decode cX12_see 25 = .ok (.if_icmp .gt 7, 3) := by decide +kernel
theorem dX12_see_28 : decode cX12_see 28 = .ok (.iconst 1, 1) := by decide +kernel
theorem dX12_see_29 : decode cX12_see 29 = .ok (.goto 4, 3) := by decide +kernel
theorem dX12_see_32 : decode cX12_see 32 = .ok (.iconst 0, 1) := by decide +kernel
theorem dX12_see_33 : decode cX12_see 33 = .ok (.istore_n 2, 1) := by decide +kernel
theorem dX12_see_34 : decode cX12_see 34 = .ok (.iconst 0, 1) := by decide +kernel
theorem dX12_see_35 : decode cX12_see 35 = .ok (.istore_n 3, 1) := by decide +kernel
theorem dX12_see_36 : decode cX12_see 36 = .ok (.iload_n 3, 1) := by decide +kernel
theorem dX12_see_37 : decode cX12_see 37 = .ok (.iload_n 1, 1) := by decide +kernel
theorem dX12_see_38 : decode cX12_see 38 = .ok (.if_icmp .ge 24, 3) := by decide +kernel
theorem dX12_see_41 : decode cX12_see 41 = .ok (.iload_n 2, 1) := by decide +kernel
theorem dX12_see_42 : decode cX12_see 42 = .ok (.ifCond .eq 20, 3) := by decide +kernel
theorem dX12_see_45 : decode cX12_see 45 = .ok (.aload_n 0, 1) := by decide +kernel
theorem dX12_see_46 : decode cX12_see 46 = .ok (.aload_n 0, 1) := by decide +kernel
theorem dX12_see_47 : decode cX12_see 47 = .ok (.getfield 7, 3) := by decide +kernel
theorem dX12_see_50 : decode cX12_see 50 = .ok (.iload_n 3, 1) := by decide +kernel
theorem dX12_see_51 : decode cX12_see 51 = .ok (.iaload, 1) := by decide +kernel
theorem dX12_see_52 : decode cX12_see 52 = .ok (.invokevirtual 501, 3) := by decide +kernel
theorem dX12_see_55 : decode cX12_see 55 = .ok (.istore_n 2, 1) := by decide +kernel
theorem dX12_see_56 : decode cX12_see 56 = .ok (.iinc 3 3, 3) := by decide +kernel
theorem dX12_see_59 : decode cX12_see 59 = .ok (.goto (-23), 3) := by decide +kernel
theorem dX12_see_62 : decode cX12_see 62 = .ok (.iload_n 2, 1) := by decide +kernel
theorem dX12_see_63 : decode cX12_see 63 = .ok (.ifCond .ne 9, 3) := by decide +kernel
theorem dX12_see_66 : decode cX12_see 66 = .ok (.aload_n 0, 1) := by decide +kernel
theorem dX12_see_67 : decode cX12_see 67 = .ok (.iconst 1, 1) := by decide +kernel
theorem dX12_see_68 : decode cX12_see 68 = .ok (.invokevirtual 560, 3) := by decide +kernel
theorem dX12_see_71 : decode cX12_see 71 = .ok (.ireturn, 1) := by decide +kernel
theorem dX12_see_72 : decode cX12_see 72 = .ok (.iconst 0, 1) := by decide +kernel
theorem dX12_see_73 : decode cX12_see 73 = .ok (.istore_n 3, 1) := by decide +kernel
theorem dX12_see_74 : decode cX12_see 74 = .ok (.iload_n 3, 1) := by decide +kernel
theorem dX12_see_75 : decode cX12_see 75 = .ok (.iload_n 1, 1) := by decide +kernel
theorem dX12_see_76 : decode cX12_see 76 = .ok (.if_icmp .ge 21, 3) := by decide +kernel
theorem dX12_see_79 : decode cX12_see 79 = .ok (.aload_n 0, 1) := by decide +kernel
theorem dX12_see_80 : decode cX12_see 80 = .ok (.getfield 169, 3) := by decide +kernel
theorem dX12_see_83 : decode cX12_see 83 = .ok (.iload_n 3, 1) := by decide +kernel
theorem dX12_see_84 : decode cX12_see 84 = .ok (.aload_n 0, 1) := by decide +kernel
theorem dX12_see_85 : decode cX12_see 85 = .ok (.getfield 7, 3) := by decide +kernel
theorem dX12_see_88 : decode cX12_see 88 = .ok (.iload_n 3, 1) := by decide +kernel
theorem dX12_see_89 : decode cX12_see 89 = .ok (.iaload, 1) := by decide +kernel
theorem dX12_see_90 : decode cX12_see 90 = .ok (.iastore, 1) := by decide +kernel
theorem dX12_see_91 : decode cX12_see 91 = .ok (.iinc 3 1, 3) := by decide +kernel
theorem dX12_see_94 : decode cX12_see 94 = .ok (.goto (-20), 3) := by decide +kernel
theorem dX12_see_97 : decode cX12_see 97 = .ok (.aload_n 0, 1) := by decide +kernel
theorem dX12_see_98 : decode cX12_see 98 = .ok (.iload_n 1, 1) := by decide +kernel
theorem dX12_see_99 : decode cX12_see 99 = .ok (.iconst 3, 1) := by decide +kernel
theorem dX12_see_100 : decode cX12_see 100 = .ok (.idiv, 1) := by decide +kernel
theorem dX12_see_101 : decode cX12_see 101 = .ok (.putfield 416, 3) := by decide +kernel
theorem dX12_see_104 : decode cX12_see 104 = .ok (.aload_n 0, 1) := by decide +kernel
theorem dX12_see_105 : decode cX12_see 105 = .ok (.getfield 416, 3) := by decide +kernel
theorem dX12_see_108 : decode cX12_see 108 = .ok (.ireturn, 1) := by decide +kernel
theorem dX12_isHere_0 : decode cX12_isHere 0 = .ok (.aload_n 0, 1) := by decide +kernel
theorem dX12_isHere_1 : decode cX12_isHere 1 = .ok (.getfield 263, 3) := by decide +kernel
theorem dX12_isHere_4 : decode cX12_isHere 4 = .ok (.ifCond .ne 24, 3) := by decide +kernel
theorem dX12_isHere_7 : decode cX12_isHere 7 = .ok (.aload_n 0, 1) := by decide +kernel
theorem dX12_isHere_8 : decode cX12_isHere 8 = .ok (.invokevirtual 275, 3) := by decide +kernel
theorem dX12_isHere_11 : decode cX12_isHere 11 = .ok (.invokestatic 279, 3) := by decide +kernel
theorem dX12_isHere_14 : decode cX12_isHere 14 = .ok (.ifCond .eq 14, 3) := by decide +kernel
theorem dX12_isHere_17 : decode cX12_isHere 17 = .ok (.aload_n 0, 1) := by decide +kernel
theorem dX12_isHere_18 : decode cX12_isHere 18 = .ok (.getfield 269, 3) := by decide +kernel
theorem dX12_isHere_21 : decode cX12_isHere 21 = .ok (.aload_n 0, 1) := by decide +kernel
theorem dX12_isHere_22 : decode cX12_isHere 22 = .ok (.getfield 283, 3) := by decide +kernel
theorem dX12_isHere_25 : decode cX12_isHere 25 = .ok (.if_icmp .ne 5, 3) := by decide +kernel
theorem dX12_isHere_28 : decode cX12_isHere 28 = .ok (.iconst 0, 1) := by decide +kernel
theorem dX12_isHere_29 : decode cX12_isHere 29 = .ok (.ireturn, 1) := by decide +kernel
theorem dX12_isHere_30 : decode cX12_isHere 30 = .ok (.aload_n 0, 1) := by decide +kernel
theorem dX12_isHere_31 : decode cX12_isHere 31 = .ok (.getfield 269, 3) := by decide +kernel
theorem dX12_isHere_34 : decode cX12_isHere 34 = .ok (.istore_n 2, 1) := by decide +kernel
theorem dX12_isHere_35 : decode cX12_isHere 35 = .ok (.iload_n 2, 1) := by decide +kernel
theorem dX12_isHere_36 : decode cX12_isHere 36 = .ok (.aload_n 0, 1) := by decide +kernel
theorem dX12_isHere_37 : decode cX12_isHere 37 = .ok (.getfield 272, 3) := by decide +kernel
theorem dX12_isHere_40 : decode cX12_isHere 40 = .ok (.if_icmp .ge 21, 3) := by decide +kernel
theorem dX12_isHere_43 : decode cX12_isHere 43 = .ok (.aload_n 0, 1) := by decide +kernel
theorem dX12_isHere_44 : decode cX12_isHere 44 = .ok (.getfield 7, 3) := by decide +kernel
theorem dX12_isHere_47 : decode cX12_isHere 47 = .ok (.iload_n 2, 1) := by decide +kernel
theorem dX12_isHere_48 : decode cX12_isHere 48 = .ok (.iaload, 1) := by decide +kernel
theorem dX12_isHere_49 : decode cX12_isHere 49 = .ok (.invokestatic 279, 3) := by decide +kernel
theorem dX12_isHere_52 : decode cX12_isHere 52 = .ok (.ifCond .eq 9, 3) := by decide +kernel
theorem dX12_isHere_55 : decode cX12_isHere 55 = .ok (.iinc 2 1, 3) := by decide +kernel
theorem dX12_isHere_58 : decode cX12_isHere 58 = .ok (.goto (-23), 3) := by decide +kernel
theorem dX12_isHere_61 : decode cX12_isHere 61 = .ok (.iload_n 2, 1) := by decide +kernel
theorem dX12_isHere_62 : decode cX12_isHere 62 = .ok (.aload_n 0, 1) := by decide +kernel
theorem dX12_isHere_63 : decode cX12_isHere 63 = .ok (.getfield 269, 3) := by decide +kernel
theorem dX12_isHere_66 : decode cX12_isHere 66 = .ok (.isub, 1) := by decide +kernel
theorem dX12_isHere_67 : decode cX12_isHere 67 = .ok (.aload_n 1, 1) := by decide +kernel
theorem dX12_isHere_68 : decode cX12_isHere 68 = .ok (.arraylength, 1) := by decide +kernel
theorem dX12_isHere_69 : decode cX12_isHere 69 = .ok (.if_icmp .eq 5, 3) := by decide +kernel
theorem dX12_isHere_72 : decode cX12_isHere 72 = .ok (.iconst 0, 1) := by decide +kernel
theorem dX12_isHere_73 : decode cX12_isHere 73 = .ok (.ireturn, 1) := by decide +kernel
theorem dX12_isHere_74 : decode cX12_isHere 74 = .ok (.iconst 0, 1) := by decide +kernel
theorem dX12_isHere_75 : decode cX12_isHere 75 = .ok (.istore_n 3, 1) := by decide +kernel
theorem dX12_isHere_76 : decode cX12_isHere 76 = .ok (.iload_n 3, 1) := by decide +kernel
theorem dX12_isHere_77 : decode cX12_isHere 77 = .ok (.aload_n 1, 1) := by decide +kernel
theorem dX12_isHere_78 : decode cX12_isHere 78 = .ok (.arraylength, 1) := by decide +kernel
theorem dX12_isHere_79 : decode cX12_isHere 79 = .ok (.if_icmp .ge 28, 3) := by decide +kernel
theorem dX12_isHere_82 : decode cX12_isHere 82 = .ok (.aload_n 0, 1) := by decide +kernel
theorem dX12_isHere_83 : decode cX12_isHere 83 = .ok (.getfield 7, 3) := by decide +kernel
theorem dX12_isHere_86 : decode cX12_isHere 86 = .ok (.aload_n 0, 1) := by decide +kernel
theorem dX12_isHere_87 : decode cX12_isHere 87 = .ok (.getfield 269, 3) := by decide +kernel
theorem dX12_isHere_90 : decode cX12_isHere 90 = .ok (.iload_n 3, 1) := by decide +kernel
theorem dX12_isHere_91 : decode cX12_isHere 91 = .ok (.iadd, 1) := by decide +kernel
theorem dX12_isHere_92 : decode cX12_isHere 92 = .ok (.iaload, 1) := by decide +kernel
theorem dX12_isHere_93 : decode cX12_isHere 93 = .ok (.aload_n 1, 1) := by decide +kernel
theorem dX12_isHere_94 : decode cX12_isHere 94 = .ok (.iload_n 3, 1) := by decide +kernel
theorem dX12_isHere_95 : decode cX12_isHere 95 = .ok (.caload, 1) := by decide +kernel
theorem dX12_isHere_96 : decode cX12_isHere 96 = .ok (.if_icmp .eq 5, 3) := by decide +kernel
theorem dX12_isHere_99 : decode cX12_isHere 99 = .ok (.iconst 0, 1) := by decide +kernel
theorem dX12_isHere_100 : decode cX12_isHere 100 = .ok (.ireturn, 1) := by decide +kernel
theorem dX12_isHere_101 : decode cX12_isHere 101 = .ok (.iinc 3 1, 3) := by decide +kernel
theorem dX12_isHere_104 : decode cX12_isHere 104 = .ok (.goto (-28), 3) := by decide +kernel
theorem dX12_isHere_107 : decode cX12_isHere 107 = .ok (.iconst 1, 1) := by decide +kernel
theorem dX12_isHere_108 : decode cX12_isHere 108 = .ok (.ireturn, 1) := by decide +kernel
theorem dX12_doneOf_0 : decode cX12_doneOf 0 = .ok (.aload_n 0, 1) := by decide +kernel
theorem dX12_doneOf_1 : decode cX12_doneOf 1 = .ok (.getfield 142, 3) := by decide +kernel
theorem dX12_doneOf_4 : decode cX12_doneOf 4 = .ok (.bipush 8, 2) := by decide +kernel
theorem dX12_doneOf_6 : decode cX12_doneOf 6 = .ok (.iconst 3, 1) := by decide +kernel
theorem dX12_doneOf_7 : decode cX12_doneOf 7 = .ok (.iload_n 1, 1) := by decide +kernel
theorem dX12_doneOf_8 : decode cX12_doneOf 8 = .ok (.imul, 1) := by decide +kernel
theorem dX12_doneOf_9 : decode cX12_doneOf 9 = .ok (.iadd, 1) := by decide +kernel
theorem dX12_doneOf_10 : decode cX12_doneOf 10 = .ok (.iaload, 1) := by decide +kernel
theorem dX12_doneOf_11 : decode cX12_doneOf 11 = .ok (.ireturn, 1) := by decide +kernel
theorem dX12_takesSign_0 : decode cX12_takesSign 0 = .ok (.aload_n 0, 1) := by decide +kernel
theorem dX12_takesSign_1 : decode cX12_takesSign 1 = .ok (.getfield 263, 3) := by decide +kernel
theorem dX12_takesSign_4 : decode cX12_takesSign 4 = .ok (.ifCond .ne 11, 3) := by decide +kernel
theorem dX12_takesSign_7 : decode cX12_takesSign 7 = .ok (.aload_n 0, 1) := by decide +kernel
theorem dX12_takesSign_8 : decode cX12_takesSign 8 = .ok (.invokevirtual 275, 3) := by decide +kernel
theorem dX12_takesSign_11 : decode cX12_takesSign 11 = .ok (.iload_n 1, 1) := by decide +kernel
theorem dX12_takesSign_12 : decode cX12_takesSign 12 = .ok (.if_icmp .eq 5, 3) := by decide +kernel
theorem dX12_takesSign_15 : decode cX12_takesSign 15 = .ok (.iconst 0, 1) := by decide +kernel
theorem dX12_takesSign_16 : decode cX12_takesSign 16 = .ok (.ireturn, 1) := by decide +kernel
theorem dX12_takesSign_17 : decode cX12_takesSign 17 = .ok (.aload_n 0, 1) := by decide +kernel
theorem dX12_takesSign_18 : decode cX12_takesSign 18 = .ok (.dup, 1) := by decide +kernel
theorem dX12_takesSign_19 : decode cX12_takesSign 19 = .ok (.getfield 269, 3) := by decide +kernel
theorem dX12_takesSign_22 : decode cX12_takesSign 22 = .ok (.iconst 1, 1) := by decide +kernel
theorem dX12_takesSign_23 : decode cX12_takesSign 23 = .ok (.iadd, 1) := by decide +kernel
theorem dX12_takesSign_24 : decode cX12_takesSign 24 = .ok (.putfield 269, 3) := by decide +kernel
theorem dX12_takesSign_27 : decode cX12_takesSign 27 = .ok (.iconst 1, 1) := by decide +kernel
theorem dX12_takesSign_28 : decode cX12_takesSign 28 = .ok (.ireturn, 1) := by decide +kernel
theorem dX12_evenings_0 : decode cX12_evenings 0 = .ok (.aload_n 0, 1) := by decide +kernel
theorem dX12_evenings_1 : decode cX12_evenings 1 = .ok (.iload_n 1, 1) := by decide +kernel
theorem dX12_evenings_2 : decode cX12_evenings 2 = .ok (.iconst 1, 1) := by decide +kernel
theorem dX12_evenings_3 : decode cX12_evenings 3 = .ok (.bipush 50, 2) := by decide +kernel
theorem dX12_evenings_5 : decode cX12_evenings 5 = .ok (.invokevirtual 524, 3) := by decide +kernel
theorem dX12_evenings_8 : decode cX12_evenings 8 = .ok (.ifCond .ne 9, 3) := by decide +kernel
theorem dX12_evenings_11 : decode cX12_evenings 11 = .ok (.aload_n 0, 1) := by decide +kernel
theorem dX12_evenings_12 : decode cX12_evenings 12 = .ok (.iconst 3, 1) := by decide +kernel
theorem dX12_evenings_13 : decode cX12_evenings 13 = .ok (.invokevirtual 560, 3) := by decide +kernel
theorem dX12_evenings_16 : decode cX12_evenings 16 = .ok (.ireturn, 1) := by decide +kernel
theorem dX12_evenings_17 : decode cX12_evenings 17 = .ok (.aload_n 0, 1) := by decide +kernel
theorem dX12_evenings_18 : decode cX12_evenings 18 = .ok (.invokevirtual 575, 3) := by decide +kernel
theorem dX12_evenings_21 : decode cX12_evenings 21 = .ok (.iconst 0, 1) := by decide +kernel
theorem dX12_evenings_22 : decode cX12_evenings 22 = .ok (.istore_n 2, 1) := by decide +kernel
theorem dX12_evenings_23 : decode cX12_evenings 23 = .ok (.iconst 0, 1) := by decide +kernel
theorem dX12_evenings_24 : decode cX12_evenings 24 = .ok (.istore_n 3, 1) := by decide +kernel
theorem dX12_evenings_25 : decode cX12_evenings 25 = .ok (.iload_n 3, 1) := by decide +kernel
theorem dX12_evenings_26 : decode cX12_evenings 26 = .ok (.iload_n 1, 1) := by decide +kernel
theorem dX12_evenings_27 : decode cX12_evenings 27 = .ok (.if_icmp .ge 16, 3) := by decide +kernel
theorem dX12_evenings_30 : decode cX12_evenings 30 = .ok (.iload_n 2, 1) := by decide +kernel
theorem dX12_evenings_31 : decode cX12_evenings 31 = .ok (.aload_n 0, 1) := by decide +kernel
theorem dX12_evenings_32 : decode cX12_evenings 32 = .ok (.invokevirtual 530, 3) := by decide +kernel
theorem dX12_evenings_35 : decode cX12_evenings 35 = .ok (.iadd, 1) := by decide +kernel
theorem dX12_evenings_36 : decode cX12_evenings 36 = .ok (.istore_n 2, 1) := by decide +kernel
theorem dX12_evenings_37 : decode cX12_evenings 37 = .ok (.iinc 3 1, 3) := by decide +kernel
theorem dX12_evenings_40 : decode cX12_evenings 40 = .ok (.goto (-15), 3) := by decide +kernel
theorem dX12_evenings_43 : decode cX12_evenings 43 = .ok (.iload_n 2, 1) := by decide +kernel
theorem dX12_evenings_44 : decode cX12_evenings 44 = .ok (.ireturn, 1) := by decide +kernel
theorem dX12_writes_0 : decode cX12_writes 0 = .ok (.aload_n 0, 1) := by decide +kernel
theorem dX12_writes_1 : decode cX12_writes 1 = .ok (.getfield 257, 3) := by decide +kernel
theorem dX12_writes_4 : decode cX12_writes 4 = .ok (.aload_n 0, 1) := by decide +kernel
theorem dX12_writes_5 : decode cX12_writes 5 = .ok (.getfield 686, 3) := by decide +kernel
theorem dX12_writes_8 : decode cX12_writes 8 = .ok (.iload_n 1, 1) := by decide +kernel
theorem dX12_writes_9 : decode cX12_writes 9 = .ok (.iastore, 1) := by decide +kernel
theorem dX12_writes_10 : decode cX12_writes 10 = .ok (.aload_n 0, 1) := by decide +kernel
theorem dX12_writes_11 : decode cX12_writes 11 = .ok (.dup, 1) := by decide +kernel
theorem dX12_writes_12 : decode cX12_writes 12 = .ok (.getfield 686, 3) := by decide +kernel
theorem dX12_writes_15 : decode cX12_writes 15 = .ok (.iconst 1, 1) := by decide +kernel
theorem dX12_writes_16 : decode cX12_writes 16 = .ok (.iadd, 1) := by decide +kernel
theorem dX12_writes_17 : decode cX12_writes 17 = .ok (.putfield 686, 3) := by decide +kernel
theorem dX12_writes_20 : decode cX12_writes 20 = .ok (.return_, 1) := by decide +kernel
theorem dX12_gift_0 : decode cX12_gift 0 = .ok (.aload_n 0, 1) := by decide +kernel
theorem dX12_gift_1 : decode cX12_gift 1 = .ok (.iload_n 1, 1) := by decide +kernel
theorem dX12_gift_2 : decode cX12_gift 2 = .ok (.invokevirtual 513, 3) := by decide +kernel
theorem dX12_gift_5 : decode cX12_gift 5 = .ok (.ifCond .ne 5, 3) := by decide +kernel
theorem dX12_gift_8 : decode cX12_gift 8 = .ok (.iconst (-1), 1) := by decide +kernel
theorem dX12_gift_9 : decode cX12_gift 9 = .ok (.ireturn, 1) := by decide +kernel
theorem dX12_gift_10 : decode cX12_gift 10 = .ok (.iload_n 2, 1) := by decide +kernel
theorem dX12_gift_11 : decode cX12_gift 11 = .ok (.bipush 10, 2) := by decide +kernel
theorem dX12_gift_13 : decode cX12_gift 13 = .ok (.if_icmp .lt 24, 3) := by decide +kernel
theorem dX12_gift_16 : decode cX12_gift 16 = .ok (.aload_n 0, 1) := by decide +kernel
theorem dX12_gift_17 : decode cX12_gift 17 = .ok (.iload_n 2, 1) := by decide +kernel
theorem dX12_gift_18 : decode cX12_gift 18 = .ok (.bipush 10, 2) := by decide +kernel
theorem dX12_gift_20 : decode cX12_gift 20 = .ok (.isub, 1) := by decide +kernel
theorem dX12_gift_21 : decode cX12_gift 21 = .ok (.invokevirtual 501, 3) := by decide +kernel
theorem dX12_gift_24 : decode cX12_gift 24 = .ok (.ifCond .eq 13, 3) := by decide +kernel
theorem dX12_gift_27 : decode cX12_gift 27 = .ok (.aload_n 0, 1) := by decide +kernel
theorem dX12_gift_28 : decode cX12_gift 28 = .ok (.iload_n 2, 1) := by decide +kernel
theorem dX12_gift_29 : decode cX12_gift 29 = .ok (.bipush 10, 2) := by decide +kernel
theorem dX12_gift_31 : decode cX12_gift 31 = .ok (.isub, 1) := by decide +kernel
theorem dX12_gift_32 : decode cX12_gift 32 = .ok (.iload_n 1, 1) := by decide +kernel
theorem dX12_gift_33 : decode cX12_gift 33 = .ok (.invokevirtual 425, 3) := by decide +kernel
theorem dX12_gift_36 : decode cX12_gift 36 = .ok (.ireturn, 1) := by decide +kernel
theorem dX12_gift_37 : decode cX12_gift 37 = .ok (.iload_n 2, 1) := by decide +kernel
theorem dX12_gift_38 : decode cX12_gift 38 = .ok (.ifCond .ne 14, 3) := by decide +kernel
theorem dX12_gift_41 : decode cX12_gift 41 = .ok (.aload_n 0, 1) := by decide +kernel
theorem dX12_gift_42 : decode cX12_gift 42 = .ok (.getfield 142, 3) := by decide +kernel
theorem dX12_gift_45 : decode cX12_gift 45 = .ok (.iconst 4, 1) := by decide +kernel
theorem dX12_gift_46 : decode cX12_gift 46 = .ok (.iload_n 1, 1) := by decide +kernel
theorem dX12_gift_47 : decode cX12_gift 47 = .ok (.iadd, 1) := by decide +kernel
theorem dX12_gift_48 : decode cX12_gift 48 = .ok (.iaload, 1) := by decide +kernel
theorem dX12_gift_49 : decode cX12_gift 49 = .ok (.goto 4, 3) := by decide +kernel
theorem dX12_gift_52 : decode cX12_gift 52 = .ok (.iconst (-1), 1) := by decide +kernel
theorem dX12_gift_53 : decode cX12_gift 53 = .ok (.ireturn, 1) := by decide +kernel
theorem dX12_canAnswer_0 : decode cX12_canAnswer 0 = .ok (.aload_n 0, 1) := by decide +kernel
theorem dX12_canAnswer_1 : decode cX12_canAnswer 1 = .ok (.iload_n 1, 1) := by decide +kernel
theorem dX12_canAnswer_2 : decode cX12_canAnswer 2 = .ok (.invokevirtual 451, 3) := by decide +kernel
theorem dX12_canAnswer_5 : decode cX12_canAnswer 5 = .ok (.ifCond .ne 30, 3) := by decide +kernel
theorem dX12_canAnswer_8 : decode cX12_canAnswer 8 = .ok (.aload_n 0, 1) := by decide +kernel
theorem dX12_canAnswer_9 : decode cX12_canAnswer 9 = .ok (.iload_n 1, 1) := by decide +kernel
theorem dX12_canAnswer_10 : decode cX12_canAnswer 10 = .ok (.iload_n 2, 1) := by decide +kernel
theorem dX12_canAnswer_11 : decode cX12_canAnswer 11 = .ok (.invokevirtual 454, 3) := by decide +kernel
theorem dX12_canAnswer_14 : decode cX12_canAnswer 14 = .ok (.ifCond .eq 21, 3) := by decide +kernel
theorem dX12_canAnswer_17 : decode cX12_canAnswer 17 = .ok (.aload_n 0, 1) := by decide +kernel
theorem dX12_canAnswer_18 : decode cX12_canAnswer 18 = .ok (.iload_n 2, 1) := by decide +kernel
theorem dX12_canAnswer_19 : decode cX12_canAnswer 19 = .ok (.invokevirtual 458, 3) := by decide +kernel
theorem dX12_canAnswer_22 : decode cX12_canAnswer 22 = .ok (.aload_n 0, 1) := by decide +kernel
theorem dX12_canAnswer_23 : decode cX12_canAnswer 23 = .ok (.iload_n 1, 1) := by decide +kernel
theorem dX12_canAnswer_24 : decode cX12_canAnswer 24 = .ok (.iload_n 2, 1) := by decide +kernel
theorem dX12_canAnswer_25 : decode cX12_canAnswer 25 = .ok (.invokevirtual 461, 3) := by decide +kernel
theorem dX12_canAnswer_28 : decode cX12_canAnswer 28 = .ok (.if_icmp .lt 7, 3) := by decide +kernel
theorem dX12_canAnswer_31 : decode cX12_canAnswer 31 = .ok (.iconst 1, 1) := by decide +kernel
theorem dX12_canAnswer_32 : decode cX12_canAnswer 32 = .ok (.goto 4, 3) := by decide +kernel
theorem dX12_canAnswer_35 : decode cX12_canAnswer 35 = .ok (.iconst 0, 1) := by decide +kernel
theorem dX12_canAnswer_36 : decode cX12_canAnswer 36 = .ok (.ireturn, 1) := by decide +kernel
theorem dX12_qFact_0 : decode cX12_qFact 0 = .ok (.aload_n 0, 1) := by decide +kernel
theorem dX12_qFact_1 : decode cX12_qFact 1 = .ok (.aload_n 0, 1) := by decide +kernel
theorem dX12_qFact_2 : decode cX12_qFact 2 = .ok (.getfield 206, 3) := by decide +kernel
theorem dX12_qFact_5 : decode cX12_qFact 5 = .ok (.invokevirtual 290, 3) := by decide +kernel
theorem dX12_qFact_8 : decode cX12_qFact 8 = .ok (.ifCond .eq 10, 3) := by decide +kernel
theorem dX12_qFact_11 : decode cX12_qFact 11 = .ok (.aload_n 0, 1) := by decide +kernel
theorem dX12_qFact_12 : decode cX12_qFact 12 = .ok (.bipush 13, 2) := by decide +kernel
theorem dX12_qFact_14 : decode cX12_qFact 14 = .ok (.invokevirtual 594, 3) := by decide +kernel
theorem dX12_qFact_17 : decode cX12_qFact 17 = .ok (.return_, 1) := by decide +kernel
theorem dX12_qFact_18 : decode cX12_qFact 18 = .ok (.aload_n 0, 1) := by decide +kernel
theorem dX12_qFact_19 : decode cX12_qFact 19 = .ok (.invokevirtual 364, 3) := by decide +kernel
theorem dX12_qFact_22 : decode cX12_qFact 22 = .ok (.aload_n 0, 1) := by decide +kernel
theorem dX12_qFact_23 : decode cX12_qFact 23 = .ok (.getfield 263, 3) := by decide +kernel
theorem dX12_qFact_26 : decode cX12_qFact 26 = .ok (.ifCond .eq 4, 3) := by decide +kernel
theorem dX12_qFact_29 : decode cX12_qFact 29 = .ok (.return_, 1) := by decide +kernel
theorem dX12_qFact_30 : decode cX12_qFact 30 = .ok (.aload_n 0, 1) := by decide +kernel
theorem dX12_qFact_31 : decode cX12_qFact 31 = .ok (.invokevirtual 275, 3) := by decide +kernel
theorem dX12_qFact_34 : decode cX12_qFact 34 = .ok (.istore_n 1, 1) := by decide +kernel
theorem dX12_qFact_35 : decode cX12_qFact 35 = .ok (.iload_n 1, 1) := by decide +kernel
theorem dX12_qFact_36 : decode cX12_qFact 36 = .ok (.bipush 60, 2) := by decide +kernel
theorem dX12_qFact_38 : decode cX12_qFact 38 = .ok (.if_icmp .eq 25, 3) := by decide +kernel
theorem dX12_qFact_41 : decode cX12_qFact 41 = .ok (.iload_n 1, 1) := by decide +kernel
theorem dX12_qFact_42 : decode cX12_qFact 42 = .ok (.bipush 62, 2) := by decide +kernel
theorem dX12_qFact_44 : decode cX12_qFact 44 = .ok (.if_icmp .eq 19, 3) := by decide +kernel
theorem dX12_qFact_47 : decode cX12_qFact 47 = .ok (.iload_n 1, 1) := by decide +kernel
theorem dX12_qFact_48 : decode cX12_qFact 48 = .ok (.bipush 61, 2) := by decide +kernel
theorem dX12_qFact_50 : decode cX12_qFact 50 = .ok (.if_icmp .eq 13, 3) := by decide +kernel
theorem dX12_qFact_53 : decode cX12_qFact 53 = .ok (.aload_n 0, 1) := by decide +kernel
theorem dX12_qFact_54 : decode cX12_qFact 54 = .ok (.iconst 1, 1) := by decide +kernel
theorem dX12_qFact_55 : decode cX12_qFact 55 = .ok (.aload_n 0, 1) := by decide +kernel
theorem dX12_qFact_56 : decode cX12_qFact 56 = .ok (.getfield 269, 3) := by decide +kernel
theorem dX12_qFact_59 : decode cX12_qFact 59 = .ok (.invokevirtual 293, 3) := by decide +kernel
theorem dX12_qFact_62 : decode cX12_qFact 62 = .ok (.return_, 1) := by decide +kernel
theorem dX12_qFact_63 : decode cX12_qFact 63 = .ok (.aload_n 0, 1) := by decide +kernel
theorem dX12_qFact_64 : decode cX12_qFact 64 = .ok (.dup, 1) := by decide +kernel
theorem dX12_qFact_65 : decode cX12_qFact 65 = .ok (.getfield 269, 3) := by decide +kernel
theorem dX12_qFact_68 : decode cX12_qFact 68 = .ok (.iconst 1, 1) := by decide +kernel
theorem dX12_qFact_69 : decode cX12_qFact 69 = .ok (.iadd, 1) := by decide +kernel
theorem dX12_qFact_70 : decode cX12_qFact 70 = .ok (.putfield 269, 3) := by decide +kernel
theorem dX12_qFact_73 : decode cX12_qFact 73 = .ok (.aload_n 0, 1) := by decide +kernel
theorem dX12_qFact_74 : decode cX12_qFact 74 = .ok (.invokevirtual 364, 3) := by decide +kernel
theorem dX12_qFact_77 : decode cX12_qFact 77 = .ok (.aload_n 0, 1) := by decide +kernel
theorem dX12_qFact_78 : decode cX12_qFact 78 = .ok (.iload_n 1, 1) := by decide +kernel
theorem dX12_qFact_79 : decode cX12_qFact 79 = .ok (.bipush 60, 2) := by decide +kernel
theorem dX12_qFact_81 : decode cX12_qFact 81 = .ok (.if_icmp .ne 8, 3) := by decide +kernel
theorem dX12_qFact_84 : decode cX12_qFact 84 = .ok (.bipush 7, 2) := by decide +kernel
theorem dX12_qFact_86 : decode cX12_qFact 86 = .ok (.goto 16, 3) := by decide +kernel
theorem dX12_qFact_89 : decode cX12_qFact 89 = .ok (.iload_n 1, 1) := by decide +kernel
theorem dX12_qFact_90 : decode cX12_qFact 90 = .ok (.bipush 62, 2) := by decide +kernel
theorem dX12_qFact_92 : decode cX12_qFact 92 = .ok (.if_icmp .ne 8, 3) := by decide +kernel
theorem dX12_qFact_95 : decode cX12_qFact 95 = .ok (.bipush 8, 2) := by decide +kernel
theorem dX12_qFact_97 : decode cX12_qFact 97 = .ok (.goto 5, 3) := by decide +kernel
theorem dX12_qFact_100 : decode cX12_qFact 100 = .ok (.bipush 9, 2) := by decide +kernel
theorem dX12_qFact_102 : decode cX12_qFact 102 = .ok (.invokevirtual 594, 3) := by decide +kernel
theorem dX12_qFact_105 : decode cX12_qFact 105 = .ok (.return_, 1) := by decide +kernel
theorem dX12_feed_0 : decode cX12_feed 0 = .ok (.aload_n 0, 1) := by decide +kernel
theorem dX12_feed_1 : decode cX12_feed 1 = .ok (.getfield 260, 3) := by decide +kernel
theorem dX12_feed_4 : decode cX12_feed 4 = .ok (.bipush 20, 2) := by decide +kernel
theorem dX12_feed_6 : decode cX12_feed 6 = .ok (.iadd, 1) := by decide +kernel
theorem dX12_feed_7 : decode cX12_feed 7 = .ok (.sipush 1600, 3) := by decide +kernel
theorem dX12_feed_10 : decode cX12_feed 10 = .ok (.if_icmp .le 15, 3) := by decide +kernel
theorem dX12_feed_13 : decode cX12_feed 13 = .ok (.aload_n 0, 1) := by decide +kernel
theorem dX12_feed_14 : decode cX12_feed 14 = .ok (.getfield 17, 3) := by decide +kernel
theorem dX12_feed_17 : decode cX12_feed 17 = .ok (.iconst 0, 1) := by decide +kernel
theorem dX12_feed_18 : decode cX12_feed 18 = .ok (.dup2, 1) := by decide +kernel
theorem dX12_feed_19 : decode cX12_feed 19 = .ok (.iaload, 1) := by decide +kernel
theorem dX12_feed_20 : decode cX12_feed 20 = .ok (.iconst 1, 1) := by decide +kernel
theorem dX12_feed_21 : decode cX12_feed 21 = .ok (.iadd, 1) := by decide +kernel
theorem dX12_feed_22 : decode cX12_feed 22 = .ok (.iastore, 1) := by decide +kernel
theorem dX12_feed_23 : decode cX12_feed 23 = .ok (.iconst (-1), 1) := by decide +kernel
theorem dX12_feed_24 : decode cX12_feed 24 = .ok (.ireturn, 1) := by decide +kernel
theorem dX12_feed_25 : decode cX12_feed 25 = .ok (.iconst 0, 1) := by decide +kernel
theorem dX12_feed_26 : decode cX12_feed 26 = .ok (.istore 6, 2) := by decide +kernel
theorem dX12_feed_28 : decode cX12_feed 28 = .ok (.iload 6, 2) := by decide +kernel
theorem dX12_feed_30 : decode cX12_feed 30 = .ok (.bipush 20, 2) := by decide +kernel
theorem dX12_feed_32 : decode cX12_feed 32 = .ok (.if_icmp .ge 92, 3) := by decide +kernel
theorem dX12_feed_35 : decode cX12_feed 35 = .ok (.iload 6, 2) := by decide +kernel
theorem dX12_feed_37 : decode cX12_feed 37 = .ok (.iconst 4, 1) := by decide +kernel
theorem dX12_feed_38 : decode cX12_feed 38 = .ok (.if_icmp .ge 7, 3) := by decide +kernel
theorem dX12_feed_41 : decode cX12_feed 41 = .ok (.iload_n 1, 1) := by decide +kernel
theorem dX12_feed_42 : decode cX12_feed 42 = .ok (.goto 39, 3) := by decide +kernel
theorem dX12_feed_45 : decode cX12_feed 45 = .ok (.iload 6, 2) := by decide +kernel
theorem dX12_feed_47 : decode cX12_feed 47 = .ok (.bipush 8, 2) := by decide +kernel
theorem dX12_feed_49 : decode cX12_feed 49 = .ok (.if_icmp .ge 7, 3) := by decide +kernel
theorem dX12_feed_52 : decode cX12_feed 52 = .ok (.iload_n 2, 1) := by decide +kernel
theorem dX12_feed_53 : decode cX12_feed 53 = .ok (.goto 28, 3) := by decide +kernel
theorem dX12_feed_56 : decode cX12_feed 56 = .ok (.iload 6, 2) := by decide +kernel
theorem dX12_feed_58 : decode cX12_feed 58 = .ok (.bipush 12, 2) := by decide +kernel
theorem dX12_feed_60 : decode cX12_feed 60 = .ok (.if_icmp .ge 7, 3) := by decide +kernel
theorem dX12_feed_63 : decode cX12_feed 63 = .ok (.iload_n 3, 1) := by decide +kernel
theorem dX12_feed_64 : decode cX12_feed 64 = .ok (.goto 17, 3) := by decide +kernel
theorem dX12_feed_67 : decode cX12_feed 67 = .ok (.iload 6, 2) := by decide +kernel
theorem dX12_feed_69 : decode cX12_feed 69 = .ok (.bipush 16, 2) := by decide +kernel
theorem dX12_feed_71 : decode cX12_feed 71 = .ok (.if_icmp .ge 8, 3) := by decide +kernel
theorem dX12_feed_74 : decode cX12_feed 74 = .ok (.iload 4, 2) := by decide +kernel
theorem dX12_feed_76 : decode cX12_feed 76 = .ok (.goto 5, 3) := by decide +kernel
theorem dX12_feed_79 : decode cX12_feed 79 = .ok (.iload 5, 2) := by decide +kernel
theorem dX12_feed_81 : decode cX12_feed 81 = .ok (.istore 7, 2) := by decide +kernel
theorem dX12_feed_83 : decode cX12_feed 83 = .ok (.aload_n 0, 1) := by decide +kernel
theorem dX12_feed_84 : decode cX12_feed 84 = .ok (.getfield 7, 3) := by decide +kernel
theorem dX12_feed_87 : decode cX12_feed 87 = .ok (.aload_n 0, 1) := by decide +kernel
theorem dX12_feed_88 : decode cX12_feed 88 = .ok (.getfield 260, 3) := by decide +kernel
theorem dX12_feed_91 : decode cX12_feed 91 = .ok (.iload 7, 2) := by decide +kernel
theorem dX12_feed_93 : decode cX12_feed 93 = .ok (.bipush 8, 2) := by decide +kernel
theorem dX12_feed_95 : decode cX12_feed 95 = .ok (.iconst 3, 1) := by decide +kernel
theorem dX12_feed_96 : decode cX12_feed 96 = .ok (.iload 6, 2) := by decide +kernel
theorem dX12_feed_98 : decode cX12_feed 98 = .ok (.iconst 4, 1) := by decide +kernel
theorem dX12_feed_99 : decode cX12_feed 99 = .ok (.irem, 1) := by decide +kernel
theorem dX12_feed_100 : decode cX12_feed 100 = .ok (.isub, 1) := by decide +kernel
theorem dX12_feed_101 : decode cX12_feed 101 = .ok (.imul, 1) := by decide +kernel
theorem dX12_feed_102 : decode cX12_feed 102 = .ok (.ishr, 1) := by decide +kernel
theorem dX12_feed_103 : decode cX12_feed 103 = .ok (.sipush 255, 3) := by decide +kernel
theorem dX12_feed_106 : decode cX12_feed 106 = .ok (.iand, 1) := by decide +kernel
theorem dX12_feed_107 : decode cX12_feed 107 = .ok (.iastore, 1) := by decide +kernel
theorem dX12_feed_108 : decode cX12_feed 108 = .ok (.aload_n 0, 1) := by decide +kernel
theorem dX12_feed_109 : decode cX12_feed 109 = .ok (.dup, 1) := by decide +kernel
theorem dX12_feed_110 : decode cX12_feed 110 = .ok (.getfield 260, 3) := by decide +kernel
theorem dX12_feed_113 : decode cX12_feed 113 = .ok (.iconst 1, 1) := by decide +kernel
theorem dX12_feed_114 : decode cX12_feed 114 = .ok (.iadd, 1) := by decide +kernel
theorem dX12_feed_115 : decode cX12_feed 115 = .ok (.putfield 260, 3) := by decide +kernel
theorem dX12_feed_118 : decode cX12_feed 118 = .ok (.iinc 6 1, 3) := by decide +kernel
theorem dX12_feed_121 : decode cX12_feed 121 = .ok (.goto (-93), 3) := by decide +kernel
theorem dX12_feed_124 : decode cX12_feed 124 = .ok (.aload_n 0, 1) := by decide +kernel
theorem dX12_feed_125 : decode cX12_feed 125 = .ok (.getfield 260, 3) := by decide +kernel
theorem dX12_feed_128 : decode cX12_feed 128 = .ok (.ireturn, 1) := by decide +kernel
theorem dX12_qDropsNots_0 : decode cX12_qDropsNots 0 = .ok (.aload_n 0, 1) := by decide +kernel
theorem dX12_qDropsNots_1 : decode cX12_qDropsNots 1 = .ok (.getfield 263, 3) := by decide +kernel
theorem dX12_qDropsNots_4 : decode cX12_qDropsNots 4 = .ok (.ifCond .ne 29, 3) := by decide +kernel
theorem dX12_qDropsNots_7 : decode cX12_qDropsNots 7 = .ok (.aload_n 0, 1) := by decide +kernel
theorem dX12_qDropsNots_8 : decode cX12_qDropsNots 8 = .ok (.bipush 12, 2) := by decide +kernel
theorem dX12_qDropsNots_10 : decode cX12_qDropsNots 10 = .ok (.invokevirtual 627, 3) := by decide +kernel
theorem dX12_qDropsNots_13 : decode cX12_qDropsNots 13 = .ok (.ifCond .eq 20, 3) := by decide +kernel
theorem dX12_qDropsNots_16 : decode cX12_qDropsNots 16 = .ok (.aload_n 0, 1) := by decide +kernel
theorem dX12_qDropsNots_17 : decode cX12_qDropsNots 17 = .ok (.dup, 1) := by decide +kernel
theorem dX12_qDropsNots_18 : decode cX12_qDropsNots 18 = .ok (.getfield 358, 3) := by decide +kernel
theorem dX12_qDropsNots_21 : decode cX12_qDropsNots 21 = .ok (.iconst 1, 1) := by decide +kernel
theorem dX12_qDropsNots_22 : decode cX12_qDropsNots 22 = .ok (.isub, 1) := by decide +kernel
theorem dX12_qDropsNots_23 : decode cX12_qDropsNots 23 = .ok (.putfield 358, 3) := by decide +kernel
theorem dX12_qDropsNots_26 : decode cX12_qDropsNots 26 = .ok (.aload_n 0, 1) := by decide +kernel
theorem dX12_qDropsNots_27 : decode cX12_qDropsNots 27 = .ok (.invokevirtual 600, 3) := by decide +kernel
theorem dX12_qDropsNots_30 : decode cX12_qDropsNots 30 = .ok (.goto (-30), 3) := by decide +kernel
theorem dX12_qDropsNots_33 : decode cX12_qDropsNots 33 = .ok (.return_, 1) := by decide +kernel
theorem dX12_qWordHere_0 : decode cX12_qWordHere 0 = .ok (.aload_n 0, 1) := by decide +kernel
theorem dX12_qWordHere_1 : decode cX12_qWordHere 1 = .ok (.aload_n 0, 1) := by decide +kernel
theorem dX12_qWordHere_2 : decode cX12_qWordHere 2 = .ok (.getfield 215, 3) := by decide +kernel
theorem dX12_qWordHere_5 : decode cX12_qWordHere 5 = .ok (.invokevirtual 286, 3) := by decide +kernel
theorem dX12_qWordHere_8 : decode cX12_qWordHere 8 = .ok (.ifCond .eq 5, 3) := by decide +kernel
theorem dX12_qWordHere_11 : decode cX12_qWordHere 11 = .ok (.iconst 0, 1) := by decide +kernel
theorem dX12_qWordHere_12 : decode cX12_qWordHere 12 = .ok (.ireturn, 1) := by decide +kernel
theorem dX12_qWordHere_13 : decode cX12_qWordHere 13 = .ok (.aload_n 0, 1) := by decide +kernel
theorem dX12_qWordHere_14 : decode cX12_qWordHere 14 = .ok (.aload_n 0, 1) := by decide +kernel
theorem dX12_qWordHere_15 : decode cX12_qWordHere 15 = .ok (.getfield 218, 3) := by decide +kernel
theorem dX12_qWordHere_18 : decode cX12_qWordHere 18 = .ok (.invokevirtual 286, 3) := by decide +kernel
theorem dX12_qWordHere_21 : decode cX12_qWordHere 21 = .ok (.ifCond .eq 5, 3) := by decide +kernel
theorem dX12_qWordHere_24 : decode cX12_qWordHere 24 = .ok (.iconst 1, 1) := by decide +kernel
theorem dX12_qWordHere_25 : decode cX12_qWordHere 25 = .ok (.ireturn, 1) := by decide +kernel
theorem dX12_qWordHere_26 : decode cX12_qWordHere 26 = .ok (.aload_n 0, 1) := by decide +kernel
theorem dX12_qWordHere_27 : decode cX12_qWordHere 27 = .ok (.aload_n 0, 1) := by decide +kernel
theorem dX12_qWordHere_28 : decode cX12_qWordHere 28 = .ok (.getfield 221, 3) := by decide +kernel
theorem dX12_qWordHere_31 : decode cX12_qWordHere 31 = .ok (.invokevirtual 286, 3) := by decide +kernel
theorem dX12_qWordHere_34 : decode cX12_qWordHere 34 = .ok (.ifCond .eq 5, 3) := by decide +kernel
theorem dX12_qWordHere_37 : decode cX12_qWordHere 37 = .ok (.iconst 2, 1) := by decide +kernel
theorem dX12_qWordHere_38 : decode cX12_qWordHere 38 = .ok (.ireturn, 1) := by decide +kernel
theorem dX12_qWordHere_39 : decode cX12_qWordHere 39 = .ok (.aload_n 0, 1) := by decide +kernel
theorem dX12_qWordHere_40 : decode cX12_qWordHere 40 = .ok (.aload_n 0, 1) := by decide +kernel
theorem dX12_qWordHere_41 : decode cX12_qWordHere 41 = .ok (.getfield 224, 3) := by decide +kernel
theorem dX12_qWordHere_44 : decode cX12_qWordHere 44 = .ok (.invokevirtual 286, 3) := by decide +kernel
theorem dX12_qWordHere_47 : decode cX12_qWordHere 47 = .ok (.ifCond .eq 5, 3) := by decide +kernel
theorem dX12_qWordHere_50 : decode cX12_qWordHere 50 = .ok (.iconst 3, 1) := by decide +kernel
theorem dX12_qWordHere_51 : decode cX12_qWordHere 51 = .ok (.ireturn, 1) := by decide +kernel
theorem dX12_qWordHere_52 : decode cX12_qWordHere 52 = .ok (.aload_n 0, 1) := by decide +kernel
theorem dX12_qWordHere_53 : decode cX12_qWordHere 53 = .ok (.aload_n 0, 1) := by decide +kernel
theorem dX12_qWordHere_54 : decode cX12_qWordHere 54 = .ok (.getfield 227, 3) := by decide +kernel
theorem dX12_qWordHere_57 : decode cX12_qWordHere 57 = .ok (.invokevirtual 286, 3) := by decide +kernel
theorem dX12_qWordHere_60 : decode cX12_qWordHere 60 = .ok (.ifCond .eq 5, 3) := by decide +kernel
theorem dX12_qWordHere_63 : decode cX12_qWordHere 63 = .ok (.iconst 4, 1) := by decide +kernel
theorem dX12_qWordHere_64 : decode cX12_qWordHere 64 = .ok (.ireturn, 1) := by decide +kernel
theorem dX12_qWordHere_65 : decode cX12_qWordHere 65 = .ok (.aload_n 0, 1) := by decide +kernel
theorem dX12_qWordHere_66 : decode cX12_qWordHere 66 = .ok (.aload_n 0, 1) := by decide +kernel
theorem dX12_qWordHere_67 : decode cX12_qWordHere 67 = .ok (.getfield 230, 3) := by decide +kernel
theorem dX12_qWordHere_70 : decode cX12_qWordHere 70 = .ok (.invokevirtual 286, 3) := by decide +kernel
theorem dX12_qWordHere_73 : decode cX12_qWordHere 73 = .ok (.ifCond .eq 5, 3) := by decide +kernel
theorem dX12_qWordHere_76 : decode cX12_qWordHere 76 = .ok (.iconst 5, 1) := by decide +kernel
theorem dX12_qWordHere_77 : decode cX12_qWordHere 77 = .ok (.ireturn, 1) := by decide +kernel
theorem dX12_qWordHere_78 : decode cX12_qWordHere 78 = .ok (.aload_n 0, 1) := by decide +kernel
theorem dX12_qWordHere_79 : decode cX12_qWordHere 79 = .ok (.aload_n 0, 1) := by decide +kernel
theorem dX12_qWordHere_80 : decode cX12_qWordHere 80 = .ok (.getfield 233, 3) := by decide +kernel
theorem dX12_qWordHere_83 : decode cX12_qWordHere 83 = .ok (.invokevirtual 286, 3) := by decide +kernel
theorem dX12_qWordHere_86 : decode cX12_qWordHere 86 = .ok (.ifCond .eq 6, 3) := by decide +kernel
theorem dX12_qWordHere_89 : decode cX12_qWordHere 89 = .ok (.bipush 6, 2) := by decide +kernel
theorem dX12_qWordHere_91 : decode cX12_qWordHere 91 = .ok (.ireturn, 1) := by decide +kernel
theorem dX12_qWordHere_92 : decode cX12_qWordHere 92 = .ok (.aload_n 0, 1) := by decide +kernel
theorem dX12_qWordHere_93 : decode cX12_qWordHere 93 = .ok (.aload_n 0, 1) := by decide +kernel
theorem dX12_qWordHere_94 : decode cX12_qWordHere 94 = .ok (.getfield 236, 3) := by decide +kernel
theorem dX12_qWordHere_97 : decode cX12_qWordHere 97 = .ok (.invokevirtual 286, 3) := by decide +kernel
theorem dX12_qWordHere_100 : decode cX12_qWordHere 100 = .ok (.ifCond .eq 6, 3) := by decide +kernel
theorem dX12_qWordHere_103 : decode cX12_qWordHere 103 = .ok (.bipush 7, 2) := by decide +kernel
theorem dX12_qWordHere_105 : decode cX12_qWordHere 105 = .ok (.ireturn, 1) := by decide +kernel
theorem dX12_qWordHere_106 : decode cX12_qWordHere 106 = .ok (.aload_n 0, 1) := by decide +kernel
theorem dX12_qWordHere_107 : decode cX12_qWordHere 107 = .ok (.aload_n 0, 1) := by decide +kernel
theorem dX12_qWordHere_108 : decode cX12_qWordHere 108 = .ok (.getfield 239, 3) := by decide +kernel
theorem dX12_qWordHere_111 : decode cX12_qWordHere 111 = .ok (.invokevirtual 286, 3) := by decide +kernel
theorem dX12_qWordHere_114 : decode cX12_qWordHere 114 = .ok (.ifCond .eq 6, 3) := by decide +kernel
theorem dX12_qWordHere_117 : decode cX12_qWordHere 117 = .ok (.bipush 8, 2) := by decide +kernel
theorem dX12_qWordHere_119 : decode cX12_qWordHere 119 = .ok (.ireturn, 1) := by decide +kernel
theorem dX12_qWordHere_120 : decode cX12_qWordHere 120 = .ok (.aload_n 0, 1) := by decide +kernel
theorem dX12_qWordHere_121 : decode cX12_qWordHere 121 = .ok (.aload_n 0, 1) := by decide +kernel
theorem dX12_qWordHere_122 : decode cX12_qWordHere 122 = .ok (.getfield 242, 3) := by decide +kernel
theorem dX12_qWordHere_125 : decode cX12_qWordHere 125 = .ok (.invokevirtual 286, 3) := by decide +kernel
theorem dX12_qWordHere_128 : decode cX12_qWordHere 128 = .ok (.ifCond .eq 6, 3) := by decide +kernel
theorem dX12_qWordHere_131 : decode cX12_qWordHere 131 = .ok (.bipush 9, 2) := by decide +kernel
theorem dX12_qWordHere_133 : decode cX12_qWordHere 133 = .ok (.ireturn, 1) := by decide +kernel
theorem dX12_qWordHere_134 : decode cX12_qWordHere 134 = .ok (.aload_n 0, 1) := by decide +kernel
theorem dX12_qWordHere_135 : decode cX12_qWordHere 135 = .ok (.aload_n 0, 1) := by decide +kernel
theorem dX12_qWordHere_136 : decode cX12_qWordHere 136 = .ok (.getfield 245, 3) := by decide +kernel
theorem dX12_qWordHere_139 : decode cX12_qWordHere 139 = .ok (.invokevirtual 286, 3) := by decide +kernel
theorem dX12_qWordHere_142 : decode cX12_qWordHere 142 = .ok (.ifCond .eq 6, 3) := by decide +kernel
theorem dX12_qWordHere_145 : decode cX12_qWordHere 145 = .ok (.bipush 10, 2) := by decide +kernel
theorem dX12_qWordHere_147 : decode cX12_qWordHere 147 = .ok (.ireturn, 1) := by decide +kernel
theorem dX12_qWordHere_148 : decode cX12_qWordHere 148 = .ok (.iconst (-1), 1) := by decide +kernel
theorem dX12_qWordHere_149 : decode cX12_qWordHere 149 = .ok (.ireturn, 1) := by decide +kernel
theorem dX12_asksSign_0 : decode cX12_asksSign 0 = .ok (.aload_n 0, 1) := by decide +kernel
theorem dX12_asksSign_1 : decode cX12_asksSign 1 = .ok (.getfield 263, 3) := by decide +kernel
theorem dX12_asksSign_4 : decode cX12_asksSign 4 = .ok (.ifCond .ne 20, 3) := by decide +kernel
theorem dX12_asksSign_7 : decode cX12_asksSign 7 = .ok (.aload_n 0, 1) := by decide +kernel
theorem dX12_asksSign_8 : decode cX12_asksSign 8 = .ok (.iload_n 1, 1) := by decide +kernel
theorem dX12_asksSign_9 : decode cX12_asksSign 9 = .ok (.invokevirtual 297, 3) := by decide +kernel
theorem dX12_asksSign_12 : decode cX12_asksSign 12 = .ok (.ifCond .ne 12, 3) := by decide +kernel
theorem dX12_asksSign_15 : decode cX12_asksSign 15 = .ok (.aload_n 0, 1) := by decide +kernel
theorem dX12_asksSign_16 : decode cX12_asksSign 16 = .ok (.iconst 1, 1) := by decide +kernel
theorem dX12_asksSign_17 : decode cX12_asksSign 17 = .ok (.aload_n 0, 1) := by decide +kernel
theorem dX12_asksSign_18 : decode cX12_asksSign 18 = .ok (.getfield 269, 3) := by decide +kernel
theorem dX12_asksSign_21 : decode cX12_asksSign 21 = .ok (.invokevirtual 293, 3) := by decide +kernel
theorem dX12_asksSign_24 : decode cX12_asksSign 24 = .ok (.return_, 1) := by decide +kernel
theorem dX12_answeredIn_0 : decode cX12_answeredIn 0 = .ok (.iconst 0, 1) := by decide +kernel
theorem dX12_answeredIn_1 : decode cX12_answeredIn 1 = .ok (.istore_n 1, 1) := by decide +kernel
theorem dX12_answeredIn_2 : decode cX12_answeredIn 2 = .ok (.iconst 0, 1) := by decide +kernel
theorem dX12_answeredIn_3 : decode cX12_answeredIn 3 = .ok (.istore_n 2, 1) := by decide +kernel
theorem dX12_answeredIn_4 : decode cX12_answeredIn 4 = .ok (.iload_n 2, 1) := by decide +kernel
theorem dX12_answeredIn_5 : decode cX12_answeredIn 5 = .ok (.aload_n 0, 1) := by decide +kernel
theorem dX12_answeredIn_6 : decode cX12_answeredIn 6 = .ok (.invokevirtual 419, 3) := by decide +kernel
theorem dX12_answeredIn_9 : decode cX12_answeredIn 9 = .ok (.if_icmp .ge 21, 3) := by decide +kernel
theorem dX12_answeredIn_12 : decode cX12_answeredIn 12 = .ok (.aload_n 0, 1) := by decide +kernel
theorem dX12_answeredIn_13 : decode cX12_answeredIn 13 = .ok (.getfield 148, 3) := by decide +kernel
theorem dX12_answeredIn_16 : decode cX12_answeredIn 16 = .ok (.iload_n 2, 1) := by decide +kernel
theorem dX12_answeredIn_17 : decode cX12_answeredIn 17 = .ok (.iaload, 1) := by decide +kernel
theorem dX12_answeredIn_18 : decode cX12_answeredIn 18 = .ok (.ifCond .le 6, 3) := by decide +kernel
theorem dX12_answeredIn_21 : decode cX12_answeredIn 21 = .ok (.iinc 1 1, 3) := by decide +kernel
theorem dX12_answeredIn_24 : decode cX12_answeredIn 24 = .ok (.iinc 2 1, 3) := by decide +kernel
theorem dX12_answeredIn_27 : decode cX12_answeredIn 27 = .ok (.goto (-23), 3) := by decide +kernel
theorem dX12_answeredIn_30 : decode cX12_answeredIn 30 = .ok (.iload_n 1, 1) := by decide +kernel
theorem dX12_answeredIn_31 : decode cX12_answeredIn 31 = .ok (.ireturn, 1) := by decide +kernel
theorem dX12_letter_0 : decode cX12_letter 0 = .ok (.iload_n 1, 1) := by decide +kernel
theorem dX12_letter_1 : decode cX12_letter 1 = .ok (.i2l, 1) := by decide +kernel
theorem dX12_letter_2 : decode cX12_letter 2 = .ok (.lconst 0, 1) := by decide +kernel
theorem dX12_letter_3 : decode cX12_letter 3 = .ok (.ldc2_w 497, 3) := by decide +kernel
theorem dX12_letter_6 : decode cX12_letter 6 = .ok (.invokestatic 303, 3) := by decide +kernel
theorem dX12_letter_9 : decode cX12_letter 9 = .ok (.ifCond .eq 35, 3) := by decide +kernel
theorem dX12_letter_12 : decode cX12_letter 12 = .ok (.iload_n 2, 1) := by decide +kernel
theorem dX12_letter_13 : decode cX12_letter 13 = .ok (.i2l, 1) := by decide +kernel
theorem dX12_letter_14 : decode cX12_letter 14 = .ok (.lconst 0, 1) := by decide +kernel
theorem dX12_letter_15 : decode cX12_letter 15 = .ok (.aload_n 0, 1) := by decide +kernel
theorem dX12_letter_16 : decode cX12_letter 16 = .ok (.getfield 105, 3) := by decide +kernel
theorem dX12_letter_19 : decode cX12_letter 19 = .ok (.iconst 5, 1) := by decide +kernel
theorem dX12_letter_20 : decode cX12_letter 20 = .ok (.iload_n 1, 1) := by decide +kernel
theorem dX12_letter_21 : decode cX12_letter 21 = .ok (.iadd, 1) := by decide +kernel
theorem dX12_letter_22 : decode cX12_letter 22 = .ok (.iaload, 1) := by decide +kernel
theorem dX12_letter_23 : decode cX12_letter 23 = .ok (.iconst 1, 1) := by decide +kernel
theorem dX12_letter_24 : decode cX12_letter 24 = .ok (.isub, 1) := by decide +kernel
theorem dX12_letter_25 : decode cX12_letter 25 = .ok (.i2l, 1) := by decide +kernel
theorem dX12_letter_26 : decode cX12_letter 26 = .ok (.invokestatic 303, 3) := by decide +kernel
theorem dX12_letter_29 : decode cX12_letter 29 = .ok (.ifCond .eq 15, 3) := by decide +kernel
theorem dX12_letter_32 : decode cX12_letter 32 = .ok (.iload_n 3, 1) := by decide +kernel
theorem dX12_letter_33 : decode cX12_letter 33 = .ok (.i2l, 1) := by decide +kernel
theorem dX12_letter_34 : decode cX12_letter 34 = .ok (.lconst 0, 1) := by decide +kernel
theorem dX12_letter_35 : decode cX12_letter 35 = .ok (.ldc2_w 499, 3) := by decide +kernel
theorem dX12_letter_38 : decode cX12_letter 38 = .ok (.invokestatic 303, 3) := by decide +kernel
theorem dX12_letter_41 : decode cX12_letter 41 = .ok (.ifCond .ne 5, 3) := by decide +kernel
theorem dX12_letter_44 : decode cX12_letter 44 = .ok (.iconst (-1), 1) := by decide +kernel
theorem dX12_letter_45 : decode cX12_letter 45 = .ok (.ireturn, 1) := by decide +kernel
theorem dX12_letter_46 : decode cX12_letter 46 = .ok (.aload_n 0, 1) := by decide +kernel
theorem dX12_letter_47 : decode cX12_letter 47 = .ok (.getfield 108, 3) := by decide +kernel
theorem dX12_letter_50 : decode cX12_letter 50 = .ok (.bipush 24, 2) := by decide +kernel
theorem dX12_letter_52 : decode cX12_letter 52 = .ok (.bipush 8, 2) := by decide +kernel
theorem dX12_letter_54 : decode cX12_letter 54 = .ok (.iload_n 1, 1) := by decide +kernel
theorem dX12_letter_55 : decode cX12_letter 55 = .ok (.imul, 1) := by decide +kernel
theorem dX12_letter_56 : decode cX12_letter 56 = .ok (.iadd, 1) := by decide +kernel
theorem dX12_letter_57 : decode cX12_letter 57 = .ok (.iload_n 2, 1) := by decide +kernel
theorem dX12_letter_58 : decode cX12_letter 58 = .ok (.iadd, 1) := by decide +kernel
theorem dX12_letter_59 : decode cX12_letter 59 = .ok (.laload, 1) := by decide +kernel
theorem dX12_letter_60 : decode cX12_letter 60 = .ok (.lstore 4, 2) := by decide +kernel
theorem dX12_letter_62 : decode cX12_letter 62 = .ok (.iconst 0, 1) := by decide +kernel
theorem dX12_letter_63 : decode cX12_letter 63 = .ok (.istore 6, 2) := by decide +kernel
theorem dX12_letter_65 : decode cX12_letter 65 = .ok (.lload 4, 2) := by decide +kernel
theorem dX12_letter_67 : decode cX12_letter 67 = .ok (.lstore 7, 2) := by decide +kernel
theorem dX12_letter_69 : decode cX12_letter 69 = .ok (.lload 7, 2) := by decide +kernel
theorem dX12_letter_71 : decode cX12_letter 71 = .ok (.lconst 0, 1) := by decide +kernel
theorem dX12_letter_72 : decode cX12_letter 72 = .ok (.lcmp, 1) := by decide +kernel
theorem dX12_letter_73 : decode cX12_letter 73 = .ok (.ifCond .le 17, 3) := by decide +kernel
theorem dX12_letter_76 : decode cX12_letter 76 = .ok (.iinc 6 1, 3) := by decide +kernel
theorem dX12_letter_79 : decode cX12_letter 79 = .ok (.lload 7, 2) := by decide +kernel
theorem dX12_letter_81 : decode cX12_letter 81 = .ok (.ldc2_w 314, 3) := by decide +kernel
theorem dX12_letter_84 : decode cX12_letter 84 = .ok (.ldiv, 1) := by decide +kernel
theorem dX12_letter_85 : decode cX12_letter 85 = .ok (.lstore 7, 2) := by decide +kernel
theorem dX12_letter_87 : decode cX12_letter 87 = .ok (.goto (-18), 3) := by decide +kernel
theorem dX12_letter_90 : decode cX12_letter 90 = .ok (.iload_n 3, 1) := by decide +kernel
theorem dX12_letter_91 : decode cX12_letter 91 = .ok (.iload 6, 2) := by decide +kernel
theorem dX12_letter_93 : decode cX12_letter 93 = .ok (.if_icmp .lt 5, 3) := by decide +kernel
theorem dX12_letter_96 : decode cX12_letter 96 = .ok (.iconst 0, 1) := by decide +kernel
theorem dX12_letter_97 : decode cX12_letter 97 = .ok (.ireturn, 1) := by decide +kernel
theorem dX12_letter_98 : decode cX12_letter 98 = .ok (.iload 6, 2) := by decide +kernel
theorem dX12_letter_100 : decode cX12_letter 100 = .ok (.iconst 1, 1) := by decide +kernel
theorem dX12_letter_101 : decode cX12_letter 101 = .ok (.isub, 1) := by decide +kernel
theorem dX12_letter_102 : decode cX12_letter 102 = .ok (.istore 7, 2) := by decide +kernel
theorem dX12_letter_104 : decode cX12_letter 104 = .ok (.iload 7, 2) := by decide +kernel
theorem dX12_letter_106 : decode cX12_letter 106 = .ok (.iload_n 3, 1) := by decide +kernel
theorem dX12_letter_107 : decode cX12_letter 107 = .ok (.if_icmp .le 17, 3) := by decide +kernel
theorem dX12_letter_110 : decode cX12_letter 110 = .ok (.lload 4, 2) := by decide +kernel
theorem dX12_letter_112 : decode cX12_letter 112 = .ok (.ldc2_w 314, 3) := by decide +kernel
theorem dX12_letter_115 : decode cX12_letter 115 = .ok (.ldiv, 1) := by decide +kernel
theorem dX12_letter_116 : decode cX12_letter 116 = .ok (.lstore 4, 2) := by decide +kernel
theorem dX12_letter_118 : decode cX12_letter 118 = .ok (.iinc 7 (-1), 3) := by decide +kernel
theorem dX12_letter_121 : decode cX12_letter 121 = .ok (.goto (-17), 3) := by decide +kernel
theorem dX12_letter_124 : decode cX12_letter 124 = .ok (.lload 4, 2) := by decide +kernel
theorem dX12_letter_126 : decode cX12_letter 126 = .ok (.ldc2_w 314, 3) := by decide +kernel
theorem dX12_letter_129 : decode cX12_letter 129 = .ok (.lrem, 1) := by decide +kernel
theorem dX12_letter_130 : decode cX12_letter 130 = .ok (.l2i, 1) := by decide +kernel
theorem dX12_letter_131 : decode cX12_letter 131 = .ok (.ireturn, 1) := by decide +kernel
theorem dX12_laysSheets_0 : decode cX12_laysSheets 0 = .ok (.iconst 0, 1) := by decide +kernel
theorem dX12_laysSheets_1 : decode cX12_laysSheets 1 = .ok (.istore_n 2, 1) := by decide +kernel
theorem dX12_laysSheets_2 : decode cX12_laysSheets 2 = .ok (.iload_n 2, 1) := by decide +kernel
theorem dX12_laysSheets_3 : decode cX12_laysSheets 3 = .ok (.bipush 8, 2) := by decide +kernel
theorem dX12_laysSheets_5 : decode cX12_laysSheets 5 = .ok (.if_icmp .ge 16, 3) := by decide +kernel
theorem dX12_laysSheets_8 : decode cX12_laysSheets 8 = .ok (.aload_n 0, 1) := by decide +kernel
theorem dX12_laysSheets_9 : decode cX12_laysSheets 9 = .ok (.getfield 148, 3) := by decide +kernel
theorem dX12_laysSheets_12 : decode cX12_laysSheets 12 = .ok (.iload_n 2, 1) := by decide +kernel
theorem dX12_laysSheets_13 : decode cX12_laysSheets 13 = .ok (.iconst 0, 1) := by decide +kernel
theorem dX12_laysSheets_14 : decode cX12_laysSheets 14 = .ok (.iastore, 1) := by decide +kernel
theorem dX12_laysSheets_15 : decode cX12_laysSheets 15 = .ok (.iinc 2 1, 3) := by decide +kernel
theorem dX12_laysSheets_18 : decode cX12_laysSheets 18 = .ok (.goto (-16), 3) := by decide +kernel
theorem dX12_laysSheets_21 : decode cX12_laysSheets 21 = .ok (.iconst 0, 1) := by decide +kernel
theorem dX12_laysSheets_22 : decode cX12_laysSheets 22 = .ok (.istore_n 2, 1) := by decide +kernel
theorem dX12_laysSheets_23 : decode cX12_laysSheets 23 = .ok (.iload_n 2, 1) := by decide +kernel
theorem dX12_laysSheets_24 : decode cX12_laysSheets 24 = .ok (.ifCond .lt 58, 3) := by decide +kernel
theorem dX12_laysSheets_27 : decode cX12_laysSheets 27 = .ok (.iload_n 2, 1) := by decide +kernel
theorem dX12_laysSheets_28 : decode cX12_laysSheets 28 = .ok (.aload_n 0, 1) := by decide +kernel
theorem dX12_laysSheets_29 : decode cX12_laysSheets 29 = .ok (.invokevirtual 419, 3) := by decide +kernel
theorem dX12_laysSheets_32 : decode cX12_laysSheets 32 = .ok (.if_icmp .ge 50, 3) := by decide +kernel
theorem dX12_laysSheets_35 : decode cX12_laysSheets 35 = .ok (.aload_n 0, 1) := by decide +kernel
theorem dX12_laysSheets_36 : decode cX12_laysSheets 36 = .ok (.getfield 148, 3) := by decide +kernel
theorem dX12_laysSheets_39 : decode cX12_laysSheets 39 = .ok (.iload_n 2, 1) := by decide +kernel
theorem dX12_laysSheets_40 : decode cX12_laysSheets 40 = .ok (.dup2, 1) := by decide +kernel
theorem dX12_laysSheets_41 : decode cX12_laysSheets 41 = .ok (.iaload, 1) := by decide +kernel
theorem dX12_laysSheets_42 : decode cX12_laysSheets 42 = .ok (.iconst 1, 1) := by decide +kernel
theorem dX12_laysSheets_43 : decode cX12_laysSheets 43 = .ok (.iadd, 1) := by decide +kernel
theorem dX12_laysSheets_44 : decode cX12_laysSheets 44 = .ok (.iastore, 1) := by decide +kernel
theorem dX12_laysSheets_45 : decode cX12_laysSheets 45 = .ok (.aload_n 0, 1) := by decide +kernel
theorem dX12_laysSheets_46 : decode cX12_laysSheets 46 = .ok (.getfield 148, 3) := by decide +kernel
theorem dX12_laysSheets_49 : decode cX12_laysSheets 49 = .ok (.iload_n 2, 1) := by decide +kernel
theorem dX12_laysSheets_50 : decode cX12_laysSheets 50 = .ok (.iaload, 1) := by decide +kernel
theorem dX12_laysSheets_51 : decode cX12_laysSheets 51 = .ok (.iload_n 1, 1) := by decide +kernel
theorem dX12_laysSheets_52 : decode cX12_laysSheets 52 = .ok (.if_icmp .le 16, 3) := by decide +kernel
theorem dX12_laysSheets_55 : decode cX12_laysSheets 55 = .ok (.aload_n 0, 1) := by decide +kernel
theorem dX12_laysSheets_56 : decode cX12_laysSheets 56 = .ok (.getfield 148, 3) := by decide +kernel
theorem dX12_laysSheets_59 : decode cX12_laysSheets 59 = .ok (.iload_n 2, 1) := by decide +kernel
theorem dX12_laysSheets_60 : decode cX12_laysSheets 60 = .ok (.iconst 0, 1) := by decide +kernel
theorem dX12_laysSheets_61 : decode cX12_laysSheets 61 = .ok (.iastore, 1) := by decide +kernel
theorem dX12_laysSheets_62 : decode cX12_laysSheets 62 = .ok (.iinc 2 (-1), 3) := by decide +kernel
theorem dX12_laysSheets_65 : decode cX12_laysSheets 65 = .ok (.goto (-42), 3) := by decide +kernel
theorem dX12_laysSheets_68 : decode cX12_laysSheets 68 = .ok (.aload_n 0, 1) := by decide +kernel
theorem dX12_laysSheets_69 : decode cX12_laysSheets 69 = .ok (.iload_n 2, 1) := by decide +kernel
theorem dX12_laysSheets_70 : decode cX12_laysSheets 70 = .ok (.invokevirtual 539, 3) := by decide +kernel
theorem dX12_laysSheets_73 : decode cX12_laysSheets 73 = .ok (.ifCond .eq (-50), 3) := by decide +kernel
theorem dX12_laysSheets_76 : decode cX12_laysSheets 76 = .ok (.iinc 2 1, 3) := by decide +kernel
theorem dX12_laysSheets_79 : decode cX12_laysSheets 79 = .ok (.goto (-56), 3) := by decide +kernel
theorem dX12_laysSheets_82 : decode cX12_laysSheets 82 = .ok (.iload_n 2, 1) := by decide +kernel
theorem dX12_laysSheets_83 : decode cX12_laysSheets 83 = .ok (.ifCond .lt 7, 3) := by decide +kernel
theorem dX12_laysSheets_86 : decode cX12_laysSheets 86 = .ok (.iconst 1, 1) := by decide +kernel
theorem dX12_laysSheets_87 : decode cX12_laysSheets 87 = .ok (.goto 4, 3) := by decide +kernel
theorem dX12_laysSheets_90 : decode cX12_laysSheets 90 = .ok (.iconst 0, 1) := by decide +kernel
theorem dX12_laysSheets_91 : decode cX12_laysSheets 91 = .ok (.ireturn, 1) := by decide +kernel
theorem dX12_stands_0 : decode cX12_stands 0 = .ok (.iconst 0, 1) := by decide +kernel
theorem dX12_stands_1 : decode cX12_stands 1 = .ok (.istore_n 1, 1) := by decide +kernel
theorem dX12_stands_2 : decode cX12_stands 2 = .ok (.iload_n 1, 1) := by decide +kernel
theorem dX12_stands_3 : decode cX12_stands 3 = .ok (.iconst 5, 1) := by decide +kernel
theorem dX12_stands_4 : decode cX12_stands 4 = .ok (.if_icmp .ge 23, 3) := by decide +kernel
theorem dX12_stands_7 : decode cX12_stands 7 = .ok (.aload_n 0, 1) := by decide +kernel
theorem dX12_stands_8 : decode cX12_stands 8 = .ok (.getfield 105, 3) := by decide +kernel
theorem dX12_stands_11 : decode cX12_stands 11 = .ok (.iconst 5, 1) := by decide +kernel
theorem dX12_stands_12 : decode cX12_stands 12 = .ok (.iload_n 1, 1) := by decide +kernel
theorem dX12_stands_13 : decode cX12_stands 13 = .ok (.iadd, 1) := by decide +kernel
theorem dX12_stands_14 : decode cX12_stands 14 = .ok (.aload_n 0, 1) := by decide +kernel
theorem dX12_stands_15 : decode cX12_stands 15 = .ok (.getfield 105, 3) := by decide +kernel
theorem dX12_stands_18 : decode cX12_stands 18 = .ok (.iload_n 1, 1) := by decide +kernel
theorem dX12_stands_19 : decode cX12_stands 19 = .ok (.iaload, 1) := by decide +kernel
theorem dX12_stands_20 : decode cX12_stands 20 = .ok (.iastore, 1) := by decide +kernel
theorem dX12_stands_21 : decode cX12_stands 21 = .ok (.iinc 1 1, 3) := by decide +kernel
theorem dX12_stands_24 : decode cX12_stands 24 = .ok (.goto (-22), 3) := by decide +kernel
theorem dX12_stands_27 : decode cX12_stands 27 = .ok (.iconst 0, 1) := by decide +kernel
theorem dX12_stands_28 : decode cX12_stands 28 = .ok (.istore_n 1, 1) := by decide +kernel
theorem dX12_stands_29 : decode cX12_stands 29 = .ok (.iload_n 1, 1) := by decide +kernel
theorem dX12_stands_30 : decode cX12_stands 30 = .ok (.bipush 24, 2) := by decide +kernel
theorem dX12_stands_32 : decode cX12_stands 32 = .ok (.if_icmp .ge 39, 3) := by decide +kernel
theorem dX12_stands_35 : decode cX12_stands 35 = .ok (.aload_n 0, 1) := by decide +kernel
theorem dX12_stands_36 : decode cX12_stands 36 = .ok (.getfield 108, 3) := by decide +kernel
theorem dX12_stands_39 : decode cX12_stands 39 = .ok (.bipush 24, 2) := by decide +kernel
theorem dX12_stands_41 : decode cX12_stands 41 = .ok (.iload_n 1, 1) := by decide +kernel
theorem dX12_stands_42 : decode cX12_stands 42 = .ok (.iadd, 1) := by decide +kernel
theorem dX12_stands_43 : decode cX12_stands 43 = .ok (.aload_n 0, 1) := by decide +kernel
theorem dX12_stands_44 : decode cX12_stands 44 = .ok (.getfield 108, 3) := by decide +kernel
theorem dX12_stands_47 : decode cX12_stands 47 = .ok (.iload_n 1, 1) := by decide +kernel
theorem dX12_stands_48 : decode cX12_stands 48 = .ok (.laload, 1) := by decide +kernel
theorem dX12_stands_49 : decode cX12_stands 49 = .ok (.lastore, 1) := by decide +kernel
theorem dX12_stands_50 : decode cX12_stands 50 = .ok (.aload_n 0, 1) := by decide +kernel
theorem dX12_stands_51 : decode cX12_stands 51 = .ok (.getfield 112, 3) := by decide +kernel
theorem dX12_stands_54 : decode cX12_stands 54 = .ok (.bipush 24, 2) := by decide +kernel
theorem dX12_stands_56 : decode cX12_stands 56 = .ok (.iload_n 1, 1) := by decide +kernel
theorem dX12_stands_57 : decode cX12_stands 57 = .ok (.iadd, 1) := by decide +kernel
theorem dX12_stands_58 : decode cX12_stands 58 = .ok (.aload_n 0, 1) := by decide +kernel
theorem dX12_stands_59 : decode cX12_stands 59 = .ok (.getfield 112, 3) := by decide +kernel
theorem dX12_stands_62 : decode cX12_stands 62 = .ok (.iload_n 1, 1) := by decide +kernel
theorem dX12_stands_63 : decode cX12_stands 63 = .ok (.iaload, 1) := by decide +kernel
theorem dX12_stands_64 : decode cX12_stands 64 = .ok (.iastore, 1) := by decide +kernel
theorem dX12_stands_65 : decode cX12_stands 65 = .ok (.iinc 1 1, 3) := by decide +kernel
theorem dX12_stands_68 : decode cX12_stands 68 = .ok (.goto (-39), 3) := by decide +kernel
theorem dX12_stands_71 : decode cX12_stands 71 = .ok (.iconst 0, 1) := by decide +kernel
theorem dX12_stands_72 : decode cX12_stands 72 = .ok (.istore_n 1, 1) := by decide +kernel
theorem dX12_stands_73 : decode cX12_stands 73 = .ok (.iload_n 1, 1) := by decide +kernel
theorem dX12_stands_74 : decode cX12_stands 74 = .ok (.iconst 4, 1) := by decide +kernel
theorem dX12_stands_75 : decode cX12_stands 75 = .ok (.if_icmp .ge 23, 3) := by decide +kernel
theorem dX12_stands_78 : decode cX12_stands 78 = .ok (.aload_n 0, 1) := by decide +kernel
theorem dX12_stands_79 : decode cX12_stands 79 = .ok (.getfield 115, 3) := by decide +kernel
theorem dX12_stands_82 : decode cX12_stands 82 = .ok (.iconst 4, 1) := by decide +kernel
theorem dX12_stands_83 : decode cX12_stands 83 = .ok (.iload_n 1, 1) := by decide +kernel
theorem dX12_stands_84 : decode cX12_stands 84 = .ok (.iadd, 1) := by decide +kernel
theorem dX12_stands_85 : decode cX12_stands 85 = .ok (.aload_n 0, 1) := by decide +kernel
theorem dX12_stands_86 : decode cX12_stands 86 = .ok (.getfield 115, 3) := by decide +kernel
theorem dX12_stands_89 : decode cX12_stands 89 = .ok (.iload_n 1, 1) := by decide +kernel
theorem dX12_stands_90 : decode cX12_stands 90 = .ok (.iaload, 1) := by decide +kernel
theorem dX12_stands_91 : decode cX12_stands 91 = .ok (.iastore, 1) := by decide +kernel
theorem dX12_stands_92 : decode cX12_stands 92 = .ok (.iinc 1 1, 3) := by decide +kernel
theorem dX12_stands_95 : decode cX12_stands 95 = .ok (.goto (-22), 3) := by decide +kernel
theorem dX12_stands_98 : decode cX12_stands 98 = .ok (.iconst 0, 1) := by decide +kernel
theorem dX12_stands_99 : decode cX12_stands 99 = .ok (.istore_n 1, 1) := by decide +kernel
theorem dX12_stands_100 : decode cX12_stands 100 = .ok (.iload_n 1, 1) := by decide +kernel
theorem dX12_stands_101 : decode cX12_stands 101 = .ok (.bipush 32, 2) := by decide +kernel
theorem dX12_stands_103 : decode cX12_stands 103 = .ok (.if_icmp .ge 24, 3) := by decide +kernel
theorem dX12_stands_106 : decode cX12_stands 106 = .ok (.aload_n 0, 1) := by decide +kernel
theorem dX12_stands_107 : decode cX12_stands 107 = .ok (.getfield 118, 3) := by decide +kernel
theorem dX12_stands_110 : decode cX12_stands 110 = .ok (.bipush 32, 2) := by decide +kernel
theorem dX12_stands_112 : decode cX12_stands 112 = .ok (.iload_n 1, 1) := by decide +kernel
theorem dX12_stands_113 : decode cX12_stands 113 = .ok (.iadd, 1) := by decide +kernel
theorem dX12_stands_114 : decode cX12_stands 114 = .ok (.aload_n 0, 1) := by decide +kernel
theorem dX12_stands_115 : decode cX12_stands 115 = .ok (.getfield 118, 3) := by decide +kernel
theorem dX12_stands_118 : decode cX12_stands 118 = .ok (.iload_n 1, 1) := by decide +kernel
theorem dX12_stands_119 : decode cX12_stands 119 = .ok (.iaload, 1) := by decide +kernel
theorem dX12_stands_120 : decode cX12_stands 120 = .ok (.iastore, 1) := by decide +kernel
theorem dX12_stands_121 : decode cX12_stands 121 = .ok (.iinc 1 1, 3) := by decide +kernel
theorem dX12_stands_124 : decode cX12_stands 124 = .ok (.goto (-24), 3) := by decide +kernel
theorem dX12_stands_127 : decode cX12_stands 127 = .ok (.iconst 0, 1) := by decide +kernel
theorem dX12_stands_128 : decode cX12_stands 128 = .ok (.istore_n 1, 1) := by decide +kernel
theorem dX12_stands_129 : decode cX12_stands 129 = .ok (.iload_n 1, 1) := by decide +kernel
theorem dX12_stands_130 : decode cX12_stands 130 = .ok (.bipush 8, 2) := by decide +kernel
theorem dX12_stands_132 : decode cX12_stands 132 = .ok (.if_icmp .ge 24, 3) := by decide +kernel
theorem dX12_stands_135 : decode cX12_stands 135 = .ok (.aload_n 0, 1) := by decide +kernel
theorem dX12_stands_136 : decode cX12_stands 136 = .ok (.getfield 121, 3) := by decide +kernel
theorem dX12_stands_139 : decode cX12_stands 139 = .ok (.bipush 8, 2) := by decide +kernel
theorem dX12_stands_141 : decode cX12_stands 141 = .ok (.iload_n 1, 1) := by decide +kernel
theorem dX12_stands_142 : decode cX12_stands 142 = .ok (.iadd, 1) := by decide +kernel
theorem dX12_stands_143 : decode cX12_stands 143 = .ok (.aload_n 0, 1) := by decide +kernel
theorem dX12_stands_144 : decode cX12_stands 144 = .ok (.getfield 121, 3) := by decide +kernel
theorem dX12_stands_147 : decode cX12_stands 147 = .ok (.iload_n 1, 1) := by decide +kernel
theorem dX12_stands_148 : decode cX12_stands 148 = .ok (.iaload, 1) := by decide +kernel
theorem dX12_stands_149 : decode cX12_stands 149 = .ok (.iastore, 1) := by decide +kernel
theorem dX12_stands_150 : decode cX12_stands 150 = .ok (.iinc 1 1, 3) := by decide +kernel
theorem dX12_stands_153 : decode cX12_stands 153 = .ok (.goto (-24), 3) := by decide +kernel
theorem dX12_stands_156 : decode cX12_stands 156 = .ok (.iconst 0, 1) := by decide +kernel
theorem dX12_stands_157 : decode cX12_stands 157 = .ok (.istore_n 1, 1) := by decide +kernel
theorem dX12_stands_158 : decode cX12_stands 158 = .ok (.iload_n 1, 1) := by decide +kernel
theorem dX12_stands_159 : decode cX12_stands 159 = .ok (.bipush 64, 2) := by decide +kernel
theorem dX12_stands_161 : decode cX12_stands 161 = .ok (.if_icmp .ge 24, 3) := by decide +kernel
theorem dX12_stands_164 : decode cX12_stands 164 = .ok (.aload_n 0, 1) := by decide +kernel
theorem dX12_stands_165 : decode cX12_stands 165 = .ok (.getfield 124, 3) := by decide +kernel
theorem dX12_stands_168 : decode cX12_stands 168 = .ok (.bipush 64, 2) := by decide +kernel
theorem dX12_stands_170 : decode cX12_stands 170 = .ok (.iload_n 1, 1) := by decide +kernel
theorem dX12_stands_171 : decode cX12_stands 171 = .ok (.iadd, 1) := by decide +kernel
theorem dX12_stands_172 : decode cX12_stands 172 = .ok (.aload_n 0, 1) := by decide +kernel
theorem dX12_stands_173 : decode cX12_stands 173 = .ok (.getfield 124, 3) := by decide +kernel
theorem dX12_stands_176 : decode cX12_stands 176 = .ok (.iload_n 1, 1) := by decide +kernel
theorem dX12_stands_177 : decode cX12_stands 177 = .ok (.iaload, 1) := by decide +kernel
theorem dX12_stands_178 : decode cX12_stands 178 = .ok (.iastore, 1) := by decide +kernel
theorem dX12_stands_179 : decode cX12_stands 179 = .ok (.iinc 1 1, 3) := by decide +kernel
theorem dX12_stands_182 : decode cX12_stands 182 = .ok (.goto (-24), 3) := by decide +kernel
theorem dX12_stands_185 : decode cX12_stands 185 = .ok (.iconst 0, 1) := by decide +kernel
theorem dX12_stands_186 : decode cX12_stands 186 = .ok (.istore_n 1, 1) := by decide +kernel
theorem dX12_stands_187 : decode cX12_stands 187 = .ok (.iload_n 1, 1) := by decide +kernel
theorem dX12_stands_188 : decode cX12_stands 188 = .ok (.bipush 9, 2) := by decide +kernel
theorem dX12_stands_190 : decode cX12_stands 190 = .ok (.if_icmp .ge 24, 3) := by decide +kernel
theorem dX12_stands_193 : decode cX12_stands 193 = .ok (.aload_n 0, 1) := by decide +kernel
theorem dX12_stands_194 : decode cX12_stands 194 = .ok (.getfield 127, 3) := by decide +kernel
theorem dX12_stands_197 : decode cX12_stands 197 = .ok (.bipush 9, 2) := by decide +kernel
theorem dX12_stands_199 : decode cX12_stands 199 = .ok (.iload_n 1, 1) := by decide +kernel
theorem dX12_stands_200 : decode cX12_stands 200 = .ok (.iadd, 1) := by decide +kernel
theorem dX12_stands_201 : decode cX12_stands 201 = .ok (.aload_n 0, 1) := by decide +kernel
theorem dX12_stands_202 : decode cX12_stands 202 = .ok (.getfield 127, 3) := by decide +kernel
theorem dX12_stands_205 : decode cX12_stands 205 = .ok (.iload_n 1, 1) := by decide +kernel
theorem dX12_stands_206 : decode cX12_stands 206 = .ok (.iaload, 1) := by decide +kernel
theorem dX12_stands_207 : decode cX12_stands 207 = .ok (.iastore, 1) := by decide +kernel
theorem dX12_stands_208 : decode cX12_stands 208 = .ok (.iinc 1 1, 3) := by decide +kernel
theorem dX12_stands_211 : decode cX12_stands 211 = .ok (.goto (-24), 3) := by decide +kernel
theorem dX12_stands_214 : decode cX12_stands 214 = .ok (.iconst 0, 1) := by decide +kernel
theorem dX12_stands_215 : decode cX12_stands 215 = .ok (.istore_n 1, 1) := by decide +kernel
theorem dX12_stands_216 : decode cX12_stands 216 = .ok (.iload_n 1, 1) := by decide +kernel
theorem dX12_stands_217 : decode cX12_stands 217 = .ok (.iconst 2, 1) := by decide +kernel
theorem dX12_stands_218 : decode cX12_stands 218 = .ok (.if_icmp .ge 51, 3) := by decide +kernel
theorem dX12_stands_221 : decode cX12_stands 221 = .ok (.aload_n 0, 1) := by decide +kernel
theorem dX12_stands_222 : decode cX12_stands 222 = .ok (.getfield 130, 3) := by decide +kernel
theorem dX12_stands_225 : decode cX12_stands 225 = .ok (.iconst 2, 1) := by decide +kernel
theorem dX12_stands_226 : decode cX12_stands 226 = .ok (.iload_n 1, 1) := by decide +kernel
theorem dX12_stands_227 : decode cX12_stands 227 = .ok (.iadd, 1) := by decide +kernel
theorem dX12_stands_228 : decode cX12_stands 228 = .ok (.aload_n 0, 1) := by decide +kernel
theorem dX12_stands_229 : decode cX12_stands 229 = .ok (.getfield 130, 3) := by decide +kernel
theorem dX12_stands_232 : decode cX12_stands 232 = .ok (.iload_n 1, 1) := by decide +kernel
theorem dX12_stands_233 : decode cX12_stands 233 = .ok (.iaload, 1) := by decide +kernel
theorem dX12_stands_234 : decode cX12_stands 234 = .ok (.iastore, 1) := by decide +kernel
theorem dX12_stands_235 : decode cX12_stands 235 = .ok (.aload_n 0, 1) := by decide +kernel
theorem dX12_stands_236 : decode cX12_stands 236 = .ok (.getfield 133, 3) := by decide +kernel
theorem dX12_stands_239 : decode cX12_stands 239 = .ok (.iconst 2, 1) := by decide +kernel
theorem dX12_stands_240 : decode cX12_stands 240 = .ok (.iload_n 1, 1) := by decide +kernel
theorem dX12_stands_241 : decode cX12_stands 241 = .ok (.iadd, 1) := by decide +kernel
theorem dX12_stands_242 : decode cX12_stands 242 = .ok (.aload_n 0, 1) := by decide +kernel
theorem dX12_stands_243 : decode cX12_stands 243 = .ok (.getfield 133, 3) := by decide +kernel
theorem dX12_stands_246 : decode cX12_stands 246 = .ok (.iload_n 1, 1) := by decide +kernel
theorem dX12_stands_247 : decode cX12_stands 247 = .ok (.iaload, 1) := by decide +kernel
theorem dX12_stands_248 : decode cX12_stands 248 = .ok (.iastore, 1) := by decide +kernel
theorem dX12_stands_249 : decode cX12_stands 249 = .ok (.aload_n 0, 1) := by decide +kernel
theorem dX12_stands_250 : decode cX12_stands 250 = .ok (.getfield 136, 3) := by decide +kernel
theorem dX12_stands_253 : decode cX12_stands 253 = .ok (.iconst 2, 1) := by decide +kernel
theorem dX12_stands_254 : decode cX12_stands 254 = .ok (.iload_n 1, 1) := by decide +kernel
theorem dX12_stands_255 : decode cX12_stands 255 = .ok (.iadd, 1) := by decide +kernel
theorem dX12_stands_256 : decode cX12_stands 256 = .ok (.aload_n 0, 1) := by decide +kernel
theorem dX12_stands_257 : decode cX12_stands 257 = .ok (.getfield 136, 3) := by decide +kernel
theorem dX12_stands_260 : decode cX12_stands 260 = .ok (.iload_n 1, 1) := by decide +kernel
theorem dX12_stands_261 : decode cX12_stands 261 = .ok (.iaload, 1) := by decide +kernel
theorem dX12_stands_262 : decode cX12_stands 262 = .ok (.iastore, 1) := by decide +kernel
theorem dX12_stands_263 : decode cX12_stands 263 = .ok (.iinc 1 1, 3) := by decide +kernel
theorem dX12_stands_266 : decode cX12_stands 266 = .ok (.goto (-50), 3) := by decide +kernel
theorem dX12_stands_269 : decode cX12_stands 269 = .ok (.iconst 0, 1) := by decide +kernel
theorem dX12_stands_270 : decode cX12_stands 270 = .ok (.istore_n 1, 1) := by decide +kernel
theorem dX12_stands_271 : decode cX12_stands 271 = .ok (.iload_n 1, 1) := by decide +kernel
theorem dX12_stands_272 : decode cX12_stands 272 = .ok (.aload_n 0, 1) := by decide +kernel
theorem dX12_stands_273 : decode cX12_stands 273 = .ok (.getfield 367, 3) := by decide +kernel
theorem dX12_stands_276 : decode cX12_stands 276 = .ok (.if_icmp .ge 25, 3) := by decide +kernel
theorem dX12_stands_279 : decode cX12_stands 279 = .ok (.aload_n 0, 1) := by decide +kernel
theorem dX12_stands_280 : decode cX12_stands 280 = .ok (.getfield 139, 3) := by decide +kernel
theorem dX12_stands_283 : decode cX12_stands 283 = .ok (.sipush 1600, 3) := by decide +kernel
theorem dX12_stands_286 : decode cX12_stands 286 = .ok (.iload_n 1, 1) := by decide +kernel
theorem dX12_stands_287 : decode cX12_stands 287 = .ok (.iadd, 1) := by decide +kernel
theorem dX12_stands_288 : decode cX12_stands 288 = .ok (.aload_n 0, 1) := by decide +kernel
theorem dX12_stands_289 : decode cX12_stands 289 = .ok (.getfield 139, 3) := by decide +kernel
theorem dX12_stands_292 : decode cX12_stands 292 = .ok (.iload_n 1, 1) := by decide +kernel
theorem dX12_stands_293 : decode cX12_stands 293 = .ok (.iaload, 1) := by decide +kernel
theorem dX12_stands_294 : decode cX12_stands 294 = .ok (.iastore, 1) := by decide +kernel
theorem dX12_stands_295 : decode cX12_stands 295 = .ok (.iinc 1 1, 3) := by decide +kernel
theorem dX12_stands_298 : decode cX12_stands 298 = .ok (.goto (-27), 3) := by decide +kernel
theorem dX12_stands_301 : decode cX12_stands 301 = .ok (.iconst 0, 1) := by decide +kernel
theorem dX12_stands_302 : decode cX12_stands 302 = .ok (.istore_n 1, 1) := by decide +kernel
theorem dX12_stands_303 : decode cX12_stands 303 = .ok (.iload_n 1, 1) := by decide +kernel
theorem dX12_stands_304 : decode cX12_stands 304 = .ok (.bipush 32, 2) := by decide +kernel
theorem dX12_stands_306 : decode cX12_stands 306 = .ok (.if_icmp .ge 16, 3) := by decide +kernel
theorem dX12_stands_309 : decode cX12_stands 309 = .ok (.aload_n 0, 1) := by decide +kernel
theorem dX12_stands_310 : decode cX12_stands 310 = .ok (.getfield 142, 3) := by decide +kernel
theorem dX12_stands_313 : decode cX12_stands 313 = .ok (.iload_n 1, 1) := by decide +kernel
theorem dX12_stands_314 : decode cX12_stands 314 = .ok (.iconst 0, 1) := by decide +kernel
theorem dX12_stands_315 : decode cX12_stands 315 = .ok (.iastore, 1) := by decide +kernel
theorem dX12_stands_316 : decode cX12_stands 316 = .ok (.iinc 1 1, 3) := by decide +kernel
theorem dX12_stands_319 : decode cX12_stands 319 = .ok (.goto (-16), 3) := by decide +kernel
theorem dX12_stands_322 : decode cX12_stands 322 = .ok (.aload_n 0, 1) := by decide +kernel
theorem dX12_stands_323 : decode cX12_stands 323 = .ok (.invokevirtual 407, 3) := by decide +kernel
theorem dX12_stands_326 : decode cX12_stands 326 = .ok (.iconst 0, 1) := by decide +kernel
theorem dX12_stands_327 : decode cX12_stands 327 = .ok (.istore_n 1, 1) := by decide +kernel
theorem dX12_stands_328 : decode cX12_stands 328 = .ok (.iload_n 1, 1) := by decide +kernel
theorem dX12_stands_329 : decode cX12_stands 329 = .ok (.aload_n 0, 1) := by decide +kernel
theorem dX12_stands_330 : decode cX12_stands 330 = .ok (.invokevirtual 410, 3) := by decide +kernel
theorem dX12_stands_333 : decode cX12_stands 333 = .ok (.if_icmp .ge 25, 3) := by decide +kernel
theorem dX12_stands_336 : decode cX12_stands 336 = .ok (.aload_n 0, 1) := by decide +kernel
theorem dX12_stands_337 : decode cX12_stands 337 = .ok (.getfield 142, 3) := by decide +kernel
theorem dX12_stands_340 : decode cX12_stands 340 = .ok (.iconst 4, 1) := by decide +kernel
theorem dX12_stands_341 : decode cX12_stands 341 = .ok (.iload_n 1, 1) := by decide +kernel
theorem dX12_stands_342 : decode cX12_stands 342 = .ok (.iadd, 1) := by decide +kernel
theorem dX12_stands_343 : decode cX12_stands 343 = .ok (.aload_n 0, 1) := by decide +kernel
theorem dX12_stands_344 : decode cX12_stands 344 = .ok (.getfield 115, 3) := by decide +kernel
theorem dX12_stands_347 : decode cX12_stands 347 = .ok (.iconst 4, 1) := by decide +kernel
theorem dX12_stands_348 : decode cX12_stands 348 = .ok (.iload_n 1, 1) := by decide +kernel
theorem dX12_stands_349 : decode cX12_stands 349 = .ok (.iadd, 1) := by decide +kernel
theorem dX12_stands_350 : decode cX12_stands 350 = .ok (.iaload, 1) := by decide +kernel
theorem dX12_stands_351 : decode cX12_stands 351 = .ok (.iastore, 1) := by decide +kernel
theorem dX12_stands_352 : decode cX12_stands 352 = .ok (.iinc 1 1, 3) := by decide +kernel
theorem dX12_stands_355 : decode cX12_stands 355 = .ok (.goto (-27), 3) := by decide +kernel
theorem dX12_stands_358 : decode cX12_stands 358 = .ok (.aload_n 0, 1) := by decide +kernel
theorem dX12_stands_359 : decode cX12_stands 359 = .ok (.iconst 0, 1) := by decide +kernel
theorem dX12_stands_360 : decode cX12_stands 360 = .ok (.putfield 413, 3) := by decide +kernel
theorem dX12_stands_363 : decode cX12_stands 363 = .ok (.aload_n 0, 1) := by decide +kernel
theorem dX12_stands_364 : decode cX12_stands 364 = .ok (.iconst 0, 1) := by decide +kernel
theorem dX12_stands_365 : decode cX12_stands 365 = .ok (.putfield 416, 3) := by decide +kernel
theorem dX12_stands_368 : decode cX12_stands 368 = .ok (.return_, 1) := by decide +kernel
