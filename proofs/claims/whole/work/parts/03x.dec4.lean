theorem dX12_seed_0 : decode cX12_seed 0 = .ok (.iload_n 1, 1) := by decide +kernel
theorem dX12_seed_1 : decode cX12_seed 1 = .ok (.ifCond .ge 15, 3) := by decide +kernel
theorem dX12_seed_4 : decode cX12_seed 4 = .ok (.aload_n 0, 1) := by decide +kernel
theorem dX12_seed_5 : decode cX12_seed 5 = .ok (.getfield 17, 3) := by decide +kernel
theorem dX12_seed_8 : decode cX12_seed 8 = .ok (.iconst 5, 1) := by decide +kernel
theorem dX12_seed_9 : decode cX12_seed 9 = .ok (.dup2, 1) := by decide +kernel
theorem dX12_seed_10 : decode cX12_seed 10 = .ok (.iaload, 1) := by decide +kernel
theorem dX12_seed_11 : decode cX12_seed 11 = .ok (.iconst 1, 1) := by decide +kernel
theorem dX12_seed_12 : decode cX12_seed 12 = .ok (.iadd, 1) := by decide +kernel
theorem dX12_seed_13 : decode cX12_seed 13 = .ok (.iastore, 1) := by decide +kernel
theorem dX12_seed_14 : decode cX12_seed 14 = .ok (.iconst 0, 1) := by decide +kernel
theorem dX12_seed_15 : decode cX12_seed 15 = .ok (.ireturn, 1) := by decide +kernel
theorem dX12_seed_16 : decode cX12_seed 16 = .ok (.aload_n 0, 1) := by decide +kernel
theorem dX12_seed_17 : decode cX12_seed 17 = .ok (.iload_n 1, 1) := by decide +kernel
theorem dX12_seed_18 : decode cX12_seed 18 = .ok (.i2l, 1) := by decide +kernel
theorem dX12_seed_19 : decode cX12_seed 19 = .ok (.putfield 175, 3) := by decide +kernel
theorem dX12_seed_22 : decode cX12_seed 22 = .ok (.iconst 1, 1) := by decide +kernel
theorem dX12_seed_23 : decode cX12_seed 23 = .ok (.ireturn, 1) := by decide +kernel
theorem dX12_sharedIn_0 : decode cX12_sharedIn 0 = .ok (.iconst 0, 1) := by decide +kernel
theorem dX12_sharedIn_1 : decode cX12_sharedIn 1 = .ok (.istore_n 1, 1) := by decide +kernel
theorem dX12_sharedIn_2 : decode cX12_sharedIn 2 = .ok (.iconst 0, 1) := by decide +kernel
theorem dX12_sharedIn_3 : decode cX12_sharedIn 3 = .ok (.istore_n 2, 1) := by decide +kernel
theorem dX12_sharedIn_4 : decode cX12_sharedIn 4 = .ok (.iload_n 2, 1) := by decide +kernel
theorem dX12_sharedIn_5 : decode cX12_sharedIn 5 = .ok (.aload_n 0, 1) := by decide +kernel
theorem dX12_sharedIn_6 : decode cX12_sharedIn 6 = .ok (.invokevirtual 419, 3) := by decide +kernel
theorem dX12_sharedIn_9 : decode cX12_sharedIn 9 = .ok (.if_icmp .ge 46, 3) := by decide +kernel
theorem dX12_sharedIn_12 : decode cX12_sharedIn 12 = .ok (.aload_n 0, 1) := by decide +kernel
theorem dX12_sharedIn_13 : decode cX12_sharedIn 13 = .ok (.getfield 148, 3) := by decide +kernel
theorem dX12_sharedIn_16 : decode cX12_sharedIn 16 = .ok (.iload_n 2, 1) := by decide +kernel
theorem dX12_sharedIn_17 : decode cX12_sharedIn 17 = .ok (.iaload, 1) := by decide +kernel
theorem dX12_sharedIn_18 : decode cX12_sharedIn 18 = .ok (.ifCond .le 31, 3) := by decide +kernel
theorem dX12_sharedIn_21 : decode cX12_sharedIn 21 = .ok (.iload_n 1, 1) := by decide +kernel
theorem dX12_sharedIn_22 : decode cX12_sharedIn 22 = .ok (.aload_n 0, 1) := by decide +kernel
theorem dX12_sharedIn_23 : decode cX12_sharedIn 23 = .ok (.getfield 112, 3) := by decide +kernel
theorem dX12_sharedIn_26 : decode cX12_sharedIn 26 = .ok (.bipush 25, 2) := by decide +kernel
theorem dX12_sharedIn_28 : decode cX12_sharedIn 28 = .ok (.iconst 3, 1) := by decide +kernel
theorem dX12_sharedIn_29 : decode cX12_sharedIn 29 = .ok (.iload_n 2, 1) := by decide +kernel
theorem dX12_sharedIn_30 : decode cX12_sharedIn 30 = .ok (.imul, 1) := by decide +kernel
theorem dX12_sharedIn_31 : decode cX12_sharedIn 31 = .ok (.iadd, 1) := by decide +kernel
theorem dX12_sharedIn_32 : decode cX12_sharedIn 32 = .ok (.iaload, 1) := by decide +kernel
theorem dX12_sharedIn_33 : decode cX12_sharedIn 33 = .ok (.aload_n 0, 1) := by decide +kernel
theorem dX12_sharedIn_34 : decode cX12_sharedIn 34 = .ok (.iload_n 2, 1) := by decide +kernel
theorem dX12_sharedIn_35 : decode cX12_sharedIn 35 = .ok (.aload_n 0, 1) := by decide +kernel
theorem dX12_sharedIn_36 : decode cX12_sharedIn 36 = .ok (.getfield 148, 3) := by decide +kernel
theorem dX12_sharedIn_39 : decode cX12_sharedIn 39 = .ok (.iload_n 2, 1) := by decide +kernel
theorem dX12_sharedIn_40 : decode cX12_sharedIn 40 = .ok (.iaload, 1) := by decide +kernel
theorem dX12_sharedIn_41 : decode cX12_sharedIn 41 = .ok (.iconst 1, 1) := by decide +kernel
theorem dX12_sharedIn_42 : decode cX12_sharedIn 42 = .ok (.isub, 1) := by decide +kernel
theorem dX12_sharedIn_43 : decode cX12_sharedIn 43 = .ok (.invokevirtual 425, 3) := by decide +kernel
theorem dX12_sharedIn_46 : decode cX12_sharedIn 46 = .ok (.imul, 1) := by decide +kernel
theorem dX12_sharedIn_47 : decode cX12_sharedIn 47 = .ok (.iadd, 1) := by decide +kernel
theorem dX12_sharedIn_48 : decode cX12_sharedIn 48 = .ok (.istore_n 1, 1) := by decide +kernel
theorem dX12_sharedIn_49 : decode cX12_sharedIn 49 = .ok (.iinc 2 1, 3) := by decide +kernel
theorem dX12_sharedIn_52 : decode cX12_sharedIn 52 = .ok (.goto (-48), 3) := by decide +kernel
theorem dX12_sharedIn_55 : decode cX12_sharedIn 55 = .ok (.iload_n 1, 1) := by decide +kernel
theorem dX12_sharedIn_56 : decode cX12_sharedIn 56 = .ok (.ireturn, 1) := by decide +kernel
theorem dX12_warmOf_0 : decode cX12_warmOf 0 = .ok (.aload_n 0, 1) := by decide +kernel
theorem dX12_warmOf_1 : decode cX12_warmOf 1 = .ok (.getfield 133, 3) := by decide +kernel
theorem dX12_warmOf_4 : decode cX12_warmOf 4 = .ok (.iconst 3, 1) := by decide +kernel
theorem dX12_warmOf_5 : decode cX12_warmOf 5 = .ok (.iaload, 1) := by decide +kernel
theorem dX12_warmOf_6 : decode cX12_warmOf 6 = .ok (.iconst (-1), 1) := by decide +kernel
theorem dX12_warmOf_7 : decode cX12_warmOf 7 = .ok (.if_icmp .ne 18, 3) := by decide +kernel
theorem dX12_warmOf_10 : decode cX12_warmOf 10 = .ok (.aload_n 0, 1) := by decide +kernel
theorem dX12_warmOf_11 : decode cX12_warmOf 11 = .ok (.getfield 127, 3) := by decide +kernel
theorem dX12_warmOf_14 : decode cX12_warmOf 14 = .ok (.bipush 10, 2) := by decide +kernel
theorem dX12_warmOf_16 : decode cX12_warmOf 16 = .ok (.iconst 3, 1) := by decide +kernel
theorem dX12_warmOf_17 : decode cX12_warmOf 17 = .ok (.iload_n 2, 1) := by decide +kernel
theorem dX12_warmOf_18 : decode cX12_warmOf 18 = .ok (.imul, 1) := by decide +kernel
theorem dX12_warmOf_19 : decode cX12_warmOf 19 = .ok (.iadd, 1) := by decide +kernel
theorem dX12_warmOf_20 : decode cX12_warmOf 20 = .ok (.iaload, 1) := by decide +kernel
theorem dX12_warmOf_21 : decode cX12_warmOf 21 = .ok (.i2l, 1) := by decide +kernel
theorem dX12_warmOf_22 : decode cX12_warmOf 22 = .ok (.goto 10, 3) := by decide +kernel
theorem dX12_warmOf_25 : decode cX12_warmOf 25 = .ok (.aload_n 0, 1) := by decide +kernel
theorem dX12_warmOf_26 : decode cX12_warmOf 26 = .ok (.iconst 1, 1) := by decide +kernel
theorem dX12_warmOf_27 : decode cX12_warmOf 27 = .ok (.iload_n 1, 1) := by decide +kernel
theorem dX12_warmOf_28 : decode cX12_warmOf 28 = .ok (.iload_n 2, 1) := by decide +kernel
theorem dX12_warmOf_29 : decode cX12_warmOf 29 = .ok (.invokevirtual 445, 3) := by decide +kernel
theorem dX12_warmOf_32 : decode cX12_warmOf 32 = .ok (.lreturn, 1) := by decide +kernel
theorem dX12_heap_0 : decode cX12_heap 0 = .ok (.aload_n 0, 1) := by decide +kernel
theorem dX12_heap_1 : decode cX12_heap 1 = .ok (.aload_n 0, 1) := by decide +kernel
theorem dX12_heap_2 : decode cX12_heap 2 = .ok (.getfield 260, 3) := by decide +kernel
theorem dX12_heap_5 : decode cX12_heap 5 = .ok (.putfield 272, 3) := by decide +kernel
theorem dX12_heap_8 : decode cX12_heap 8 = .ok (.aload_n 0, 1) := by decide +kernel
theorem dX12_heap_9 : decode cX12_heap 9 = .ok (.iconst 0, 1) := by decide +kernel
theorem dX12_heap_10 : decode cX12_heap 10 = .ok (.putfield 260, 3) := by decide +kernel
theorem dX12_heap_13 : decode cX12_heap 13 = .ok (.aload_n 0, 1) := by decide +kernel
theorem dX12_heap_14 : decode cX12_heap 14 = .ok (.iconst 0, 1) := by decide +kernel
theorem dX12_heap_15 : decode cX12_heap 15 = .ok (.putfield 269, 3) := by decide +kernel
theorem dX12_heap_18 : decode cX12_heap 18 = .ok (.aload_n 0, 1) := by decide +kernel
theorem dX12_heap_19 : decode cX12_heap 19 = .ok (.iconst (-1), 1) := by decide +kernel
theorem dX12_heap_20 : decode cX12_heap 20 = .ok (.putfield 283, 3) := by decide +kernel
theorem dX12_heap_23 : decode cX12_heap 23 = .ok (.aload_n 0, 1) := by decide +kernel
theorem dX12_heap_24 : decode cX12_heap 24 = .ok (.iconst 0, 1) := by decide +kernel
theorem dX12_heap_25 : decode cX12_heap 25 = .ok (.putfield 263, 3) := by decide +kernel
theorem dX12_heap_28 : decode cX12_heap 28 = .ok (.aload_n 0, 1) := by decide +kernel
theorem dX12_heap_29 : decode cX12_heap 29 = .ok (.iconst (-1), 1) := by decide +kernel
theorem dX12_heap_30 : decode cX12_heap 30 = .ok (.putfield 266, 3) := by decide +kernel
theorem dX12_heap_33 : decode cX12_heap 33 = .ok (.aload_n 0, 1) := by decide +kernel
theorem dX12_heap_34 : decode cX12_heap 34 = .ok (.iconst 0, 1) := by decide +kernel
theorem dX12_heap_35 : decode cX12_heap 35 = .ok (.putfield 370, 3) := by decide +kernel
theorem dX12_heap_38 : decode cX12_heap 38 = .ok (.aload_n 0, 1) := by decide +kernel
theorem dX12_heap_39 : decode cX12_heap 39 = .ok (.iconst 0, 1) := by decide +kernel
theorem dX12_heap_40 : decode cX12_heap 40 = .ok (.putfield 367, 3) := by decide +kernel
theorem dX12_heap_43 : decode cX12_heap 43 = .ok (.iconst 0, 1) := by decide +kernel
theorem dX12_heap_44 : decode cX12_heap 44 = .ok (.istore_n 1, 1) := by decide +kernel
theorem dX12_heap_45 : decode cX12_heap 45 = .ok (.iload_n 1, 1) := by decide +kernel
theorem dX12_heap_46 : decode cX12_heap 46 = .ok (.iconst 5, 1) := by decide +kernel
theorem dX12_heap_47 : decode cX12_heap 47 = .ok (.if_icmp .ge 16, 3) := by decide +kernel
theorem dX12_heap_50 : decode cX12_heap 50 = .ok (.aload_n 0, 1) := by decide +kernel
theorem dX12_heap_51 : decode cX12_heap 51 = .ok (.getfield 105, 3) := by decide +kernel
theorem dX12_heap_54 : decode cX12_heap 54 = .ok (.iload_n 1, 1) := by decide +kernel
theorem dX12_heap_55 : decode cX12_heap 55 = .ok (.iconst 0, 1) := by decide +kernel
theorem dX12_heap_56 : decode cX12_heap 56 = .ok (.iastore, 1) := by decide +kernel
theorem dX12_heap_57 : decode cX12_heap 57 = .ok (.iinc 1 1, 3) := by decide +kernel
theorem dX12_heap_60 : decode cX12_heap 60 = .ok (.goto (-15), 3) := by decide +kernel
theorem dX12_heap_63 : decode cX12_heap 63 = .ok (.iconst 0, 1) := by decide +kernel
theorem dX12_heap_64 : decode cX12_heap 64 = .ok (.istore_n 1, 1) := by decide +kernel
theorem dX12_heap_65 : decode cX12_heap 65 = .ok (.iload_n 1, 1) := by decide +kernel
theorem dX12_heap_66 : decode cX12_heap 66 = .ok (.bipush 32, 2) := by decide +kernel
theorem dX12_heap_68 : decode cX12_heap 68 = .ok (.if_icmp .ge 16, 3) := by decide +kernel
theorem dX12_heap_71 : decode cX12_heap 71 = .ok (.aload_n 0, 1) := by decide +kernel
theorem dX12_heap_72 : decode cX12_heap 72 = .ok (.getfield 118, 3) := by decide +kernel
theorem dX12_heap_75 : decode cX12_heap 75 = .ok (.iload_n 1, 1) := by decide +kernel
theorem dX12_heap_76 : decode cX12_heap 76 = .ok (.iconst 0, 1) := by decide +kernel
theorem dX12_heap_77 : decode cX12_heap 77 = .ok (.iastore, 1) := by decide +kernel
theorem dX12_heap_78 : decode cX12_heap 78 = .ok (.iinc 1 1, 3) := by decide +kernel
theorem dX12_heap_81 : decode cX12_heap 81 = .ok (.goto (-16), 3) := by decide +kernel
theorem dX12_heap_84 : decode cX12_heap 84 = .ok (.iconst 0, 1) := by decide +kernel
theorem dX12_heap_85 : decode cX12_heap 85 = .ok (.istore_n 1, 1) := by decide +kernel
theorem dX12_heap_86 : decode cX12_heap 86 = .ok (.iload_n 1, 1) := by decide +kernel
theorem dX12_heap_87 : decode cX12_heap 87 = .ok (.bipush 8, 2) := by decide +kernel
theorem dX12_heap_89 : decode cX12_heap 89 = .ok (.if_icmp .ge 16, 3) := by decide +kernel
theorem dX12_heap_92 : decode cX12_heap 92 = .ok (.aload_n 0, 1) := by decide +kernel
theorem dX12_heap_93 : decode cX12_heap 93 = .ok (.getfield 121, 3) := by decide +kernel
theorem dX12_heap_96 : decode cX12_heap 96 = .ok (.iload_n 1, 1) := by decide +kernel
theorem dX12_heap_97 : decode cX12_heap 97 = .ok (.iconst 0, 1) := by decide +kernel
theorem dX12_heap_98 : decode cX12_heap 98 = .ok (.iastore, 1) := by decide +kernel
theorem dX12_heap_99 : decode cX12_heap 99 = .ok (.iinc 1 1, 3) := by decide +kernel
theorem dX12_heap_102 : decode cX12_heap 102 = .ok (.goto (-16), 3) := by decide +kernel
theorem dX12_heap_105 : decode cX12_heap 105 = .ok (.iconst 0, 1) := by decide +kernel
theorem dX12_heap_106 : decode cX12_heap 106 = .ok (.istore_n 1, 1) := by decide +kernel
theorem dX12_heap_107 : decode cX12_heap 107 = .ok (.iload_n 1, 1) := by decide +kernel
theorem dX12_heap_108 : decode cX12_heap 108 = .ok (.bipush 64, 2) := by decide +kernel
theorem dX12_heap_110 : decode cX12_heap 110 = .ok (.if_icmp .ge 16, 3) := by decide +kernel
theorem dX12_heap_113 : decode cX12_heap 113 = .ok (.aload_n 0, 1) := by decide +kernel
theorem dX12_heap_114 : decode cX12_heap 114 = .ok (.getfield 124, 3) := by decide +kernel
theorem dX12_heap_117 : decode cX12_heap 117 = .ok (.iload_n 1, 1) := by decide +kernel
theorem dX12_heap_118 : decode cX12_heap 118 = .ok (.iconst 0, 1) := by decide +kernel
theorem dX12_heap_119 : decode cX12_heap 119 = .ok (.iastore, 1) := by decide +kernel
theorem dX12_heap_120 : decode cX12_heap 120 = .ok (.iinc 1 1, 3) := by decide +kernel
theorem dX12_heap_123 : decode cX12_heap 123 = .ok (.goto (-16), 3) := by decide +kernel
theorem dX12_heap_126 : decode cX12_heap 126 = .ok (.aload_n 0, 1) := by decide +kernel
theorem dX12_heap_127 : decode cX12_heap 127 = .ok (.getfield 133, 3) := by decide +kernel
theorem dX12_heap_130 : decode cX12_heap 130 = .ok (.iconst 0, 1) := by decide +kernel
theorem dX12_heap_131 : decode cX12_heap 131 = .ok (.iconst (-1), 1) := by decide +kernel
theorem dX12_heap_132 : decode cX12_heap 132 = .ok (.iastore, 1) := by decide +kernel
theorem dX12_heap_133 : decode cX12_heap 133 = .ok (.aload_n 0, 1) := by decide +kernel
theorem dX12_heap_134 : decode cX12_heap 134 = .ok (.getfield 133, 3) := by decide +kernel
theorem dX12_heap_137 : decode cX12_heap 137 = .ok (.iconst 1, 1) := by decide +kernel
theorem dX12_heap_138 : decode cX12_heap 138 = .ok (.iconst (-1), 1) := by decide +kernel
theorem dX12_heap_139 : decode cX12_heap 139 = .ok (.iastore, 1) := by decide +kernel
theorem dX12_heap_140 : decode cX12_heap 140 = .ok (.aload_n 0, 1) := by decide +kernel
theorem dX12_heap_141 : decode cX12_heap 141 = .ok (.getfield 130, 3) := by decide +kernel
theorem dX12_heap_144 : decode cX12_heap 144 = .ok (.iconst 0, 1) := by decide +kernel
theorem dX12_heap_145 : decode cX12_heap 145 = .ok (.iconst 3, 1) := by decide +kernel
theorem dX12_heap_146 : decode cX12_heap 146 = .ok (.iastore, 1) := by decide +kernel
theorem dX12_heap_147 : decode cX12_heap 147 = .ok (.aload_n 0, 1) := by decide +kernel
theorem dX12_heap_148 : decode cX12_heap 148 = .ok (.getfield 130, 3) := by decide +kernel
theorem dX12_heap_151 : decode cX12_heap 151 = .ok (.iconst 1, 1) := by decide +kernel
theorem dX12_heap_152 : decode cX12_heap 152 = .ok (.iconst 0, 1) := by decide +kernel
theorem dX12_heap_153 : decode cX12_heap 153 = .ok (.iastore, 1) := by decide +kernel
theorem dX12_heap_154 : decode cX12_heap 154 = .ok (.aload_n 0, 1) := by decide +kernel
theorem dX12_heap_155 : decode cX12_heap 155 = .ok (.getfield 263, 3) := by decide +kernel
theorem dX12_heap_158 : decode cX12_heap 158 = .ok (.ifCond .ne 18, 3) := by decide +kernel
theorem dX12_heap_161 : decode cX12_heap 161 = .ok (.aload_n 0, 1) := by decide +kernel
theorem dX12_heap_162 : decode cX12_heap 162 = .ok (.invokevirtual 275, 3) := by decide +kernel
theorem dX12_heap_165 : decode cX12_heap 165 = .ok (.iconst (-1), 1) := by decide +kernel
theorem dX12_heap_166 : decode cX12_heap 166 = .ok (.if_icmp .eq 10, 3) := by decide +kernel
theorem dX12_heap_169 : decode cX12_heap 169 = .ok (.aload_n 0, 1) := by decide +kernel
theorem dX12_heap_170 : decode cX12_heap 170 = .ok (.invokevirtual 398, 3) := by decide +kernel
theorem dX12_heap_173 : decode cX12_heap 173 = .ok (.goto (-19), 3) := by decide +kernel
theorem dX12_heap_176 : decode cX12_heap 176 = .ok (.aload_n 0, 1) := by decide +kernel
theorem dX12_heap_177 : decode cX12_heap 177 = .ok (.aload_n 0, 1) := by decide +kernel
theorem dX12_heap_178 : decode cX12_heap 178 = .ok (.getfield 263, 3) := by decide +kernel
theorem dX12_heap_181 : decode cX12_heap 181 = .ok (.putfield 401, 3) := by decide +kernel
theorem dX12_heap_184 : decode cX12_heap 184 = .ok (.aload_n 0, 1) := by decide +kernel
theorem dX12_heap_185 : decode cX12_heap 185 = .ok (.aload_n 0, 1) := by decide +kernel
theorem dX12_heap_186 : decode cX12_heap 186 = .ok (.getfield 266, 3) := by decide +kernel
theorem dX12_heap_189 : decode cX12_heap 189 = .ok (.putfield 13, 3) := by decide +kernel
theorem dX12_heap_192 : decode cX12_heap 192 = .ok (.aload_n 0, 1) := by decide +kernel
theorem dX12_heap_193 : decode cX12_heap 193 = .ok (.getfield 263, 3) := by decide +kernel
theorem dX12_heap_196 : decode cX12_heap 196 = .ok (.ifCond .eq 15, 3) := by decide +kernel
theorem dX12_heap_199 : decode cX12_heap 199 = .ok (.aload_n 0, 1) := by decide +kernel
theorem dX12_heap_200 : decode cX12_heap 200 = .ok (.getfield 17, 3) := by decide +kernel
theorem dX12_heap_203 : decode cX12_heap 203 = .ok (.iconst 1, 1) := by decide +kernel
theorem dX12_heap_204 : decode cX12_heap 204 = .ok (.dup2, 1) := by decide +kernel
theorem dX12_heap_205 : decode cX12_heap 205 = .ok (.iaload, 1) := by decide +kernel
theorem dX12_heap_206 : decode cX12_heap 206 = .ok (.iconst 1, 1) := by decide +kernel
theorem dX12_heap_207 : decode cX12_heap 207 = .ok (.iadd, 1) := by decide +kernel
theorem dX12_heap_208 : decode cX12_heap 208 = .ok (.iastore, 1) := by decide +kernel
theorem dX12_heap_209 : decode cX12_heap 209 = .ok (.iconst (-1), 1) := by decide +kernel
theorem dX12_heap_210 : decode cX12_heap 210 = .ok (.ireturn, 1) := by decide +kernel
theorem dX12_heap_211 : decode cX12_heap 211 = .ok (.aload_n 0, 1) := by decide +kernel
theorem dX12_heap_212 : decode cX12_heap 212 = .ok (.invokevirtual 404, 3) := by decide +kernel
theorem dX12_heap_215 : decode cX12_heap 215 = .ok (.aload_n 0, 1) := by decide +kernel
theorem dX12_heap_216 : decode cX12_heap 216 = .ok (.getfield 370, 3) := by decide +kernel
theorem dX12_heap_219 : decode cX12_heap 219 = .ok (.ireturn, 1) := by decide +kernel
theorem dX12_takesSign_0 : decode cX12_takesSign 0 = .ok (.aload_n 0, 1) := by decide +kernel
theorem dX12_takesSign_1 : decode cX12_takesSign 1 = .ok (.getfield 263, 3) := by decide +kernel
theorem dX12_takesSign_4 : decode cX12_takesSign 4 = .ok (.ifCond .ne 11, 3) := by decide +kernel
theorem dX12_takesSign_7 : decode cX12_takesSign 7 = .ok (.aload_n 0, 1) := by decide +kernel
theorem dX12_takesSign_8 : decode cX12_takesSign 8 = .ok (.invokevirtual 275, 3) := by decide +kernel
theorem dX12_takesSign_11 : decode cX12_takesSign 11 = .ok (.iload_n 1, 1) := by decide +kernel
theorem dX12_takesSign_12 : decode cX12_takesSign 12 = .ok (.if_icmp .eq 5, 3) := by decide +kernel
theorem dX12_takesSign_15 : decode cX12_takesSign 15 = .ok (.iconst 0, 1) := by decide +kernel
theorem dX12_takesSign_16 : decode cX12_takesSign 16 = .ok (.ireturn, 1) := by decide +kernel
theorem dX12_takesSign_17 : decode cX12_takesSign 17 = .ok (.aload_n 0, 1) := by decide +kernel
theorem dX12_takesSign_18 : decode cX12_takesSign 18 = .ok (.dup, 1) := by decide +kernel
theorem dX12_takesSign_19 : decode cX12_takesSign 19 = .ok (.getfield 269, 3) := by decide +kernel
theorem dX12_takesSign_22 : decode cX12_takesSign 22 = .ok (.iconst 1, 1) := by decide +kernel
theorem dX12_takesSign_23 : decode cX12_takesSign 23 = .ok (.iadd, 1) := by decide +kernel
theorem dX12_takesSign_24 : decode cX12_takesSign 24 = .ok (.putfield 269, 3) := by decide +kernel
theorem dX12_takesSign_27 : decode cX12_takesSign 27 = .ok (.iconst 1, 1) := by decide +kernel
theorem dX12_takesSign_28 : decode cX12_takesSign 28 = .ok (.ireturn, 1) := by decide +kernel
theorem dX12_timeOf_0 : decode cX12_timeOf 0 = .ok (.aload_n 0, 1) := by decide +kernel
theorem dX12_timeOf_1 : decode cX12_timeOf 1 = .ok (.getfield 133, 3) := by decide +kernel
theorem dX12_timeOf_4 : decode cX12_timeOf 4 = .ok (.iconst 2, 1) := by decide +kernel
theorem dX12_timeOf_5 : decode cX12_timeOf 5 = .ok (.iaload, 1) := by decide +kernel
theorem dX12_timeOf_6 : decode cX12_timeOf 6 = .ok (.iconst (-1), 1) := by decide +kernel
theorem dX12_timeOf_7 : decode cX12_timeOf 7 = .ok (.if_icmp .ne 6, 3) := by decide +kernel
theorem dX12_timeOf_10 : decode cX12_timeOf 10 = .ok (.bipush 20, 2) := by decide +kernel
theorem dX12_timeOf_12 : decode cX12_timeOf 12 = .ok (.ireturn, 1) := by decide +kernel
theorem dX12_timeOf_13 : decode cX12_timeOf 13 = .ok (.aload_n 0, 1) := by decide +kernel
theorem dX12_timeOf_14 : decode cX12_timeOf 14 = .ok (.iconst 0, 1) := by decide +kernel
theorem dX12_timeOf_15 : decode cX12_timeOf 15 = .ok (.iload_n 1, 1) := by decide +kernel
theorem dX12_timeOf_16 : decode cX12_timeOf 16 = .ok (.iload_n 2, 1) := by decide +kernel
theorem dX12_timeOf_17 : decode cX12_timeOf 17 = .ok (.invokevirtual 445, 3) := by decide +kernel
theorem dX12_timeOf_20 : decode cX12_timeOf 20 = .ok (.lstore_n 3, 1) := by decide +kernel
theorem dX12_timeOf_21 : decode cX12_timeOf 21 = .ok (.lload_n 3, 1) := by decide +kernel
theorem dX12_timeOf_22 : decode cX12_timeOf 22 = .ok (.lconst 1, 1) := by decide +kernel
theorem dX12_timeOf_23 : decode cX12_timeOf 23 = .ok (.lcmp, 1) := by decide +kernel
theorem dX12_timeOf_24 : decode cX12_timeOf 24 = .ok (.ifCond .ge 7, 3) := by decide +kernel
theorem dX12_timeOf_27 : decode cX12_timeOf 27 = .ok (.iconst 1, 1) := by decide +kernel
theorem dX12_timeOf_28 : decode cX12_timeOf 28 = .ok (.goto 19, 3) := by decide +kernel
theorem dX12_timeOf_31 : decode cX12_timeOf 31 = .ok (.lload_n 3, 1) := by decide +kernel
theorem dX12_timeOf_32 : decode cX12_timeOf 32 = .ok (.ldc2_w 449, 3) := by decide +kernel
theorem dX12_timeOf_35 : decode cX12_timeOf 35 = .ok (.lcmp, 1) := by decide +kernel
theorem dX12_timeOf_36 : decode cX12_timeOf 36 = .ok (.ifCond .le 9, 3) := by decide +kernel
theorem dX12_timeOf_39 : decode cX12_timeOf 39 = .ok (.sipush 999, 3) := by decide +kernel
theorem dX12_timeOf_42 : decode cX12_timeOf 42 = .ok (.goto 5, 3) := by decide +kernel
theorem dX12_timeOf_45 : decode cX12_timeOf 45 = .ok (.lload_n 3, 1) := by decide +kernel
theorem dX12_timeOf_46 : decode cX12_timeOf 46 = .ok (.l2i, 1) := by decide +kernel
theorem dX12_timeOf_47 : decode cX12_timeOf 47 = .ok (.ireturn, 1) := by decide +kernel
theorem dX12_answer_0 : decode cX12_answer 0 = .ok (.aload_n 0, 1) := by decide +kernel
theorem dX12_answer_1 : decode cX12_answer 1 = .ok (.iload_n 1, 1) := by decide +kernel
theorem dX12_answer_2 : decode cX12_answer 2 = .ok (.invokevirtual 501, 3) := by decide +kernel
theorem dX12_answer_5 : decode cX12_answer 5 = .ok (.ifCond .eq 20, 3) := by decide +kernel
theorem dX12_answer_8 : decode cX12_answer 8 = .ok (.aload_n 0, 1) := by decide +kernel
theorem dX12_answer_9 : decode cX12_answer 9 = .ok (.iload_n 2, 1) := by decide +kernel
theorem dX12_answer_10 : decode cX12_answer 10 = .ok (.invokevirtual 516, 3) := by decide +kernel
theorem dX12_answer_13 : decode cX12_answer 13 = .ok (.ifCond .eq 12, 3) := by decide +kernel
theorem dX12_answer_16 : decode cX12_answer 16 = .ok (.aload_n 0, 1) := by decide +kernel
theorem dX12_answer_17 : decode cX12_answer 17 = .ok (.iload_n 1, 1) := by decide +kernel
theorem dX12_answer_18 : decode cX12_answer 18 = .ok (.iload_n 2, 1) := by decide +kernel
theorem dX12_answer_19 : decode cX12_answer 19 = .ok (.invokevirtual 521, 3) := by decide +kernel
theorem dX12_answer_22 : decode cX12_answer 22 = .ok (.ifCond .ne 9, 3) := by decide +kernel
theorem dX12_answer_25 : decode cX12_answer 25 = .ok (.aload_n 0, 1) := by decide +kernel
theorem dX12_answer_26 : decode cX12_answer 26 = .ok (.iconst 2, 1) := by decide +kernel
theorem dX12_answer_27 : decode cX12_answer 27 = .ok (.invokevirtual 560, 3) := by decide +kernel
theorem dX12_answer_30 : decode cX12_answer 30 = .ok (.ireturn, 1) := by decide +kernel
theorem dX12_answer_31 : decode cX12_answer 31 = .ok (.aload_n 0, 1) := by decide +kernel
theorem dX12_answer_32 : decode cX12_answer 32 = .ok (.invokevirtual 575, 3) := by decide +kernel
theorem dX12_answer_35 : decode cX12_answer 35 = .ok (.aload_n 0, 1) := by decide +kernel
theorem dX12_answer_36 : decode cX12_answer 36 = .ok (.iload_n 1, 1) := by decide +kernel
theorem dX12_answer_37 : decode cX12_answer 37 = .ok (.iload_n 2, 1) := by decide +kernel
theorem dX12_answer_38 : decode cX12_answer 38 = .ok (.invokevirtual 461, 3) := by decide +kernel
theorem dX12_answer_41 : decode cX12_answer 41 = .ok (.istore_n 3, 1) := by decide +kernel
theorem dX12_answer_42 : decode cX12_answer 42 = .ok (.aload_n 0, 1) := by decide +kernel
theorem dX12_answer_43 : decode cX12_answer 43 = .ok (.iload_n 1, 1) := by decide +kernel
theorem dX12_answer_44 : decode cX12_answer 44 = .ok (.iload_n 2, 1) := by decide +kernel
theorem dX12_answer_45 : decode cX12_answer 45 = .ok (.invokevirtual 488, 3) := by decide +kernel
theorem dX12_answer_48 : decode cX12_answer 48 = .ok (.iload_n 3, 1) := by decide +kernel
theorem dX12_answer_49 : decode cX12_answer 49 = .ok (.ireturn, 1) := by decide +kernel
theorem dX12_warmest_0 : decode cX12_warmest 0 = .ok (.iload_n 1, 1) := by decide +kernel
theorem dX12_warmest_1 : decode cX12_warmest 1 = .ok (.iconst (-1), 1) := by decide +kernel
theorem dX12_warmest_2 : decode cX12_warmest 2 = .ok (.if_icmp .eq 13, 3) := by decide +kernel
theorem dX12_warmest_5 : decode cX12_warmest 5 = .ok (.aload_n 0, 1) := by decide +kernel
theorem dX12_warmest_6 : decode cX12_warmest 6 = .ok (.iload_n 1, 1) := by decide +kernel
theorem dX12_warmest_7 : decode cX12_warmest 7 = .ok (.invokevirtual 501, 3) := by decide +kernel
theorem dX12_warmest_10 : decode cX12_warmest 10 = .ok (.ifCond .ne 5, 3) := by decide +kernel
theorem dX12_warmest_13 : decode cX12_warmest 13 = .ok (.iconst (-1), 1) := by decide +kernel
theorem dX12_warmest_14 : decode cX12_warmest 14 = .ok (.ireturn, 1) := by decide +kernel
theorem dX12_warmest_15 : decode cX12_warmest 15 = .ok (.aload_n 0, 1) := by decide +kernel
theorem dX12_warmest_16 : decode cX12_warmest 16 = .ok (.invokevirtual 485, 3) := by decide +kernel
theorem dX12_warmest_19 : decode cX12_warmest 19 = .ok (.istore_n 2, 1) := by decide +kernel
theorem dX12_warmest_20 : decode cX12_warmest 20 = .ok (.iload_n 1, 1) := by decide +kernel
theorem dX12_warmest_21 : decode cX12_warmest 21 = .ok (.iconst (-1), 1) := by decide +kernel
theorem dX12_warmest_22 : decode cX12_warmest 22 = .ok (.if_icmp .ne 7, 3) := by decide +kernel
theorem dX12_warmest_25 : decode cX12_warmest 25 = .ok (.iload_n 2, 1) := by decide +kernel
theorem dX12_warmest_26 : decode cX12_warmest 26 = .ok (.goto 11, 3) := by decide +kernel
theorem dX12_warmest_29 : decode cX12_warmest 29 = .ok (.aload_n 0, 1) := by decide +kernel
theorem dX12_warmest_30 : decode cX12_warmest 30 = .ok (.getfield 154, 3) := by decide +kernel
theorem dX12_warmest_33 : decode cX12_warmest 33 = .ok (.iload_n 1, 1) := by decide +kernel
theorem dX12_warmest_34 : decode cX12_warmest 34 = .ok (.iaload, 1) := by decide +kernel
theorem dX12_warmest_35 : decode cX12_warmest 35 = .ok (.iconst 1, 1) := by decide +kernel
theorem dX12_warmest_36 : decode cX12_warmest 36 = .ok (.isub, 1) := by decide +kernel
theorem dX12_warmest_37 : decode cX12_warmest 37 = .ok (.ireturn, 1) := by decide +kernel
theorem dX12_nearTold_0 : decode cX12_nearTold 0 = .ok (.aload_n 0, 1) := by decide +kernel
theorem dX12_nearTold_1 : decode cX12_nearTold 1 = .ok (.iconst 3, 1) := by decide +kernel
theorem dX12_nearTold_2 : decode cX12_nearTold 2 = .ok (.bipush 20, 2) := by decide +kernel
theorem dX12_nearTold_4 : decode cX12_nearTold 4 = .ok (.iload_n 1, 1) := by decide +kernel
theorem dX12_nearTold_5 : decode cX12_nearTold 5 = .ok (.invokevirtual 330, 3) := by decide +kernel
theorem dX12_nearTold_8 : decode cX12_nearTold 8 = .ok (.ifCond .eq 4, 3) := by decide +kernel
theorem dX12_nearTold_11 : decode cX12_nearTold 11 = .ok (.return_, 1) := by decide +kernel
theorem dX12_nearTold_12 : decode cX12_nearTold 12 = .ok (.aload_n 0, 1) := by decide +kernel
theorem dX12_nearTold_13 : decode cX12_nearTold 13 = .ok (.iconst 0, 1) := by decide +kernel
theorem dX12_nearTold_14 : decode cX12_nearTold 14 = .ok (.invokevirtual 348, 3) := by decide +kernel
theorem dX12_nearTold_17 : decode cX12_nearTold 17 = .ok (.istore_n 2, 1) := by decide +kernel
theorem dX12_nearTold_18 : decode cX12_nearTold 18 = .ok (.aload_n 0, 1) := by decide +kernel
theorem dX12_nearTold_19 : decode cX12_nearTold 19 = .ok (.iconst 0, 1) := by decide +kernel
theorem dX12_nearTold_20 : decode cX12_nearTold 20 = .ok (.invokevirtual 348, 3) := by decide +kernel
theorem dX12_nearTold_23 : decode cX12_nearTold 23 = .ok (.istore_n 3, 1) := by decide +kernel
theorem dX12_nearTold_24 : decode cX12_nearTold 24 = .ok (.aload_n 0, 1) := by decide +kernel
theorem dX12_nearTold_25 : decode cX12_nearTold 25 = .ok (.getfield 263, 3) := by decide +kernel
theorem dX12_nearTold_28 : decode cX12_nearTold 28 = .ok (.ifCond .ne 31, 3) := by decide +kernel
theorem dX12_nearTold_31 : decode cX12_nearTold 31 = .ok (.iload_n 2, 1) := by decide +kernel
theorem dX12_nearTold_32 : decode cX12_nearTold 32 = .ok (.iload_n 3, 1) := by decide +kernel
theorem dX12_nearTold_33 : decode cX12_nearTold 33 = .ok (.if_icmp .eq 17, 3) := by decide +kernel
theorem dX12_nearTold_36 : decode cX12_nearTold 36 = .ok (.aload_n 0, 1) := by decide +kernel
theorem dX12_nearTold_37 : decode cX12_nearTold 37 = .ok (.getfield 121, 3) := by decide +kernel
theorem dX12_nearTold_40 : decode cX12_nearTold 40 = .ok (.iload_n 2, 1) := by decide +kernel
theorem dX12_nearTold_41 : decode cX12_nearTold 41 = .ok (.iaload, 1) := by decide +kernel
theorem dX12_nearTold_42 : decode cX12_nearTold 42 = .ok (.iload_n 3, 1) := by decide +kernel
theorem dX12_nearTold_43 : decode cX12_nearTold 43 = .ok (.ishr, 1) := by decide +kernel
theorem dX12_nearTold_44 : decode cX12_nearTold 44 = .ok (.iconst 1, 1) := by decide +kernel
theorem dX12_nearTold_45 : decode cX12_nearTold 45 = .ok (.iand, 1) := by decide +kernel
theorem dX12_nearTold_46 : decode cX12_nearTold 46 = .ok (.iconst 1, 1) := by decide +kernel
theorem dX12_nearTold_47 : decode cX12_nearTold 47 = .ok (.if_icmp .ne 12, 3) := by decide +kernel
theorem dX12_nearTold_50 : decode cX12_nearTold 50 = .ok (.aload_n 0, 1) := by decide +kernel
theorem dX12_nearTold_51 : decode cX12_nearTold 51 = .ok (.iconst 3, 1) := by decide +kernel
theorem dX12_nearTold_52 : decode cX12_nearTold 52 = .ok (.aload_n 0, 1) := by decide +kernel
theorem dX12_nearTold_53 : decode cX12_nearTold 53 = .ok (.getfield 311, 3) := by decide +kernel
theorem dX12_nearTold_56 : decode cX12_nearTold 56 = .ok (.invokevirtual 293, 3) := by decide +kernel
theorem dX12_nearTold_59 : decode cX12_nearTold 59 = .ok (.aload_n 0, 1) := by decide +kernel
theorem dX12_nearTold_60 : decode cX12_nearTold 60 = .ok (.getfield 263, 3) := by decide +kernel
theorem dX12_nearTold_63 : decode cX12_nearTold 63 = .ok (.ifCond .eq 4, 3) := by decide +kernel
theorem dX12_nearTold_66 : decode cX12_nearTold 66 = .ok (.return_, 1) := by decide +kernel
theorem dX12_nearTold_67 : decode cX12_nearTold 67 = .ok (.aload_n 0, 1) := by decide +kernel
theorem dX12_nearTold_68 : decode cX12_nearTold 68 = .ok (.getfield 121, 3) := by decide +kernel
theorem dX12_nearTold_71 : decode cX12_nearTold 71 = .ok (.iload_n 2, 1) := by decide +kernel
theorem dX12_nearTold_72 : decode cX12_nearTold 72 = .ok (.dup2, 1) := by decide +kernel
theorem dX12_nearTold_73 : decode cX12_nearTold 73 = .ok (.iaload, 1) := by decide +kernel
theorem dX12_nearTold_74 : decode cX12_nearTold 74 = .ok (.iconst 1, 1) := by decide +kernel
theorem dX12_nearTold_75 : decode cX12_nearTold 75 = .ok (.iload_n 3, 1) := by decide +kernel
theorem dX12_nearTold_76 : decode cX12_nearTold 76 = .ok (.ishl, 1) := by decide +kernel
theorem dX12_nearTold_77 : decode cX12_nearTold 77 = .ok (.ior, 1) := by decide +kernel
theorem dX12_nearTold_78 : decode cX12_nearTold 78 = .ok (.iastore, 1) := by decide +kernel
theorem dX12_nearTold_79 : decode cX12_nearTold 79 = .ok (.aload_n 0, 1) := by decide +kernel
theorem dX12_nearTold_80 : decode cX12_nearTold 80 = .ok (.getfield 121, 3) := by decide +kernel
theorem dX12_nearTold_83 : decode cX12_nearTold 83 = .ok (.iload_n 3, 1) := by decide +kernel
theorem dX12_nearTold_84 : decode cX12_nearTold 84 = .ok (.dup2, 1) := by decide +kernel
theorem dX12_nearTold_85 : decode cX12_nearTold 85 = .ok (.iaload, 1) := by decide +kernel
theorem dX12_nearTold_86 : decode cX12_nearTold 86 = .ok (.iconst 1, 1) := by decide +kernel
theorem dX12_nearTold_87 : decode cX12_nearTold 87 = .ok (.iload_n 2, 1) := by decide +kernel
theorem dX12_nearTold_88 : decode cX12_nearTold 88 = .ok (.ishl, 1) := by decide +kernel
theorem dX12_nearTold_89 : decode cX12_nearTold 89 = .ok (.ior, 1) := by decide +kernel
theorem dX12_nearTold_90 : decode cX12_nearTold 90 = .ok (.iastore, 1) := by decide +kernel
theorem dX12_nearTold_91 : decode cX12_nearTold 91 = .ok (.aload_n 0, 1) := by decide +kernel
theorem dX12_nearTold_92 : decode cX12_nearTold 92 = .ok (.getfield 105, 3) := by decide +kernel
theorem dX12_nearTold_95 : decode cX12_nearTold 95 = .ok (.iconst 3, 1) := by decide +kernel
theorem dX12_nearTold_96 : decode cX12_nearTold 96 = .ok (.dup2, 1) := by decide +kernel
theorem dX12_nearTold_97 : decode cX12_nearTold 97 = .ok (.iaload, 1) := by decide +kernel
theorem dX12_nearTold_98 : decode cX12_nearTold 98 = .ok (.iconst 1, 1) := by decide +kernel
theorem dX12_nearTold_99 : decode cX12_nearTold 99 = .ok (.iadd, 1) := by decide +kernel
theorem dX12_nearTold_100 : decode cX12_nearTold 100 = .ok (.iastore, 1) := by decide +kernel
theorem dX12_nearTold_101 : decode cX12_nearTold 101 = .ok (.return_, 1) := by decide +kernel
theorem dX12_laysSheets_0 : decode cX12_laysSheets 0 = .ok (.iconst 0, 1) := by decide +kernel
theorem dX12_laysSheets_1 : decode cX12_laysSheets 1 = .ok (.istore_n 2, 1) := by decide +kernel
theorem dX12_laysSheets_2 : decode cX12_laysSheets 2 = .ok (.iload_n 2, 1) := by decide +kernel
theorem dX12_laysSheets_3 : decode cX12_laysSheets 3 = .ok (.bipush 8, 2) := by decide +kernel
theorem dX12_laysSheets_5 : decode cX12_laysSheets 5 = .ok (.if_icmp .ge 16, 3) := by decide +kernel
theorem dX12_laysSheets_8 : decode cX12_laysSheets 8 = .ok (.aload_n 0, 1) := by decide +kernel
theorem dX12_laysSheets_9 : decode cX12_laysSheets 9 = .ok (.getfield 148, 3) := by decide +kernel
theorem dX12_laysSheets_12 : decode cX12_laysSheets 12 = .ok (.iload_n 2, 1) := by decide +kernel
theorem dX12_laysSheets_13 : decode cX12_laysSheets 13 = .ok (.iconst 0, 1) := by decide +kernel
theorem dX12_laysSheets_14 : decode cX12_laysSheets 14 = .ok (.iastore, 1) := by decide +kernel
theorem dX12_laysSheets_15 : decode cX12_laysSheets 15 = .ok (.iinc 2 1, 3) := by decide +kernel
theorem dX12_laysSheets_18 : decode cX12_laysSheets 18 = .ok (.goto (-16), 3) := by decide +kernel
theorem dX12_laysSheets_21 : decode cX12_laysSheets 21 = .ok (.iconst 0, 1) := by decide +kernel
theorem dX12_laysSheets_22 : decode cX12_laysSheets 22 = .ok (.istore_n 2, 1) := by decide +kernel
theorem dX12_laysSheets_23 : decode cX12_laysSheets 23 = .ok (.iload_n 2, 1) := by decide +kernel
theorem dX12_laysSheets_24 : decode cX12_laysSheets 24 = .ok (.ifCond .lt 58, 3) := by decide +kernel
theorem dX12_laysSheets_27 : decode cX12_laysSheets 27 = .ok (.iload_n 2, 1) := by decide +kernel
theorem dX12_laysSheets_28 : decode cX12_laysSheets 28 = .ok (.aload_n 0, 1) := by decide +kernel
theorem dX12_laysSheets_29 : decode cX12_laysSheets 29 = .ok (.invokevirtual 419, 3) := by decide +kernel
theorem dX12_laysSheets_32 : decode cX12_laysSheets 32 = .ok (.if_icmp .ge 50, 3) := by decide +kernel
theorem dX12_laysSheets_35 : decode cX12_laysSheets 35 = .ok (.aload_n 0, 1) := by decide +kernel
theorem dX12_laysSheets_36 : decode cX12_laysSheets 36 = .ok (.getfield 148, 3) := by decide +kernel
theorem dX12_laysSheets_39 : decode cX12_laysSheets 39 = .ok (.iload_n 2, 1) := by decide +kernel
theorem dX12_laysSheets_40 : decode cX12_laysSheets 40 = .ok (.dup2, 1) := by decide +kernel
theorem dX12_laysSheets_41 : decode cX12_laysSheets 41 = .ok (.iaload, 1) := by decide +kernel
theorem dX12_laysSheets_42 : decode cX12_laysSheets 42 = .ok (.iconst 1, 1) := by decide +kernel
theorem dX12_laysSheets_43 : decode cX12_laysSheets 43 = .ok (.iadd, 1) := by decide +kernel
theorem dX12_laysSheets_44 : decode cX12_laysSheets 44 = .ok (.iastore, 1) := by decide +kernel
theorem dX12_laysSheets_45 : decode cX12_laysSheets 45 = .ok (.aload_n 0, 1) := by decide +kernel
theorem dX12_laysSheets_46 : decode cX12_laysSheets 46 = .ok (.getfield 148, 3) := by decide +kernel
theorem dX12_laysSheets_49 : decode cX12_laysSheets 49 = .ok (.iload_n 2, 1) := by decide +kernel
theorem dX12_laysSheets_50 : decode cX12_laysSheets 50 = .ok (.iaload, 1) := by decide +kernel
theorem dX12_laysSheets_51 : decode cX12_laysSheets 51 = .ok (.iload_n 1, 1) := by decide +kernel
theorem dX12_laysSheets_52 : decode cX12_laysSheets 52 = .ok (.if_icmp .le 16, 3) := by decide +kernel
theorem dX12_laysSheets_55 : decode cX12_laysSheets 55 = .ok (.aload_n 0, 1) := by decide +kernel
theorem dX12_laysSheets_56 : decode cX12_laysSheets 56 = .ok (.getfield 148, 3) := by decide +kernel
theorem dX12_laysSheets_59 : decode cX12_laysSheets 59 = .ok (.iload_n 2, 1) := by decide +kernel
theorem dX12_laysSheets_60 : decode cX12_laysSheets 60 = .ok (.iconst 0, 1) := by decide +kernel
theorem dX12_laysSheets_61 : decode cX12_laysSheets 61 = .ok (.iastore, 1) := by decide +kernel
theorem dX12_laysSheets_62 : decode cX12_laysSheets 62 = .ok (.iinc 2 (-1), 3) := by decide +kernel
theorem dX12_laysSheets_65 : decode cX12_laysSheets 65 = .ok (.goto (-42), 3) := by decide +kernel
theorem dX12_laysSheets_68 : decode cX12_laysSheets 68 = .ok (.aload_n 0, 1) := by decide +kernel
theorem dX12_laysSheets_69 : decode cX12_laysSheets 69 = .ok (.iload_n 2, 1) := by decide +kernel
theorem dX12_laysSheets_70 : decode cX12_laysSheets 70 = .ok (.invokevirtual 539, 3) := by decide +kernel
theorem dX12_laysSheets_73 : decode cX12_laysSheets 73 = .ok (.ifCond .eq (-50), 3) := by decide +kernel
theorem dX12_laysSheets_76 : decode cX12_laysSheets 76 = .ok (.iinc 2 1, 3) := by decide +kernel
theorem dX12_laysSheets_79 : decode cX12_laysSheets 79 = .ok (.goto (-56), 3) := by decide +kernel
theorem dX12_laysSheets_82 : decode cX12_laysSheets 82 = .ok (.iload_n 2, 1) := by decide +kernel
theorem dX12_laysSheets_83 : decode cX12_laysSheets 83 = .ok (.ifCond .lt 7, 3) := by decide +kernel
theorem dX12_laysSheets_86 : decode cX12_laysSheets 86 = .ok (.iconst 1, 1) := by decide +kernel
theorem dX12_laysSheets_87 : decode cX12_laysSheets 87 = .ok (.goto 4, 3) := by decide +kernel
theorem dX12_laysSheets_90 : decode cX12_laysSheets 90 = .ok (.iconst 0, 1) := by decide +kernel
theorem dX12_laysSheets_91 : decode cX12_laysSheets 91 = .ok (.ireturn, 1) := by decide +kernel
theorem dX12_refuses_0 : decode cX12_refuses 0 = .ok (.aload_n 0, 1) := by decide +kernel
theorem dX12_refuses_1 : decode cX12_refuses 1 = .ok (.getfield 17, 3) := by decide +kernel
theorem dX12_refuses_4 : decode cX12_refuses 4 = .ok (.iload_n 1, 1) := by decide +kernel
theorem dX12_refuses_5 : decode cX12_refuses 5 = .ok (.dup2, 1) := by decide +kernel
theorem dX12_refuses_6 : decode cX12_refuses 6 = .ok (.iaload, 1) := by decide +kernel
theorem dX12_refuses_7 : decode cX12_refuses 7 = .ok (.iconst 1, 1) := by decide +kernel
theorem dX12_refuses_8 : decode cX12_refuses 8 = .ok (.iadd, 1) := by decide +kernel
theorem dX12_refuses_9 : decode cX12_refuses 9 = .ok (.iastore, 1) := by decide +kernel
theorem dX12_refuses_10 : decode cX12_refuses 10 = .ok (.iconst (-1), 1) := by decide +kernel
theorem dX12_refuses_11 : decode cX12_refuses 11 = .ok (.ireturn, 1) := by decide +kernel
theorem dX12_isMail_0 : decode cX12_isMail 0 = .ok (.iload_n 1, 1) := by decide +kernel
theorem dX12_isMail_1 : decode cX12_isMail 1 = .ok (.i2l, 1) := by decide +kernel
theorem dX12_isMail_2 : decode cX12_isMail 2 = .ok (.lconst 0, 1) := by decide +kernel
theorem dX12_isMail_3 : decode cX12_isMail 3 = .ok (.aload_n 0, 1) := by decide +kernel
theorem dX12_isMail_4 : decode cX12_isMail 4 = .ok (.invokevirtual 419, 3) := by decide +kernel
theorem dX12_isMail_7 : decode cX12_isMail 7 = .ok (.iconst 1, 1) := by decide +kernel
theorem dX12_isMail_8 : decode cX12_isMail 8 = .ok (.isub, 1) := by decide +kernel
theorem dX12_isMail_9 : decode cX12_isMail 9 = .ok (.i2l, 1) := by decide +kernel
theorem dX12_isMail_10 : decode cX12_isMail 10 = .ok (.invokestatic 303, 3) := by decide +kernel
theorem dX12_isMail_13 : decode cX12_isMail 13 = .ok (.ireturn, 1) := by decide +kernel
theorem dX12_canRow_0 : decode cX12_canRow 0 = .ok (.iconst 0, 1) := by decide +kernel
theorem dX12_canRow_1 : decode cX12_canRow 1 = .ok (.istore_n 1, 1) := by decide +kernel
theorem dX12_canRow_2 : decode cX12_canRow 2 = .ok (.iload_n 1, 1) := by decide +kernel
theorem dX12_canRow_3 : decode cX12_canRow 3 = .ok (.aload_n 0, 1) := by decide +kernel
theorem dX12_canRow_4 : decode cX12_canRow 4 = .ok (.invokevirtual 422, 3) := by decide +kernel
theorem dX12_canRow_7 : decode cX12_canRow 7 = .ok (.if_icmp .ge 20, 3) := by decide +kernel
theorem dX12_canRow_10 : decode cX12_canRow 10 = .ok (.aload_n 0, 1) := by decide +kernel
theorem dX12_canRow_11 : decode cX12_canRow 11 = .ok (.getfield 163, 3) := by decide +kernel
theorem dX12_canRow_14 : decode cX12_canRow 14 = .ok (.iload_n 1, 1) := by decide +kernel
theorem dX12_canRow_15 : decode cX12_canRow 15 = .ok (.aload_n 0, 1) := by decide +kernel
theorem dX12_canRow_16 : decode cX12_canRow 16 = .ok (.iload_n 1, 1) := by decide +kernel
theorem dX12_canRow_17 : decode cX12_canRow 17 = .ok (.invokevirtual 458, 3) := by decide +kernel
theorem dX12_canRow_20 : decode cX12_canRow 20 = .ok (.iastore, 1) := by decide +kernel
theorem dX12_canRow_21 : decode cX12_canRow 21 = .ok (.iinc 1 1, 3) := by decide +kernel
theorem dX12_canRow_24 : decode cX12_canRow 24 = .ok (.goto (-22), 3) := by decide +kernel
theorem dX12_canRow_27 : decode cX12_canRow 27 = .ok (.iconst 0, 1) := by decide +kernel
theorem dX12_canRow_28 : decode cX12_canRow 28 = .ok (.istore_n 1, 1) := by decide +kernel
theorem dX12_canRow_29 : decode cX12_canRow 29 = .ok (.iload_n 1, 1) := by decide +kernel
theorem dX12_canRow_30 : decode cX12_canRow 30 = .ok (.aload_n 0, 1) := by decide +kernel
theorem dX12_canRow_31 : decode cX12_canRow 31 = .ok (.invokevirtual 419, 3) := by decide +kernel
theorem dX12_canRow_34 : decode cX12_canRow 34 = .ok (.if_icmp .ge 69, 3) := by decide +kernel
theorem dX12_canRow_37 : decode cX12_canRow 37 = .ok (.aload_n 0, 1) := by decide +kernel
theorem dX12_canRow_38 : decode cX12_canRow 38 = .ok (.getfield 148, 3) := by decide +kernel
theorem dX12_canRow_41 : decode cX12_canRow 41 = .ok (.iload_n 1, 1) := by decide +kernel
theorem dX12_canRow_42 : decode cX12_canRow 42 = .ok (.iaload, 1) := by decide +kernel
theorem dX12_canRow_43 : decode cX12_canRow 43 = .ok (.ifCond .ne 6, 3) := by decide +kernel
theorem dX12_canRow_46 : decode cX12_canRow 46 = .ok (.goto 51, 3) := by decide +kernel
theorem dX12_canRow_49 : decode cX12_canRow 49 = .ok (.aload_n 0, 1) := by decide +kernel
theorem dX12_canRow_50 : decode cX12_canRow 50 = .ok (.getfield 148, 3) := by decide +kernel
theorem dX12_canRow_53 : decode cX12_canRow 53 = .ok (.iload_n 1, 1) := by decide +kernel
theorem dX12_canRow_54 : decode cX12_canRow 54 = .ok (.iaload, 1) := by decide +kernel
theorem dX12_canRow_55 : decode cX12_canRow 55 = .ok (.iconst 1, 1) := by decide +kernel
theorem dX12_canRow_56 : decode cX12_canRow 56 = .ok (.isub, 1) := by decide +kernel
theorem dX12_canRow_57 : decode cX12_canRow 57 = .ok (.istore_n 2, 1) := by decide +kernel
theorem dX12_canRow_58 : decode cX12_canRow 58 = .ok (.aload_n 0, 1) := by decide +kernel
theorem dX12_canRow_59 : decode cX12_canRow 59 = .ok (.getfield 163, 3) := by decide +kernel
theorem dX12_canRow_62 : decode cX12_canRow 62 = .ok (.iload_n 2, 1) := by decide +kernel
theorem dX12_canRow_63 : decode cX12_canRow 63 = .ok (.dup2, 1) := by decide +kernel
theorem dX12_canRow_64 : decode cX12_canRow 64 = .ok (.iaload, 1) := by decide +kernel
theorem dX12_canRow_65 : decode cX12_canRow 65 = .ok (.aload_n 0, 1) := by decide +kernel
theorem dX12_canRow_66 : decode cX12_canRow 66 = .ok (.getfield 157, 3) := by decide +kernel
theorem dX12_canRow_69 : decode cX12_canRow 69 = .ok (.iconst 3, 1) := by decide +kernel
theorem dX12_canRow_70 : decode cX12_canRow 70 = .ok (.iload_n 1, 1) := by decide +kernel
theorem dX12_canRow_71 : decode cX12_canRow 71 = .ok (.imul, 1) := by decide +kernel
theorem dX12_canRow_72 : decode cX12_canRow 72 = .ok (.iload_n 2, 1) := by decide +kernel
theorem dX12_canRow_73 : decode cX12_canRow 73 = .ok (.iadd, 1) := by decide +kernel
theorem dX12_canRow_74 : decode cX12_canRow 74 = .ok (.iaload, 1) := by decide +kernel
theorem dX12_canRow_75 : decode cX12_canRow 75 = .ok (.isub, 1) := by decide +kernel
theorem dX12_canRow_76 : decode cX12_canRow 76 = .ok (.iastore, 1) := by decide +kernel
theorem dX12_canRow_77 : decode cX12_canRow 77 = .ok (.aload_n 0, 1) := by decide +kernel
theorem dX12_canRow_78 : decode cX12_canRow 78 = .ok (.getfield 163, 3) := by decide +kernel
theorem dX12_canRow_81 : decode cX12_canRow 81 = .ok (.iload_n 2, 1) := by decide +kernel
theorem dX12_canRow_82 : decode cX12_canRow 82 = .ok (.iaload, 1) := by decide +kernel
theorem dX12_canRow_83 : decode cX12_canRow 83 = .ok (.ifCond .lt 12, 3) := by decide +kernel
theorem dX12_canRow_86 : decode cX12_canRow 86 = .ok (.aload_n 0, 1) := by decide +kernel
theorem dX12_canRow_87 : decode cX12_canRow 87 = .ok (.iload_n 1, 1) := by decide +kernel
theorem dX12_canRow_88 : decode cX12_canRow 88 = .ok (.iload_n 2, 1) := by decide +kernel
theorem dX12_canRow_89 : decode cX12_canRow 89 = .ok (.invokevirtual 454, 3) := by decide +kernel
theorem dX12_canRow_92 : decode cX12_canRow 92 = .ok (.ifCond .ne 5, 3) := by decide +kernel
theorem dX12_canRow_95 : decode cX12_canRow 95 = .ok (.iconst 0, 1) := by decide +kernel
theorem dX12_canRow_96 : decode cX12_canRow 96 = .ok (.ireturn, 1) := by decide +kernel
theorem dX12_canRow_97 : decode cX12_canRow 97 = .ok (.iinc 1 1, 3) := by decide +kernel
theorem dX12_canRow_100 : decode cX12_canRow 100 = .ok (.goto (-71), 3) := by decide +kernel
theorem dX12_canRow_103 : decode cX12_canRow 103 = .ok (.iconst 1, 1) := by decide +kernel
theorem dX12_canRow_104 : decode cX12_canRow 104 = .ok (.ireturn, 1) := by decide +kernel
theorem dX12_statementTold_0 : decode cX12_statementTold 0 = .ok (.aload_n 0, 1) := by decide +kernel
theorem dX12_statementTold_1 : decode cX12_statementTold 1 = .ok (.getfield 269, 3) := by decide +kernel
theorem dX12_statementTold_4 : decode cX12_statementTold 4 = .ok (.istore_n 1, 1) := by decide +kernel
theorem dX12_statementTold_5 : decode cX12_statementTold 5 = .ok (.aload_n 0, 1) := by decide +kernel
theorem dX12_statementTold_6 : decode cX12_statementTold 6 = .ok (.getfield 370, 3) := by decide +kernel
theorem dX12_statementTold_9 : decode cX12_statementTold 9 = .ok (.bipush 80, 2) := by decide +kernel
theorem dX12_statementTold_11 : decode cX12_statementTold 11 = .ok (.if_icmp .ne 10, 3) := by decide +kernel
theorem dX12_statementTold_14 : decode cX12_statementTold 14 = .ok (.aload_n 0, 1) := by decide +kernel
theorem dX12_statementTold_15 : decode cX12_statementTold 15 = .ok (.iconst 5, 1) := by decide +kernel
theorem dX12_statementTold_16 : decode cX12_statementTold 16 = .ok (.iload_n 1, 1) := by decide +kernel
theorem dX12_statementTold_17 : decode cX12_statementTold 17 = .ok (.invokevirtual 293, 3) := by decide +kernel
theorem dX12_statementTold_20 : decode cX12_statementTold 20 = .ok (.return_, 1) := by decide +kernel
theorem dX12_statementTold_21 : decode cX12_statementTold 21 = .ok (.aload_n 0, 1) := by decide +kernel
theorem dX12_statementTold_22 : decode cX12_statementTold 22 = .ok (.aload_n 0, 1) := by decide +kernel
theorem dX12_statementTold_23 : decode cX12_statementTold 23 = .ok (.getfield 20, 3) := by decide +kernel
theorem dX12_statementTold_26 : decode cX12_statementTold 26 = .ok (.invokevirtual 290, 3) := by decide +kernel
theorem dX12_statementTold_29 : decode cX12_statementTold 29 = .ok (.ifCond .eq 11, 3) := by decide +kernel
theorem dX12_statementTold_32 : decode cX12_statementTold 32 = .ok (.aload_n 0, 1) := by decide +kernel
theorem dX12_statementTold_33 : decode cX12_statementTold 33 = .ok (.iload_n 1, 1) := by decide +kernel
theorem dX12_statementTold_34 : decode cX12_statementTold 34 = .ok (.invokevirtual 373, 3) := by decide +kernel
theorem dX12_statementTold_37 : decode cX12_statementTold 37 = .ok (.goto 185, 3) := by decide +kernel
theorem dX12_statementTold_40 : decode cX12_statementTold 40 = .ok (.aload_n 0, 1) := by decide +kernel
theorem dX12_statementTold_41 : decode cX12_statementTold 41 = .ok (.aload_n 0, 1) := by decide +kernel
theorem dX12_statementTold_42 : decode cX12_statementTold 42 = .ok (.getfield 33, 3) := by decide +kernel
theorem dX12_statementTold_45 : decode cX12_statementTold 45 = .ok (.invokevirtual 290, 3) := by decide +kernel
theorem dX12_statementTold_48 : decode cX12_statementTold 48 = .ok (.ifCond .eq 11, 3) := by decide +kernel
theorem dX12_statementTold_51 : decode cX12_statementTold 51 = .ok (.aload_n 0, 1) := by decide +kernel
theorem dX12_statementTold_52 : decode cX12_statementTold 52 = .ok (.iload_n 1, 1) := by decide +kernel
theorem dX12_statementTold_53 : decode cX12_statementTold 53 = .ok (.invokevirtual 377, 3) := by decide +kernel
theorem dX12_statementTold_56 : decode cX12_statementTold 56 = .ok (.goto 166, 3) := by decide +kernel
theorem dX12_statementTold_59 : decode cX12_statementTold 59 = .ok (.aload_n 0, 1) := by decide +kernel
theorem dX12_statementTold_60 : decode cX12_statementTold 60 = .ok (.aload_n 0, 1) := by decide +kernel
theorem dX12_statementTold_61 : decode cX12_statementTold 61 = .ok (.getfield 39, 3) := by decide +kernel
theorem dX12_statementTold_64 : decode cX12_statementTold 64 = .ok (.invokevirtual 290, 3) := by decide +kernel
theorem dX12_statementTold_67 : decode cX12_statementTold 67 = .ok (.ifCond .eq 10, 3) := by decide +kernel
theorem dX12_statementTold_70 : decode cX12_statementTold 70 = .ok (.aload_n 0, 1) := by decide +kernel
theorem dX12_statementTold_71 : decode cX12_statementTold 71 = .ok (.invokevirtual 380, 3) := by decide +kernel
theorem dX12_statementTold_74 : decode cX12_statementTold 74 = .ok (.goto 148, 3) := by decide +kernel
theorem dX12_statementTold_77 : decode cX12_statementTold 77 = .ok (.aload_n 0, 1) := by decide +kernel
theorem dX12_statementTold_78 : decode cX12_statementTold 78 = .ok (.aload_n 0, 1) := by decide +kernel
theorem dX12_statementTold_79 : decode cX12_statementTold 79 = .ok (.getfield 42, 3) := by decide +kernel
theorem dX12_statementTold_82 : decode cX12_statementTold 82 = .ok (.invokevirtual 290, 3) := by decide +kernel
theorem dX12_statementTold_85 : decode cX12_statementTold 85 = .ok (.ifCond .eq 11, 3) := by decide +kernel
theorem dX12_statementTold_88 : decode cX12_statementTold 88 = .ok (.aload_n 0, 1) := by decide +kernel
theorem dX12_statementTold_89 : decode cX12_statementTold 89 = .ok (.iload_n 1, 1) := by decide +kernel
theorem dX12_statementTold_90 : decode cX12_statementTold 90 = .ok (.invokevirtual 383, 3) := by decide +kernel
theorem dX12_statementTold_93 : decode cX12_statementTold 93 = .ok (.goto 129, 3) := by decide +kernel
theorem dX12_statementTold_96 : decode cX12_statementTold 96 = .ok (.aload_n 0, 1) := by decide +kernel
theorem dX12_statementTold_97 : decode cX12_statementTold 97 = .ok (.aload_n 0, 1) := by decide +kernel
theorem dX12_statementTold_98 : decode cX12_statementTold 98 = .ok (.getfield 45, 3) := by decide +kernel
theorem dX12_statementTold_101 : decode cX12_statementTold 101 = .ok (.invokevirtual 290, 3) := by decide +kernel
theorem dX12_statementTold_104 : decode cX12_statementTold 104 = .ok (.ifCond .eq 11, 3) := by decide +kernel
theorem dX12_statementTold_107 : decode cX12_statementTold 107 = .ok (.aload_n 0, 1) := by decide +kernel
theorem dX12_statementTold_108 : decode cX12_statementTold 108 = .ok (.iload_n 1, 1) := by decide +kernel
theorem dX12_statementTold_109 : decode cX12_statementTold 109 = .ok (.invokevirtual 386, 3) := by decide +kernel
theorem dX12_statementTold_112 : decode cX12_statementTold 112 = .ok (.goto 110, 3) := by decide +kernel
theorem dX12_statementTold_115 : decode cX12_statementTold 115 = .ok (.aload_n 0, 1) := by decide +kernel
theorem dX12_statementTold_116 : decode cX12_statementTold 116 = .ok (.aload_n 0, 1) := by decide +kernel
theorem dX12_statementTold_117 : decode cX12_statementTold 117 = .ok (.getfield 48, 3) := by decide +kernel
theorem dX12_statementTold_120 : decode cX12_statementTold 120 = .ok (.invokevirtual 290, 3) := by decide +kernel
theorem dX12_statementTold_123 : decode cX12_statementTold 123 = .ok (.ifCond .eq 11, 3) := by decide +kernel
theorem dX12_statementTold_126 : decode cX12_statementTold 126 = .ok (.aload_n 0, 1) := by decide +kernel
theorem dX12_statementTold_127 : decode cX12_statementTold 127 = .ok (.iload_n 1, 1) := by decide +kernel
theorem dX12_statementTold_128 : decode cX12_statementTold 128 = .ok (.invokevirtual 389, 3) := by decide +kernel
theorem dX12_statementTold_131 : decode cX12_statementTold 131 = .ok (.goto 91, 3) := by decide +kernel
theorem dX12_statementTold_134 : decode cX12_statementTold 134 = .ok (.aload_n 0, 1) := by decide +kernel
theorem dX12_statementTold_135 : decode cX12_statementTold 135 = .ok (.aload_n 0, 1) := by decide +kernel
theorem dX12_statementTold_136 : decode cX12_statementTold 136 = .ok (.getfield 60, 3) := by decide +kernel
theorem dX12_statementTold_139 : decode cX12_statementTold 139 = .ok (.invokevirtual 290, 3) := by decide +kernel
theorem dX12_statementTold_142 : decode cX12_statementTold 142 = .ok (.ifCond .eq 12, 3) := by decide +kernel
theorem dX12_statementTold_145 : decode cX12_statementTold 145 = .ok (.aload_n 0, 1) := by decide +kernel
theorem dX12_statementTold_146 : decode cX12_statementTold 146 = .ok (.iconst 0, 1) := by decide +kernel
theorem dX12_statementTold_147 : decode cX12_statementTold 147 = .ok (.iload_n 1, 1) := by decide +kernel
theorem dX12_statementTold_148 : decode cX12_statementTold 148 = .ok (.invokevirtual 392, 3) := by decide +kernel
theorem dX12_statementTold_151 : decode cX12_statementTold 151 = .ok (.goto 71, 3) := by decide +kernel
theorem dX12_statementTold_154 : decode cX12_statementTold 154 = .ok (.aload_n 0, 1) := by decide +kernel
theorem dX12_statementTold_155 : decode cX12_statementTold 155 = .ok (.aload_n 0, 1) := by decide +kernel
theorem dX12_statementTold_156 : decode cX12_statementTold 156 = .ok (.getfield 63, 3) := by decide +kernel
theorem dX12_statementTold_159 : decode cX12_statementTold 159 = .ok (.invokevirtual 290, 3) := by decide +kernel
theorem dX12_statementTold_162 : decode cX12_statementTold 162 = .ok (.ifCond .eq 12, 3) := by decide +kernel
theorem dX12_statementTold_165 : decode cX12_statementTold 165 = .ok (.aload_n 0, 1) := by decide +kernel
theorem dX12_statementTold_166 : decode cX12_statementTold 166 = .ok (.iconst 1, 1) := by decide +kernel
theorem dX12_statementTold_167 : decode cX12_statementTold 167 = .ok (.iload_n 1, 1) := by decide +kernel
theorem dX12_statementTold_168 : decode cX12_statementTold 168 = .ok (.invokevirtual 392, 3) := by decide +kernel
theorem dX12_statementTold_171 : decode cX12_statementTold 171 = .ok (.goto 51, 3) := by decide +kernel
theorem dX12_statementTold_174 : decode cX12_statementTold 174 = .ok (.aload_n 0, 1) := by decide +kernel
theorem dX12_statementTold_175 : decode cX12_statementTold 175 = .ok (.aload_n 0, 1) := by decide +kernel
theorem dX12_statementTold_176 : decode cX12_statementTold 176 = .ok (.getfield 66, 3) := by decide +kernel
theorem dX12_statementTold_179 : decode cX12_statementTold 179 = .ok (.invokevirtual 290, 3) := by decide +kernel
theorem dX12_statementTold_182 : decode cX12_statementTold 182 = .ok (.ifCond .eq 19, 3) := by decide +kernel
theorem dX12_statementTold_185 : decode cX12_statementTold 185 = .ok (.aload_n 0, 1) := by decide +kernel
theorem dX12_statementTold_186 : decode cX12_statementTold 186 = .ok (.getfield 130, 3) := by decide +kernel
theorem dX12_statementTold_189 : decode cX12_statementTold 189 = .ok (.iconst 0, 1) := by decide +kernel
theorem dX12_statementTold_190 : decode cX12_statementTold 190 = .ok (.aload_n 0, 1) := by decide +kernel
theorem dX12_statementTold_191 : decode cX12_statementTold 191 = .ok (.iconst 0, 1) := by decide +kernel
theorem dX12_statementTold_192 : decode cX12_statementTold 192 = .ok (.bipush 99, 2) := by decide +kernel
theorem dX12_statementTold_194 : decode cX12_statementTold 194 = .ok (.invokevirtual 341, 3) := by decide +kernel
theorem dX12_statementTold_197 : decode cX12_statementTold 197 = .ok (.iastore, 1) := by decide +kernel
theorem dX12_statementTold_198 : decode cX12_statementTold 198 = .ok (.goto 24, 3) := by decide +kernel
theorem dX12_statementTold_201 : decode cX12_statementTold 201 = .ok (.aload_n 0, 1) := by decide +kernel
theorem dX12_statementTold_202 : decode cX12_statementTold 202 = .ok (.aload_n 0, 1) := by decide +kernel
theorem dX12_statementTold_203 : decode cX12_statementTold 203 = .ok (.getfield 69, 3) := by decide +kernel
theorem dX12_statementTold_206 : decode cX12_statementTold 206 = .ok (.invokevirtual 337, 3) := by decide +kernel
theorem dX12_statementTold_209 : decode cX12_statementTold 209 = .ok (.aload_n 0, 1) := by decide +kernel
theorem dX12_statementTold_210 : decode cX12_statementTold 210 = .ok (.getfield 130, 3) := by decide +kernel
theorem dX12_statementTold_213 : decode cX12_statementTold 213 = .ok (.iconst 1, 1) := by decide +kernel
theorem dX12_statementTold_214 : decode cX12_statementTold 214 = .ok (.aload_n 0, 1) := by decide +kernel
theorem dX12_statementTold_215 : decode cX12_statementTold 215 = .ok (.iconst 0, 1) := by decide +kernel
theorem dX12_statementTold_216 : decode cX12_statementTold 216 = .ok (.bipush 100, 2) := by decide +kernel
theorem dX12_statementTold_218 : decode cX12_statementTold 218 = .ok (.invokevirtual 341, 3) := by decide +kernel
theorem dX12_statementTold_221 : decode cX12_statementTold 221 = .ok (.iastore, 1) := by decide +kernel
theorem dX12_statementTold_222 : decode cX12_statementTold 222 = .ok (.aload_n 0, 1) := by decide +kernel
theorem dX12_statementTold_223 : decode cX12_statementTold 223 = .ok (.bipush 59, 2) := by decide +kernel
theorem dX12_statementTold_225 : decode cX12_statementTold 225 = .ok (.invokevirtual 395, 3) := by decide +kernel
theorem dX12_statementTold_228 : decode cX12_statementTold 228 = .ok (.aload_n 0, 1) := by decide +kernel
theorem dX12_statementTold_229 : decode cX12_statementTold 229 = .ok (.dup, 1) := by decide +kernel
theorem dX12_statementTold_230 : decode cX12_statementTold 230 = .ok (.getfield 370, 3) := by decide +kernel
theorem dX12_statementTold_233 : decode cX12_statementTold 233 = .ok (.iconst 1, 1) := by decide +kernel
theorem dX12_statementTold_234 : decode cX12_statementTold 234 = .ok (.iadd, 1) := by decide +kernel
theorem dX12_statementTold_235 : decode cX12_statementTold 235 = .ok (.putfield 370, 3) := by decide +kernel
theorem dX12_statementTold_238 : decode cX12_statementTold 238 = .ok (.return_, 1) := by decide +kernel
theorem dX12_ask_0 : decode cX12_ask 0 = .ok (.aload_n 0, 1) := by decide +kernel
theorem dX12_ask_1 : decode cX12_ask 1 = .ok (.aload_n 0, 1) := by decide +kernel
theorem dX12_ask_2 : decode cX12_ask 2 = .ok (.getfield 260, 3) := by decide +kernel
theorem dX12_ask_5 : decode cX12_ask 5 = .ok (.putfield 272, 3) := by decide +kernel
theorem dX12_ask_8 : decode cX12_ask 8 = .ok (.aload_n 0, 1) := by decide +kernel
theorem dX12_ask_9 : decode cX12_ask 9 = .ok (.iconst 0, 1) := by decide +kernel
theorem dX12_ask_10 : decode cX12_ask 10 = .ok (.putfield 260, 3) := by decide +kernel
theorem dX12_ask_13 : decode cX12_ask 13 = .ok (.aload_n 0, 1) := by decide +kernel
theorem dX12_ask_14 : decode cX12_ask 14 = .ok (.iconst 0, 1) := by decide +kernel
theorem dX12_ask_15 : decode cX12_ask 15 = .ok (.putfield 269, 3) := by decide +kernel
theorem dX12_ask_18 : decode cX12_ask 18 = .ok (.aload_n 0, 1) := by decide +kernel
theorem dX12_ask_19 : decode cX12_ask 19 = .ok (.iconst (-1), 1) := by decide +kernel
theorem dX12_ask_20 : decode cX12_ask 20 = .ok (.putfield 283, 3) := by decide +kernel
theorem dX12_ask_23 : decode cX12_ask 23 = .ok (.aload_n 0, 1) := by decide +kernel
theorem dX12_ask_24 : decode cX12_ask 24 = .ok (.iconst 0, 1) := by decide +kernel
theorem dX12_ask_25 : decode cX12_ask 25 = .ok (.putfield 263, 3) := by decide +kernel
theorem dX12_ask_28 : decode cX12_ask 28 = .ok (.aload_n 0, 1) := by decide +kernel
theorem dX12_ask_29 : decode cX12_ask 29 = .ok (.iconst (-1), 1) := by decide +kernel
theorem dX12_ask_30 : decode cX12_ask 30 = .ok (.putfield 266, 3) := by decide +kernel
theorem dX12_ask_33 : decode cX12_ask 33 = .ok (.aload_n 0, 1) := by decide +kernel
theorem dX12_ask_34 : decode cX12_ask 34 = .ok (.iconst 0, 1) := by decide +kernel
theorem dX12_ask_35 : decode cX12_ask 35 = .ok (.putfield 318, 3) := by decide +kernel
theorem dX12_ask_38 : decode cX12_ask 38 = .ok (.aload_n 0, 1) := by decide +kernel
theorem dX12_ask_39 : decode cX12_ask 39 = .ok (.iconst 0, 1) := by decide +kernel
theorem dX12_ask_40 : decode cX12_ask 40 = .ok (.putfield 352, 3) := by decide +kernel
theorem dX12_ask_43 : decode cX12_ask 43 = .ok (.aload_n 0, 1) := by decide +kernel
theorem dX12_ask_44 : decode cX12_ask 44 = .ok (.iconst 0, 1) := by decide +kernel
theorem dX12_ask_45 : decode cX12_ask 45 = .ok (.putfield 355, 3) := by decide +kernel
theorem dX12_ask_48 : decode cX12_ask 48 = .ok (.aload_n 0, 1) := by decide +kernel
theorem dX12_ask_49 : decode cX12_ask 49 = .ok (.iconst 0, 1) := by decide +kernel
theorem dX12_ask_50 : decode cX12_ask 50 = .ok (.putfield 358, 3) := by decide +kernel
theorem dX12_ask_53 : decode cX12_ask 53 = .ok (.aload_n 0, 1) := by decide +kernel
theorem dX12_ask_54 : decode cX12_ask 54 = .ok (.iconst 0, 1) := by decide +kernel
theorem dX12_ask_55 : decode cX12_ask 55 = .ok (.putfield 361, 3) := by decide +kernel
theorem dX12_ask_58 : decode cX12_ask 58 = .ok (.aload_n 0, 1) := by decide +kernel
theorem dX12_ask_59 : decode cX12_ask 59 = .ok (.invokevirtual 672, 3) := by decide +kernel
theorem dX12_ask_62 : decode cX12_ask 62 = .ok (.istore_n 1, 1) := by decide +kernel
theorem dX12_ask_63 : decode cX12_ask 63 = .ok (.aload_n 0, 1) := by decide +kernel
theorem dX12_ask_64 : decode cX12_ask 64 = .ok (.getfield 263, 3) := by decide +kernel
theorem dX12_ask_67 : decode cX12_ask 67 = .ok (.ifCond .ne 15, 3) := by decide +kernel
theorem dX12_ask_70 : decode cX12_ask 70 = .ok (.iload_n 1, 1) := by decide +kernel
theorem dX12_ask_71 : decode cX12_ask 71 = .ok (.iconst 3, 1) := by decide +kernel
theorem dX12_ask_72 : decode cX12_ask 72 = .ok (.if_icmp .ge 10, 3) := by decide +kernel
theorem dX12_ask_75 : decode cX12_ask 75 = .ok (.aload_n 0, 1) := by decide +kernel
theorem dX12_ask_76 : decode cX12_ask 76 = .ok (.invokevirtual 675, 3) := by decide +kernel
theorem dX12_ask_79 : decode cX12_ask 79 = .ok (.goto 14, 3) := by decide +kernel
theorem dX12_ask_82 : decode cX12_ask 82 = .ok (.aload_n 0, 1) := by decide +kernel
theorem dX12_ask_83 : decode cX12_ask 83 = .ok (.getfield 263, 3) := by decide +kernel
theorem dX12_ask_86 : decode cX12_ask 86 = .ok (.ifCond .ne 7, 3) := by decide +kernel
theorem dX12_ask_89 : decode cX12_ask 89 = .ok (.aload_n 0, 1) := by decide +kernel
theorem dX12_ask_90 : decode cX12_ask 90 = .ok (.invokevirtual 364, 3) := by decide +kernel
theorem dX12_ask_93 : decode cX12_ask 93 = .ok (.aload_n 0, 1) := by decide +kernel
theorem dX12_ask_94 : decode cX12_ask 94 = .ok (.getfield 263, 3) := by decide +kernel
theorem dX12_ask_97 : decode cX12_ask 97 = .ok (.ifCond .ne 20, 3) := by decide +kernel
theorem dX12_ask_100 : decode cX12_ask 100 = .ok (.aload_n 0, 1) := by decide +kernel
theorem dX12_ask_101 : decode cX12_ask 101 = .ok (.invokevirtual 275, 3) := by decide +kernel
theorem dX12_ask_104 : decode cX12_ask 104 = .ok (.iconst (-1), 1) := by decide +kernel
theorem dX12_ask_105 : decode cX12_ask 105 = .ok (.if_icmp .eq 12, 3) := by decide +kernel
theorem dX12_ask_108 : decode cX12_ask 108 = .ok (.aload_n 0, 1) := by decide +kernel
theorem dX12_ask_109 : decode cX12_ask 109 = .ok (.iconst 1, 1) := by decide +kernel
theorem dX12_ask_110 : decode cX12_ask 110 = .ok (.aload_n 0, 1) := by decide +kernel
theorem dX12_ask_111 : decode cX12_ask 111 = .ok (.getfield 269, 3) := by decide +kernel
theorem dX12_ask_114 : decode cX12_ask 114 = .ok (.invokevirtual 293, 3) := by decide +kernel
theorem dX12_ask_117 : decode cX12_ask 117 = .ok (.aload_n 0, 1) := by decide +kernel
theorem dX12_ask_118 : decode cX12_ask 118 = .ok (.aload_n 0, 1) := by decide +kernel
theorem dX12_ask_119 : decode cX12_ask 119 = .ok (.getfield 263, 3) := by decide +kernel
theorem dX12_ask_122 : decode cX12_ask 122 = .ok (.putfield 401, 3) := by decide +kernel
theorem dX12_ask_125 : decode cX12_ask 125 = .ok (.aload_n 0, 1) := by decide +kernel
theorem dX12_ask_126 : decode cX12_ask 126 = .ok (.aload_n 0, 1) := by decide +kernel
theorem dX12_ask_127 : decode cX12_ask 127 = .ok (.getfield 266, 3) := by decide +kernel
theorem dX12_ask_130 : decode cX12_ask 130 = .ok (.putfield 13, 3) := by decide +kernel
theorem dX12_ask_133 : decode cX12_ask 133 = .ok (.aload_n 0, 1) := by decide +kernel
theorem dX12_ask_134 : decode cX12_ask 134 = .ok (.getfield 263, 3) := by decide +kernel
theorem dX12_ask_137 : decode cX12_ask 137 = .ok (.ifCond .eq 7, 3) := by decide +kernel
theorem dX12_ask_140 : decode cX12_ask 140 = .ok (.ldc2_w 519, 3) := by decide +kernel
theorem dX12_ask_143 : decode cX12_ask 143 = .ok (.lreturn, 1) := by decide +kernel
theorem dX12_ask_144 : decode cX12_ask 144 = .ok (.aload_n 0, 1) := by decide +kernel
theorem dX12_ask_145 : decode cX12_ask 145 = .ok (.iload_n 1, 1) := by decide +kernel
theorem dX12_ask_146 : decode cX12_ask 146 = .ok (.iconst 2, 1) := by decide +kernel
theorem dX12_ask_147 : decode cX12_ask 147 = .ok (.if_icmp .ge 9, 3) := by decide +kernel
theorem dX12_ask_150 : decode cX12_ask 150 = .ok (.ldc2_w 667, 3) := by decide +kernel
theorem dX12_ask_153 : decode cX12_ask 153 = .ok (.goto 4, 3) := by decide +kernel
theorem dX12_ask_156 : decode cX12_ask 156 = .ok (.lconst 0, 1) := by decide +kernel
theorem dX12_ask_157 : decode cX12_ask 157 = .ok (.putfield 664, 3) := by decide +kernel
theorem dX12_ask_160 : decode cX12_ask 160 = .ok (.aload_n 0, 1) := by decide +kernel
theorem dX12_ask_161 : decode cX12_ask 161 = .ok (.iconst 1, 1) := by decide +kernel
theorem dX12_ask_162 : decode cX12_ask 162 = .ok (.putfield 669, 3) := by decide +kernel
theorem dX12_ask_165 : decode cX12_ask 165 = .ok (.aload_n 0, 1) := by decide +kernel
theorem dX12_ask_166 : decode cX12_ask 166 = .ok (.iconst 0, 1) := by decide +kernel
theorem dX12_ask_167 : decode cX12_ask 167 = .ok (.putfield 318, 3) := by decide +kernel
theorem dX12_ask_170 : decode cX12_ask 170 = .ok (.iconst 0, 1) := by decide +kernel
theorem dX12_ask_171 : decode cX12_ask 171 = .ok (.istore_n 2, 1) := by decide +kernel
theorem dX12_ask_172 : decode cX12_ask 172 = .ok (.iload_n 2, 1) := by decide +kernel
theorem dX12_ask_173 : decode cX12_ask 173 = .ok (.aload_n 0, 1) := by decide +kernel
theorem dX12_ask_174 : decode cX12_ask 174 = .ok (.invokevirtual 419, 3) := by decide +kernel
theorem dX12_ask_177 : decode cX12_ask 177 = .ok (.if_icmp .ge 20, 3) := by decide +kernel
theorem dX12_ask_180 : decode cX12_ask 180 = .ok (.aload_n 0, 1) := by decide +kernel
theorem dX12_ask_181 : decode cX12_ask 181 = .ok (.iload_n 1, 1) := by decide +kernel
theorem dX12_ask_182 : decode cX12_ask 182 = .ok (.aload_n 0, 1) := by decide +kernel
theorem dX12_ask_183 : decode cX12_ask 183 = .ok (.iload_n 2, 1) := by decide +kernel
theorem dX12_ask_184 : decode cX12_ask 184 = .ok (.invokevirtual 678, 3) := by decide +kernel
theorem dX12_ask_187 : decode cX12_ask 187 = .ok (.iload_n 2, 1) := by decide +kernel
theorem dX12_ask_188 : decode cX12_ask 188 = .ok (.invokevirtual 682, 3) := by decide +kernel
theorem dX12_ask_191 : decode cX12_ask 191 = .ok (.iinc 2 1, 3) := by decide +kernel
theorem dX12_ask_194 : decode cX12_ask 194 = .ok (.goto (-22), 3) := by decide +kernel
theorem dX12_ask_197 : decode cX12_ask 197 = .ok (.aload_n 0, 1) := by decide +kernel
theorem dX12_ask_198 : decode cX12_ask 198 = .ok (.getfield 664, 3) := by decide +kernel
theorem dX12_ask_201 : decode cX12_ask 201 = .ok (.lreturn, 1) := by decide +kernel
theorem dX12_qIsOn_0 : decode cX12_qIsOn 0 = .ok (.aload_n 0, 1) := by decide +kernel
theorem dX12_qIsOn_1 : decode cX12_qIsOn 1 = .ok (.getfield 355, 3) := by decide +kernel
theorem dX12_qIsOn_4 : decode cX12_qIsOn 4 = .ok (.ifCond .le 22, 3) := by decide +kernel
theorem dX12_qIsOn_7 : decode cX12_qIsOn 7 = .ok (.aload_n 0, 1) := by decide +kernel
theorem dX12_qIsOn_8 : decode cX12_qIsOn 8 = .ok (.getfield 251, 3) := by decide +kernel
theorem dX12_qIsOn_11 : decode cX12_qIsOn 11 = .ok (.aload_n 0, 1) := by decide +kernel
theorem dX12_qIsOn_12 : decode cX12_qIsOn 12 = .ok (.getfield 355, 3) := by decide +kernel
theorem dX12_qIsOn_15 : decode cX12_qIsOn 15 = .ok (.iconst 1, 1) := by decide +kernel
theorem dX12_qIsOn_16 : decode cX12_qIsOn 16 = .ok (.isub, 1) := by decide +kernel
theorem dX12_qIsOn_17 : decode cX12_qIsOn 17 = .ok (.iaload, 1) := by decide +kernel
theorem dX12_qIsOn_18 : decode cX12_qIsOn 18 = .ok (.iload_n 1, 1) := by decide +kernel
theorem dX12_qIsOn_19 : decode cX12_qIsOn 19 = .ok (.if_icmp .ne 7, 3) := by decide +kernel
theorem dX12_qIsOn_22 : decode cX12_qIsOn 22 = .ok (.iconst 1, 1) := by decide +kernel
theorem dX12_qIsOn_23 : decode cX12_qIsOn 23 = .ok (.goto 4, 3) := by decide +kernel
theorem dX12_qIsOn_26 : decode cX12_qIsOn 26 = .ok (.iconst 0, 1) := by decide +kernel
theorem dX12_qIsOn_27 : decode cX12_qIsOn 27 = .ok (.ireturn, 1) := by decide +kernel
theorem dX12_has_0 : decode cX12_has 0 = .ok (.iload_n 1, 1) := by decide +kernel
theorem dX12_has_1 : decode cX12_has 1 = .ok (.tableswitch 103 0 11 #[63, 63, 63, 63, 63, 72, 79, 79, 79, 88, 93, 98], 63) := by decide +kernel
theorem dX12_has_64 : decode cX12_has 64 = .ok (.aload_n 0, 1) := by decide +kernel
theorem dX12_has_65 : decode cX12_has 65 = .ok (.getfield 105, 3) := by decide +kernel
theorem dX12_has_68 : decode cX12_has 68 = .ok (.iconst 5, 1) := by decide +kernel
theorem dX12_has_69 : decode cX12_has 69 = .ok (.iload_n 1, 1) := by decide +kernel
theorem dX12_has_70 : decode cX12_has 70 = .ok (.iadd, 1) := by decide +kernel
theorem dX12_has_71 : decode cX12_has 71 = .ok (.iaload, 1) := by decide +kernel
theorem dX12_has_72 : decode cX12_has 72 = .ok (.ireturn, 1) := by decide +kernel
theorem dX12_has_73 : decode cX12_has 73 = .ok (.aload_n 0, 1) := by decide +kernel
theorem dX12_has_74 : decode cX12_has 74 = .ok (.getfield 142, 3) := by decide +kernel
theorem dX12_has_77 : decode cX12_has 77 = .ok (.iconst 0, 1) := by decide +kernel
theorem dX12_has_78 : decode cX12_has 78 = .ok (.iaload, 1) := by decide +kernel
theorem dX12_has_79 : decode cX12_has 79 = .ok (.ireturn, 1) := by decide +kernel
theorem dX12_has_80 : decode cX12_has 80 = .ok (.aload_n 0, 1) := by decide +kernel
theorem dX12_has_81 : decode cX12_has 81 = .ok (.iload_n 1, 1) := by decide +kernel
theorem dX12_has_82 : decode cX12_has 82 = .ok (.bipush 6, 2) := by decide +kernel
theorem dX12_has_84 : decode cX12_has 84 = .ok (.isub, 1) := by decide +kernel
theorem dX12_has_85 : decode cX12_has 85 = .ok (.invokevirtual 491, 3) := by decide +kernel
theorem dX12_has_88 : decode cX12_has 88 = .ok (.ireturn, 1) := by decide +kernel
theorem dX12_has_89 : decode cX12_has 89 = .ok (.aload_n 0, 1) := by decide +kernel
theorem dX12_has_90 : decode cX12_has 90 = .ok (.invokevirtual 494, 3) := by decide +kernel
theorem dX12_has_93 : decode cX12_has 93 = .ok (.ireturn, 1) := by decide +kernel
theorem dX12_has_94 : decode cX12_has 94 = .ok (.aload_n 0, 1) := by decide +kernel
theorem dX12_has_95 : decode cX12_has 95 = .ok (.getfield 416, 3) := by decide +kernel
theorem dX12_has_98 : decode cX12_has 98 = .ok (.ireturn, 1) := by decide +kernel
theorem dX12_has_99 : decode cX12_has 99 = .ok (.aload_n 0, 1) := by decide +kernel
theorem dX12_has_100 : decode cX12_has 100 = .ok (.getfield 413, 3) := by decide +kernel
theorem dX12_has_103 : decode cX12_has 103 = .ok (.ireturn, 1) := by decide +kernel
theorem dX12_has_104 : decode cX12_has 104 = .ok (.iconst (-1), 1) := by decide +kernel
theorem dX12_has_105 : decode cX12_has 105 = .ok (.ireturn, 1) := by decide +kernel
theorem dX12_qTest_0 : decode cX12_qTest 0 = .ok (.iconst 1, 1) := by decide +kernel
theorem dX12_qTest_1 : decode cX12_qTest 1 = .ok (.istore_n 1, 1) := by decide +kernel
theorem dX12_qTest_2 : decode cX12_qTest 2 = .ok (.iload_n 1, 1) := by decide +kernel
theorem dX12_qTest_3 : decode cX12_qTest 3 = .ok (.ifCond .eq 107, 3) := by decide +kernel
theorem dX12_qTest_6 : decode cX12_qTest 6 = .ok (.aload_n 0, 1) := by decide +kernel
theorem dX12_qTest_7 : decode cX12_qTest 7 = .ok (.getfield 263, 3) := by decide +kernel
theorem dX12_qTest_10 : decode cX12_qTest 10 = .ok (.ifCond .ne 100, 3) := by decide +kernel
theorem dX12_qTest_13 : decode cX12_qTest 13 = .ok (.aload_n 0, 1) := by decide +kernel
theorem dX12_qTest_14 : decode cX12_qTest 14 = .ok (.invokevirtual 275, 3) := by decide +kernel
theorem dX12_qTest_17 : decode cX12_qTest 17 = .ok (.istore_n 2, 1) := by decide +kernel
theorem dX12_qTest_18 : decode cX12_qTest 18 = .ok (.iload_n 2, 1) := by decide +kernel
theorem dX12_qTest_19 : decode cX12_qTest 19 = .ok (.bipush 91, 2) := by decide +kernel
theorem dX12_qTest_21 : decode cX12_qTest 21 = .ok (.if_icmp .ne 26, 3) := by decide +kernel
theorem dX12_qTest_24 : decode cX12_qTest 24 = .ok (.aload_n 0, 1) := by decide +kernel
theorem dX12_qTest_25 : decode cX12_qTest 25 = .ok (.bipush 25, 2) := by decide +kernel
theorem dX12_qTest_27 : decode cX12_qTest 27 = .ok (.aload_n 0, 1) := by decide +kernel
theorem dX12_qTest_28 : decode cX12_qTest 28 = .ok (.getfield 269, 3) := by decide +kernel
theorem dX12_qTest_31 : decode cX12_qTest 31 = .ok (.invokevirtual 612, 3) := by decide +kernel
theorem dX12_qTest_34 : decode cX12_qTest 34 = .ok (.aload_n 0, 1) := by decide +kernel
theorem dX12_qTest_35 : decode cX12_qTest 35 = .ok (.dup, 1) := by decide +kernel
theorem dX12_qTest_36 : decode cX12_qTest 36 = .ok (.getfield 269, 3) := by decide +kernel
theorem dX12_qTest_39 : decode cX12_qTest 39 = .ok (.iconst 1, 1) := by decide +kernel
theorem dX12_qTest_40 : decode cX12_qTest 40 = .ok (.iadd, 1) := by decide +kernel
theorem dX12_qTest_41 : decode cX12_qTest 41 = .ok (.putfield 269, 3) := by decide +kernel
theorem dX12_qTest_44 : decode cX12_qTest 44 = .ok (.goto (-42), 3) := by decide +kernel
theorem dX12_qTest_47 : decode cX12_qTest 47 = .ok (.aload_n 0, 1) := by decide +kernel
theorem dX12_qTest_48 : decode cX12_qTest 48 = .ok (.aload_n 0, 1) := by decide +kernel
theorem dX12_qTest_49 : decode cX12_qTest 49 = .ok (.getfield 197, 3) := by decide +kernel
theorem dX12_qTest_52 : decode cX12_qTest 52 = .ok (.invokevirtual 286, 3) := by decide +kernel
theorem dX12_qTest_55 : decode cX12_qTest 55 = .ok (.ifCond .eq 24, 3) := by decide +kernel
theorem dX12_qTest_58 : decode cX12_qTest 58 = .ok (.aload_n 0, 1) := by decide +kernel
theorem dX12_qTest_59 : decode cX12_qTest 59 = .ok (.bipush 12, 2) := by decide +kernel
theorem dX12_qTest_61 : decode cX12_qTest 61 = .ok (.aload_n 0, 1) := by decide +kernel
theorem dX12_qTest_62 : decode cX12_qTest 62 = .ok (.getfield 269, 3) := by decide +kernel
theorem dX12_qTest_65 : decode cX12_qTest 65 = .ok (.invokevirtual 612, 3) := by decide +kernel
theorem dX12_qTest_68 : decode cX12_qTest 68 = .ok (.aload_n 0, 1) := by decide +kernel
theorem dX12_qTest_69 : decode cX12_qTest 69 = .ok (.aload_n 0, 1) := by decide +kernel
theorem dX12_qTest_70 : decode cX12_qTest 70 = .ok (.getfield 197, 3) := by decide +kernel
theorem dX12_qTest_73 : decode cX12_qTest 73 = .ok (.invokevirtual 337, 3) := by decide +kernel
theorem dX12_qTest_76 : decode cX12_qTest 76 = .ok (.goto (-74), 3) := by decide +kernel
theorem dX12_qTest_79 : decode cX12_qTest 79 = .ok (.aload_n 0, 1) := by decide +kernel
theorem dX12_qTest_80 : decode cX12_qTest 80 = .ok (.invokevirtual 636, 3) := by decide +kernel
theorem dX12_qTest_83 : decode cX12_qTest 83 = .ok (.aload_n 0, 1) := by decide +kernel
theorem dX12_qTest_84 : decode cX12_qTest 84 = .ok (.invokevirtual 639, 3) := by decide +kernel
theorem dX12_qTest_87 : decode cX12_qTest 87 = .ok (.aload_n 0, 1) := by decide +kernel
theorem dX12_qTest_88 : decode cX12_qTest 88 = .ok (.getfield 263, 3) := by decide +kernel
theorem dX12_qTest_91 : decode cX12_qTest 91 = .ok (.ifCond .ne 14, 3) := by decide +kernel
theorem dX12_qTest_94 : decode cX12_qTest 94 = .ok (.aload_n 0, 1) := by decide +kernel
theorem dX12_qTest_95 : decode cX12_qTest 95 = .ok (.invokevirtual 642, 3) := by decide +kernel
theorem dX12_qTest_98 : decode cX12_qTest 98 = .ok (.ifCond .eq 7, 3) := by decide +kernel
theorem dX12_qTest_101 : decode cX12_qTest 101 = .ok (.iconst 1, 1) := by decide +kernel
theorem dX12_qTest_102 : decode cX12_qTest 102 = .ok (.goto 4, 3) := by decide +kernel
theorem dX12_qTest_105 : decode cX12_qTest 105 = .ok (.iconst 0, 1) := by decide +kernel
theorem dX12_qTest_106 : decode cX12_qTest 106 = .ok (.istore_n 1, 1) := by decide +kernel
theorem dX12_qTest_107 : decode cX12_qTest 107 = .ok (.goto (-105), 3) := by decide +kernel
theorem dX12_qTest_110 : decode cX12_qTest 110 = .ok (.aload_n 0, 1) := by decide +kernel
theorem dX12_qTest_111 : decode cX12_qTest 111 = .ok (.getfield 263, 3) := by decide +kernel
theorem dX12_qTest_114 : decode cX12_qTest 114 = .ok (.ifCond .ne 17, 3) := by decide +kernel
theorem dX12_qTest_117 : decode cX12_qTest 117 = .ok (.aload_n 0, 1) := by decide +kernel
theorem dX12_qTest_118 : decode cX12_qTest 118 = .ok (.getfield 355, 3) := by decide +kernel
theorem dX12_qTest_121 : decode cX12_qTest 121 = .ok (.ifCond .le 10, 3) := by decide +kernel
theorem dX12_qTest_124 : decode cX12_qTest 124 = .ok (.aload_n 0, 1) := by decide +kernel
theorem dX12_qTest_125 : decode cX12_qTest 125 = .ok (.invokevirtual 600, 3) := by decide +kernel
theorem dX12_qTest_128 : decode cX12_qTest 128 = .ok (.goto (-18), 3) := by decide +kernel
theorem dX12_qTest_131 : decode cX12_qTest 131 = .ok (.return_, 1) := by decide +kernel
theorem dX12_giftMany_0 : decode cX12_giftMany 0 = .ok (.aload_n 0, 1) := by decide +kernel
theorem dX12_giftMany_1 : decode cX12_giftMany 1 = .ok (.getfield 105, 3) := by decide +kernel
theorem dX12_giftMany_4 : decode cX12_giftMany 4 = .ok (.bipush 6, 2) := by decide +kernel
theorem dX12_giftMany_6 : decode cX12_giftMany 6 = .ok (.iaload, 1) := by decide +kernel
theorem dX12_giftMany_7 : decode cX12_giftMany 7 = .ok (.ireturn, 1) := by decide +kernel
theorem dX12_giftOf_0 : decode cX12_giftOf 0 = .ok (.aload_n 0, 1) := by decide +kernel
theorem dX12_giftOf_1 : decode cX12_giftOf 1 = .ok (.getfield 142, 3) := by decide +kernel
theorem dX12_giftOf_4 : decode cX12_giftOf 4 = .ok (.bipush 8, 2) := by decide +kernel
theorem dX12_giftOf_6 : decode cX12_giftOf 6 = .ok (.iconst 3, 1) := by decide +kernel
theorem dX12_giftOf_7 : decode cX12_giftOf 7 = .ok (.iload_n 1, 1) := by decide +kernel
theorem dX12_giftOf_8 : decode cX12_giftOf 8 = .ok (.imul, 1) := by decide +kernel
theorem dX12_giftOf_9 : decode cX12_giftOf 9 = .ok (.iadd, 1) := by decide +kernel
theorem dX12_giftOf_10 : decode cX12_giftOf 10 = .ok (.iconst 2, 1) := by decide +kernel
theorem dX12_giftOf_11 : decode cX12_giftOf 11 = .ok (.iadd, 1) := by decide +kernel
theorem dX12_giftOf_12 : decode cX12_giftOf 12 = .ok (.iaload, 1) := by decide +kernel
theorem dX12_giftOf_13 : decode cX12_giftOf 13 = .ok (.ireturn, 1) := by decide +kernel
theorem dX12_qTold_0 : decode cX12_qTold 0 = .ok (.aload_n 0, 1) := by decide +kernel
theorem dX12_qTold_1 : decode cX12_qTold 1 = .ok (.iconst 0, 1) := by decide +kernel
theorem dX12_qTold_2 : decode cX12_qTold 2 = .ok (.putfield 431, 3) := by decide +kernel
theorem dX12_qTold_5 : decode cX12_qTold 5 = .ok (.iconst 0, 1) := by decide +kernel
theorem dX12_qTold_6 : decode cX12_qTold 6 = .ok (.istore_n 2, 1) := by decide +kernel
theorem dX12_qTold_7 : decode cX12_qTold 7 = .ok (.iload_n 2, 1) := by decide +kernel
theorem dX12_qTold_8 : decode cX12_qTold 8 = .ok (.aload_n 0, 1) := by decide +kernel
theorem dX12_qTold_9 : decode cX12_qTold 9 = .ok (.getfield 352, 3) := by decide +kernel
theorem dX12_qTold_12 : decode cX12_qTold 12 = .ok (.if_icmp .ge 156, 3) := by decide +kernel
theorem dX12_qTold_15 : decode cX12_qTold 15 = .ok (.aload_n 0, 1) := by decide +kernel
theorem dX12_qTold_16 : decode cX12_qTold 16 = .ok (.getfield 248, 3) := by decide +kernel
theorem dX12_qTold_19 : decode cX12_qTold 19 = .ok (.iload_n 2, 1) := by decide +kernel
theorem dX12_qTold_20 : decode cX12_qTold 20 = .ok (.iaload, 1) := by decide +kernel
theorem dX12_qTold_21 : decode cX12_qTold 21 = .ok (.istore_n 3, 1) := by decide +kernel
theorem dX12_qTold_22 : decode cX12_qTold 22 = .ok (.iload_n 3, 1) := by decide +kernel
theorem dX12_qTold_23 : decode cX12_qTold 23 = .ok (.sipush 1000, 3) := by decide +kernel
theorem dX12_qTold_26 : decode cX12_qTold 26 = .ok (.if_icmp .lt 16, 3) := by decide +kernel
theorem dX12_qTold_29 : decode cX12_qTold 29 = .ok (.aload_n 0, 1) := by decide +kernel
theorem dX12_qTold_30 : decode cX12_qTold 30 = .ok (.iload_n 3, 1) := by decide +kernel
theorem dX12_qTold_31 : decode cX12_qTold 31 = .ok (.sipush 1000, 3) := by decide +kernel
theorem dX12_qTold_34 : decode cX12_qTold 34 = .ok (.isub, 1) := by decide +kernel
theorem dX12_qTold_35 : decode cX12_qTold 35 = .ok (.i2l, 1) := by decide +kernel
theorem dX12_qTold_36 : decode cX12_qTold 36 = .ok (.invokevirtual 434, 3) := by decide +kernel
theorem dX12_qTold_39 : decode cX12_qTold 39 = .ok (.goto 123, 3) := by decide +kernel
theorem dX12_qTold_42 : decode cX12_qTold 42 = .ok (.iload_n 3, 1) := by decide +kernel
theorem dX12_qTold_43 : decode cX12_qTold 43 = .ok (.bipush 60, 2) := by decide +kernel
theorem dX12_qTold_45 : decode cX12_qTold 45 = .ok (.if_icmp .lt 40, 3) := by decide +kernel
theorem dX12_qTold_48 : decode cX12_qTold 48 = .ok (.aload_n 0, 1) := by decide +kernel
theorem dX12_qTold_49 : decode cX12_qTold 49 = .ok (.getfield 254, 3) := by decide +kernel
theorem dX12_qTold_52 : decode cX12_qTold 52 = .ok (.aload_n 0, 1) := by decide +kernel
theorem dX12_qTold_53 : decode cX12_qTold 53 = .ok (.getfield 431, 3) := by decide +kernel
theorem dX12_qTold_56 : decode cX12_qTold 56 = .ok (.iconst 1, 1) := by decide +kernel
theorem dX12_qTold_57 : decode cX12_qTold 57 = .ok (.isub, 1) := by decide +kernel
theorem dX12_qTold_58 : decode cX12_qTold 58 = .ok (.aload_n 0, 1) := by decide +kernel
theorem dX12_qTold_59 : decode cX12_qTold 59 = .ok (.iload_n 3, 1) := by decide +kernel
theorem dX12_qTold_60 : decode cX12_qTold 60 = .ok (.bipush 60, 2) := by decide +kernel
theorem dX12_qTold_62 : decode cX12_qTold 62 = .ok (.isub, 1) := by decide +kernel
theorem dX12_qTold_63 : decode cX12_qTold 63 = .ok (.aload_n 0, 1) := by decide +kernel
theorem dX12_qTold_64 : decode cX12_qTold 64 = .ok (.getfield 254, 3) := by decide +kernel
theorem dX12_qTold_67 : decode cX12_qTold 67 = .ok (.aload_n 0, 1) := by decide +kernel
theorem dX12_qTold_68 : decode cX12_qTold 68 = .ok (.getfield 431, 3) := by decide +kernel
theorem dX12_qTold_71 : decode cX12_qTold 71 = .ok (.iconst 1, 1) := by decide +kernel
theorem dX12_qTold_72 : decode cX12_qTold 72 = .ok (.isub, 1) := by decide +kernel
theorem dX12_qTold_73 : decode cX12_qTold 73 = .ok (.laload, 1) := by decide +kernel
theorem dX12_qTold_74 : decode cX12_qTold 74 = .ok (.iload_n 1, 1) := by decide +kernel
theorem dX12_qTold_75 : decode cX12_qTold 75 = .ok (.invokevirtual 660, 3) := by decide +kernel
theorem dX12_qTold_78 : decode cX12_qTold 78 = .ok (.invokestatic 652, 3) := by decide +kernel
theorem dX12_qTold_81 : decode cX12_qTold 81 = .ok (.lastore, 1) := by decide +kernel
theorem dX12_qTold_82 : decode cX12_qTold 82 = .ok (.goto 80, 3) := by decide +kernel
theorem dX12_qTold_85 : decode cX12_qTold 85 = .ok (.iload_n 3, 1) := by decide +kernel
theorem dX12_qTold_86 : decode cX12_qTold 86 = .ok (.bipush 40, 2) := by decide +kernel
theorem dX12_qTold_88 : decode cX12_qTold 88 = .ok (.if_icmp .lt 22, 3) := by decide +kernel
theorem dX12_qTold_91 : decode cX12_qTold 91 = .ok (.aload_n 0, 1) := by decide +kernel
theorem dX12_qTold_92 : decode cX12_qTold 92 = .ok (.aload_n 0, 1) := by decide +kernel
theorem dX12_qTold_93 : decode cX12_qTold 93 = .ok (.iload_n 3, 1) := by decide +kernel
theorem dX12_qTold_94 : decode cX12_qTold 94 = .ok (.bipush 40, 2) := by decide +kernel
theorem dX12_qTold_96 : decode cX12_qTold 96 = .ok (.isub, 1) := by decide +kernel
theorem dX12_qTold_97 : decode cX12_qTold 97 = .ok (.iload_n 1, 1) := by decide +kernel
theorem dX12_qTold_98 : decode cX12_qTold 98 = .ok (.invokevirtual 438, 3) := by decide +kernel
theorem dX12_qTold_101 : decode cX12_qTold 101 = .ok (.invokestatic 652, 3) := by decide +kernel
theorem dX12_qTold_104 : decode cX12_qTold 104 = .ok (.invokevirtual 434, 3) := by decide +kernel
theorem dX12_qTold_107 : decode cX12_qTold 107 = .ok (.goto 55, 3) := by decide +kernel
theorem dX12_qTold_110 : decode cX12_qTold 110 = .ok (.iload_n 3, 1) := by decide +kernel
theorem dX12_qTold_111 : decode cX12_qTold 111 = .ok (.bipush 13, 2) := by decide +kernel
theorem dX12_qTold_113 : decode cX12_qTold 113 = .ok (.if_icmp .ne 11, 3) := by decide +kernel
theorem dX12_qTold_116 : decode cX12_qTold 116 = .ok (.aload_n 0, 1) := by decide +kernel
theorem dX12_qTold_117 : decode cX12_qTold 117 = .ok (.lconst 1, 1) := by decide +kernel
theorem dX12_qTold_118 : decode cX12_qTold 118 = .ok (.invokevirtual 434, 3) := by decide +kernel
theorem dX12_qTold_121 : decode cX12_qTold 121 = .ok (.goto 41, 3) := by decide +kernel
theorem dX12_qTold_124 : decode cX12_qTold 124 = .ok (.iload_n 3, 1) := by decide +kernel
theorem dX12_qTold_125 : decode cX12_qTold 125 = .ok (.bipush 12, 2) := by decide +kernel
theorem dX12_qTold_127 : decode cX12_qTold 127 = .ok (.if_icmp .ne 30, 3) := by decide +kernel
theorem dX12_qTold_130 : decode cX12_qTold 130 = .ok (.aload_n 0, 1) := by decide +kernel
theorem dX12_qTold_131 : decode cX12_qTold 131 = .ok (.getfield 254, 3) := by decide +kernel
theorem dX12_qTold_134 : decode cX12_qTold 134 = .ok (.aload_n 0, 1) := by decide +kernel
theorem dX12_qTold_135 : decode cX12_qTold 135 = .ok (.getfield 431, 3) := by decide +kernel
theorem dX12_qTold_138 : decode cX12_qTold 138 = .ok (.iconst 1, 1) := by decide +kernel
theorem dX12_qTold_139 : decode cX12_qTold 139 = .ok (.isub, 1) := by decide +kernel
theorem dX12_qTold_140 : decode cX12_qTold 140 = .ok (.lconst 1, 1) := by decide +kernel
theorem dX12_qTold_141 : decode cX12_qTold 141 = .ok (.aload_n 0, 1) := by decide +kernel
theorem dX12_qTold_142 : decode cX12_qTold 142 = .ok (.getfield 254, 3) := by decide +kernel
theorem dX12_qTold_145 : decode cX12_qTold 145 = .ok (.aload_n 0, 1) := by decide +kernel
theorem dX12_qTold_146 : decode cX12_qTold 146 = .ok (.getfield 431, 3) := by decide +kernel
theorem dX12_qTold_149 : decode cX12_qTold 149 = .ok (.iconst 1, 1) := by decide +kernel
theorem dX12_qTold_150 : decode cX12_qTold 150 = .ok (.isub, 1) := by decide +kernel
theorem dX12_qTold_151 : decode cX12_qTold 151 = .ok (.laload, 1) := by decide +kernel
theorem dX12_qTold_152 : decode cX12_qTold 152 = .ok (.lsub, 1) := by decide +kernel
theorem dX12_qTold_153 : decode cX12_qTold 153 = .ok (.lastore, 1) := by decide +kernel
theorem dX12_qTold_154 : decode cX12_qTold 154 = .ok (.goto 8, 3) := by decide +kernel
theorem dX12_qTold_157 : decode cX12_qTold 157 = .ok (.aload_n 0, 1) := by decide +kernel
theorem dX12_qTold_158 : decode cX12_qTold 158 = .ok (.iload_n 3, 1) := by decide +kernel
theorem dX12_qTold_159 : decode cX12_qTold 159 = .ok (.invokevirtual 442, 3) := by decide +kernel
theorem dX12_qTold_162 : decode cX12_qTold 162 = .ok (.iinc 2 1, 3) := by decide +kernel
theorem dX12_qTold_165 : decode cX12_qTold 165 = .ok (.goto (-158), 3) := by decide +kernel
theorem dX12_qTold_168 : decode cX12_qTold 168 = .ok (.aload_n 0, 1) := by decide +kernel
theorem dX12_qTold_169 : decode cX12_qTold 169 = .ok (.getfield 254, 3) := by decide +kernel
theorem dX12_qTold_172 : decode cX12_qTold 172 = .ok (.iconst 0, 1) := by decide +kernel
theorem dX12_qTold_173 : decode cX12_qTold 173 = .ok (.laload, 1) := by decide +kernel
theorem dX12_qTold_174 : decode cX12_qTold 174 = .ok (.lreturn, 1) := by decide +kernel
theorem dX12_isNextGroups_0 : decode cX12_isNextGroups 0 = .ok (.aload_n 0, 1) := by decide +kernel
theorem dX12_isNextGroups_1 : decode cX12_isNextGroups 1 = .ok (.invokevirtual 419, 3) := by decide +kernel
theorem dX12_isNextGroups_4 : decode cX12_isNextGroups 4 = .ok (.iconst 1, 1) := by decide +kernel
theorem dX12_isNextGroups_5 : decode cX12_isNextGroups 5 = .ok (.isub, 1) := by decide +kernel
theorem dX12_isNextGroups_6 : decode cX12_isNextGroups 6 = .ok (.istore_n 1, 1) := by decide +kernel
theorem dX12_isNextGroups_7 : decode cX12_isNextGroups 7 = .ok (.iload_n 1, 1) := by decide +kernel
theorem dX12_isNextGroups_8 : decode cX12_isNextGroups 8 = .ok (.ifCond .le 88, 3) := by decide +kernel
theorem dX12_isNextGroups_11 : decode cX12_isNextGroups 11 = .ok (.iconst 0, 1) := by decide +kernel
theorem dX12_isNextGroups_12 : decode cX12_isNextGroups 12 = .ok (.istore_n 2, 1) := by decide +kernel
theorem dX12_isNextGroups_13 : decode cX12_isNextGroups 13 = .ok (.iconst 0, 1) := by decide +kernel
theorem dX12_isNextGroups_14 : decode cX12_isNextGroups 14 = .ok (.istore_n 3, 1) := by decide +kernel
theorem dX12_isNextGroups_15 : decode cX12_isNextGroups 15 = .ok (.iload_n 3, 1) := by decide +kernel
theorem dX12_isNextGroups_16 : decode cX12_isNextGroups 16 = .ok (.iload_n 1, 1) := by decide +kernel
theorem dX12_isNextGroups_17 : decode cX12_isNextGroups 17 = .ok (.if_icmp .ge 26, 3) := by decide +kernel
theorem dX12_isNextGroups_20 : decode cX12_isNextGroups 20 = .ok (.aload_n 0, 1) := by decide +kernel
theorem dX12_isNextGroups_21 : decode cX12_isNextGroups 21 = .ok (.getfield 148, 3) := by decide +kernel
theorem dX12_isNextGroups_24 : decode cX12_isNextGroups 24 = .ok (.iload_n 3, 1) := by decide +kernel
theorem dX12_isNextGroups_25 : decode cX12_isNextGroups 25 = .ok (.iaload, 1) := by decide +kernel
theorem dX12_isNextGroups_26 : decode cX12_isNextGroups 26 = .ok (.iload_n 2, 1) := by decide +kernel
theorem dX12_isNextGroups_27 : decode cX12_isNextGroups 27 = .ok (.if_icmp .le 10, 3) := by decide +kernel
theorem dX12_isNextGroups_30 : decode cX12_isNextGroups 30 = .ok (.aload_n 0, 1) := by decide +kernel
theorem dX12_isNextGroups_31 : decode cX12_isNextGroups 31 = .ok (.getfield 148, 3) := by decide +kernel
theorem dX12_isNextGroups_34 : decode cX12_isNextGroups 34 = .ok (.iload_n 3, 1) := by decide +kernel
theorem dX12_isNextGroups_35 : decode cX12_isNextGroups 35 = .ok (.iaload, 1) := by decide +kernel
theorem dX12_isNextGroups_36 : decode cX12_isNextGroups 36 = .ok (.istore_n 2, 1) := by decide +kernel
theorem dX12_isNextGroups_37 : decode cX12_isNextGroups 37 = .ok (.iinc 3 1, 3) := by decide +kernel
theorem dX12_isNextGroups_40 : decode cX12_isNextGroups 40 = .ok (.goto (-25), 3) := by decide +kernel
theorem dX12_isNextGroups_43 : decode cX12_isNextGroups 43 = .ok (.aload_n 0, 1) := by decide +kernel
theorem dX12_isNextGroups_44 : decode cX12_isNextGroups 44 = .ok (.getfield 148, 3) := by decide +kernel
theorem dX12_isNextGroups_47 : decode cX12_isNextGroups 47 = .ok (.iload_n 1, 1) := by decide +kernel
theorem dX12_isNextGroups_48 : decode cX12_isNextGroups 48 = .ok (.iaload, 1) := by decide +kernel
theorem dX12_isNextGroups_49 : decode cX12_isNextGroups 49 = .ok (.iload_n 2, 1) := by decide +kernel
theorem dX12_isNextGroups_50 : decode cX12_isNextGroups 50 = .ok (.if_icmp .gt 40, 3) := by decide +kernel
theorem dX12_isNextGroups_53 : decode cX12_isNextGroups 53 = .ok (.aload_n 0, 1) := by decide +kernel
theorem dX12_isNextGroups_54 : decode cX12_isNextGroups 54 = .ok (.getfield 148, 3) := by decide +kernel
theorem dX12_isNextGroups_57 : decode cX12_isNextGroups 57 = .ok (.iload_n 1, 1) := by decide +kernel
theorem dX12_isNextGroups_58 : decode cX12_isNextGroups 58 = .ok (.dup2, 1) := by decide +kernel
theorem dX12_isNextGroups_59 : decode cX12_isNextGroups 59 = .ok (.iaload, 1) := by decide +kernel
theorem dX12_isNextGroups_60 : decode cX12_isNextGroups 60 = .ok (.iconst 1, 1) := by decide +kernel
theorem dX12_isNextGroups_61 : decode cX12_isNextGroups 61 = .ok (.iadd, 1) := by decide +kernel
theorem dX12_isNextGroups_62 : decode cX12_isNextGroups 62 = .ok (.iastore, 1) := by decide +kernel
theorem dX12_isNextGroups_63 : decode cX12_isNextGroups 63 = .ok (.iload_n 1, 1) := by decide +kernel
theorem dX12_isNextGroups_64 : decode cX12_isNextGroups 64 = .ok (.iconst 1, 1) := by decide +kernel
theorem dX12_isNextGroups_65 : decode cX12_isNextGroups 65 = .ok (.iadd, 1) := by decide +kernel
theorem dX12_isNextGroups_66 : decode cX12_isNextGroups 66 = .ok (.istore_n 3, 1) := by decide +kernel
theorem dX12_isNextGroups_67 : decode cX12_isNextGroups 67 = .ok (.iload_n 3, 1) := by decide +kernel
theorem dX12_isNextGroups_68 : decode cX12_isNextGroups 68 = .ok (.aload_n 0, 1) := by decide +kernel
theorem dX12_isNextGroups_69 : decode cX12_isNextGroups 69 = .ok (.invokevirtual 419, 3) := by decide +kernel
theorem dX12_isNextGroups_72 : decode cX12_isNextGroups 72 = .ok (.if_icmp .ge 16, 3) := by decide +kernel
theorem dX12_isNextGroups_75 : decode cX12_isNextGroups 75 = .ok (.aload_n 0, 1) := by decide +kernel
theorem dX12_isNextGroups_76 : decode cX12_isNextGroups 76 = .ok (.getfield 148, 3) := by decide +kernel
theorem dX12_isNextGroups_79 : decode cX12_isNextGroups 79 = .ok (.iload_n 3, 1) := by decide +kernel
theorem dX12_isNextGroups_80 : decode cX12_isNextGroups 80 = .ok (.iconst 0, 1) := by decide +kernel
theorem dX12_isNextGroups_81 : decode cX12_isNextGroups 81 = .ok (.iastore, 1) := by decide +kernel
theorem dX12_isNextGroups_82 : decode cX12_isNextGroups 82 = .ok (.iinc 3 1, 3) := by decide +kernel
theorem dX12_isNextGroups_85 : decode cX12_isNextGroups 85 = .ok (.goto (-18), 3) := by decide +kernel
theorem dX12_isNextGroups_88 : decode cX12_isNextGroups 88 = .ok (.iconst 1, 1) := by decide +kernel
theorem dX12_isNextGroups_89 : decode cX12_isNextGroups 89 = .ok (.ireturn, 1) := by decide +kernel
theorem dX12_isNextGroups_90 : decode cX12_isNextGroups 90 = .ok (.iinc 1 (-1), 3) := by decide +kernel
theorem dX12_isNextGroups_93 : decode cX12_isNextGroups 93 = .ok (.goto (-86), 3) := by decide +kernel
theorem dX12_isNextGroups_96 : decode cX12_isNextGroups 96 = .ok (.iconst 0, 1) := by decide +kernel
theorem dX12_isNextGroups_97 : decode cX12_isNextGroups 97 = .ok (.ireturn, 1) := by decide +kernel
theorem dX12_tell_0 : decode cX12_tell 0 = .ok (.iconst 0, 1) := by decide +kernel
theorem dX12_tell_1 : decode cX12_tell 1 = .ok (.istore_n 2, 1) := by decide +kernel
theorem dX12_tell_2 : decode cX12_tell 2 = .ok (.iconst 1, 1) := by decide +kernel
theorem dX12_tell_3 : decode cX12_tell 3 = .ok (.istore_n 3, 1) := by decide +kernel
theorem dX12_tell_4 : decode cX12_tell 4 = .ok (.iload_n 3, 1) := by decide +kernel
theorem dX12_tell_5 : decode cX12_tell 5 = .ok (.bipush 12, 2) := by decide +kernel
theorem dX12_tell_7 : decode cX12_tell 7 = .ok (.if_icmp .ge 24, 3) := by decide +kernel
theorem dX12_tell_10 : decode cX12_tell 10 = .ok (.aload_n 0, 1) := by decide +kernel
theorem dX12_tell_11 : decode cX12_tell 11 = .ok (.iload_n 3, 1) := by decide +kernel
theorem dX12_tell_12 : decode cX12_tell 12 = .ok (.invokevirtual 551, 3) := by decide +kernel
theorem dX12_tell_15 : decode cX12_tell 15 = .ok (.aload_n 0, 1) := by decide +kernel
theorem dX12_tell_16 : decode cX12_tell 16 = .ok (.iload_n 2, 1) := by decide +kernel
theorem dX12_tell_17 : decode cX12_tell 17 = .ok (.invokevirtual 551, 3) := by decide +kernel
theorem dX12_tell_20 : decode cX12_tell 20 = .ok (.if_icmp .ge 5, 3) := by decide +kernel
theorem dX12_tell_23 : decode cX12_tell 23 = .ok (.iload_n 3, 1) := by decide +kernel
theorem dX12_tell_24 : decode cX12_tell 24 = .ok (.istore_n 2, 1) := by decide +kernel
theorem dX12_tell_25 : decode cX12_tell 25 = .ok (.iinc 3 1, 3) := by decide +kernel
theorem dX12_tell_28 : decode cX12_tell 28 = .ok (.goto (-24), 3) := by decide +kernel
theorem dX12_tell_31 : decode cX12_tell 31 = .ok (.iload_n 1, 1) := by decide +kernel
theorem dX12_tell_32 : decode cX12_tell 32 = .ok (.ifCond .ne 7, 3) := by decide +kernel
theorem dX12_tell_35 : decode cX12_tell 35 = .ok (.iload_n 2, 1) := by decide +kernel
theorem dX12_tell_36 : decode cX12_tell 36 = .ok (.goto 17, 3) := by decide +kernel
theorem dX12_tell_39 : decode cX12_tell 39 = .ok (.iload_n 1, 1) := by decide +kernel
theorem dX12_tell_40 : decode cX12_tell 40 = .ok (.iconst 1, 1) := by decide +kernel
theorem dX12_tell_41 : decode cX12_tell 41 = .ok (.if_icmp .ne 11, 3) := by decide +kernel
theorem dX12_tell_44 : decode cX12_tell 44 = .ok (.aload_n 0, 1) := by decide +kernel
theorem dX12_tell_45 : decode cX12_tell 45 = .ok (.iload_n 2, 1) := by decide +kernel
theorem dX12_tell_46 : decode cX12_tell 46 = .ok (.invokevirtual 551, 3) := by decide +kernel
theorem dX12_tell_49 : decode cX12_tell 49 = .ok (.goto 4, 3) := by decide +kernel
theorem dX12_tell_52 : decode cX12_tell 52 = .ok (.iconst (-1), 1) := by decide +kernel
theorem dX12_tell_53 : decode cX12_tell 53 = .ok (.ireturn, 1) := by decide +kernel
theorem dX12_helper_0 : decode cX12_helper 0 = .ok (.aload_n 0, 1) := by decide +kernel
theorem dX12_helper_1 : decode cX12_helper 1 = .ok (.iload_n 1, 1) := by decide +kernel
theorem dX12_helper_2 : decode cX12_helper 2 = .ok (.invokevirtual 516, 3) := by decide +kernel
theorem dX12_helper_5 : decode cX12_helper 5 = .ok (.ifCond .ne 5, 3) := by decide +kernel
theorem dX12_helper_8 : decode cX12_helper 8 = .ok (.iconst (-1), 1) := by decide +kernel
theorem dX12_helper_9 : decode cX12_helper 9 = .ok (.ireturn, 1) := by decide +kernel
theorem dX12_helper_10 : decode cX12_helper 10 = .ok (.iconst 0, 1) := by decide +kernel
theorem dX12_helper_11 : decode cX12_helper 11 = .ok (.istore_n 3, 1) := by decide +kernel
theorem dX12_helper_12 : decode cX12_helper 12 = .ok (.iconst 0, 1) := by decide +kernel
theorem dX12_helper_13 : decode cX12_helper 13 = .ok (.istore 4, 2) := by decide +kernel
theorem dX12_helper_15 : decode cX12_helper 15 = .ok (.iload 4, 2) := by decide +kernel
theorem dX12_helper_17 : decode cX12_helper 17 = .ok (.aload_n 0, 1) := by decide +kernel
theorem dX12_helper_18 : decode cX12_helper 18 = .ok (.invokevirtual 419, 3) := by decide +kernel
theorem dX12_helper_21 : decode cX12_helper 21 = .ok (.if_icmp .ge 28, 3) := by decide +kernel
theorem dX12_helper_24 : decode cX12_helper 24 = .ok (.aload_n 0, 1) := by decide +kernel
theorem dX12_helper_25 : decode cX12_helper 25 = .ok (.iload 4, 2) := by decide +kernel
theorem dX12_helper_27 : decode cX12_helper 27 = .ok (.invokevirtual 451, 3) := by decide +kernel
theorem dX12_helper_30 : decode cX12_helper 30 = .ok (.iload_n 1, 1) := by decide +kernel
theorem dX12_helper_31 : decode cX12_helper 31 = .ok (.iconst 1, 1) := by decide +kernel
theorem dX12_helper_32 : decode cX12_helper 32 = .ok (.iadd, 1) := by decide +kernel
theorem dX12_helper_33 : decode cX12_helper 33 = .ok (.if_icmp .ne 10, 3) := by decide +kernel
theorem dX12_helper_36 : decode cX12_helper 36 = .ok (.iload_n 3, 1) := by decide +kernel
theorem dX12_helper_37 : decode cX12_helper 37 = .ok (.iconst 1, 1) := by decide +kernel
theorem dX12_helper_38 : decode cX12_helper 38 = .ok (.iload 4, 2) := by decide +kernel
theorem dX12_helper_40 : decode cX12_helper 40 = .ok (.ishl, 1) := by decide +kernel
theorem dX12_helper_41 : decode cX12_helper 41 = .ok (.ior, 1) := by decide +kernel
theorem dX12_helper_42 : decode cX12_helper 42 = .ok (.istore_n 3, 1) := by decide +kernel
theorem dX12_helper_43 : decode cX12_helper 43 = .ok (.iinc 4 1, 3) := by decide +kernel
theorem dX12_helper_46 : decode cX12_helper 46 = .ok (.goto (-31), 3) := by decide +kernel
theorem dX12_helper_49 : decode cX12_helper 49 = .ok (.iload_n 2, 1) := by decide +kernel
theorem dX12_helper_50 : decode cX12_helper 50 = .ok (.i2l, 1) := by decide +kernel
theorem dX12_helper_51 : decode cX12_helper 51 = .ok (.lconst 0, 1) := by decide +kernel
theorem dX12_helper_52 : decode cX12_helper 52 = .ok (.ldc2_w 497, 3) := by decide +kernel
theorem dX12_helper_55 : decode cX12_helper 55 = .ok (.invokestatic 303, 3) := by decide +kernel
theorem dX12_helper_58 : decode cX12_helper 58 = .ok (.ifCond .eq 19, 3) := by decide +kernel
theorem dX12_helper_61 : decode cX12_helper 61 = .ok (.aload_n 0, 1) := by decide +kernel
theorem dX12_helper_62 : decode cX12_helper 62 = .ok (.getfield 127, 3) := by decide +kernel
theorem dX12_helper_65 : decode cX12_helper 65 = .ok (.bipush 9, 2) := by decide +kernel
theorem dX12_helper_67 : decode cX12_helper 67 = .ok (.iconst 3, 1) := by decide +kernel
theorem dX12_helper_68 : decode cX12_helper 68 = .ok (.iload_n 1, 1) := by decide +kernel
theorem dX12_helper_69 : decode cX12_helper 69 = .ok (.imul, 1) := by decide +kernel
theorem dX12_helper_70 : decode cX12_helper 70 = .ok (.iadd, 1) := by decide +kernel
theorem dX12_helper_71 : decode cX12_helper 71 = .ok (.iload_n 2, 1) := by decide +kernel
theorem dX12_helper_72 : decode cX12_helper 72 = .ok (.iadd, 1) := by decide +kernel
theorem dX12_helper_73 : decode cX12_helper 73 = .ok (.iaload, 1) := by decide +kernel
theorem dX12_helper_74 : decode cX12_helper 74 = .ok (.goto 26, 3) := by decide +kernel
theorem dX12_helper_77 : decode cX12_helper 77 = .ok (.iload_n 2, 1) := by decide +kernel
theorem dX12_helper_78 : decode cX12_helper 78 = .ok (.iconst 3, 1) := by decide +kernel
theorem dX12_helper_79 : decode cX12_helper 79 = .ok (.if_icmp .ne 11, 3) := by decide +kernel
theorem dX12_helper_82 : decode cX12_helper 82 = .ok (.aload_n 0, 1) := by decide +kernel
theorem dX12_helper_83 : decode cX12_helper 83 = .ok (.iload_n 1, 1) := by decide +kernel
theorem dX12_helper_84 : decode cX12_helper 84 = .ok (.invokevirtual 458, 3) := by decide +kernel
theorem dX12_helper_87 : decode cX12_helper 87 = .ok (.goto 13, 3) := by decide +kernel
theorem dX12_helper_90 : decode cX12_helper 90 = .ok (.iload_n 2, 1) := by decide +kernel
theorem dX12_helper_91 : decode cX12_helper 91 = .ok (.iconst 4, 1) := by decide +kernel
theorem dX12_helper_92 : decode cX12_helper 92 = .ok (.if_icmp .ne 7, 3) := by decide +kernel
theorem dX12_helper_95 : decode cX12_helper 95 = .ok (.iload_n 3, 1) := by decide +kernel
theorem dX12_helper_96 : decode cX12_helper 96 = .ok (.goto 4, 3) := by decide +kernel
theorem dX12_helper_99 : decode cX12_helper 99 = .ok (.iconst (-1), 1) := by decide +kernel
theorem dX12_helper_100 : decode cX12_helper 100 = .ok (.ireturn, 1) := by decide +kernel
theorem dX12_fault_0 : decode cX12_fault 0 = .ok (.iload_n 1, 1) := by decide +kernel
theorem dX12_fault_1 : decode cX12_fault 1 = .ok (.ifCond .ne 10, 3) := by decide +kernel
theorem dX12_fault_4 : decode cX12_fault 4 = .ok (.aload_n 0, 1) := by decide +kernel
theorem dX12_fault_5 : decode cX12_fault 5 = .ok (.getfield 401, 3) := by decide +kernel
theorem dX12_fault_8 : decode cX12_fault 8 = .ok (.goto 16, 3) := by decide +kernel
theorem dX12_fault_11 : decode cX12_fault 11 = .ok (.iload_n 1, 1) := by decide +kernel
theorem dX12_fault_12 : decode cX12_fault 12 = .ok (.iconst 1, 1) := by decide +kernel
theorem dX12_fault_13 : decode cX12_fault 13 = .ok (.if_icmp .ne 10, 3) := by decide +kernel
theorem dX12_fault_16 : decode cX12_fault 16 = .ok (.aload_n 0, 1) := by decide +kernel
theorem dX12_fault_17 : decode cX12_fault 17 = .ok (.getfield 13, 3) := by decide +kernel
theorem dX12_fault_20 : decode cX12_fault 20 = .ok (.goto 4, 3) := by decide +kernel
theorem dX12_fault_23 : decode cX12_fault 23 = .ok (.iconst (-1), 1) := by decide +kernel
theorem dX12_fault_24 : decode cX12_fault 24 = .ok (.ireturn, 1) := by decide +kernel
theorem dX12_wishTold_0 : decode cX12_wishTold 0 = .ok (.aload_n 0, 1) := by decide +kernel
theorem dX12_wishTold_1 : decode cX12_wishTold 1 = .ok (.iconst 0, 1) := by decide +kernel
theorem dX12_wishTold_2 : decode cX12_wishTold 2 = .ok (.invokevirtual 348, 3) := by decide +kernel
theorem dX12_wishTold_5 : decode cX12_wishTold 5 = .ok (.istore_n 1, 1) := by decide +kernel
theorem dX12_wishTold_6 : decode cX12_wishTold 6 = .ok (.aload_n 0, 1) := by decide +kernel
theorem dX12_wishTold_7 : decode cX12_wishTold 7 = .ok (.iconst 1, 1) := by decide +kernel
theorem dX12_wishTold_8 : decode cX12_wishTold 8 = .ok (.invokevirtual 348, 3) := by decide +kernel
theorem dX12_wishTold_11 : decode cX12_wishTold 11 = .ok (.istore_n 2, 1) := by decide +kernel
theorem dX12_wishTold_12 : decode cX12_wishTold 12 = .ok (.aload_n 0, 1) := by decide +kernel
theorem dX12_wishTold_13 : decode cX12_wishTold 13 = .ok (.iconst 1, 1) := by decide +kernel
theorem dX12_wishTold_14 : decode cX12_wishTold 14 = .ok (.bipush 9, 2) := by decide +kernel
theorem dX12_wishTold_16 : decode cX12_wishTold 16 = .ok (.invokevirtual 341, 3) := by decide +kernel
theorem dX12_wishTold_19 : decode cX12_wishTold 19 = .ok (.istore_n 3, 1) := by decide +kernel
theorem dX12_wishTold_20 : decode cX12_wishTold 20 = .ok (.aload_n 0, 1) := by decide +kernel
theorem dX12_wishTold_21 : decode cX12_wishTold 21 = .ok (.getfield 263, 3) := by decide +kernel
theorem dX12_wishTold_24 : decode cX12_wishTold 24 = .ok (.ifCond .ne 14, 3) := by decide +kernel
theorem dX12_wishTold_27 : decode cX12_wishTold 27 = .ok (.aload_n 0, 1) := by decide +kernel
theorem dX12_wishTold_28 : decode cX12_wishTold 28 = .ok (.getfield 118, 3) := by decide +kernel
theorem dX12_wishTold_31 : decode cX12_wishTold 31 = .ok (.iconst 4, 1) := by decide +kernel
theorem dX12_wishTold_32 : decode cX12_wishTold 32 = .ok (.iload_n 1, 1) := by decide +kernel
theorem dX12_wishTold_33 : decode cX12_wishTold 33 = .ok (.imul, 1) := by decide +kernel
theorem dX12_wishTold_34 : decode cX12_wishTold 34 = .ok (.iload_n 2, 1) := by decide +kernel
theorem dX12_wishTold_35 : decode cX12_wishTold 35 = .ok (.iadd, 1) := by decide +kernel
theorem dX12_wishTold_36 : decode cX12_wishTold 36 = .ok (.iload_n 3, 1) := by decide +kernel
theorem dX12_wishTold_37 : decode cX12_wishTold 37 = .ok (.iastore, 1) := by decide +kernel
theorem dX12_wishTold_38 : decode cX12_wishTold 38 = .ok (.return_, 1) := by decide +kernel
theorem dX12_look_0 : decode cX12_look 0 = .ok (.aload_n 0, 1) := by decide +kernel
theorem dX12_look_1 : decode cX12_look 1 = .ok (.getfield 269, 3) := by decide +kernel
theorem dX12_look_4 : decode cX12_look 4 = .ok (.aload_n 0, 1) := by decide +kernel
theorem dX12_look_5 : decode cX12_look 5 = .ok (.getfield 272, 3) := by decide +kernel
theorem dX12_look_8 : decode cX12_look 8 = .ok (.if_icmp .ge 44, 3) := by decide +kernel
theorem dX12_look_11 : decode cX12_look 11 = .ok (.aload_n 0, 1) := by decide +kernel
theorem dX12_look_12 : decode cX12_look 12 = .ok (.getfield 7, 3) := by decide +kernel
theorem dX12_look_15 : decode cX12_look 15 = .ok (.aload_n 0, 1) := by decide +kernel
theorem dX12_look_16 : decode cX12_look 16 = .ok (.getfield 269, 3) := by decide +kernel
theorem dX12_look_19 : decode cX12_look 19 = .ok (.iaload, 1) := by decide +kernel
theorem dX12_look_20 : decode cX12_look 20 = .ok (.bipush 10, 2) := by decide +kernel
theorem dX12_look_22 : decode cX12_look 22 = .ok (.if_icmp .eq 17, 3) := by decide +kernel
theorem dX12_look_25 : decode cX12_look 25 = .ok (.aload_n 0, 1) := by decide +kernel
theorem dX12_look_26 : decode cX12_look 26 = .ok (.getfield 7, 3) := by decide +kernel
theorem dX12_look_29 : decode cX12_look 29 = .ok (.aload_n 0, 1) := by decide +kernel
theorem dX12_look_30 : decode cX12_look 30 = .ok (.getfield 269, 3) := by decide +kernel
theorem dX12_look_33 : decode cX12_look 33 = .ok (.iaload, 1) := by decide +kernel
theorem dX12_look_34 : decode cX12_look 34 = .ok (.bipush 32, 2) := by decide +kernel
theorem dX12_look_36 : decode cX12_look 36 = .ok (.if_icmp .ne 16, 3) := by decide +kernel
theorem dX12_look_39 : decode cX12_look 39 = .ok (.aload_n 0, 1) := by decide +kernel
theorem dX12_look_40 : decode cX12_look 40 = .ok (.dup, 1) := by decide +kernel
theorem dX12_look_41 : decode cX12_look 41 = .ok (.getfield 269, 3) := by decide +kernel
theorem dX12_look_44 : decode cX12_look 44 = .ok (.iconst 1, 1) := by decide +kernel
theorem dX12_look_45 : decode cX12_look 45 = .ok (.iadd, 1) := by decide +kernel
theorem dX12_look_46 : decode cX12_look 46 = .ok (.putfield 269, 3) := by decide +kernel
theorem dX12_look_49 : decode cX12_look 49 = .ok (.goto (-49), 3) := by decide +kernel
theorem dX12_look_52 : decode cX12_look 52 = .ok (.aload_n 0, 1) := by decide +kernel
theorem dX12_look_53 : decode cX12_look 53 = .ok (.getfield 269, 3) := by decide +kernel
theorem dX12_look_56 : decode cX12_look 56 = .ok (.aload_n 0, 1) := by decide +kernel
theorem dX12_look_57 : decode cX12_look 57 = .ok (.getfield 272, 3) := by decide +kernel
theorem dX12_look_60 : decode cX12_look 60 = .ok (.if_icmp .ge 15, 3) := by decide +kernel
theorem dX12_look_63 : decode cX12_look 63 = .ok (.aload_n 0, 1) := by decide +kernel
theorem dX12_look_64 : decode cX12_look 64 = .ok (.getfield 7, 3) := by decide +kernel
theorem dX12_look_67 : decode cX12_look 67 = .ok (.aload_n 0, 1) := by decide +kernel
theorem dX12_look_68 : decode cX12_look 68 = .ok (.getfield 269, 3) := by decide +kernel
theorem dX12_look_71 : decode cX12_look 71 = .ok (.iaload, 1) := by decide +kernel
theorem dX12_look_72 : decode cX12_look 72 = .ok (.goto 4, 3) := by decide +kernel
theorem dX12_look_75 : decode cX12_look 75 = .ok (.iconst (-1), 1) := by decide +kernel
theorem dX12_look_76 : decode cX12_look 76 = .ok (.ireturn, 1) := by decide +kernel
theorem dX12_asksSign_0 : decode cX12_asksSign 0 = .ok (.aload_n 0, 1) := by decide +kernel
theorem dX12_asksSign_1 : decode cX12_asksSign 1 = .ok (.getfield 263, 3) := by decide +kernel
theorem dX12_asksSign_4 : decode cX12_asksSign 4 = .ok (.ifCond .ne 20, 3) := by decide +kernel
theorem dX12_asksSign_7 : decode cX12_asksSign 7 = .ok (.aload_n 0, 1) := by decide +kernel
theorem dX12_asksSign_8 : decode cX12_asksSign 8 = .ok (.iload_n 1, 1) := by decide +kernel
theorem dX12_asksSign_9 : decode cX12_asksSign 9 = .ok (.invokevirtual 297, 3) := by decide +kernel
theorem dX12_asksSign_12 : decode cX12_asksSign 12 = .ok (.ifCond .ne 12, 3) := by decide +kernel
theorem dX12_asksSign_15 : decode cX12_asksSign 15 = .ok (.aload_n 0, 1) := by decide +kernel
theorem dX12_asksSign_16 : decode cX12_asksSign 16 = .ok (.iconst 1, 1) := by decide +kernel
theorem dX12_asksSign_17 : decode cX12_asksSign 17 = .ok (.aload_n 0, 1) := by decide +kernel
theorem dX12_asksSign_18 : decode cX12_asksSign 18 = .ok (.getfield 269, 3) := by decide +kernel
theorem dX12_asksSign_21 : decode cX12_asksSign 21 = .ok (.invokevirtual 293, 3) := by decide +kernel
theorem dX12_asksSign_24 : decode cX12_asksSign 24 = .ok (.return_, 1) := by decide +kernel
theorem dX12_isAnswered_0 : decode cX12_isAnswered 0 = .ok (.aload_n 0, 1) := by decide +kernel
theorem dX12_isAnswered_1 : decode cX12_isAnswered 1 = .ok (.getfield 142, 3) := by decide +kernel
theorem dX12_isAnswered_4 : decode cX12_isAnswered 4 = .ok (.iconst 1, 1) := by decide +kernel
theorem dX12_isAnswered_5 : decode cX12_isAnswered 5 = .ok (.iload_n 2, 1) := by decide +kernel
theorem dX12_isAnswered_6 : decode cX12_isAnswered 6 = .ok (.iadd, 1) := by decide +kernel
theorem dX12_isAnswered_7 : decode cX12_isAnswered 7 = .ok (.dup2, 1) := by decide +kernel
theorem dX12_isAnswered_8 : decode cX12_isAnswered 8 = .ok (.iaload, 1) := by decide +kernel
theorem dX12_isAnswered_9 : decode cX12_isAnswered 9 = .ok (.aload_n 0, 1) := by decide +kernel
theorem dX12_isAnswered_10 : decode cX12_isAnswered 10 = .ok (.iload_n 1, 1) := by decide +kernel
theorem dX12_isAnswered_11 : decode cX12_isAnswered 11 = .ok (.iload_n 2, 1) := by decide +kernel
theorem dX12_isAnswered_12 : decode cX12_isAnswered 12 = .ok (.invokevirtual 461, 3) := by decide +kernel
theorem dX12_isAnswered_15 : decode cX12_isAnswered 15 = .ok (.isub, 1) := by decide +kernel
theorem dX12_isAnswered_16 : decode cX12_isAnswered 16 = .ok (.iastore, 1) := by decide +kernel
theorem dX12_isAnswered_17 : decode cX12_isAnswered 17 = .ok (.aload_n 0, 1) := by decide +kernel
theorem dX12_isAnswered_18 : decode cX12_isAnswered 18 = .ok (.getfield 142, 3) := by decide +kernel
theorem dX12_isAnswered_21 : decode cX12_isAnswered 21 = .ok (.bipush 8, 2) := by decide +kernel
theorem dX12_isAnswered_23 : decode cX12_isAnswered 23 = .ok (.iconst 3, 1) := by decide +kernel
theorem dX12_isAnswered_24 : decode cX12_isAnswered 24 = .ok (.iload_n 1, 1) := by decide +kernel
theorem dX12_isAnswered_25 : decode cX12_isAnswered 25 = .ok (.imul, 1) := by decide +kernel
theorem dX12_isAnswered_26 : decode cX12_isAnswered 26 = .ok (.iadd, 1) := by decide +kernel
theorem dX12_isAnswered_27 : decode cX12_isAnswered 27 = .ok (.iload_n 2, 1) := by decide +kernel
theorem dX12_isAnswered_28 : decode cX12_isAnswered 28 = .ok (.iconst 1, 1) := by decide +kernel
theorem dX12_isAnswered_29 : decode cX12_isAnswered 29 = .ok (.iadd, 1) := by decide +kernel
theorem dX12_isAnswered_30 : decode cX12_isAnswered 30 = .ok (.iastore, 1) := by decide +kernel
theorem dX12_isAnswered_31 : decode cX12_isAnswered 31 = .ok (.return_, 1) := by decide +kernel
theorem dX12_putsAside_0 : decode cX12_putsAside 0 = .ok (.iconst 0, 1) := by decide +kernel
theorem dX12_putsAside_1 : decode cX12_putsAside 1 = .ok (.istore_n 1, 1) := by decide +kernel
theorem dX12_putsAside_2 : decode cX12_putsAside 2 = .ok (.iload_n 1, 1) := by decide +kernel
theorem dX12_putsAside_3 : decode cX12_putsAside 3 = .ok (.bipush 32, 2) := by decide +kernel
theorem dX12_putsAside_5 : decode cX12_putsAside 5 = .ok (.if_icmp .ge 21, 3) := by decide +kernel
theorem dX12_putsAside_8 : decode cX12_putsAside 8 = .ok (.aload_n 0, 1) := by decide +kernel
theorem dX12_putsAside_9 : decode cX12_putsAside 9 = .ok (.getfield 145, 3) := by decide +kernel
theorem dX12_putsAside_12 : decode cX12_putsAside 12 = .ok (.iload_n 1, 1) := by decide +kernel
theorem dX12_putsAside_13 : decode cX12_putsAside 13 = .ok (.aload_n 0, 1) := by decide +kernel
theorem dX12_putsAside_14 : decode cX12_putsAside 14 = .ok (.getfield 142, 3) := by decide +kernel
theorem dX12_putsAside_17 : decode cX12_putsAside 17 = .ok (.iload_n 1, 1) := by decide +kernel
theorem dX12_putsAside_18 : decode cX12_putsAside 18 = .ok (.iaload, 1) := by decide +kernel
theorem dX12_putsAside_19 : decode cX12_putsAside 19 = .ok (.iastore, 1) := by decide +kernel
theorem dX12_putsAside_20 : decode cX12_putsAside 20 = .ok (.iinc 1 1, 3) := by decide +kernel
theorem dX12_putsAside_23 : decode cX12_putsAside 23 = .ok (.goto (-21), 3) := by decide +kernel
theorem dX12_putsAside_26 : decode cX12_putsAside 26 = .ok (.return_, 1) := by decide +kernel
theorem dX12_asks_0 : decode cX12_asks 0 = .ok (.aload_n 0, 1) := by decide +kernel
theorem dX12_asks_1 : decode cX12_asks 1 = .ok (.getfield 263, 3) := by decide +kernel
theorem dX12_asks_4 : decode cX12_asks 4 = .ok (.ifCond .ne 20, 3) := by decide +kernel
theorem dX12_asks_7 : decode cX12_asks 7 = .ok (.aload_n 0, 1) := by decide +kernel
theorem dX12_asks_8 : decode cX12_asks 8 = .ok (.aload_n 1, 1) := by decide +kernel
theorem dX12_asks_9 : decode cX12_asks 9 = .ok (.invokevirtual 290, 3) := by decide +kernel
theorem dX12_asks_12 : decode cX12_asks 12 = .ok (.ifCond .ne 12, 3) := by decide +kernel
theorem dX12_asks_15 : decode cX12_asks 15 = .ok (.aload_n 0, 1) := by decide +kernel
theorem dX12_asks_16 : decode cX12_asks 16 = .ok (.iconst 1, 1) := by decide +kernel
theorem dX12_asks_17 : decode cX12_asks 17 = .ok (.aload_n 0, 1) := by decide +kernel
theorem dX12_asks_18 : decode cX12_asks 18 = .ok (.getfield 269, 3) := by decide +kernel
theorem dX12_asks_21 : decode cX12_asks 21 = .ok (.invokevirtual 293, 3) := by decide +kernel
theorem dX12_asks_24 : decode cX12_asks 24 = .ok (.return_, 1) := by decide +kernel
theorem dX12_stands_0 : decode cX12_stands 0 = .ok (.iconst 0, 1) := by decide +kernel
theorem dX12_stands_1 : decode cX12_stands 1 = .ok (.istore_n 1, 1) := by decide +kernel
theorem dX12_stands_2 : decode cX12_stands 2 = .ok (.iload_n 1, 1) := by decide +kernel
theorem dX12_stands_3 : decode cX12_stands 3 = .ok (.iconst 5, 1) := by decide +kernel
theorem dX12_stands_4 : decode cX12_stands 4 = .ok (.if_icmp .ge 23, 3) := by decide +kernel
theorem dX12_stands_7 : decode cX12_stands 7 = .ok (.aload_n 0, 1) := by decide +kernel
theorem dX12_stands_8 : decode cX12_stands 8 = .ok (.getfield 105, 3) := by decide +kernel
theorem dX12_stands_11 : decode cX12_stands 11 = .ok (.iconst 5, 1) := by decide +kernel
theorem dX12_stands_12 : decode cX12_stands 12 = .ok (.iload_n 1, 1) := by decide +kernel
theorem dX12_stands_13 : decode cX12_stands 13 = .ok (.iadd, 1) := by decide +kernel
theorem dX12_stands_14 : decode cX12_stands 14 = .ok (.aload_n 0, 1) := by decide +kernel
theorem dX12_stands_15 : decode cX12_stands 15 = .ok (.getfield 105, 3) := by decide +kernel
theorem dX12_stands_18 : decode cX12_stands 18 = .ok (.iload_n 1, 1) := by decide +kernel
theorem dX12_stands_19 : decode cX12_stands 19 = .ok (.iaload, 1) := by decide +kernel
theorem dX12_stands_20 : decode cX12_stands 20 = .ok (.iastore, 1) := by decide +kernel
theorem dX12_stands_21 : decode cX12_stands 21 = .ok (.iinc 1 1, 3) := by decide +kernel
theorem dX12_stands_24 : decode cX12_stands 24 = .ok (.goto (-22), 3) := by decide +kernel
theorem dX12_stands_27 : decode cX12_stands 27 = .ok (.iconst 0, 1) := by decide +kernel
theorem dX12_stands_28 : decode cX12_stands 28 = .ok (.istore_n 1, 1) := by decide +kernel
theorem dX12_stands_29 : decode cX12_stands 29 = .ok (.iload_n 1, 1) := by decide +kernel
theorem dX12_stands_30 : decode cX12_stands 30 = .ok (.bipush 24, 2) := by decide +kernel
theorem dX12_stands_32 : decode cX12_stands 32 = .ok (.if_icmp .ge 39, 3) := by decide +kernel
theorem dX12_stands_35 : decode cX12_stands 35 = .ok (.aload_n 0, 1) := by decide +kernel
theorem dX12_stands_36 : decode cX12_stands 36 = .ok (.getfield 108, 3) := by decide +kernel
theorem dX12_stands_39 : decode cX12_stands 39 = .ok (.bipush 24, 2) := by decide +kernel
theorem dX12_stands_41 : decode cX12_stands 41 = .ok (.iload_n 1, 1) := by decide +kernel
theorem dX12_stands_42 : decode cX12_stands 42 = .ok (.iadd, 1) := by decide +kernel
theorem dX12_stands_43 : decode cX12_stands 43 = .ok (.aload_n 0, 1) := by decide +kernel
theorem dX12_stands_44 : decode cX12_stands 44 = .ok (.getfield 108, 3) := by decide +kernel
theorem dX12_stands_47 : decode cX12_stands 47 = .ok (.iload_n 1, 1) := by decide +kernel
theorem dX12_stands_48 : decode cX12_stands 48 = .ok (.laload, 1) := by decide +kernel
theorem dX12_stands_49 : decode cX12_stands 49 = .ok (.lastore, 1) := by decide +kernel
theorem dX12_stands_50 : decode cX12_stands 50 = .ok (.aload_n 0, 1) := by decide +kernel
theorem dX12_stands_51 : decode cX12_stands 51 = .ok (.getfield 112, 3) := by decide +kernel
theorem dX12_stands_54 : decode cX12_stands 54 = .ok (.bipush 24, 2) := by decide +kernel
theorem dX12_stands_56 : decode cX12_stands 56 = .ok (.iload_n 1, 1) := by decide +kernel
theorem dX12_stands_57 : decode cX12_stands 57 = .ok (.iadd, 1) := by decide +kernel
theorem dX12_stands_58 : decode cX12_stands 58 = .ok (.aload_n 0, 1) := by decide +kernel
theorem dX12_stands_59 : decode cX12_stands 59 = .ok (.getfield 112, 3) := by decide +kernel
theorem dX12_stands_62 : decode cX12_stands 62 = .ok (.iload_n 1, 1) := by decide +kernel
theorem dX12_stands_63 : decode cX12_stands 63 = .ok (.iaload, 1) := by decide +kernel
theorem dX12_stands_64 : decode cX12_stands 64 = .ok (.iastore, 1) := by decide +kernel
theorem dX12_stands_65 : decode cX12_stands 65 = .ok (.iinc 1 1, 3) := by decide +kernel
theorem dX12_stands_68 : decode cX12_stands 68 = .ok (.goto (-39), 3) := by decide +kernel
theorem dX12_stands_71 : decode cX12_stands 71 = .ok (.iconst 0, 1) := by decide +kernel
theorem dX12_stands_72 : decode cX12_stands 72 = .ok (.istore_n 1, 1) := by decide +kernel
theorem dX12_stands_73 : decode cX12_stands 73 = .ok (.iload_n 1, 1) := by decide +kernel
theorem dX12_stands_74 : decode cX12_stands 74 = .ok (.iconst 4, 1) := by decide +kernel
theorem dX12_stands_75 : decode cX12_stands 75 = .ok (.if_icmp .ge 23, 3) := by decide +kernel
theorem dX12_stands_78 : decode cX12_stands 78 = .ok (.aload_n 0, 1) := by decide +kernel
theorem dX12_stands_79 : decode cX12_stands 79 = .ok (.getfield 115, 3) := by decide +kernel
theorem dX12_stands_82 : decode cX12_stands 82 = .ok (.iconst 4, 1) := by decide +kernel
theorem dX12_stands_83 : decode cX12_stands 83 = .ok (.iload_n 1, 1) := by decide +kernel
theorem dX12_stands_84 : decode cX12_stands 84 = .ok (.iadd, 1) := by decide +kernel
theorem dX12_stands_85 : decode cX12_stands 85 = .ok (.aload_n 0, 1) := by decide +kernel
theorem dX12_stands_86 : decode cX12_stands 86 = .ok (.getfield 115, 3) := by decide +kernel
theorem dX12_stands_89 : decode cX12_stands 89 = .ok (.iload_n 1, 1) := by decide +kernel
theorem dX12_stands_90 : decode cX12_stands 90 = .ok (.iaload, 1) := by decide +kernel
theorem dX12_stands_91 : decode cX12_stands 91 = .ok (.iastore, 1) := by decide +kernel
theorem dX12_stands_92 : decode cX12_stands 92 = .ok (.iinc 1 1, 3) := by decide +kernel
theorem dX12_stands_95 : decode cX12_stands 95 = .ok (.goto (-22), 3) := by decide +kernel
theorem dX12_stands_98 : decode cX12_stands 98 = .ok (.iconst 0, 1) := by decide +kernel
theorem dX12_stands_99 : decode cX12_stands 99 = .ok (.istore_n 1, 1) := by decide +kernel
theorem dX12_stands_100 : decode cX12_stands 100 = .ok (.iload_n 1, 1) := by decide +kernel
theorem dX12_stands_101 : decode cX12_stands 101 = .ok (.bipush 32, 2) := by decide +kernel
theorem dX12_stands_103 : decode cX12_stands 103 = .ok (.if_icmp .ge 24, 3) := by decide +kernel
theorem dX12_stands_106 : decode cX12_stands 106 = .ok (.aload_n 0, 1) := by decide +kernel
theorem dX12_stands_107 : decode cX12_stands 107 = .ok (.getfield 118, 3) := by decide +kernel
theorem dX12_stands_110 : decode cX12_stands 110 = .ok (.bipush 32, 2) := by decide +kernel
theorem dX12_stands_112 : decode cX12_stands 112 = .ok (.iload_n 1, 1) := by decide +kernel
theorem dX12_stands_113 : decode cX12_stands 113 = .ok (.iadd, 1) := by decide +kernel
theorem dX12_stands_114 : decode cX12_stands 114 = .ok (.aload_n 0, 1) := by decide +kernel
theorem dX12_stands_115 : decode cX12_stands 115 = .ok (.getfield 118, 3) := by decide +kernel
theorem dX12_stands_118 : decode cX12_stands 118 = .ok (.iload_n 1, 1) := by decide +kernel
theorem dX12_stands_119 : decode cX12_stands 119 = .ok (.iaload, 1) := by decide +kernel
theorem dX12_stands_120 : decode cX12_stands 120 = .ok (.iastore, 1) := by decide +kernel
theorem dX12_stands_121 : decode cX12_stands 121 = .ok (.iinc 1 1, 3) := by decide +kernel
theorem dX12_stands_124 : decode cX12_stands 124 = .ok (.goto (-24), 3) := by decide +kernel
theorem dX12_stands_127 : decode cX12_stands 127 = .ok (.iconst 0, 1) := by decide +kernel
theorem dX12_stands_128 : decode cX12_stands 128 = .ok (.istore_n 1, 1) := by decide +kernel
theorem dX12_stands_129 : decode cX12_stands 129 = .ok (.iload_n 1, 1) := by decide +kernel
theorem dX12_stands_130 : decode cX12_stands 130 = .ok (.bipush 8, 2) := by decide +kernel
theorem dX12_stands_132 : decode cX12_stands 132 = .ok (.if_icmp .ge 24, 3) := by decide +kernel
theorem dX12_stands_135 : decode cX12_stands 135 = .ok (.aload_n 0, 1) := by decide +kernel
theorem dX12_stands_136 : decode cX12_stands 136 = .ok (.getfield 121, 3) := by decide +kernel
theorem dX12_stands_139 : decode cX12_stands 139 = .ok (.bipush 8, 2) := by decide +kernel
theorem dX12_stands_141 : decode cX12_stands 141 = .ok (.iload_n 1, 1) := by decide +kernel
theorem dX12_stands_142 : decode cX12_stands 142 = .ok (.iadd, 1) := by decide +kernel
theorem dX12_stands_143 : decode cX12_stands 143 = .ok (.aload_n 0, 1) := by decide +kernel
theorem dX12_stands_144 : decode cX12_stands 144 = .ok (.getfield 121, 3) := by decide +kernel
theorem dX12_stands_147 : decode cX12_stands 147 = .ok (.iload_n 1, 1) := by decide +kernel
theorem dX12_stands_148 : decode cX12_stands 148 = .ok (.iaload, 1) := by decide +kernel
theorem dX12_stands_149 : decode cX12_stands 149 = .ok (.iastore, 1) := by decide +kernel
theorem dX12_stands_150 : decode cX12_stands 150 = .ok (.iinc 1 1, 3) := by decide +kernel
theorem dX12_stands_153 : decode cX12_stands 153 = .ok (.goto (-24), 3) := by decide +kernel
theorem dX12_stands_156 : decode cX12_stands 156 = .ok (.iconst 0, 1) := by decide +kernel
theorem dX12_stands_157 : decode cX12_stands 157 = .ok (.istore_n 1, 1) := by decide +kernel
theorem dX12_stands_158 : decode cX12_stands 158 = .ok (.iload_n 1, 1) := by decide +kernel
theorem dX12_stands_159 : decode cX12_stands 159 = .ok (.bipush 64, 2) := by decide +kernel
theorem dX12_stands_161 : decode cX12_stands 161 = .ok (.if_icmp .ge 24, 3) := by decide +kernel
theorem dX12_stands_164 : decode cX12_stands 164 = .ok (.aload_n 0, 1) := by decide +kernel
theorem dX12_stands_165 : decode cX12_stands 165 = .ok (.getfield 124, 3) := by decide +kernel
theorem dX12_stands_168 : decode cX12_stands 168 = .ok (.bipush 64, 2) := by decide +kernel
theorem dX12_stands_170 : decode cX12_stands 170 = .ok (.iload_n 1, 1) := by decide +kernel
theorem dX12_stands_171 : decode cX12_stands 171 = .ok (.iadd, 1) := by decide +kernel
theorem dX12_stands_172 : decode cX12_stands 172 = .ok (.aload_n 0, 1) := by decide +kernel
theorem dX12_stands_173 : decode cX12_stands 173 = .ok (.getfield 124, 3) := by decide +kernel
theorem dX12_stands_176 : decode cX12_stands 176 = .ok (.iload_n 1, 1) := by decide +kernel
theorem dX12_stands_177 : decode cX12_stands 177 = .ok (.iaload, 1) := by decide +kernel
theorem dX12_stands_178 : decode cX12_stands 178 = .ok (.iastore, 1) := by decide +kernel
theorem dX12_stands_179 : decode cX12_stands 179 = .ok (.iinc 1 1, 3) := by decide +kernel
theorem dX12_stands_182 : decode cX12_stands 182 = .ok (.goto (-24), 3) := by decide +kernel
theorem dX12_stands_185 : decode cX12_stands 185 = .ok (.iconst 0, 1) := by decide +kernel
theorem dX12_stands_186 : decode cX12_stands 186 = .ok (.istore_n 1, 1) := by decide +kernel
theorem dX12_stands_187 : decode cX12_stands 187 = .ok (.iload_n 1, 1) := by decide +kernel
theorem dX12_stands_188 : decode cX12_stands 188 = .ok (.bipush 9, 2) := by decide +kernel
theorem dX12_stands_190 : decode cX12_stands 190 = .ok (.if_icmp .ge 24, 3) := by decide +kernel
theorem dX12_stands_193 : decode cX12_stands 193 = .ok (.aload_n 0, 1) := by decide +kernel
theorem dX12_stands_194 : decode cX12_stands 194 = .ok (.getfield 127, 3) := by decide +kernel
theorem dX12_stands_197 : decode cX12_stands 197 = .ok (.bipush 9, 2) := by decide +kernel
theorem dX12_stands_199 : decode cX12_stands 199 = .ok (.iload_n 1, 1) := by decide +kernel
theorem dX12_stands_200 : decode cX12_stands 200 = .ok (.iadd, 1) := by decide +kernel
theorem dX12_stands_201 : decode cX12_stands 201 = .ok (.aload_n 0, 1) := by decide +kernel
theorem dX12_stands_202 : decode cX12_stands 202 = .ok (.getfield 127, 3) := by decide +kernel
theorem dX12_stands_205 : decode cX12_stands 205 = .ok (.iload_n 1, 1) := by decide +kernel
theorem dX12_stands_206 : decode cX12_stands 206 = .ok (.iaload, 1) := by decide +kernel
theorem dX12_stands_207 : decode cX12_stands 207 = .ok (.iastore, 1) := by decide +kernel
theorem dX12_stands_208 : decode cX12_stands 208 = .ok (.iinc 1 1, 3) := by decide +kernel
theorem dX12_stands_211 : decode cX12_stands 211 = .ok (.goto (-24), 3) := by decide +kernel
theorem dX12_stands_214 : decode cX12_stands 214 = .ok (.iconst 0, 1) := by decide +kernel
theorem dX12_stands_215 : decode cX12_stands 215 = .ok (.istore_n 1, 1) := by decide +kernel
theorem dX12_stands_216 : decode cX12_stands 216 = .ok (.iload_n 1, 1) := by decide +kernel
theorem dX12_stands_217 : decode cX12_stands 217 = .ok (.iconst 2, 1) := by decide +kernel
theorem dX12_stands_218 : decode cX12_stands 218 = .ok (.if_icmp .ge 51, 3) := by decide +kernel
theorem dX12_stands_221 : decode cX12_stands 221 = .ok (.aload_n 0, 1) := by decide +kernel
theorem dX12_stands_222 : decode cX12_stands 222 = .ok (.getfield 130, 3) := by decide +kernel
theorem dX12_stands_225 : decode cX12_stands 225 = .ok (.iconst 2, 1) := by decide +kernel
theorem dX12_stands_226 : decode cX12_stands 226 = .ok (.iload_n 1, 1) := by decide +kernel
theorem dX12_stands_227 : decode cX12_stands 227 = .ok (.iadd, 1) := by decide +kernel
theorem dX12_stands_228 : decode cX12_stands 228 = .ok (.aload_n 0, 1) := by decide +kernel
theorem dX12_stands_229 : decode cX12_stands 229 = .ok (.getfield 130, 3) := by decide +kernel
theorem dX12_stands_232 : decode cX12_stands 232 = .ok (.iload_n 1, 1) := by decide +kernel
theorem dX12_stands_233 : decode cX12_stands 233 = .ok (.iaload, 1) := by decide +kernel
theorem dX12_stands_234 : decode cX12_stands 234 = .ok (.iastore, 1) := by decide +kernel
theorem dX12_stands_235 : decode cX12_stands 235 = .ok (.aload_n 0, 1) := by decide +kernel
theorem dX12_stands_236 : decode cX12_stands 236 = .ok (.getfield 133, 3) := by decide +kernel
theorem dX12_stands_239 : decode cX12_stands 239 = .ok (.iconst 2, 1) := by decide +kernel
theorem dX12_stands_240 : decode cX12_stands 240 = .ok (.iload_n 1, 1) := by decide +kernel
theorem dX12_stands_241 : decode cX12_stands 241 = .ok (.iadd, 1) := by decide +kernel
theorem dX12_stands_242 : decode cX12_stands 242 = .ok (.aload_n 0, 1) := by decide +kernel
theorem dX12_stands_243 : decode cX12_stands 243 = .ok (.getfield 133, 3) := by decide +kernel
theorem dX12_stands_246 : decode cX12_stands 246 = .ok (.iload_n 1, 1) := by decide +kernel
theorem dX12_stands_247 : decode cX12_stands 247 = .ok (.iaload, 1) := by decide +kernel
theorem dX12_stands_248 : decode cX12_stands 248 = .ok (.iastore, 1) := by decide +kernel
theorem dX12_stands_249 : decode cX12_stands 249 = .ok (.aload_n 0, 1) := by decide +kernel
theorem dX12_stands_250 : decode cX12_stands 250 = .ok (.getfield 136, 3) := by decide +kernel
theorem dX12_stands_253 : decode cX12_stands 253 = .ok (.iconst 2, 1) := by decide +kernel
theorem dX12_stands_254 : decode cX12_stands 254 = .ok (.iload_n 1, 1) := by decide +kernel
theorem dX12_stands_255 : decode cX12_stands 255 = .ok (.iadd, 1) := by decide +kernel
theorem dX12_stands_256 : decode cX12_stands 256 = .ok (.aload_n 0, 1) := by decide +kernel
theorem dX12_stands_257 : decode cX12_stands 257 = .ok (.getfield 136, 3) := by decide +kernel
theorem dX12_stands_260 : decode cX12_stands 260 = .ok (.iload_n 1, 1) := by decide +kernel
theorem dX12_stands_261 : decode cX12_stands 261 = .ok (.iaload, 1) := by decide +kernel
theorem dX12_stands_262 : decode cX12_stands 262 = .ok (.iastore, 1) := by decide +kernel
theorem dX12_stands_263 : decode cX12_stands 263 = .ok (.iinc 1 1, 3) := by decide +kernel
theorem dX12_stands_266 : decode cX12_stands 266 = .ok (.goto (-50), 3) := by decide +kernel
theorem dX12_stands_269 : decode cX12_stands 269 = .ok (.iconst 0, 1) := by decide +kernel
theorem dX12_stands_270 : decode cX12_stands 270 = .ok (.istore_n 1, 1) := by decide +kernel
theorem dX12_stands_271 : decode cX12_stands 271 = .ok (.iload_n 1, 1) := by decide +kernel
theorem dX12_stands_272 : decode cX12_stands 272 = .ok (.aload_n 0, 1) := by decide +kernel
theorem dX12_stands_273 : decode cX12_stands 273 = .ok (.getfield 367, 3) := by decide +kernel
theorem dX12_stands_276 : decode cX12_stands 276 = .ok (.if_icmp .ge 25, 3) := by decide +kernel
theorem dX12_stands_279 : decode cX12_stands 279 = .ok (.aload_n 0, 1) := by decide +kernel
theorem dX12_stands_280 : decode cX12_stands 280 = .ok (.getfield 139, 3) := by decide +kernel
theorem dX12_stands_283 : decode cX12_stands 283 = .ok (.sipush 1600, 3) := by decide +kernel
theorem dX12_stands_286 : decode cX12_stands 286 = .ok (.iload_n 1, 1) := by decide +kernel
theorem dX12_stands_287 : decode cX12_stands 287 = .ok (.iadd, 1) := by decide +kernel
theorem dX12_stands_288 : decode cX12_stands 288 = .ok (.aload_n 0, 1) := by decide +kernel
theorem dX12_stands_289 : decode cX12_stands 289 = .ok (.getfield 139, 3) := by decide +kernel
theorem dX12_stands_292 : decode cX12_stands 292 = .ok (.iload_n 1, 1) := by decide +kernel
theorem dX12_stands_293 : decode cX12_stands 293 = .ok (.iaload, 1) := by decide +kernel
theorem dX12_stands_294 : decode cX12_stands 294 = .ok (.iastore, 1) := by decide +kernel
theorem dX12_stands_295 : decode cX12_stands 295 = .ok (.iinc 1 1, 3) := by decide +kernel
theorem dX12_stands_298 : decode cX12_stands 298 = .ok (.goto (-27), 3) := by decide +kernel
theorem dX12_stands_301 : decode cX12_stands 301 = .ok (.iconst 0, 1) := by decide +kernel
theorem dX12_stands_302 : decode cX12_stands 302 = .ok (.istore_n 1, 1) := by decide +kernel
theorem dX12_stands_303 : decode cX12_stands 303 = .ok (.iload_n 1, 1) := by decide +kernel
theorem dX12_stands_304 : decode cX12_stands 304 = .ok (.bipush 32, 2) := by decide +kernel
theorem dX12_stands_306 : decode cX12_stands 306 = .ok (.if_icmp .ge 16, 3) := by decide +kernel
theorem dX12_stands_309 : decode cX12_stands 309 = .ok (.aload_n 0, 1) := by decide +kernel
theorem dX12_stands_310 : decode cX12_stands 310 = .ok (.getfield 142, 3) := by decide +kernel
theorem dX12_stands_313 : decode cX12_stands 313 = .ok (.iload_n 1, 1) := by decide +kernel
theorem dX12_stands_314 : decode cX12_stands 314 = .ok (.iconst 0, 1) := by decide +kernel
theorem dX12_stands_315 : decode cX12_stands 315 = .ok (.iastore, 1) := by decide +kernel
theorem dX12_stands_316 : decode cX12_stands 316 = .ok (.iinc 1 1, 3) := by decide +kernel
theorem dX12_stands_319 : decode cX12_stands 319 = .ok (.goto (-16), 3) := by decide +kernel
theorem dX12_stands_322 : decode cX12_stands 322 = .ok (.aload_n 0, 1) := by decide +kernel
theorem dX12_stands_323 : decode cX12_stands 323 = .ok (.invokevirtual 407, 3) := by decide +kernel
theorem dX12_stands_326 : decode cX12_stands 326 = .ok (.iconst 0, 1) := by decide +kernel
theorem dX12_stands_327 : decode cX12_stands 327 = .ok (.istore_n 1, 1) := by decide +kernel
theorem dX12_stands_328 : decode cX12_stands 328 = .ok (.iload_n 1, 1) := by decide +kernel
theorem dX12_stands_329 : decode cX12_stands 329 = .ok (.aload_n 0, 1) := by decide +kernel
theorem dX12_stands_330 : decode cX12_stands 330 = .ok (.invokevirtual 410, 3) := by decide +kernel
theorem dX12_stands_333 : decode cX12_stands 333 = .ok (.if_icmp .ge 25, 3) := by decide +kernel
theorem dX12_stands_336 : decode cX12_stands 336 = .ok (.aload_n 0, 1) := by decide +kernel
theorem dX12_stands_337 : decode cX12_stands 337 = .ok (.getfield 142, 3) := by decide +kernel
theorem dX12_stands_340 : decode cX12_stands 340 = .ok (.iconst 4, 1) := by decide +kernel
theorem dX12_stands_341 : decode cX12_stands 341 = .ok (.iload_n 1, 1) := by decide +kernel
theorem dX12_stands_342 : decode cX12_stands 342 = .ok (.iadd, 1) := by decide +kernel
theorem dX12_stands_343 : decode cX12_stands 343 = .ok (.aload_n 0, 1) := by decide +kernel
theorem dX12_stands_344 : decode cX12_stands 344 = .ok (.getfield 115, 3) := by decide +kernel
theorem dX12_stands_347 : decode cX12_stands 347 = .ok (.iconst 4, 1) := by decide +kernel
theorem dX12_stands_348 : decode cX12_stands 348 = .ok (.iload_n 1, 1) := by decide +kernel
theorem dX12_stands_349 : decode cX12_stands 349 = .ok (.iadd, 1) := by decide +kernel
theorem dX12_stands_350 : decode cX12_stands 350 = .ok (.iaload, 1) := by decide +kernel
theorem dX12_stands_351 : decode cX12_stands 351 = .ok (.iastore, 1) := by decide +kernel
theorem dX12_stands_352 : decode cX12_stands 352 = .ok (.iinc 1 1, 3) := by decide +kernel
theorem dX12_stands_355 : decode cX12_stands 355 = .ok (.goto (-27), 3) := by decide +kernel
theorem dX12_stands_358 : decode cX12_stands 358 = .ok (.aload_n 0, 1) := by decide +kernel
theorem dX12_stands_359 : decode cX12_stands 359 = .ok (.iconst 0, 1) := by decide +kernel
theorem dX12_stands_360 : decode cX12_stands 360 = .ok (.putfield 413, 3) := by decide +kernel
theorem dX12_stands_363 : decode cX12_stands 363 = .ok (.aload_n 0, 1) := by decide +kernel
theorem dX12_stands_364 : decode cX12_stands 364 = .ok (.iconst 0, 1) := by decide +kernel
theorem dX12_stands_365 : decode cX12_stands 365 = .ok (.putfield 416, 3) := by decide +kernel
theorem dX12_stands_368 : decode cX12_stands 368 = .ok (.return_, 1) := by decide +kernel
theorem dX12_qDrops_0 : decode cX12_qDrops 0 = .ok (.aload_n 0, 1) := by decide +kernel
theorem dX12_qDrops_1 : decode cX12_qDrops 1 = .ok (.dup, 1) := by decide +kernel
theorem dX12_qDrops_2 : decode cX12_qDrops 2 = .ok (.getfield 355, 3) := by decide +kernel
theorem dX12_qDrops_5 : decode cX12_qDrops 5 = .ok (.iconst 1, 1) := by decide +kernel
theorem dX12_qDrops_6 : decode cX12_qDrops 6 = .ok (.isub, 1) := by decide +kernel
theorem dX12_qDrops_7 : decode cX12_qDrops 7 = .ok (.putfield 355, 3) := by decide +kernel
theorem dX12_qDrops_10 : decode cX12_qDrops 10 = .ok (.aload_n 0, 1) := by decide +kernel
theorem dX12_qDrops_11 : decode cX12_qDrops 11 = .ok (.aload_n 0, 1) := by decide +kernel
theorem dX12_qDrops_12 : decode cX12_qDrops 12 = .ok (.getfield 251, 3) := by decide +kernel
theorem dX12_qDrops_15 : decode cX12_qDrops 15 = .ok (.aload_n 0, 1) := by decide +kernel
theorem dX12_qDrops_16 : decode cX12_qDrops 16 = .ok (.getfield 355, 3) := by decide +kernel
theorem dX12_qDrops_19 : decode cX12_qDrops 19 = .ok (.iaload, 1) := by decide +kernel
theorem dX12_qDrops_20 : decode cX12_qDrops 20 = .ok (.invokevirtual 594, 3) := by decide +kernel
theorem dX12_qDrops_23 : decode cX12_qDrops 23 = .ok (.return_, 1) := by decide +kernel
theorem dX12_isNextRow_0 : decode cX12_isNextRow 0 = .ok (.aload_n 0, 1) := by decide +kernel
theorem dX12_isNextRow_1 : decode cX12_isNextRow 1 = .ok (.invokevirtual 419, 3) := by decide +kernel
theorem dX12_isNextRow_4 : decode cX12_isNextRow 4 = .ok (.iconst 1, 1) := by decide +kernel
theorem dX12_isNextRow_5 : decode cX12_isNextRow 5 = .ok (.isub, 1) := by decide +kernel
theorem dX12_isNextRow_6 : decode cX12_isNextRow 6 = .ok (.istore_n 1, 1) := by decide +kernel
theorem dX12_isNextRow_7 : decode cX12_isNextRow 7 = .ok (.iload_n 1, 1) := by decide +kernel
theorem dX12_isNextRow_8 : decode cX12_isNextRow 8 = .ok (.ifCond .lt 31, 3) := by decide +kernel
theorem dX12_isNextRow_11 : decode cX12_isNextRow 11 = .ok (.aload_n 0, 1) := by decide +kernel
theorem dX12_isNextRow_12 : decode cX12_isNextRow 12 = .ok (.getfield 148, 3) := by decide +kernel
theorem dX12_isNextRow_15 : decode cX12_isNextRow 15 = .ok (.iload_n 1, 1) := by decide +kernel
theorem dX12_isNextRow_16 : decode cX12_isNextRow 16 = .ok (.iaload, 1) := by decide +kernel
theorem dX12_isNextRow_17 : decode cX12_isNextRow 17 = .ok (.aload_n 0, 1) := by decide +kernel
theorem dX12_isNextRow_18 : decode cX12_isNextRow 18 = .ok (.getfield 151, 3) := by decide +kernel
theorem dX12_isNextRow_21 : decode cX12_isNextRow 21 = .ok (.iload_n 1, 1) := by decide +kernel
theorem dX12_isNextRow_22 : decode cX12_isNextRow 22 = .ok (.iaload, 1) := by decide +kernel
theorem dX12_isNextRow_23 : decode cX12_isNextRow 23 = .ok (.if_icmp .ne 16, 3) := by decide +kernel
theorem dX12_isNextRow_26 : decode cX12_isNextRow 26 = .ok (.aload_n 0, 1) := by decide +kernel
theorem dX12_isNextRow_27 : decode cX12_isNextRow 27 = .ok (.getfield 148, 3) := by decide +kernel
theorem dX12_isNextRow_30 : decode cX12_isNextRow 30 = .ok (.iload_n 1, 1) := by decide +kernel
theorem dX12_isNextRow_31 : decode cX12_isNextRow 31 = .ok (.iconst 0, 1) := by decide +kernel
theorem dX12_isNextRow_32 : decode cX12_isNextRow 32 = .ok (.iastore, 1) := by decide +kernel
theorem dX12_isNextRow_33 : decode cX12_isNextRow 33 = .ok (.iinc 1 (-1), 3) := by decide +kernel
theorem dX12_isNextRow_36 : decode cX12_isNextRow 36 = .ok (.goto (-29), 3) := by decide +kernel
theorem dX12_isNextRow_39 : decode cX12_isNextRow 39 = .ok (.iload_n 1, 1) := by decide +kernel
theorem dX12_isNextRow_40 : decode cX12_isNextRow 40 = .ok (.ifCond .ge 5, 3) := by decide +kernel
theorem dX12_isNextRow_43 : decode cX12_isNextRow 43 = .ok (.iconst 0, 1) := by decide +kernel
theorem dX12_isNextRow_44 : decode cX12_isNextRow 44 = .ok (.ireturn, 1) := by decide +kernel
theorem dX12_isNextRow_45 : decode cX12_isNextRow 45 = .ok (.aload_n 0, 1) := by decide +kernel
theorem dX12_isNextRow_46 : decode cX12_isNextRow 46 = .ok (.getfield 148, 3) := by decide +kernel
theorem dX12_isNextRow_49 : decode cX12_isNextRow 49 = .ok (.iload_n 1, 1) := by decide +kernel
theorem dX12_isNextRow_50 : decode cX12_isNextRow 50 = .ok (.dup2, 1) := by decide +kernel
theorem dX12_isNextRow_51 : decode cX12_isNextRow 51 = .ok (.iaload, 1) := by decide +kernel
theorem dX12_isNextRow_52 : decode cX12_isNextRow 52 = .ok (.iconst 1, 1) := by decide +kernel
theorem dX12_isNextRow_53 : decode cX12_isNextRow 53 = .ok (.iadd, 1) := by decide +kernel
theorem dX12_isNextRow_54 : decode cX12_isNextRow 54 = .ok (.iastore, 1) := by decide +kernel
theorem dX12_isNextRow_55 : decode cX12_isNextRow 55 = .ok (.iconst 1, 1) := by decide +kernel
theorem dX12_isNextRow_56 : decode cX12_isNextRow 56 = .ok (.ireturn, 1) := by decide +kernel
theorem dX12_isDigit_0 : decode cX12_isDigit 0 = .ok (.iload_n 0, 1) := by decide +kernel
theorem dX12_isDigit_1 : decode cX12_isDigit 1 = .ok (.bipush 48, 2) := by decide +kernel
theorem dX12_isDigit_3 : decode cX12_isDigit 3 = .ok (.if_icmp .lt 13, 3) := by decide +kernel
theorem dX12_isDigit_6 : decode cX12_isDigit 6 = .ok (.iload_n 0, 1) := by decide +kernel
theorem dX12_isDigit_7 : decode cX12_isDigit 7 = .ok (.bipush 57, 2) := by decide +kernel
theorem dX12_isDigit_9 : decode cX12_isDigit 9 = .ok (.if_icmp .gt 7, 3) := by decide +kernel
theorem dX12_isDigit_12 : decode cX12_isDigit 12 = .ok (.iconst 1, 1) := by decide +kernel
theorem dX12_isDigit_13 : decode cX12_isDigit 13 = .ok (.goto 4, 3) := by decide +kernel
theorem dX12_isDigit_16 : decode cX12_isDigit 16 = .ok (.iconst 0, 1) := by decide +kernel
theorem dX12_isDigit_17 : decode cX12_isDigit 17 = .ok (.ireturn, 1) := by decide +kernel
theorem dX12_nameOf_0 : decode cX12_nameOf 0 = .ok (.iconst 0, 1) := by decide +kernel
theorem dX12_nameOf_1 : decode cX12_nameOf 1 = .ok (.istore 4, 2) := by decide +kernel
theorem dX12_nameOf_3 : decode cX12_nameOf 3 = .ok (.iload 4, 2) := by decide +kernel
theorem dX12_nameOf_5 : decode cX12_nameOf 5 = .ok (.aload_n 0, 1) := by decide +kernel
theorem dX12_nameOf_6 : decode cX12_nameOf 6 = .ok (.getfield 105, 3) := by decide +kernel
theorem dX12_nameOf_9 : decode cX12_nameOf 9 = .ok (.iload_n 1, 1) := by decide +kernel
theorem dX12_nameOf_10 : decode cX12_nameOf 10 = .ok (.iaload, 1) := by decide +kernel
theorem dX12_nameOf_11 : decode cX12_nameOf 11 = .ok (.if_icmp .ge 29, 3) := by decide +kernel
theorem dX12_nameOf_14 : decode cX12_nameOf 14 = .ok (.aload_n 0, 1) := by decide +kernel
theorem dX12_nameOf_15 : decode cX12_nameOf 15 = .ok (.getfield 108, 3) := by decide +kernel
theorem dX12_nameOf_18 : decode cX12_nameOf 18 = .ok (.bipush 8, 2) := by decide +kernel
theorem dX12_nameOf_20 : decode cX12_nameOf 20 = .ok (.iload_n 1, 1) := by decide +kernel
theorem dX12_nameOf_21 : decode cX12_nameOf 21 = .ok (.imul, 1) := by decide +kernel
theorem dX12_nameOf_22 : decode cX12_nameOf 22 = .ok (.iload 4, 2) := by decide +kernel
theorem dX12_nameOf_24 : decode cX12_nameOf 24 = .ok (.iadd, 1) := by decide +kernel
theorem dX12_nameOf_25 : decode cX12_nameOf 25 = .ok (.laload, 1) := by decide +kernel
theorem dX12_nameOf_26 : decode cX12_nameOf 26 = .ok (.lload_n 2, 1) := by decide +kernel
theorem dX12_nameOf_27 : decode cX12_nameOf 27 = .ok (.lcmp, 1) := by decide +kernel
theorem dX12_nameOf_28 : decode cX12_nameOf 28 = .ok (.ifCond .ne 6, 3) := by decide +kernel
theorem dX12_nameOf_31 : decode cX12_nameOf 31 = .ok (.iload 4, 2) := by decide +kernel
theorem dX12_nameOf_33 : decode cX12_nameOf 33 = .ok (.ireturn, 1) := by decide +kernel
theorem dX12_nameOf_34 : decode cX12_nameOf 34 = .ok (.iinc 4 1, 3) := by decide +kernel
theorem dX12_nameOf_37 : decode cX12_nameOf 37 = .ok (.goto (-34), 3) := by decide +kernel
theorem dX12_nameOf_40 : decode cX12_nameOf 40 = .ok (.iconst (-1), 1) := by decide +kernel
theorem dX12_nameOf_41 : decode cX12_nameOf 41 = .ok (.ireturn, 1) := by decide +kernel
theorem dX12_feed_0 : decode cX12_feed 0 = .ok (.aload_n 0, 1) := by decide +kernel
theorem dX12_feed_1 : decode cX12_feed 1 = .ok (.getfield 260, 3) := by decide +kernel
theorem dX12_feed_4 : decode cX12_feed 4 = .ok (.bipush 20, 2) := by decide +kernel
theorem dX12_feed_6 : decode cX12_feed 6 = .ok (.iadd, 1) := by decide +kernel
theorem dX12_feed_7 : decode cX12_feed 7 = .ok (.sipush 1600, 3) := by decide +kernel
theorem dX12_feed_10 : decode cX12_feed 10 = .ok (.if_icmp .le 15, 3) := by decide +kernel
theorem dX12_feed_13 : decode cX12_feed 13 = .ok (.aload_n 0, 1) := by decide +kernel
theorem dX12_feed_14 : decode cX12_feed 14 = .ok (.getfield 17, 3) := by decide +kernel
theorem dX12_feed_17 : decode cX12_feed 17 = .ok (.iconst 0, 1) := by decide +kernel
theorem dX12_feed_18 : decode cX12_feed 18 = .ok (.dup2, 1) := by decide +kernel
theorem dX12_feed_19 : decode cX12_feed 19 = .ok (.iaload, 1) := by decide +kernel
theorem dX12_feed_20 : decode cX12_feed 20 = .ok (.iconst 1, 1) := by decide +kernel
theorem dX12_feed_21 : decode cX12_feed 21 = .ok (.iadd, 1) := by decide +kernel
theorem dX12_feed_22 : decode cX12_feed 22 = .ok (.iastore, 1) := by decide +kernel
theorem dX12_feed_23 : decode cX12_feed 23 = .ok (.iconst (-1), 1) := by decide +kernel
theorem dX12_feed_24 : decode cX12_feed 24 = .ok (.ireturn, 1) := by decide +kernel
theorem dX12_feed_25 : decode cX12_feed 25 = .ok (.iconst 0, 1) := by decide +kernel
theorem dX12_feed_26 : decode cX12_feed 26 = .ok (.istore 6, 2) := by decide +kernel
theorem dX12_feed_28 : decode cX12_feed 28 = .ok (.iload 6, 2) := by decide +kernel
theorem dX12_feed_30 : decode cX12_feed 30 = .ok (.bipush 20, 2) := by decide +kernel
theorem dX12_feed_32 : decode cX12_feed 32 = .ok (.if_icmp .ge 92, 3) := by decide +kernel
