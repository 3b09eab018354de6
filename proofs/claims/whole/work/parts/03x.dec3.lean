theorem dX12_shared_151 : decode cX12_shared 151 = .ok (.goto 11, 3) := by decide +kernel
theorem dX12_shared_154 : decode cX12_shared 154 = .ok (.aload_n 0, 1) := by decide +kernel
theorem dX12_shared_155 : decode cX12_shared 155 = .ok (.getfield 154, 3) := by decide +kernel
theorem dX12_shared_158 : decode cX12_shared 158 = .ok (.iload_n 1, 1) := by decide +kernel
theorem dX12_shared_159 : decode cX12_shared 159 = .ok (.iaload, 1) := by decide +kernel
theorem dX12_shared_160 : decode cX12_shared 160 = .ok (.iconst 1, 1) := by decide +kernel
theorem dX12_shared_161 : decode cX12_shared 161 = .ok (.isub, 1) := by decide +kernel
theorem dX12_shared_162 : decode cX12_shared 162 = .ok (.ireturn, 1) := by decide +kernel
theorem dX12_isHelper_0 : decode cX12_isHelper 0 = .ok (.iload_n 1, 1) := by decide +kernel
theorem dX12_isHelper_1 : decode cX12_isHelper 1 = .ok (.i2l, 1) := by decide +kernel
theorem dX12_isHelper_2 : decode cX12_isHelper 2 = .ok (.lconst 0, 1) := by decide +kernel
theorem dX12_isHelper_3 : decode cX12_isHelper 3 = .ok (.aload_n 0, 1) := by decide +kernel
theorem dX12_isHelper_4 : decode cX12_isHelper 4 = .ok (.invokevirtual 422, 3) := by decide +kernel
theorem dX12_isHelper_7 : decode cX12_isHelper 7 = .ok (.iconst 1, 1) := by decide +kernel
theorem dX12_isHelper_8 : decode cX12_isHelper 8 = .ok (.isub, 1) := by decide +kernel
theorem dX12_isHelper_9 : decode cX12_isHelper 9 = .ok (.i2l, 1) := by decide +kernel
theorem dX12_isHelper_10 : decode cX12_isHelper 10 = .ok (.invokestatic 303, 3) := by decide +kernel
theorem dX12_isHelper_13 : decode cX12_isHelper 13 = .ok (.ireturn, 1) := by decide +kernel
theorem dX12_isAhead_0 : decode cX12_isAhead 0 = .ok (.iload_n 1, 1) := by decide +kernel
theorem dX12_isAhead_1 : decode cX12_isAhead 1 = .ok (.i2l, 1) := by decide +kernel
theorem dX12_isAhead_2 : decode cX12_isAhead 2 = .ok (.iload_n 2, 1) := by decide +kernel
theorem dX12_isAhead_3 : decode cX12_isAhead 3 = .ok (.i2l, 1) := by decide +kernel
theorem dX12_isAhead_4 : decode cX12_isAhead 4 = .ok (.iload_n 3, 1) := by decide +kernel
theorem dX12_isAhead_5 : decode cX12_isAhead 5 = .ok (.i2l, 1) := by decide +kernel
theorem dX12_isAhead_6 : decode cX12_isAhead 6 = .ok (.invokestatic 303, 3) := by decide +kernel
theorem dX12_isAhead_9 : decode cX12_isAhead 9 = .ok (.ifCond .eq 21, 3) := by decide +kernel
theorem dX12_isAhead_12 : decode cX12_isAhead 12 = .ok (.aload_n 0, 1) := by decide +kernel
theorem dX12_isAhead_13 : decode cX12_isAhead 13 = .ok (.getfield 142, 3) := by decide +kernel
theorem dX12_isAhead_16 : decode cX12_isAhead 16 = .ok (.iconst 0, 1) := by decide +kernel
theorem dX12_isAhead_17 : decode cX12_isAhead 17 = .ok (.iaload, 1) := by decide +kernel
theorem dX12_isAhead_18 : decode cX12_isAhead 18 = .ok (.iload_n 1, 1) := by decide +kernel
theorem dX12_isAhead_19 : decode cX12_isAhead 19 = .ok (.iadd, 1) := by decide +kernel
theorem dX12_isAhead_20 : decode cX12_isAhead 20 = .ok (.sipush 999, 3) := by decide +kernel
theorem dX12_isAhead_23 : decode cX12_isAhead 23 = .ok (.if_icmp .gt 7, 3) := by decide +kernel
theorem dX12_isAhead_26 : decode cX12_isAhead 26 = .ok (.iconst 1, 1) := by decide +kernel
theorem dX12_isAhead_27 : decode cX12_isAhead 27 = .ok (.goto 4, 3) := by decide +kernel
theorem dX12_isAhead_30 : decode cX12_isAhead 30 = .ok (.iconst 0, 1) := by decide +kernel
theorem dX12_isAhead_31 : decode cX12_isAhead 31 = .ok (.ireturn, 1) := by decide +kernel
theorem dX12_qGoesOnTest_0 : decode cX12_qGoesOnTest 0 = .ok (.aload_n 0, 1) := by decide +kernel
theorem dX12_qGoesOnTest_1 : decode cX12_qGoesOnTest 1 = .ok (.getfield 263, 3) := by decide +kernel
theorem dX12_qGoesOnTest_4 : decode cX12_qGoesOnTest 4 = .ok (.ifCond .ne 72, 3) := by decide +kernel
theorem dX12_qGoesOnTest_7 : decode cX12_qGoesOnTest 7 = .ok (.aload_n 0, 1) := by decide +kernel
theorem dX12_qGoesOnTest_8 : decode cX12_qGoesOnTest 8 = .ok (.invokevirtual 275, 3) := by decide +kernel
theorem dX12_qGoesOnTest_11 : decode cX12_qGoesOnTest 11 = .ok (.bipush 93, 2) := by decide +kernel
theorem dX12_qGoesOnTest_13 : decode cX12_qGoesOnTest 13 = .ok (.if_icmp .ne 63, 3) := by decide +kernel
theorem dX12_qGoesOnTest_16 : decode cX12_qGoesOnTest 16 = .ok (.aload_n 0, 1) := by decide +kernel
theorem dX12_qGoesOnTest_17 : decode cX12_qGoesOnTest 17 = .ok (.invokevirtual 645, 3) := by decide +kernel
theorem dX12_qGoesOnTest_20 : decode cX12_qGoesOnTest 20 = .ok (.ifCond .eq 56, 3) := by decide +kernel
theorem dX12_qGoesOnTest_23 : decode cX12_qGoesOnTest 23 = .ok (.aload_n 0, 1) := by decide +kernel
theorem dX12_qGoesOnTest_24 : decode cX12_qGoesOnTest 24 = .ok (.dup, 1) := by decide +kernel
theorem dX12_qGoesOnTest_25 : decode cX12_qGoesOnTest 25 = .ok (.getfield 269, 3) := by decide +kernel
theorem dX12_qGoesOnTest_28 : decode cX12_qGoesOnTest 28 = .ok (.iconst 1, 1) := by decide +kernel
theorem dX12_qGoesOnTest_29 : decode cX12_qGoesOnTest 29 = .ok (.iadd, 1) := by decide +kernel
theorem dX12_qGoesOnTest_30 : decode cX12_qGoesOnTest 30 = .ok (.putfield 269, 3) := by decide +kernel
theorem dX12_qGoesOnTest_33 : decode cX12_qGoesOnTest 33 = .ok (.aload_n 0, 1) := by decide +kernel
theorem dX12_qGoesOnTest_34 : decode cX12_qGoesOnTest 34 = .ok (.bipush 25, 2) := by decide +kernel
theorem dX12_qGoesOnTest_36 : decode cX12_qGoesOnTest 36 = .ok (.invokevirtual 627, 3) := by decide +kernel
theorem dX12_qGoesOnTest_39 : decode cX12_qGoesOnTest 39 = .ok (.ifCond .ne 10, 3) := by decide +kernel
theorem dX12_qGoesOnTest_42 : decode cX12_qGoesOnTest 42 = .ok (.aload_n 0, 1) := by decide +kernel
theorem dX12_qGoesOnTest_43 : decode cX12_qGoesOnTest 43 = .ok (.invokevirtual 600, 3) := by decide +kernel
theorem dX12_qGoesOnTest_46 : decode cX12_qGoesOnTest 46 = .ok (.goto (-13), 3) := by decide +kernel
theorem dX12_qGoesOnTest_49 : decode cX12_qGoesOnTest 49 = .ok (.aload_n 0, 1) := by decide +kernel
theorem dX12_qGoesOnTest_50 : decode cX12_qGoesOnTest 50 = .ok (.dup, 1) := by decide +kernel
theorem dX12_qGoesOnTest_51 : decode cX12_qGoesOnTest 51 = .ok (.getfield 355, 3) := by decide +kernel
theorem dX12_qGoesOnTest_54 : decode cX12_qGoesOnTest 54 = .ok (.iconst 1, 1) := by decide +kernel
theorem dX12_qGoesOnTest_55 : decode cX12_qGoesOnTest 55 = .ok (.isub, 1) := by decide +kernel
theorem dX12_qGoesOnTest_56 : decode cX12_qGoesOnTest 56 = .ok (.putfield 355, 3) := by decide +kernel
theorem dX12_qGoesOnTest_59 : decode cX12_qGoesOnTest 59 = .ok (.aload_n 0, 1) := by decide +kernel
theorem dX12_qGoesOnTest_60 : decode cX12_qGoesOnTest 60 = .ok (.dup, 1) := by decide +kernel
theorem dX12_qGoesOnTest_61 : decode cX12_qGoesOnTest 61 = .ok (.getfield 358, 3) := by decide +kernel
theorem dX12_qGoesOnTest_64 : decode cX12_qGoesOnTest 64 = .ok (.iconst 1, 1) := by decide +kernel
theorem dX12_qGoesOnTest_65 : decode cX12_qGoesOnTest 65 = .ok (.isub, 1) := by decide +kernel
theorem dX12_qGoesOnTest_66 : decode cX12_qGoesOnTest 66 = .ok (.putfield 358, 3) := by decide +kernel
theorem dX12_qGoesOnTest_69 : decode cX12_qGoesOnTest 69 = .ok (.aload_n 0, 1) := by decide +kernel
theorem dX12_qGoesOnTest_70 : decode cX12_qGoesOnTest 70 = .ok (.invokevirtual 639, 3) := by decide +kernel
theorem dX12_qGoesOnTest_73 : decode cX12_qGoesOnTest 73 = .ok (.goto (-73), 3) := by decide +kernel
theorem dX12_qGoesOnTest_76 : decode cX12_qGoesOnTest 76 = .ok (.aload_n 0, 1) := by decide +kernel
theorem dX12_qGoesOnTest_77 : decode cX12_qGoesOnTest 77 = .ok (.aload_n 0, 1) := by decide +kernel
theorem dX12_qGoesOnTest_78 : decode cX12_qGoesOnTest 78 = .ok (.getfield 200, 3) := by decide +kernel
theorem dX12_qGoesOnTest_81 : decode cX12_qGoesOnTest 81 = .ok (.invokevirtual 290, 3) := by decide +kernel
theorem dX12_qGoesOnTest_84 : decode cX12_qGoesOnTest 84 = .ok (.ifCond .eq 42, 3) := by decide +kernel
theorem dX12_qGoesOnTest_87 : decode cX12_qGoesOnTest 87 = .ok (.aload_n 0, 1) := by decide +kernel
theorem dX12_qGoesOnTest_88 : decode cX12_qGoesOnTest 88 = .ok (.bipush 10, 2) := by decide +kernel
theorem dX12_qGoesOnTest_90 : decode cX12_qGoesOnTest 90 = .ok (.invokevirtual 627, 3) := by decide +kernel
theorem dX12_qGoesOnTest_93 : decode cX12_qGoesOnTest 93 = .ok (.ifCond .eq 10, 3) := by decide +kernel
theorem dX12_qGoesOnTest_96 : decode cX12_qGoesOnTest 96 = .ok (.aload_n 0, 1) := by decide +kernel
theorem dX12_qGoesOnTest_97 : decode cX12_qGoesOnTest 97 = .ok (.invokevirtual 600, 3) := by decide +kernel
theorem dX12_qGoesOnTest_100 : decode cX12_qGoesOnTest 100 = .ok (.goto (-13), 3) := by decide +kernel
theorem dX12_qGoesOnTest_103 : decode cX12_qGoesOnTest 103 = .ok (.aload_n 0, 1) := by decide +kernel
theorem dX12_qGoesOnTest_104 : decode cX12_qGoesOnTest 104 = .ok (.getfield 251, 3) := by decide +kernel
theorem dX12_qGoesOnTest_107 : decode cX12_qGoesOnTest 107 = .ok (.aload_n 0, 1) := by decide +kernel
theorem dX12_qGoesOnTest_108 : decode cX12_qGoesOnTest 108 = .ok (.getfield 355, 3) := by decide +kernel
theorem dX12_qGoesOnTest_111 : decode cX12_qGoesOnTest 111 = .ok (.bipush 10, 2) := by decide +kernel
theorem dX12_qGoesOnTest_113 : decode cX12_qGoesOnTest 113 = .ok (.iastore, 1) := by decide +kernel
theorem dX12_qGoesOnTest_114 : decode cX12_qGoesOnTest 114 = .ok (.aload_n 0, 1) := by decide +kernel
theorem dX12_qGoesOnTest_115 : decode cX12_qGoesOnTest 115 = .ok (.dup, 1) := by decide +kernel
theorem dX12_qGoesOnTest_116 : decode cX12_qGoesOnTest 116 = .ok (.getfield 355, 3) := by decide +kernel
theorem dX12_qGoesOnTest_119 : decode cX12_qGoesOnTest 119 = .ok (.iconst 1, 1) := by decide +kernel
theorem dX12_qGoesOnTest_120 : decode cX12_qGoesOnTest 120 = .ok (.iadd, 1) := by decide +kernel
theorem dX12_qGoesOnTest_121 : decode cX12_qGoesOnTest 121 = .ok (.putfield 355, 3) := by decide +kernel
theorem dX12_qGoesOnTest_124 : decode cX12_qGoesOnTest 124 = .ok (.iconst 1, 1) := by decide +kernel
theorem dX12_qGoesOnTest_125 : decode cX12_qGoesOnTest 125 = .ok (.ireturn, 1) := by decide +kernel
theorem dX12_qGoesOnTest_126 : decode cX12_qGoesOnTest 126 = .ok (.aload_n 0, 1) := by decide +kernel
theorem dX12_qGoesOnTest_127 : decode cX12_qGoesOnTest 127 = .ok (.aload_n 0, 1) := by decide +kernel
theorem dX12_qGoesOnTest_128 : decode cX12_qGoesOnTest 128 = .ok (.getfield 203, 3) := by decide +kernel
theorem dX12_qGoesOnTest_131 : decode cX12_qGoesOnTest 131 = .ok (.invokevirtual 290, 3) := by decide +kernel
theorem dX12_qGoesOnTest_134 : decode cX12_qGoesOnTest 134 = .ok (.ifCond .eq 51, 3) := by decide +kernel
theorem dX12_qGoesOnTest_137 : decode cX12_qGoesOnTest 137 = .ok (.aload_n 0, 1) := by decide +kernel
theorem dX12_qGoesOnTest_138 : decode cX12_qGoesOnTest 138 = .ok (.bipush 10, 2) := by decide +kernel
theorem dX12_qGoesOnTest_140 : decode cX12_qGoesOnTest 140 = .ok (.invokevirtual 627, 3) := by decide +kernel
theorem dX12_qGoesOnTest_143 : decode cX12_qGoesOnTest 143 = .ok (.ifCond .ne 12, 3) := by decide +kernel
theorem dX12_qGoesOnTest_146 : decode cX12_qGoesOnTest 146 = .ok (.aload_n 0, 1) := by decide +kernel
theorem dX12_qGoesOnTest_147 : decode cX12_qGoesOnTest 147 = .ok (.bipush 11, 2) := by decide +kernel
theorem dX12_qGoesOnTest_149 : decode cX12_qGoesOnTest 149 = .ok (.invokevirtual 627, 3) := by decide +kernel
theorem dX12_qGoesOnTest_152 : decode cX12_qGoesOnTest 152 = .ok (.ifCond .eq 10, 3) := by decide +kernel
theorem dX12_qGoesOnTest_155 : decode cX12_qGoesOnTest 155 = .ok (.aload_n 0, 1) := by decide +kernel
theorem dX12_qGoesOnTest_156 : decode cX12_qGoesOnTest 156 = .ok (.invokevirtual 600, 3) := by decide +kernel
theorem dX12_qGoesOnTest_159 : decode cX12_qGoesOnTest 159 = .ok (.goto (-22), 3) := by decide +kernel
theorem dX12_qGoesOnTest_162 : decode cX12_qGoesOnTest 162 = .ok (.aload_n 0, 1) := by decide +kernel
theorem dX12_qGoesOnTest_163 : decode cX12_qGoesOnTest 163 = .ok (.getfield 251, 3) := by decide +kernel
theorem dX12_qGoesOnTest_166 : decode cX12_qGoesOnTest 166 = .ok (.aload_n 0, 1) := by decide +kernel
theorem dX12_qGoesOnTest_167 : decode cX12_qGoesOnTest 167 = .ok (.getfield 355, 3) := by decide +kernel
theorem dX12_qGoesOnTest_170 : decode cX12_qGoesOnTest 170 = .ok (.bipush 11, 2) := by decide +kernel
theorem dX12_qGoesOnTest_172 : decode cX12_qGoesOnTest 172 = .ok (.iastore, 1) := by decide +kernel
theorem dX12_qGoesOnTest_173 : decode cX12_qGoesOnTest 173 = .ok (.aload_n 0, 1) := by decide +kernel
theorem dX12_qGoesOnTest_174 : decode cX12_qGoesOnTest 174 = .ok (.dup, 1) := by decide +kernel
theorem dX12_qGoesOnTest_175 : decode cX12_qGoesOnTest 175 = .ok (.getfield 355, 3) := by decide +kernel
theorem dX12_qGoesOnTest_178 : decode cX12_qGoesOnTest 178 = .ok (.iconst 1, 1) := by decide +kernel
theorem dX12_qGoesOnTest_179 : decode cX12_qGoesOnTest 179 = .ok (.iadd, 1) := by decide +kernel
theorem dX12_qGoesOnTest_180 : decode cX12_qGoesOnTest 180 = .ok (.putfield 355, 3) := by decide +kernel
theorem dX12_qGoesOnTest_183 : decode cX12_qGoesOnTest 183 = .ok (.iconst 1, 1) := by decide +kernel
theorem dX12_qGoesOnTest_184 : decode cX12_qGoesOnTest 184 = .ok (.ireturn, 1) := by decide +kernel
theorem dX12_qGoesOnTest_185 : decode cX12_qGoesOnTest 185 = .ok (.aload_n 0, 1) := by decide +kernel
theorem dX12_qGoesOnTest_186 : decode cX12_qGoesOnTest 186 = .ok (.getfield 263, 3) := by decide +kernel
theorem dX12_qGoesOnTest_189 : decode cX12_qGoesOnTest 189 = .ok (.ifCond .ne 19, 3) := by decide +kernel
theorem dX12_qGoesOnTest_192 : decode cX12_qGoesOnTest 192 = .ok (.aload_n 0, 1) := by decide +kernel
theorem dX12_qGoesOnTest_193 : decode cX12_qGoesOnTest 193 = .ok (.invokevirtual 645, 3) := by decide +kernel
theorem dX12_qGoesOnTest_196 : decode cX12_qGoesOnTest 196 = .ok (.ifCond .eq 12, 3) := by decide +kernel
theorem dX12_qGoesOnTest_199 : decode cX12_qGoesOnTest 199 = .ok (.aload_n 0, 1) := by decide +kernel
theorem dX12_qGoesOnTest_200 : decode cX12_qGoesOnTest 200 = .ok (.iconst 1, 1) := by decide +kernel
theorem dX12_qGoesOnTest_201 : decode cX12_qGoesOnTest 201 = .ok (.aload_n 0, 1) := by decide +kernel
theorem dX12_qGoesOnTest_202 : decode cX12_qGoesOnTest 202 = .ok (.getfield 269, 3) := by decide +kernel
theorem dX12_qGoesOnTest_205 : decode cX12_qGoesOnTest 205 = .ok (.invokevirtual 293, 3) := by decide +kernel
theorem dX12_qGoesOnTest_208 : decode cX12_qGoesOnTest 208 = .ok (.iconst 0, 1) := by decide +kernel
theorem dX12_qGoesOnTest_209 : decode cX12_qGoesOnTest 209 = .ok (.ireturn, 1) := by decide +kernel
theorem dX12_warmIn_0 : decode cX12_warmIn 0 = .ok (.lconst 0, 1) := by decide +kernel
theorem dX12_warmIn_1 : decode cX12_warmIn 1 = .ok (.lstore_n 1, 1) := by decide +kernel
theorem dX12_warmIn_2 : decode cX12_warmIn 2 = .ok (.iconst 0, 1) := by decide +kernel
theorem dX12_warmIn_3 : decode cX12_warmIn 3 = .ok (.istore_n 3, 1) := by decide +kernel
theorem dX12_warmIn_4 : decode cX12_warmIn 4 = .ok (.iload_n 3, 1) := by decide +kernel
theorem dX12_warmIn_5 : decode cX12_warmIn 5 = .ok (.aload_n 0, 1) := by decide +kernel
theorem dX12_warmIn_6 : decode cX12_warmIn 6 = .ok (.invokevirtual 419, 3) := by decide +kernel
theorem dX12_warmIn_9 : decode cX12_warmIn 9 = .ok (.if_icmp .ge 38, 3) := by decide +kernel
theorem dX12_warmIn_12 : decode cX12_warmIn 12 = .ok (.aload_n 0, 1) := by decide +kernel
theorem dX12_warmIn_13 : decode cX12_warmIn 13 = .ok (.getfield 148, 3) := by decide +kernel
theorem dX12_warmIn_16 : decode cX12_warmIn 16 = .ok (.iload_n 3, 1) := by decide +kernel
theorem dX12_warmIn_17 : decode cX12_warmIn 17 = .ok (.iaload, 1) := by decide +kernel
theorem dX12_warmIn_18 : decode cX12_warmIn 18 = .ok (.ifCond .le 23, 3) := by decide +kernel
theorem dX12_warmIn_21 : decode cX12_warmIn 21 = .ok (.lload_n 1, 1) := by decide +kernel
theorem dX12_warmIn_22 : decode cX12_warmIn 22 = .ok (.aload_n 0, 1) := by decide +kernel
theorem dX12_warmIn_23 : decode cX12_warmIn 23 = .ok (.getfield 160, 3) := by decide +kernel
theorem dX12_warmIn_26 : decode cX12_warmIn 26 = .ok (.iconst 3, 1) := by decide +kernel
theorem dX12_warmIn_27 : decode cX12_warmIn 27 = .ok (.iload_n 3, 1) := by decide +kernel
theorem dX12_warmIn_28 : decode cX12_warmIn 28 = .ok (.imul, 1) := by decide +kernel
theorem dX12_warmIn_29 : decode cX12_warmIn 29 = .ok (.aload_n 0, 1) := by decide +kernel
theorem dX12_warmIn_30 : decode cX12_warmIn 30 = .ok (.getfield 148, 3) := by decide +kernel
theorem dX12_warmIn_33 : decode cX12_warmIn 33 = .ok (.iload_n 3, 1) := by decide +kernel
theorem dX12_warmIn_34 : decode cX12_warmIn 34 = .ok (.iaload, 1) := by decide +kernel
theorem dX12_warmIn_35 : decode cX12_warmIn 35 = .ok (.iadd, 1) := by decide +kernel
theorem dX12_warmIn_36 : decode cX12_warmIn 36 = .ok (.iconst 1, 1) := by decide +kernel
theorem dX12_warmIn_37 : decode cX12_warmIn 37 = .ok (.isub, 1) := by decide +kernel
theorem dX12_warmIn_38 : decode cX12_warmIn 38 = .ok (.laload, 1) := by decide +kernel
theorem dX12_warmIn_39 : decode cX12_warmIn 39 = .ok (.ladd, 1) := by decide +kernel
theorem dX12_warmIn_40 : decode cX12_warmIn 40 = .ok (.lstore_n 1, 1) := by decide +kernel
theorem dX12_warmIn_41 : decode cX12_warmIn 41 = .ok (.iinc 3 1, 3) := by decide +kernel
theorem dX12_warmIn_44 : decode cX12_warmIn 44 = .ok (.goto (-40), 3) := by decide +kernel
theorem dX12_warmIn_47 : decode cX12_warmIn 47 = .ok (.lload_n 1, 1) := by decide +kernel
theorem dX12_warmIn_48 : decode cX12_warmIn 48 = .ok (.lreturn, 1) := by decide +kernel
theorem dX12_qKind_0 : decode cX12_qKind 0 = .ok (.aload_n 0, 1) := by decide +kernel
theorem dX12_qKind_1 : decode cX12_qKind 1 = .ok (.aload_n 0, 1) := by decide +kernel
theorem dX12_qKind_2 : decode cX12_qKind 2 = .ok (.getfield 179, 3) := by decide +kernel
theorem dX12_qKind_5 : decode cX12_qKind 5 = .ok (.invokevirtual 290, 3) := by decide +kernel
theorem dX12_qKind_8 : decode cX12_qKind 8 = .ok (.ifCond .eq 7, 3) := by decide +kernel
theorem dX12_qKind_11 : decode cX12_qKind 11 = .ok (.iconst 0, 1) := by decide +kernel
theorem dX12_qKind_12 : decode cX12_qKind 12 = .ok (.goto 64, 3) := by decide +kernel
theorem dX12_qKind_15 : decode cX12_qKind 15 = .ok (.aload_n 0, 1) := by decide +kernel
theorem dX12_qKind_16 : decode cX12_qKind 16 = .ok (.aload_n 0, 1) := by decide +kernel
theorem dX12_qKind_17 : decode cX12_qKind 17 = .ok (.getfield 182, 3) := by decide +kernel
theorem dX12_qKind_20 : decode cX12_qKind 20 = .ok (.invokevirtual 290, 3) := by decide +kernel
theorem dX12_qKind_23 : decode cX12_qKind 23 = .ok (.ifCond .eq 7, 3) := by decide +kernel
theorem dX12_qKind_26 : decode cX12_qKind 26 = .ok (.iconst 1, 1) := by decide +kernel
theorem dX12_qKind_27 : decode cX12_qKind 27 = .ok (.goto 49, 3) := by decide +kernel
theorem dX12_qKind_30 : decode cX12_qKind 30 = .ok (.aload_n 0, 1) := by decide +kernel
theorem dX12_qKind_31 : decode cX12_qKind 31 = .ok (.aload_n 0, 1) := by decide +kernel
theorem dX12_qKind_32 : decode cX12_qKind 32 = .ok (.getfield 185, 3) := by decide +kernel
theorem dX12_qKind_35 : decode cX12_qKind 35 = .ok (.invokevirtual 290, 3) := by decide +kernel
theorem dX12_qKind_38 : decode cX12_qKind 38 = .ok (.ifCond .eq 7, 3) := by decide +kernel
theorem dX12_qKind_41 : decode cX12_qKind 41 = .ok (.iconst 2, 1) := by decide +kernel
theorem dX12_qKind_42 : decode cX12_qKind 42 = .ok (.goto 34, 3) := by decide +kernel
theorem dX12_qKind_45 : decode cX12_qKind 45 = .ok (.aload_n 0, 1) := by decide +kernel
theorem dX12_qKind_46 : decode cX12_qKind 46 = .ok (.aload_n 0, 1) := by decide +kernel
theorem dX12_qKind_47 : decode cX12_qKind 47 = .ok (.getfield 188, 3) := by decide +kernel
theorem dX12_qKind_50 : decode cX12_qKind 50 = .ok (.invokevirtual 290, 3) := by decide +kernel
theorem dX12_qKind_53 : decode cX12_qKind 53 = .ok (.ifCond .eq 7, 3) := by decide +kernel
theorem dX12_qKind_56 : decode cX12_qKind 56 = .ok (.iconst 3, 1) := by decide +kernel
theorem dX12_qKind_57 : decode cX12_qKind 57 = .ok (.goto 19, 3) := by decide +kernel
theorem dX12_qKind_60 : decode cX12_qKind 60 = .ok (.aload_n 0, 1) := by decide +kernel
theorem dX12_qKind_61 : decode cX12_qKind 61 = .ok (.aload_n 0, 1) := by decide +kernel
theorem dX12_qKind_62 : decode cX12_qKind 62 = .ok (.getfield 191, 3) := by decide +kernel
theorem dX12_qKind_65 : decode cX12_qKind 65 = .ok (.invokevirtual 290, 3) := by decide +kernel
theorem dX12_qKind_68 : decode cX12_qKind 68 = .ok (.ifCond .eq 7, 3) := by decide +kernel
theorem dX12_qKind_71 : decode cX12_qKind 71 = .ok (.iconst 4, 1) := by decide +kernel
theorem dX12_qKind_72 : decode cX12_qKind 72 = .ok (.goto 4, 3) := by decide +kernel
theorem dX12_qKind_75 : decode cX12_qKind 75 = .ok (.iconst 5, 1) := by decide +kernel
theorem dX12_qKind_76 : decode cX12_qKind 76 = .ok (.istore_n 1, 1) := by decide +kernel
theorem dX12_qKind_77 : decode cX12_qKind 77 = .ok (.iload_n 1, 1) := by decide +kernel
theorem dX12_qKind_78 : decode cX12_qKind 78 = .ok (.iconst 5, 1) := by decide +kernel
theorem dX12_qKind_79 : decode cX12_qKind 79 = .ok (.if_icmp .ne 11, 3) := by decide +kernel
theorem dX12_qKind_82 : decode cX12_qKind 82 = .ok (.aload_n 0, 1) := by decide +kernel
theorem dX12_qKind_83 : decode cX12_qKind 83 = .ok (.aload_n 0, 1) := by decide +kernel
theorem dX12_qKind_84 : decode cX12_qKind 84 = .ok (.getfield 194, 3) := by decide +kernel
theorem dX12_qKind_87 : decode cX12_qKind 87 = .ok (.invokevirtual 337, 3) := by decide +kernel
theorem dX12_qKind_90 : decode cX12_qKind 90 = .ok (.iload_n 1, 1) := by decide +kernel
theorem dX12_qKind_91 : decode cX12_qKind 91 = .ok (.ireturn, 1) := by decide +kernel
theorem dX12_fail_0 : decode cX12_fail 0 = .ok (.aload_n 0, 1) := by decide +kernel
theorem dX12_fail_1 : decode cX12_fail 1 = .ok (.getfield 263, 3) := by decide +kernel
theorem dX12_fail_4 : decode cX12_fail 4 = .ok (.ifCond .eq 4, 3) := by decide +kernel
theorem dX12_fail_7 : decode cX12_fail 7 = .ok (.return_, 1) := by decide +kernel
theorem dX12_fail_8 : decode cX12_fail 8 = .ok (.aload_n 0, 1) := by decide +kernel
theorem dX12_fail_9 : decode cX12_fail 9 = .ok (.iload_n 1, 1) := by decide +kernel
theorem dX12_fail_10 : decode cX12_fail 10 = .ok (.putfield 263, 3) := by decide +kernel
theorem dX12_fail_13 : decode cX12_fail 13 = .ok (.aload_n 0, 1) := by decide +kernel
theorem dX12_fail_14 : decode cX12_fail 14 = .ok (.iload_n 2, 1) := by decide +kernel
theorem dX12_fail_15 : decode cX12_fail 15 = .ok (.putfield 266, 3) := by decide +kernel
theorem dX12_fail_18 : decode cX12_fail 18 = .ok (.return_, 1) := by decide +kernel
theorem dX12_status_0 : decode cX12_status 0 = .ok (.iload_n 1, 1) := by decide +kernel
theorem dX12_status_1 : decode cX12_status 1 = .ok (.i2l, 1) := by decide +kernel
theorem dX12_status_2 : decode cX12_status 2 = .ok (.lconst 0, 1) := by decide +kernel
theorem dX12_status_3 : decode cX12_status 3 = .ok (.ldc2_w 499, 3) := by decide +kernel
theorem dX12_status_6 : decode cX12_status 6 = .ok (.invokestatic 303, 3) := by decide +kernel
theorem dX12_status_9 : decode cX12_status 9 = .ok (.ifCond .eq 12, 3) := by decide +kernel
theorem dX12_status_12 : decode cX12_status 12 = .ok (.aload_n 0, 1) := by decide +kernel
theorem dX12_status_13 : decode cX12_status 13 = .ok (.getfield 17, 3) := by decide +kernel
theorem dX12_status_16 : decode cX12_status 16 = .ok (.iload_n 1, 1) := by decide +kernel
theorem dX12_status_17 : decode cX12_status 17 = .ok (.iaload, 1) := by decide +kernel
theorem dX12_status_18 : decode cX12_status 18 = .ok (.goto 4, 3) := by decide +kernel
theorem dX12_status_21 : decode cX12_status 21 = .ok (.iconst (-1), 1) := by decide +kernel
theorem dX12_status_22 : decode cX12_status 22 = .ok (.ireturn, 1) := by decide +kernel
theorem dX12_isNextGroups_0 : decode cX12_isNextGroups 0 = .ok (.aload_n 0, 1) := by decide +kernel
theorem dX12_isNextGroups_1 : decode cX12_isNextGroups 1 = .ok (.invokevirtual 419, 3) := by decide +kernel
theorem dX12_isNextGroups_4 : decode cX12_isNextGroups 4 = .ok (.iconst 1, 1) := by decide +kernel
theorem dX12_isNextGroups_5 : decode cX12_isNextGroups 5 = .ok (.isub, 1) := by decide +kernel
theorem dX12_isNextGroups_6 : decode cX12_isNextGroups 6 = .ok (.istore_n 1, 1) := by decide +kernel
theorem dX12_isNextGroups_7 : decode cX12_isNextGroups 7 = .ok (.iload_n 1, 1) := by decide +kernel
theorem dX12_isNextGroups_8 : decode cX12_isNextGroups 8 = .ok (.ifCond .le 88, 3) := by decide +kernel
theorem dX12_isNextGroups_11 : decode cX12_isNextGroups 11 = .ok (.iconst 0, 1) := by decide +kernel
theorem dX12_isNextGroups_12 : decode cX12_isNextGroups 12 = .ok (.istore_n 2, 1) := by decide +kernel
theorem dX12_isNextGroups_13 : decode cX12_isNextGroups 13 = .ok (.iconst 0, 1) := by decide +kernel
theorem dX12_isNextGroups_14 : decode cX12_isNextGroups 14 = .ok (.istore_n 3, 1) := by decide +kernel
theorem dX12_isNextGroups_15 : decode cX12_isNextGroups 15 = .ok (.iload_n 3, 1) := by decide +kernel
theorem dX12_isNextGroups_16 : decode cX12_isNextGroups 16 = .ok (.iload_n 1, 1) := by decide +kernel
theorem dX12_isNextGroups_17 : decode cX12_isNextGroups 17 = .ok (.if_icmp .ge 26, 3) := by decide +kernel
theorem dX12_isNextGroups_20 : decode cX12_isNextGroups 20 = .ok (.aload_n 0, 1) := by decide +kernel
theorem dX12_isNextGroups_21 : decode cX12_isNextGroups 21 = .ok (.getfield 148, 3) := by decide +kernel
theorem dX12_isNextGroups_24 : decode cX12_isNextGroups 24 = .ok (.iload_n 3, 1) := by decide +kernel
theorem dX12_isNextGroups_25 : decode cX12_isNextGroups 25 = .ok (.iaload, 1) := by decide +kernel
theorem dX12_isNextGroups_26 : decode cX12_isNextGroups 26 = .ok (.iload_n 2, 1) := by decide +kernel
theorem dX12_isNextGroups_27 : decode cX12_isNextGroups 27 = .ok (.if_icmp .le 10, 3) := by decide +kernel
theorem dX12_isNextGroups_30 : decode cX12_isNextGroups 30 = .ok (.aload_n 0, 1) := by decide +kernel
theorem dX12_isNextGroups_31 : decode cX12_isNextGroups 31 = .ok (.getfield 148, 3) := by decide +kernel
theorem dX12_isNextGroups_34 : decode cX12_isNextGroups 34 = .ok (.iload_n 3, 1) := by decide +kernel
theorem dX12_isNextGroups_35 : decode cX12_isNextGroups 35 = .ok (.iaload, 1) := by decide +kernel
theorem dX12_isNextGroups_36 : decode cX12_isNextGroups 36 = .ok (.istore_n 2, 1) := by decide +kernel
theorem dX12_isNextGroups_37 : decode cX12_isNextGroups 37 = .ok (.iinc 3 1, 3) := by decide +kernel
theorem dX12_isNextGroups_40 : decode cX12_isNextGroups 40 = .ok (.goto (-25), 3) := by decide +kernel
theorem dX12_isNextGroups_43 : decode cX12_isNextGroups 43 = .ok (.aload_n 0, 1) := by decide +kernel
theorem dX12_isNextGroups_44 : decode cX12_isNextGroups 44 = .ok (.getfield 148, 3) := by decide +kernel
theorem dX12_isNextGroups_47 : decode cX12_isNextGroups 47 = .ok (.iload_n 1, 1) := by decide +kernel
theorem dX12_isNextGroups_48 : decode cX12_isNextGroups 48 = .ok (.iaload, 1) := by decide +kernel
theorem dX12_isNextGroups_49 : decode cX12_isNextGroups 49 = .ok (.iload_n 2, 1) := by decide +kernel
theorem dX12_isNextGroups_50 : decode cX12_isNextGroups 50 = .ok (.if_icmp .gt 40, 3) := by decide +kernel
theorem dX12_isNextGroups_53 : decode cX12_isNextGroups 53 = .ok (.aload_n 0, 1) := by decide +kernel
theorem dX12_isNextGroups_54 : decode cX12_isNextGroups 54 = .ok (.getfield 148, 3) := by decide +kernel
theorem dX12_isNextGroups_57 : decode cX12_isNextGroups 57 = .ok (.iload_n 1, 1) := by decide +kernel
theorem dX12_isNextGroups_58 : decode cX12_isNextGroups 58 = .ok (.dup2, 1) := by decide +kernel
theorem dX12_isNextGroups_59 : decode cX12_isNextGroups 59 = .ok (.iaload, 1) := by decide +kernel
theorem dX12_isNextGroups_60 : decode cX12_isNextGroups 60 = .ok (.iconst 1, 1) := by decide +kernel
theorem dX12_isNextGroups_61 : decode cX12_isNextGroups 61 = .ok (.iadd, 1) := by decide +kernel
theorem dX12_isNextGroups_62 : decode cX12_isNextGroups 62 = .ok (.iastore, 1) := by decide +kernel
theorem dX12_isNextGroups_63 : decode cX12_isNextGroups 63 = .ok (.iload_n 1, 1) := by decide +kernel
theorem dX12_isNextGroups_64 : decode cX12_isNextGroups 64 = .ok (.iconst 1, 1) := by decide +kernel
theorem dX12_isNextGroups_65 : decode cX12_isNextGroups 65 = .ok (.iadd, 1) := by decide +kernel
theorem dX12_isNextGroups_66 : decode cX12_isNextGroups 66 = .ok (.istore_n 3, 1) := by decide +kernel
theorem dX12_isNextGroups_67 : decode cX12_isNextGroups 67 = .ok (.iload_n 3, 1) := by decide +kernel
theorem dX12_isNextGroups_68 : decode cX12_isNextGroups 68 = .ok (.aload_n 0, 1) := by decide +kernel
theorem dX12_isNextGroups_69 : decode cX12_isNextGroups 69 = .ok (.invokevirtual 419, 3) := by decide +kernel
theorem dX12_isNextGroups_72 : decode cX12_isNextGroups 72 = .ok (.if_icmp .ge 16, 3) := by decide +kernel
theorem dX12_isNextGroups_75 : decode cX12_isNextGroups 75 = .ok (.aload_n 0, 1) := by decide +kernel
theorem dX12_isNextGroups_76 : decode cX12_isNextGroups 76 = .ok (.getfield 148, 3) := by decide +kernel
theorem dX12_isNextGroups_79 : decode cX12_isNextGroups 79 = .ok (.iload_n 3, 1) := by decide +kernel
theorem dX12_isNextGroups_80 : decode cX12_isNextGroups 80 = .ok (.iconst 0, 1) := by decide +kernel
theorem dX12_isNextGroups_81 : decode cX12_isNextGroups 81 = .ok (.iastore, 1) := by decide +kernel
theorem dX12_isNextGroups_82 : decode cX12_isNextGroups 82 = .ok (.iinc 3 1, 3) := by decide +kernel
theorem dX12_isNextGroups_85 : decode cX12_isNextGroups 85 = .ok (.goto (-18), 3) := by decide +kernel
theorem dX12_isNextGroups_88 : decode cX12_isNextGroups 88 = .ok (.iconst 1, 1) := by decide +kernel
theorem dX12_isNextGroups_89 : decode cX12_isNextGroups 89 = .ok (.ireturn, 1) := by decide +kernel
theorem dX12_isNextGroups_90 : decode cX12_isNextGroups 90 = .ok (.iinc 1 (-1), 3) := by decide +kernel
theorem dX12_isNextGroups_93 : decode cX12_isNextGroups 93 = .ok (.goto (-86), 3) := by decide +kernel
theorem dX12_isNextGroups_96 : decode cX12_isNextGroups 96 = .ok (.iconst 0, 1) := by decide +kernel
theorem dX12_isNextGroups_97 : decode cX12_isNextGroups 97 = .ok (.ireturn, 1) := by decide +kernel
theorem dX12_qTakes_0 : decode cX12_qTakes 0 = .ok (.iload_n 1, 1) := by decide +kernel
theorem dX12_qTakes_1 : decode cX12_qTakes 1 = .ok (.iconst 3, 1) := by decide +kernel
theorem dX12_qTakes_2 : decode cX12_qTakes 2 = .ok (.if_icmp .ge 13, 3) := by decide +kernel
theorem dX12_qTakes_5 : decode cX12_qTakes 5 = .ok (.lload_n 2, 1) := by decide +kernel
theorem dX12_qTakes_6 : decode cX12_qTakes 6 = .ok (.lconst 1, 1) := by decide +kernel
theorem dX12_qTakes_7 : decode cX12_qTakes 7 = .ok (.lcmp, 1) := by decide +kernel
theorem dX12_qTakes_8 : decode cX12_qTakes 8 = .ok (.ifCond .ne 7, 3) := by decide +kernel
theorem dX12_qTakes_11 : decode cX12_qTakes 11 = .ok (.iconst 1, 1) := by decide +kernel
theorem dX12_qTakes_12 : decode cX12_qTakes 12 = .ok (.goto 4, 3) := by decide +kernel
theorem dX12_qTakes_15 : decode cX12_qTakes 15 = .ok (.iconst 0, 1) := by decide +kernel
theorem dX12_qTakes_16 : decode cX12_qTakes 16 = .ok (.istore 5, 2) := by decide +kernel
theorem dX12_qTakes_18 : decode cX12_qTakes 18 = .ok (.iload_n 1, 1) := by decide +kernel
theorem dX12_qTakes_19 : decode cX12_qTakes 19 = .ok (.ifCond .ne 19, 3) := by decide +kernel
theorem dX12_qTakes_22 : decode cX12_qTakes 22 = .ok (.iload 5, 2) := by decide +kernel
theorem dX12_qTakes_24 : decode cX12_qTakes 24 = .ok (.ifCond .eq 14, 3) := by decide +kernel
theorem dX12_qTakes_27 : decode cX12_qTakes 27 = .ok (.aload_n 0, 1) := by decide +kernel
theorem dX12_qTakes_28 : decode cX12_qTakes 28 = .ok (.getfield 664, 3) := by decide +kernel
theorem dX12_qTakes_31 : decode cX12_qTakes 31 = .ok (.ldc2_w 667, 3) := by decide +kernel
theorem dX12_qTakes_34 : decode cX12_qTakes 34 = .ok (.lcmp, 1) := by decide +kernel
theorem dX12_qTakes_35 : decode cX12_qTakes 35 = .ok (.ifCond .eq 13, 3) := by decide +kernel
theorem dX12_qTakes_38 : decode cX12_qTakes 38 = .ok (.iload_n 1, 1) := by decide +kernel
theorem dX12_qTakes_39 : decode cX12_qTakes 39 = .ok (.iconst 1, 1) := by decide +kernel
theorem dX12_qTakes_40 : decode cX12_qTakes 40 = .ok (.if_icmp .ne 15, 3) := by decide +kernel
theorem dX12_qTakes_43 : decode cX12_qTakes 43 = .ok (.iload 5, 2) := by decide +kernel
theorem dX12_qTakes_45 : decode cX12_qTakes 45 = .ok (.ifCond .eq 10, 3) := by decide +kernel
theorem dX12_qTakes_48 : decode cX12_qTakes 48 = .ok (.aload_n 0, 1) := by decide +kernel
theorem dX12_qTakes_49 : decode cX12_qTakes 49 = .ok (.iload 4, 2) := by decide +kernel
theorem dX12_qTakes_51 : decode cX12_qTakes 51 = .ok (.i2l, 1) := by decide +kernel
theorem dX12_qTakes_52 : decode cX12_qTakes 52 = .ok (.putfield 664, 3) := by decide +kernel
theorem dX12_qTakes_55 : decode cX12_qTakes 55 = .ok (.iload_n 1, 1) := by decide +kernel
theorem dX12_qTakes_56 : decode cX12_qTakes 56 = .ok (.iconst 2, 1) := by decide +kernel
theorem dX12_qTakes_57 : decode cX12_qTakes 57 = .ok (.if_icmp .ne 18, 3) := by decide +kernel
theorem dX12_qTakes_60 : decode cX12_qTakes 60 = .ok (.iload 5, 2) := by decide +kernel
theorem dX12_qTakes_62 : decode cX12_qTakes 62 = .ok (.ifCond .eq 13, 3) := by decide +kernel
theorem dX12_qTakes_65 : decode cX12_qTakes 65 = .ok (.aload_n 0, 1) := by decide +kernel
theorem dX12_qTakes_66 : decode cX12_qTakes 66 = .ok (.dup, 1) := by decide +kernel
theorem dX12_qTakes_67 : decode cX12_qTakes 67 = .ok (.getfield 664, 3) := by decide +kernel
theorem dX12_qTakes_70 : decode cX12_qTakes 70 = .ok (.lconst 1, 1) := by decide +kernel
theorem dX12_qTakes_71 : decode cX12_qTakes 71 = .ok (.ladd, 1) := by decide +kernel
theorem dX12_qTakes_72 : decode cX12_qTakes 72 = .ok (.putfield 664, 3) := by decide +kernel
theorem dX12_qTakes_75 : decode cX12_qTakes 75 = .ok (.iload_n 1, 1) := by decide +kernel
theorem dX12_qTakes_76 : decode cX12_qTakes 76 = .ok (.iconst 3, 1) := by decide +kernel
theorem dX12_qTakes_77 : decode cX12_qTakes 77 = .ok (.if_icmp .ne 13, 3) := by decide +kernel
theorem dX12_qTakes_80 : decode cX12_qTakes 80 = .ok (.aload_n 0, 1) := by decide +kernel
theorem dX12_qTakes_81 : decode cX12_qTakes 81 = .ok (.dup, 1) := by decide +kernel
theorem dX12_qTakes_82 : decode cX12_qTakes 82 = .ok (.getfield 664, 3) := by decide +kernel
theorem dX12_qTakes_85 : decode cX12_qTakes 85 = .ok (.lload_n 2, 1) := by decide +kernel
theorem dX12_qTakes_86 : decode cX12_qTakes 86 = .ok (.ladd, 1) := by decide +kernel
theorem dX12_qTakes_87 : decode cX12_qTakes 87 = .ok (.putfield 664, 3) := by decide +kernel
theorem dX12_qTakes_90 : decode cX12_qTakes 90 = .ok (.iload_n 1, 1) := by decide +kernel
theorem dX12_qTakes_91 : decode cX12_qTakes 91 = .ok (.iconst 3, 1) := by decide +kernel
theorem dX12_qTakes_92 : decode cX12_qTakes 92 = .ok (.if_icmp .le 41, 3) := by decide +kernel
theorem dX12_qTakes_95 : decode cX12_qTakes 95 = .ok (.aload_n 0, 1) := by decide +kernel
theorem dX12_qTakes_96 : decode cX12_qTakes 96 = .ok (.getfield 669, 3) := by decide +kernel
theorem dX12_qTakes_99 : decode cX12_qTakes 99 = .ok (.ifCond .ne 29, 3) := by decide +kernel
theorem dX12_qTakes_102 : decode cX12_qTakes 102 = .ok (.iload_n 1, 1) := by decide +kernel
theorem dX12_qTakes_103 : decode cX12_qTakes 103 = .ok (.iconst 4, 1) := by decide +kernel
theorem dX12_qTakes_104 : decode cX12_qTakes 104 = .ok (.if_icmp .ne 15, 3) := by decide +kernel
theorem dX12_qTakes_107 : decode cX12_qTakes 107 = .ok (.lload_n 2, 1) := by decide +kernel
theorem dX12_qTakes_108 : decode cX12_qTakes 108 = .ok (.aload_n 0, 1) := by decide +kernel
theorem dX12_qTakes_109 : decode cX12_qTakes 109 = .ok (.getfield 664, 3) := by decide +kernel
theorem dX12_qTakes_112 : decode cX12_qTakes 112 = .ok (.lcmp, 1) := by decide +kernel
theorem dX12_qTakes_113 : decode cX12_qTakes 113 = .ok (.ifCond .le 20, 3) := by decide +kernel
theorem dX12_qTakes_116 : decode cX12_qTakes 116 = .ok (.goto 12, 3) := by decide +kernel
theorem dX12_qTakes_119 : decode cX12_qTakes 119 = .ok (.lload_n 2, 1) := by decide +kernel
theorem dX12_qTakes_120 : decode cX12_qTakes 120 = .ok (.aload_n 0, 1) := by decide +kernel
theorem dX12_qTakes_121 : decode cX12_qTakes 121 = .ok (.getfield 664, 3) := by decide +kernel
theorem dX12_qTakes_124 : decode cX12_qTakes 124 = .ok (.lcmp, 1) := by decide +kernel
theorem dX12_qTakes_125 : decode cX12_qTakes 125 = .ok (.ifCond .ge 8, 3) := by decide +kernel
theorem dX12_qTakes_128 : decode cX12_qTakes 128 = .ok (.aload_n 0, 1) := by decide +kernel
theorem dX12_qTakes_129 : decode cX12_qTakes 129 = .ok (.lload_n 2, 1) := by decide +kernel
theorem dX12_qTakes_130 : decode cX12_qTakes 130 = .ok (.putfield 664, 3) := by decide +kernel
theorem dX12_qTakes_133 : decode cX12_qTakes 133 = .ok (.aload_n 0, 1) := by decide +kernel
theorem dX12_qTakes_134 : decode cX12_qTakes 134 = .ok (.iconst 0, 1) := by decide +kernel
theorem dX12_qTakes_135 : decode cX12_qTakes 135 = .ok (.putfield 669, 3) := by decide +kernel
theorem dX12_qTakes_138 : decode cX12_qTakes 138 = .ok (.return_, 1) := by decide +kernel
theorem dX12_leftAnew_0 : decode cX12_leftAnew 0 = .ok (.iconst 0, 1) := by decide +kernel
theorem dX12_leftAnew_1 : decode cX12_leftAnew 1 = .ok (.istore_n 1, 1) := by decide +kernel
theorem dX12_leftAnew_2 : decode cX12_leftAnew 2 = .ok (.iload_n 1, 1) := by decide +kernel
theorem dX12_leftAnew_3 : decode cX12_leftAnew 3 = .ok (.aload_n 0, 1) := by decide +kernel
theorem dX12_leftAnew_4 : decode cX12_leftAnew 4 = .ok (.invokevirtual 422, 3) := by decide +kernel
theorem dX12_leftAnew_7 : decode cX12_leftAnew 7 = .ok (.if_icmp .ge 28, 3) := by decide +kernel
theorem dX12_leftAnew_10 : decode cX12_leftAnew 10 = .ok (.aload_n 0, 1) := by decide +kernel
theorem dX12_leftAnew_11 : decode cX12_leftAnew 11 = .ok (.getfield 142, 3) := by decide +kernel
theorem dX12_leftAnew_14 : decode cX12_leftAnew 14 = .ok (.iconst 1, 1) := by decide +kernel
theorem dX12_leftAnew_15 : decode cX12_leftAnew 15 = .ok (.iload_n 1, 1) := by decide +kernel
theorem dX12_leftAnew_16 : decode cX12_leftAnew 16 = .ok (.iadd, 1) := by decide +kernel
theorem dX12_leftAnew_17 : decode cX12_leftAnew 17 = .ok (.aload_n 0, 1) := by decide +kernel
theorem dX12_leftAnew_18 : decode cX12_leftAnew 18 = .ok (.getfield 127, 3) := by decide +kernel
theorem dX12_leftAnew_21 : decode cX12_leftAnew 21 = .ok (.bipush 9, 2) := by decide +kernel
theorem dX12_leftAnew_23 : decode cX12_leftAnew 23 = .ok (.iconst 3, 1) := by decide +kernel
theorem dX12_leftAnew_24 : decode cX12_leftAnew 24 = .ok (.iload_n 1, 1) := by decide +kernel
theorem dX12_leftAnew_25 : decode cX12_leftAnew 25 = .ok (.imul, 1) := by decide +kernel
theorem dX12_leftAnew_26 : decode cX12_leftAnew 26 = .ok (.iadd, 1) := by decide +kernel
theorem dX12_leftAnew_27 : decode cX12_leftAnew 27 = .ok (.iaload, 1) := by decide +kernel
theorem dX12_leftAnew_28 : decode cX12_leftAnew 28 = .ok (.iastore, 1) := by decide +kernel
theorem dX12_leftAnew_29 : decode cX12_leftAnew 29 = .ok (.iinc 1 1, 3) := by decide +kernel
theorem dX12_leftAnew_32 : decode cX12_leftAnew 32 = .ok (.goto (-30), 3) := by decide +kernel
theorem dX12_leftAnew_35 : decode cX12_leftAnew 35 = .ok (.return_, 1) := by decide +kernel
theorem dX12_qPuts_0 : decode cX12_qPuts 0 = .ok (.aload_n 0, 1) := by decide +kernel
theorem dX12_qPuts_1 : decode cX12_qPuts 1 = .ok (.getfield 254, 3) := by decide +kernel
theorem dX12_qPuts_4 : decode cX12_qPuts 4 = .ok (.aload_n 0, 1) := by decide +kernel
theorem dX12_qPuts_5 : decode cX12_qPuts 5 = .ok (.getfield 431, 3) := by decide +kernel
theorem dX12_qPuts_8 : decode cX12_qPuts 8 = .ok (.lload_n 1, 1) := by decide +kernel
theorem dX12_qPuts_9 : decode cX12_qPuts 9 = .ok (.lastore, 1) := by decide +kernel
theorem dX12_qPuts_10 : decode cX12_qPuts 10 = .ok (.aload_n 0, 1) := by decide +kernel
theorem dX12_qPuts_11 : decode cX12_qPuts 11 = .ok (.dup, 1) := by decide +kernel
theorem dX12_qPuts_12 : decode cX12_qPuts 12 = .ok (.getfield 431, 3) := by decide +kernel
theorem dX12_qPuts_15 : decode cX12_qPuts 15 = .ok (.iconst 1, 1) := by decide +kernel
theorem dX12_qPuts_16 : decode cX12_qPuts 16 = .ok (.iadd, 1) := by decide +kernel
theorem dX12_qPuts_17 : decode cX12_qPuts 17 = .ok (.putfield 431, 3) := by decide +kernel
theorem dX12_qPuts_20 : decode cX12_qPuts 20 = .ok (.return_, 1) := by decide +kernel
theorem dX12_canRow_0 : decode cX12_canRow 0 = .ok (.iconst 0, 1) := by decide +kernel
theorem dX12_canRow_1 : decode cX12_canRow 1 = .ok (.istore_n 1, 1) := by decide +kernel
theorem dX12_canRow_2 : decode cX12_canRow 2 = .ok (.iload_n 1, 1) := by decide +kernel
theorem dX12_canRow_3 : decode cX12_canRow 3 = .ok (.aload_n 0, 1) := by decide +kernel
theorem dX12_canRow_4 : decode cX12_canRow 4 = .ok (.invokevirtual 422, 3) := by decide +kernel
theorem dX12_canRow_7 : decode cX12_canRow 7 = .ok (.if_icmp .ge 20, 3) := by decide +kernel
theorem dX12_canRow_10 : decode cX12_canRow 10 = .ok (.aload_n 0, 1) := by decide +kernel
theorem dX12_canRow_11 : decode cX12_canRow 11 = .ok (.getfield 163, 3) := by decide +kernel
theorem dX12_canRow_14 : decode cX12_canRow 14 = .ok (.iload_n 1, 1) := by decide +kernel
theorem dX12_canRow_15 : decode cX12_canRow 15 = .ok (.aload_n 0, 1) := by decide +kernel
theorem dX12_canRow_16 : decode cX12_canRow 16 = .ok (.iload_n 1, 1) := by decide +kernel
theorem dX12_canRow_17 : decode cX12_canRow 17 = .ok (.invokevirtual 458, 3) := by decide +kernel
theorem dX12_canRow_20 : decode cX12_canRow 20 = .ok (.iastore, 1) := by decide +kernel
theorem dX12_canRow_21 : decode cX12_canRow 21 = .ok (.iinc 1 1, 3) := by decide +kernel
theorem dX12_canRow_24 : decode cX12_canRow 24 = .ok (.goto (-22), 3) := by decide +kernel
theorem dX12_canRow_27 : decode cX12_canRow 27 = .ok (.iconst 0, 1) := by decide +kernel
theorem dX12_canRow_28 : decode cX12_canRow 28 = .ok (.istore_n 1, 1) := by decide +kernel
theorem dX12_canRow_29 : decode cX12_canRow 29 = .ok (.iload_n 1, 1) := by decide +kernel
theorem dX12_canRow_30 : decode cX12_canRow 30 = .ok (.aload_n 0, 1) := by decide +kernel
theorem dX12_canRow_31 : decode cX12_canRow 31 = .ok (.invokevirtual 419, 3) := by decide +kernel
theorem dX12_canRow_34 : decode cX12_canRow 34 = .ok (.if_icmp .ge 69, 3) := by decide +kernel
theorem dX12_canRow_37 : decode cX12_canRow 37 = .ok (.aload_n 0, 1) := by decide +kernel
theorem dX12_canRow_38 : decode cX12_canRow 38 = .ok (.getfield 148, 3) := by decide +kernel
theorem dX12_canRow_41 : decode cX12_canRow 41 = .ok (.iload_n 1, 1) := by decide +kernel
theorem dX12_canRow_42 : decode cX12_canRow 42 = .ok (.iaload, 1) := by decide +kernel
theorem dX12_canRow_43 : decode cX12_canRow 43 = .ok (.ifCond .ne 6, 3) := by decide +kernel
theorem dX12_canRow_46 : decode cX12_canRow 46 = .ok (.goto 51, 3) := by decide +kernel
theorem dX12_canRow_49 : decode cX12_canRow 49 = .ok (.aload_n 0, 1) := by decide +kernel
theorem dX12_canRow_50 : decode cX12_canRow 50 = .ok (.getfield 148, 3) := by decide +kernel
theorem dX12_canRow_53 : decode cX12_canRow 53 = .ok (.iload_n 1, 1) := by decide +kernel
theorem dX12_canRow_54 : decode cX12_canRow 54 = .ok (.iaload, 1) := by decide +kernel
theorem dX12_canRow_55 : decode cX12_canRow 55 = .ok (.iconst 1, 1) := by decide +kernel
theorem dX12_canRow_56 : decode cX12_canRow 56 = .ok (.isub, 1) := by decide +kernel
theorem dX12_canRow_57 : decode cX12_canRow 57 = .ok (.istore_n 2, 1) := by decide +kernel
theorem dX12_canRow_58 : decode cX12_canRow 58 = .ok (.aload_n 0, 1) := by decide +kernel
theorem dX12_canRow_59 : decode cX12_canRow 59 = .ok (.getfield 163, 3) := by decide +kernel
theorem dX12_canRow_62 : decode cX12_canRow 62 = .ok (.iload_n 2, 1) := by decide +kernel
theorem dX12_canRow_63 : decode cX12_canRow 63 = .ok (.dup2, 1) := by decide +kernel
theorem dX12_canRow_64 : decode cX12_canRow 64 = .ok (.iaload, 1) := by decide +kernel
theorem dX12_canRow_65 : decode cX12_canRow 65 = .ok (.aload_n 0, 1) := by decide +kernel
theorem dX12_canRow_66 : decode cX12_canRow 66 = .ok (.getfield 157, 3) := by decide +kernel
theorem dX12_canRow_69 : decode cX12_canRow 69 = .ok (.iconst 3, 1) := by decide +kernel
theorem dX12_canRow_70 : decode cX12_canRow 70 = .ok (.iload_n 1, 1) := by decide +kernel
theorem dX12_canRow_71 : decode cX12_canRow 71 = .ok (.imul, 1) := by decide +kernel
theorem dX12_canRow_72 : decode cX12_canRow 72 = .ok (.iload_n 2, 1) := by decide +kernel
theorem dX12_canRow_73 : decode cX12_canRow 73 = .ok (.iadd, 1) := by decide +kernel
theorem dX12_canRow_74 : decode cX12_canRow 74 = .ok (.iaload, 1) := by decide +kernel
theorem dX12_canRow_75 : decode cX12_canRow 75 = .ok (.isub, 1) := by decide +kernel
theorem dX12_canRow_76 : decode cX12_canRow 76 = .ok (.iastore, 1) := by decide +kernel
theorem dX12_canRow_77 : decode cX12_canRow 77 = .ok (.aload_n 0, 1) := by decide +kernel
theorem dX12_canRow_78 : decode cX12_canRow 78 = .ok (.getfield 163, 3) := by decide +kernel
theorem dX12_canRow_81 : decode cX12_canRow 81 = .ok (.iload_n 2, 1) := by decide +kernel
theorem dX12_canRow_82 : decode cX12_canRow 82 = .ok (.iaload, 1) := by decide +kernel
theorem dX12_canRow_83 : decode cX12_canRow 83 = .ok (.ifCond .lt 12, 3) := by decide +kernel
theorem dX12_canRow_86 : decode cX12_canRow 86 = .ok (.aload_n 0, 1) := by decide +kernel
theorem dX12_canRow_87 : decode cX12_canRow 87 = .ok (.iload_n 1, 1) := by decide +kernel
theorem dX12_canRow_88 : decode cX12_canRow 88 = .ok (.iload_n 2, 1) := by decide +kernel
theorem dX12_canRow_89 : decode cX12_canRow 89 = .ok (.invokevirtual 454, 3) := by decide +kernel
theorem dX12_canRow_92 : decode cX12_canRow 92 = .ok (.ifCond .ne 5, 3) := by decide +kernel
theorem dX12_canRow_95 : decode cX12_canRow 95 = .ok (.iconst 0, 1) := by decide +kernel
theorem dX12_canRow_96 : decode cX12_canRow 96 = .ok (.ireturn, 1) := by decide +kernel
theorem dX12_canRow_97 : decode cX12_canRow 97 = .ok (.iinc 1 1, 3) := by decide +kernel
theorem dX12_canRow_100 : decode cX12_canRow 100 = .ok (.goto (-71), 3) := by decide +kernel
theorem dX12_canRow_103 : decode cX12_canRow 103 = .ok (.iconst 1, 1) := by decide +kernel
theorem dX12_canRow_104 : decode cX12_canRow 104 = .ok (.ireturn, 1) := by decide +kernel
theorem dX12_finished_0 : decode cX12_finished 0 = .ok (.iconst 0, 1) := by decide +kernel
theorem dX12_finished_1 : decode cX12_finished 1 = .ok (.istore_n 1, 1) := by decide +kernel
theorem dX12_finished_2 : decode cX12_finished 2 = .ok (.aload_n 0, 1) := by decide +kernel
theorem dX12_finished_3 : decode cX12_finished 3 = .ok (.invokevirtual 527, 3) := by decide +kernel
theorem dX12_finished_6 : decode cX12_finished 6 = .ok (.aload_n 0, 1) := by decide +kernel
theorem dX12_finished_7 : decode cX12_finished 7 = .ok (.invokevirtual 533, 3) := by decide +kernel
theorem dX12_finished_10 : decode cX12_finished 10 = .ok (.aload_n 0, 1) := by decide +kernel
theorem dX12_finished_11 : decode cX12_finished 11 = .ok (.invokevirtual 419, 3) := by decide +kernel
theorem dX12_finished_14 : decode cX12_finished 14 = .ok (.if_icmp .ge 32, 3) := by decide +kernel
theorem dX12_finished_17 : decode cX12_finished 17 = .ok (.iload_n 1, 1) := by decide +kernel
theorem dX12_finished_18 : decode cX12_finished 18 = .ok (.bipush 30, 2) := by decide +kernel
theorem dX12_finished_20 : decode cX12_finished 20 = .ok (.if_icmp .ge 26, 3) := by decide +kernel
theorem dX12_finished_23 : decode cX12_finished 23 = .ok (.aload_n 0, 1) := by decide +kernel
theorem dX12_finished_24 : decode cX12_finished 24 = .ok (.getfield 142, 3) := by decide +kernel
theorem dX12_finished_27 : decode cX12_finished 27 = .ok (.iconst 0, 1) := by decide +kernel
theorem dX12_finished_28 : decode cX12_finished 28 = .ok (.iaload, 1) := by decide +kernel
theorem dX12_finished_29 : decode cX12_finished 29 = .ok (.sipush 999, 3) := by decide +kernel
theorem dX12_finished_32 : decode cX12_finished 32 = .ok (.if_icmp .ge 14, 3) := by decide +kernel
theorem dX12_finished_35 : decode cX12_finished 35 = .ok (.aload_n 0, 1) := by decide +kernel
theorem dX12_finished_36 : decode cX12_finished 36 = .ok (.invokevirtual 530, 3) := by decide +kernel
theorem dX12_finished_39 : decode cX12_finished 39 = .ok (.pop, 1) := by decide +kernel
theorem dX12_finished_40 : decode cX12_finished 40 = .ok (.iinc 1 1, 3) := by decide +kernel
theorem dX12_finished_43 : decode cX12_finished 43 = .ok (.goto (-37), 3) := by decide +kernel
theorem dX12_finished_46 : decode cX12_finished 46 = .ok (.aload_n 0, 1) := by decide +kernel
theorem dX12_finished_47 : decode cX12_finished 47 = .ok (.invokevirtual 533, 3) := by decide +kernel
theorem dX12_finished_50 : decode cX12_finished 50 = .ok (.aload_n 0, 1) := by decide +kernel
theorem dX12_finished_51 : decode cX12_finished 51 = .ok (.invokevirtual 419, 3) := by decide +kernel
theorem dX12_finished_54 : decode cX12_finished 54 = .ok (.if_icmp .ne 7, 3) := by decide +kernel
theorem dX12_finished_57 : decode cX12_finished 57 = .ok (.iconst 1, 1) := by decide +kernel
theorem dX12_finished_58 : decode cX12_finished 58 = .ok (.goto 4, 3) := by decide +kernel
theorem dX12_finished_61 : decode cX12_finished 61 = .ok (.iconst 0, 1) := by decide +kernel
theorem dX12_finished_62 : decode cX12_finished 62 = .ok (.istore_n 2, 1) := by decide +kernel
theorem dX12_finished_63 : decode cX12_finished 63 = .ok (.aload_n 0, 1) := by decide +kernel
theorem dX12_finished_64 : decode cX12_finished 64 = .ok (.invokevirtual 536, 3) := by decide +kernel
theorem dX12_finished_67 : decode cX12_finished 67 = .ok (.iload_n 2, 1) := by decide +kernel
theorem dX12_finished_68 : decode cX12_finished 68 = .ok (.ifCond .eq 7, 3) := by decide +kernel
theorem dX12_finished_71 : decode cX12_finished 71 = .ok (.iload_n 1, 1) := by decide +kernel
theorem dX12_finished_72 : decode cX12_finished 72 = .ok (.goto 4, 3) := by decide +kernel
theorem dX12_finished_75 : decode cX12_finished 75 = .ok (.iconst (-1), 1) := by decide +kernel
theorem dX12_finished_76 : decode cX12_finished 76 = .ok (.ireturn, 1) := by decide +kernel
theorem dX12_checked_0 : decode cX12_checked 0 = .ok (.bipush 89, 2) := by decide +kernel
theorem dX12_checked_2 : decode cX12_checked 2 = .ok (.istore_n 2, 1) := by decide +kernel
theorem dX12_checked_3 : decode cX12_checked 3 = .ok (.iconst 0, 1) := by decide +kernel
theorem dX12_checked_4 : decode cX12_checked 4 = .ok (.istore_n 3, 1) := by decide +kernel
theorem dX12_checked_5 : decode cX12_checked 5 = .ok (.iload_n 3, 1) := by decide +kernel
theorem dX12_checked_6 : decode cX12_checked 6 = .ok (.iload_n 1, 1) := by decide +kernel
theorem dX12_checked_7 : decode cX12_checked 7 = .ok (.if_icmp .ge 21, 3) := by decide +kernel
theorem dX12_checked_10 : decode cX12_checked 10 = .ok (.iconst 3, 1) := by decide +kernel
theorem dX12_checked_11 : decode cX12_checked 11 = .ok (.iload_n 2, 1) := by decide +kernel
theorem dX12_checked_12 : decode cX12_checked 12 = .ok (.imul, 1) := by decide +kernel
theorem dX12_checked_13 : decode cX12_checked 13 = .ok (.aload_n 0, 1) := by decide +kernel
theorem dX12_checked_14 : decode cX12_checked 14 = .ok (.iload_n 3, 1) := by decide +kernel
theorem dX12_checked_15 : decode cX12_checked 15 = .ok (.iaload, 1) := by decide +kernel
theorem dX12_checked_16 : decode cX12_checked 16 = .ok (.iadd, 1) := by decide +kernel
theorem dX12_checked_17 : decode cX12_checked 17 = .ok (.sipush 251, 3) := by decide +kernel
theorem dX12_checked_20 : decode cX12_checked 20 = .ok (.irem, 1) := by decide +kernel
theorem dX12_checked_21 : decode cX12_checked 21 = .ok (.istore_n 2, 1) := by decide +kernel
theorem dX12_checked_22 : decode cX12_checked 22 = .ok (.iinc 3 1, 3) := by decide +kernel
theorem dX12_checked_25 : decode cX12_checked 25 = .ok (.goto (-20), 3) := by decide +kernel
theorem dX12_checked_28 : decode cX12_checked 28 = .ok (.iload_n 2, 1) := by decide +kernel
theorem dX12_checked_29 : decode cX12_checked 29 = .ok (.ireturn, 1) := by decide +kernel
theorem dX12_leftOf_0 : decode cX12_leftOf 0 = .ok (.aload_n 0, 1) := by decide +kernel
theorem dX12_leftOf_1 : decode cX12_leftOf 1 = .ok (.getfield 142, 3) := by decide +kernel
theorem dX12_leftOf_4 : decode cX12_leftOf 4 = .ok (.iconst 1, 1) := by decide +kernel
theorem dX12_leftOf_5 : decode cX12_leftOf 5 = .ok (.iload_n 1, 1) := by decide +kernel
theorem dX12_leftOf_6 : decode cX12_leftOf 6 = .ok (.iadd, 1) := by decide +kernel
theorem dX12_leftOf_7 : decode cX12_leftOf 7 = .ok (.iaload, 1) := by decide +kernel
theorem dX12_leftOf_8 : decode cX12_leftOf 8 = .ok (.ireturn, 1) := by decide +kernel
theorem dX12_qGoesOn_0 : decode cX12_qGoesOn 0 = .ok (.aload_n 0, 1) := by decide +kernel
theorem dX12_qGoesOn_1 : decode cX12_qGoesOn 1 = .ok (.getfield 263, 3) := by decide +kernel
theorem dX12_qGoesOn_4 : decode cX12_qGoesOn 4 = .ok (.ifCond .ne 118, 3) := by decide +kernel
theorem dX12_qGoesOn_7 : decode cX12_qGoesOn 7 = .ok (.aload_n 0, 1) := by decide +kernel
theorem dX12_qGoesOn_8 : decode cX12_qGoesOn 8 = .ok (.invokevirtual 275, 3) := by decide +kernel
theorem dX12_qGoesOn_11 : decode cX12_qGoesOn 11 = .ok (.bipush 41, 2) := by decide +kernel
theorem dX12_qGoesOn_13 : decode cX12_qGoesOn 13 = .ok (.if_icmp .ne 109, 3) := by decide +kernel
theorem dX12_qGoesOn_16 : decode cX12_qGoesOn 16 = .ok (.aload_n 0, 1) := by decide +kernel
theorem dX12_qGoesOn_17 : decode cX12_qGoesOn 17 = .ok (.invokevirtual 621, 3) := by decide +kernel
theorem dX12_qGoesOn_20 : decode cX12_qGoesOn 20 = .ok (.bipush 20, 2) := by decide +kernel
theorem dX12_qGoesOn_22 : decode cX12_qGoesOn 22 = .ok (.if_icmp .eq 21, 3) := by decide +kernel
theorem dX12_qGoesOn_25 : decode cX12_qGoesOn 25 = .ok (.aload_n 0, 1) := by decide +kernel
theorem dX12_qGoesOn_26 : decode cX12_qGoesOn 26 = .ok (.invokevirtual 621, 3) := by decide +kernel
theorem dX12_qGoesOn_29 : decode cX12_qGoesOn 29 = .ok (.bipush 23, 2) := by decide +kernel
theorem dX12_qGoesOn_31 : decode cX12_qGoesOn 31 = .ok (.if_icmp .eq 12, 3) := by decide +kernel
theorem dX12_qGoesOn_34 : decode cX12_qGoesOn 34 = .ok (.aload_n 0, 1) := by decide +kernel
theorem dX12_qGoesOn_35 : decode cX12_qGoesOn 35 = .ok (.invokevirtual 621, 3) := by decide +kernel
theorem dX12_qGoesOn_38 : decode cX12_qGoesOn 38 = .ok (.bipush 24, 2) := by decide +kernel
theorem dX12_qGoesOn_40 : decode cX12_qGoesOn 40 = .ok (.if_icmp .ne 82, 3) := by decide +kernel
theorem dX12_qGoesOn_43 : decode cX12_qGoesOn 43 = .ok (.aload_n 0, 1) := by decide +kernel
theorem dX12_qGoesOn_44 : decode cX12_qGoesOn 44 = .ok (.dup, 1) := by decide +kernel
theorem dX12_qGoesOn_45 : decode cX12_qGoesOn 45 = .ok (.getfield 269, 3) := by decide +kernel
theorem dX12_qGoesOn_48 : decode cX12_qGoesOn 48 = .ok (.iconst 1, 1) := by decide +kernel
theorem dX12_qGoesOn_49 : decode cX12_qGoesOn 49 = .ok (.iadd, 1) := by decide +kernel
theorem dX12_qGoesOn_50 : decode cX12_qGoesOn 50 = .ok (.putfield 269, 3) := by decide +kernel
theorem dX12_qGoesOn_53 : decode cX12_qGoesOn 53 = .ok (.aload_n 0, 1) := by decide +kernel
theorem dX12_qGoesOn_54 : decode cX12_qGoesOn 54 = .ok (.invokevirtual 624, 3) := by decide +kernel
theorem dX12_qGoesOn_57 : decode cX12_qGoesOn 57 = .ok (.aload_n 0, 1) := by decide +kernel
theorem dX12_qGoesOn_58 : decode cX12_qGoesOn 58 = .ok (.dup, 1) := by decide +kernel
theorem dX12_qGoesOn_59 : decode cX12_qGoesOn 59 = .ok (.getfield 355, 3) := by decide +kernel
theorem dX12_qGoesOn_62 : decode cX12_qGoesOn 62 = .ok (.iconst 1, 1) := by decide +kernel
theorem dX12_qGoesOn_63 : decode cX12_qGoesOn 63 = .ok (.isub, 1) := by decide +kernel
theorem dX12_qGoesOn_64 : decode cX12_qGoesOn 64 = .ok (.putfield 355, 3) := by decide +kernel
theorem dX12_qGoesOn_67 : decode cX12_qGoesOn 67 = .ok (.aload_n 0, 1) := by decide +kernel
theorem dX12_qGoesOn_68 : decode cX12_qGoesOn 68 = .ok (.dup, 1) := by decide +kernel
theorem dX12_qGoesOn_69 : decode cX12_qGoesOn 69 = .ok (.getfield 358, 3) := by decide +kernel
theorem dX12_qGoesOn_72 : decode cX12_qGoesOn 72 = .ok (.iconst 1, 1) := by decide +kernel
theorem dX12_qGoesOn_73 : decode cX12_qGoesOn 73 = .ok (.isub, 1) := by decide +kernel
theorem dX12_qGoesOn_74 : decode cX12_qGoesOn 74 = .ok (.putfield 358, 3) := by decide +kernel
theorem dX12_qGoesOn_77 : decode cX12_qGoesOn 77 = .ok (.aload_n 0, 1) := by decide +kernel
theorem dX12_qGoesOn_78 : decode cX12_qGoesOn 78 = .ok (.getfield 251, 3) := by decide +kernel
theorem dX12_qGoesOn_81 : decode cX12_qGoesOn 81 = .ok (.aload_n 0, 1) := by decide +kernel
theorem dX12_qGoesOn_82 : decode cX12_qGoesOn 82 = .ok (.getfield 355, 3) := by decide +kernel
theorem dX12_qGoesOn_85 : decode cX12_qGoesOn 85 = .ok (.iaload, 1) := by decide +kernel
theorem dX12_qGoesOn_86 : decode cX12_qGoesOn 86 = .ok (.bipush 20, 2) := by decide +kernel
theorem dX12_qGoesOn_88 : decode cX12_qGoesOn 88 = .ok (.if_icmp .eq 27, 3) := by decide +kernel
theorem dX12_qGoesOn_91 : decode cX12_qGoesOn 91 = .ok (.aload_n 0, 1) := by decide +kernel
theorem dX12_qGoesOn_92 : decode cX12_qGoesOn 92 = .ok (.aload_n 0, 1) := by decide +kernel
theorem dX12_qGoesOn_93 : decode cX12_qGoesOn 93 = .ok (.getfield 251, 3) := by decide +kernel
theorem dX12_qGoesOn_96 : decode cX12_qGoesOn 96 = .ok (.aload_n 0, 1) := by decide +kernel
theorem dX12_qGoesOn_97 : decode cX12_qGoesOn 97 = .ok (.getfield 355, 3) := by decide +kernel
theorem dX12_qGoesOn_100 : decode cX12_qGoesOn 100 = .ok (.iaload, 1) := by decide +kernel
theorem dX12_qGoesOn_101 : decode cX12_qGoesOn 101 = .ok (.bipush 23, 2) := by decide +kernel
theorem dX12_qGoesOn_103 : decode cX12_qGoesOn 103 = .ok (.if_icmp .ne 7, 3) := by decide +kernel
theorem dX12_qGoesOn_106 : decode cX12_qGoesOn 106 = .ok (.iconst 5, 1) := by decide +kernel
theorem dX12_qGoesOn_107 : decode cX12_qGoesOn 107 = .ok (.goto 5, 3) := by decide +kernel
theorem dX12_qGoesOn_110 : decode cX12_qGoesOn 110 = .ok (.bipush 6, 2) := by decide +kernel
theorem dX12_qGoesOn_112 : decode cX12_qGoesOn 112 = .ok (.invokevirtual 594, 3) := by decide +kernel
theorem dX12_qGoesOn_115 : decode cX12_qGoesOn 115 = .ok (.aload_n 0, 1) := by decide +kernel
theorem dX12_qGoesOn_116 : decode cX12_qGoesOn 116 = .ok (.invokevirtual 618, 3) := by decide +kernel
theorem dX12_qGoesOn_119 : decode cX12_qGoesOn 119 = .ok (.goto (-119), 3) := by decide +kernel
theorem dX12_qGoesOn_122 : decode cX12_qGoesOn 122 = .ok (.aload_n 0, 1) := by decide +kernel
theorem dX12_qGoesOn_123 : decode cX12_qGoesOn 123 = .ok (.bipush 42, 2) := by decide +kernel
theorem dX12_qGoesOn_125 : decode cX12_qGoesOn 125 = .ok (.invokevirtual 297, 3) := by decide +kernel
theorem dX12_qGoesOn_128 : decode cX12_qGoesOn 128 = .ok (.ifCond .ne 12, 3) := by decide +kernel
theorem dX12_qGoesOn_131 : decode cX12_qGoesOn 131 = .ok (.aload_n 0, 1) := by decide +kernel
theorem dX12_qGoesOn_132 : decode cX12_qGoesOn 132 = .ok (.bipush 47, 2) := by decide +kernel
theorem dX12_qGoesOn_134 : decode cX12_qGoesOn 134 = .ok (.invokevirtual 297, 3) := by decide +kernel
theorem dX12_qGoesOn_137 : decode cX12_qGoesOn 137 = .ok (.ifCond .eq 70, 3) := by decide +kernel
theorem dX12_qGoesOn_140 : decode cX12_qGoesOn 140 = .ok (.aload_n 0, 1) := by decide +kernel
theorem dX12_qGoesOn_141 : decode cX12_qGoesOn 141 = .ok (.getfield 7, 3) := by decide +kernel
theorem dX12_qGoesOn_144 : decode cX12_qGoesOn 144 = .ok (.aload_n 0, 1) := by decide +kernel
theorem dX12_qGoesOn_145 : decode cX12_qGoesOn 145 = .ok (.getfield 269, 3) := by decide +kernel
theorem dX12_qGoesOn_148 : decode cX12_qGoesOn 148 = .ok (.iconst 1, 1) := by decide +kernel
theorem dX12_qGoesOn_149 : decode cX12_qGoesOn 149 = .ok (.isub, 1) := by decide +kernel
theorem dX12_qGoesOn_150 : decode cX12_qGoesOn 150 = .ok (.iaload, 1) := by decide +kernel
theorem dX12_qGoesOn_151 : decode cX12_qGoesOn 151 = .ok (.bipush 42, 2) := by decide +kernel
theorem dX12_qGoesOn_153 : decode cX12_qGoesOn 153 = .ok (.if_icmp .ne 7, 3) := by decide +kernel
theorem dX12_qGoesOn_156 : decode cX12_qGoesOn 156 = .ok (.iconst 3, 1) := by decide +kernel
theorem dX12_qGoesOn_157 : decode cX12_qGoesOn 157 = .ok (.goto 4, 3) := by decide +kernel
theorem dX12_qGoesOn_160 : decode cX12_qGoesOn 160 = .ok (.iconst 4, 1) := by decide +kernel
theorem dX12_qGoesOn_161 : decode cX12_qGoesOn 161 = .ok (.istore_n 1, 1) := by decide +kernel
theorem dX12_qGoesOn_162 : decode cX12_qGoesOn 162 = .ok (.aload_n 0, 1) := by decide +kernel
theorem dX12_qGoesOn_163 : decode cX12_qGoesOn 163 = .ok (.iconst 3, 1) := by decide +kernel
theorem dX12_qGoesOn_164 : decode cX12_qGoesOn 164 = .ok (.invokevirtual 627, 3) := by decide +kernel
theorem dX12_qGoesOn_167 : decode cX12_qGoesOn 167 = .ok (.ifCond .ne 11, 3) := by decide +kernel
theorem dX12_qGoesOn_170 : decode cX12_qGoesOn 170 = .ok (.aload_n 0, 1) := by decide +kernel
theorem dX12_qGoesOn_171 : decode cX12_qGoesOn 171 = .ok (.iconst 4, 1) := by decide +kernel
theorem dX12_qGoesOn_172 : decode cX12_qGoesOn 172 = .ok (.invokevirtual 627, 3) := by decide +kernel
theorem dX12_qGoesOn_175 : decode cX12_qGoesOn 175 = .ok (.ifCond .eq 10, 3) := by decide +kernel
theorem dX12_qGoesOn_178 : decode cX12_qGoesOn 178 = .ok (.aload_n 0, 1) := by decide +kernel
theorem dX12_qGoesOn_179 : decode cX12_qGoesOn 179 = .ok (.invokevirtual 600, 3) := by decide +kernel
theorem dX12_qGoesOn_182 : decode cX12_qGoesOn 182 = .ok (.goto (-20), 3) := by decide +kernel
theorem dX12_qGoesOn_185 : decode cX12_qGoesOn 185 = .ok (.aload_n 0, 1) := by decide +kernel
theorem dX12_qGoesOn_186 : decode cX12_qGoesOn 186 = .ok (.getfield 251, 3) := by decide +kernel
theorem dX12_qGoesOn_189 : decode cX12_qGoesOn 189 = .ok (.aload_n 0, 1) := by decide +kernel
theorem dX12_qGoesOn_190 : decode cX12_qGoesOn 190 = .ok (.getfield 355, 3) := by decide +kernel
theorem dX12_qGoesOn_193 : decode cX12_qGoesOn 193 = .ok (.iload_n 1, 1) := by decide +kernel
theorem dX12_qGoesOn_194 : decode cX12_qGoesOn 194 = .ok (.iastore, 1) := by decide +kernel
theorem dX12_qGoesOn_195 : decode cX12_qGoesOn 195 = .ok (.aload_n 0, 1) := by decide +kernel
theorem dX12_qGoesOn_196 : decode cX12_qGoesOn 196 = .ok (.dup, 1) := by decide +kernel
theorem dX12_qGoesOn_197 : decode cX12_qGoesOn 197 = .ok (.getfield 355, 3) := by decide +kernel
theorem dX12_qGoesOn_200 : decode cX12_qGoesOn 200 = .ok (.iconst 1, 1) := by decide +kernel
theorem dX12_qGoesOn_201 : decode cX12_qGoesOn 201 = .ok (.iadd, 1) := by decide +kernel
theorem dX12_qGoesOn_202 : decode cX12_qGoesOn 202 = .ok (.putfield 355, 3) := by decide +kernel
theorem dX12_qGoesOn_205 : decode cX12_qGoesOn 205 = .ok (.iconst 1, 1) := by decide +kernel
theorem dX12_qGoesOn_206 : decode cX12_qGoesOn 206 = .ok (.ireturn, 1) := by decide +kernel
theorem dX12_qGoesOn_207 : decode cX12_qGoesOn 207 = .ok (.aload_n 0, 1) := by decide +kernel
theorem dX12_qGoesOn_208 : decode cX12_qGoesOn 208 = .ok (.bipush 43, 2) := by decide +kernel
theorem dX12_qGoesOn_210 : decode cX12_qGoesOn 210 = .ok (.invokevirtual 297, 3) := by decide +kernel
theorem dX12_qGoesOn_213 : decode cX12_qGoesOn 213 = .ok (.ifCond .ne 12, 3) := by decide +kernel
theorem dX12_qGoesOn_216 : decode cX12_qGoesOn 216 = .ok (.aload_n 0, 1) := by decide +kernel
theorem dX12_qGoesOn_217 : decode cX12_qGoesOn 217 = .ok (.bipush 45, 2) := by decide +kernel
theorem dX12_qGoesOn_219 : decode cX12_qGoesOn 219 = .ok (.invokevirtual 297, 3) := by decide +kernel
theorem dX12_qGoesOn_222 : decode cX12_qGoesOn 222 = .ok (.ifCond .eq 86, 3) := by decide +kernel
theorem dX12_qGoesOn_225 : decode cX12_qGoesOn 225 = .ok (.aload_n 0, 1) := by decide +kernel
theorem dX12_qGoesOn_226 : decode cX12_qGoesOn 226 = .ok (.getfield 7, 3) := by decide +kernel
theorem dX12_qGoesOn_229 : decode cX12_qGoesOn 229 = .ok (.aload_n 0, 1) := by decide +kernel
theorem dX12_qGoesOn_230 : decode cX12_qGoesOn 230 = .ok (.getfield 269, 3) := by decide +kernel
theorem dX12_qGoesOn_233 : decode cX12_qGoesOn 233 = .ok (.iconst 1, 1) := by decide +kernel
theorem dX12_qGoesOn_234 : decode cX12_qGoesOn 234 = .ok (.isub, 1) := by decide +kernel
theorem dX12_qGoesOn_235 : decode cX12_qGoesOn 235 = .ok (.iaload, 1) := by decide +kernel
theorem dX12_qGoesOn_236 : decode cX12_qGoesOn 236 = .ok (.bipush 43, 2) := by decide +kernel
theorem dX12_qGoesOn_238 : decode cX12_qGoesOn 238 = .ok (.if_icmp .ne 7, 3) := by decide +kernel
theorem dX12_qGoesOn_241 : decode cX12_qGoesOn 241 = .ok (.iconst 1, 1) := by decide +kernel
theorem dX12_qGoesOn_242 : decode cX12_qGoesOn 242 = .ok (.goto 4, 3) := by decide +kernel
theorem dX12_qGoesOn_245 : decode cX12_qGoesOn 245 = .ok (.iconst 2, 1) := by decide +kernel
theorem dX12_qGoesOn_246 : decode cX12_qGoesOn 246 = .ok (.istore_n 1, 1) := by decide +kernel
theorem dX12_qGoesOn_247 : decode cX12_qGoesOn 247 = .ok (.aload_n 0, 1) := by decide +kernel
theorem dX12_qGoesOn_248 : decode cX12_qGoesOn 248 = .ok (.iconst 3, 1) := by decide +kernel
theorem dX12_qGoesOn_249 : decode cX12_qGoesOn 249 = .ok (.invokevirtual 627, 3) := by decide +kernel
theorem dX12_qGoesOn_252 : decode cX12_qGoesOn 252 = .ok (.ifCond .ne 27, 3) := by decide +kernel
theorem dX12_qGoesOn_255 : decode cX12_qGoesOn 255 = .ok (.aload_n 0, 1) := by decide +kernel
theorem dX12_qGoesOn_256 : decode cX12_qGoesOn 256 = .ok (.iconst 4, 1) := by decide +kernel
theorem dX12_qGoesOn_257 : decode cX12_qGoesOn 257 = .ok (.invokevirtual 627, 3) := by decide +kernel
theorem dX12_qGoesOn_260 : decode cX12_qGoesOn 260 = .ok (.ifCond .ne 19, 3) := by decide +kernel
theorem dX12_qGoesOn_263 : decode cX12_qGoesOn 263 = .ok (.aload_n 0, 1) := by decide +kernel
theorem dX12_qGoesOn_264 : decode cX12_qGoesOn 264 = .ok (.iconst 1, 1) := by decide +kernel
theorem dX12_qGoesOn_265 : decode cX12_qGoesOn 265 = .ok (.invokevirtual 627, 3) := by decide +kernel
theorem dX12_qGoesOn_268 : decode cX12_qGoesOn 268 = .ok (.ifCond .ne 11, 3) := by decide +kernel
theorem dX12_qGoesOn_271 : decode cX12_qGoesOn 271 = .ok (.aload_n 0, 1) := by decide +kernel
theorem dX12_qGoesOn_272 : decode cX12_qGoesOn 272 = .ok (.iconst 2, 1) := by decide +kernel
theorem dX12_qGoesOn_273 : decode cX12_qGoesOn 273 = .ok (.invokevirtual 627, 3) := by decide +kernel
theorem dX12_qGoesOn_276 : decode cX12_qGoesOn 276 = .ok (.ifCond .eq 10, 3) := by decide +kernel
theorem dX12_qGoesOn_279 : decode cX12_qGoesOn 279 = .ok (.aload_n 0, 1) := by decide +kernel
theorem dX12_qGoesOn_280 : decode cX12_qGoesOn 280 = .ok (.invokevirtual 600, 3) := by decide +kernel
theorem dX12_qGoesOn_283 : decode cX12_qGoesOn 283 = .ok (.goto (-36), 3) := by decide +kernel
theorem dX12_qGoesOn_286 : decode cX12_qGoesOn 286 = .ok (.aload_n 0, 1) := by decide +kernel
theorem dX12_qGoesOn_287 : decode cX12_qGoesOn 287 = .ok (.getfield 251, 3) := by decide +kernel
theorem dX12_qGoesOn_290 : decode cX12_qGoesOn 290 = .ok (.aload_n 0, 1) := by decide +kernel
theorem dX12_qGoesOn_291 : decode cX12_qGoesOn 291 = .ok (.getfield 355, 3) := by decide +kernel
theorem dX12_qGoesOn_294 : decode cX12_qGoesOn 294 = .ok (.iload_n 1, 1) := by decide +kernel
theorem dX12_qGoesOn_295 : decode cX12_qGoesOn 295 = .ok (.iastore, 1) := by decide +kernel
theorem dX12_qGoesOn_296 : decode cX12_qGoesOn 296 = .ok (.aload_n 0, 1) := by decide +kernel
theorem dX12_qGoesOn_297 : decode cX12_qGoesOn 297 = .ok (.dup, 1) := by decide +kernel
theorem dX12_qGoesOn_298 : decode cX12_qGoesOn 298 = .ok (.getfield 355, 3) := by decide +kernel
theorem dX12_qGoesOn_301 : decode cX12_qGoesOn 301 = .ok (.iconst 1, 1) := by decide +kernel
theorem dX12_qGoesOn_302 : decode cX12_qGoesOn 302 = .ok (.iadd, 1) := by decide +kernel
theorem dX12_qGoesOn_303 : decode cX12_qGoesOn 303 = .ok (.putfield 355, 3) := by decide +kernel
theorem dX12_qGoesOn_306 : decode cX12_qGoesOn 306 = .ok (.iconst 1, 1) := by decide +kernel
theorem dX12_qGoesOn_307 : decode cX12_qGoesOn 307 = .ok (.ireturn, 1) := by decide +kernel
theorem dX12_qGoesOn_308 : decode cX12_qGoesOn 308 = .ok (.aload_n 0, 1) := by decide +kernel
theorem dX12_qGoesOn_309 : decode cX12_qGoesOn 309 = .ok (.invokevirtual 621, 3) := by decide +kernel
theorem dX12_qGoesOn_312 : decode cX12_qGoesOn 312 = .ok (.bipush 21, 2) := by decide +kernel
theorem dX12_qGoesOn_314 : decode cX12_qGoesOn 314 = .ok (.if_icmp .eq 12, 3) := by decide +kernel
theorem dX12_qGoesOn_317 : decode cX12_qGoesOn 317 = .ok (.aload_n 0, 1) := by decide +kernel
theorem dX12_qGoesOn_318 : decode cX12_qGoesOn 318 = .ok (.invokevirtual 621, 3) := by decide +kernel
theorem dX12_qGoesOn_321 : decode cX12_qGoesOn 321 = .ok (.bipush 22, 2) := by decide +kernel
theorem dX12_qGoesOn_323 : decode cX12_qGoesOn 323 = .ok (.if_icmp .ne 39, 3) := by decide +kernel
theorem dX12_qGoesOn_326 : decode cX12_qGoesOn 326 = .ok (.aload_n 0, 1) := by decide +kernel
theorem dX12_qGoesOn_327 : decode cX12_qGoesOn 327 = .ok (.bipush 44, 2) := by decide +kernel
theorem dX12_qGoesOn_329 : decode cX12_qGoesOn 329 = .ok (.invokevirtual 395, 3) := by decide +kernel
theorem dX12_qGoesOn_332 : decode cX12_qGoesOn 332 = .ok (.aload_n 0, 1) := by decide +kernel
theorem dX12_qGoesOn_333 : decode cX12_qGoesOn 333 = .ok (.getfield 263, 3) := by decide +kernel
theorem dX12_qGoesOn_336 : decode cX12_qGoesOn 336 = .ok (.ifCond .eq 5, 3) := by decide +kernel
theorem dX12_qGoesOn_339 : decode cX12_qGoesOn 339 = .ok (.iconst 0, 1) := by decide +kernel
theorem dX12_qGoesOn_340 : decode cX12_qGoesOn 340 = .ok (.ireturn, 1) := by decide +kernel
theorem dX12_qGoesOn_341 : decode cX12_qGoesOn 341 = .ok (.aload_n 0, 1) := by decide +kernel
theorem dX12_qGoesOn_342 : decode cX12_qGoesOn 342 = .ok (.invokevirtual 624, 3) := by decide +kernel
theorem dX12_qGoesOn_345 : decode cX12_qGoesOn 345 = .ok (.aload_n 0, 1) := by decide +kernel
theorem dX12_qGoesOn_346 : decode cX12_qGoesOn 346 = .ok (.getfield 251, 3) := by decide +kernel
theorem dX12_qGoesOn_349 : decode cX12_qGoesOn 349 = .ok (.aload_n 0, 1) := by decide +kernel
theorem dX12_qGoesOn_350 : decode cX12_qGoesOn 350 = .ok (.getfield 355, 3) := by decide +kernel
theorem dX12_qGoesOn_353 : decode cX12_qGoesOn 353 = .ok (.iconst 1, 1) := by decide +kernel
theorem dX12_qGoesOn_354 : decode cX12_qGoesOn 354 = .ok (.isub, 1) := by decide +kernel
theorem dX12_qGoesOn_355 : decode cX12_qGoesOn 355 = .ok (.dup2, 1) := by decide +kernel
theorem dX12_qGoesOn_356 : decode cX12_qGoesOn 356 = .ok (.iaload, 1) := by decide +kernel
theorem dX12_qGoesOn_357 : decode cX12_qGoesOn 357 = .ok (.iconst 2, 1) := by decide +kernel
theorem dX12_qGoesOn_358 : decode cX12_qGoesOn 358 = .ok (.iadd, 1) := by decide +kernel
theorem dX12_qGoesOn_359 : decode cX12_qGoesOn 359 = .ok (.iastore, 1) := by decide +kernel
theorem dX12_qGoesOn_360 : decode cX12_qGoesOn 360 = .ok (.iconst 1, 1) := by decide +kernel
theorem dX12_qGoesOn_361 : decode cX12_qGoesOn 361 = .ok (.ireturn, 1) := by decide +kernel
theorem dX12_qGoesOn_362 : decode cX12_qGoesOn 362 = .ok (.aload_n 0, 1) := by decide +kernel
theorem dX12_qGoesOn_363 : decode cX12_qGoesOn 363 = .ok (.invokevirtual 621, 3) := by decide +kernel
theorem dX12_qGoesOn_366 : decode cX12_qGoesOn 366 = .ok (.iconst (-1), 1) := by decide +kernel
theorem dX12_qGoesOn_367 : decode cX12_qGoesOn 367 = .ok (.if_icmp .eq 19, 3) := by decide +kernel
theorem dX12_qGoesOn_370 : decode cX12_qGoesOn 370 = .ok (.aload_n 0, 1) := by decide +kernel
theorem dX12_qGoesOn_371 : decode cX12_qGoesOn 371 = .ok (.getfield 263, 3) := by decide +kernel
theorem dX12_qGoesOn_374 : decode cX12_qGoesOn 374 = .ok (.ifCond .ne 12, 3) := by decide +kernel
theorem dX12_qGoesOn_377 : decode cX12_qGoesOn 377 = .ok (.aload_n 0, 1) := by decide +kernel
theorem dX12_qGoesOn_378 : decode cX12_qGoesOn 378 = .ok (.iconst 1, 1) := by decide +kernel
theorem dX12_qGoesOn_379 : decode cX12_qGoesOn 379 = .ok (.aload_n 0, 1) := by decide +kernel
theorem dX12_qGoesOn_380 : decode cX12_qGoesOn 380 = .ok (.getfield 269, 3) := by decide +kernel
theorem dX12_qGoesOn_383 : decode cX12_qGoesOn 383 = .ok (.invokevirtual 293, 3) := by decide +kernel
theorem dX12_qGoesOn_386 : decode cX12_qGoesOn 386 = .ok (.iconst 0, 1) := by decide +kernel
theorem dX12_qGoesOn_387 : decode cX12_qGoesOn 387 = .ok (.ireturn, 1) := by decide +kernel
theorem dX12_seed_0 : decode cX12_seed 0 = .ok (.iload_n 1, 1) := by decide +kernel
theorem dX12_seed_1 : decode cX12_seed 1 = .ok (.ifCond .ge 15, 3) := by decide +kernel
theorem dX12_seed_4 : decode cX12_seed 4 = .ok (.aload_n 0, 1) := by decide +kernel
theorem dX12_seed_5 : decode cX12_seed 5 = .ok (.getfield 17, 3) := by decide +kernel
theorem dX12_seed_8 : decode cX12_seed 8 = .ok (.iconst 5, 1) := by decide +kernel
theorem dX12_seed_9 : decode cX12_seed 9 = .ok (.dup2, 1) := by decide +kernel
theorem dX12_seed_10 : decode cX12_seed 10 = .ok (.iaload, 1) := by decide +kernel
theorem dX12_seed_11 : decode cX12_seed 11 = .ok (.iconst 1, 1) := by decide +kernel
theorem dX12_seed_12 : decode cX12_seed 12 = .ok (.iadd, 1) := by decide +kernel
theorem dX12_seed_13 : decode cX12_seed 13 = .ok (.iastore, 1) := by decide +kernel
theorem dX12_seed_14 : decode cX12_seed 14 = .ok (.iconst 0, 1) := by decide +kernel
theorem dX12_seed_15 : decode cX12_seed 15 = .ok (.ireturn, 1) := by decide +kernel
theorem dX12_seed_16 : decode cX12_seed 16 = .ok (.aload_n 0, 1) := by decide +kernel
theorem dX12_seed_17 : decode cX12_seed 17 = .ok (.iload_n 1, 1) := by decide +kernel
theorem dX12_seed_18 : decode cX12_seed 18 = .ok (.i2l, 1) := by decide +kernel
theorem dX12_seed_19 : decode cX12_seed 19 = .ok (.putfield 175, 3) := by decide +kernel
theorem dX12_seed_22 : decode cX12_seed 22 = .ok (.iconst 1, 1) := by decide +kernel
theorem dX12_seed_23 : decode cX12_seed 23 = .ok (.ireturn, 1) := by decide +kernel
theorem dX12_warmest_0 : decode cX12_warmest 0 = .ok (.iload_n 1, 1) := by decide +kernel
theorem dX12_warmest_1 : decode cX12_warmest 1 = .ok (.iconst (-1), 1) := by decide +kernel
theorem dX12_warmest_2 : decode cX12_warmest 2 = .ok (.if_icmp .eq 13, 3) := by decide +kernel
theorem dX12_warmest_5 : decode cX12_warmest 5 = .ok (.aload_n 0, 1) := by decide +kernel
theorem dX12_warmest_6 : decode cX12_warmest 6 = .ok (.iload_n 1, 1) := by decide +kernel
theorem dX12_warmest_7 : decode cX12_warmest 7 = .ok (.invokevirtual 501, 3) := by decide +kernel
theorem dX12_warmest_10 : decode cX12_warmest 10 = .ok (.ifCond .ne 5, 3) := by decide +kernel
theorem dX12_warmest_13 : decode cX12_warmest 13 = .ok (.iconst (-1), 1) := by decide +kernel
theorem dX12_warmest_14 : decode cX12_warmest 14 = .ok (.ireturn, 1) := by decide +kernel
theorem dX12_warmest_15 : decode cX12_warmest 15 = .ok (.aload_n 0, 1) := by decide +kernel
theorem dX12_warmest_16 : decode cX12_warmest 16 = .ok (.invokevirtual 485, 3) := by decide +kernel
theorem dX12_warmest_19 : decode cX12_warmest 19 = .ok (.istore_n 2, 1) := by decide +kernel
theorem dX12_warmest_20 : decode cX12_warmest 20 = .ok (.iload_n 1, 1) := by decide +kernel
theorem dX12_warmest_21 : decode cX12_warmest 21 = .ok (.iconst (-1), 1) := by decide +kernel
theorem dX12_warmest_22 : decode cX12_warmest 22 = .ok (.if_icmp .ne 7, 3) := by decide +kernel
theorem dX12_warmest_25 : decode cX12_warmest 25 = .ok (.iload_n 2, 1) := by decide +kernel
theorem dX12_warmest_26 : decode cX12_warmest 26 = .ok (.goto 11, 3) := by decide +kernel
theorem dX12_warmest_29 : decode cX12_warmest 29 = .ok (.aload_n 0, 1) := by decide +kernel
theorem dX12_warmest_30 : decode cX12_warmest 30 = .ok (.getfield 154, 3) := by decide +kernel
theorem dX12_warmest_33 : decode cX12_warmest 33 = .ok (.iload_n 1, 1) := by decide +kernel
theorem dX12_warmest_34 : decode cX12_warmest 34 = .ok (.iaload, 1) := by decide +kernel
theorem dX12_warmest_35 : decode cX12_warmest 35 = .ok (.iconst 1, 1) := by decide +kernel
theorem dX12_warmest_36 : decode cX12_warmest 36 = .ok (.isub, 1) := by decide +kernel
theorem dX12_warmest_37 : decode cX12_warmest 37 = .ok (.ireturn, 1) := by decide +kernel
theorem dX12_qTold_0 : decode cX12_qTold 0 = .ok (.aload_n 0, 1) := by decide +kernel
theorem dX12_qTold_1 : decode cX12_qTold 1 = .ok (.iconst 0, 1) := by decide +kernel
theorem dX12_qTold_2 : decode cX12_qTold 2 = .ok (.putfield 431, 3) := by decide +kernel
theorem dX12_qTold_5 : decode cX12_qTold 5 = .ok (.iconst 0, 1) := by decide +kernel
theorem dX12_qTold_6 : decode cX12_qTold 6 = .ok (.istore_n 2, 1) := by decide +kernel
theorem dX12_qTold_7 : decode cX12_qTold 7 = .ok (.iload_n 2, 1) := by decide +kernel
theorem dX12_qTold_8 : decode cX12_qTold 8 = .ok (.aload_n 0, 1) := by decide +kernel
theorem dX12_qTold_9 : decode cX12_qTold 9 = .ok (.getfield 352, 3) := by decide +kernel
theorem dX12_qTold_12 : decode cX12_qTold 12 = .ok (.if_icmp .ge 156, 3) := by decide +kernel
theorem dX12_qTold_15 : decode cX12_qTold 15 = .ok (.aload_n 0, 1) := by decide +kernel
theorem dX12_qTold_16 : decode cX12_qTold 16 = .ok (.getfield 248, 3) := by decide +kernel
theorem dX12_qTold_19 : decode cX12_qTold 19 = .ok (.iload_n 2, 1) := by decide +kernel
theorem dX12_qTold_20 : decode cX12_qTold 20 = .ok (.iaload, 1) := by decide +kernel
theorem dX12_qTold_21 : decode cX12_qTold 21 = .ok (.istore_n 3, 1) := by decide +kernel
theorem dX12_qTold_22 : decode cX12_qTold 22 = .ok (.iload_n 3, 1) := by decide +kernel
theorem dX12_qTold_23 : decode cX12_qTold 23 = .ok (.sipush 1000, 3) := by decide +kernel
theorem dX12_qTold_26 : decode cX12_qTold 26 = .ok (.if_icmp .lt 16, 3) := by decide +kernel
theorem dX12_qTold_29 : decode cX12_qTold 29 = .ok (.aload_n 0, 1) := by decide +kernel
theorem dX12_qTold_30 : decode cX12_qTold 30 = .ok (.iload_n 3, 1) := by decide +kernel
theorem dX12_qTold_31 : decode cX12_qTold 31 = .ok (.sipush 1000, 3) := by decide +kernel
theorem dX12_qTold_34 : decode cX12_qTold 34 = .ok (.isub, 1) := by decide +kernel
theorem dX12_qTold_35 : decode cX12_qTold 35 = .ok (.i2l, 1) := by decide +kernel
theorem dX12_qTold_36 : decode cX12_qTold 36 = .ok (.invokevirtual 434, 3) := by decide +kernel
theorem dX12_qTold_39 : decode cX12_qTold 39 = .ok (.goto 123, 3) := by decide +kernel
theorem dX12_qTold_42 : decode cX12_qTold 42 = .ok (.iload_n 3, 1) := by decide +kernel
theorem dX12_qTold_43 : decode cX12_qTold 43 = .ok (.bipush 60, 2) := by decide +kernel
theorem dX12_qTold_45 : decode cX12_qTold 45 = .ok (.if_icmp .lt 40, 3) := by decide +kernel
theorem dX12_qTold_48 : decode cX12_qTold 48 = .ok (.aload_n 0, 1) := by decide +kernel
theorem dX12_qTold_49 : decode cX12_qTold 49 = .ok (.getfield 254, 3) := by decide +kernel
theorem dX12_qTold_52 : decode cX12_qTold 52 = .ok (.aload_n 0, 1) := by decide +kernel
theorem dX12_qTold_53 : decode cX12_qTold 53 = .ok (.getfield 431, 3) := by decide +kernel
theorem dX12_qTold_56 : decode cX12_qTold 56 = .ok (.iconst 1, 1) := by decide +kernel
theorem dX12_qTold_57 : decode cX12_qTold 57 = .ok (.isub, 1) := by decide +kernel
theorem dX12_qTold_58 : decode cX12_qTold 58 = .ok (.aload_n 0, 1) := by decide +kernel
theorem dX12_qTold_59 : decode cX12_qTold 59 = .ok (.iload_n 3, 1) := by decide +kernel
theorem dX12_qTold_60 : decode cX12_qTold 60 = .ok (.bipush 60, 2) := by decide +kernel
theorem dX12_qTold_62 : decode cX12_qTold 62 = .ok (.isub, 1) := by decide +kernel
theorem dX12_qTold_63 : decode cX12_qTold 63 = .ok (.aload_n 0, 1) := by decide +kernel
theorem dX12_qTold_64 : decode cX12_qTold 64 = .ok (.getfield 254, 3) := by decide +kernel
theorem dX12_qTold_67 : decode cX12_qTold 67 = .ok (.aload_n 0, 1) := by decide +kernel
theorem dX12_qTold_68 : decode cX12_qTold 68 = .ok (.getfield 431, 3) := by decide +kernel
theorem dX12_qTold_71 : decode cX12_qTold 71 = .ok (.iconst 1, 1) := by decide +kernel
theorem dX12_qTold_72 : decode cX12_qTold 72 = .ok (.isub, 1) := by decide +kernel
theorem dX12_qTold_73 : decode cX12_qTold 73 = .ok (.laload, 1) := by decide +kernel
theorem dX12_qTold_74 : decode cX12_qTold 74 = .ok (.iload_n 1, 1) := by decide +kernel
theorem dX12_qTold_75 : decode cX12_qTold 75 = .ok (.invokevirtual 660, 3) := by decide +kernel
theorem dX12_qTold_78 : decode cX12_qTold 78 = .ok (.invokestatic 652, 3) := by decide +kernel
theorem dX12_qTold_81 : decode cX12_qTold 81 = .ok (.lastore, 1) := by decide +kernel
theorem dX12_qTold_82 : decode cX12_qTold 82 = .ok (.goto 80, 3) := by decide +kernel
theorem dX12_qTold_85 : decode cX12_qTold 85 = .ok (.iload_n 3, 1) := by decide +kernel
theorem dX12_qTold_86 : decode cX12_qTold 86 = .ok (.bipush 40, 2) := by decide +kernel
theorem dX12_qTold_88 : decode cX12_qTold 88 = .ok (.if_icmp .lt 22, 3) := by decide +kernel
theorem dX12_qTold_91 : decode cX12_qTold 91 = .ok (.aload_n 0, 1) := by decide +kernel
theorem dX12_qTold_92 : decode cX12_qTold 92 = .ok (.aload_n 0, 1) := by decide +kernel
theorem dX12_qTold_93 : decode cX12_qTold 93 = .ok (.iload_n 3, 1) := by decide +kernel
theorem dX12_qTold_94 : decode cX12_qTold 94 = .ok (.bipush 40, 2) := by decide +kernel
theorem dX12_qTold_96 : decode cX12_qTold 96 = .ok (.isub, 1) := by decide +kernel
theorem dX12_qTold_97 : decode cX12_qTold 97 = .ok (.iload_n 1, 1) := by decide +kernel
theorem dX12_qTold_98 : decode cX12_qTold 98 = .ok (.invokevirtual 438, 3) := by decide +kernel
theorem dX12_qTold_101 : decode cX12_qTold 101 = .ok (.invokestatic 652, 3) := by decide +kernel
theorem dX12_qTold_104 : decode cX12_qTold 104 = .ok (.invokevirtual 434, 3) := by decide +kernel
theorem dX12_qTold_107 : decode cX12_qTold 107 = .ok (.goto 55, 3) := by decide +kernel
theorem dX12_qTold_110 : decode cX12_qTold 110 = .ok (.iload_n 3, 1) := by decide +kernel
theorem dX12_qTold_111 : decode cX12_qTold 111 = .ok (.bipush 13, 2) := by decide +kernel
theorem dX12_qTold_113 : decode cX12_qTold 113 = .ok (.if_icmp .ne 11, 3) := by decide +kernel
theorem dX12_qTold_116 : decode cX12_qTold 116 = .ok (.aload_n 0, 1) := by decide +kernel
theorem dX12_qTold_117 : decode cX12_qTold 117 = .ok (.lconst 1, 1) := by decide +kernel
theorem dX12_qTold_118 : decode cX12_qTold 118 = .ok (.invokevirtual 434, 3) := by decide +kernel
theorem dX12_qTold_121 : decode cX12_qTold 121 = .ok (.goto 41, 3) := by decide +kernel
theorem dX12_qTold_124 : decode cX12_qTold 124 = .ok (.iload_n 3, 1) := by decide +kernel
theorem dX12_qTold_125 : decode cX12_qTold 125 = .ok (.bipush 12, 2) := by decide +kernel
theorem dX12_qTold_127 : decode cX12_qTold 127 = .ok (.if_icmp .ne 30, 3) := by decide +kernel
theorem dX12_qTold_130 : decode cX12_qTold 130 = .ok (.aload_n 0, 1) := by decide +kernel
theorem dX12_qTold_131 : decode cX12_qTold 131 = .ok (.getfield 254, 3) := by decide +kernel
theorem dX12_qTold_134 : decode cX12_qTold 134 = .ok (.aload_n 0, 1) := by decide +kernel
theorem dX12_qTold_135 : decode cX12_qTold 135 = .ok (.getfield 431, 3) := by decide +kernel
theorem dX12_qTold_138 : decode cX12_qTold 138 = .ok (.iconst 1, 1) := by decide +kernel
theorem dX12_qTold_139 : decode cX12_qTold 139 = .ok (.isub, 1) := by decide +kernel
theorem dX12_qTold_140 : decode cX12_qTold 140 = .ok (.lconst 1, 1) := by decide +kernel
theorem dX12_qTold_141 : decode cX12_qTold 141 = .ok (.aload_n 0, 1) := by decide +kernel
theorem dX12_qTold_142 : decode cX12_qTold 142 = .ok (.getfield 254, 3) := by decide +kernel
theorem dX12_qTold_145 : decode cX12_qTold 145 = .ok (.aload_n 0, 1) := by decide +kernel
theorem dX12_qTold_146 : decode cX12_qTold 146 = .ok (.getfield 431, 3) := by decide +kernel
theorem dX12_qTold_149 : decode cX12_qTold 149 = .ok (.iconst 1, 1) := by decide +kernel
theorem dX12_qTold_150 : decode cX12_qTold 150 = .ok (.isub, 1) := by decide +kernel
theorem dX12_qTold_151 : decode cX12_qTold 151 = .ok (.laload, 1) := by decide +kernel
theorem dX12_qTold_152 : decode cX12_qTold 152 = .ok (.lsub, 1) := by decide +kernel
theorem dX12_qTold_153 : decode cX12_qTold 153 = .ok (.lastore, 1) := by decide +kernel
theorem dX12_qTold_154 : decode cX12_qTold 154 = .ok (.goto 8, 3) := by decide +kernel
theorem dX12_qTold_157 : decode cX12_qTold 157 = .ok (.aload_n 0, 1) := by decide +kernel
theorem dX12_qTold_158 : decode cX12_qTold 158 = .ok (.iload_n 3, 1) := by decide +kernel
theorem dX12_qTold_159 : decode cX12_qTold 159 = .ok (.invokevirtual 442, 3) := by decide +kernel
theorem dX12_qTold_162 : decode cX12_qTold 162 = .ok (.iinc 2 1, 3) := by decide +kernel
theorem dX12_qTold_165 : decode cX12_qTold 165 = .ok (.goto (-158), 3) := by decide +kernel
theorem dX12_qTold_168 : decode cX12_qTold 168 = .ok (.aload_n 0, 1) := by decide +kernel
theorem dX12_qTold_169 : decode cX12_qTold 169 = .ok (.getfield 254, 3) := by decide +kernel
theorem dX12_qTold_172 : decode cX12_qTold 172 = .ok (.iconst 0, 1) := by decide +kernel
theorem dX12_qTold_173 : decode cX12_qTold 173 = .ok (.laload, 1) := by decide +kernel
theorem dX12_qTold_174 : decode cX12_qTold 174 = .ok (.lreturn, 1) := by decide +kernel
theorem dX12_children_0 : decode cX12_children 0 = .ok (.iload_n 1, 1) := by decide +kernel
theorem dX12_children_1 : decode cX12_children 1 = .ok (.iconst (-1), 1) := by decide +kernel
theorem dX12_children_2 : decode cX12_children 2 = .ok (.if_icmp .eq 13, 3) := by decide +kernel
theorem dX12_children_5 : decode cX12_children 5 = .ok (.aload_n 0, 1) := by decide +kernel
theorem dX12_children_6 : decode cX12_children 6 = .ok (.iload_n 1, 1) := by decide +kernel
theorem dX12_children_7 : decode cX12_children 7 = .ok (.invokevirtual 501, 3) := by decide +kernel
theorem dX12_children_10 : decode cX12_children 10 = .ok (.ifCond .ne 5, 3) := by decide +kernel
theorem dX12_children_13 : decode cX12_children 13 = .ok (.iconst (-1), 1) := by decide +kernel
theorem dX12_children_14 : decode cX12_children 14 = .ok (.ireturn, 1) := by decide +kernel
theorem dX12_children_15 : decode cX12_children 15 = .ok (.iconst 0, 1) := by decide +kernel
theorem dX12_children_16 : decode cX12_children 16 = .ok (.istore_n 2, 1) := by decide +kernel
theorem dX12_children_17 : decode cX12_children 17 = .ok (.iload_n 2, 1) := by decide +kernel
theorem dX12_children_18 : decode cX12_children 18 = .ok (.bipush 8, 2) := by decide +kernel
theorem dX12_children_20 : decode cX12_children 20 = .ok (.if_icmp .ge 23, 3) := by decide +kernel
theorem dX12_children_23 : decode cX12_children 23 = .ok (.aload_n 0, 1) := by decide +kernel
theorem dX12_children_24 : decode cX12_children 24 = .ok (.getfield 148, 3) := by decide +kernel
theorem dX12_children_27 : decode cX12_children 27 = .ok (.iload_n 2, 1) := by decide +kernel
theorem dX12_children_28 : decode cX12_children 28 = .ok (.iconst 0, 1) := by decide +kernel
theorem dX12_children_29 : decode cX12_children 29 = .ok (.iastore, 1) := by decide +kernel
theorem dX12_children_30 : decode cX12_children 30 = .ok (.aload_n 0, 1) := by decide +kernel
theorem dX12_children_31 : decode cX12_children 31 = .ok (.getfield 154, 3) := by decide +kernel
theorem dX12_children_34 : decode cX12_children 34 = .ok (.iload_n 2, 1) := by decide +kernel
theorem dX12_children_35 : decode cX12_children 35 = .ok (.iconst 0, 1) := by decide +kernel
theorem dX12_children_36 : decode cX12_children 36 = .ok (.iastore, 1) := by decide +kernel
theorem dX12_children_37 : decode cX12_children 37 = .ok (.iinc 2 1, 3) := by decide +kernel
theorem dX12_children_40 : decode cX12_children 40 = .ok (.goto (-23), 3) := by decide +kernel
theorem dX12_children_43 : decode cX12_children 43 = .ok (.aload_n 0, 1) := by decide +kernel
theorem dX12_children_44 : decode cX12_children 44 = .ok (.invokevirtual 554, 3) := by decide +kernel
theorem dX12_children_47 : decode cX12_children 47 = .ok (.lstore_n 2, 1) := by decide +kernel
theorem dX12_children_48 : decode cX12_children 48 = .ok (.aload_n 0, 1) := by decide +kernel
theorem dX12_children_49 : decode cX12_children 49 = .ok (.invokevirtual 557, 3) := by decide +kernel
theorem dX12_children_52 : decode cX12_children 52 = .ok (.ifCond .eq 55, 3) := by decide +kernel
theorem dX12_children_55 : decode cX12_children 55 = .ok (.aload_n 0, 1) := by decide +kernel
theorem dX12_children_56 : decode cX12_children 56 = .ok (.invokevirtual 554, 3) := by decide +kernel
theorem dX12_children_59 : decode cX12_children 59 = .ok (.lstore 4, 2) := by decide +kernel
theorem dX12_children_61 : decode cX12_children 61 = .ok (.lload 4, 2) := by decide +kernel
theorem dX12_children_63 : decode cX12_children 63 = .ok (.lload_n 2, 1) := by decide +kernel
theorem dX12_children_64 : decode cX12_children 64 = .ok (.lcmp, 1) := by decide +kernel
theorem dX12_children_65 : decode cX12_children 65 = .ok (.ifCond .gt 6, 3) := by decide +kernel
theorem dX12_children_68 : decode cX12_children 68 = .ok (.goto (-20), 3) := by decide +kernel
theorem dX12_children_71 : decode cX12_children 71 = .ok (.lload 4, 2) := by decide +kernel
theorem dX12_children_73 : decode cX12_children 73 = .ok (.lstore_n 2, 1) := by decide +kernel
theorem dX12_children_74 : decode cX12_children 74 = .ok (.iconst 0, 1) := by decide +kernel
theorem dX12_children_75 : decode cX12_children 75 = .ok (.istore 6, 2) := by decide +kernel
theorem dX12_children_77 : decode cX12_children 77 = .ok (.iload 6, 2) := by decide +kernel
theorem dX12_children_79 : decode cX12_children 79 = .ok (.bipush 8, 2) := by decide +kernel
theorem dX12_children_81 : decode cX12_children 81 = .ok (.if_icmp .ge 23, 3) := by decide +kernel
theorem dX12_children_84 : decode cX12_children 84 = .ok (.aload_n 0, 1) := by decide +kernel
theorem dX12_children_85 : decode cX12_children 85 = .ok (.getfield 154, 3) := by decide +kernel
theorem dX12_children_88 : decode cX12_children 88 = .ok (.iload 6, 2) := by decide +kernel
theorem dX12_children_90 : decode cX12_children 90 = .ok (.aload_n 0, 1) := by decide +kernel
theorem dX12_children_91 : decode cX12_children 91 = .ok (.getfield 148, 3) := by decide +kernel
theorem dX12_children_94 : decode cX12_children 94 = .ok (.iload 6, 2) := by decide +kernel
theorem dX12_children_96 : decode cX12_children 96 = .ok (.iaload, 1) := by decide +kernel
theorem dX12_children_97 : decode cX12_children 97 = .ok (.iastore, 1) := by decide +kernel
theorem dX12_children_98 : decode cX12_children 98 = .ok (.iinc 6 1, 3) := by decide +kernel
theorem dX12_children_101 : decode cX12_children 101 = .ok (.goto (-24), 3) := by decide +kernel
theorem dX12_children_104 : decode cX12_children 104 = .ok (.goto (-56), 3) := by decide +kernel
theorem dX12_children_107 : decode cX12_children 107 = .ok (.iconst 0, 1) := by decide +kernel
theorem dX12_children_108 : decode cX12_children 108 = .ok (.istore 4, 2) := by decide +kernel
theorem dX12_children_110 : decode cX12_children 110 = .ok (.iconst 0, 1) := by decide +kernel
theorem dX12_children_111 : decode cX12_children 111 = .ok (.istore 5, 2) := by decide +kernel
theorem dX12_children_113 : decode cX12_children 113 = .ok (.iload 5, 2) := by decide +kernel
theorem dX12_children_115 : decode cX12_children 115 = .ok (.aload_n 0, 1) := by decide +kernel
theorem dX12_children_116 : decode cX12_children 116 = .ok (.invokevirtual 419, 3) := by decide +kernel
theorem dX12_children_119 : decode cX12_children 119 = .ok (.if_icmp .ge 32, 3) := by decide +kernel
theorem dX12_children_122 : decode cX12_children 122 = .ok (.aload_n 0, 1) := by decide +kernel
theorem dX12_children_123 : decode cX12_children 123 = .ok (.getfield 154, 3) := by decide +kernel
theorem dX12_children_126 : decode cX12_children 126 = .ok (.iload 5, 2) := by decide +kernel
theorem dX12_children_128 : decode cX12_children 128 = .ok (.iaload, 1) := by decide +kernel
theorem dX12_children_129 : decode cX12_children 129 = .ok (.iload 4, 2) := by decide +kernel
theorem dX12_children_131 : decode cX12_children 131 = .ok (.if_icmp .lt 14, 3) := by decide +kernel
theorem dX12_children_134 : decode cX12_children 134 = .ok (.aload_n 0, 1) := by decide +kernel
theorem dX12_children_135 : decode cX12_children 135 = .ok (.getfield 154, 3) := by decide +kernel
theorem dX12_children_138 : decode cX12_children 138 = .ok (.iload 5, 2) := by decide +kernel
theorem dX12_children_140 : decode cX12_children 140 = .ok (.iaload, 1) := by decide +kernel
theorem dX12_children_141 : decode cX12_children 141 = .ok (.iconst 1, 1) := by decide +kernel
theorem dX12_children_142 : decode cX12_children 142 = .ok (.iadd, 1) := by decide +kernel
theorem dX12_children_143 : decode cX12_children 143 = .ok (.istore 4, 2) := by decide +kernel
theorem dX12_children_145 : decode cX12_children 145 = .ok (.iinc 5 1, 3) := by decide +kernel
theorem dX12_children_148 : decode cX12_children 148 = .ok (.goto (-35), 3) := by decide +kernel
theorem dX12_children_151 : decode cX12_children 151 = .ok (.iload_n 1, 1) := by decide +kernel
theorem dX12_children_152 : decode cX12_children 152 = .ok (.iconst (-1), 1) := by decide +kernel
theorem dX12_children_153 : decode cX12_children 153 = .ok (.if_icmp .ne 8, 3) := by decide +kernel
theorem dX12_children_156 : decode cX12_children 156 = .ok (.iload 4, 2) := by decide +kernel
theorem dX12_children_158 : decode cX12_children 158 = .ok (.goto 9, 3) := by decide +kernel
theorem dX12_children_161 : decode cX12_children 161 = .ok (.aload_n 0, 1) := by decide +kernel
theorem dX12_children_162 : decode cX12_children 162 = .ok (.getfield 154, 3) := by decide +kernel
theorem dX12_children_165 : decode cX12_children 165 = .ok (.iload_n 1, 1) := by decide +kernel
theorem dX12_children_166 : decode cX12_children 166 = .ok (.iaload, 1) := by decide +kernel
theorem dX12_children_167 : decode cX12_children 167 = .ok (.ireturn, 1) := by decide +kernel
theorem dX12_adds_0 : decode cX12_adds 0 = .ok (.aload_n 0, 1) := by decide +kernel
theorem dX12_adds_1 : decode cX12_adds 1 = .ok (.getfield 108, 3) := by decide +kernel
theorem dX12_adds_4 : decode cX12_adds 4 = .ok (.bipush 8, 2) := by decide +kernel
theorem dX12_adds_6 : decode cX12_adds 6 = .ok (.iload_n 1, 1) := by decide +kernel
theorem dX12_adds_7 : decode cX12_adds 7 = .ok (.imul, 1) := by decide +kernel
theorem dX12_adds_8 : decode cX12_adds 8 = .ok (.aload_n 0, 1) := by decide +kernel
theorem dX12_adds_9 : decode cX12_adds 9 = .ok (.getfield 105, 3) := by decide +kernel
theorem dX12_adds_12 : decode cX12_adds 12 = .ok (.iload_n 1, 1) := by decide +kernel
theorem dX12_adds_13 : decode cX12_adds 13 = .ok (.iaload, 1) := by decide +kernel
theorem dX12_adds_14 : decode cX12_adds 14 = .ok (.iadd, 1) := by decide +kernel
theorem dX12_adds_15 : decode cX12_adds 15 = .ok (.lload_n 2, 1) := by decide +kernel
theorem dX12_adds_16 : decode cX12_adds 16 = .ok (.lastore, 1) := by decide +kernel
theorem dX12_adds_17 : decode cX12_adds 17 = .ok (.aload_n 0, 1) := by decide +kernel
theorem dX12_adds_18 : decode cX12_adds 18 = .ok (.getfield 105, 3) := by decide +kernel
theorem dX12_adds_21 : decode cX12_adds 21 = .ok (.iload_n 1, 1) := by decide +kernel
theorem dX12_adds_22 : decode cX12_adds 22 = .ok (.dup2, 1) := by decide +kernel
theorem dX12_adds_23 : decode cX12_adds 23 = .ok (.iaload, 1) := by decide +kernel
theorem dX12_adds_24 : decode cX12_adds 24 = .ok (.iconst 1, 1) := by decide +kernel
theorem dX12_adds_25 : decode cX12_adds 25 = .ok (.iadd, 1) := by decide +kernel
theorem dX12_adds_26 : decode cX12_adds 26 = .ok (.iastore, 1) := by decide +kernel
theorem dX12_adds_27 : decode cX12_adds 27 = .ok (.aload_n 0, 1) := by decide +kernel
theorem dX12_adds_28 : decode cX12_adds 28 = .ok (.getfield 105, 3) := by decide +kernel
theorem dX12_adds_31 : decode cX12_adds 31 = .ok (.iload_n 1, 1) := by decide +kernel
theorem dX12_adds_32 : decode cX12_adds 32 = .ok (.iaload, 1) := by decide +kernel
theorem dX12_adds_33 : decode cX12_adds 33 = .ok (.iconst 1, 1) := by decide +kernel
theorem dX12_adds_34 : decode cX12_adds 34 = .ok (.isub, 1) := by decide +kernel
theorem dX12_adds_35 : decode cX12_adds 35 = .ok (.ireturn, 1) := by decide +kernel
theorem dX12_areLettersTold_0 : decode cX12_areLettersTold 0 = .ok (.iconst 0, 1) := by decide +kernel
theorem dX12_areLettersTold_1 : decode cX12_areLettersTold 1 = .ok (.istore_n 2, 1) := by decide +kernel
theorem dX12_areLettersTold_2 : decode cX12_areLettersTold 2 = .ok (.iload_n 2, 1) := by decide +kernel
theorem dX12_areLettersTold_3 : decode cX12_areLettersTold 3 = .ok (.aload_n 0, 1) := by decide +kernel
theorem dX12_areLettersTold_4 : decode cX12_areLettersTold 4 = .ok (.invokevirtual 419, 3) := by decide +kernel
theorem dX12_areLettersTold_7 : decode cX12_areLettersTold 7 = .ok (.if_icmp .ge 127, 3) := by decide +kernel
theorem dX12_areLettersTold_10 : decode cX12_areLettersTold 10 = .ok (.iload_n 1, 1) := by decide +kernel
theorem dX12_areLettersTold_11 : decode cX12_areLettersTold 11 = .ok (.iconst 3, 1) := by decide +kernel
theorem dX12_areLettersTold_12 : decode cX12_areLettersTold 12 = .ok (.iload_n 2, 1) := by decide +kernel
theorem dX12_areLettersTold_13 : decode cX12_areLettersTold 13 = .ok (.imul, 1) := by decide +kernel
theorem dX12_areLettersTold_14 : decode cX12_areLettersTold 14 = .ok (.iadd, 1) := by decide +kernel
theorem dX12_areLettersTold_15 : decode cX12_areLettersTold 15 = .ok (.istore_n 3, 1) := by decide +kernel
theorem dX12_areLettersTold_16 : decode cX12_areLettersTold 16 = .ok (.aload_n 0, 1) := by decide +kernel
theorem dX12_areLettersTold_17 : decode cX12_areLettersTold 17 = .ok (.getfield 7, 3) := by decide +kernel
theorem dX12_areLettersTold_20 : decode cX12_areLettersTold 20 = .ok (.iload_n 3, 1) := by decide +kernel
theorem dX12_areLettersTold_21 : decode cX12_areLettersTold 21 = .ok (.iaload, 1) := by decide +kernel
theorem dX12_areLettersTold_22 : decode cX12_areLettersTold 22 = .ok (.aload_n 0, 1) := by decide +kernel
theorem dX12_areLettersTold_23 : decode cX12_areLettersTold 23 = .ok (.invokevirtual 422, 3) := by decide +kernel
theorem dX12_areLettersTold_26 : decode cX12_areLettersTold 26 = .ok (.if_icmp .gt 30, 3) := by decide +kernel
theorem dX12_areLettersTold_29 : decode cX12_areLettersTold 29 = .ok (.aload_n 0, 1) := by decide +kernel
theorem dX12_areLettersTold_30 : decode cX12_areLettersTold 30 = .ok (.getfield 7, 3) := by decide +kernel
theorem dX12_areLettersTold_33 : decode cX12_areLettersTold 33 = .ok (.iload_n 3, 1) := by decide +kernel
theorem dX12_areLettersTold_34 : decode cX12_areLettersTold 34 = .ok (.iconst 1, 1) := by decide +kernel
theorem dX12_areLettersTold_35 : decode cX12_areLettersTold 35 = .ok (.iadd, 1) := by decide +kernel
theorem dX12_areLettersTold_36 : decode cX12_areLettersTold 36 = .ok (.iaload, 1) := by decide +kernel
theorem dX12_areLettersTold_37 : decode cX12_areLettersTold 37 = .ok (.iconst 4, 1) := by decide +kernel
theorem dX12_areLettersTold_38 : decode cX12_areLettersTold 38 = .ok (.if_icmp .gt 18, 3) := by decide +kernel
theorem dX12_areLettersTold_41 : decode cX12_areLettersTold 41 = .ok (.aload_n 0, 1) := by decide +kernel
theorem dX12_areLettersTold_42 : decode cX12_areLettersTold 42 = .ok (.getfield 7, 3) := by decide +kernel
theorem dX12_areLettersTold_45 : decode cX12_areLettersTold 45 = .ok (.iload_n 3, 1) := by decide +kernel
theorem dX12_areLettersTold_46 : decode cX12_areLettersTold 46 = .ok (.iconst 2, 1) := by decide +kernel
theorem dX12_areLettersTold_47 : decode cX12_areLettersTold 47 = .ok (.iadd, 1) := by decide +kernel
theorem dX12_areLettersTold_48 : decode cX12_areLettersTold 48 = .ok (.iaload, 1) := by decide +kernel
theorem dX12_areLettersTold_49 : decode cX12_areLettersTold 49 = .ok (.aload_n 0, 1) := by decide +kernel
theorem dX12_areLettersTold_50 : decode cX12_areLettersTold 50 = .ok (.invokevirtual 410, 3) := by decide +kernel
theorem dX12_areLettersTold_53 : decode cX12_areLettersTold 53 = .ok (.if_icmp .le 5, 3) := by decide +kernel
theorem dX12_areLettersTold_56 : decode cX12_areLettersTold 56 = .ok (.iconst 0, 1) := by decide +kernel
theorem dX12_areLettersTold_57 : decode cX12_areLettersTold 57 = .ok (.ireturn, 1) := by decide +kernel
theorem dX12_areLettersTold_58 : decode cX12_areLettersTold 58 = .ok (.iconst 0, 1) := by decide +kernel
theorem dX12_areLettersTold_59 : decode cX12_areLettersTold 59 = .ok (.istore 4, 2) := by decide +kernel
theorem dX12_areLettersTold_61 : decode cX12_areLettersTold 61 = .ok (.iload 4, 2) := by decide +kernel
theorem dX12_areLettersTold_63 : decode cX12_areLettersTold 63 = .ok (.iload_n 2, 1) := by decide +kernel
theorem dX12_areLettersTold_64 : decode cX12_areLettersTold 64 = .ok (.if_icmp .ge 64, 3) := by decide +kernel
theorem dX12_areLettersTold_67 : decode cX12_areLettersTold 67 = .ok (.aload_n 0, 1) := by decide +kernel
theorem dX12_areLettersTold_68 : decode cX12_areLettersTold 68 = .ok (.getfield 7, 3) := by decide +kernel
theorem dX12_areLettersTold_71 : decode cX12_areLettersTold 71 = .ok (.iload_n 3, 1) := by decide +kernel
theorem dX12_areLettersTold_72 : decode cX12_areLettersTold 72 = .ok (.iconst 1, 1) := by decide +kernel
theorem dX12_areLettersTold_73 : decode cX12_areLettersTold 73 = .ok (.iadd, 1) := by decide +kernel
theorem dX12_areLettersTold_74 : decode cX12_areLettersTold 74 = .ok (.iaload, 1) := by decide +kernel
theorem dX12_areLettersTold_75 : decode cX12_areLettersTold 75 = .ok (.ifCond .le 47, 3) := by decide +kernel
theorem dX12_areLettersTold_78 : decode cX12_areLettersTold 78 = .ok (.aload_n 0, 1) := by decide +kernel
theorem dX12_areLettersTold_79 : decode cX12_areLettersTold 79 = .ok (.getfield 7, 3) := by decide +kernel
theorem dX12_areLettersTold_82 : decode cX12_areLettersTold 82 = .ok (.iload_n 3, 1) := by decide +kernel
theorem dX12_areLettersTold_83 : decode cX12_areLettersTold 83 = .ok (.iconst 1, 1) := by decide +kernel
theorem dX12_areLettersTold_84 : decode cX12_areLettersTold 84 = .ok (.iadd, 1) := by decide +kernel
theorem dX12_areLettersTold_85 : decode cX12_areLettersTold 85 = .ok (.iaload, 1) := by decide +kernel
theorem dX12_areLettersTold_86 : decode cX12_areLettersTold 86 = .ok (.aload_n 0, 1) := by decide +kernel
theorem dX12_areLettersTold_87 : decode cX12_areLettersTold 87 = .ok (.getfield 7, 3) := by decide +kernel
theorem dX12_areLettersTold_90 : decode cX12_areLettersTold 90 = .ok (.iload_n 1, 1) := by decide +kernel
theorem dX12_areLettersTold_91 : decode cX12_areLettersTold 91 = .ok (.iconst 3, 1) := by decide +kernel
theorem dX12_areLettersTold_92 : decode cX12_areLettersTold 92 = .ok (.iload 4, 2) := by decide +kernel
theorem dX12_areLettersTold_94 : decode cX12_areLettersTold 94 = .ok (.imul, 1) := by decide +kernel
theorem dX12_areLettersTold_95 : decode cX12_areLettersTold 95 = .ok (.iadd, 1) := by decide +kernel
theorem dX12_areLettersTold_96 : decode cX12_areLettersTold 96 = .ok (.iconst 1, 1) := by decide +kernel
theorem dX12_areLettersTold_97 : decode cX12_areLettersTold 97 = .ok (.iadd, 1) := by decide +kernel
theorem dX12_areLettersTold_98 : decode cX12_areLettersTold 98 = .ok (.iaload, 1) := by decide +kernel
theorem dX12_areLettersTold_99 : decode cX12_areLettersTold 99 = .ok (.if_icmp .ne 23, 3) := by decide +kernel
theorem dX12_areLettersTold_102 : decode cX12_areLettersTold 102 = .ok (.aload_n 0, 1) := by decide +kernel
theorem dX12_areLettersTold_103 : decode cX12_areLettersTold 103 = .ok (.getfield 121, 3) := by decide +kernel
theorem dX12_areLettersTold_106 : decode cX12_areLettersTold 106 = .ok (.bipush 8, 2) := by decide +kernel
theorem dX12_areLettersTold_108 : decode cX12_areLettersTold 108 = .ok (.iload_n 2, 1) := by decide +kernel
theorem dX12_areLettersTold_109 : decode cX12_areLettersTold 109 = .ok (.iadd, 1) := by decide +kernel
theorem dX12_areLettersTold_110 : decode cX12_areLettersTold 110 = .ok (.iaload, 1) := by decide +kernel
theorem dX12_areLettersTold_111 : decode cX12_areLettersTold 111 = .ok (.iload 4, 2) := by decide +kernel
theorem dX12_areLettersTold_113 : decode cX12_areLettersTold 113 = .ok (.ishr, 1) := by decide +kernel
theorem dX12_areLettersTold_114 : decode cX12_areLettersTold 114 = .ok (.iconst 1, 1) := by decide +kernel
theorem dX12_areLettersTold_115 : decode cX12_areLettersTold 115 = .ok (.iand, 1) := by decide +kernel
theorem dX12_areLettersTold_116 : decode cX12_areLettersTold 116 = .ok (.iconst 1, 1) := by decide +kernel
theorem dX12_areLettersTold_117 : decode cX12_areLettersTold 117 = .ok (.if_icmp .ne 5, 3) := by decide +kernel
theorem dX12_areLettersTold_120 : decode cX12_areLettersTold 120 = .ok (.iconst 0, 1) := by decide +kernel
theorem dX12_areLettersTold_121 : decode cX12_areLettersTold 121 = .ok (.ireturn, 1) := by decide +kernel
theorem dX12_areLettersTold_122 : decode cX12_areLettersTold 122 = .ok (.iinc 4 1, 3) := by decide +kernel
theorem dX12_areLettersTold_125 : decode cX12_areLettersTold 125 = .ok (.goto (-64), 3) := by decide +kernel
theorem dX12_areLettersTold_128 : decode cX12_areLettersTold 128 = .ok (.iinc 2 1, 3) := by decide +kernel
theorem dX12_areLettersTold_131 : decode cX12_areLettersTold 131 = .ok (.goto (-129), 3) := by decide +kernel
theorem dX12_areLettersTold_134 : decode cX12_areLettersTold 134 = .ok (.iconst 1, 1) := by decide +kernel
theorem dX12_areLettersTold_135 : decode cX12_areLettersTold 135 = .ok (.ireturn, 1) := by decide +kernel
theorem dX12_likeTold_0 : decode cX12_likeTold 0 = .ok (.aload_n 0, 1) := by decide +kernel
theorem dX12_likeTold_1 : decode cX12_likeTold 1 = .ok (.iconst 4, 1) := by decide +kernel
theorem dX12_likeTold_2 : decode cX12_likeTold 2 = .ok (.bipush 10, 2) := by decide +kernel
theorem dX12_likeTold_4 : decode cX12_likeTold 4 = .ok (.iload_n 1, 1) := by decide +kernel
theorem dX12_likeTold_5 : decode cX12_likeTold 5 = .ok (.invokevirtual 330, 3) := by decide +kernel
theorem dX12_likeTold_8 : decode cX12_likeTold 8 = .ok (.ifCond .eq 4, 3) := by decide +kernel
theorem dX12_likeTold_11 : decode cX12_likeTold 11 = .ok (.return_, 1) := by decide +kernel
theorem dX12_likeTold_12 : decode cX12_likeTold 12 = .ok (.aload_n 0, 1) := by decide +kernel
theorem dX12_likeTold_13 : decode cX12_likeTold 13 = .ok (.iconst 0, 1) := by decide +kernel
theorem dX12_likeTold_14 : decode cX12_likeTold 14 = .ok (.invokevirtual 348, 3) := by decide +kernel
theorem dX12_likeTold_17 : decode cX12_likeTold 17 = .ok (.istore_n 2, 1) := by decide +kernel
theorem dX12_likeTold_18 : decode cX12_likeTold 18 = .ok (.aload_n 0, 1) := by decide +kernel
theorem dX12_likeTold_19 : decode cX12_likeTold 19 = .ok (.iconst 0, 1) := by decide +kernel
theorem dX12_likeTold_20 : decode cX12_likeTold 20 = .ok (.invokevirtual 348, 3) := by decide +kernel
theorem dX12_likeTold_23 : decode cX12_likeTold 23 = .ok (.istore_n 3, 1) := by decide +kernel
theorem dX12_likeTold_24 : decode cX12_likeTold 24 = .ok (.aload_n 0, 1) := by decide +kernel
theorem dX12_likeTold_25 : decode cX12_likeTold 25 = .ok (.getfield 263, 3) := by decide +kernel
theorem dX12_likeTold_28 : decode cX12_likeTold 28 = .ok (.ifCond .ne 31, 3) := by decide +kernel
theorem dX12_likeTold_31 : decode cX12_likeTold 31 = .ok (.iload_n 2, 1) := by decide +kernel
theorem dX12_likeTold_32 : decode cX12_likeTold 32 = .ok (.iload_n 3, 1) := by decide +kernel
theorem dX12_likeTold_33 : decode cX12_likeTold 33 = .ok (.if_icmp .eq 17, 3) := by decide +kernel
theorem dX12_likeTold_36 : decode cX12_likeTold 36 = .ok (.aload_n 0, 1) := by decide +kernel
theorem dX12_likeTold_37 : decode cX12_likeTold 37 = .ok (.getfield 124, 3) := by decide +kernel
theorem dX12_likeTold_40 : decode cX12_likeTold 40 = .ok (.bipush 8, 2) := by decide +kernel
theorem dX12_likeTold_42 : decode cX12_likeTold 42 = .ok (.iload_n 2, 1) := by decide +kernel
theorem dX12_likeTold_43 : decode cX12_likeTold 43 = .ok (.imul, 1) := by decide +kernel
theorem dX12_likeTold_44 : decode cX12_likeTold 44 = .ok (.iload_n 3, 1) := by decide +kernel
theorem dX12_likeTold_45 : decode cX12_likeTold 45 = .ok (.iadd, 1) := by decide +kernel
theorem dX12_likeTold_46 : decode cX12_likeTold 46 = .ok (.iaload, 1) := by decide +kernel
theorem dX12_likeTold_47 : decode cX12_likeTold 47 = .ok (.ifCond .le 12, 3) := by decide +kernel
theorem dX12_likeTold_50 : decode cX12_likeTold 50 = .ok (.aload_n 0, 1) := by decide +kernel
theorem dX12_likeTold_51 : decode cX12_likeTold 51 = .ok (.iconst 3, 1) := by decide +kernel
theorem dX12_likeTold_52 : decode cX12_likeTold 52 = .ok (.aload_n 0, 1) := by decide +kernel
theorem dX12_likeTold_53 : decode cX12_likeTold 53 = .ok (.getfield 311, 3) := by decide +kernel
theorem dX12_likeTold_56 : decode cX12_likeTold 56 = .ok (.invokevirtual 293, 3) := by decide +kernel
theorem dX12_likeTold_59 : decode cX12_likeTold 59 = .ok (.aload_n 0, 1) := by decide +kernel
theorem dX12_likeTold_60 : decode cX12_likeTold 60 = .ok (.iconst 0, 1) := by decide +kernel
theorem dX12_likeTold_61 : decode cX12_likeTold 61 = .ok (.bipush 10, 2) := by decide +kernel
theorem dX12_likeTold_63 : decode cX12_likeTold 63 = .ok (.invokevirtual 341, 3) := by decide +kernel
theorem dX12_likeTold_66 : decode cX12_likeTold 66 = .ok (.istore 4, 2) := by decide +kernel
theorem dX12_likeTold_68 : decode cX12_likeTold 68 = .ok (.aload_n 0, 1) := by decide +kernel
theorem dX12_likeTold_69 : decode cX12_likeTold 69 = .ok (.getfield 263, 3) := by decide +kernel
theorem dX12_likeTold_72 : decode cX12_likeTold 72 = .ok (.ifCond .eq 4, 3) := by decide +kernel
theorem dX12_likeTold_75 : decode cX12_likeTold 75 = .ok (.return_, 1) := by decide +kernel
theorem dX12_likeTold_76 : decode cX12_likeTold 76 = .ok (.aload_n 0, 1) := by decide +kernel
theorem dX12_likeTold_77 : decode cX12_likeTold 77 = .ok (.getfield 124, 3) := by decide +kernel
theorem dX12_likeTold_80 : decode cX12_likeTold 80 = .ok (.bipush 8, 2) := by decide +kernel
theorem dX12_likeTold_82 : decode cX12_likeTold 82 = .ok (.iload_n 2, 1) := by decide +kernel
theorem dX12_likeTold_83 : decode cX12_likeTold 83 = .ok (.imul, 1) := by decide +kernel
theorem dX12_likeTold_84 : decode cX12_likeTold 84 = .ok (.iload_n 3, 1) := by decide +kernel
theorem dX12_likeTold_85 : decode cX12_likeTold 85 = .ok (.iadd, 1) := by decide +kernel
theorem dX12_likeTold_86 : decode cX12_likeTold 86 = .ok (.iload 4, 2) := by decide +kernel
theorem dX12_likeTold_88 : decode cX12_likeTold 88 = .ok (.iconst 1, 1) := by decide +kernel
theorem dX12_likeTold_89 : decode cX12_likeTold 89 = .ok (.iadd, 1) := by decide +kernel
theorem dX12_likeTold_90 : decode cX12_likeTold 90 = .ok (.iastore, 1) := by decide +kernel
theorem dX12_likeTold_91 : decode cX12_likeTold 91 = .ok (.aload_n 0, 1) := by decide +kernel
theorem dX12_likeTold_92 : decode cX12_likeTold 92 = .ok (.getfield 124, 3) := by decide +kernel
theorem dX12_likeTold_95 : decode cX12_likeTold 95 = .ok (.bipush 8, 2) := by decide +kernel
theorem dX12_likeTold_97 : decode cX12_likeTold 97 = .ok (.iload_n 3, 1) := by decide +kernel
theorem dX12_likeTold_98 : decode cX12_likeTold 98 = .ok (.imul, 1) := by decide +kernel
theorem dX12_likeTold_99 : decode cX12_likeTold 99 = .ok (.iload_n 2, 1) := by decide +kernel
theorem dX12_likeTold_100 : decode cX12_likeTold 100 = .ok (.iadd, 1) := by decide +kernel
theorem dX12_likeTold_101 : decode cX12_likeTold 101 = .ok (.iload 4, 2) := by decide +kernel
theorem dX12_likeTold_103 : decode cX12_likeTold 103 = .ok (.iconst 1, 1) := by decide +kernel
theorem dX12_likeTold_104 : decode cX12_likeTold 104 = .ok (.iadd, 1) := by decide +kernel
theorem dX12_likeTold_105 : decode cX12_likeTold 105 = .ok (.iastore, 1) := by decide +kernel
theorem dX12_likeTold_106 : decode cX12_likeTold 106 = .ok (.aload_n 0, 1) := by decide +kernel
theorem dX12_likeTold_107 : decode cX12_likeTold 107 = .ok (.getfield 105, 3) := by decide +kernel
theorem dX12_likeTold_110 : decode cX12_likeTold 110 = .ok (.iconst 4, 1) := by decide +kernel
theorem dX12_likeTold_111 : decode cX12_likeTold 111 = .ok (.dup2, 1) := by decide +kernel
theorem dX12_likeTold_112 : decode cX12_likeTold 112 = .ok (.iaload, 1) := by decide +kernel
theorem dX12_likeTold_113 : decode cX12_likeTold 113 = .ok (.iconst 1, 1) := by decide +kernel
theorem dX12_likeTold_114 : decode cX12_likeTold 114 = .ok (.iadd, 1) := by decide +kernel
theorem dX12_likeTold_115 : decode cX12_likeTold 115 = .ok (.iastore, 1) := by decide +kernel
theorem dX12_likeTold_116 : decode cX12_likeTold 116 = .ok (.return_, 1) := by decide +kernel
theorem dX12_wishTold_0 : decode cX12_wishTold 0 = .ok (.aload_n 0, 1) := by decide +kernel
theorem dX12_wishTold_1 : decode cX12_wishTold 1 = .ok (.iconst 0, 1) := by decide +kernel
theorem dX12_wishTold_2 : decode cX12_wishTold 2 = .ok (.invokevirtual 348, 3) := by decide +kernel
theorem dX12_wishTold_5 : decode cX12_wishTold 5 = .ok (.istore_n 1, 1) := by decide +kernel
theorem dX12_wishTold_6 : decode cX12_wishTold 6 = .ok (.aload_n 0, 1) := by decide +kernel
theorem dX12_wishTold_7 : decode cX12_wishTold 7 = .ok (.iconst 1, 1) := by decide +kernel
theorem dX12_wishTold_8 : decode cX12_wishTold 8 = .ok (.invokevirtual 348, 3) := by decide +kernel
theorem dX12_wishTold_11 : decode cX12_wishTold 11 = .ok (.istore_n 2, 1) := by decide +kernel
theorem dX12_wishTold_12 : decode cX12_wishTold 12 = .ok (.aload_n 0, 1) := by decide +kernel
theorem dX12_wishTold_13 : decode cX12_wishTold 13 = .ok (.iconst 1, 1) := by decide +kernel
theorem dX12_wishTold_14 : decode cX12_wishTold 14 = .ok (.bipush 9, 2) := by decide +kernel
theorem dX12_wishTold_16 : decode cX12_wishTold 16 = .ok (.invokevirtual 341, 3) := by decide +kernel
theorem dX12_wishTold_19 : decode cX12_wishTold 19 = .ok (.istore_n 3, 1) := by decide +kernel
theorem dX12_wishTold_20 : decode cX12_wishTold 20 = .ok (.aload_n 0, 1) := by decide +kernel
theorem dX12_wishTold_21 : decode cX12_wishTold 21 = .ok (.getfield 263, 3) := by decide +kernel
theorem dX12_wishTold_24 : decode cX12_wishTold 24 = .ok (.ifCond .ne 14, 3) := by decide +kernel
theorem dX12_wishTold_27 : decode cX12_wishTold 27 = .ok (.aload_n 0, 1) := by decide +kernel
theorem dX12_wishTold_28 : decode cX12_wishTold 28 = .ok (.getfield 118, 3) := by decide +kernel
theorem dX12_wishTold_31 : decode cX12_wishTold 31 = .ok (.iconst 4, 1) := by decide +kernel
theorem dX12_wishTold_32 : decode cX12_wishTold 32 = .ok (.iload_n 1, 1) := by decide +kernel
theorem dX12_wishTold_33 : decode cX12_wishTold 33 = .ok (.imul, 1) := by decide +kernel
theorem dX12_wishTold_34 : decode cX12_wishTold 34 = .ok (.iload_n 2, 1) := by decide +kernel
theorem dX12_wishTold_35 : decode cX12_wishTold 35 = .ok (.iadd, 1) := by decide +kernel
theorem dX12_wishTold_36 : decode cX12_wishTold 36 = .ok (.iload_n 3, 1) := by decide +kernel
theorem dX12_wishTold_37 : decode cX12_wishTold 37 = .ok (.iastore, 1) := by decide +kernel
theorem dX12_wishTold_38 : decode cX12_wishTold 38 = .ok (.return_, 1) := by decide +kernel
theorem dX12_chance_0 : decode cX12_chance 0 = .ok (.aload_n 0, 1) := by decide +kernel
theorem dX12_chance_1 : decode cX12_chance 1 = .ok (.iload_n 1, 1) := by decide +kernel
theorem dX12_chance_2 : decode cX12_chance 2 = .ok (.iconst 1, 1) := by decide +kernel
theorem dX12_chance_3 : decode cX12_chance 3 = .ok (.bipush 50, 2) := by decide +kernel
theorem dX12_chance_5 : decode cX12_chance 5 = .ok (.invokevirtual 524, 3) := by decide +kernel
theorem dX12_chance_8 : decode cX12_chance 8 = .ok (.ifCond .ne 9, 3) := by decide +kernel
theorem dX12_chance_11 : decode cX12_chance 11 = .ok (.aload_n 0, 1) := by decide +kernel
theorem dX12_chance_12 : decode cX12_chance 12 = .ok (.iconst 3, 1) := by decide +kernel
theorem dX12_chance_13 : decode cX12_chance 13 = .ok (.invokevirtual 560, 3) := by decide +kernel
theorem dX12_chance_16 : decode cX12_chance 16 = .ok (.ireturn, 1) := by decide +kernel
theorem dX12_chance_17 : decode cX12_chance 17 = .ok (.aload_n 0, 1) := by decide +kernel
theorem dX12_chance_18 : decode cX12_chance 18 = .ok (.invokevirtual 575, 3) := by decide +kernel
theorem dX12_chance_21 : decode cX12_chance 21 = .ok (.iconst 0, 1) := by decide +kernel
theorem dX12_chance_22 : decode cX12_chance 22 = .ok (.istore_n 2, 1) := by decide +kernel
theorem dX12_chance_23 : decode cX12_chance 23 = .ok (.iconst 0, 1) := by decide +kernel
theorem dX12_chance_24 : decode cX12_chance 24 = .ok (.istore_n 3, 1) := by decide +kernel
theorem dX12_chance_25 : decode cX12_chance 25 = .ok (.iload_n 3, 1) := by decide +kernel
theorem dX12_chance_26 : decode cX12_chance 26 = .ok (.iload_n 1, 1) := by decide +kernel
theorem dX12_chance_27 : decode cX12_chance 27 = .ok (.if_icmp .ge 60, 3) := by decide +kernel
theorem dX12_chance_30 : decode cX12_chance 30 = .ok (.iconst 0, 1) := by decide +kernel
theorem dX12_chance_31 : decode cX12_chance 31 = .ok (.istore 4, 2) := by decide +kernel
theorem dX12_chance_33 : decode cX12_chance 33 = .ok (.iload 4, 2) := by decide +kernel
theorem dX12_chance_35 : decode cX12_chance 35 = .ok (.aload_n 0, 1) := by decide +kernel
theorem dX12_chance_36 : decode cX12_chance 36 = .ok (.invokevirtual 422, 3) := by decide +kernel
theorem dX12_chance_39 : decode cX12_chance 39 = .ok (.if_icmp .ge 37, 3) := by decide +kernel
theorem dX12_chance_42 : decode cX12_chance 42 = .ok (.aload_n 0, 1) := by decide +kernel
theorem dX12_chance_43 : decode cX12_chance 43 = .ok (.bipush 100, 2) := by decide +kernel
theorem dX12_chance_45 : decode cX12_chance 45 = .ok (.invokevirtual 591, 3) := by decide +kernel
theorem dX12_chance_48 : decode cX12_chance 48 = .ok (.aload_n 0, 1) := by decide +kernel
theorem dX12_chance_49 : decode cX12_chance 49 = .ok (.getfield 130, 3) := by decide +kernel
theorem dX12_chance_52 : decode cX12_chance 52 = .ok (.iconst 3, 1) := by decide +kernel
theorem dX12_chance_53 : decode cX12_chance 53 = .ok (.iaload, 1) := by decide +kernel
theorem dX12_chance_54 : decode cX12_chance 54 = .ok (.if_icmp .ge 16, 3) := by decide +kernel
theorem dX12_chance_57 : decode cX12_chance 57 = .ok (.aload_n 0, 1) := by decide +kernel
theorem dX12_chance_58 : decode cX12_chance 58 = .ok (.getfield 142, 3) := by decide +kernel
theorem dX12_chance_61 : decode cX12_chance 61 = .ok (.iconst 1, 1) := by decide +kernel
theorem dX12_chance_62 : decode cX12_chance 62 = .ok (.iload 4, 2) := by decide +kernel
theorem dX12_chance_64 : decode cX12_chance 64 = .ok (.iadd, 1) := by decide +kernel
theorem dX12_chance_65 : decode cX12_chance 65 = .ok (.iconst 0, 1) := by decide +kernel
theorem dX12_chance_66 : decode cX12_chance 66 = .ok (.iastore, 1) := by decide +kernel
theorem dX12_chance_67 : decode cX12_chance 67 = .ok (.iinc 2 1, 3) := by decide +kernel
theorem dX12_chance_70 : decode cX12_chance 70 = .ok (.iinc 4 1, 3) := by decide +kernel
theorem dX12_chance_73 : decode cX12_chance 73 = .ok (.goto (-40), 3) := by decide +kernel
theorem dX12_chance_76 : decode cX12_chance 76 = .ok (.aload_n 0, 1) := by decide +kernel
theorem dX12_chance_77 : decode cX12_chance 77 = .ok (.invokevirtual 530, 3) := by decide +kernel
theorem dX12_chance_80 : decode cX12_chance 80 = .ok (.pop, 1) := by decide +kernel
theorem dX12_chance_81 : decode cX12_chance 81 = .ok (.iinc 3 1, 3) := by decide +kernel
theorem dX12_chance_84 : decode cX12_chance 84 = .ok (.goto (-59), 3) := by decide +kernel
theorem dX12_chance_87 : decode cX12_chance 87 = .ok (.iload_n 2, 1) := by decide +kernel
theorem dX12_chance_88 : decode cX12_chance 88 = .ok (.ireturn, 1) := by decide +kernel
theorem dX12_giftMany_0 : decode cX12_giftMany 0 = .ok (.aload_n 0, 1) := by decide +kernel
theorem dX12_giftMany_1 : decode cX12_giftMany 1 = .ok (.getfield 105, 3) := by decide +kernel
theorem dX12_giftMany_4 : decode cX12_giftMany 4 = .ok (.bipush 6, 2) := by decide +kernel
theorem dX12_giftMany_6 : decode cX12_giftMany 6 = .ok (.iaload, 1) := by decide +kernel
theorem dX12_giftMany_7 : decode cX12_giftMany 7 = .ok (.ireturn, 1) := by decide +kernel
theorem dX12_warmOf_0 : decode cX12_warmOf 0 = .ok (.aload_n 0, 1) := by decide +kernel
theorem dX12_warmOf_1 : decode cX12_warmOf 1 = .ok (.getfield 133, 3) := by decide +kernel
theorem dX12_warmOf_4 : decode cX12_warmOf 4 = .ok (.iconst 3, 1) := by decide +kernel
theorem dX12_warmOf_5 : decode cX12_warmOf 5 = .ok (.iaload, 1) := by decide +kernel
theorem dX12_warmOf_6 : decode cX12_warmOf 6 = .ok (.iconst (-1), 1) := by decide +kernel
theorem dX12_warmOf_7 : decode cX12_warmOf 7 = .ok (.if_icmp .ne 18, 3) := by decide +kernel
theorem dX12_warmOf_10 : decode cX12_warmOf 10 = .ok (.aload_n 0, 1) := by decide +kernel
theorem dX12_warmOf_11 : decode cX12_warmOf 11 = .ok (.getfield 127, 3) := by decide +kernel
theorem dX12_warmOf_14 : decode cX12_warmOf 14 = .ok (.bipush 10, 2) := by decide +kernel
theorem dX12_warmOf_16 : decode cX12_warmOf 16 = .ok (.iconst 3, 1) := by decide +kernel
theorem dX12_warmOf_17 : decode cX12_warmOf 17 = .ok (.iload_n 2, 1) := by decide +kernel
theorem dX12_warmOf_18 : decode cX12_warmOf 18 = .ok (.imul, 1) := by decide +kernel
theorem dX12_warmOf_19 : decode cX12_warmOf 19 = .ok (.iadd, 1) := by decide +kernel
theorem dX12_warmOf_20 : decode cX12_warmOf 20 = .ok (.iaload, 1) := by decide +kernel
theorem dX12_warmOf_21 : decode cX12_warmOf 21 = .ok (.i2l, 1) := by decide +kernel
theorem dX12_warmOf_22 : decode cX12_warmOf 22 = .ok (.goto 10, 3) := by decide +kernel
theorem dX12_warmOf_25 : decode cX12_warmOf 25 = .ok (.aload_n 0, 1) := by decide +kernel
theorem dX12_warmOf_26 : decode cX12_warmOf 26 = .ok (.iconst 1, 1) := by decide +kernel
theorem dX12_warmOf_27 : decode cX12_warmOf 27 = .ok (.iload_n 1, 1) := by decide +kernel
theorem dX12_warmOf_28 : decode cX12_warmOf 28 = .ok (.iload_n 2, 1) := by decide +kernel
theorem dX12_warmOf_29 : decode cX12_warmOf 29 = .ok (.invokevirtual 445, 3) := by decide +kernel
theorem dX12_warmOf_32 : decode cX12_warmOf 32 = .ok (.lreturn, 1) := by decide +kernel
theorem dX12_wishesOf_0 : decode cX12_wishesOf 0 = .ok (.iconst 0, 1) := by decide +kernel
theorem dX12_wishesOf_1 : decode cX12_wishesOf 1 = .ok (.istore_n 2, 1) := by decide +kernel
theorem dX12_wishesOf_2 : decode cX12_wishesOf 2 = .ok (.iconst 0, 1) := by decide +kernel
theorem dX12_wishesOf_3 : decode cX12_wishesOf 3 = .ok (.istore_n 3, 1) := by decide +kernel
theorem dX12_wishesOf_4 : decode cX12_wishesOf 4 = .ok (.iload_n 3, 1) := by decide +kernel
theorem dX12_wishesOf_5 : decode cX12_wishesOf 5 = .ok (.aload_n 0, 1) := by decide +kernel
theorem dX12_wishesOf_6 : decode cX12_wishesOf 6 = .ok (.invokevirtual 410, 3) := by decide +kernel
theorem dX12_wishesOf_9 : decode cX12_wishesOf 9 = .ok (.if_icmp .ge 18, 3) := by decide +kernel
theorem dX12_wishesOf_12 : decode cX12_wishesOf 12 = .ok (.iload_n 2, 1) := by decide +kernel
theorem dX12_wishesOf_13 : decode cX12_wishesOf 13 = .ok (.aload_n 0, 1) := by decide +kernel
theorem dX12_wishesOf_14 : decode cX12_wishesOf 14 = .ok (.iload_n 1, 1) := by decide +kernel
theorem dX12_wishesOf_15 : decode cX12_wishesOf 15 = .ok (.iload_n 3, 1) := by decide +kernel
theorem dX12_wishesOf_16 : decode cX12_wishesOf 16 = .ok (.invokevirtual 425, 3) := by decide +kernel
theorem dX12_wishesOf_19 : decode cX12_wishesOf 19 = .ok (.iadd, 1) := by decide +kernel
theorem dX12_wishesOf_20 : decode cX12_wishesOf 20 = .ok (.istore_n 2, 1) := by decide +kernel
theorem dX12_wishesOf_21 : decode cX12_wishesOf 21 = .ok (.iinc 3 1, 3) := by decide +kernel
theorem dX12_wishesOf_24 : decode cX12_wishesOf 24 = .ok (.goto (-20), 3) := by decide +kernel
theorem dX12_wishesOf_27 : decode cX12_wishesOf 27 = .ok (.iload_n 2, 1) := by decide +kernel
theorem dX12_wishesOf_28 : decode cX12_wishesOf 28 = .ok (.ireturn, 1) := by decide +kernel
theorem dX12_qPartOf_0 : decode cX12_qPartOf 0 = .ok (.iload_n 1, 1) := by decide +kernel
theorem dX12_qPartOf_1 : decode cX12_qPartOf 1 = .ok (.tableswitch 128 0 8 #[51, 64, 77, 90, 96, 103, 111, 114, 121], 51) := by decide +kernel
theorem dX12_qPartOf_52 : decode cX12_qPartOf 52 = .ok (.aload_n 0, 1) := by decide +kernel
theorem dX12_qPartOf_53 : decode cX12_qPartOf 53 = .ok (.getfield 112, 3) := by decide +kernel
theorem dX12_qPartOf_56 : decode cX12_qPartOf 56 = .ok (.bipush 24, 2) := by decide +kernel
theorem dX12_qPartOf_58 : decode cX12_qPartOf 58 = .ok (.iconst 3, 1) := by decide +kernel
theorem dX12_qPartOf_59 : decode cX12_qPartOf 59 = .ok (.iload_n 2, 1) := by decide +kernel
theorem dX12_qPartOf_60 : decode cX12_qPartOf 60 = .ok (.imul, 1) := by decide +kernel
theorem dX12_qPartOf_61 : decode cX12_qPartOf 61 = .ok (.iadd, 1) := by decide +kernel
theorem dX12_qPartOf_62 : decode cX12_qPartOf 62 = .ok (.iaload, 1) := by decide +kernel
theorem dX12_qPartOf_63 : decode cX12_qPartOf 63 = .ok (.i2l, 1) := by decide +kernel
theorem dX12_qPartOf_64 : decode cX12_qPartOf 64 = .ok (.lreturn, 1) := by decide +kernel
theorem dX12_qPartOf_65 : decode cX12_qPartOf 65 = .ok (.aload_n 0, 1) := by decide +kernel
theorem dX12_qPartOf_66 : decode cX12_qPartOf 66 = .ok (.getfield 112, 3) := by decide +kernel
theorem dX12_qPartOf_69 : decode cX12_qPartOf 69 = .ok (.bipush 25, 2) := by decide +kernel
theorem dX12_qPartOf_71 : decode cX12_qPartOf 71 = .ok (.iconst 3, 1) := by decide +kernel
theorem dX12_qPartOf_72 : decode cX12_qPartOf 72 = .ok (.iload_n 2, 1) := by decide +kernel
theorem dX12_qPartOf_73 : decode cX12_qPartOf 73 = .ok (.imul, 1) := by decide +kernel
theorem dX12_qPartOf_74 : decode cX12_qPartOf 74 = .ok (.iadd, 1) := by decide +kernel
theorem dX12_qPartOf_75 : decode cX12_qPartOf 75 = .ok (.iaload, 1) := by decide +kernel
theorem dX12_qPartOf_76 : decode cX12_qPartOf 76 = .ok (.i2l, 1) := by decide +kernel
theorem dX12_qPartOf_77 : decode cX12_qPartOf 77 = .ok (.lreturn, 1) := by decide +kernel
theorem dX12_qPartOf_78 : decode cX12_qPartOf 78 = .ok (.aload_n 0, 1) := by decide +kernel
theorem dX12_qPartOf_79 : decode cX12_qPartOf 79 = .ok (.getfield 112, 3) := by decide +kernel
theorem dX12_qPartOf_82 : decode cX12_qPartOf 82 = .ok (.bipush 26, 2) := by decide +kernel
theorem dX12_qPartOf_84 : decode cX12_qPartOf 84 = .ok (.iconst 3, 1) := by decide +kernel
theorem dX12_qPartOf_85 : decode cX12_qPartOf 85 = .ok (.iload_n 2, 1) := by decide +kernel
theorem dX12_qPartOf_86 : decode cX12_qPartOf 86 = .ok (.imul, 1) := by decide +kernel
theorem dX12_qPartOf_87 : decode cX12_qPartOf 87 = .ok (.iadd, 1) := by decide +kernel
theorem dX12_qPartOf_88 : decode cX12_qPartOf 88 = .ok (.iaload, 1) := by decide +kernel
theorem dX12_qPartOf_89 : decode cX12_qPartOf 89 = .ok (.i2l, 1) := by decide +kernel
theorem dX12_qPartOf_90 : decode cX12_qPartOf 90 = .ok (.lreturn, 1) := by decide +kernel
theorem dX12_qPartOf_91 : decode cX12_qPartOf 91 = .ok (.aload_n 0, 1) := by decide +kernel
theorem dX12_qPartOf_92 : decode cX12_qPartOf 92 = .ok (.getfield 428, 3) := by decide +kernel
theorem dX12_qPartOf_95 : decode cX12_qPartOf 95 = .ok (.i2l, 1) := by decide +kernel
theorem dX12_qPartOf_96 : decode cX12_qPartOf 96 = .ok (.lreturn, 1) := by decide +kernel
theorem dX12_qPartOf_97 : decode cX12_qPartOf 97 = .ok (.aload_n 0, 1) := by decide +kernel
theorem dX12_qPartOf_98 : decode cX12_qPartOf 98 = .ok (.iload_n 2, 1) := by decide +kernel
theorem dX12_qPartOf_99 : decode cX12_qPartOf 99 = .ok (.invokevirtual 510, 3) := by decide +kernel
theorem dX12_qPartOf_102 : decode cX12_qPartOf 102 = .ok (.i2l, 1) := by decide +kernel
theorem dX12_qPartOf_103 : decode cX12_qPartOf 103 = .ok (.lreturn, 1) := by decide +kernel
theorem dX12_qPartOf_104 : decode cX12_qPartOf 104 = .ok (.aload_n 0, 1) := by decide +kernel
theorem dX12_qPartOf_105 : decode cX12_qPartOf 105 = .ok (.getfield 142, 3) := by decide +kernel
theorem dX12_qPartOf_108 : decode cX12_qPartOf 108 = .ok (.iconst 0, 1) := by decide +kernel
theorem dX12_qPartOf_109 : decode cX12_qPartOf 109 = .ok (.iaload, 1) := by decide +kernel
theorem dX12_qPartOf_110 : decode cX12_qPartOf 110 = .ok (.i2l, 1) := by decide +kernel
theorem dX12_qPartOf_111 : decode cX12_qPartOf 111 = .ok (.lreturn, 1) := by decide +kernel
theorem dX12_qPartOf_112 : decode cX12_qPartOf 112 = .ok (.iload_n 2, 1) := by decide +kernel
theorem dX12_qPartOf_113 : decode cX12_qPartOf 113 = .ok (.i2l, 1) := by decide +kernel
theorem dX12_qPartOf_114 : decode cX12_qPartOf 114 = .ok (.lreturn, 1) := by decide +kernel
theorem dX12_qPartOf_115 : decode cX12_qPartOf 115 = .ok (.aload_n 0, 1) := by decide +kernel
theorem dX12_qPartOf_116 : decode cX12_qPartOf 116 = .ok (.iload_n 2, 1) := by decide +kernel
theorem dX12_qPartOf_117 : decode cX12_qPartOf 117 = .ok (.invokevirtual 504, 3) := by decide +kernel
theorem dX12_qPartOf_120 : decode cX12_qPartOf 120 = .ok (.i2l, 1) := by decide +kernel
theorem dX12_qPartOf_121 : decode cX12_qPartOf 121 = .ok (.lreturn, 1) := by decide +kernel
theorem dX12_qPartOf_122 : decode cX12_qPartOf 122 = .ok (.aload_n 0, 1) := by decide +kernel
theorem dX12_qPartOf_123 : decode cX12_qPartOf 123 = .ok (.iload_n 2, 1) := by decide +kernel
theorem dX12_qPartOf_124 : decode cX12_qPartOf 124 = .ok (.invokevirtual 451, 3) := by decide +kernel
theorem dX12_qPartOf_127 : decode cX12_qPartOf 127 = .ok (.i2l, 1) := by decide +kernel
theorem dX12_qPartOf_128 : decode cX12_qPartOf 128 = .ok (.lreturn, 1) := by decide +kernel
theorem dX12_qPartOf_129 : decode cX12_qPartOf 129 = .ok (.aload_n 0, 1) := by decide +kernel
theorem dX12_qPartOf_130 : decode cX12_qPartOf 130 = .ok (.iload_n 2, 1) := by decide +kernel
theorem dX12_qPartOf_131 : decode cX12_qPartOf 131 = .ok (.invokevirtual 507, 3) := by decide +kernel
theorem dX12_qPartOf_134 : decode cX12_qPartOf 134 = .ok (.i2l, 1) := by decide +kernel
theorem dX12_qPartOf_135 : decode cX12_qPartOf 135 = .ok (.lreturn, 1) := by decide +kernel
theorem dX12_warmth_0 : decode cX12_warmth 0 = .ok (.aload_n 0, 1) := by decide +kernel
theorem dX12_warmth_1 : decode cX12_warmth 1 = .ok (.iload_n 1, 1) := by decide +kernel
theorem dX12_warmth_2 : decode cX12_warmth 2 = .ok (.invokevirtual 501, 3) := by decide +kernel
theorem dX12_warmth_5 : decode cX12_warmth 5 = .ok (.ifCond .eq 20, 3) := by decide +kernel
theorem dX12_warmth_8 : decode cX12_warmth 8 = .ok (.aload_n 0, 1) := by decide +kernel
theorem dX12_warmth_9 : decode cX12_warmth 9 = .ok (.iload_n 2, 1) := by decide +kernel
theorem dX12_warmth_10 : decode cX12_warmth 10 = .ok (.invokevirtual 516, 3) := by decide +kernel
theorem dX12_warmth_13 : decode cX12_warmth 13 = .ok (.ifCond .eq 12, 3) := by decide +kernel
theorem dX12_warmth_16 : decode cX12_warmth 16 = .ok (.aload_n 0, 1) := by decide +kernel
theorem dX12_warmth_17 : decode cX12_warmth 17 = .ok (.iload_n 1, 1) := by decide +kernel
theorem dX12_warmth_18 : decode cX12_warmth 18 = .ok (.iload_n 2, 1) := by decide +kernel
theorem dX12_warmth_19 : decode cX12_warmth 19 = .ok (.invokevirtual 464, 3) := by decide +kernel
theorem dX12_warmth_22 : decode cX12_warmth 22 = .ok (.goto 6, 3) := by decide +kernel
theorem dX12_warmth_25 : decode cX12_warmth 25 = .ok (.ldc2_w 519, 3) := by decide +kernel
theorem dX12_warmth_28 : decode cX12_warmth 28 = .ok (.lreturn, 1) := by decide +kernel
theorem dX12_qFloor_0 : decode cX12_qFloor 0 = .ok (.lload_n 2, 1) := by decide +kernel
theorem dX12_qFloor_1 : decode cX12_qFloor 1 = .ok (.lconst 0, 1) := by decide +kernel
theorem dX12_qFloor_2 : decode cX12_qFloor 2 = .ok (.lcmp, 1) := by decide +kernel
theorem dX12_qFloor_3 : decode cX12_qFloor 3 = .ok (.ifCond .ne 5, 3) := by decide +kernel
theorem dX12_qFloor_6 : decode cX12_qFloor 6 = .ok (.lconst 0, 1) := by decide +kernel
theorem dX12_qFloor_7 : decode cX12_qFloor 7 = .ok (.lreturn, 1) := by decide +kernel
theorem dX12_qFloor_8 : decode cX12_qFloor 8 = .ok (.lload_n 0, 1) := by decide +kernel
theorem dX12_qFloor_9 : decode cX12_qFloor 9 = .ok (.lload_n 2, 1) := by decide +kernel
theorem dX12_qFloor_10 : decode cX12_qFloor 10 = .ok (.ldiv, 1) := by decide +kernel
theorem dX12_qFloor_11 : decode cX12_qFloor 11 = .ok (.lstore 4, 2) := by decide +kernel
theorem dX12_qFloor_13 : decode cX12_qFloor 13 = .ok (.lload_n 0, 1) := by decide +kernel
theorem dX12_qFloor_14 : decode cX12_qFloor 14 = .ok (.lload_n 2, 1) := by decide +kernel
theorem dX12_qFloor_15 : decode cX12_qFloor 15 = .ok (.lrem, 1) := by decide +kernel
theorem dX12_qFloor_16 : decode cX12_qFloor 16 = .ok (.lconst 0, 1) := by decide +kernel
theorem dX12_qFloor_17 : decode cX12_qFloor 17 = .ok (.lcmp, 1) := by decide +kernel
theorem dX12_qFloor_18 : decode cX12_qFloor 18 = .ok (.ifCond .eq 35, 3) := by decide +kernel
theorem dX12_qFloor_21 : decode cX12_qFloor 21 = .ok (.lload_n 0, 1) := by decide +kernel
theorem dX12_qFloor_22 : decode cX12_qFloor 22 = .ok (.lconst 0, 1) := by decide +kernel
theorem dX12_qFloor_23 : decode cX12_qFloor 23 = .ok (.lcmp, 1) := by decide +kernel
theorem dX12_qFloor_24 : decode cX12_qFloor 24 = .ok (.ifCond .ge 7, 3) := by decide +kernel
theorem dX12_qFloor_27 : decode cX12_qFloor 27 = .ok (.iconst 1, 1) := by decide +kernel
theorem dX12_qFloor_28 : decode cX12_qFloor 28 = .ok (.goto 4, 3) := by decide +kernel
theorem dX12_qFloor_31 : decode cX12_qFloor 31 = .ok (.iconst 0, 1) := by decide +kernel
theorem dX12_qFloor_32 : decode cX12_qFloor 32 = .ok (.lload_n 2, 1) := by decide +kernel
theorem dX12_qFloor_33 : decode cX12_qFloor 33 = .ok (.lconst 0, 1) := by decide +kernel
theorem dX12_qFloor_34 : decode cX12_qFloor 34 = .ok (.lcmp, 1) := by decide +kernel
theorem dX12_qFloor_35 : decode cX12_qFloor 35 = .ok (.ifCond .ge 7, 3) := by decide +kernel
theorem dX12_qFloor_38 : decode cX12_qFloor 38 = .ok (.iconst 1, 1) := by decide +kernel
theorem dX12_qFloor_39 : decode cX12_qFloor 39 = .ok (.goto 4, 3) := by decide +kernel
theorem dX12_qFloor_42 : decode cX12_qFloor 42 = .ok (.iconst 0, 1) := by decide +kernel
theorem dX12_qFloor_43 : decode cX12_qFloor 43 = .ok (.if_icmp .eq 10, 3) := by decide +kernel
theorem dX12_qFloor_46 : decode cX12_qFloor 46 = .ok (.lload 4, 2) := by decide +kernel
theorem dX12_qFloor_48 : decode cX12_qFloor 48 = .ok (.lconst 1, 1) := by decide +kernel
theorem dX12_qFloor_49 : decode cX12_qFloor 49 = .ok (.lsub, 1) := by decide +kernel
theorem dX12_qFloor_50 : decode cX12_qFloor 50 = .ok (.goto 5, 3) := by decide +kernel
theorem dX12_qFloor_53 : decode cX12_qFloor 53 = .ok (.lload 4, 2) := by decide +kernel
theorem dX12_qFloor_55 : decode cX12_qFloor 55 = .ok (.lreturn, 1) := by decide +kernel
theorem dX12_takesBack_0 : decode cX12_takesBack 0 = .ok (.iconst 0, 1) := by decide +kernel
theorem dX12_takesBack_1 : decode cX12_takesBack 1 = .ok (.istore_n 1, 1) := by decide +kernel
theorem dX12_takesBack_2 : decode cX12_takesBack 2 = .ok (.iload_n 1, 1) := by decide +kernel
theorem dX12_takesBack_3 : decode cX12_takesBack 3 = .ok (.bipush 32, 2) := by decide +kernel
theorem dX12_takesBack_5 : decode cX12_takesBack 5 = .ok (.if_icmp .ge 21, 3) := by decide +kernel
theorem dX12_takesBack_8 : decode cX12_takesBack 8 = .ok (.aload_n 0, 1) := by decide +kernel
theorem dX12_takesBack_9 : decode cX12_takesBack 9 = .ok (.getfield 142, 3) := by decide +kernel
theorem dX12_takesBack_12 : decode cX12_takesBack 12 = .ok (.iload_n 1, 1) := by decide +kernel
theorem dX12_takesBack_13 : decode cX12_takesBack 13 = .ok (.aload_n 0, 1) := by decide +kernel
theorem dX12_takesBack_14 : decode cX12_takesBack 14 = .ok (.getfield 145, 3) := by decide +kernel
theorem dX12_takesBack_17 : decode cX12_takesBack 17 = .ok (.iload_n 1, 1) := by decide +kernel
theorem dX12_takesBack_18 : decode cX12_takesBack 18 = .ok (.iaload, 1) := by decide +kernel
theorem dX12_takesBack_19 : decode cX12_takesBack 19 = .ok (.iastore, 1) := by decide +kernel
theorem dX12_takesBack_20 : decode cX12_takesBack 20 = .ok (.iinc 1 1, 3) := by decide +kernel
theorem dX12_takesBack_23 : decode cX12_takesBack 23 = .ok (.goto (-21), 3) := by decide +kernel
theorem dX12_takesBack_26 : decode cX12_takesBack 26 = .ok (.return_, 1) := by decide +kernel
theorem dX12_later_0 : decode cX12_later 0 = .ok (.aload_n 0, 1) := by decide +kernel
theorem dX12_later_1 : decode cX12_later 1 = .ok (.iload_n 1, 1) := by decide +kernel
theorem dX12_later_2 : decode cX12_later 2 = .ok (.iconst 0, 1) := by decide +kernel
theorem dX12_later_3 : decode cX12_later 3 = .ok (.bipush 30, 2) := by decide +kernel
theorem dX12_later_5 : decode cX12_later 5 = .ok (.invokevirtual 524, 3) := by decide +kernel
theorem dX12_later_8 : decode cX12_later 8 = .ok (.ifCond .ne 5, 3) := by decide +kernel
theorem dX12_later_11 : decode cX12_later 11 = .ok (.iconst (-1), 1) := by decide +kernel
theorem dX12_later_12 : decode cX12_later 12 = .ok (.ireturn, 1) := by decide +kernel
theorem dX12_later_13 : decode cX12_later 13 = .ok (.aload_n 0, 1) := by decide +kernel
theorem dX12_later_14 : decode cX12_later 14 = .ok (.invokevirtual 527, 3) := by decide +kernel
theorem dX12_later_17 : decode cX12_later 17 = .ok (.iconst 0, 1) := by decide +kernel
theorem dX12_later_18 : decode cX12_later 18 = .ok (.istore_n 2, 1) := by decide +kernel
theorem dX12_later_19 : decode cX12_later 19 = .ok (.iload_n 2, 1) := by decide +kernel
theorem dX12_later_20 : decode cX12_later 20 = .ok (.iload_n 1, 1) := by decide +kernel
theorem dX12_later_21 : decode cX12_later 21 = .ok (.if_icmp .ge 14, 3) := by decide +kernel
theorem dX12_later_24 : decode cX12_later 24 = .ok (.aload_n 0, 1) := by decide +kernel
theorem dX12_later_25 : decode cX12_later 25 = .ok (.invokevirtual 530, 3) := by decide +kernel
theorem dX12_later_28 : decode cX12_later 28 = .ok (.pop, 1) := by decide +kernel
theorem dX12_later_29 : decode cX12_later 29 = .ok (.iinc 2 1, 3) := by decide +kernel
theorem dX12_later_32 : decode cX12_later 32 = .ok (.goto (-13), 3) := by decide +kernel
theorem dX12_later_35 : decode cX12_later 35 = .ok (.aload_n 0, 1) := by decide +kernel
theorem dX12_later_36 : decode cX12_later 36 = .ok (.invokevirtual 533, 3) := by decide +kernel
theorem dX12_later_39 : decode cX12_later 39 = .ok (.istore_n 2, 1) := by decide +kernel
theorem dX12_later_40 : decode cX12_later 40 = .ok (.aload_n 0, 1) := by decide +kernel
theorem dX12_later_41 : decode cX12_later 41 = .ok (.invokevirtual 536, 3) := by decide +kernel
theorem dX12_later_44 : decode cX12_later 44 = .ok (.iload_n 2, 1) := by decide +kernel
theorem dX12_later_45 : decode cX12_later 45 = .ok (.ireturn, 1) := by decide +kernel
theorem dX12_keeps_0 : decode cX12_keeps 0 = .ok (.aload_n 0, 1) := by decide +kernel
theorem dX12_keeps_1 : decode cX12_keeps 1 = .ok (.aload_n 0, 1) := by decide +kernel
theorem dX12_keeps_2 : decode cX12_keeps 2 = .ok (.getfield 572, 3) := by decide +kernel
theorem dX12_keeps_5 : decode cX12_keeps 5 = .ok (.iconst 1, 1) := by decide +kernel
theorem dX12_keeps_6 : decode cX12_keeps 6 = .ok (.iadd, 1) := by decide +kernel
theorem dX12_keeps_7 : decode cX12_keeps 7 = .ok (.bipush 20, 2) := by decide +kernel
theorem dX12_keeps_9 : decode cX12_keeps 9 = .ok (.irem, 1) := by decide +kernel
theorem dX12_keeps_10 : decode cX12_keeps 10 = .ok (.putfield 572, 3) := by decide +kernel
theorem dX12_keeps_13 : decode cX12_keeps 13 = .ok (.iconst 0, 1) := by decide +kernel
theorem dX12_keeps_14 : decode cX12_keeps 14 = .ok (.istore_n 1, 1) := by decide +kernel
theorem dX12_keeps_15 : decode cX12_keeps 15 = .ok (.iload_n 1, 1) := by decide +kernel
theorem dX12_keeps_16 : decode cX12_keeps 16 = .ok (.bipush 32, 2) := by decide +kernel
theorem dX12_keeps_18 : decode cX12_keeps 18 = .ok (.if_icmp .ge 29, 3) := by decide +kernel
theorem dX12_keeps_21 : decode cX12_keeps 21 = .ok (.aload_n 0, 1) := by decide +kernel
theorem dX12_keeps_22 : decode cX12_keeps 22 = .ok (.getfield 172, 3) := by decide +kernel
theorem dX12_keeps_25 : decode cX12_keeps 25 = .ok (.bipush 32, 2) := by decide +kernel
theorem dX12_keeps_27 : decode cX12_keeps 27 = .ok (.aload_n 0, 1) := by decide +kernel
theorem dX12_keeps_28 : decode cX12_keeps 28 = .ok (.getfield 572, 3) := by decide +kernel
theorem dX12_keeps_31 : decode cX12_keeps 31 = .ok (.imul, 1) := by decide +kernel
theorem dX12_keeps_32 : decode cX12_keeps 32 = .ok (.iload_n 1, 1) := by decide +kernel
theorem dX12_keeps_33 : decode cX12_keeps 33 = .ok (.iadd, 1) := by decide +kernel
theorem dX12_keeps_34 : decode cX12_keeps 34 = .ok (.aload_n 0, 1) := by decide +kernel
theorem dX12_keeps_35 : decode cX12_keeps 35 = .ok (.getfield 142, 3) := by decide +kernel
theorem dX12_keeps_38 : decode cX12_keeps 38 = .ok (.iload_n 1, 1) := by decide +kernel
theorem dX12_keeps_39 : decode cX12_keeps 39 = .ok (.iaload, 1) := by decide +kernel
theorem dX12_keeps_40 : decode cX12_keeps 40 = .ok (.iastore, 1) := by decide +kernel
theorem dX12_keeps_41 : decode cX12_keeps 41 = .ok (.iinc 1 1, 3) := by decide +kernel
theorem dX12_keeps_44 : decode cX12_keeps 44 = .ok (.goto (-29), 3) := by decide +kernel
theorem dX12_keeps_47 : decode cX12_keeps 47 = .ok (.aload_n 0, 1) := by decide +kernel
theorem dX12_keeps_48 : decode cX12_keeps 48 = .ok (.getfield 413, 3) := by decide +kernel
theorem dX12_keeps_51 : decode cX12_keeps 51 = .ok (.bipush 20, 2) := by decide +kernel
theorem dX12_keeps_53 : decode cX12_keeps 53 = .ok (.if_icmp .ge 13, 3) := by decide +kernel
theorem dX12_keeps_56 : decode cX12_keeps 56 = .ok (.aload_n 0, 1) := by decide +kernel
theorem dX12_keeps_57 : decode cX12_keeps 57 = .ok (.dup, 1) := by decide +kernel
theorem dX12_keeps_58 : decode cX12_keeps 58 = .ok (.getfield 413, 3) := by decide +kernel
theorem dX12_keeps_61 : decode cX12_keeps 61 = .ok (.iconst 1, 1) := by decide +kernel
theorem dX12_keeps_62 : decode cX12_keeps 62 = .ok (.iadd, 1) := by decide +kernel
theorem dX12_keeps_63 : decode cX12_keeps 63 = .ok (.putfield 413, 3) := by decide +kernel
theorem dX12_keeps_66 : decode cX12_keeps 66 = .ok (.return_, 1) := by decide +kernel
theorem dX12_isMail_0 : decode cX12_isMail 0 = .ok (.iload_n 1, 1) := by decide +kernel
theorem dX12_isMail_1 : decode cX12_isMail 1 = .ok (.i2l, 1) := by decide +kernel
theorem dX12_isMail_2 : decode cX12_isMail 2 = .ok (.lconst 0, 1) := by decide +kernel
theorem dX12_isMail_3 : decode cX12_isMail 3 = .ok (.aload_n 0, 1) := by decide +kernel
theorem dX12_isMail_4 : decode cX12_isMail 4 = .ok (.invokevirtual 419, 3) := by decide +kernel
theorem dX12_isMail_7 : decode cX12_isMail 7 = .ok (.iconst 1, 1) := by decide +kernel
theorem dX12_isMail_8 : decode cX12_isMail 8 = .ok (.isub, 1) := by decide +kernel
theorem dX12_isMail_9 : decode cX12_isMail 9 = .ok (.i2l, 1) := by decide +kernel
theorem dX12_isMail_10 : decode cX12_isMail 10 = .ok (.invokestatic 303, 3) := by decide +kernel
theorem dX12_isMail_13 : decode cX12_isMail 13 = .ok (.ireturn, 1) := by decide +kernel
theorem dX12_nameOf_0 : decode cX12_nameOf 0 = .ok (.iconst 0, 1) := by decide +kernel
theorem dX12_nameOf_1 : decode cX12_nameOf 1 = .ok (.istore 4, 2) := by decide +kernel
theorem dX12_nameOf_3 : decode cX12_nameOf 3 = .ok (.iload 4, 2) := by decide +kernel
theorem dX12_nameOf_5 : decode cX12_nameOf 5 = .ok (.aload_n 0, 1) := by decide +kernel
theorem dX12_nameOf_6 : decode cX12_nameOf 6 = .ok (.getfield 105, 3) := by decide +kernel
theorem dX12_nameOf_9 : decode cX12_nameOf 9 = .ok (.iload_n 1, 1) := by decide +kernel
theorem dX12_nameOf_10 : decode cX12_nameOf 10 = .ok (.iaload, 1) := by decide +kernel
theorem dX12_nameOf_11 : decode cX12_nameOf 11 = .ok (.if_icmp .ge 29, 3) := by decide +kernel
theorem dX12_nameOf_14 : decode cX12_nameOf 14 = .ok (.aload_n 0, 1) := by decide +kernel
theorem dX12_nameOf_15 : decode cX12_nameOf 15 = .ok (.getfield 108, 3) := by decide +kernel
theorem dX12_nameOf_18 : decode cX12_nameOf 18 = .ok (.bipush 8, 2) := by decide +kernel
theorem dX12_nameOf_20 : decode cX12_nameOf 20 = .ok (.iload_n 1, 1) := by decide +kernel
theorem dX12_nameOf_21 : decode cX12_nameOf 21 = .ok (.imul, 1) := by decide +kernel
theorem dX12_nameOf_22 : decode cX12_nameOf 22 = .ok (.iload 4, 2) := by decide +kernel
theorem dX12_nameOf_24 : decode cX12_nameOf 24 = .ok (.iadd, 1) := by decide +kernel
theorem dX12_nameOf_25 : decode cX12_nameOf 25 = .ok (.laload, 1) := by decide +kernel
theorem dX12_nameOf_26 : decode cX12_nameOf 26 = .ok (.lload_n 2, 1) := by decide +kernel
theorem dX12_nameOf_27 : decode cX12_nameOf 27 = .ok (.lcmp, 1) := by decide +kernel
theorem dX12_nameOf_28 : decode cX12_nameOf 28 = .ok (.ifCond .ne 6, 3) := by decide +kernel
theorem dX12_nameOf_31 : decode cX12_nameOf 31 = .ok (.iload 4, 2) := by decide +kernel
theorem dX12_nameOf_33 : decode cX12_nameOf 33 = .ok (.ireturn, 1) := by decide +kernel
theorem dX12_nameOf_34 : decode cX12_nameOf 34 = .ok (.iinc 4 1, 3) := by decide +kernel
theorem dX12_nameOf_37 : decode cX12_nameOf 37 = .ok (.goto (-34), 3) := by decide +kernel
theorem dX12_nameOf_40 : decode cX12_nameOf 40 = .ok (.iconst (-1), 1) := by decide +kernel
theorem dX12_nameOf_41 : decode cX12_nameOf 41 = .ok (.ireturn, 1) := by decide +kernel
theorem dX12_oneOf_0 : decode cX12_oneOf 0 = .ok (.aload_n 0, 1) := by decide +kernel
theorem dX12_oneOf_1 : decode cX12_oneOf 1 = .ok (.invokevirtual 322, 3) := by decide +kernel
theorem dX12_oneOf_4 : decode cX12_oneOf 4 = .ok (.lstore_n 2, 1) := by decide +kernel
theorem dX12_oneOf_5 : decode cX12_oneOf 5 = .ok (.aload_n 0, 1) := by decide +kernel
theorem dX12_oneOf_6 : decode cX12_oneOf 6 = .ok (.iload_n 1, 1) := by decide +kernel
theorem dX12_oneOf_7 : decode cX12_oneOf 7 = .ok (.lload_n 2, 1) := by decide +kernel
theorem dX12_oneOf_8 : decode cX12_oneOf 8 = .ok (.invokevirtual 326, 3) := by decide +kernel
theorem dX12_oneOf_11 : decode cX12_oneOf 11 = .ok (.istore 4, 2) := by decide +kernel
theorem dX12_oneOf_13 : decode cX12_oneOf 13 = .ok (.aload_n 0, 1) := by decide +kernel
theorem dX12_oneOf_14 : decode cX12_oneOf 14 = .ok (.getfield 263, 3) := by decide +kernel
theorem dX12_oneOf_17 : decode cX12_oneOf 17 = .ok (.ifCond .ne 18, 3) := by decide +kernel
theorem dX12_oneOf_20 : decode cX12_oneOf 20 = .ok (.iload 4, 2) := by decide +kernel
theorem dX12_oneOf_22 : decode cX12_oneOf 22 = .ok (.iconst (-1), 1) := by decide +kernel
theorem dX12_oneOf_23 : decode cX12_oneOf 23 = .ok (.if_icmp .ne 12, 3) := by decide +kernel
theorem dX12_oneOf_26 : decode cX12_oneOf 26 = .ok (.aload_n 0, 1) := by decide +kernel
theorem dX12_oneOf_27 : decode cX12_oneOf 27 = .ok (.iconst 3, 1) := by decide +kernel
theorem dX12_oneOf_28 : decode cX12_oneOf 28 = .ok (.aload_n 0, 1) := by decide +kernel
theorem dX12_oneOf_29 : decode cX12_oneOf 29 = .ok (.getfield 311, 3) := by decide +kernel
theorem dX12_oneOf_32 : decode cX12_oneOf 32 = .ok (.invokevirtual 293, 3) := by decide +kernel
theorem dX12_oneOf_35 : decode cX12_oneOf 35 = .ok (.aload_n 0, 1) := by decide +kernel
theorem dX12_oneOf_36 : decode cX12_oneOf 36 = .ok (.getfield 263, 3) := by decide +kernel
theorem dX12_oneOf_39 : decode cX12_oneOf 39 = .ok (.ifCond .ne 8, 3) := by decide +kernel
theorem dX12_oneOf_42 : decode cX12_oneOf 42 = .ok (.iload 4, 2) := by decide +kernel
theorem dX12_oneOf_44 : decode cX12_oneOf 44 = .ok (.goto 4, 3) := by decide +kernel
theorem dX12_oneOf_47 : decode cX12_oneOf 47 = .ok (.iconst 0, 1) := by decide +kernel
theorem dX12_oneOf_48 : decode cX12_oneOf 48 = .ok (.ireturn, 1) := by decide +kernel
theorem dX12_nearTold_0 : decode cX12_nearTold 0 = .ok (.aload_n 0, 1) := by decide +kernel
theorem dX12_nearTold_1 : decode cX12_nearTold 1 = .ok (.iconst 3, 1) := by decide +kernel
theorem dX12_nearTold_2 : decode cX12_nearTold 2 = .ok (.bipush 20, 2) := by decide +kernel
theorem dX12_nearTold_4 : decode cX12_nearTold 4 = .ok (.iload_n 1, 1) := by decide +kernel
theorem dX12_nearTold_5 : decode cX12_nearTold 5 = .ok (.invokevirtual 330, 3) := by decide +kernel
theorem dX12_nearTold_8 : decode cX12_nearTold 8 = .ok (.ifCond .eq 4, 3) := by decide +kernel
theorem dX12_nearTold_11 : decode cX12_nearTold 11 = .ok (.return_, 1) := by decide +kernel
theorem dX12_nearTold_12 : decode cX12_nearTold 12 = .ok (.aload_n 0, 1) := by decide +kernel
theorem dX12_nearTold_13 : decode cX12_nearTold 13 = .ok (.iconst 0, 1) := by decide +kernel
theorem dX12_nearTold_14 : decode cX12_nearTold 14 = .ok (.invokevirtual 348, 3) := by decide +kernel
theorem dX12_nearTold_17 : decode cX12_nearTold 17 = .ok (.istore_n 2, 1) := by decide +kernel
theorem dX12_nearTold_18 : decode cX12_nearTold 18 = .ok (.aload_n 0, 1) := by decide +kernel
theorem dX12_nearTold_19 : decode cX12_nearTold 19 = .ok (.iconst 0, 1) := by decide +kernel
theorem dX12_nearTold_20 : decode cX12_nearTold 20 = .ok (.invokevirtual 348, 3) := by decide +kernel
theorem dX12_nearTold_23 : decode cX12_nearTold 23 = .ok (.istore_n 3, 1) := by decide +kernel
theorem dX12_nearTold_24 : decode cX12_nearTold 24 = .ok (.aload_n 0, 1) := by decide +kernel
theorem dX12_nearTold_25 : decode cX12_nearTold 25 = .ok (.getfield 263, 3) := by decide +kernel
theorem dX12_nearTold_28 : decode cX12_nearTold 28 = .ok (.ifCond .ne 31, 3) := by decide +kernel
theorem dX12_nearTold_31 : decode cX12_nearTold 31 = .ok (.iload_n 2, 1) := by decide +kernel
theorem dX12_nearTold_32 : decode cX12_nearTold 32 = .ok (.iload_n 3, 1) := by decide +kernel
theorem dX12_nearTold_33 : decode cX12_nearTold 33 = .ok (.if_icmp .eq 17, 3) := by decide +kernel
theorem dX12_nearTold_36 : decode cX12_nearTold 36 = .ok (.aload_n 0, 1) := by decide +kernel
theorem dX12_nearTold_37 : decode cX12_nearTold 37 = .ok (.getfield 121, 3) := by decide +kernel
theorem dX12_nearTold_40 : decode cX12_nearTold 40 = .ok (.iload_n 2, 1) := by decide +kernel
theorem dX12_nearTold_41 : decode cX12_nearTold 41 = .ok (.iaload, 1) := by decide +kernel
theorem dX12_nearTold_42 : decode cX12_nearTold 42 = .ok (.iload_n 3, 1) := by decide +kernel
theorem dX12_nearTold_43 : decode cX12_nearTold 43 = .ok (.ishr, 1) := by decide +kernel
theorem dX12_nearTold_44 : decode cX12_nearTold 44 = .ok (.iconst 1, 1) := by decide +kernel
theorem dX12_nearTold_45 : decode cX12_nearTold 45 = .ok (.iand, 1) := by decide +kernel
theorem dX12_nearTold_46 : decode cX12_nearTold 46 = .ok (.iconst 1, 1) := by decide +kernel
theorem dX12_nearTold_47 : decode cX12_nearTold 47 = .ok (.if_icmp .ne 12, 3) := by decide +kernel
theorem dX12_nearTold_50 : decode cX12_nearTold 50 = .ok (.aload_n 0, 1) := by decide +kernel
theorem dX12_nearTold_51 : decode cX12_nearTold 51 = .ok (.iconst 3, 1) := by decide +kernel
theorem dX12_nearTold_52 : decode cX12_nearTold 52 = .ok (.aload_n 0, 1) := by decide +kernel
theorem dX12_nearTold_53 : decode cX12_nearTold 53 = .ok (.getfield 311, 3) := by decide +kernel
theorem dX12_nearTold_56 : decode cX12_nearTold 56 = .ok (.invokevirtual 293, 3) := by decide +kernel
