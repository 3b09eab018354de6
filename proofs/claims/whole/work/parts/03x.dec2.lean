theorem dX6_plan_32 : decode cX6_plan 32 = .ok (.if_icmp .ne 33, 3) := by decide +kernel
theorem dX6_plan_35 : decode cX6_plan 35 = .ok (.aload_n 1, 1) := by decide +kernel
theorem dX6_plan_36 : decode cX6_plan 36 = .ok (.getfield 33, 3) := by decide +kernel
theorem dX6_plan_39 : decode cX6_plan 39 = .ok (.iload 4, 2) := by decide +kernel
theorem dX6_plan_41 : decode cX6_plan 41 = .ok (.iaload, 1) := by decide +kernel
theorem dX6_plan_42 : decode cX6_plan 42 = .ok (.ifCond .le 23, 3) := by decide +kernel
theorem dX6_plan_45 : decode cX6_plan 45 = .ok (.aload_n 1, 1) := by decide +kernel
theorem dX6_plan_46 : decode cX6_plan 46 = .ok (.iload 4, 2) := by decide +kernel
theorem dX6_plan_48 : decode cX6_plan 48 = .ok (.invokevirtual 36, 3) := by decide +kernel
theorem dX6_plan_51 : decode cX6_plan 51 = .ok (.ifCond .le 14, 3) := by decide +kernel
theorem dX6_plan_54 : decode cX6_plan 54 = .ok (.aload_n 0, 1) := by decide +kernel
theorem dX6_plan_55 : decode cX6_plan 55 = .ok (.getfield 15, 3) := by decide +kernel
theorem dX6_plan_58 : decode cX6_plan 58 = .ok (.iload_n 3, 1) := by decide +kernel
theorem dX6_plan_59 : decode cX6_plan 59 = .ok (.iinc 3 1, 3) := by decide +kernel
theorem dX6_plan_62 : decode cX6_plan 62 = .ok (.iload 4, 2) := by decide +kernel
theorem dX6_plan_64 : decode cX6_plan 64 = .ok (.iastore, 1) := by decide +kernel
theorem dX6_plan_65 : decode cX6_plan 65 = .ok (.iinc 4 1, 3) := by decide +kernel
theorem dX6_plan_68 : decode cX6_plan 68 = .ok (.goto (-63), 3) := by decide +kernel
theorem dX6_plan_71 : decode cX6_plan 71 = .ok (.iconst 0, 1) := by decide +kernel
theorem dX6_plan_72 : decode cX6_plan 72 = .ok (.istore 4, 2) := by decide +kernel
theorem dX6_plan_74 : decode cX6_plan 74 = .ok (.iconst 0, 1) := by decide +kernel
theorem dX6_plan_75 : decode cX6_plan 75 = .ok (.istore 5, 2) := by decide +kernel
theorem dX6_plan_77 : decode cX6_plan 77 = .ok (.iload 5, 2) := by decide +kernel
theorem dX6_plan_79 : decode cX6_plan 79 = .ok (.aload_n 1, 1) := by decide +kernel
theorem dX6_plan_80 : decode cX6_plan 80 = .ok (.getfield 23, 3) := by decide +kernel
theorem dX6_plan_83 : decode cX6_plan 83 = .ok (.iconst 1, 1) := by decide +kernel
theorem dX6_plan_84 : decode cX6_plan 84 = .ok (.iaload, 1) := by decide +kernel
theorem dX6_plan_85 : decode cX6_plan 85 = .ok (.if_icmp .ge 28, 3) := by decide +kernel
theorem dX6_plan_88 : decode cX6_plan 88 = .ok (.iload 4, 2) := by decide +kernel
theorem dX6_plan_90 : decode cX6_plan 90 = .ok (.aload_n 2, 1) := by decide +kernel
theorem dX6_plan_91 : decode cX6_plan 91 = .ok (.getfield 40, 3) := by decide +kernel
theorem dX6_plan_94 : decode cX6_plan 94 = .ok (.iload 5, 2) := by decide +kernel
theorem dX6_plan_96 : decode cX6_plan 96 = .ok (.iaload, 1) := by decide +kernel
theorem dX6_plan_97 : decode cX6_plan 97 = .ok (.iconst 3, 1) := by decide +kernel
theorem dX6_plan_98 : decode cX6_plan 98 = .ok (.iand, 1) := by decide +kernel
theorem dX6_plan_99 : decode cX6_plan 99 = .ok (.iconst 2, 1) := by decide +kernel
theorem dX6_plan_100 : decode cX6_plan 100 = .ok (.iload 5, 2) := by decide +kernel
theorem dX6_plan_102 : decode cX6_plan 102 = .ok (.imul, 1) := by decide +kernel
theorem dX6_plan_103 : decode cX6_plan 103 = .ok (.ishl, 1) := by decide +kernel
theorem dX6_plan_104 : decode cX6_plan 104 = .ok (.ior, 1) := by decide +kernel
theorem dX6_plan_105 : decode cX6_plan 105 = .ok (.istore 4, 2) := by decide +kernel
theorem dX6_plan_107 : decode cX6_plan 107 = .ok (.iinc 5 1, 3) := by decide +kernel
theorem dX6_plan_110 : decode cX6_plan 110 = .ok (.goto (-33), 3) := by decide +kernel
theorem dX6_plan_113 : decode cX6_plan 113 = .ok (.aload_n 0, 1) := by decide +kernel
theorem dX6_plan_114 : decode cX6_plan 114 = .ok (.getfield 20, 3) := by decide +kernel
theorem dX6_plan_117 : decode cX6_plan 117 = .ok (.iload_n 3, 1) := by decide +kernel
theorem dX6_plan_118 : decode cX6_plan 118 = .ok (.aaload, 1) := by decide +kernel
theorem dX6_plan_119 : decode cX6_plan 119 = .ok (.iconst 0, 1) := by decide +kernel
theorem dX6_plan_120 : decode cX6_plan 120 = .ok (.iload 4, 2) := by decide +kernel
theorem dX6_plan_122 : decode cX6_plan 122 = .ok (.iconst 1, 1) := by decide +kernel
theorem dX6_plan_123 : decode cX6_plan 123 = .ok (.iadd, 1) := by decide +kernel
theorem dX6_plan_124 : decode cX6_plan 124 = .ok (.iconst 0, 1) := by decide +kernel
theorem dX6_plan_125 : decode cX6_plan 125 = .ok (.invokestatic 43, 3) := by decide +kernel
theorem dX6_plan_128 : decode cX6_plan 128 = .ok (.iload_n 3, 1) := by decide +kernel
theorem dX6_plan_129 : decode cX6_plan 129 = .ok (.iconst 1, 1) := by decide +kernel
theorem dX6_plan_130 : decode cX6_plan 130 = .ok (.isub, 1) := by decide +kernel
theorem dX6_plan_131 : decode cX6_plan 131 = .ok (.istore 5, 2) := by decide +kernel
theorem dX6_plan_133 : decode cX6_plan 133 = .ok (.iload 5, 2) := by decide +kernel
theorem dX6_plan_135 : decode cX6_plan 135 = .ok (.ifCond .lt 58, 3) := by decide +kernel
theorem dX6_plan_138 : decode cX6_plan 138 = .ok (.iconst 0, 1) := by decide +kernel
theorem dX6_plan_139 : decode cX6_plan 139 = .ok (.istore 6, 2) := by decide +kernel
theorem dX6_plan_141 : decode cX6_plan 141 = .ok (.iload 6, 2) := by decide +kernel
theorem dX6_plan_143 : decode cX6_plan 143 = .ok (.iload 4, 2) := by decide +kernel
theorem dX6_plan_145 : decode cX6_plan 145 = .ok (.if_icmp .gt 42, 3) := by decide +kernel
theorem dX6_plan_148 : decode cX6_plan 148 = .ok (.aload_n 0, 1) := by decide +kernel
theorem dX6_plan_149 : decode cX6_plan 149 = .ok (.getfield 20, 3) := by decide +kernel
theorem dX6_plan_152 : decode cX6_plan 152 = .ok (.iload 5, 2) := by decide +kernel
theorem dX6_plan_154 : decode cX6_plan 154 = .ok (.aaload, 1) := by decide +kernel
theorem dX6_plan_155 : decode cX6_plan 155 = .ok (.iload 6, 2) := by decide +kernel
theorem dX6_plan_157 : decode cX6_plan 157 = .ok (.iload 6, 2) := by decide +kernel
theorem dX6_plan_159 : decode cX6_plan 159 = .ok (.iload 4, 2) := by decide +kernel
theorem dX6_plan_161 : decode cX6_plan 161 = .ok (.invokestatic 49, 3) := by decide +kernel
theorem dX6_plan_164 : decode cX6_plan 164 = .ok (.ifCond .eq 15, 3) := by decide +kernel
theorem dX6_plan_167 : decode cX6_plan 167 = .ok (.aload_n 0, 1) := by decide +kernel
theorem dX6_plan_168 : decode cX6_plan 168 = .ok (.aload_n 1, 1) := by decide +kernel
theorem dX6_plan_169 : decode cX6_plan 169 = .ok (.iload 5, 2) := by decide +kernel
theorem dX6_plan_171 : decode cX6_plan 171 = .ok (.iload 6, 2) := by decide +kernel
theorem dX6_plan_173 : decode cX6_plan 173 = .ok (.invokevirtual 53, 3) := by decide +kernel
theorem dX6_plan_176 : decode cX6_plan 176 = .ok (.goto 4, 3) := by decide +kernel
theorem dX6_plan_179 : decode cX6_plan 179 = .ok (.iconst 0, 1) := by decide +kernel
theorem dX6_plan_180 : decode cX6_plan 180 = .ok (.iastore, 1) := by decide +kernel
theorem dX6_plan_181 : decode cX6_plan 181 = .ok (.iinc 6 1, 3) := by decide +kernel
theorem dX6_plan_184 : decode cX6_plan 184 = .ok (.goto (-43), 3) := by decide +kernel
theorem dX6_plan_187 : decode cX6_plan 187 = .ok (.iinc 5 (-1), 3) := by decide +kernel
theorem dX6_plan_190 : decode cX6_plan 190 = .ok (.goto (-57), 3) := by decide +kernel
theorem dX6_plan_193 : decode cX6_plan 193 = .ok (.aload_n 0, 1) := by decide +kernel
theorem dX6_plan_194 : decode cX6_plan 194 = .ok (.aload_n 0, 1) := by decide +kernel
theorem dX6_plan_195 : decode cX6_plan 195 = .ok (.getfield 20, 3) := by decide +kernel
theorem dX6_plan_198 : decode cX6_plan 198 = .ok (.iconst 0, 1) := by decide +kernel
theorem dX6_plan_199 : decode cX6_plan 199 = .ok (.aaload, 1) := by decide +kernel
theorem dX6_plan_200 : decode cX6_plan 200 = .ok (.iload 4, 2) := by decide +kernel
theorem dX6_plan_202 : decode cX6_plan 202 = .ok (.iaload, 1) := by decide +kernel
theorem dX6_plan_203 : decode cX6_plan 203 = .ok (.putfield 57, 3) := by decide +kernel
theorem dX6_plan_206 : decode cX6_plan 206 = .ok (.aload_n 0, 1) := by decide +kernel
theorem dX6_plan_207 : decode cX6_plan 207 = .ok (.aload_n 1, 1) := by decide +kernel
theorem dX6_plan_208 : decode cX6_plan 208 = .ok (.iload_n 3, 1) := by decide +kernel
theorem dX6_plan_209 : decode cX6_plan 209 = .ok (.iload 4, 2) := by decide +kernel
theorem dX6_plan_211 : decode cX6_plan 211 = .ok (.invokevirtual 61, 3) := by decide +kernel
theorem dX6_plan_214 : decode cX6_plan 214 = .ok (.return_, 1) := by decide +kernel
theorem dX6_isWithin_0 : decode cX6_isWithin 0 = .ok (.iconst 0, 1) := by decide +kernel
theorem dX6_isWithin_1 : decode cX6_isWithin 1 = .ok (.istore_n 2, 1) := by decide +kernel
theorem dX6_isWithin_2 : decode cX6_isWithin 2 = .ok (.iload_n 2, 1) := by decide +kernel
theorem dX6_isWithin_3 : decode cX6_isWithin 3 = .ok (.bipush 8, 2) := by decide +kernel
theorem dX6_isWithin_5 : decode cX6_isWithin 5 = .ok (.if_icmp .ge 24, 3) := by decide +kernel
theorem dX6_isWithin_8 : decode cX6_isWithin 8 = .ok (.iload_n 0, 1) := by decide +kernel
theorem dX6_isWithin_9 : decode cX6_isWithin 9 = .ok (.iload_n 2, 1) := by decide +kernel
theorem dX6_isWithin_10 : decode cX6_isWithin 10 = .ok (.ishr, 1) := by decide +kernel
theorem dX6_isWithin_11 : decode cX6_isWithin 11 = .ok (.iconst 3, 1) := by decide +kernel
theorem dX6_isWithin_12 : decode cX6_isWithin 12 = .ok (.iand, 1) := by decide +kernel
theorem dX6_isWithin_13 : decode cX6_isWithin 13 = .ok (.iload_n 1, 1) := by decide +kernel
theorem dX6_isWithin_14 : decode cX6_isWithin 14 = .ok (.iload_n 2, 1) := by decide +kernel
theorem dX6_isWithin_15 : decode cX6_isWithin 15 = .ok (.ishr, 1) := by decide +kernel
theorem dX6_isWithin_16 : decode cX6_isWithin 16 = .ok (.iconst 3, 1) := by decide +kernel
theorem dX6_isWithin_17 : decode cX6_isWithin 17 = .ok (.iand, 1) := by decide +kernel
theorem dX6_isWithin_18 : decode cX6_isWithin 18 = .ok (.if_icmp .le 5, 3) := by decide +kernel
theorem dX6_isWithin_21 : decode cX6_isWithin 21 = .ok (.iconst 0, 1) := by decide +kernel
theorem dX6_isWithin_22 : decode cX6_isWithin 22 = .ok (.ireturn, 1) := by decide +kernel
theorem dX6_isWithin_23 : decode cX6_isWithin 23 = .ok (.iinc 2 2, 3) := by decide +kernel
theorem dX6_isWithin_26 : decode cX6_isWithin 26 = .ok (.goto (-24), 3) := by decide +kernel
theorem dX6_isWithin_29 : decode cX6_isWithin 29 = .ok (.iconst 1, 1) := by decide +kernel
theorem dX6_isWithin_30 : decode cX6_isWithin 30 = .ok (.ireturn, 1) := by decide +kernel
theorem dX6_mostFrom_0 : decode cX6_mostFrom 0 = .ok (.aload_n 0, 1) := by decide +kernel
theorem dX6_mostFrom_1 : decode cX6_mostFrom 1 = .ok (.getfield 20, 3) := by decide +kernel
theorem dX6_mostFrom_4 : decode cX6_mostFrom 4 = .ok (.iload_n 2, 1) := by decide +kernel
theorem dX6_mostFrom_5 : decode cX6_mostFrom 5 = .ok (.iconst 1, 1) := by decide +kernel
theorem dX6_mostFrom_6 : decode cX6_mostFrom 6 = .ok (.iadd, 1) := by decide +kernel
theorem dX6_mostFrom_7 : decode cX6_mostFrom 7 = .ok (.aaload, 1) := by decide +kernel
theorem dX6_mostFrom_8 : decode cX6_mostFrom 8 = .ok (.iload_n 3, 1) := by decide +kernel
theorem dX6_mostFrom_9 : decode cX6_mostFrom 9 = .ok (.iaload, 1) := by decide +kernel
theorem dX6_mostFrom_10 : decode cX6_mostFrom 10 = .ok (.istore 4, 2) := by decide +kernel
theorem dX6_mostFrom_12 : decode cX6_mostFrom 12 = .ok (.iconst 0, 1) := by decide +kernel
theorem dX6_mostFrom_13 : decode cX6_mostFrom 13 = .ok (.istore 5, 2) := by decide +kernel
theorem dX6_mostFrom_15 : decode cX6_mostFrom 15 = .ok (.iload 5, 2) := by decide +kernel
theorem dX6_mostFrom_17 : decode cX6_mostFrom 17 = .ok (.aload_n 1, 1) := by decide +kernel
theorem dX6_mostFrom_18 : decode cX6_mostFrom 18 = .ok (.getfield 23, 3) := by decide +kernel
theorem dX6_mostFrom_21 : decode cX6_mostFrom 21 = .ok (.iconst 1, 1) := by decide +kernel
theorem dX6_mostFrom_22 : decode cX6_mostFrom 22 = .ok (.iaload, 1) := by decide +kernel
theorem dX6_mostFrom_23 : decode cX6_mostFrom 23 = .ok (.if_icmp .ge 25, 3) := by decide +kernel
theorem dX6_mostFrom_26 : decode cX6_mostFrom 26 = .ok (.iload 4, 2) := by decide +kernel
theorem dX6_mostFrom_28 : decode cX6_mostFrom 28 = .ok (.aload_n 0, 1) := by decide +kernel
theorem dX6_mostFrom_29 : decode cX6_mostFrom 29 = .ok (.aload_n 1, 1) := by decide +kernel
theorem dX6_mostFrom_30 : decode cX6_mostFrom 30 = .ok (.iload_n 2, 1) := by decide +kernel
theorem dX6_mostFrom_31 : decode cX6_mostFrom 31 = .ok (.iload_n 3, 1) := by decide +kernel
theorem dX6_mostFrom_32 : decode cX6_mostFrom 32 = .ok (.iload 5, 2) := by decide +kernel
theorem dX6_mostFrom_34 : decode cX6_mostFrom 34 = .ok (.invokevirtual 65, 3) := by decide +kernel
theorem dX6_mostFrom_37 : decode cX6_mostFrom 37 = .ok (.invokestatic 69, 3) := by decide +kernel
theorem dX6_mostFrom_40 : decode cX6_mostFrom 40 = .ok (.istore 4, 2) := by decide +kernel
theorem dX6_mostFrom_42 : decode cX6_mostFrom 42 = .ok (.iinc 5 1, 3) := by decide +kernel
theorem dX6_mostFrom_45 : decode cX6_mostFrom 45 = .ok (.goto (-30), 3) := by decide +kernel
theorem dX6_mostFrom_48 : decode cX6_mostFrom 48 = .ok (.iload 4, 2) := by decide +kernel
theorem dX6_mostFrom_50 : decode cX6_mostFrom 50 = .ok (.ireturn, 1) := by decide +kernel
theorem dX6_mostBy_0 : decode cX6_mostBy 0 = .ok (.iload_n 3, 1) := by decide +kernel
theorem dX6_mostBy_1 : decode cX6_mostBy 1 = .ok (.iconst 2, 1) := by decide +kernel
theorem dX6_mostBy_2 : decode cX6_mostBy 2 = .ok (.iload 4, 2) := by decide +kernel
theorem dX6_mostBy_4 : decode cX6_mostBy 4 = .ok (.imul, 1) := by decide +kernel
theorem dX6_mostBy_5 : decode cX6_mostBy 5 = .ok (.ishr, 1) := by decide +kernel
theorem dX6_mostBy_6 : decode cX6_mostBy 6 = .ok (.iconst 3, 1) := by decide +kernel
theorem dX6_mostBy_7 : decode cX6_mostBy 7 = .ok (.iand, 1) := by decide +kernel
theorem dX6_mostBy_8 : decode cX6_mostBy 8 = .ok (.ifCond .ne 5, 3) := by decide +kernel
theorem dX6_mostBy_11 : decode cX6_mostBy 11 = .ok (.iconst (-1), 1) := by decide +kernel
theorem dX6_mostBy_12 : decode cX6_mostBy 12 = .ok (.ireturn, 1) := by decide +kernel
theorem dX6_mostBy_13 : decode cX6_mostBy 13 = .ok (.aload_n 0, 1) := by decide +kernel
theorem dX6_mostBy_14 : decode cX6_mostBy 14 = .ok (.getfield 15, 3) := by decide +kernel
theorem dX6_mostBy_17 : decode cX6_mostBy 17 = .ok (.iload_n 2, 1) := by decide +kernel
theorem dX6_mostBy_18 : decode cX6_mostBy 18 = .ok (.iaload, 1) := by decide +kernel
theorem dX6_mostBy_19 : decode cX6_mostBy 19 = .ok (.istore 5, 2) := by decide +kernel
theorem dX6_mostBy_21 : decode cX6_mostBy 21 = .ok (.aload_n 1, 1) := by decide +kernel
theorem dX6_mostBy_22 : decode cX6_mostBy 22 = .ok (.getfield 33, 3) := by decide +kernel
theorem dX6_mostBy_25 : decode cX6_mostBy 25 = .ok (.iload 5, 2) := by decide +kernel
theorem dX6_mostBy_27 : decode cX6_mostBy 27 = .ok (.iaload, 1) := by decide +kernel
theorem dX6_mostBy_28 : decode cX6_mostBy 28 = .ok (.aload_n 1, 1) := by decide +kernel
theorem dX6_mostBy_29 : decode cX6_mostBy 29 = .ok (.getfield 75, 3) := by decide +kernel
theorem dX6_mostBy_32 : decode cX6_mostBy 32 = .ok (.iload 5, 2) := by decide +kernel
theorem dX6_mostBy_34 : decode cX6_mostBy 34 = .ok (.aaload, 1) := by decide +kernel
theorem dX6_mostBy_35 : decode cX6_mostBy 35 = .ok (.iload 4, 2) := by decide +kernel
theorem dX6_mostBy_37 : decode cX6_mostBy 37 = .ok (.iaload, 1) := by decide +kernel
theorem dX6_mostBy_38 : decode cX6_mostBy 38 = .ok (.imul, 1) := by decide +kernel
theorem dX6_mostBy_39 : decode cX6_mostBy 39 = .ok (.aload_n 0, 1) := by decide +kernel
theorem dX6_mostBy_40 : decode cX6_mostBy 40 = .ok (.getfield 20, 3) := by decide +kernel
theorem dX6_mostBy_43 : decode cX6_mostBy 43 = .ok (.iload_n 2, 1) := by decide +kernel
theorem dX6_mostBy_44 : decode cX6_mostBy 44 = .ok (.iconst 1, 1) := by decide +kernel
theorem dX6_mostBy_45 : decode cX6_mostBy 45 = .ok (.iadd, 1) := by decide +kernel
theorem dX6_mostBy_46 : decode cX6_mostBy 46 = .ok (.aaload, 1) := by decide +kernel
theorem dX6_mostBy_47 : decode cX6_mostBy 47 = .ok (.iload_n 3, 1) := by decide +kernel
theorem dX6_mostBy_48 : decode cX6_mostBy 48 = .ok (.iconst 1, 1) := by decide +kernel
theorem dX6_mostBy_49 : decode cX6_mostBy 49 = .ok (.iconst 2, 1) := by decide +kernel
theorem dX6_mostBy_50 : decode cX6_mostBy 50 = .ok (.iload 4, 2) := by decide +kernel
theorem dX6_mostBy_52 : decode cX6_mostBy 52 = .ok (.imul, 1) := by decide +kernel
theorem dX6_mostBy_53 : decode cX6_mostBy 53 = .ok (.ishl, 1) := by decide +kernel
theorem dX6_mostBy_54 : decode cX6_mostBy 54 = .ok (.isub, 1) := by decide +kernel
theorem dX6_mostBy_55 : decode cX6_mostBy 55 = .ok (.iaload, 1) := by decide +kernel
theorem dX6_mostBy_56 : decode cX6_mostBy 56 = .ok (.iadd, 1) := by decide +kernel
theorem dX6_mostBy_57 : decode cX6_mostBy 57 = .ok (.ireturn, 1) := by decide +kernel
theorem dX6_choose_0 : decode cX6_choose 0 = .ok (.iload_n 3, 1) := by decide +kernel
theorem dX6_choose_1 : decode cX6_choose 1 = .ok (.istore 4, 2) := by decide +kernel
theorem dX6_choose_3 : decode cX6_choose 3 = .ok (.iconst 0, 1) := by decide +kernel
theorem dX6_choose_4 : decode cX6_choose 4 = .ok (.istore 5, 2) := by decide +kernel
theorem dX6_choose_6 : decode cX6_choose 6 = .ok (.iload 5, 2) := by decide +kernel
theorem dX6_choose_8 : decode cX6_choose 8 = .ok (.iload_n 2, 1) := by decide +kernel
theorem dX6_choose_9 : decode cX6_choose 9 = .ok (.if_icmp .ge 109, 3) := by decide +kernel
theorem dX6_choose_12 : decode cX6_choose 12 = .ok (.aload_n 0, 1) := by decide +kernel
theorem dX6_choose_13 : decode cX6_choose 13 = .ok (.getfield 20, 3) := by decide +kernel
theorem dX6_choose_16 : decode cX6_choose 16 = .ok (.iload 5, 2) := by decide +kernel
theorem dX6_choose_18 : decode cX6_choose 18 = .ok (.iconst 1, 1) := by decide +kernel
theorem dX6_choose_19 : decode cX6_choose 19 = .ok (.iadd, 1) := by decide +kernel
theorem dX6_choose_20 : decode cX6_choose 20 = .ok (.aaload, 1) := by decide +kernel
theorem dX6_choose_21 : decode cX6_choose 21 = .ok (.iload 4, 2) := by decide +kernel
theorem dX6_choose_23 : decode cX6_choose 23 = .ok (.iaload, 1) := by decide +kernel
theorem dX6_choose_24 : decode cX6_choose 24 = .ok (.aload_n 0, 1) := by decide +kernel
theorem dX6_choose_25 : decode cX6_choose 25 = .ok (.getfield 20, 3) := by decide +kernel
theorem dX6_choose_28 : decode cX6_choose 28 = .ok (.iload 5, 2) := by decide +kernel
theorem dX6_choose_30 : decode cX6_choose 30 = .ok (.aaload, 1) := by decide +kernel
theorem dX6_choose_31 : decode cX6_choose 31 = .ok (.iload 4, 2) := by decide +kernel
theorem dX6_choose_33 : decode cX6_choose 33 = .ok (.iaload, 1) := by decide +kernel
theorem dX6_choose_34 : decode cX6_choose 34 = .ok (.if_icmp .ne 6, 3) := by decide +kernel
theorem dX6_choose_37 : decode cX6_choose 37 = .ok (.goto 75, 3) := by decide +kernel
theorem dX6_choose_40 : decode cX6_choose 40 = .ok (.iconst 0, 1) := by decide +kernel
theorem dX6_choose_41 : decode cX6_choose 41 = .ok (.istore 6, 2) := by decide +kernel
theorem dX6_choose_43 : decode cX6_choose 43 = .ok (.iload 6, 2) := by decide +kernel
theorem dX6_choose_45 : decode cX6_choose 45 = .ok (.aload_n 1, 1) := by decide +kernel
theorem dX6_choose_46 : decode cX6_choose 46 = .ok (.getfield 23, 3) := by decide +kernel
theorem dX6_choose_49 : decode cX6_choose 49 = .ok (.iconst 1, 1) := by decide +kernel
theorem dX6_choose_50 : decode cX6_choose 50 = .ok (.iaload, 1) := by decide +kernel
theorem dX6_choose_51 : decode cX6_choose 51 = .ok (.if_icmp .ge 61, 3) := by decide +kernel
theorem dX6_choose_54 : decode cX6_choose 54 = .ok (.aload_n 0, 1) := by decide +kernel
theorem dX6_choose_55 : decode cX6_choose 55 = .ok (.aload_n 1, 1) := by decide +kernel
theorem dX6_choose_56 : decode cX6_choose 56 = .ok (.iload 5, 2) := by decide +kernel
theorem dX6_choose_58 : decode cX6_choose 58 = .ok (.iload 4, 2) := by decide +kernel
theorem dX6_choose_60 : decode cX6_choose 60 = .ok (.iload 6, 2) := by decide +kernel
theorem dX6_choose_62 : decode cX6_choose 62 = .ok (.invokevirtual 65, 3) := by decide +kernel
theorem dX6_choose_65 : decode cX6_choose 65 = .ok (.aload_n 0, 1) := by decide +kernel
theorem dX6_choose_66 : decode cX6_choose 66 = .ok (.getfield 20, 3) := by decide +kernel
theorem dX6_choose_69 : decode cX6_choose 69 = .ok (.iload 5, 2) := by decide +kernel
theorem dX6_choose_71 : decode cX6_choose 71 = .ok (.aaload, 1) := by decide +kernel
theorem dX6_choose_72 : decode cX6_choose 72 = .ok (.iload 4, 2) := by decide +kernel
theorem dX6_choose_74 : decode cX6_choose 74 = .ok (.iaload, 1) := by decide +kernel
theorem dX6_choose_75 : decode cX6_choose 75 = .ok (.if_icmp .ne 31, 3) := by decide +kernel
theorem dX6_choose_78 : decode cX6_choose 78 = .ok (.aload_n 0, 1) := by decide +kernel
theorem dX6_choose_79 : decode cX6_choose 79 = .ok (.getfield 9, 3) := by decide +kernel
theorem dX6_choose_82 : decode cX6_choose 82 = .ok (.aload_n 0, 1) := by decide +kernel
theorem dX6_choose_83 : decode cX6_choose 83 = .ok (.getfield 15, 3) := by decide +kernel
theorem dX6_choose_86 : decode cX6_choose 86 = .ok (.iload 5, 2) := by decide +kernel
theorem dX6_choose_88 : decode cX6_choose 88 = .ok (.iaload, 1) := by decide +kernel
theorem dX6_choose_89 : decode cX6_choose 89 = .ok (.iload 6, 2) := by decide +kernel
theorem dX6_choose_91 : decode cX6_choose 91 = .ok (.iastore, 1) := by decide +kernel
theorem dX6_choose_92 : decode cX6_choose 92 = .ok (.iload 4, 2) := by decide +kernel
theorem dX6_choose_94 : decode cX6_choose 94 = .ok (.iconst 1, 1) := by decide +kernel
theorem dX6_choose_95 : decode cX6_choose 95 = .ok (.iconst 2, 1) := by decide +kernel
theorem dX6_choose_96 : decode cX6_choose 96 = .ok (.iload 6, 2) := by decide +kernel
theorem dX6_choose_98 : decode cX6_choose 98 = .ok (.imul, 1) := by decide +kernel
theorem dX6_choose_99 : decode cX6_choose 99 = .ok (.ishl, 1) := by decide +kernel
theorem dX6_choose_100 : decode cX6_choose 100 = .ok (.isub, 1) := by decide +kernel
theorem dX6_choose_101 : decode cX6_choose 101 = .ok (.istore 4, 2) := by decide +kernel
theorem dX6_choose_103 : decode cX6_choose 103 = .ok (.goto 9, 3) := by decide +kernel
theorem dX6_choose_106 : decode cX6_choose 106 = .ok (.iinc 6 1, 3) := by decide +kernel
theorem dX6_choose_109 : decode cX6_choose 109 = .ok (.goto (-66), 3) := by decide +kernel
theorem dX6_choose_112 : decode cX6_choose 112 = .ok (.iinc 5 1, 3) := by decide +kernel
theorem dX6_choose_115 : decode cX6_choose 115 = .ok (.goto (-109), 3) := by decide +kernel
theorem dX6_choose_118 : decode cX6_choose 118 = .ok (.return_, 1) := by decide +kernel
theorem dX7_chooseSheets_0 : decode cX7_chooseSheets 0 = .ok (.aload_n 0, 1) := by decide +kernel
theorem dX7_chooseSheets_1 : decode cX7_chooseSheets 1 = .ok (.iconst 0, 1) := by decide +kernel
theorem dX7_chooseSheets_2 : decode cX7_chooseSheets 2 = .ok (.putfield 25, 3) := by decide +kernel
theorem dX7_chooseSheets_5 : decode cX7_chooseSheets 5 = .ok (.iconst 0, 1) := by decide +kernel
theorem dX7_chooseSheets_6 : decode cX7_chooseSheets 6 = .ok (.istore_n 2, 1) := by decide +kernel
theorem dX7_chooseSheets_7 : decode cX7_chooseSheets 7 = .ok (.iload_n 2, 1) := by decide +kernel
theorem dX7_chooseSheets_8 : decode cX7_chooseSheets 8 = .ok (.bipush 8, 2) := by decide +kernel
theorem dX7_chooseSheets_10 : decode cX7_chooseSheets 10 = .ok (.if_icmp .gt 26, 3) := by decide +kernel
theorem dX7_chooseSheets_13 : decode cX7_chooseSheets 13 = .ok (.aload_n 0, 1) := by decide +kernel
theorem dX7_chooseSheets_14 : decode cX7_chooseSheets 14 = .ok (.aload_n 1, 1) := by decide +kernel
theorem dX7_chooseSheets_15 : decode cX7_chooseSheets 15 = .ok (.iconst 0, 1) := by decide +kernel
theorem dX7_chooseSheets_16 : decode cX7_chooseSheets 16 = .ok (.iconst 0, 1) := by decide +kernel
theorem dX7_chooseSheets_17 : decode cX7_chooseSheets 17 = .ok (.iload_n 2, 1) := by decide +kernel
theorem dX7_chooseSheets_18 : decode cX7_chooseSheets 18 = .ok (.invokevirtual 29, 3) := by decide +kernel
theorem dX7_chooseSheets_21 : decode cX7_chooseSheets 21 = .ok (.ifCond .eq 9, 3) := by decide +kernel
theorem dX7_chooseSheets_24 : decode cX7_chooseSheets 24 = .ok (.aload_n 0, 1) := by decide +kernel
theorem dX7_chooseSheets_25 : decode cX7_chooseSheets 25 = .ok (.iload_n 2, 1) := by decide +kernel
theorem dX7_chooseSheets_26 : decode cX7_chooseSheets 26 = .ok (.putfield 25, 3) := by decide +kernel
theorem dX7_chooseSheets_29 : decode cX7_chooseSheets 29 = .ok (.return_, 1) := by decide +kernel
theorem dX7_chooseSheets_30 : decode cX7_chooseSheets 30 = .ok (.iinc 2 1, 3) := by decide +kernel
theorem dX7_chooseSheets_33 : decode cX7_chooseSheets 33 = .ok (.goto (-26), 3) := by decide +kernel
theorem dX7_chooseSheets_36 : decode cX7_chooseSheets 36 = .ok (.return_, 1) := by decide +kernel
theorem dX7_paint_0 : decode cX7_paint 0 = .ok (.iload_n 2, 1) := by decide +kernel
theorem dX7_paint_1 : decode cX7_paint 1 = .ok (.aload_n 1, 1) := by decide +kernel
theorem dX7_paint_2 : decode cX7_paint 2 = .ok (.getfield 33, 3) := by decide +kernel
theorem dX7_paint_5 : decode cX7_paint 5 = .ok (.iconst 0, 1) := by decide +kernel
theorem dX7_paint_6 : decode cX7_paint 6 = .ok (.iaload, 1) := by decide +kernel
theorem dX7_paint_7 : decode cX7_paint 7 = .ok (.if_icmp .lt 5, 3) := by decide +kernel
theorem dX7_paint_10 : decode cX7_paint 10 = .ok (.iconst 1, 1) := by decide +kernel
theorem dX7_paint_11 : decode cX7_paint 11 = .ok (.ireturn, 1) := by decide +kernel
theorem dX7_paint_12 : decode cX7_paint 12 = .ok (.iconst 1, 1) := by decide +kernel
theorem dX7_paint_13 : decode cX7_paint 13 = .ok (.istore 5, 2) := by decide +kernel
theorem dX7_paint_15 : decode cX7_paint 15 = .ok (.iload 5, 2) := by decide +kernel
theorem dX7_paint_17 : decode cX7_paint 17 = .ok (.iload 4, 2) := by decide +kernel
theorem dX7_paint_19 : decode cX7_paint 19 = .ok (.if_icmp .gt 57, 3) := by decide +kernel
theorem dX7_paint_22 : decode cX7_paint 22 = .ok (.iload 5, 2) := by decide +kernel
theorem dX7_paint_24 : decode cX7_paint 24 = .ok (.iload_n 3, 1) := by decide +kernel
theorem dX7_paint_25 : decode cX7_paint 25 = .ok (.iconst 1, 1) := by decide +kernel
theorem dX7_paint_26 : decode cX7_paint 26 = .ok (.iadd, 1) := by decide +kernel
theorem dX7_paint_27 : decode cX7_paint 27 = .ok (.if_icmp .gt 49, 3) := by decide +kernel
theorem dX7_paint_30 : decode cX7_paint 30 = .ok (.aload_n 0, 1) := by decide +kernel
theorem dX7_paint_31 : decode cX7_paint 31 = .ok (.getfield 9, 3) := by decide +kernel
theorem dX7_paint_34 : decode cX7_paint 34 = .ok (.iload_n 2, 1) := by decide +kernel
theorem dX7_paint_35 : decode cX7_paint 35 = .ok (.iload 5, 2) := by decide +kernel
theorem dX7_paint_37 : decode cX7_paint 37 = .ok (.iastore, 1) := by decide +kernel
theorem dX7_paint_38 : decode cX7_paint 38 = .ok (.aload_n 0, 1) := by decide +kernel
theorem dX7_paint_39 : decode cX7_paint 39 = .ok (.aload_n 1, 1) := by decide +kernel
theorem dX7_paint_40 : decode cX7_paint 40 = .ok (.iload_n 2, 1) := by decide +kernel
theorem dX7_paint_41 : decode cX7_paint 41 = .ok (.iload 5, 2) := by decide +kernel
theorem dX7_paint_43 : decode cX7_paint 43 = .ok (.invokevirtual 38, 3) := by decide +kernel
theorem dX7_paint_46 : decode cX7_paint 46 = .ok (.ifCond .eq 24, 3) := by decide +kernel
theorem dX7_paint_49 : decode cX7_paint 49 = .ok (.aload_n 0, 1) := by decide +kernel
theorem dX7_paint_50 : decode cX7_paint 50 = .ok (.aload_n 1, 1) := by decide +kernel
theorem dX7_paint_51 : decode cX7_paint 51 = .ok (.iload_n 2, 1) := by decide +kernel
theorem dX7_paint_52 : decode cX7_paint 52 = .ok (.iconst 1, 1) := by decide +kernel
theorem dX7_paint_53 : decode cX7_paint 53 = .ok (.iadd, 1) := by decide +kernel
theorem dX7_paint_54 : decode cX7_paint 54 = .ok (.iload_n 3, 1) := by decide +kernel
theorem dX7_paint_55 : decode cX7_paint 55 = .ok (.iload 5, 2) := by decide +kernel
theorem dX7_paint_57 : decode cX7_paint 57 = .ok (.invokestatic 42, 3) := by decide +kernel
theorem dX7_paint_60 : decode cX7_paint 60 = .ok (.iload 4, 2) := by decide +kernel
theorem dX7_paint_62 : decode cX7_paint 62 = .ok (.invokevirtual 29, 3) := by decide +kernel
theorem dX7_paint_65 : decode cX7_paint 65 = .ok (.ifCond .eq 5, 3) := by decide +kernel
theorem dX7_paint_68 : decode cX7_paint 68 = .ok (.iconst 1, 1) := by decide +kernel
theorem dX7_paint_69 : decode cX7_paint 69 = .ok (.ireturn, 1) := by decide +kernel
theorem dX7_paint_70 : decode cX7_paint 70 = .ok (.iinc 5 1, 3) := by decide +kernel
theorem dX7_paint_73 : decode cX7_paint 73 = .ok (.goto (-58), 3) := by decide +kernel
theorem dX7_paint_76 : decode cX7_paint 76 = .ok (.iconst 0, 1) := by decide +kernel
theorem dX7_paint_77 : decode cX7_paint 77 = .ok (.ireturn, 1) := by decide +kernel
theorem dX7_isFree_0 : decode cX7_isFree 0 = .ok (.iconst 0, 1) := by decide +kernel
theorem dX7_isFree_1 : decode cX7_isFree 1 = .ok (.istore 4, 2) := by decide +kernel
theorem dX7_isFree_3 : decode cX7_isFree 3 = .ok (.iload 4, 2) := by decide +kernel
theorem dX7_isFree_5 : decode cX7_isFree 5 = .ok (.iload_n 2, 1) := by decide +kernel
theorem dX7_isFree_6 : decode cX7_isFree 6 = .ok (.if_icmp .ge 32, 3) := by decide +kernel
theorem dX7_isFree_9 : decode cX7_isFree 9 = .ok (.aload_n 1, 1) := by decide +kernel
theorem dX7_isFree_10 : decode cX7_isFree 10 = .ok (.iload_n 2, 1) := by decide +kernel
theorem dX7_isFree_11 : decode cX7_isFree 11 = .ok (.iload 4, 2) := by decide +kernel
theorem dX7_isFree_13 : decode cX7_isFree 13 = .ok (.invokevirtual 48, 3) := by decide +kernel
theorem dX7_isFree_16 : decode cX7_isFree 16 = .ok (.ifCond .eq 16, 3) := by decide +kernel
theorem dX7_isFree_19 : decode cX7_isFree 19 = .ok (.aload_n 0, 1) := by decide +kernel
theorem dX7_isFree_20 : decode cX7_isFree 20 = .ok (.getfield 9, 3) := by decide +kernel
theorem dX7_isFree_23 : decode cX7_isFree 23 = .ok (.iload 4, 2) := by decide +kernel
theorem dX7_isFree_25 : decode cX7_isFree 25 = .ok (.iaload, 1) := by decide +kernel
theorem dX7_isFree_26 : decode cX7_isFree 26 = .ok (.iload_n 3, 1) := by decide +kernel
theorem dX7_isFree_27 : decode cX7_isFree 27 = .ok (.if_icmp .ne 5, 3) := by decide +kernel
theorem dX7_isFree_30 : decode cX7_isFree 30 = .ok (.iconst 0, 1) := by decide +kernel
theorem dX7_isFree_31 : decode cX7_isFree 31 = .ok (.ireturn, 1) := by decide +kernel
theorem dX7_isFree_32 : decode cX7_isFree 32 = .ok (.iinc 4 1, 3) := by decide +kernel
theorem dX7_isFree_35 : decode cX7_isFree 35 = .ok (.goto (-32), 3) := by decide +kernel
theorem dX7_isFree_38 : decode cX7_isFree 38 = .ok (.iconst 1, 1) := by decide +kernel
theorem dX7_isFree_39 : decode cX7_isFree 39 = .ok (.ireturn, 1) := by decide +kernel
theorem dX7_chooseGroups_0 : decode cX7_chooseGroups 0 = .ok (.aload_n 1, 1) := by decide +kernel
theorem dX7_chooseGroups_1 : decode cX7_chooseGroups 1 = .ok (.getfield 33, 3) := by decide +kernel
theorem dX7_chooseGroups_4 : decode cX7_chooseGroups 4 = .ok (.iconst 0, 1) := by decide +kernel
theorem dX7_chooseGroups_5 : decode cX7_chooseGroups 5 = .ok (.iaload, 1) := by decide +kernel
theorem dX7_chooseGroups_6 : decode cX7_chooseGroups 6 = .ok (.istore_n 2, 1) := by decide +kernel
theorem dX7_chooseGroups_7 : decode cX7_chooseGroups 7 = .ok (.aload_n 0, 1) := by decide +kernel
theorem dX7_chooseGroups_8 : decode cX7_chooseGroups 8 = .ok (.getfield 21, 3) := by decide +kernel
theorem dX7_chooseGroups_11 : decode cX7_chooseGroups 11 = .ok (.iload_n 2, 1) := by decide +kernel
theorem dX7_chooseGroups_12 : decode cX7_chooseGroups 12 = .ok (.lconst 1, 1) := by decide +kernel
theorem dX7_chooseGroups_13 : decode cX7_chooseGroups 13 = .ok (.lastore, 1) := by decide +kernel
theorem dX7_chooseGroups_14 : decode cX7_chooseGroups 14 = .ok (.iload_n 2, 1) := by decide +kernel
theorem dX7_chooseGroups_15 : decode cX7_chooseGroups 15 = .ok (.iconst 1, 1) := by decide +kernel
theorem dX7_chooseGroups_16 : decode cX7_chooseGroups 16 = .ok (.isub, 1) := by decide +kernel
theorem dX7_chooseGroups_17 : decode cX7_chooseGroups 17 = .ok (.istore_n 3, 1) := by decide +kernel
theorem dX7_chooseGroups_18 : decode cX7_chooseGroups 18 = .ok (.iload_n 3, 1) := by decide +kernel
theorem dX7_chooseGroups_19 : decode cX7_chooseGroups 19 = .ok (.ifCond .lt 30, 3) := by decide +kernel
theorem dX7_chooseGroups_22 : decode cX7_chooseGroups 22 = .ok (.aload_n 0, 1) := by decide +kernel
theorem dX7_chooseGroups_23 : decode cX7_chooseGroups 23 = .ok (.getfield 21, 3) := by decide +kernel
theorem dX7_chooseGroups_26 : decode cX7_chooseGroups 26 = .ok (.iload_n 3, 1) := by decide +kernel
theorem dX7_chooseGroups_27 : decode cX7_chooseGroups 27 = .ok (.aload_n 0, 1) := by decide +kernel
theorem dX7_chooseGroups_28 : decode cX7_chooseGroups 28 = .ok (.getfield 21, 3) := by decide +kernel
theorem dX7_chooseGroups_31 : decode cX7_chooseGroups 31 = .ok (.iload_n 3, 1) := by decide +kernel
theorem dX7_chooseGroups_32 : decode cX7_chooseGroups 32 = .ok (.iconst 1, 1) := by decide +kernel
theorem dX7_chooseGroups_33 : decode cX7_chooseGroups 33 = .ok (.iadd, 1) := by decide +kernel
theorem dX7_chooseGroups_34 : decode cX7_chooseGroups 34 = .ok (.laload, 1) := by decide +kernel
theorem dX7_chooseGroups_35 : decode cX7_chooseGroups 35 = .ok (.aload_n 0, 1) := by decide +kernel
theorem dX7_chooseGroups_36 : decode cX7_chooseGroups 36 = .ok (.aload_n 1, 1) := by decide +kernel
theorem dX7_chooseGroups_37 : decode cX7_chooseGroups 37 = .ok (.iload_n 3, 1) := by decide +kernel
theorem dX7_chooseGroups_38 : decode cX7_chooseGroups 38 = .ok (.invokevirtual 52, 3) := by decide +kernel
theorem dX7_chooseGroups_41 : decode cX7_chooseGroups 41 = .ok (.lmul, 1) := by decide +kernel
theorem dX7_chooseGroups_42 : decode cX7_chooseGroups 42 = .ok (.lastore, 1) := by decide +kernel
theorem dX7_chooseGroups_43 : decode cX7_chooseGroups 43 = .ok (.iinc 3 (-1), 3) := by decide +kernel
theorem dX7_chooseGroups_46 : decode cX7_chooseGroups 46 = .ok (.goto (-28), 3) := by decide +kernel
theorem dX7_chooseGroups_49 : decode cX7_chooseGroups 49 = .ok (.aload_n 0, 1) := by decide +kernel
theorem dX7_chooseGroups_50 : decode cX7_chooseGroups 50 = .ok (.ldc2_w 56, 3) := by decide +kernel
theorem dX7_chooseGroups_53 : decode cX7_chooseGroups 53 = .ok (.putfield 58, 3) := by decide +kernel
theorem dX7_chooseGroups_56 : decode cX7_chooseGroups 56 = .ok (.aload_n 0, 1) := by decide +kernel
theorem dX7_chooseGroups_57 : decode cX7_chooseGroups 57 = .ok (.iconst 0, 1) := by decide +kernel
theorem dX7_chooseGroups_58 : decode cX7_chooseGroups 58 = .ok (.putfield 62, 3) := by decide +kernel
theorem dX7_chooseGroups_61 : decode cX7_chooseGroups 61 = .ok (.aload_n 0, 1) := by decide +kernel
theorem dX7_chooseGroups_62 : decode cX7_chooseGroups 62 = .ok (.aload_n 1, 1) := by decide +kernel
theorem dX7_chooseGroups_63 : decode cX7_chooseGroups 63 = .ok (.iconst 0, 1) := by decide +kernel
theorem dX7_chooseGroups_64 : decode cX7_chooseGroups 64 = .ok (.iconst 0, 1) := by decide +kernel
theorem dX7_chooseGroups_65 : decode cX7_chooseGroups 65 = .ok (.lconst 1, 1) := by decide +kernel
theorem dX7_chooseGroups_66 : decode cX7_chooseGroups 66 = .ok (.invokevirtual 65, 3) := by decide +kernel
theorem dX7_chooseGroups_69 : decode cX7_chooseGroups 69 = .ok (.return_, 1) := by decide +kernel
theorem dX7_bestOdds_0 : decode cX7_bestOdds 0 = .ok (.lconst 1, 1) := by decide +kernel
theorem dX7_bestOdds_1 : decode cX7_bestOdds 1 = .ok (.lstore_n 3, 1) := by decide +kernel
theorem dX7_bestOdds_2 : decode cX7_bestOdds 2 = .ok (.iconst 0, 1) := by decide +kernel
theorem dX7_bestOdds_3 : decode cX7_bestOdds 3 = .ok (.istore 5, 2) := by decide +kernel
theorem dX7_bestOdds_5 : decode cX7_bestOdds 5 = .ok (.iload 5, 2) := by decide +kernel
theorem dX7_bestOdds_7 : decode cX7_bestOdds 7 = .ok (.iload_n 2, 1) := by decide +kernel
theorem dX7_bestOdds_8 : decode cX7_bestOdds 8 = .ok (.if_icmp .ge 44, 3) := by decide +kernel
theorem dX7_bestOdds_11 : decode cX7_bestOdds 11 = .ok (.aload_n 1, 1) := by decide +kernel
theorem dX7_bestOdds_12 : decode cX7_bestOdds 12 = .ok (.getfield 69, 3) := by decide +kernel
theorem dX7_bestOdds_15 : decode cX7_bestOdds 15 = .ok (.iload_n 2, 1) := by decide +kernel
theorem dX7_bestOdds_16 : decode cX7_bestOdds 16 = .ok (.aaload, 1) := by decide +kernel
theorem dX7_bestOdds_17 : decode cX7_bestOdds 17 = .ok (.iload 5, 2) := by decide +kernel
theorem dX7_bestOdds_19 : decode cX7_bestOdds 19 = .ok (.iaload, 1) := by decide +kernel
theorem dX7_bestOdds_20 : decode cX7_bestOdds 20 = .ok (.istore 6, 2) := by decide +kernel
theorem dX7_bestOdds_22 : decode cX7_bestOdds 22 = .ok (.lload_n 3, 1) := by decide +kernel
theorem dX7_bestOdds_23 : decode cX7_bestOdds 23 = .ok (.iload 6, 2) := by decide +kernel
theorem dX7_bestOdds_25 : decode cX7_bestOdds 25 = .ok (.iconst (-1), 1) := by decide +kernel
theorem dX7_bestOdds_26 : decode cX7_bestOdds 26 = .ok (.if_icmp .ne 7, 3) := by decide +kernel
theorem dX7_bestOdds_29 : decode cX7_bestOdds 29 = .ok (.lconst 1, 1) := by decide +kernel
theorem dX7_bestOdds_30 : decode cX7_bestOdds 30 = .ok (.goto 14, 3) := by decide +kernel
theorem dX7_bestOdds_33 : decode cX7_bestOdds 33 = .ok (.iload 6, 2) := by decide +kernel
theorem dX7_bestOdds_35 : decode cX7_bestOdds 35 = .ok (.bipush 10, 2) := by decide +kernel
theorem dX7_bestOdds_37 : decode cX7_bestOdds 37 = .ok (.iload 6, 2) := by decide +kernel
theorem dX7_bestOdds_39 : decode cX7_bestOdds 39 = .ok (.isub, 1) := by decide +kernel
theorem dX7_bestOdds_40 : decode cX7_bestOdds 40 = .ok (.invokestatic 42, 3) := by decide +kernel
theorem dX7_bestOdds_43 : decode cX7_bestOdds 43 = .ok (.i2l, 1) := by decide +kernel
theorem dX7_bestOdds_44 : decode cX7_bestOdds 44 = .ok (.lmul, 1) := by decide +kernel
theorem dX7_bestOdds_45 : decode cX7_bestOdds 45 = .ok (.lstore_n 3, 1) := by decide +kernel
theorem dX7_bestOdds_46 : decode cX7_bestOdds 46 = .ok (.iinc 5 1, 3) := by decide +kernel
theorem dX7_bestOdds_49 : decode cX7_bestOdds 49 = .ok (.goto (-44), 3) := by decide +kernel
theorem dX7_bestOdds_52 : decode cX7_bestOdds 52 = .ok (.lload_n 3, 1) := by decide +kernel
theorem dX7_bestOdds_53 : decode cX7_bestOdds 53 = .ok (.lreturn, 1) := by decide +kernel
theorem dX7_place_0 : decode cX7_place 0 = .ok (.lload 4, 2) := by decide +kernel
theorem dX7_place_2 : decode cX7_place 2 = .ok (.aload_n 0, 1) := by decide +kernel
theorem dX7_place_3 : decode cX7_place 3 = .ok (.getfield 21, 3) := by decide +kernel
theorem dX7_place_6 : decode cX7_place 6 = .ok (.iload_n 2, 1) := by decide +kernel
theorem dX7_place_7 : decode cX7_place 7 = .ok (.laload, 1) := by decide +kernel
theorem dX7_place_8 : decode cX7_place 8 = .ok (.lmul, 1) := by decide +kernel
theorem dX7_place_9 : decode cX7_place 9 = .ok (.aload_n 0, 1) := by decide +kernel
theorem dX7_place_10 : decode cX7_place 10 = .ok (.getfield 58, 3) := by decide +kernel
theorem dX7_place_13 : decode cX7_place 13 = .ok (.lcmp, 1) := by decide +kernel
theorem dX7_place_14 : decode cX7_place 14 = .ok (.ifCond .gt 4, 3) := by decide +kernel
theorem dX7_place_17 : decode cX7_place 17 = .ok (.return_, 1) := by decide +kernel
theorem dX7_place_18 : decode cX7_place 18 = .ok (.iload_n 2, 1) := by decide +kernel
theorem dX7_place_19 : decode cX7_place 19 = .ok (.aload_n 1, 1) := by decide +kernel
theorem dX7_place_20 : decode cX7_place 20 = .ok (.getfield 33, 3) := by decide +kernel
theorem dX7_place_23 : decode cX7_place 23 = .ok (.iconst 0, 1) := by decide +kernel
theorem dX7_place_24 : decode cX7_place 24 = .ok (.iaload, 1) := by decide +kernel
theorem dX7_place_25 : decode cX7_place 25 = .ok (.if_icmp .lt 29, 3) := by decide +kernel
theorem dX7_place_28 : decode cX7_place 28 = .ok (.aload_n 0, 1) := by decide +kernel
theorem dX7_place_29 : decode cX7_place 29 = .ok (.lload 4, 2) := by decide +kernel
theorem dX7_place_31 : decode cX7_place 31 = .ok (.putfield 58, 3) := by decide +kernel
theorem dX7_place_34 : decode cX7_place 34 = .ok (.aload_n 0, 1) := by decide +kernel
theorem dX7_place_35 : decode cX7_place 35 = .ok (.iload_n 3, 1) := by decide +kernel
theorem dX7_place_36 : decode cX7_place 36 = .ok (.putfield 62, 3) := by decide +kernel
theorem dX7_place_39 : decode cX7_place 39 = .ok (.aload_n 0, 1) := by decide +kernel
theorem dX7_place_40 : decode cX7_place 40 = .ok (.getfield 18, 3) := by decide +kernel
theorem dX7_place_43 : decode cX7_place 43 = .ok (.iconst 0, 1) := by decide +kernel
theorem dX7_place_44 : decode cX7_place 44 = .ok (.aload_n 0, 1) := by decide +kernel
theorem dX7_place_45 : decode cX7_place 45 = .ok (.getfield 15, 3) := by decide +kernel
theorem dX7_place_48 : decode cX7_place 48 = .ok (.iconst 0, 1) := by decide +kernel
theorem dX7_place_49 : decode cX7_place 49 = .ok (.iload_n 2, 1) := by decide +kernel
theorem dX7_place_50 : decode cX7_place 50 = .ok (.invokestatic 73, 3) := by decide +kernel
theorem dX7_place_53 : decode cX7_place 53 = .ok (.return_, 1) := by decide +kernel
theorem dX7_place_54 : decode cX7_place 54 = .ok (.iconst 0, 1) := by decide +kernel
theorem dX7_place_55 : decode cX7_place 55 = .ok (.istore 6, 2) := by decide +kernel
theorem dX7_place_57 : decode cX7_place 57 = .ok (.iload 6, 2) := by decide +kernel
theorem dX7_place_59 : decode cX7_place 59 = .ok (.iload_n 3, 1) := by decide +kernel
theorem dX7_place_60 : decode cX7_place 60 = .ok (.if_icmp .gt 42, 3) := by decide +kernel
theorem dX7_place_63 : decode cX7_place 63 = .ok (.aload_n 0, 1) := by decide +kernel
theorem dX7_place_64 : decode cX7_place 64 = .ok (.getfield 18, 3) := by decide +kernel
theorem dX7_place_67 : decode cX7_place 67 = .ok (.iload_n 2, 1) := by decide +kernel
theorem dX7_place_68 : decode cX7_place 68 = .ok (.iload 6, 2) := by decide +kernel
theorem dX7_place_70 : decode cX7_place 70 = .ok (.iastore, 1) := by decide +kernel
theorem dX7_place_71 : decode cX7_place 71 = .ok (.aload_n 0, 1) := by decide +kernel
theorem dX7_place_72 : decode cX7_place 72 = .ok (.aload_n 1, 1) := by decide +kernel
theorem dX7_place_73 : decode cX7_place 73 = .ok (.iload_n 2, 1) := by decide +kernel
theorem dX7_place_74 : decode cX7_place 74 = .ok (.iconst 1, 1) := by decide +kernel
theorem dX7_place_75 : decode cX7_place 75 = .ok (.iadd, 1) := by decide +kernel
theorem dX7_place_76 : decode cX7_place 76 = .ok (.iload_n 3, 1) := by decide +kernel
theorem dX7_place_77 : decode cX7_place 77 = .ok (.iload 6, 2) := by decide +kernel
theorem dX7_place_79 : decode cX7_place 79 = .ok (.iconst 1, 1) := by decide +kernel
theorem dX7_place_80 : decode cX7_place 80 = .ok (.iadd, 1) := by decide +kernel
theorem dX7_place_81 : decode cX7_place 81 = .ok (.invokestatic 42, 3) := by decide +kernel
theorem dX7_place_84 : decode cX7_place 84 = .ok (.lload 4, 2) := by decide +kernel
theorem dX7_place_86 : decode cX7_place 86 = .ok (.aload_n 0, 1) := by decide +kernel
theorem dX7_place_87 : decode cX7_place 87 = .ok (.aload_n 1, 1) := by decide +kernel
theorem dX7_place_88 : decode cX7_place 88 = .ok (.iload_n 2, 1) := by decide +kernel
theorem dX7_place_89 : decode cX7_place 89 = .ok (.invokevirtual 79, 3) := by decide +kernel
theorem dX7_place_92 : decode cX7_place 92 = .ok (.lmul, 1) := by decide +kernel
theorem dX7_place_93 : decode cX7_place 93 = .ok (.invokevirtual 65, 3) := by decide +kernel
theorem dX7_place_96 : decode cX7_place 96 = .ok (.iinc 6 1, 3) := by decide +kernel
theorem dX7_place_99 : decode cX7_place 99 = .ok (.goto (-42), 3) := by decide +kernel
theorem dX7_place_102 : decode cX7_place 102 = .ok (.return_, 1) := by decide +kernel
theorem dX7_oddsOf_0 : decode cX7_oddsOf 0 = .ok (.lconst 1, 1) := by decide +kernel
theorem dX7_oddsOf_1 : decode cX7_oddsOf 1 = .ok (.lstore_n 3, 1) := by decide +kernel
theorem dX7_oddsOf_2 : decode cX7_oddsOf 2 = .ok (.iconst 0, 1) := by decide +kernel
theorem dX7_oddsOf_3 : decode cX7_oddsOf 3 = .ok (.istore 5, 2) := by decide +kernel
theorem dX7_oddsOf_5 : decode cX7_oddsOf 5 = .ok (.iload 5, 2) := by decide +kernel
theorem dX7_oddsOf_7 : decode cX7_oddsOf 7 = .ok (.iload_n 2, 1) := by decide +kernel
theorem dX7_oddsOf_8 : decode cX7_oddsOf 8 = .ok (.if_icmp .ge 57, 3) := by decide +kernel
theorem dX7_oddsOf_11 : decode cX7_oddsOf 11 = .ok (.aload_n 1, 1) := by decide +kernel
theorem dX7_oddsOf_12 : decode cX7_oddsOf 12 = .ok (.getfield 69, 3) := by decide +kernel
theorem dX7_oddsOf_15 : decode cX7_oddsOf 15 = .ok (.iload_n 2, 1) := by decide +kernel
theorem dX7_oddsOf_16 : decode cX7_oddsOf 16 = .ok (.aaload, 1) := by decide +kernel
theorem dX7_oddsOf_17 : decode cX7_oddsOf 17 = .ok (.iload 5, 2) := by decide +kernel
theorem dX7_oddsOf_19 : decode cX7_oddsOf 19 = .ok (.iaload, 1) := by decide +kernel
theorem dX7_oddsOf_20 : decode cX7_oddsOf 20 = .ok (.istore 6, 2) := by decide +kernel
theorem dX7_oddsOf_22 : decode cX7_oddsOf 22 = .ok (.iload 6, 2) := by decide +kernel
theorem dX7_oddsOf_24 : decode cX7_oddsOf 24 = .ok (.iconst (-1), 1) := by decide +kernel
theorem dX7_oddsOf_25 : decode cX7_oddsOf 25 = .ok (.if_icmp .eq 34, 3) := by decide +kernel
theorem dX7_oddsOf_28 : decode cX7_oddsOf 28 = .ok (.lload_n 3, 1) := by decide +kernel
theorem dX7_oddsOf_29 : decode cX7_oddsOf 29 = .ok (.aload_n 0, 1) := by decide +kernel
theorem dX7_oddsOf_30 : decode cX7_oddsOf 30 = .ok (.getfield 18, 3) := by decide +kernel
theorem dX7_oddsOf_33 : decode cX7_oddsOf 33 = .ok (.iload_n 2, 1) := by decide +kernel
theorem dX7_oddsOf_34 : decode cX7_oddsOf 34 = .ok (.iaload, 1) := by decide +kernel
theorem dX7_oddsOf_35 : decode cX7_oddsOf 35 = .ok (.aload_n 0, 1) := by decide +kernel
theorem dX7_oddsOf_36 : decode cX7_oddsOf 36 = .ok (.getfield 18, 3) := by decide +kernel
theorem dX7_oddsOf_39 : decode cX7_oddsOf 39 = .ok (.iload 5, 2) := by decide +kernel
theorem dX7_oddsOf_41 : decode cX7_oddsOf 41 = .ok (.iaload, 1) := by decide +kernel
theorem dX7_oddsOf_42 : decode cX7_oddsOf 42 = .ok (.if_icmp .ne 9, 3) := by decide +kernel
theorem dX7_oddsOf_45 : decode cX7_oddsOf 45 = .ok (.iload 6, 2) := by decide +kernel
theorem dX7_oddsOf_47 : decode cX7_oddsOf 47 = .ok (.i2l, 1) := by decide +kernel
theorem dX7_oddsOf_48 : decode cX7_oddsOf 48 = .ok (.goto 9, 3) := by decide +kernel
theorem dX7_oddsOf_51 : decode cX7_oddsOf 51 = .ok (.bipush 10, 2) := by decide +kernel
theorem dX7_oddsOf_53 : decode cX7_oddsOf 53 = .ok (.iload 6, 2) := by decide +kernel
theorem dX7_oddsOf_55 : decode cX7_oddsOf 55 = .ok (.isub, 1) := by decide +kernel
theorem dX7_oddsOf_56 : decode cX7_oddsOf 56 = .ok (.i2l, 1) := by decide +kernel
theorem dX7_oddsOf_57 : decode cX7_oddsOf 57 = .ok (.lmul, 1) := by decide +kernel
theorem dX7_oddsOf_58 : decode cX7_oddsOf 58 = .ok (.lstore_n 3, 1) := by decide +kernel
theorem dX7_oddsOf_59 : decode cX7_oddsOf 59 = .ok (.iinc 5 1, 3) := by decide +kernel
theorem dX7_oddsOf_62 : decode cX7_oddsOf 62 = .ok (.goto (-57), 3) := by decide +kernel
theorem dX7_oddsOf_65 : decode cX7_oddsOf 65 = .ok (.lload_n 3, 1) := by decide +kernel
theorem dX7_oddsOf_66 : decode cX7_oddsOf 66 = .ok (.lreturn, 1) := by decide +kernel
theorem dX11_feed_0 : decode cX11_feed 0 = .ok (.aload_n 0, 1) := by decide +kernel
theorem dX11_feed_1 : decode cX11_feed 1 = .ok (.getfield 12, 3) := by decide +kernel
theorem dX11_feed_4 : decode cX11_feed 4 = .ok (.getfield 105, 3) := by decide +kernel
theorem dX11_feed_7 : decode cX11_feed 7 = .ok (.bipush 20, 2) := by decide +kernel
theorem dX11_feed_9 : decode cX11_feed 9 = .ok (.iadd, 1) := by decide +kernel
theorem dX11_feed_10 : decode cX11_feed 10 = .ok (.sipush 1600, 3) := by decide +kernel
theorem dX11_feed_13 : decode cX11_feed 13 = .ok (.if_icmp .le 9, 3) := by decide +kernel
theorem dX11_feed_16 : decode cX11_feed 16 = .ok (.aload_n 0, 1) := by decide +kernel
theorem dX11_feed_17 : decode cX11_feed 17 = .ok (.iconst 0, 1) := by decide +kernel
theorem dX11_feed_18 : decode cX11_feed 18 = .ok (.invokevirtual 108, 3) := by decide +kernel
theorem dX11_feed_21 : decode cX11_feed 21 = .ok (.ireturn, 1) := by decide +kernel
theorem dX11_feed_22 : decode cX11_feed 22 = .ok (.aload_n 0, 1) := by decide +kernel
theorem dX11_feed_23 : decode cX11_feed 23 = .ok (.getfield 12, 3) := by decide +kernel
theorem dX11_feed_26 : decode cX11_feed 26 = .ok (.iload_n 1, 1) := by decide +kernel
theorem dX11_feed_27 : decode cX11_feed 27 = .ok (.invokevirtual 112, 3) := by decide +kernel
theorem dX11_feed_30 : decode cX11_feed 30 = .ok (.aload_n 0, 1) := by decide +kernel
theorem dX11_feed_31 : decode cX11_feed 31 = .ok (.getfield 12, 3) := by decide +kernel
theorem dX11_feed_34 : decode cX11_feed 34 = .ok (.iload_n 2, 1) := by decide +kernel
theorem dX11_feed_35 : decode cX11_feed 35 = .ok (.invokevirtual 112, 3) := by decide +kernel
theorem dX11_feed_38 : decode cX11_feed 38 = .ok (.aload_n 0, 1) := by decide +kernel
theorem dX11_feed_39 : decode cX11_feed 39 = .ok (.getfield 12, 3) := by decide +kernel
theorem dX11_feed_42 : decode cX11_feed 42 = .ok (.iload_n 3, 1) := by decide +kernel
theorem dX11_feed_43 : decode cX11_feed 43 = .ok (.invokevirtual 112, 3) := by decide +kernel
theorem dX11_feed_46 : decode cX11_feed 46 = .ok (.aload_n 0, 1) := by decide +kernel
theorem dX11_feed_47 : decode cX11_feed 47 = .ok (.getfield 12, 3) := by decide +kernel
theorem dX11_feed_50 : decode cX11_feed 50 = .ok (.iload 4, 2) := by decide +kernel
theorem dX11_feed_52 : decode cX11_feed 52 = .ok (.invokevirtual 112, 3) := by decide +kernel
theorem dX11_feed_55 : decode cX11_feed 55 = .ok (.aload_n 0, 1) := by decide +kernel
theorem dX11_feed_56 : decode cX11_feed 56 = .ok (.getfield 12, 3) := by decide +kernel
theorem dX11_feed_59 : decode cX11_feed 59 = .ok (.iload 5, 2) := by decide +kernel
theorem dX11_feed_61 : decode cX11_feed 61 = .ok (.invokevirtual 112, 3) := by decide +kernel
theorem dX11_feed_64 : decode cX11_feed 64 = .ok (.aload_n 0, 1) := by decide +kernel
theorem dX11_feed_65 : decode cX11_feed 65 = .ok (.getfield 12, 3) := by decide +kernel
theorem dX11_feed_68 : decode cX11_feed 68 = .ok (.getfield 105, 3) := by decide +kernel
theorem dX11_feed_71 : decode cX11_feed 71 = .ok (.ireturn, 1) := by decide +kernel
theorem dX11_end_0 : decode cX11_end 0 = .ok (.iload_n 1, 1) := by decide +kernel
theorem dX11_end_1 : decode cX11_end 1 = .ok (.ifCond .lt 14, 3) := by decide +kernel
theorem dX11_end_4 : decode cX11_end 4 = .ok (.iload_n 1, 1) := by decide +kernel
theorem dX11_end_5 : decode cX11_end 5 = .ok (.aload_n 0, 1) := by decide +kernel
theorem dX11_end_6 : decode cX11_end 6 = .ok (.getfield 12, 3) := by decide +kernel
theorem dX11_end_9 : decode cX11_end 9 = .ok (.getfield 105, 3) := by decide +kernel
theorem dX11_end_12 : decode cX11_end 12 = .ok (.if_icmp .le 9, 3) := by decide +kernel
theorem dX11_end_15 : decode cX11_end 15 = .ok (.aload_n 0, 1) := by decide +kernel
theorem dX11_end_16 : decode cX11_end 16 = .ok (.iconst 0, 1) := by decide +kernel
theorem dX11_end_17 : decode cX11_end 17 = .ok (.invokevirtual 116, 3) := by decide +kernel
theorem dX11_end_20 : decode cX11_end 20 = .ok (.ireturn, 1) := by decide +kernel
theorem dX11_end_21 : decode cX11_end 21 = .ok (.aload_n 0, 1) := by decide +kernel
theorem dX11_end_22 : decode cX11_end 22 = .ok (.getfield 12, 3) := by decide +kernel
theorem dX11_end_25 : decode cX11_end 25 = .ok (.iload_n 1, 1) := by decide +kernel
theorem dX11_end_26 : decode cX11_end 26 = .ok (.putfield 105, 3) := by decide +kernel
theorem dX11_end_29 : decode cX11_end 29 = .ok (.iconst 1, 1) := by decide +kernel
theorem dX11_end_30 : decode cX11_end 30 = .ok (.ireturn, 1) := by decide +kernel
theorem dX11_heap_0 : decode cX11_heap 0 = .ok (.aload_n 0, 1) := by decide +kernel
theorem dX11_heap_1 : decode cX11_heap 1 = .ok (.getfield 94, 3) := by decide +kernel
theorem dX11_heap_4 : decode cX11_heap 4 = .ok (.invokevirtual 120, 3) := by decide +kernel
theorem dX11_heap_7 : decode cX11_heap 7 = .ok (.istore_n 1, 1) := by decide +kernel
theorem dX11_heap_8 : decode cX11_heap 8 = .ok (.aload_n 0, 1) := by decide +kernel
theorem dX11_heap_9 : decode cX11_heap 9 = .ok (.getfield 12, 3) := by decide +kernel
theorem dX11_heap_12 : decode cX11_heap 12 = .ok (.iconst 0, 1) := by decide +kernel
theorem dX11_heap_13 : decode cX11_heap 13 = .ok (.putfield 105, 3) := by decide +kernel
theorem dX11_heap_16 : decode cX11_heap 16 = .ok (.iload_n 1, 1) := by decide +kernel
theorem dX11_heap_17 : decode cX11_heap 17 = .ok (.ifCond .ne 9, 3) := by decide +kernel
theorem dX11_heap_20 : decode cX11_heap 20 = .ok (.aload_n 0, 1) := by decide +kernel
theorem dX11_heap_21 : decode cX11_heap 21 = .ok (.iconst 1, 1) := by decide +kernel
theorem dX11_heap_22 : decode cX11_heap 22 = .ok (.invokevirtual 108, 3) := by decide +kernel
theorem dX11_heap_25 : decode cX11_heap 25 = .ok (.ireturn, 1) := by decide +kernel
theorem dX11_heap_26 : decode cX11_heap 26 = .ok (.aload_n 0, 1) := by decide +kernel
theorem dX11_heap_27 : decode cX11_heap 27 = .ok (.getfield 76, 3) := by decide +kernel
theorem dX11_heap_30 : decode cX11_heap 30 = .ok (.astore_n 2, 1) := by decide +kernel
theorem dX11_heap_31 : decode cX11_heap 31 = .ok (.aload_n 0, 1) := by decide +kernel
theorem dX11_heap_32 : decode cX11_heap 32 = .ok (.aload_n 0, 1) := by decide +kernel
theorem dX11_heap_33 : decode cX11_heap 33 = .ok (.getfield 94, 3) := by decide +kernel
theorem dX11_heap_36 : decode cX11_heap 36 = .ok (.getfield 124, 3) := by decide +kernel
theorem dX11_heap_39 : decode cX11_heap 39 = .ok (.putfield 76, 3) := by decide +kernel
theorem dX11_heap_42 : decode cX11_heap 42 = .ok (.aload_n 0, 1) := by decide +kernel
theorem dX11_heap_43 : decode cX11_heap 43 = .ok (.getfield 94, 3) := by decide +kernel
theorem dX11_heap_46 : decode cX11_heap 46 = .ok (.aload_n 2, 1) := by decide +kernel
theorem dX11_heap_47 : decode cX11_heap 47 = .ok (.putfield 124, 3) := by decide +kernel
theorem dX11_heap_50 : decode cX11_heap 50 = .ok (.aload_n 0, 1) := by decide +kernel
theorem dX11_heap_51 : decode cX11_heap 51 = .ok (.getfield 49, 3) := by decide +kernel
theorem dX11_heap_54 : decode cX11_heap 54 = .ok (.aload_n 0, 1) := by decide +kernel
theorem dX11_heap_55 : decode cX11_heap 55 = .ok (.getfield 76, 3) := by decide +kernel
theorem dX11_heap_58 : decode cX11_heap 58 = .ok (.invokevirtual 127, 3) := by decide +kernel
theorem dX11_heap_61 : decode cX11_heap 61 = .ok (.aload_n 0, 1) := by decide +kernel
theorem dX11_heap_62 : decode cX11_heap 62 = .ok (.iconst 0, 1) := by decide +kernel
theorem dX11_heap_63 : decode cX11_heap 63 = .ok (.putfield 131, 3) := by decide +kernel
theorem dX11_heap_66 : decode cX11_heap 66 = .ok (.aload_n 0, 1) := by decide +kernel
theorem dX11_heap_67 : decode cX11_heap 67 = .ok (.iconst 0, 1) := by decide +kernel
theorem dX11_heap_68 : decode cX11_heap 68 = .ok (.putfield 134, 3) := by decide +kernel
theorem dX11_heap_71 : decode cX11_heap 71 = .ok (.aload_n 0, 1) := by decide +kernel
theorem dX11_heap_72 : decode cX11_heap 72 = .ok (.getfield 94, 3) := by decide +kernel
theorem dX11_heap_75 : decode cX11_heap 75 = .ok (.getfield 137, 3) := by decide +kernel
theorem dX11_heap_78 : decode cX11_heap 78 = .ok (.ireturn, 1) := by decide +kernel
theorem dX11_fault_0 : decode cX11_fault 0 = .ok (.iload_n 1, 1) := by decide +kernel
theorem dX11_fault_1 : decode cX11_fault 1 = .ok (.ifCond .ne 11, 3) := by decide +kernel
theorem dX11_fault_4 : decode cX11_fault 4 = .ok (.aload_n 0, 1) := by decide +kernel
theorem dX11_fault_5 : decode cX11_fault 5 = .ok (.getfield 12, 3) := by decide +kernel
theorem dX11_fault_8 : decode cX11_fault 8 = .ok (.getfield 140, 3) := by decide +kernel
theorem dX11_fault_11 : decode cX11_fault 11 = .ok (.ireturn, 1) := by decide +kernel
theorem dX11_fault_12 : decode cX11_fault 12 = .ok (.iload_n 1, 1) := by decide +kernel
theorem dX11_fault_13 : decode cX11_fault 13 = .ok (.iconst 1, 1) := by decide +kernel
theorem dX11_fault_14 : decode cX11_fault 14 = .ok (.if_icmp .ne 13, 3) := by decide +kernel
theorem dX11_fault_17 : decode cX11_fault 17 = .ok (.aload_n 0, 1) := by decide +kernel
theorem dX11_fault_18 : decode cX11_fault 18 = .ok (.getfield 12, 3) := by decide +kernel
theorem dX11_fault_21 : decode cX11_fault 21 = .ok (.getfield 143, 3) := by decide +kernel
theorem dX11_fault_24 : decode cX11_fault 24 = .ok (.goto 4, 3) := by decide +kernel
theorem dX11_fault_27 : decode cX11_fault 27 = .ok (.iconst (-1), 1) := by decide +kernel
theorem dX11_fault_28 : decode cX11_fault 28 = .ok (.ireturn, 1) := by decide +kernel
theorem dX11_has_0 : decode cX11_has 0 = .ok (.iload_n 1, 1) := by decide +kernel
theorem dX11_has_1 : decode cX11_has 1 = .ok (.tableswitch 123 0 11 #[63, 63, 63, 63, 63, 73, 81, 89, 97, 105, 113, 118], 63) := by decide +kernel
theorem dX11_has_64 : decode cX11_has 64 = .ok (.aload_n 0, 1) := by decide +kernel
theorem dX11_has_65 : decode cX11_has 65 = .ok (.getfield 76, 3) := by decide +kernel
theorem dX11_has_68 : decode cX11_has 68 = .ok (.getfield 146, 3) := by decide +kernel
theorem dX11_has_71 : decode cX11_has 71 = .ok (.iload_n 1, 1) := by decide +kernel
theorem dX11_has_72 : decode cX11_has 72 = .ok (.iaload, 1) := by decide +kernel
theorem dX11_has_73 : decode cX11_has 73 = .ok (.ireturn, 1) := by decide +kernel
theorem dX11_has_74 : decode cX11_has 74 = .ok (.aload_n 0, 1) := by decide +kernel
theorem dX11_has_75 : decode cX11_has 75 = .ok (.getfield 49, 3) := by decide +kernel
theorem dX11_has_78 : decode cX11_has 78 = .ok (.getfield 149, 3) := by decide +kernel
theorem dX11_has_81 : decode cX11_has 81 = .ok (.ireturn, 1) := by decide +kernel
theorem dX11_has_82 : decode cX11_has 82 = .ok (.aload_n 0, 1) := by decide +kernel
theorem dX11_has_83 : decode cX11_has 83 = .ok (.getfield 49, 3) := by decide +kernel
theorem dX11_has_86 : decode cX11_has 86 = .ok (.invokevirtual 152, 3) := by decide +kernel
theorem dX11_has_89 : decode cX11_has 89 = .ok (.ireturn, 1) := by decide +kernel
theorem dX11_has_90 : decode cX11_has 90 = .ok (.aload_n 0, 1) := by decide +kernel
theorem dX11_has_91 : decode cX11_has 91 = .ok (.getfield 49, 3) := by decide +kernel
theorem dX11_has_94 : decode cX11_has 94 = .ok (.invokevirtual 156, 3) := by decide +kernel
theorem dX11_has_97 : decode cX11_has 97 = .ok (.ireturn, 1) := by decide +kernel
theorem dX11_has_98 : decode cX11_has 98 = .ok (.aload_n 0, 1) := by decide +kernel
theorem dX11_has_99 : decode cX11_has 99 = .ok (.getfield 49, 3) := by decide +kernel
theorem dX11_has_102 : decode cX11_has 102 = .ok (.invokevirtual 159, 3) := by decide +kernel
theorem dX11_has_105 : decode cX11_has 105 = .ok (.ireturn, 1) := by decide +kernel
theorem dX11_has_106 : decode cX11_has 106 = .ok (.aload_n 0, 1) := by decide +kernel
theorem dX11_has_107 : decode cX11_has 107 = .ok (.getfield 49, 3) := by decide +kernel
theorem dX11_has_110 : decode cX11_has 110 = .ok (.invokevirtual 162, 3) := by decide +kernel
theorem dX11_has_113 : decode cX11_has 113 = .ok (.ireturn, 1) := by decide +kernel
theorem dX11_has_114 : decode cX11_has 114 = .ok (.aload_n 0, 1) := by decide +kernel
theorem dX11_has_115 : decode cX11_has 115 = .ok (.getfield 134, 3) := by decide +kernel
theorem dX11_has_118 : decode cX11_has 118 = .ok (.ireturn, 1) := by decide +kernel
theorem dX11_has_119 : decode cX11_has 119 = .ok (.aload_n 0, 1) := by decide +kernel
theorem dX11_has_120 : decode cX11_has 120 = .ok (.getfield 131, 3) := by decide +kernel
theorem dX11_has_123 : decode cX11_has 123 = .ok (.ireturn, 1) := by decide +kernel
theorem dX11_has_124 : decode cX11_has 124 = .ok (.iconst (-1), 1) := by decide +kernel
theorem dX11_has_125 : decode cX11_has 125 = .ok (.ireturn, 1) := by decide +kernel
theorem dX11_letter_0 : decode cX11_letter 0 = .ok (.iload_n 1, 1) := by decide +kernel
theorem dX11_letter_1 : decode cX11_letter 1 = .ok (.ifCond .lt 25, 3) := by decide +kernel
theorem dX11_letter_4 : decode cX11_letter 4 = .ok (.iload_n 1, 1) := by decide +kernel
theorem dX11_letter_5 : decode cX11_letter 5 = .ok (.iconst 3, 1) := by decide +kernel
theorem dX11_letter_6 : decode cX11_letter 6 = .ok (.if_icmp .ge 20, 3) := by decide +kernel
theorem dX11_letter_9 : decode cX11_letter 9 = .ok (.iload_n 2, 1) := by decide +kernel
theorem dX11_letter_10 : decode cX11_letter 10 = .ok (.ifCond .lt 16, 3) := by decide +kernel
theorem dX11_letter_13 : decode cX11_letter 13 = .ok (.iload_n 2, 1) := by decide +kernel
theorem dX11_letter_14 : decode cX11_letter 14 = .ok (.aload_n 0, 1) := by decide +kernel
theorem dX11_letter_15 : decode cX11_letter 15 = .ok (.getfield 76, 3) := by decide +kernel
theorem dX11_letter_18 : decode cX11_letter 18 = .ok (.getfield 146, 3) := by decide +kernel
theorem dX11_letter_21 : decode cX11_letter 21 = .ok (.iload_n 1, 1) := by decide +kernel
theorem dX11_letter_22 : decode cX11_letter 22 = .ok (.iaload, 1) := by decide +kernel
theorem dX11_letter_23 : decode cX11_letter 23 = .ok (.if_icmp .lt 5, 3) := by decide +kernel
theorem dX11_letter_26 : decode cX11_letter 26 = .ok (.iconst (-1), 1) := by decide +kernel
theorem dX11_letter_27 : decode cX11_letter 27 = .ok (.ireturn, 1) := by decide +kernel
theorem dX11_letter_28 : decode cX11_letter 28 = .ok (.iload_n 3, 1) := by decide +kernel
theorem dX11_letter_29 : decode cX11_letter 29 = .ok (.ifCond .lt 9, 3) := by decide +kernel
theorem dX11_letter_32 : decode cX11_letter 32 = .ok (.iload_n 3, 1) := by decide +kernel
theorem dX11_letter_33 : decode cX11_letter 33 = .ok (.bipush 6, 2) := by decide +kernel
theorem dX11_letter_35 : decode cX11_letter 35 = .ok (.if_icmp .lt 5, 3) := by decide +kernel
theorem dX11_letter_38 : decode cX11_letter 38 = .ok (.iconst (-1), 1) := by decide +kernel
theorem dX11_letter_39 : decode cX11_letter 39 = .ok (.ireturn, 1) := by decide +kernel
theorem dX11_letter_40 : decode cX11_letter 40 = .ok (.aload_n 0, 1) := by decide +kernel
theorem dX11_letter_41 : decode cX11_letter 41 = .ok (.getfield 76, 3) := by decide +kernel
theorem dX11_letter_44 : decode cX11_letter 44 = .ok (.getfield 165, 3) := by decide +kernel
theorem dX11_letter_47 : decode cX11_letter 47 = .ok (.iload_n 1, 1) := by decide +kernel
theorem dX11_letter_48 : decode cX11_letter 48 = .ok (.aaload, 1) := by decide +kernel
theorem dX11_letter_49 : decode cX11_letter 49 = .ok (.iload_n 2, 1) := by decide +kernel
theorem dX11_letter_50 : decode cX11_letter 50 = .ok (.iaload, 1) := by decide +kernel
theorem dX11_letter_51 : decode cX11_letter 51 = .ok (.iconst 5, 1) := by decide +kernel
theorem dX11_letter_52 : decode cX11_letter 52 = .ok (.iconst 5, 1) := by decide +kernel
theorem dX11_letter_53 : decode cX11_letter 53 = .ok (.iload_n 3, 1) := by decide +kernel
theorem dX11_letter_54 : decode cX11_letter 54 = .ok (.isub, 1) := by decide +kernel
theorem dX11_letter_55 : decode cX11_letter 55 = .ok (.imul, 1) := by decide +kernel
theorem dX11_letter_56 : decode cX11_letter 56 = .ok (.ishr, 1) := by decide +kernel
theorem dX11_letter_57 : decode cX11_letter 57 = .ok (.bipush 31, 2) := by decide +kernel
theorem dX11_letter_59 : decode cX11_letter 59 = .ok (.iand, 1) := by decide +kernel
theorem dX11_letter_60 : decode cX11_letter 60 = .ok (.ireturn, 1) := by decide +kernel
theorem dX11_mail_0 : decode cX11_mail 0 = .ok (.aload_n 0, 1) := by decide +kernel
theorem dX11_mail_1 : decode cX11_mail 1 = .ok (.iload_n 1, 1) := by decide +kernel
theorem dX11_mail_2 : decode cX11_mail 2 = .ok (.invokevirtual 169, 3) := by decide +kernel
theorem dX11_mail_5 : decode cX11_mail 5 = .ok (.ifCond .ne 5, 3) := by decide +kernel
theorem dX11_mail_8 : decode cX11_mail 8 = .ok (.iconst (-1), 1) := by decide +kernel
theorem dX11_mail_9 : decode cX11_mail 9 = .ok (.ireturn, 1) := by decide +kernel
theorem dX11_mail_10 : decode cX11_mail 10 = .ok (.iload_n 2, 1) := by decide +kernel
theorem dX11_mail_11 : decode cX11_mail 11 = .ok (.tableswitch 124 0 7 #[45, 55, 65, 75, 85, 95, 105, 114], 45) := by decide +kernel
theorem dX11_mail_56 : decode cX11_mail 56 = .ok (.aload_n 0, 1) := by decide +kernel
theorem dX11_mail_57 : decode cX11_mail 57 = .ok (.getfield 76, 3) := by decide +kernel
theorem dX11_mail_60 : decode cX11_mail 60 = .ok (.getfield 172, 3) := by decide +kernel
theorem dX11_mail_63 : decode cX11_mail 63 = .ok (.iload_n 1, 1) := by decide +kernel
theorem dX11_mail_64 : decode cX11_mail 64 = .ok (.iaload, 1) := by decide +kernel
theorem dX11_mail_65 : decode cX11_mail 65 = .ok (.ireturn, 1) := by decide +kernel
theorem dX11_mail_66 : decode cX11_mail 66 = .ok (.aload_n 0, 1) := by decide +kernel
theorem dX11_mail_67 : decode cX11_mail 67 = .ok (.getfield 76, 3) := by decide +kernel
theorem dX11_mail_70 : decode cX11_mail 70 = .ok (.getfield 175, 3) := by decide +kernel
theorem dX11_mail_73 : decode cX11_mail 73 = .ok (.iload_n 1, 1) := by decide +kernel
theorem dX11_mail_74 : decode cX11_mail 74 = .ok (.iaload, 1) := by decide +kernel
theorem dX11_mail_75 : decode cX11_mail 75 = .ok (.ireturn, 1) := by decide +kernel
theorem dX11_mail_76 : decode cX11_mail 76 = .ok (.aload_n 0, 1) := by decide +kernel
theorem dX11_mail_77 : decode cX11_mail 77 = .ok (.getfield 76, 3) := by decide +kernel
theorem dX11_mail_80 : decode cX11_mail 80 = .ok (.getfield 178, 3) := by decide +kernel
theorem dX11_mail_83 : decode cX11_mail 83 = .ok (.iload_n 1, 1) := by decide +kernel
theorem dX11_mail_84 : decode cX11_mail 84 = .ok (.iaload, 1) := by decide +kernel
theorem dX11_mail_85 : decode cX11_mail 85 = .ok (.ireturn, 1) := by decide +kernel
theorem dX11_mail_86 : decode cX11_mail 86 = .ok (.aload_n 0, 1) := by decide +kernel
theorem dX11_mail_87 : decode cX11_mail 87 = .ok (.getfield 49, 3) := by decide +kernel
theorem dX11_mail_90 : decode cX11_mail 90 = .ok (.getfield 181, 3) := by decide +kernel
theorem dX11_mail_93 : decode cX11_mail 93 = .ok (.iload_n 1, 1) := by decide +kernel
theorem dX11_mail_94 : decode cX11_mail 94 = .ok (.iaload, 1) := by decide +kernel
theorem dX11_mail_95 : decode cX11_mail 95 = .ok (.ireturn, 1) := by decide +kernel
theorem dX11_mail_96 : decode cX11_mail 96 = .ok (.aload_n 0, 1) := by decide +kernel
theorem dX11_mail_97 : decode cX11_mail 97 = .ok (.getfield 49, 3) := by decide +kernel
theorem dX11_mail_100 : decode cX11_mail 100 = .ok (.getfield 184, 3) := by decide +kernel
theorem dX11_mail_103 : decode cX11_mail 103 = .ok (.iload_n 1, 1) := by decide +kernel
theorem dX11_mail_104 : decode cX11_mail 104 = .ok (.iaload, 1) := by decide +kernel
theorem dX11_mail_105 : decode cX11_mail 105 = .ok (.ireturn, 1) := by decide +kernel
theorem dX11_mail_106 : decode cX11_mail 106 = .ok (.aload_n 0, 1) := by decide +kernel
theorem dX11_mail_107 : decode cX11_mail 107 = .ok (.getfield 49, 3) := by decide +kernel
theorem dX11_mail_110 : decode cX11_mail 110 = .ok (.getfield 187, 3) := by decide +kernel
theorem dX11_mail_113 : decode cX11_mail 113 = .ok (.iload_n 1, 1) := by decide +kernel
theorem dX11_mail_114 : decode cX11_mail 114 = .ok (.iaload, 1) := by decide +kernel
theorem dX11_mail_115 : decode cX11_mail 115 = .ok (.ireturn, 1) := by decide +kernel
theorem dX11_mail_116 : decode cX11_mail 116 = .ok (.aload_n 0, 1) := by decide +kernel
theorem dX11_mail_117 : decode cX11_mail 117 = .ok (.getfield 76, 3) := by decide +kernel
theorem dX11_mail_120 : decode cX11_mail 120 = .ok (.iload_n 1, 1) := by decide +kernel
theorem dX11_mail_121 : decode cX11_mail 121 = .ok (.invokevirtual 190, 3) := by decide +kernel
theorem dX11_mail_124 : decode cX11_mail 124 = .ok (.ireturn, 1) := by decide +kernel
theorem dX11_mail_125 : decode cX11_mail 125 = .ok (.aload_n 0, 1) := by decide +kernel
theorem dX11_mail_126 : decode cX11_mail 126 = .ok (.getfield 76, 3) := by decide +kernel
theorem dX11_mail_129 : decode cX11_mail 129 = .ok (.getfield 193, 3) := by decide +kernel
theorem dX11_mail_132 : decode cX11_mail 132 = .ok (.iload_n 1, 1) := by decide +kernel
theorem dX11_mail_133 : decode cX11_mail 133 = .ok (.iaload, 1) := by decide +kernel
theorem dX11_mail_134 : decode cX11_mail 134 = .ok (.ireturn, 1) := by decide +kernel
theorem dX11_mail_135 : decode cX11_mail 135 = .ok (.iconst (-1), 1) := by decide +kernel
theorem dX11_mail_136 : decode cX11_mail 136 = .ok (.ireturn, 1) := by decide +kernel
theorem dX11_gift_0 : decode cX11_gift 0 = .ok (.aload_n 0, 1) := by decide +kernel
theorem dX11_gift_1 : decode cX11_gift 1 = .ok (.iload_n 1, 1) := by decide +kernel
theorem dX11_gift_2 : decode cX11_gift 2 = .ok (.invokevirtual 196, 3) := by decide +kernel
theorem dX11_gift_5 : decode cX11_gift 5 = .ok (.ifCond .ne 5, 3) := by decide +kernel
theorem dX11_gift_8 : decode cX11_gift 8 = .ok (.iconst (-1), 1) := by decide +kernel
theorem dX11_gift_9 : decode cX11_gift 9 = .ok (.ireturn, 1) := by decide +kernel
theorem dX11_gift_10 : decode cX11_gift 10 = .ok (.iload_n 2, 1) := by decide +kernel
theorem dX11_gift_11 : decode cX11_gift 11 = .ok (.ifCond .ne 13, 3) := by decide +kernel
theorem dX11_gift_14 : decode cX11_gift 14 = .ok (.aload_n 0, 1) := by decide +kernel
theorem dX11_gift_15 : decode cX11_gift 15 = .ok (.getfield 49, 3) := by decide +kernel
theorem dX11_gift_18 : decode cX11_gift 18 = .ok (.getfield 199, 3) := by decide +kernel
theorem dX11_gift_21 : decode cX11_gift 21 = .ok (.iload_n 1, 1) := by decide +kernel
theorem dX11_gift_22 : decode cX11_gift 22 = .ok (.iaload, 1) := by decide +kernel
theorem dX11_gift_23 : decode cX11_gift 23 = .ok (.ireturn, 1) := by decide +kernel
theorem dX11_gift_24 : decode cX11_gift 24 = .ok (.iload_n 2, 1) := by decide +kernel
theorem dX11_gift_25 : decode cX11_gift 25 = .ok (.bipush 10, 2) := by decide +kernel
theorem dX11_gift_27 : decode cX11_gift 27 = .ok (.if_icmp .lt 14, 3) := by decide +kernel
theorem dX11_gift_30 : decode cX11_gift 30 = .ok (.aload_n 0, 1) := by decide +kernel
theorem dX11_gift_31 : decode cX11_gift 31 = .ok (.iload_n 2, 1) := by decide +kernel
theorem dX11_gift_32 : decode cX11_gift 32 = .ok (.bipush 10, 2) := by decide +kernel
theorem dX11_gift_34 : decode cX11_gift 34 = .ok (.isub, 1) := by decide +kernel
theorem dX11_gift_35 : decode cX11_gift 35 = .ok (.invokevirtual 169, 3) := by decide +kernel
theorem dX11_gift_38 : decode cX11_gift 38 = .ok (.ifCond .ne 5, 3) := by decide +kernel
theorem dX11_gift_41 : decode cX11_gift 41 = .ok (.iconst (-1), 1) := by decide +kernel
theorem dX11_gift_42 : decode cX11_gift 42 = .ok (.ireturn, 1) := by decide +kernel
theorem dX11_gift_43 : decode cX11_gift 43 = .ok (.aload_n 0, 1) := by decide +kernel
theorem dX11_gift_44 : decode cX11_gift 44 = .ok (.getfield 76, 3) := by decide +kernel
theorem dX11_gift_47 : decode cX11_gift 47 = .ok (.getfield 202, 3) := by decide +kernel
theorem dX11_gift_50 : decode cX11_gift 50 = .ok (.iload_n 2, 1) := by decide +kernel
theorem dX11_gift_51 : decode cX11_gift 51 = .ok (.bipush 10, 2) := by decide +kernel
theorem dX11_gift_53 : decode cX11_gift 53 = .ok (.isub, 1) := by decide +kernel
theorem dX11_gift_54 : decode cX11_gift 54 = .ok (.aaload, 1) := by decide +kernel
theorem dX11_gift_55 : decode cX11_gift 55 = .ok (.iload_n 1, 1) := by decide +kernel
theorem dX11_gift_56 : decode cX11_gift 56 = .ok (.iaload, 1) := by decide +kernel
theorem dX11_gift_57 : decode cX11_gift 57 = .ok (.ireturn, 1) := by decide +kernel
theorem dX11_helper_0 : decode cX11_helper 0 = .ok (.aload_n 0, 1) := by decide +kernel
theorem dX11_helper_1 : decode cX11_helper 1 = .ok (.iload_n 1, 1) := by decide +kernel
theorem dX11_helper_2 : decode cX11_helper 2 = .ok (.invokevirtual 205, 3) := by decide +kernel
theorem dX11_helper_5 : decode cX11_helper 5 = .ok (.ifCond .ne 5, 3) := by decide +kernel
theorem dX11_helper_8 : decode cX11_helper 8 = .ok (.iconst (-1), 1) := by decide +kernel
theorem dX11_helper_9 : decode cX11_helper 9 = .ok (.ireturn, 1) := by decide +kernel
theorem dX11_helper_10 : decode cX11_helper 10 = .ok (.iload_n 2, 1) := by decide +kernel
theorem dX11_helper_11 : decode cX11_helper 11 = .ok (.tableswitch 82 0 4 #[33, 43, 53, 63, 73], 33) := by decide +kernel
theorem dX11_helper_44 : decode cX11_helper 44 = .ok (.aload_n 0, 1) := by decide +kernel
theorem dX11_helper_45 : decode cX11_helper 45 = .ok (.getfield 76, 3) := by decide +kernel
theorem dX11_helper_48 : decode cX11_helper 48 = .ok (.getfield 208, 3) := by decide +kernel
theorem dX11_helper_51 : decode cX11_helper 51 = .ok (.iload_n 1, 1) := by decide +kernel
theorem dX11_helper_52 : decode cX11_helper 52 = .ok (.iaload, 1) := by decide +kernel
theorem dX11_helper_53 : decode cX11_helper 53 = .ok (.ireturn, 1) := by decide +kernel
theorem dX11_helper_54 : decode cX11_helper 54 = .ok (.aload_n 0, 1) := by decide +kernel
theorem dX11_helper_55 : decode cX11_helper 55 = .ok (.getfield 76, 3) := by decide +kernel
theorem dX11_helper_58 : decode cX11_helper 58 = .ok (.getfield 211, 3) := by decide +kernel
theorem dX11_helper_61 : decode cX11_helper 61 = .ok (.iload_n 1, 1) := by decide +kernel
theorem dX11_helper_62 : decode cX11_helper 62 = .ok (.iaload, 1) := by decide +kernel
theorem dX11_helper_63 : decode cX11_helper 63 = .ok (.ireturn, 1) := by decide +kernel
theorem dX11_helper_64 : decode cX11_helper 64 = .ok (.aload_n 0, 1) := by decide +kernel
theorem dX11_helper_65 : decode cX11_helper 65 = .ok (.getfield 76, 3) := by decide +kernel
theorem dX11_helper_68 : decode cX11_helper 68 = .ok (.getfield 214, 3) := by decide +kernel
theorem dX11_helper_71 : decode cX11_helper 71 = .ok (.iload_n 1, 1) := by decide +kernel
theorem dX11_helper_72 : decode cX11_helper 72 = .ok (.iaload, 1) := by decide +kernel
theorem dX11_helper_73 : decode cX11_helper 73 = .ok (.ireturn, 1) := by decide +kernel
theorem dX11_helper_74 : decode cX11_helper 74 = .ok (.aload_n 0, 1) := by decide +kernel
theorem dX11_helper_75 : decode cX11_helper 75 = .ok (.getfield 49, 3) := by decide +kernel
theorem dX11_helper_78 : decode cX11_helper 78 = .ok (.getfield 217, 3) := by decide +kernel
theorem dX11_helper_81 : decode cX11_helper 81 = .ok (.iload_n 1, 1) := by decide +kernel
theorem dX11_helper_82 : decode cX11_helper 82 = .ok (.iaload, 1) := by decide +kernel
theorem dX11_helper_83 : decode cX11_helper 83 = .ok (.ireturn, 1) := by decide +kernel
theorem dX11_helper_84 : decode cX11_helper 84 = .ok (.aload_n 0, 1) := by decide +kernel
theorem dX11_helper_85 : decode cX11_helper 85 = .ok (.getfield 49, 3) := by decide +kernel
theorem dX11_helper_88 : decode cX11_helper 88 = .ok (.iload_n 1, 1) := by decide +kernel
theorem dX11_helper_89 : decode cX11_helper 89 = .ok (.invokevirtual 220, 3) := by decide +kernel
theorem dX11_helper_92 : decode cX11_helper 92 = .ok (.ireturn, 1) := by decide +kernel
theorem dX11_helper_93 : decode cX11_helper 93 = .ok (.iconst (-1), 1) := by decide +kernel
theorem dX11_helper_94 : decode cX11_helper 94 = .ok (.ireturn, 1) := by decide +kernel
theorem dX11_takes_0 : decode cX11_takes 0 = .ok (.aload_n 0, 1) := by decide +kernel
theorem dX11_takes_1 : decode cX11_takes 1 = .ok (.iload_n 1, 1) := by decide +kernel
theorem dX11_takes_2 : decode cX11_takes 2 = .ok (.invokevirtual 169, 3) := by decide +kernel
theorem dX11_takes_5 : decode cX11_takes 5 = .ok (.ifCond .eq 11, 3) := by decide +kernel
theorem dX11_takes_8 : decode cX11_takes 8 = .ok (.aload_n 0, 1) := by decide +kernel
theorem dX11_takes_9 : decode cX11_takes 9 = .ok (.iload_n 2, 1) := by decide +kernel
theorem dX11_takes_10 : decode cX11_takes 10 = .ok (.invokevirtual 205, 3) := by decide +kernel
theorem dX11_takes_13 : decode cX11_takes 13 = .ok (.ifCond .ne 5, 3) := by decide +kernel
theorem dX11_takes_16 : decode cX11_takes 16 = .ok (.iconst (-1), 1) := by decide +kernel
theorem dX11_takes_17 : decode cX11_takes 17 = .ok (.ireturn, 1) := by decide +kernel
theorem dX11_takes_18 : decode cX11_takes 18 = .ok (.aload_n 0, 1) := by decide +kernel
theorem dX11_takes_19 : decode cX11_takes 19 = .ok (.getfield 19, 3) := by decide +kernel
theorem dX11_takes_22 : decode cX11_takes 22 = .ok (.aload_n 0, 1) := by decide +kernel
theorem dX11_takes_23 : decode cX11_takes 23 = .ok (.getfield 76, 3) := by decide +kernel
theorem dX11_takes_26 : decode cX11_takes 26 = .ok (.aload_n 0, 1) := by decide +kernel
theorem dX11_takes_27 : decode cX11_takes 27 = .ok (.getfield 49, 3) := by decide +kernel
theorem dX11_takes_30 : decode cX11_takes 30 = .ok (.iload_n 1, 1) := by decide +kernel
theorem dX11_takes_31 : decode cX11_takes 31 = .ok (.iload_n 2, 1) := by decide +kernel
theorem dX11_takes_32 : decode cX11_takes 32 = .ok (.invokevirtual 223, 3) := by decide +kernel
theorem dX11_takes_35 : decode cX11_takes 35 = .ok (.ireturn, 1) := by decide +kernel
theorem dX11_warmth_0 : decode cX11_warmth 0 = .ok (.aload_n 0, 1) := by decide +kernel
theorem dX11_warmth_1 : decode cX11_warmth 1 = .ok (.iload_n 1, 1) := by decide +kernel
theorem dX11_warmth_2 : decode cX11_warmth 2 = .ok (.invokevirtual 169, 3) := by decide +kernel
theorem dX11_warmth_5 : decode cX11_warmth 5 = .ok (.ifCond .eq 11, 3) := by decide +kernel
theorem dX11_warmth_8 : decode cX11_warmth 8 = .ok (.aload_n 0, 1) := by decide +kernel
theorem dX11_warmth_9 : decode cX11_warmth 9 = .ok (.iload_n 2, 1) := by decide +kernel
theorem dX11_warmth_10 : decode cX11_warmth 10 = .ok (.invokevirtual 205, 3) := by decide +kernel
theorem dX11_warmth_13 : decode cX11_warmth 13 = .ok (.ifCond .ne 7, 3) := by decide +kernel
theorem dX11_warmth_16 : decode cX11_warmth 16 = .ok (.ldc2_w 227, 3) := by decide +kernel
theorem dX11_warmth_19 : decode cX11_warmth 19 = .ok (.lreturn, 1) := by decide +kernel
theorem dX11_warmth_20 : decode cX11_warmth 20 = .ok (.aload_n 0, 1) := by decide +kernel
theorem dX11_warmth_21 : decode cX11_warmth 21 = .ok (.getfield 19, 3) := by decide +kernel
theorem dX11_warmth_24 : decode cX11_warmth 24 = .ok (.aload_n 0, 1) := by decide +kernel
theorem dX11_warmth_25 : decode cX11_warmth 25 = .ok (.getfield 76, 3) := by decide +kernel
theorem dX11_warmth_28 : decode cX11_warmth 28 = .ok (.aload_n 0, 1) := by decide +kernel
theorem dX11_warmth_29 : decode cX11_warmth 29 = .ok (.getfield 49, 3) := by decide +kernel
theorem dX11_warmth_32 : decode cX11_warmth 32 = .ok (.iload_n 1, 1) := by decide +kernel
theorem dX11_warmth_33 : decode cX11_warmth 33 = .ok (.iload_n 2, 1) := by decide +kernel
theorem dX11_warmth_34 : decode cX11_warmth 34 = .ok (.invokevirtual 229, 3) := by decide +kernel
theorem dX11_warmth_37 : decode cX11_warmth 37 = .ok (.i2l, 1) := by decide +kernel
theorem dX11_warmth_38 : decode cX11_warmth 38 = .ok (.lreturn, 1) := by decide +kernel
theorem dX11_can_0 : decode cX11_can 0 = .ok (.aload_n 0, 1) := by decide +kernel
theorem dX11_can_1 : decode cX11_can 1 = .ok (.iload_n 1, 1) := by decide +kernel
theorem dX11_can_2 : decode cX11_can 2 = .ok (.invokevirtual 169, 3) := by decide +kernel
theorem dX11_can_5 : decode cX11_can 5 = .ok (.ifCond .eq 11, 3) := by decide +kernel
theorem dX11_can_8 : decode cX11_can 8 = .ok (.aload_n 0, 1) := by decide +kernel
theorem dX11_can_9 : decode cX11_can 9 = .ok (.iload_n 2, 1) := by decide +kernel
theorem dX11_can_10 : decode cX11_can 10 = .ok (.invokevirtual 205, 3) := by decide +kernel
theorem dX11_can_13 : decode cX11_can 13 = .ok (.ifCond .ne 5, 3) := by decide +kernel
theorem dX11_can_16 : decode cX11_can 16 = .ok (.iconst (-1), 1) := by decide +kernel
theorem dX11_can_17 : decode cX11_can 17 = .ok (.ireturn, 1) := by decide +kernel
theorem dX11_can_18 : decode cX11_can 18 = .ok (.aload_n 0, 1) := by decide +kernel
theorem dX11_can_19 : decode cX11_can 19 = .ok (.getfield 19, 3) := by decide +kernel
theorem dX11_can_22 : decode cX11_can 22 = .ok (.aload_n 0, 1) := by decide +kernel
theorem dX11_can_23 : decode cX11_can 23 = .ok (.getfield 76, 3) := by decide +kernel
theorem dX11_can_26 : decode cX11_can 26 = .ok (.aload_n 0, 1) := by decide +kernel
theorem dX11_can_27 : decode cX11_can 27 = .ok (.getfield 49, 3) := by decide +kernel
theorem dX11_can_30 : decode cX11_can 30 = .ok (.iload_n 1, 1) := by decide +kernel
theorem dX11_can_31 : decode cX11_can 31 = .ok (.iload_n 2, 1) := by decide +kernel
theorem dX11_can_32 : decode cX11_can 32 = .ok (.invokevirtual 232, 3) := by decide +kernel
theorem dX11_can_35 : decode cX11_can 35 = .ok (.iconst (-1), 1) := by decide +kernel
theorem dX11_can_36 : decode cX11_can 36 = .ok (.if_icmp .ne 7, 3) := by decide +kernel
theorem dX11_can_39 : decode cX11_can 39 = .ok (.iconst 0, 1) := by decide +kernel
theorem dX11_can_40 : decode cX11_can 40 = .ok (.goto 4, 3) := by decide +kernel
theorem dX11_can_43 : decode cX11_can 43 = .ok (.iconst 1, 1) := by decide +kernel
theorem dX11_can_44 : decode cX11_can 44 = .ok (.ireturn, 1) := by decide +kernel
theorem dX11_warmest_0 : decode cX11_warmest 0 = .ok (.iload_n 1, 1) := by decide +kernel
theorem dX11_warmest_1 : decode cX11_warmest 1 = .ok (.iconst (-1), 1) := by decide +kernel
theorem dX11_warmest_2 : decode cX11_warmest 2 = .ok (.if_icmp .eq 13, 3) := by decide +kernel
theorem dX11_warmest_5 : decode cX11_warmest 5 = .ok (.aload_n 0, 1) := by decide +kernel
theorem dX11_warmest_6 : decode cX11_warmest 6 = .ok (.iload_n 1, 1) := by decide +kernel
theorem dX11_warmest_7 : decode cX11_warmest 7 = .ok (.invokevirtual 169, 3) := by decide +kernel
theorem dX11_warmest_10 : decode cX11_warmest 10 = .ok (.ifCond .ne 5, 3) := by decide +kernel
theorem dX11_warmest_13 : decode cX11_warmest 13 = .ok (.iconst (-1), 1) := by decide +kernel
theorem dX11_warmest_14 : decode cX11_warmest 14 = .ok (.ireturn, 1) := by decide +kernel
theorem dX11_warmest_15 : decode cX11_warmest 15 = .ok (.aload_n 0, 1) := by decide +kernel
theorem dX11_warmest_16 : decode cX11_warmest 16 = .ok (.getfield 28, 3) := by decide +kernel
theorem dX11_warmest_19 : decode cX11_warmest 19 = .ok (.aload_n 0, 1) := by decide +kernel
theorem dX11_warmest_20 : decode cX11_warmest 20 = .ok (.getfield 76, 3) := by decide +kernel
theorem dX11_warmest_23 : decode cX11_warmest 23 = .ok (.aload_n 0, 1) := by decide +kernel
theorem dX11_warmest_24 : decode cX11_warmest 24 = .ok (.getfield 49, 3) := by decide +kernel
theorem dX11_warmest_27 : decode cX11_warmest 27 = .ok (.invokevirtual 235, 3) := by decide +kernel
theorem dX11_warmest_30 : decode cX11_warmest 30 = .ok (.iload_n 1, 1) := by decide +kernel
theorem dX11_warmest_31 : decode cX11_warmest 31 = .ok (.iconst (-1), 1) := by decide +kernel
theorem dX11_warmest_32 : decode cX11_warmest 32 = .ok (.if_icmp .ne 13, 3) := by decide +kernel
theorem dX11_warmest_35 : decode cX11_warmest 35 = .ok (.aload_n 0, 1) := by decide +kernel
theorem dX11_warmest_36 : decode cX11_warmest 36 = .ok (.getfield 28, 3) := by decide +kernel
theorem dX11_warmest_39 : decode cX11_warmest 39 = .ok (.getfield 239, 3) := by decide +kernel
theorem dX11_warmest_42 : decode cX11_warmest 42 = .ok (.goto 12, 3) := by decide +kernel
theorem dX11_warmest_45 : decode cX11_warmest 45 = .ok (.aload_n 0, 1) := by decide +kernel
theorem dX11_warmest_46 : decode cX11_warmest 46 = .ok (.getfield 28, 3) := by decide +kernel
theorem dX11_warmest_49 : decode cX11_warmest 49 = .ok (.getfield 242, 3) := by decide +kernel
theorem dX11_warmest_52 : decode cX11_warmest 52 = .ok (.iload_n 1, 1) := by decide +kernel
theorem dX11_warmest_53 : decode cX11_warmest 53 = .ok (.iaload, 1) := by decide +kernel
theorem dX11_warmest_54 : decode cX11_warmest 54 = .ok (.ireturn, 1) := by decide +kernel
theorem dX11_warms_0 : decode cX11_warms 0 = .ok (.aload_n 0, 1) := by decide +kernel
theorem dX11_warms_1 : decode cX11_warms 1 = .ok (.getfield 28, 3) := by decide +kernel
theorem dX11_warms_4 : decode cX11_warms 4 = .ok (.aload_n 0, 1) := by decide +kernel
theorem dX11_warms_5 : decode cX11_warms 5 = .ok (.getfield 76, 3) := by decide +kernel
theorem dX11_warms_8 : decode cX11_warms 8 = .ok (.aload_n 0, 1) := by decide +kernel
theorem dX11_warms_9 : decode cX11_warms 9 = .ok (.getfield 49, 3) := by decide +kernel
theorem dX11_warms_12 : decode cX11_warms 12 = .ok (.invokevirtual 235, 3) := by decide +kernel
theorem dX11_warms_15 : decode cX11_warms 15 = .ok (.aload_n 0, 1) := by decide +kernel
theorem dX11_warms_16 : decode cX11_warms 16 = .ok (.getfield 28, 3) := by decide +kernel
theorem dX11_warms_19 : decode cX11_warms 19 = .ok (.getfield 245, 3) := by decide +kernel
theorem dX11_warms_22 : decode cX11_warms 22 = .ok (.lreturn, 1) := by decide +kernel
theorem dX11_later_0 : decode cX11_later 0 = .ok (.iload_n 1, 1) := by decide +kernel
theorem dX11_later_1 : decode cX11_later 1 = .ok (.ifCond .lt 24, 3) := by decide +kernel
theorem dX11_later_4 : decode cX11_later 4 = .ok (.iload_n 1, 1) := by decide +kernel
theorem dX11_later_5 : decode cX11_later 5 = .ok (.bipush 30, 2) := by decide +kernel
theorem dX11_later_7 : decode cX11_later 7 = .ok (.if_icmp .gt 18, 3) := by decide +kernel
theorem dX11_later_10 : decode cX11_later 10 = .ok (.aload_n 0, 1) := by decide +kernel
theorem dX11_later_11 : decode cX11_later 11 = .ok (.getfield 49, 3) := by decide +kernel
theorem dX11_later_14 : decode cX11_later 14 = .ok (.getfield 149, 3) := by decide +kernel
theorem dX11_later_17 : decode cX11_later 17 = .ok (.iload_n 1, 1) := by decide +kernel
theorem dX11_later_18 : decode cX11_later 18 = .ok (.iadd, 1) := by decide +kernel
theorem dX11_later_19 : decode cX11_later 19 = .ok (.sipush 999, 3) := by decide +kernel
theorem dX11_later_22 : decode cX11_later 22 = .ok (.if_icmp .le 5, 3) := by decide +kernel
theorem dX11_later_25 : decode cX11_later 25 = .ok (.iconst (-1), 1) := by decide +kernel
theorem dX11_later_26 : decode cX11_later 26 = .ok (.ireturn, 1) := by decide +kernel
theorem dX11_later_27 : decode cX11_later 27 = .ok (.aload_n 0, 1) := by decide +kernel
theorem dX11_later_28 : decode cX11_later 28 = .ok (.getfield 53, 3) := by decide +kernel
theorem dX11_later_31 : decode cX11_later 31 = .ok (.aload_n 0, 1) := by decide +kernel
theorem dX11_later_32 : decode cX11_later 32 = .ok (.getfield 49, 3) := by decide +kernel
theorem dX11_later_35 : decode cX11_later 35 = .ok (.invokevirtual 249, 3) := by decide +kernel
theorem dX11_later_38 : decode cX11_later 38 = .ok (.iconst 0, 1) := by decide +kernel
theorem dX11_later_39 : decode cX11_later 39 = .ok (.istore_n 2, 1) := by decide +kernel
theorem dX11_later_40 : decode cX11_later 40 = .ok (.iload_n 2, 1) := by decide +kernel
theorem dX11_later_41 : decode cX11_later 41 = .ok (.iload_n 1, 1) := by decide +kernel
theorem dX11_later_42 : decode cX11_later 42 = .ok (.if_icmp .ge 39, 3) := by decide +kernel
theorem dX11_later_45 : decode cX11_later 45 = .ok (.aload_n 0, 1) := by decide +kernel
theorem dX11_later_46 : decode cX11_later 46 = .ok (.getfield 28, 3) := by decide +kernel
theorem dX11_later_49 : decode cX11_later 49 = .ok (.aload_n 0, 1) := by decide +kernel
theorem dX11_later_50 : decode cX11_later 50 = .ok (.getfield 76, 3) := by decide +kernel
theorem dX11_later_53 : decode cX11_later 53 = .ok (.aload_n 0, 1) := by decide +kernel
theorem dX11_later_54 : decode cX11_later 54 = .ok (.getfield 53, 3) := by decide +kernel
theorem dX11_later_57 : decode cX11_later 57 = .ok (.invokevirtual 235, 3) := by decide +kernel
theorem dX11_later_60 : decode cX11_later 60 = .ok (.aload_n 0, 1) := by decide +kernel
theorem dX11_later_61 : decode cX11_later 61 = .ok (.getfield 28, 3) := by decide +kernel
theorem dX11_later_64 : decode cX11_later 64 = .ok (.aload_n 0, 1) := by decide +kernel
theorem dX11_later_65 : decode cX11_later 65 = .ok (.getfield 76, 3) := by decide +kernel
theorem dX11_later_68 : decode cX11_later 68 = .ok (.aload_n 0, 1) := by decide +kernel
theorem dX11_later_69 : decode cX11_later 69 = .ok (.getfield 53, 3) := by decide +kernel
theorem dX11_later_72 : decode cX11_later 72 = .ok (.invokevirtual 253, 3) := by decide +kernel
theorem dX11_later_75 : decode cX11_later 75 = .ok (.iinc 2 1, 3) := by decide +kernel
theorem dX11_later_78 : decode cX11_later 78 = .ok (.goto (-38), 3) := by decide +kernel
theorem dX11_later_81 : decode cX11_later 81 = .ok (.aload_n 0, 1) := by decide +kernel
theorem dX11_later_82 : decode cX11_later 82 = .ok (.getfield 53, 3) := by decide +kernel
theorem dX11_later_85 : decode cX11_later 85 = .ok (.invokevirtual 152, 3) := by decide +kernel
theorem dX11_later_88 : decode cX11_later 88 = .ok (.ireturn, 1) := by decide +kernel
theorem dX11_finished_0 : decode cX11_finished 0 = .ok (.aload_n 0, 1) := by decide +kernel
theorem dX11_finished_1 : decode cX11_finished 1 = .ok (.getfield 53, 3) := by decide +kernel
theorem dX11_finished_4 : decode cX11_finished 4 = .ok (.aload_n 0, 1) := by decide +kernel
theorem dX11_finished_5 : decode cX11_finished 5 = .ok (.getfield 49, 3) := by decide +kernel
theorem dX11_finished_8 : decode cX11_finished 8 = .ok (.invokevirtual 249, 3) := by decide +kernel
theorem dX11_finished_11 : decode cX11_finished 11 = .ok (.bipush 30, 2) := by decide +kernel
theorem dX11_finished_13 : decode cX11_finished 13 = .ok (.sipush 999, 3) := by decide +kernel
theorem dX11_finished_16 : decode cX11_finished 16 = .ok (.aload_n 0, 1) := by decide +kernel
theorem dX11_finished_17 : decode cX11_finished 17 = .ok (.getfield 49, 3) := by decide +kernel
theorem dX11_finished_20 : decode cX11_finished 20 = .ok (.getfield 149, 3) := by decide +kernel
theorem dX11_finished_23 : decode cX11_finished 23 = .ok (.isub, 1) := by decide +kernel
theorem dX11_finished_24 : decode cX11_finished 24 = .ok (.invokestatic 256, 3) := by decide +kernel
theorem dX11_finished_27 : decode cX11_finished 27 = .ok (.istore_n 1, 1) := by decide +kernel
theorem dX11_finished_28 : decode cX11_finished 28 = .ok (.iconst 0, 1) := by decide +kernel
theorem dX11_finished_29 : decode cX11_finished 29 = .ok (.istore_n 2, 1) := by decide +kernel
theorem dX11_finished_30 : decode cX11_finished 30 = .ok (.iload_n 2, 1) := by decide +kernel
theorem dX11_finished_31 : decode cX11_finished 31 = .ok (.iload_n 1, 1) := by decide +kernel
theorem dX11_finished_32 : decode cX11_finished 32 = .ok (.if_icmp .gt 65, 3) := by decide +kernel
theorem dX11_finished_35 : decode cX11_finished 35 = .ok (.aload_n 0, 1) := by decide +kernel
theorem dX11_finished_36 : decode cX11_finished 36 = .ok (.getfield 53, 3) := by decide +kernel
theorem dX11_finished_39 : decode cX11_finished 39 = .ok (.invokevirtual 152, 3) := by decide +kernel
theorem dX11_finished_42 : decode cX11_finished 42 = .ok (.aload_n 0, 1) := by decide +kernel
theorem dX11_finished_43 : decode cX11_finished 43 = .ok (.getfield 76, 3) := by decide +kernel
theorem dX11_finished_46 : decode cX11_finished 46 = .ok (.getfield 146, 3) := by decide +kernel
theorem dX11_finished_49 : decode cX11_finished 49 = .ok (.iconst 0, 1) := by decide +kernel
theorem dX11_finished_50 : decode cX11_finished 50 = .ok (.iaload, 1) := by decide +kernel
theorem dX11_finished_51 : decode cX11_finished 51 = .ok (.if_icmp .ne 5, 3) := by decide +kernel
theorem dX11_finished_54 : decode cX11_finished 54 = .ok (.iload_n 2, 1) := by decide +kernel
theorem dX11_finished_55 : decode cX11_finished 55 = .ok (.ireturn, 1) := by decide +kernel
theorem dX11_finished_56 : decode cX11_finished 56 = .ok (.iload_n 2, 1) := by decide +kernel
theorem dX11_finished_57 : decode cX11_finished 57 = .ok (.iload_n 1, 1) := by decide +kernel
theorem dX11_finished_58 : decode cX11_finished 58 = .ok (.if_icmp .ge 33, 3) := by decide +kernel
theorem dX11_finished_61 : decode cX11_finished 61 = .ok (.aload_n 0, 1) := by decide +kernel
theorem dX11_finished_62 : decode cX11_finished 62 = .ok (.getfield 28, 3) := by decide +kernel
theorem dX11_finished_65 : decode cX11_finished 65 = .ok (.aload_n 0, 1) := by decide +kernel
theorem dX11_finished_66 : decode cX11_finished 66 = .ok (.getfield 76, 3) := by decide +kernel
theorem dX11_finished_69 : decode cX11_finished 69 = .ok (.aload_n 0, 1) := by decide +kernel
theorem dX11_finished_70 : decode cX11_finished 70 = .ok (.getfield 53, 3) := by decide +kernel
theorem dX11_finished_73 : decode cX11_finished 73 = .ok (.invokevirtual 235, 3) := by decide +kernel
theorem dX11_finished_76 : decode cX11_finished 76 = .ok (.aload_n 0, 1) := by decide +kernel
theorem dX11_finished_77 : decode cX11_finished 77 = .ok (.getfield 28, 3) := by decide +kernel
theorem dX11_finished_80 : decode cX11_finished 80 = .ok (.aload_n 0, 1) := by decide +kernel
theorem dX11_finished_81 : decode cX11_finished 81 = .ok (.getfield 76, 3) := by decide +kernel
theorem dX11_finished_84 : decode cX11_finished 84 = .ok (.aload_n 0, 1) := by decide +kernel
theorem dX11_finished_85 : decode cX11_finished 85 = .ok (.getfield 53, 3) := by decide +kernel
theorem dX11_finished_88 : decode cX11_finished 88 = .ok (.invokevirtual 253, 3) := by decide +kernel
theorem dX11_finished_91 : decode cX11_finished 91 = .ok (.iinc 2 1, 3) := by decide +kernel
theorem dX11_finished_94 : decode cX11_finished 94 = .ok (.goto (-64), 3) := by decide +kernel
theorem dX11_finished_97 : decode cX11_finished 97 = .ok (.iconst (-1), 1) := by decide +kernel
theorem dX11_finished_98 : decode cX11_finished 98 = .ok (.ireturn, 1) := by decide +kernel
theorem dX11_sheets_0 : decode cX11_sheets 0 = .ok (.iload_n 1, 1) := by decide +kernel
theorem dX11_sheets_1 : decode cX11_sheets 1 = .ok (.iconst (-1), 1) := by decide +kernel
theorem dX11_sheets_2 : decode cX11_sheets 2 = .ok (.if_icmp .eq 13, 3) := by decide +kernel
theorem dX11_sheets_5 : decode cX11_sheets 5 = .ok (.aload_n 0, 1) := by decide +kernel
theorem dX11_sheets_6 : decode cX11_sheets 6 = .ok (.iload_n 1, 1) := by decide +kernel
theorem dX11_sheets_7 : decode cX11_sheets 7 = .ok (.invokevirtual 169, 3) := by decide +kernel
theorem dX11_sheets_10 : decode cX11_sheets 10 = .ok (.ifCond .ne 5, 3) := by decide +kernel
theorem dX11_sheets_13 : decode cX11_sheets 13 = .ok (.iconst (-1), 1) := by decide +kernel
theorem dX11_sheets_14 : decode cX11_sheets 14 = .ok (.ireturn, 1) := by decide +kernel
theorem dX11_sheets_15 : decode cX11_sheets 15 = .ok (.aload_n 0, 1) := by decide +kernel
theorem dX11_sheets_16 : decode cX11_sheets 16 = .ok (.getfield 42, 3) := by decide +kernel
theorem dX11_sheets_19 : decode cX11_sheets 19 = .ok (.aload_n 0, 1) := by decide +kernel
theorem dX11_sheets_20 : decode cX11_sheets 20 = .ok (.getfield 76, 3) := by decide +kernel
theorem dX11_sheets_23 : decode cX11_sheets 23 = .ok (.invokevirtual 262, 3) := by decide +kernel
theorem dX11_sheets_26 : decode cX11_sheets 26 = .ok (.iload_n 1, 1) := by decide +kernel
theorem dX11_sheets_27 : decode cX11_sheets 27 = .ok (.iconst (-1), 1) := by decide +kernel
theorem dX11_sheets_28 : decode cX11_sheets 28 = .ok (.if_icmp .ne 13, 3) := by decide +kernel
theorem dX11_sheets_31 : decode cX11_sheets 31 = .ok (.aload_n 0, 1) := by decide +kernel
theorem dX11_sheets_32 : decode cX11_sheets 32 = .ok (.getfield 42, 3) := by decide +kernel
theorem dX11_sheets_35 : decode cX11_sheets 35 = .ok (.getfield 265, 3) := by decide +kernel
theorem dX11_sheets_38 : decode cX11_sheets 38 = .ok (.goto 12, 3) := by decide +kernel
theorem dX11_sheets_41 : decode cX11_sheets 41 = .ok (.aload_n 0, 1) := by decide +kernel
theorem dX11_sheets_42 : decode cX11_sheets 42 = .ok (.getfield 42, 3) := by decide +kernel
theorem dX11_sheets_45 : decode cX11_sheets 45 = .ok (.getfield 268, 3) := by decide +kernel
theorem dX11_sheets_48 : decode cX11_sheets 48 = .ok (.iload_n 1, 1) := by decide +kernel
theorem dX11_sheets_49 : decode cX11_sheets 49 = .ok (.iaload, 1) := by decide +kernel
theorem dX11_sheets_50 : decode cX11_sheets 50 = .ok (.ireturn, 1) := by decide +kernel
theorem dX11_shared_0 : decode cX11_shared 0 = .ok (.iload_n 1, 1) := by decide +kernel
theorem dX11_shared_1 : decode cX11_shared 1 = .ok (.iconst (-1), 1) := by decide +kernel
theorem dX11_shared_2 : decode cX11_shared 2 = .ok (.if_icmp .eq 13, 3) := by decide +kernel
theorem dX11_shared_5 : decode cX11_shared 5 = .ok (.aload_n 0, 1) := by decide +kernel
theorem dX11_shared_6 : decode cX11_shared 6 = .ok (.iload_n 1, 1) := by decide +kernel
theorem dX11_shared_7 : decode cX11_shared 7 = .ok (.invokevirtual 169, 3) := by decide +kernel
theorem dX11_shared_10 : decode cX11_shared 10 = .ok (.ifCond .ne 5, 3) := by decide +kernel
theorem dX11_shared_13 : decode cX11_shared 13 = .ok (.iconst (-1), 1) := by decide +kernel
theorem dX11_shared_14 : decode cX11_shared 14 = .ok (.ireturn, 1) := by decide +kernel
theorem dX11_shared_15 : decode cX11_shared 15 = .ok (.aload_n 0, 1) := by decide +kernel
theorem dX11_shared_16 : decode cX11_shared 16 = .ok (.getfield 35, 3) := by decide +kernel
theorem dX11_shared_19 : decode cX11_shared 19 = .ok (.aload_n 0, 1) := by decide +kernel
theorem dX11_shared_20 : decode cX11_shared 20 = .ok (.getfield 76, 3) := by decide +kernel
theorem dX11_shared_23 : decode cX11_shared 23 = .ok (.aload_n 0, 1) := by decide +kernel
theorem dX11_shared_24 : decode cX11_shared 24 = .ok (.getfield 49, 3) := by decide +kernel
theorem dX11_shared_27 : decode cX11_shared 27 = .ok (.invokevirtual 271, 3) := by decide +kernel
theorem dX11_shared_30 : decode cX11_shared 30 = .ok (.iload_n 1, 1) := by decide +kernel
theorem dX11_shared_31 : decode cX11_shared 31 = .ok (.iconst (-1), 1) := by decide +kernel
theorem dX11_shared_32 : decode cX11_shared 32 = .ok (.if_icmp .ne 13, 3) := by decide +kernel
theorem dX11_shared_35 : decode cX11_shared 35 = .ok (.aload_n 0, 1) := by decide +kernel
theorem dX11_shared_36 : decode cX11_shared 36 = .ok (.getfield 35, 3) := by decide +kernel
theorem dX11_shared_39 : decode cX11_shared 39 = .ok (.getfield 272, 3) := by decide +kernel
theorem dX11_shared_42 : decode cX11_shared 42 = .ok (.goto 12, 3) := by decide +kernel
theorem dX11_shared_45 : decode cX11_shared 45 = .ok (.aload_n 0, 1) := by decide +kernel
theorem dX11_shared_46 : decode cX11_shared 46 = .ok (.getfield 35, 3) := by decide +kernel
theorem dX11_shared_49 : decode cX11_shared 49 = .ok (.getfield 274, 3) := by decide +kernel
theorem dX11_shared_52 : decode cX11_shared 52 = .ok (.iload_n 1, 1) := by decide +kernel
theorem dX11_shared_53 : decode cX11_shared 53 = .ok (.iaload, 1) := by decide +kernel
theorem dX11_shared_54 : decode cX11_shared 54 = .ok (.ireturn, 1) := by decide +kernel
theorem dX11_tell_0 : decode cX11_tell 0 = .ok (.iload_n 1, 1) := by decide +kernel
theorem dX11_tell_1 : decode cX11_tell 1 = .ok (.ifCond .lt 8, 3) := by decide +kernel
theorem dX11_tell_4 : decode cX11_tell 4 = .ok (.iload_n 1, 1) := by decide +kernel
theorem dX11_tell_5 : decode cX11_tell 5 = .ok (.iconst 1, 1) := by decide +kernel
theorem dX11_tell_6 : decode cX11_tell 6 = .ok (.if_icmp .le 5, 3) := by decide +kernel
theorem dX11_tell_9 : decode cX11_tell 9 = .ok (.iconst (-1), 1) := by decide +kernel
theorem dX11_tell_10 : decode cX11_tell 10 = .ok (.ireturn, 1) := by decide +kernel
theorem dX11_tell_11 : decode cX11_tell 11 = .ok (.iconst 0, 1) := by decide +kernel
theorem dX11_tell_12 : decode cX11_tell 12 = .ok (.istore_n 2, 1) := by decide +kernel
theorem dX11_tell_13 : decode cX11_tell 13 = .ok (.iconst 1, 1) := by decide +kernel
theorem dX11_tell_14 : decode cX11_tell 14 = .ok (.istore_n 3, 1) := by decide +kernel
theorem dX11_tell_15 : decode cX11_tell 15 = .ok (.iload_n 3, 1) := by decide +kernel
theorem dX11_tell_16 : decode cX11_tell 16 = .ok (.bipush 11, 2) := by decide +kernel
theorem dX11_tell_18 : decode cX11_tell 18 = .ok (.if_icmp .gt 30, 3) := by decide +kernel
theorem dX11_tell_21 : decode cX11_tell 21 = .ok (.aload_n 0, 1) := by decide +kernel
theorem dX11_tell_22 : decode cX11_tell 22 = .ok (.getfield 76, 3) := by decide +kernel
theorem dX11_tell_25 : decode cX11_tell 25 = .ok (.iload_n 3, 1) := by decide +kernel
theorem dX11_tell_26 : decode cX11_tell 26 = .ok (.invokevirtual 277, 3) := by decide +kernel
theorem dX11_tell_29 : decode cX11_tell 29 = .ok (.aload_n 0, 1) := by decide +kernel
theorem dX11_tell_30 : decode cX11_tell 30 = .ok (.getfield 76, 3) := by decide +kernel
theorem dX11_tell_33 : decode cX11_tell 33 = .ok (.iload_n 2, 1) := by decide +kernel
theorem dX11_tell_34 : decode cX11_tell 34 = .ok (.invokevirtual 277, 3) := by decide +kernel
theorem dX11_tell_37 : decode cX11_tell 37 = .ok (.if_icmp .ge 5, 3) := by decide +kernel
theorem dX11_tell_40 : decode cX11_tell 40 = .ok (.iload_n 3, 1) := by decide +kernel
theorem dX11_tell_41 : decode cX11_tell 41 = .ok (.istore_n 2, 1) := by decide +kernel
theorem dX11_tell_42 : decode cX11_tell 42 = .ok (.iinc 3 1, 3) := by decide +kernel
theorem dX11_tell_45 : decode cX11_tell 45 = .ok (.goto (-30), 3) := by decide +kernel
theorem dX11_tell_48 : decode cX11_tell 48 = .ok (.iload_n 1, 1) := by decide +kernel
theorem dX11_tell_49 : decode cX11_tell 49 = .ok (.ifCond .ne 7, 3) := by decide +kernel
theorem dX11_tell_52 : decode cX11_tell 52 = .ok (.iload_n 2, 1) := by decide +kernel
theorem dX11_tell_53 : decode cX11_tell 53 = .ok (.goto 11, 3) := by decide +kernel
theorem dX11_tell_56 : decode cX11_tell 56 = .ok (.aload_n 0, 1) := by decide +kernel
theorem dX11_tell_57 : decode cX11_tell 57 = .ok (.getfield 76, 3) := by decide +kernel
theorem dX11_tell_60 : decode cX11_tell 60 = .ok (.iload_n 2, 1) := by decide +kernel
theorem dX11_tell_61 : decode cX11_tell 61 = .ok (.invokevirtual 277, 3) := by decide +kernel
theorem dX11_tell_64 : decode cX11_tell 64 = .ok (.ireturn, 1) := by decide +kernel
theorem dX11_children_0 : decode cX11_children 0 = .ok (.iload_n 1, 1) := by decide +kernel
theorem dX11_children_1 : decode cX11_children 1 = .ok (.iconst (-1), 1) := by decide +kernel
theorem dX11_children_2 : decode cX11_children 2 = .ok (.if_icmp .eq 13, 3) := by decide +kernel
theorem dX11_children_5 : decode cX11_children 5 = .ok (.aload_n 0, 1) := by decide +kernel
theorem dX11_children_6 : decode cX11_children 6 = .ok (.iload_n 1, 1) := by decide +kernel
theorem dX11_children_7 : decode cX11_children 7 = .ok (.invokevirtual 169, 3) := by decide +kernel
theorem dX11_children_10 : decode cX11_children 10 = .ok (.ifCond .ne 5, 3) := by decide +kernel
theorem dX11_children_13 : decode cX11_children 13 = .ok (.iconst (-1), 1) := by decide +kernel
theorem dX11_children_14 : decode cX11_children 14 = .ok (.ireturn, 1) := by decide +kernel
theorem dX11_children_15 : decode cX11_children 15 = .ok (.aload_n 0, 1) := by decide +kernel
theorem dX11_children_16 : decode cX11_children 16 = .ok (.getfield 42, 3) := by decide +kernel
theorem dX11_children_19 : decode cX11_children 19 = .ok (.aload_n 0, 1) := by decide +kernel
theorem dX11_children_20 : decode cX11_children 20 = .ok (.getfield 76, 3) := by decide +kernel
theorem dX11_children_23 : decode cX11_children 23 = .ok (.invokevirtual 280, 3) := by decide +kernel
theorem dX11_children_26 : decode cX11_children 26 = .ok (.iload_n 1, 1) := by decide +kernel
theorem dX11_children_27 : decode cX11_children 27 = .ok (.iconst (-1), 1) := by decide +kernel
theorem dX11_children_28 : decode cX11_children 28 = .ok (.if_icmp .ne 13, 3) := by decide +kernel
theorem dX11_children_31 : decode cX11_children 31 = .ok (.aload_n 0, 1) := by decide +kernel
theorem dX11_children_32 : decode cX11_children 32 = .ok (.getfield 42, 3) := by decide +kernel
theorem dX11_children_35 : decode cX11_children 35 = .ok (.getfield 283, 3) := by decide +kernel
theorem dX11_children_38 : decode cX11_children 38 = .ok (.goto 12, 3) := by decide +kernel
theorem dX11_children_41 : decode cX11_children 41 = .ok (.aload_n 0, 1) := by decide +kernel
theorem dX11_children_42 : decode cX11_children 42 = .ok (.getfield 42, 3) := by decide +kernel
theorem dX11_children_45 : decode cX11_children 45 = .ok (.getfield 286, 3) := by decide +kernel
theorem dX11_children_48 : decode cX11_children 48 = .ok (.iload_n 1, 1) := by decide +kernel
theorem dX11_children_49 : decode cX11_children 49 = .ok (.iaload, 1) := by decide +kernel
theorem dX11_children_50 : decode cX11_children 50 = .ok (.ireturn, 1) := by decide +kernel
theorem dX11_see_0 : decode cX11_see 0 = .ok (.aload_n 0, 1) := by decide +kernel
theorem dX11_see_1 : decode cX11_see 1 = .ok (.getfield 12, 3) := by decide +kernel
theorem dX11_see_4 : decode cX11_see 4 = .ok (.getfield 105, 3) := by decide +kernel
theorem dX11_see_7 : decode cX11_see 7 = .ok (.iconst 3, 1) := by decide +kernel
theorem dX11_see_8 : decode cX11_see 8 = .ok (.idiv, 1) := by decide +kernel
theorem dX11_see_9 : decode cX11_see 9 = .ok (.istore_n 1, 1) := by decide +kernel
theorem dX11_see_10 : decode cX11_see 10 = .ok (.aload_n 0, 1) := by decide +kernel
theorem dX11_see_11 : decode cX11_see 11 = .ok (.getfield 12, 3) := by decide +kernel
theorem dX11_see_14 : decode cX11_see 14 = .ok (.getfield 105, 3) := by decide +kernel
theorem dX11_see_17 : decode cX11_see 17 = .ok (.iconst 3, 1) := by decide +kernel
theorem dX11_see_18 : decode cX11_see 18 = .ok (.irem, 1) := by decide +kernel
theorem dX11_see_19 : decode cX11_see 19 = .ok (.ifCond .ne 26, 3) := by decide +kernel
theorem dX11_see_22 : decode cX11_see 22 = .ok (.iload_n 1, 1) := by decide +kernel
theorem dX11_see_23 : decode cX11_see 23 = .ok (.iconst 1, 1) := by decide +kernel
theorem dX11_see_24 : decode cX11_see 24 = .ok (.if_icmp .lt 21, 3) := by decide +kernel
theorem dX11_see_27 : decode cX11_see 27 = .ok (.iload_n 1, 1) := by decide +kernel
theorem dX11_see_28 : decode cX11_see 28 = .ok (.bipush 16, 2) := by decide +kernel
theorem dX11_see_30 : decode cX11_see 30 = .ok (.if_icmp .gt 15, 3) := by decide +kernel
theorem dX11_see_33 : decode cX11_see 33 = .ok (.aload_n 0, 1) := by decide +kernel
theorem dX11_see_34 : decode cX11_see 34 = .ok (.iload_n 1, 1) := by decide +kernel
theorem dX11_see_35 : decode cX11_see 35 = .ok (.invokevirtual 289, 3) := by decide +kernel
theorem dX11_see_38 : decode cX11_see 38 = .ok (.ifCond .eq 7, 3) := by decide +kernel
theorem dX11_see_41 : decode cX11_see 41 = .ok (.iconst 1, 1) := by decide +kernel
theorem dX11_see_42 : decode cX11_see 42 = .ok (.goto 4, 3) := by decide +kernel
theorem dX11_see_45 : decode cX11_see 45 = .ok (.iconst 0, 1) := by decide +kernel
theorem dX11_see_46 : decode cX11_see 46 = .ok (.istore_n 2, 1) := by decide +kernel
theorem dX11_see_47 : decode cX11_see 47 = .ok (.aload_n 0, 1) := by decide +kernel
theorem dX11_see_48 : decode cX11_see 48 = .ok (.getfield 12, 3) := by decide +kernel
theorem dX11_see_51 : decode cX11_see 51 = .ok (.iconst 0, 1) := by decide +kernel
theorem dX11_see_52 : decode cX11_see 52 = .ok (.putfield 105, 3) := by decide +kernel
theorem dX11_see_55 : decode cX11_see 55 = .ok (.iload_n 2, 1) := by decide +kernel
theorem dX11_see_56 : decode cX11_see 56 = .ok (.ifCond .ne 9, 3) := by decide +kernel
theorem dX11_see_59 : decode cX11_see 59 = .ok (.aload_n 0, 1) := by decide +kernel
theorem dX11_see_60 : decode cX11_see 60 = .ok (.iconst 1, 1) := by decide +kernel
theorem dX11_see_61 : decode cX11_see 61 = .ok (.invokevirtual 108, 3) := by decide +kernel
theorem dX11_see_64 : decode cX11_see 64 = .ok (.ireturn, 1) := by decide +kernel
theorem dX11_see_65 : decode cX11_see 65 = .ok (.iconst 0, 1) := by decide +kernel
theorem dX11_see_66 : decode cX11_see 66 = .ok (.istore_n 3, 1) := by decide +kernel
theorem dX11_see_67 : decode cX11_see 67 = .ok (.iload_n 3, 1) := by decide +kernel
theorem dX11_see_68 : decode cX11_see 68 = .ok (.iload_n 1, 1) := by decide +kernel
theorem dX11_see_69 : decode cX11_see 69 = .ok (.if_icmp .ge 44, 3) := by decide +kernel
theorem dX11_see_72 : decode cX11_see 72 = .ok (.aload_n 0, 1) := by decide +kernel
theorem dX11_see_73 : decode cX11_see 73 = .ok (.getfield 60, 3) := by decide +kernel
theorem dX11_see_76 : decode cX11_see 76 = .ok (.iload_n 3, 1) := by decide +kernel
theorem dX11_see_77 : decode cX11_see 77 = .ok (.aload_n 0, 1) := by decide +kernel
theorem dX11_see_78 : decode cX11_see 78 = .ok (.getfield 12, 3) := by decide +kernel
theorem dX11_see_81 : decode cX11_see 81 = .ok (.getfield 292, 3) := by decide +kernel
theorem dX11_see_84 : decode cX11_see 84 = .ok (.iconst 3, 1) := by decide +kernel
theorem dX11_see_85 : decode cX11_see 85 = .ok (.iload_n 3, 1) := by decide +kernel
theorem dX11_see_86 : decode cX11_see 86 = .ok (.imul, 1) := by decide +kernel
theorem dX11_see_87 : decode cX11_see 87 = .ok (.iaload, 1) := by decide +kernel
theorem dX11_see_88 : decode cX11_see 88 = .ok (.iastore, 1) := by decide +kernel
theorem dX11_see_89 : decode cX11_see 89 = .ok (.aload_n 0, 1) := by decide +kernel
theorem dX11_see_90 : decode cX11_see 90 = .ok (.getfield 64, 3) := by decide +kernel
theorem dX11_see_93 : decode cX11_see 93 = .ok (.iload_n 3, 1) := by decide +kernel
theorem dX11_see_94 : decode cX11_see 94 = .ok (.aload_n 0, 1) := by decide +kernel
theorem dX11_see_95 : decode cX11_see 95 = .ok (.getfield 12, 3) := by decide +kernel
theorem dX11_see_98 : decode cX11_see 98 = .ok (.iconst 3, 1) := by decide +kernel
theorem dX11_see_99 : decode cX11_see 99 = .ok (.iload_n 3, 1) := by decide +kernel
theorem dX11_see_100 : decode cX11_see 100 = .ok (.imul, 1) := by decide +kernel
theorem dX11_see_101 : decode cX11_see 101 = .ok (.iconst 1, 1) := by decide +kernel
theorem dX11_see_102 : decode cX11_see 102 = .ok (.iadd, 1) := by decide +kernel
theorem dX11_see_103 : decode cX11_see 103 = .ok (.invokevirtual 295, 3) := by decide +kernel
theorem dX11_see_106 : decode cX11_see 106 = .ok (.iastore, 1) := by decide +kernel
theorem dX11_see_107 : decode cX11_see 107 = .ok (.iinc 3 1, 3) := by decide +kernel
theorem dX11_see_110 : decode cX11_see 110 = .ok (.goto (-43), 3) := by decide +kernel
theorem dX11_see_113 : decode cX11_see 113 = .ok (.aload_n 0, 1) := by decide +kernel
theorem dX11_see_114 : decode cX11_see 114 = .ok (.iload_n 1, 1) := by decide +kernel
theorem dX11_see_115 : decode cX11_see 115 = .ok (.putfield 134, 3) := by decide +kernel
theorem dX11_see_118 : decode cX11_see 118 = .ok (.iload_n 1, 1) := by decide +kernel
theorem dX11_see_119 : decode cX11_see 119 = .ok (.ireturn, 1) := by decide +kernel
theorem dX11_whose_0 : decode cX11_whose 0 = .ok (.iconst 0, 1) := by decide +kernel
theorem dX11_whose_1 : decode cX11_whose 1 = .ok (.istore_n 1, 1) := by decide +kernel
theorem dX11_whose_2 : decode cX11_whose 2 = .ok (.iconst 0, 1) := by decide +kernel
theorem dX11_whose_3 : decode cX11_whose 3 = .ok (.istore_n 2, 1) := by decide +kernel
theorem dX11_whose_4 : decode cX11_whose 4 = .ok (.iload_n 2, 1) := by decide +kernel
theorem dX11_whose_5 : decode cX11_whose 5 = .ok (.aload_n 0, 1) := by decide +kernel
theorem dX11_whose_6 : decode cX11_whose 6 = .ok (.getfield 76, 3) := by decide +kernel
theorem dX11_whose_9 : decode cX11_whose 9 = .ok (.getfield 146, 3) := by decide +kernel
theorem dX11_whose_12 : decode cX11_whose 12 = .ok (.iconst 2, 1) := by decide +kernel
theorem dX11_whose_13 : decode cX11_whose 13 = .ok (.iaload, 1) := by decide +kernel
theorem dX11_whose_14 : decode cX11_whose 14 = .ok (.if_icmp .ge 23, 3) := by decide +kernel
theorem dX11_whose_17 : decode cX11_whose 17 = .ok (.aload_n 0, 1) := by decide +kernel
theorem dX11_whose_18 : decode cX11_whose 18 = .ok (.iload_n 2, 1) := by decide +kernel
theorem dX11_whose_19 : decode cX11_whose 19 = .ok (.invokevirtual 298, 3) := by decide +kernel
theorem dX11_whose_22 : decode cX11_whose 22 = .ok (.ifCond .eq 9, 3) := by decide +kernel
theorem dX11_whose_25 : decode cX11_whose 25 = .ok (.iload_n 1, 1) := by decide +kernel
theorem dX11_whose_26 : decode cX11_whose 26 = .ok (.iconst 1, 1) := by decide +kernel
theorem dX11_whose_27 : decode cX11_whose 27 = .ok (.iload_n 2, 1) := by decide +kernel
theorem dX11_whose_28 : decode cX11_whose 28 = .ok (.ishl, 1) := by decide +kernel
theorem dX11_whose_29 : decode cX11_whose 29 = .ok (.ior, 1) := by decide +kernel
theorem dX11_whose_30 : decode cX11_whose 30 = .ok (.istore_n 1, 1) := by decide +kernel
theorem dX11_whose_31 : decode cX11_whose 31 = .ok (.iinc 2 1, 3) := by decide +kernel
theorem dX11_whose_34 : decode cX11_whose 34 = .ok (.goto (-30), 3) := by decide +kernel
theorem dX11_whose_37 : decode cX11_whose 37 = .ok (.iload_n 1, 1) := by decide +kernel
theorem dX11_whose_38 : decode cX11_whose 38 = .ok (.ireturn, 1) := by decide +kernel
theorem dX11_watched_0 : decode cX11_watched 0 = .ok (.aload_n 0, 1) := by decide +kernel
theorem dX11_watched_1 : decode cX11_watched 1 = .ok (.invokevirtual 301, 3) := by decide +kernel
theorem dX11_watched_4 : decode cX11_watched 4 = .ok (.istore_n 2, 1) := by decide +kernel
theorem dX11_watched_5 : decode cX11_watched 5 = .ok (.aload_n 0, 1) := by decide +kernel
theorem dX11_watched_6 : decode cX11_watched 6 = .ok (.getfield 76, 3) := by decide +kernel
theorem dX11_watched_9 : decode cX11_watched 9 = .ok (.getfield 146, 3) := by decide +kernel
theorem dX11_watched_12 : decode cX11_watched 12 = .ok (.iconst 0, 1) := by decide +kernel
theorem dX11_watched_13 : decode cX11_watched 13 = .ok (.iaload, 1) := by decide +kernel
theorem dX11_watched_14 : decode cX11_watched 14 = .ok (.istore_n 3, 1) := by decide +kernel
theorem dX11_watched_15 : decode cX11_watched 15 = .ok (.iload_n 1, 1) := by decide +kernel
theorem dX11_watched_16 : decode cX11_watched 16 = .ok (.ifCond .lt 16, 3) := by decide +kernel
theorem dX11_watched_19 : decode cX11_watched 19 = .ok (.iload_n 1, 1) := by decide +kernel
theorem dX11_watched_20 : decode cX11_watched 20 = .ok (.iconst 1, 1) := by decide +kernel
theorem dX11_watched_21 : decode cX11_watched 21 = .ok (.if_icmp .gt 11, 3) := by decide +kernel
theorem dX11_watched_24 : decode cX11_watched 24 = .ok (.iload_n 2, 1) := by decide +kernel
theorem dX11_watched_25 : decode cX11_watched 25 = .ok (.ifCond .eq 7, 3) := by decide +kernel
theorem dX11_watched_28 : decode cX11_watched 28 = .ok (.iload_n 3, 1) := by decide +kernel
theorem dX11_watched_29 : decode cX11_watched 29 = .ok (.ifCond .ne 5, 3) := by decide +kernel
theorem dX11_watched_32 : decode cX11_watched 32 = .ok (.iconst (-1), 1) := by decide +kernel
theorem dX11_watched_33 : decode cX11_watched 33 = .ok (.ireturn, 1) := by decide +kernel
theorem dX11_watched_34 : decode cX11_watched 34 = .ok (.iconst 0, 1) := by decide +kernel
theorem dX11_watched_35 : decode cX11_watched 35 = .ok (.istore 4, 2) := by decide +kernel
theorem dX11_watched_37 : decode cX11_watched 37 = .ok (.aload_n 0, 1) := by decide +kernel
theorem dX11_watched_38 : decode cX11_watched 38 = .ok (.iconst 0, 1) := by decide +kernel
theorem dX11_watched_39 : decode cX11_watched 39 = .ok (.iload_n 2, 1) := by decide +kernel
theorem dX11_watched_40 : decode cX11_watched 40 = .ok (.invokevirtual 304, 3) := by decide +kernel
theorem dX11_watched_43 : decode cX11_watched 43 = .ok (.istore 5, 2) := by decide +kernel
theorem dX11_watched_45 : decode cX11_watched 45 = .ok (.iconst 1, 1) := by decide +kernel
theorem dX11_watched_46 : decode cX11_watched 46 = .ok (.istore 6, 2) := by decide +kernel
theorem dX11_watched_48 : decode cX11_watched 48 = .ok (.iload 6, 2) := by decide +kernel
theorem dX11_watched_50 : decode cX11_watched 50 = .ok (.iload_n 3, 1) := by decide +kernel
theorem dX11_watched_51 : decode cX11_watched 51 = .ok (.if_icmp .ge 33, 3) := by decide +kernel
theorem dX11_watched_54 : decode cX11_watched 54 = .ok (.aload_n 0, 1) := by decide +kernel
theorem dX11_watched_55 : decode cX11_watched 55 = .ok (.iload 6, 2) := by decide +kernel
theorem dX11_watched_57 : decode cX11_watched 57 = .ok (.iload_n 2, 1) := by decide +kernel
theorem dX11_watched_58 : decode cX11_watched 58 = .ok (.invokevirtual 304, 3) := by decide +kernel
theorem dX11_watched_61 : decode cX11_watched 61 = .ok (.istore 7, 2) := by decide +kernel
theorem dX11_watched_63 : decode cX11_watched 63 = .ok (.iload 7, 2) := by decide +kernel
theorem dX11_watched_65 : decode cX11_watched 65 = .ok (.iload 5, 2) := by decide +kernel
theorem dX11_watched_67 : decode cX11_watched 67 = .ok (.if_icmp .ge 11, 3) := by decide +kernel
theorem dX11_watched_70 : decode cX11_watched 70 = .ok (.iload 7, 2) := by decide +kernel
theorem dX11_watched_72 : decode cX11_watched 72 = .ok (.istore 5, 2) := by decide +kernel
theorem dX11_watched_74 : decode cX11_watched 74 = .ok (.iload 6, 2) := by decide +kernel
theorem dX11_watched_76 : decode cX11_watched 76 = .ok (.istore 4, 2) := by decide +kernel
theorem dX11_watched_78 : decode cX11_watched 78 = .ok (.iinc 6 1, 3) := by decide +kernel
theorem dX11_watched_81 : decode cX11_watched 81 = .ok (.goto (-33), 3) := by decide +kernel
theorem dX11_watched_84 : decode cX11_watched 84 = .ok (.iload_n 1, 1) := by decide +kernel
theorem dX11_watched_85 : decode cX11_watched 85 = .ok (.ifCond .ne 8, 3) := by decide +kernel
theorem dX11_watched_88 : decode cX11_watched 88 = .ok (.iload 4, 2) := by decide +kernel
theorem dX11_watched_90 : decode cX11_watched 90 = .ok (.goto 5, 3) := by decide +kernel
theorem dX11_watched_93 : decode cX11_watched 93 = .ok (.iload 5, 2) := by decide +kernel
theorem dX11_watched_95 : decode cX11_watched 95 = .ok (.ireturn, 1) := by decide +kernel
theorem dX11_answer_0 : decode cX11_answer 0 = .ok (.aload_n 0, 1) := by decide +kernel
theorem dX11_answer_1 : decode cX11_answer 1 = .ok (.iload_n 1, 1) := by decide +kernel
theorem dX11_answer_2 : decode cX11_answer 2 = .ok (.invokevirtual 169, 3) := by decide +kernel
theorem dX11_answer_5 : decode cX11_answer 5 = .ok (.ifCond .eq 11, 3) := by decide +kernel
theorem dX11_answer_8 : decode cX11_answer 8 = .ok (.aload_n 0, 1) := by decide +kernel
theorem dX11_answer_9 : decode cX11_answer 9 = .ok (.iload_n 2, 1) := by decide +kernel
theorem dX11_answer_10 : decode cX11_answer 10 = .ok (.invokevirtual 205, 3) := by decide +kernel
theorem dX11_answer_13 : decode cX11_answer 13 = .ok (.ifCond .ne 9, 3) := by decide +kernel
theorem dX11_answer_16 : decode cX11_answer 16 = .ok (.aload_n 0, 1) := by decide +kernel
theorem dX11_answer_17 : decode cX11_answer 17 = .ok (.iconst 2, 1) := by decide +kernel
theorem dX11_answer_18 : decode cX11_answer 18 = .ok (.invokevirtual 108, 3) := by decide +kernel
theorem dX11_answer_21 : decode cX11_answer 21 = .ok (.ireturn, 1) := by decide +kernel
theorem dX11_answer_22 : decode cX11_answer 22 = .ok (.aload_n 0, 1) := by decide +kernel
theorem dX11_answer_23 : decode cX11_answer 23 = .ok (.getfield 19, 3) := by decide +kernel
theorem dX11_answer_26 : decode cX11_answer 26 = .ok (.aload_n 0, 1) := by decide +kernel
theorem dX11_answer_27 : decode cX11_answer 27 = .ok (.getfield 76, 3) := by decide +kernel
theorem dX11_answer_30 : decode cX11_answer 30 = .ok (.aload_n 0, 1) := by decide +kernel
theorem dX11_answer_31 : decode cX11_answer 31 = .ok (.getfield 49, 3) := by decide +kernel
theorem dX11_answer_34 : decode cX11_answer 34 = .ok (.iload_n 1, 1) := by decide +kernel
theorem dX11_answer_35 : decode cX11_answer 35 = .ok (.iload_n 2, 1) := by decide +kernel
theorem dX11_answer_36 : decode cX11_answer 36 = .ok (.invokevirtual 232, 3) := by decide +kernel
theorem dX11_answer_39 : decode cX11_answer 39 = .ok (.istore_n 3, 1) := by decide +kernel
theorem dX11_answer_40 : decode cX11_answer 40 = .ok (.iload_n 3, 1) := by decide +kernel
theorem dX11_answer_41 : decode cX11_answer 41 = .ok (.iconst (-1), 1) := by decide +kernel
theorem dX11_answer_42 : decode cX11_answer 42 = .ok (.if_icmp .ne 9, 3) := by decide +kernel
theorem dX11_answer_45 : decode cX11_answer 45 = .ok (.aload_n 0, 1) := by decide +kernel
theorem dX11_answer_46 : decode cX11_answer 46 = .ok (.iconst 2, 1) := by decide +kernel
theorem dX11_answer_47 : decode cX11_answer 47 = .ok (.invokevirtual 108, 3) := by decide +kernel
theorem dX11_answer_50 : decode cX11_answer 50 = .ok (.ireturn, 1) := by decide +kernel
theorem dX11_answer_51 : decode cX11_answer 51 = .ok (.aload_n 0, 1) := by decide +kernel
theorem dX11_answer_52 : decode cX11_answer 52 = .ok (.invokevirtual 307, 3) := by decide +kernel
theorem dX11_answer_55 : decode cX11_answer 55 = .ok (.aload_n 0, 1) := by decide +kernel
theorem dX11_answer_56 : decode cX11_answer 56 = .ok (.getfield 49, 3) := by decide +kernel
theorem dX11_answer_59 : decode cX11_answer 59 = .ok (.getfield 181, 3) := by decide +kernel
theorem dX11_answer_62 : decode cX11_answer 62 = .ok (.iload_n 1, 1) := by decide +kernel
theorem dX11_answer_63 : decode cX11_answer 63 = .ok (.iload_n 2, 1) := by decide +kernel
theorem dX11_answer_64 : decode cX11_answer 64 = .ok (.iastore, 1) := by decide +kernel
theorem dX11_answer_65 : decode cX11_answer 65 = .ok (.aload_n 0, 1) := by decide +kernel
theorem dX11_answer_66 : decode cX11_answer 66 = .ok (.getfield 49, 3) := by decide +kernel
theorem dX11_answer_69 : decode cX11_answer 69 = .ok (.getfield 217, 3) := by decide +kernel
theorem dX11_answer_72 : decode cX11_answer 72 = .ok (.iload_n 2, 1) := by decide +kernel
theorem dX11_answer_73 : decode cX11_answer 73 = .ok (.dup2, 1) := by decide +kernel
theorem dX11_answer_74 : decode cX11_answer 74 = .ok (.iaload, 1) := by decide +kernel
theorem dX11_answer_75 : decode cX11_answer 75 = .ok (.iload_n 3, 1) := by decide +kernel
theorem dX11_answer_76 : decode cX11_answer 76 = .ok (.isub, 1) := by decide +kernel
theorem dX11_answer_77 : decode cX11_answer 77 = .ok (.iastore, 1) := by decide +kernel
theorem dX11_answer_78 : decode cX11_answer 78 = .ok (.iload_n 3, 1) := by decide +kernel
theorem dX11_answer_79 : decode cX11_answer 79 = .ok (.ireturn, 1) := by decide +kernel
theorem dX11_sheet_0 : decode cX11_sheet 0 = .ok (.aload_n 0, 1) := by decide +kernel
theorem dX11_sheet_1 : decode cX11_sheet 1 = .ok (.iload_n 1, 1) := by decide +kernel
theorem dX11_sheet_2 : decode cX11_sheet 2 = .ok (.invokevirtual 169, 3) := by decide +kernel
theorem dX11_sheet_5 : decode cX11_sheet 5 = .ok (.ifCond .eq 13, 3) := by decide +kernel
theorem dX11_sheet_8 : decode cX11_sheet 8 = .ok (.iload_n 2, 1) := by decide +kernel
theorem dX11_sheet_9 : decode cX11_sheet 9 = .ok (.iconst 1, 1) := by decide +kernel
theorem dX11_sheet_10 : decode cX11_sheet 10 = .ok (.if_icmp .lt 8, 3) := by decide +kernel
theorem dX11_sheet_13 : decode cX11_sheet 13 = .ok (.iload_n 2, 1) := by decide +kernel
theorem dX11_sheet_14 : decode cX11_sheet 14 = .ok (.iconst 4, 1) := by decide +kernel
theorem dX11_sheet_15 : decode cX11_sheet 15 = .ok (.if_icmp .le 9, 3) := by decide +kernel
theorem dX11_sheet_18 : decode cX11_sheet 18 = .ok (.aload_n 0, 1) := by decide +kernel
theorem dX11_sheet_19 : decode cX11_sheet 19 = .ok (.iconst 2, 1) := by decide +kernel
theorem dX11_sheet_20 : decode cX11_sheet 20 = .ok (.invokevirtual 116, 3) := by decide +kernel
theorem dX11_sheet_23 : decode cX11_sheet 23 = .ok (.ireturn, 1) := by decide +kernel
theorem dX11_sheet_24 : decode cX11_sheet 24 = .ok (.aload_n 0, 1) := by decide +kernel
theorem dX11_sheet_25 : decode cX11_sheet 25 = .ok (.getfield 49, 3) := by decide +kernel
theorem dX11_sheet_28 : decode cX11_sheet 28 = .ok (.getfield 184, 3) := by decide +kernel
theorem dX11_sheet_31 : decode cX11_sheet 31 = .ok (.iload_n 1, 1) := by decide +kernel
theorem dX11_sheet_32 : decode cX11_sheet 32 = .ok (.iaload, 1) := by decide +kernel
theorem dX11_sheet_33 : decode cX11_sheet 33 = .ok (.iload_n 2, 1) := by decide +kernel
theorem dX11_sheet_34 : decode cX11_sheet 34 = .ok (.if_icmp .eq 19, 3) := by decide +kernel
theorem dX11_sheet_37 : decode cX11_sheet 37 = .ok (.aload_n 0, 1) := by decide +kernel
theorem dX11_sheet_38 : decode cX11_sheet 38 = .ok (.getfield 49, 3) := by decide +kernel
theorem dX11_sheet_41 : decode cX11_sheet 41 = .ok (.aload_n 0, 1) := by decide +kernel
theorem dX11_sheet_42 : decode cX11_sheet 42 = .ok (.getfield 76, 3) := by decide +kernel
theorem dX11_sheet_45 : decode cX11_sheet 45 = .ok (.iload_n 1, 1) := by decide +kernel
theorem dX11_sheet_46 : decode cX11_sheet 46 = .ok (.iload_n 2, 1) := by decide +kernel
theorem dX11_sheet_47 : decode cX11_sheet 47 = .ok (.invokevirtual 310, 3) := by decide +kernel
theorem dX11_sheet_50 : decode cX11_sheet 50 = .ok (.ifCond .eq 9, 3) := by decide +kernel
theorem dX11_sheet_53 : decode cX11_sheet 53 = .ok (.aload_n 0, 1) := by decide +kernel
theorem dX11_sheet_54 : decode cX11_sheet 54 = .ok (.iconst 2, 1) := by decide +kernel
theorem dX11_sheet_55 : decode cX11_sheet 55 = .ok (.invokevirtual 116, 3) := by decide +kernel
theorem dX11_sheet_58 : decode cX11_sheet 58 = .ok (.ireturn, 1) := by decide +kernel
theorem dX11_sheet_59 : decode cX11_sheet 59 = .ok (.aload_n 0, 1) := by decide +kernel
theorem dX11_sheet_60 : decode cX11_sheet 60 = .ok (.invokevirtual 307, 3) := by decide +kernel
theorem dX11_sheet_63 : decode cX11_sheet 63 = .ok (.aload_n 0, 1) := by decide +kernel
theorem dX11_sheet_64 : decode cX11_sheet 64 = .ok (.getfield 49, 3) := by decide +kernel
theorem dX11_sheet_67 : decode cX11_sheet 67 = .ok (.getfield 184, 3) := by decide +kernel
theorem dX11_sheet_70 : decode cX11_sheet 70 = .ok (.iload_n 1, 1) := by decide +kernel
theorem dX11_sheet_71 : decode cX11_sheet 71 = .ok (.iload_n 2, 1) := by decide +kernel
theorem dX11_sheet_72 : decode cX11_sheet 72 = .ok (.iastore, 1) := by decide +kernel
theorem dX11_sheet_73 : decode cX11_sheet 73 = .ok (.iconst 1, 1) := by decide +kernel
theorem dX11_sheet_74 : decode cX11_sheet 74 = .ok (.ireturn, 1) := by decide +kernel
theorem dX11_give_0 : decode cX11_give 0 = .ok (.aload_n 0, 1) := by decide +kernel
theorem dX11_give_1 : decode cX11_give 1 = .ok (.iload_n 1, 1) := by decide +kernel
theorem dX11_give_2 : decode cX11_give 2 = .ok (.invokevirtual 169, 3) := by decide +kernel
theorem dX11_give_5 : decode cX11_give 5 = .ok (.ifCond .eq 11, 3) := by decide +kernel
theorem dX11_give_8 : decode cX11_give 8 = .ok (.aload_n 0, 1) := by decide +kernel
theorem dX11_give_9 : decode cX11_give 9 = .ok (.iload_n 2, 1) := by decide +kernel
theorem dX11_give_10 : decode cX11_give 10 = .ok (.invokevirtual 196, 3) := by decide +kernel
theorem dX11_give_13 : decode cX11_give 13 = .ok (.ifCond .ne 9, 3) := by decide +kernel
theorem dX11_give_16 : decode cX11_give 16 = .ok (.aload_n 0, 1) := by decide +kernel
theorem dX11_give_17 : decode cX11_give 17 = .ok (.iconst 2, 1) := by decide +kernel
theorem dX11_give_18 : decode cX11_give 18 = .ok (.invokevirtual 108, 3) := by decide +kernel
theorem dX11_give_21 : decode cX11_give 21 = .ok (.ireturn, 1) := by decide +kernel
theorem dX11_give_22 : decode cX11_give 22 = .ok (.aload_n 0, 1) := by decide +kernel
theorem dX11_give_23 : decode cX11_give 23 = .ok (.getfield 49, 3) := by decide +kernel
theorem dX11_give_26 : decode cX11_give 26 = .ok (.getfield 187, 3) := by decide +kernel
theorem dX11_give_29 : decode cX11_give 29 = .ok (.iload_n 1, 1) := by decide +kernel
theorem dX11_give_30 : decode cX11_give 30 = .ok (.iaload, 1) := by decide +kernel
theorem dX11_give_31 : decode cX11_give 31 = .ok (.iconst (-1), 1) := by decide +kernel
theorem dX11_give_32 : decode cX11_give 32 = .ok (.if_icmp .ne 15, 3) := by decide +kernel
theorem dX11_give_35 : decode cX11_give 35 = .ok (.aload_n 0, 1) := by decide +kernel
theorem dX11_give_36 : decode cX11_give 36 = .ok (.getfield 49, 3) := by decide +kernel
theorem dX11_give_39 : decode cX11_give 39 = .ok (.getfield 199, 3) := by decide +kernel
theorem dX11_give_42 : decode cX11_give 42 = .ok (.iload_n 2, 1) := by decide +kernel
theorem dX11_give_43 : decode cX11_give 43 = .ok (.iaload, 1) := by decide +kernel
theorem dX11_give_44 : decode cX11_give 44 = .ok (.ifCond .gt 9, 3) := by decide +kernel
theorem dX11_give_47 : decode cX11_give 47 = .ok (.aload_n 0, 1) := by decide +kernel
theorem dX11_give_48 : decode cX11_give 48 = .ok (.iconst 2, 1) := by decide +kernel
theorem dX11_give_49 : decode cX11_give 49 = .ok (.invokevirtual 108, 3) := by decide +kernel
theorem dX11_give_52 : decode cX11_give 52 = .ok (.ireturn, 1) := by decide +kernel
theorem dX11_give_53 : decode cX11_give 53 = .ok (.aload_n 0, 1) := by decide +kernel
theorem dX11_give_54 : decode cX11_give 54 = .ok (.invokevirtual 307, 3) := by decide +kernel
theorem dX11_give_57 : decode cX11_give 57 = .ok (.aload_n 0, 1) := by decide +kernel
theorem dX11_give_58 : decode cX11_give 58 = .ok (.getfield 49, 3) := by decide +kernel
theorem dX11_give_61 : decode cX11_give 61 = .ok (.getfield 187, 3) := by decide +kernel
theorem dX11_give_64 : decode cX11_give 64 = .ok (.iload_n 1, 1) := by decide +kernel
theorem dX11_give_65 : decode cX11_give 65 = .ok (.iload_n 2, 1) := by decide +kernel
theorem dX11_give_66 : decode cX11_give 66 = .ok (.iastore, 1) := by decide +kernel
theorem dX11_give_67 : decode cX11_give 67 = .ok (.aload_n 0, 1) := by decide +kernel
theorem dX11_give_68 : decode cX11_give 68 = .ok (.getfield 49, 3) := by decide +kernel
theorem dX11_give_71 : decode cX11_give 71 = .ok (.getfield 199, 3) := by decide +kernel
theorem dX11_give_74 : decode cX11_give 74 = .ok (.iload_n 2, 1) := by decide +kernel
theorem dX11_give_75 : decode cX11_give 75 = .ok (.dup2, 1) := by decide +kernel
theorem dX11_give_76 : decode cX11_give 76 = .ok (.iaload, 1) := by decide +kernel
theorem dX11_give_77 : decode cX11_give 77 = .ok (.iconst 1, 1) := by decide +kernel
theorem dX11_give_78 : decode cX11_give 78 = .ok (.isub, 1) := by decide +kernel
theorem dX11_give_79 : decode cX11_give 79 = .ok (.iastore, 1) := by decide +kernel
theorem dX11_give_80 : decode cX11_give 80 = .ok (.aload_n 0, 1) := by decide +kernel
theorem dX11_give_81 : decode cX11_give 81 = .ok (.getfield 49, 3) := by decide +kernel
theorem dX11_give_84 : decode cX11_give 84 = .ok (.getfield 199, 3) := by decide +kernel
theorem dX11_give_87 : decode cX11_give 87 = .ok (.iload_n 2, 1) := by decide +kernel
theorem dX11_give_88 : decode cX11_give 88 = .ok (.iaload, 1) := by decide +kernel
theorem dX11_give_89 : decode cX11_give 89 = .ok (.ireturn, 1) := by decide +kernel
theorem dX11_evenings_0 : decode cX11_evenings 0 = .ok (.aload_n 0, 1) := by decide +kernel
theorem dX11_evenings_1 : decode cX11_evenings 1 = .ok (.iload_n 1, 1) := by decide +kernel
theorem dX11_evenings_2 : decode cX11_evenings 2 = .ok (.invokevirtual 314, 3) := by decide +kernel
theorem dX11_evenings_5 : decode cX11_evenings 5 = .ok (.ifCond .ne 9, 3) := by decide +kernel
theorem dX11_evenings_8 : decode cX11_evenings 8 = .ok (.aload_n 0, 1) := by decide +kernel
theorem dX11_evenings_9 : decode cX11_evenings 9 = .ok (.iconst 3, 1) := by decide +kernel
theorem dX11_evenings_10 : decode cX11_evenings 10 = .ok (.invokevirtual 108, 3) := by decide +kernel
theorem dX11_evenings_13 : decode cX11_evenings 13 = .ok (.ireturn, 1) := by decide +kernel
theorem dX11_evenings_14 : decode cX11_evenings 14 = .ok (.aload_n 0, 1) := by decide +kernel
theorem dX11_evenings_15 : decode cX11_evenings 15 = .ok (.invokevirtual 307, 3) := by decide +kernel
theorem dX11_evenings_18 : decode cX11_evenings 18 = .ok (.iconst 0, 1) := by decide +kernel
theorem dX11_evenings_19 : decode cX11_evenings 19 = .ok (.istore_n 2, 1) := by decide +kernel
theorem dX11_evenings_20 : decode cX11_evenings 20 = .ok (.iconst 0, 1) := by decide +kernel
theorem dX11_evenings_21 : decode cX11_evenings 21 = .ok (.istore_n 3, 1) := by decide +kernel
theorem dX11_evenings_22 : decode cX11_evenings 22 = .ok (.iload_n 3, 1) := by decide +kernel
theorem dX11_evenings_23 : decode cX11_evenings 23 = .ok (.iload_n 1, 1) := by decide +kernel
theorem dX11_evenings_24 : decode cX11_evenings 24 = .ok (.if_icmp .ge 49, 3) := by decide +kernel
theorem dX11_evenings_27 : decode cX11_evenings 27 = .ok (.aload_n 0, 1) := by decide +kernel
theorem dX11_evenings_28 : decode cX11_evenings 28 = .ok (.getfield 28, 3) := by decide +kernel
theorem dX11_evenings_31 : decode cX11_evenings 31 = .ok (.aload_n 0, 1) := by decide +kernel
theorem dX11_evenings_32 : decode cX11_evenings 32 = .ok (.getfield 76, 3) := by decide +kernel
theorem dX11_evenings_35 : decode cX11_evenings 35 = .ok (.aload_n 0, 1) := by decide +kernel
theorem dX11_evenings_36 : decode cX11_evenings 36 = .ok (.getfield 49, 3) := by decide +kernel
theorem dX11_evenings_39 : decode cX11_evenings 39 = .ok (.invokevirtual 235, 3) := by decide +kernel
theorem dX11_evenings_42 : decode cX11_evenings 42 = .ok (.aload_n 0, 1) := by decide +kernel
theorem dX11_evenings_43 : decode cX11_evenings 43 = .ok (.getfield 28, 3) := by decide +kernel
theorem dX11_evenings_46 : decode cX11_evenings 46 = .ok (.aload_n 0, 1) := by decide +kernel
theorem dX11_evenings_47 : decode cX11_evenings 47 = .ok (.getfield 76, 3) := by decide +kernel
theorem dX11_evenings_50 : decode cX11_evenings 50 = .ok (.aload_n 0, 1) := by decide +kernel
theorem dX11_evenings_51 : decode cX11_evenings 51 = .ok (.getfield 49, 3) := by decide +kernel
theorem dX11_evenings_54 : decode cX11_evenings 54 = .ok (.invokevirtual 253, 3) := by decide +kernel
theorem dX11_evenings_57 : decode cX11_evenings 57 = .ok (.iload_n 2, 1) := by decide +kernel
theorem dX11_evenings_58 : decode cX11_evenings 58 = .ok (.aload_n 0, 1) := by decide +kernel
theorem dX11_evenings_59 : decode cX11_evenings 59 = .ok (.getfield 28, 3) := by decide +kernel
theorem dX11_evenings_62 : decode cX11_evenings 62 = .ok (.getfield 239, 3) := by decide +kernel
theorem dX11_evenings_65 : decode cX11_evenings 65 = .ok (.iadd, 1) := by decide +kernel
theorem dX11_evenings_66 : decode cX11_evenings 66 = .ok (.istore_n 2, 1) := by decide +kernel
theorem dX11_evenings_67 : decode cX11_evenings 67 = .ok (.iinc 3 1, 3) := by decide +kernel
theorem dX11_evenings_70 : decode cX11_evenings 70 = .ok (.goto (-48), 3) := by decide +kernel
theorem dX11_evenings_73 : decode cX11_evenings 73 = .ok (.iload_n 2, 1) := by decide +kernel
theorem dX11_evenings_74 : decode cX11_evenings 74 = .ok (.ireturn, 1) := by decide +kernel
theorem dX11_chance_0 : decode cX11_chance 0 = .ok (.aload_n 0, 1) := by decide +kernel
theorem dX11_chance_1 : decode cX11_chance 1 = .ok (.iload_n 1, 1) := by decide +kernel
theorem dX11_chance_2 : decode cX11_chance 2 = .ok (.invokevirtual 314, 3) := by decide +kernel
theorem dX11_chance_5 : decode cX11_chance 5 = .ok (.ifCond .ne 9, 3) := by decide +kernel
theorem dX11_chance_8 : decode cX11_chance 8 = .ok (.aload_n 0, 1) := by decide +kernel
theorem dX11_chance_9 : decode cX11_chance 9 = .ok (.iconst 3, 1) := by decide +kernel
theorem dX11_chance_10 : decode cX11_chance 10 = .ok (.invokevirtual 108, 3) := by decide +kernel
theorem dX11_chance_13 : decode cX11_chance 13 = .ok (.ireturn, 1) := by decide +kernel
theorem dX11_chance_14 : decode cX11_chance 14 = .ok (.aload_n 0, 1) := by decide +kernel
theorem dX11_chance_15 : decode cX11_chance 15 = .ok (.invokevirtual 307, 3) := by decide +kernel
theorem dX11_chance_18 : decode cX11_chance 18 = .ok (.iconst 0, 1) := by decide +kernel
theorem dX11_chance_19 : decode cX11_chance 19 = .ok (.istore_n 2, 1) := by decide +kernel
theorem dX11_chance_20 : decode cX11_chance 20 = .ok (.iconst 0, 1) := by decide +kernel
theorem dX11_chance_21 : decode cX11_chance 21 = .ok (.istore_n 3, 1) := by decide +kernel
theorem dX11_chance_22 : decode cX11_chance 22 = .ok (.iload_n 3, 1) := by decide +kernel
theorem dX11_chance_23 : decode cX11_chance 23 = .ok (.iload_n 1, 1) := by decide +kernel
theorem dX11_chance_24 : decode cX11_chance 24 = .ok (.if_icmp .ge 46, 3) := by decide +kernel
theorem dX11_chance_27 : decode cX11_chance 27 = .ok (.iload_n 2, 1) := by decide +kernel
theorem dX11_chance_28 : decode cX11_chance 28 = .ok (.aload_n 0, 1) := by decide +kernel
theorem dX11_chance_29 : decode cX11_chance 29 = .ok (.invokevirtual 317, 3) := by decide +kernel
theorem dX11_chance_32 : decode cX11_chance 32 = .ok (.iadd, 1) := by decide +kernel
theorem dX11_chance_33 : decode cX11_chance 33 = .ok (.istore_n 2, 1) := by decide +kernel
theorem dX11_chance_34 : decode cX11_chance 34 = .ok (.aload_n 0, 1) := by decide +kernel
theorem dX11_chance_35 : decode cX11_chance 35 = .ok (.getfield 28, 3) := by decide +kernel
theorem dX11_chance_38 : decode cX11_chance 38 = .ok (.aload_n 0, 1) := by decide +kernel
theorem dX11_chance_39 : decode cX11_chance 39 = .ok (.getfield 76, 3) := by decide +kernel
theorem dX11_chance_42 : decode cX11_chance 42 = .ok (.aload_n 0, 1) := by decide +kernel
theorem dX11_chance_43 : decode cX11_chance 43 = .ok (.getfield 49, 3) := by decide +kernel
theorem dX11_chance_46 : decode cX11_chance 46 = .ok (.invokevirtual 235, 3) := by decide +kernel
theorem dX11_chance_49 : decode cX11_chance 49 = .ok (.aload_n 0, 1) := by decide +kernel
theorem dX11_chance_50 : decode cX11_chance 50 = .ok (.getfield 28, 3) := by decide +kernel
theorem dX11_chance_53 : decode cX11_chance 53 = .ok (.aload_n 0, 1) := by decide +kernel
theorem dX11_chance_54 : decode cX11_chance 54 = .ok (.getfield 76, 3) := by decide +kernel
theorem dX11_chance_57 : decode cX11_chance 57 = .ok (.aload_n 0, 1) := by decide +kernel
theorem dX11_chance_58 : decode cX11_chance 58 = .ok (.getfield 49, 3) := by decide +kernel
theorem dX11_chance_61 : decode cX11_chance 61 = .ok (.invokevirtual 253, 3) := by decide +kernel
theorem dX11_chance_64 : decode cX11_chance 64 = .ok (.iinc 3 1, 3) := by decide +kernel
theorem dX11_chance_67 : decode cX11_chance 67 = .ok (.goto (-45), 3) := by decide +kernel
theorem dX11_chance_70 : decode cX11_chance 70 = .ok (.iload_n 2, 1) := by decide +kernel
theorem dX11_chance_71 : decode cX11_chance 71 = .ok (.ireturn, 1) := by decide +kernel
theorem dX11_undo_0 : decode cX11_undo 0 = .ok (.aload_n 0, 1) := by decide +kernel
theorem dX11_undo_1 : decode cX11_undo 1 = .ok (.getfield 131, 3) := by decide +kernel
theorem dX11_undo_4 : decode cX11_undo 4 = .ok (.ifCond .ne 9, 3) := by decide +kernel
theorem dX11_undo_7 : decode cX11_undo 7 = .ok (.aload_n 0, 1) := by decide +kernel
theorem dX11_undo_8 : decode cX11_undo 8 = .ok (.iconst 4, 1) := by decide +kernel
theorem dX11_undo_9 : decode cX11_undo 9 = .ok (.invokevirtual 116, 3) := by decide +kernel
theorem dX11_undo_12 : decode cX11_undo 12 = .ok (.ireturn, 1) := by decide +kernel
theorem dX11_undo_13 : decode cX11_undo 13 = .ok (.aload_n 0, 1) := by decide +kernel
theorem dX11_undo_14 : decode cX11_undo 14 = .ok (.dup, 1) := by decide +kernel
theorem dX11_undo_15 : decode cX11_undo 15 = .ok (.getfield 131, 3) := by decide +kernel
theorem dX11_undo_18 : decode cX11_undo 18 = .ok (.iconst 1, 1) := by decide +kernel
theorem dX11_undo_19 : decode cX11_undo 19 = .ok (.isub, 1) := by decide +kernel
theorem dX11_undo_20 : decode cX11_undo 20 = .ok (.putfield 131, 3) := by decide +kernel
theorem dX11_undo_23 : decode cX11_undo 23 = .ok (.aload_n 0, 1) := by decide +kernel
theorem dX11_undo_24 : decode cX11_undo 24 = .ok (.getfield 49, 3) := by decide +kernel
theorem dX11_undo_27 : decode cX11_undo 27 = .ok (.aload_n 0, 1) := by decide +kernel
theorem dX11_undo_28 : decode cX11_undo 28 = .ok (.getfield 56, 3) := by decide +kernel
theorem dX11_undo_31 : decode cX11_undo 31 = .ok (.aload_n 0, 1) := by decide +kernel
theorem dX11_undo_32 : decode cX11_undo 32 = .ok (.getfield 320, 3) := by decide +kernel
theorem dX11_undo_35 : decode cX11_undo 35 = .ok (.aload_n 0, 1) := by decide +kernel
theorem dX11_undo_36 : decode cX11_undo 36 = .ok (.getfield 131, 3) := by decide +kernel
theorem dX11_undo_39 : decode cX11_undo 39 = .ok (.iadd, 1) := by decide +kernel
theorem dX11_undo_40 : decode cX11_undo 40 = .ok (.bipush 20, 2) := by decide +kernel
theorem dX11_undo_42 : decode cX11_undo 42 = .ok (.irem, 1) := by decide +kernel
theorem dX11_undo_43 : decode cX11_undo 43 = .ok (.aaload, 1) := by decide +kernel
theorem dX11_undo_44 : decode cX11_undo 44 = .ok (.invokevirtual 249, 3) := by decide +kernel
theorem dX11_undo_47 : decode cX11_undo 47 = .ok (.iconst 1, 1) := by decide +kernel
theorem dX11_undo_48 : decode cX11_undo 48 = .ok (.ireturn, 1) := by decide +kernel
theorem dX11_seed_0 : decode cX11_seed 0 = .ok (.iload_n 1, 1) := by decide +kernel
theorem dX11_seed_1 : decode cX11_seed 1 = .ok (.ifCond .ge 9, 3) := by decide +kernel
theorem dX11_seed_4 : decode cX11_seed 4 = .ok (.aload_n 0, 1) := by decide +kernel
theorem dX11_seed_5 : decode cX11_seed 5 = .ok (.iconst 5, 1) := by decide +kernel
theorem dX11_seed_6 : decode cX11_seed 6 = .ok (.invokevirtual 116, 3) := by decide +kernel
theorem dX11_seed_9 : decode cX11_seed 9 = .ok (.ireturn, 1) := by decide +kernel
theorem dX11_seed_10 : decode cX11_seed 10 = .ok (.aload_n 0, 1) := by decide +kernel
theorem dX11_seed_11 : decode cX11_seed 11 = .ok (.iload_n 1, 1) := by decide +kernel
theorem dX11_seed_12 : decode cX11_seed 12 = .ok (.putfield 80, 3) := by decide +kernel
theorem dX11_seed_15 : decode cX11_seed 15 = .ok (.iconst 1, 1) := by decide +kernel
theorem dX11_seed_16 : decode cX11_seed 16 = .ok (.ireturn, 1) := by decide +kernel
theorem dX11_ask_0 : decode cX11_ask 0 = .ok (.aload_n 0, 1) := by decide +kernel
theorem dX11_ask_1 : decode cX11_ask 1 = .ok (.getfield 101, 3) := by decide +kernel
theorem dX11_ask_4 : decode cX11_ask 4 = .ok (.invokevirtual 323, 3) := by decide +kernel
theorem dX11_ask_7 : decode cX11_ask 7 = .ok (.istore_n 1, 1) := by decide +kernel
theorem dX11_ask_8 : decode cX11_ask 8 = .ok (.aload_n 0, 1) := by decide +kernel
theorem dX11_ask_9 : decode cX11_ask 9 = .ok (.getfield 12, 3) := by decide +kernel
theorem dX11_ask_12 : decode cX11_ask 12 = .ok (.iconst 0, 1) := by decide +kernel
theorem dX11_ask_13 : decode cX11_ask 13 = .ok (.putfield 105, 3) := by decide +kernel
theorem dX11_ask_16 : decode cX11_ask 16 = .ok (.iload_n 1, 1) := by decide +kernel
theorem dX11_ask_17 : decode cX11_ask 17 = .ok (.ifCond .eq 25, 3) := by decide +kernel
theorem dX11_ask_20 : decode cX11_ask 20 = .ok (.aload_n 0, 1) := by decide +kernel
theorem dX11_ask_21 : decode cX11_ask 21 = .ok (.getfield 101, 3) := by decide +kernel
theorem dX11_ask_24 : decode cX11_ask 24 = .ok (.aload_n 0, 1) := by decide +kernel
theorem dX11_ask_25 : decode cX11_ask 25 = .ok (.getfield 76, 3) := by decide +kernel
theorem dX11_ask_28 : decode cX11_ask 28 = .ok (.aload_n 0, 1) := by decide +kernel
theorem dX11_ask_29 : decode cX11_ask 29 = .ok (.getfield 49, 3) := by decide +kernel
theorem dX11_ask_32 : decode cX11_ask 32 = .ok (.aload_n 0, 1) := by decide +kernel
theorem dX11_ask_33 : decode cX11_ask 33 = .ok (.getfield 19, 3) := by decide +kernel
theorem dX11_ask_36 : decode cX11_ask 36 = .ok (.invokevirtual 324, 3) := by decide +kernel
theorem dX11_ask_39 : decode cX11_ask 39 = .ok (.goto 6, 3) := by decide +kernel
theorem dX11_ask_42 : decode cX11_ask 42 = .ok (.ldc2_w 227, 3) := by decide +kernel
theorem dX11_ask_45 : decode cX11_ask 45 = .ok (.lreturn, 1) := by decide +kernel
theorem dX11_image_0 : decode cX11_image 0 = .ok (.iconst 0, 1) := by decide +kernel
theorem dX11_image_1 : decode cX11_image 1 = .ok (.istore_n 1, 1) := by decide +kernel
theorem dX11_image_2 : decode cX11_image 2 = .ok (.aload_n 0, 1) := by decide +kernel
theorem dX11_image_3 : decode cX11_image 3 = .ok (.getfield 67, 3) := by decide +kernel
theorem dX11_image_6 : decode cX11_image 6 = .ok (.iload_n 1, 1) := by decide +kernel
