theorem dX12_qTakes_49 : decode cX12_qTakes 49 = .ok (.iload 4, 2) := by decide +kernel
theorem dX12_qTakes_51 : decode cX12_qTakes 51 = .ok (.i2l, 1) := by decide +kernel
theorem dX12_qTakes_52 : decode cX12_qTakes 52 = .ok (.putfield 664, 3) := by decide +kernel
theorem dX12_qTakes_55 : decode cX12_qTakes 55 = .ok (.iload_n 1, 1) := by decide +kernel
theorem dX12_qTakes_56 : decode cX12_qTakes 56 = .ok (.iconst 2, 1) := by decide +kernel
theorem dX12_qTakes_57 : decode cX12_qTakes 57 = .ok (.if_icmp .ne 18, 3) := by decide +kernel
theorem dX12_qTakes_60 : decode cX12_qTakes 60 = .ok (.iload 5, 2) := by decide +kernel
theorem dX12_qTakes_62 : decode cX12_qTakes 62 = .ok (.ifCond .eq 13, 3) := by decide +kernel
theorem dX12_qTakes_65 : decode cX12_qTakes 65 = .ok (.aload_n 0, 1) := by decide +kernel
theorem dX12_qTakes_66 : decode cX12_qTakes 66 = .ok (.dup, 1) := by decide +kernel
theorem dX12_qTakes_67 : decode cX12_qTakes 67 = .ok (.getfield 664, 3) := by decide +kernel
theorem dX12_qTakes_70 : decode cX12_qTakes 70 = .ok (.lconst 1, 1) := by decide +kernel
theorem dX12_qTakes_71 : decode cX12_qTakes 71 = .ok (.ladd, 1) := by decide +kernel
theorem dX12_qTakes_72 : decode cX12_qTakes 72 = .ok (.putfield 664, 3) := by decide +kernel
theorem dX12_qTakes_75 : decode cX12_qTakes 75 = .ok (.iload_n 1, 1) := by decide +kernel
theorem dX12_qTakes_76 : decode cX12_qTakes 76 = .ok (.iconst 3, 1) := by decide +kernel
theorem dX12_qTakes_77 : decode cX12_qTakes 77 = .ok (.if_icmp .ne 13, 3) := by decide +kernel
theorem dX12_qTakes_80 : decode cX12_qTakes 80 = .ok (.aload_n 0, 1) := by decide +kernel
theorem dX12_qTakes_81 : decode cX12_qTakes 81 = .ok (.dup, 1) := by decide +kernel
theorem dX12_qTakes_82 : decode cX12_qTakes 82 = .ok (.getfield 664, 3) := by decide +kernel
theorem dX12_qTakes_85 : decode cX12_qTakes 85 = .ok (.lload_n 2, 1) := by decide +kernel
theorem dX12_qTakes_86 : decode cX12_qTakes 86 = .ok (.ladd, 1) := by decide +kernel
theorem dX12_qTakes_87 : decode cX12_qTakes 87 = .ok (.putfield 664, 3) := by decide +kernel
theorem dX12_qTakes_90 : decode cX12_qTakes 90 = .ok (.iload_n 1, 1) := by decide +kernel
theorem dX12_qTakes_91 : decode cX12_qTakes 91 = .ok (.iconst 3, 1) := by decide +kernel
theorem dX12_qTakes_92 : decode cX12_qTakes 92 = .ok (.if_icmp .le 41, 3) := by decide +kernel
theorem dX12_qTakes_95 : decode cX12_qTakes 95 = .ok (.aload_n 0, 1) := by decide +kernel
theorem dX12_qTakes_96 : decode cX12_qTakes 96 = .ok (.getfield 669, 3) := by decide +kernel
theorem dX12_qTakes_99 : decode cX12_qTakes 99 = .ok (.ifCond .ne 29, 3) := by decide +kernel
theorem dX12_qTakes_102 : decode cX12_qTakes 102 = .ok (.iload_n 1, 1) := by decide +kernel
theorem dX12_qTakes_103 : decode cX12_qTakes 103 = .ok (.iconst 4, 1) := by decide +kernel
theorem dX12_qTakes_104 : decode cX12_qTakes 104 = .ok (.if_icmp .ne 15, 3) := by decide +kernel
theorem dX12_qTakes_107 : decode cX12_qTakes 107 = .ok (.lload_n 2, 1) := by decide +kernel
theorem dX12_qTakes_108 : decode cX12_qTakes 108 = .ok (.aload_n 0, 1) := by decide +kernel
theorem dX12_qTakes_109 : decode cX12_qTakes 109 = .ok (.getfield 664, 3) := by decide +kernel
theorem dX12_qTakes_112 : decode cX12_qTakes 112 = .ok (.lcmp, 1) := by decide +kernel
theorem dX12_qTakes_113 : decode cX12_qTakes 113 = .ok (.ifCond .le 20, 3) := by decide +kernel
theorem dX12_qTakes_116 : decode cX12_qTakes 116 = .ok (.goto 12, 3) := by decide +kernel
theorem dX12_qTakes_119 : decode cX12_qTakes 119 = .ok (.lload_n 2, 1) := by decide +kernel
theorem dX12_qTakes_120 : decode cX12_qTakes 120 = .ok (.aload_n 0, 1) := by decide +kernel
theorem dX12_qTakes_121 : decode cX12_qTakes 121 = .ok (.getfield 664, 3) := by decide +kernel
theorem dX12_qTakes_124 : decode cX12_qTakes 124 = .ok (.lcmp, 1) := by decide +kernel
theorem dX12_qTakes_125 : decode cX12_qTakes 125 = .ok (.ifCond .ge 8, 3) := by decide +kernel
theorem dX12_qTakes_128 : decode cX12_qTakes 128 = .ok (.aload_n 0, 1) := by decide +kernel
theorem dX12_qTakes_129 : decode cX12_qTakes 129 = .ok (.lload_n 2, 1) := by decide +kernel
theorem dX12_qTakes_130 : decode cX12_qTakes 130 = .ok (.putfield 664, 3) := by decide +kernel
theorem dX12_qTakes_133 : decode cX12_qTakes 133 = .ok (.aload_n 0, 1) := by decide +kernel
theorem dX12_qTakes_134 : decode cX12_qTakes 134 = .ok (.iconst 0, 1) := by decide +kernel
theorem dX12_qTakes_135 : decode cX12_qTakes 135 = .ok (.putfield 669, 3) := by decide +kernel
theorem dX12_qTakes_138 : decode cX12_qTakes 138 = .ok (.return_, 1) := by decide +kernel
theorem dX12_takesBack_0 : decode cX12_takesBack 0 = .ok (.iconst 0, 1) := by decide +kernel
theorem dX12_takesBack_1 : decode cX12_takesBack 1 = .ok (.istore_n 1, 1) := by decide +kernel
theorem dX12_takesBack_2 : decode cX12_takesBack 2 = .ok (.iload_n 1, 1) := by decide +kernel
theorem dX12_takesBack_3 : decode cX12_takesBack 3 = .ok (.bipush 32, 2) := by decide +kernel
theorem dX12_takesBack_5 : decode cX12_takesBack 5 = .ok (.if_icmp .ge 21, 3) := by decide +kernel
theorem dX12_takesBack_8 : decode cX12_takesBack 8 = .ok (.aload_n 0, 1) := by decide +kernel
theorem dX12_takesBack_9 : decode cX12_takesBack 9 = .ok (.getfield 142, 3) := by decide +kernel
theorem dX12_takesBack_12 : decode cX12_takesBack 12 = .ok (.iload_n 1, 1) := by decide +kernel
theorem dX12_takesBack_13 : decode cX12_takesBack 13 = .ok (.aload_n 0, 1) := by decide +kernel
theorem dX12_takesBack_14 : decode cX12_takesBack 14 = .ok (.getfield 145, 3) := by decide +kernel
theorem dX12_takesBack_17 : decode cX12_takesBack 17 = .ok (.iload_n 1, 1) := by decide +kernel
theorem dX12_takesBack_18 : decode cX12_takesBack 18 = .ok (.iaload, 1) := by decide +kernel
theorem dX12_takesBack_19 : decode cX12_takesBack 19 = .ok (.iastore, 1) := by decide +kernel
theorem dX12_takesBack_20 : decode cX12_takesBack 20 = .ok (.iinc 1 1, 3) := by decide +kernel
theorem dX12_takesBack_23 : decode cX12_takesBack 23 = .ok (.goto (-21), 3) := by decide +kernel
theorem dX12_takesBack_26 : decode cX12_takesBack 26 = .ok (.return_, 1) := by decide +kernel
theorem dX12_qAsksWord_0 : decode cX12_qAsksWord 0 = .ok (.iload_n 1, 1) := by decide +kernel
theorem dX12_qAsksWord_1 : decode cX12_qAsksWord 1 = .ok (.tableswitch 165 0 9 #[55, 66, 77, 88, 99, 110, 121, 132, 143, 154], 55) := by decide +kernel
theorem dX12_qAsksWord_56 : decode cX12_qAsksWord 56 = .ok (.aload_n 0, 1) := by decide +kernel
theorem dX12_qAsksWord_57 : decode cX12_qAsksWord 57 = .ok (.aload_n 0, 1) := by decide +kernel
theorem dX12_qAsksWord_58 : decode cX12_qAsksWord 58 = .ok (.getfield 215, 3) := by decide +kernel
theorem dX12_qAsksWord_61 : decode cX12_qAsksWord 61 = .ok (.invokevirtual 337, 3) := by decide +kernel
theorem dX12_qAsksWord_64 : decode cX12_qAsksWord 64 = .ok (.goto 110, 3) := by decide +kernel
theorem dX12_qAsksWord_67 : decode cX12_qAsksWord 67 = .ok (.aload_n 0, 1) := by decide +kernel
theorem dX12_qAsksWord_68 : decode cX12_qAsksWord 68 = .ok (.aload_n 0, 1) := by decide +kernel
theorem dX12_qAsksWord_69 : decode cX12_qAsksWord 69 = .ok (.getfield 218, 3) := by decide +kernel
theorem dX12_qAsksWord_72 : decode cX12_qAsksWord 72 = .ok (.invokevirtual 337, 3) := by decide +kernel
theorem dX12_qAsksWord_75 : decode cX12_qAsksWord 75 = .ok (.goto 99, 3) := by decide +kernel
theorem dX12_qAsksWord_78 : decode cX12_qAsksWord 78 = .ok (.aload_n 0, 1) := by decide +kernel
theorem dX12_qAsksWord_79 : decode cX12_qAsksWord 79 = .ok (.aload_n 0, 1) := by decide +kernel
theorem dX12_qAsksWord_80 : decode cX12_qAsksWord 80 = .ok (.getfield 221, 3) := by decide +kernel
theorem dX12_qAsksWord_83 : decode cX12_qAsksWord 83 = .ok (.invokevirtual 337, 3) := by decide +kernel
theorem dX12_qAsksWord_86 : decode cX12_qAsksWord 86 = .ok (.goto 88, 3) := by decide +kernel
theorem dX12_qAsksWord_89 : decode cX12_qAsksWord 89 = .ok (.aload_n 0, 1) := by decide +kernel
theorem dX12_qAsksWord_90 : decode cX12_qAsksWord 90 = .ok (.aload_n 0, 1) := by decide +kernel
theorem dX12_qAsksWord_91 : decode cX12_qAsksWord 91 = .ok (.getfield 224, 3) := by decide +kernel
theorem dX12_qAsksWord_94 : decode cX12_qAsksWord 94 = .ok (.invokevirtual 337, 3) := by decide +kernel
theorem dX12_qAsksWord_97 : decode cX12_qAsksWord 97 = .ok (.goto 77, 3) := by decide +kernel
theorem dX12_qAsksWord_100 : decode cX12_qAsksWord 100 = .ok (.aload_n 0, 1) := by decide +kernel
theorem dX12_qAsksWord_101 : decode cX12_qAsksWord 101 = .ok (.aload_n 0, 1) := by decide +kernel
theorem dX12_qAsksWord_102 : decode cX12_qAsksWord 102 = .ok (.getfield 227, 3) := by decide +kernel
theorem dX12_qAsksWord_105 : decode cX12_qAsksWord 105 = .ok (.invokevirtual 337, 3) := by decide +kernel
theorem dX12_qAsksWord_108 : decode cX12_qAsksWord 108 = .ok (.goto 66, 3) := by decide +kernel
theorem dX12_qAsksWord_111 : decode cX12_qAsksWord 111 = .ok (.aload_n 0, 1) := by decide +kernel
theorem dX12_qAsksWord_112 : decode cX12_qAsksWord 112 = .ok (.aload_n 0, 1) := by decide +kernel
theorem dX12_qAsksWord_113 : decode cX12_qAsksWord 113 = .ok (.getfield 230, 3) := by decide +kernel
theorem dX12_qAsksWord_116 : decode cX12_qAsksWord 116 = .ok (.invokevirtual 337, 3) := by decide +kernel
theorem dX12_qAsksWord_119 : decode cX12_qAsksWord 119 = .ok (.goto 55, 3) := by decide +kernel
theorem dX12_qAsksWord_122 : decode cX12_qAsksWord 122 = .ok (.aload_n 0, 1) := by decide +kernel
theorem dX12_qAsksWord_123 : decode cX12_qAsksWord 123 = .ok (.aload_n 0, 1) := by decide +kernel
theorem dX12_qAsksWord_124 : decode cX12_qAsksWord 124 = .ok (.getfield 233, 3) := by decide +kernel
theorem dX12_qAsksWord_127 : decode cX12_qAsksWord 127 = .ok (.invokevirtual 337, 3) := by decide +kernel
theorem dX12_qAsksWord_130 : decode cX12_qAsksWord 130 = .ok (.goto 44, 3) := by decide +kernel
theorem dX12_qAsksWord_133 : decode cX12_qAsksWord 133 = .ok (.aload_n 0, 1) := by decide +kernel
theorem dX12_qAsksWord_134 : decode cX12_qAsksWord 134 = .ok (.aload_n 0, 1) := by decide +kernel
theorem dX12_qAsksWord_135 : decode cX12_qAsksWord 135 = .ok (.getfield 236, 3) := by decide +kernel
theorem dX12_qAsksWord_138 : decode cX12_qAsksWord 138 = .ok (.invokevirtual 337, 3) := by decide +kernel
theorem dX12_qAsksWord_141 : decode cX12_qAsksWord 141 = .ok (.goto 33, 3) := by decide +kernel
theorem dX12_qAsksWord_144 : decode cX12_qAsksWord 144 = .ok (.aload_n 0, 1) := by decide +kernel
theorem dX12_qAsksWord_145 : decode cX12_qAsksWord 145 = .ok (.aload_n 0, 1) := by decide +kernel
theorem dX12_qAsksWord_146 : decode cX12_qAsksWord 146 = .ok (.getfield 239, 3) := by decide +kernel
theorem dX12_qAsksWord_149 : decode cX12_qAsksWord 149 = .ok (.invokevirtual 337, 3) := by decide +kernel
theorem dX12_qAsksWord_152 : decode cX12_qAsksWord 152 = .ok (.goto 22, 3) := by decide +kernel
theorem dX12_qAsksWord_155 : decode cX12_qAsksWord 155 = .ok (.aload_n 0, 1) := by decide +kernel
theorem dX12_qAsksWord_156 : decode cX12_qAsksWord 156 = .ok (.aload_n 0, 1) := by decide +kernel
theorem dX12_qAsksWord_157 : decode cX12_qAsksWord 157 = .ok (.getfield 242, 3) := by decide +kernel
theorem dX12_qAsksWord_160 : decode cX12_qAsksWord 160 = .ok (.invokevirtual 337, 3) := by decide +kernel
theorem dX12_qAsksWord_163 : decode cX12_qAsksWord 163 = .ok (.goto 11, 3) := by decide +kernel
theorem dX12_qAsksWord_166 : decode cX12_qAsksWord 166 = .ok (.aload_n 0, 1) := by decide +kernel
theorem dX12_qAsksWord_167 : decode cX12_qAsksWord 167 = .ok (.aload_n 0, 1) := by decide +kernel
theorem dX12_qAsksWord_168 : decode cX12_qAsksWord 168 = .ok (.getfield 245, 3) := by decide +kernel
theorem dX12_qAsksWord_171 : decode cX12_qAsksWord 171 = .ok (.invokevirtual 337, 3) := by decide +kernel
theorem dX12_qAsksWord_174 : decode cX12_qAsksWord 174 = .ok (.return_, 1) := by decide +kernel
theorem dX12_isAnswered_0 : decode cX12_isAnswered 0 = .ok (.aload_n 0, 1) := by decide +kernel
theorem dX12_isAnswered_1 : decode cX12_isAnswered 1 = .ok (.getfield 142, 3) := by decide +kernel
theorem dX12_isAnswered_4 : decode cX12_isAnswered 4 = .ok (.iconst 1, 1) := by decide +kernel
theorem dX12_isAnswered_5 : decode cX12_isAnswered 5 = .ok (.iload_n 2, 1) := by decide +kernel
theorem dX12_isAnswered_6 : decode cX12_isAnswered 6 = .ok (.iadd, 1) := by decide +kernel
theorem dX12_isAnswered_7 : decode cX12_isAnswered 7 = .ok (.dup2, 1) := by decide +kernel
theorem dX12_isAnswered_8 : decode cX12_isAnswered 8 = .ok (.iaload, 1) := by decide +kernel
theorem dX12_isAnswered_9 : decode cX12_isAnswered 9 = .ok (.aload_n 0, 1) := by decide +kernel
theorem dX12_isAnswered_10 : decode cX12_isAnswered 10 = .ok (.iload_n 1, 1) := by decide +kernel
theorem dX12_isAnswered_11 : decode cX12_isAnswered 11 = .ok (.iload_n 2, 1) := by decide +kernel
theorem dX12_isAnswered_12 : decode cX12_isAnswered 12 = .ok (.invokevirtual 461, 3) := by decide +kernel
theorem dX12_isAnswered_15 : decode cX12_isAnswered 15 = .ok (.isub, 1) := by decide +kernel
theorem dX12_isAnswered_16 : decode cX12_isAnswered 16 = .ok (.iastore, 1) := by decide +kernel
theorem dX12_isAnswered_17 : decode cX12_isAnswered 17 = .ok (.aload_n 0, 1) := by decide +kernel
theorem dX12_isAnswered_18 : decode cX12_isAnswered 18 = .ok (.getfield 142, 3) := by decide +kernel
theorem dX12_isAnswered_21 : decode cX12_isAnswered 21 = .ok (.bipush 8, 2) := by decide +kernel
theorem dX12_isAnswered_23 : decode cX12_isAnswered 23 = .ok (.iconst 3, 1) := by decide +kernel
theorem dX12_isAnswered_24 : decode cX12_isAnswered 24 = .ok (.iload_n 1, 1) := by decide +kernel
theorem dX12_isAnswered_25 : decode cX12_isAnswered 25 = .ok (.imul, 1) := by decide +kernel
theorem dX12_isAnswered_26 : decode cX12_isAnswered 26 = .ok (.iadd, 1) := by decide +kernel
theorem dX12_isAnswered_27 : decode cX12_isAnswered 27 = .ok (.iload_n 2, 1) := by decide +kernel
theorem dX12_isAnswered_28 : decode cX12_isAnswered 28 = .ok (.iconst 1, 1) := by decide +kernel
theorem dX12_isAnswered_29 : decode cX12_isAnswered 29 = .ok (.iadd, 1) := by decide +kernel
theorem dX12_isAnswered_30 : decode cX12_isAnswered 30 = .ok (.iastore, 1) := by decide +kernel
theorem dX12_isAnswered_31 : decode cX12_isAnswered 31 = .ok (.return_, 1) := by decide +kernel
theorem dX12_qOf_0 : decode cX12_qOf 0 = .ok (.iload_n 1, 1) := by decide +kernel
theorem dX12_qOf_1 : decode cX12_qOf 1 = .ok (.lookupswitch 11 #[], 11) := by decide +kernel
theorem dX12_qOf_12 : decode cX12_qOf 12 = .ok (.lload_n 2, 1) := by decide +kernel
theorem dX12_qOf_13 : decode cX12_qOf 13 = .ok (.lconst 0, 1) := by decide +kernel
theorem dX12_qOf_14 : decode cX12_qOf 14 = .ok (.aload_n 0, 1) := by decide +kernel
theorem dX12_qOf_15 : decode cX12_qOf 15 = .ok (.invokevirtual 410, 3) := by decide +kernel
theorem dX12_qOf_18 : decode cX12_qOf 18 = .ok (.iconst 1, 1) := by decide +kernel
theorem dX12_qOf_19 : decode cX12_qOf 19 = .ok (.isub, 1) := by decide +kernel
theorem dX12_qOf_20 : decode cX12_qOf 20 = .ok (.i2l, 1) := by decide +kernel
theorem dX12_qOf_21 : decode cX12_qOf 21 = .ok (.invokestatic 303, 3) := by decide +kernel
theorem dX12_qOf_24 : decode cX12_qOf 24 = .ok (.ifCond .eq 15, 3) := by decide +kernel
theorem dX12_qOf_27 : decode cX12_qOf 27 = .ok (.aload_n 0, 1) := by decide +kernel
theorem dX12_qOf_28 : decode cX12_qOf 28 = .ok (.iload 4, 2) := by decide +kernel
theorem dX12_qOf_30 : decode cX12_qOf 30 = .ok (.lload_n 2, 1) := by decide +kernel
theorem dX12_qOf_31 : decode cX12_qOf 31 = .ok (.l2i, 1) := by decide +kernel
theorem dX12_qOf_32 : decode cX12_qOf 32 = .ok (.invokevirtual 425, 3) := by decide +kernel
theorem dX12_qOf_35 : decode cX12_qOf 35 = .ok (.i2l, 1) := by decide +kernel
theorem dX12_qOf_36 : decode cX12_qOf 36 = .ok (.goto 4, 3) := by decide +kernel
theorem dX12_qOf_39 : decode cX12_qOf 39 = .ok (.lconst 0, 1) := by decide +kernel
theorem dX12_qOf_40 : decode cX12_qOf 40 = .ok (.lreturn, 1) := by decide +kernel
theorem dX12_qGoesOnTest_0 : decode cX12_qGoesOnTest 0 = .ok (.aload_n 0, 1) := by decide +kernel
theorem dX12_qGoesOnTest_1 : decode cX12_qGoesOnTest 1 = .ok (.getfield 263, 3) := by decide +kernel
theorem dX12_qGoesOnTest_4 : decode cX12_qGoesOnTest 4 = .ok (.ifCond .ne 72, 3) := by decide +kernel
theorem dX12_qGoesOnTest_7 : decode cX12_qGoesOnTest 7 = .ok (.aload_n 0, 1) := by decide +kernel
theorem dX12_qGoesOnTest_8 : decode cX12_qGoesOnTest 8 = .ok (.invokevirtual 275, 3) := by decide +kernel
theorem dX12_qGoesOnTest_11 : decode cX12_qGoesOnTest 11 = .ok (.bipush 93, 2) := by decide +kernel
theorem dX12_qGoesOnTest_13 : decode cX12_qGoesOnTest 13 = .ok (.if_icmp .ne 63, 3) := by decide +kernel
theorem dX12_qGoesOnTest_16 : decode cX12_qGoesOnTest 16 = .ok (.aload_n 0, 1) := by decide +kernel
theorem dX12_qGoesOnTest_17 : decode cX12_qGoesOnTest 17 = .ok (.invokevirtual 645, 3) := by decide +kernel
theorem dX12_qGoesOnTest_20 : decode cX12_qGoesOnTest 20 = .ok (.ifCond .eq 56, 3) := by decide +kernel
theorem dX12_qGoesOnTest_23 : decode cX12_qGoesOnTest 23 = .ok (.aload_n 0, 1) := by decide +kernel
theorem dX12_qGoesOnTest_24 : decode cX12_qGoesOnTest 24 = .ok (.dup, 1) := by decide +kernel
theorem dX12_qGoesOnTest_25 : decode cX12_qGoesOnTest 25 = .ok (.getfield 269, 3) := by decide +kernel
theorem dX12_qGoesOnTest_28 : decode cX12_qGoesOnTest 28 = .ok (.iconst 1, 1) := by decide +kernel
theorem dX12_qGoesOnTest_29 : decode cX12_qGoesOnTest 29 = .ok (.iadd, 1) := by decide +kernel
theorem dX12_qGoesOnTest_30 : decode cX12_qGoesOnTest 30 = .ok (.putfield 269, 3) := by decide +kernel
theorem dX12_qGoesOnTest_33 : decode cX12_qGoesOnTest 33 = .ok (.aload_n 0, 1) := by decide +kernel
theorem dX12_qGoesOnTest_34 : decode cX12_qGoesOnTest 34 = .ok (.bipush 25, 2) := by decide +kernel
theorem dX12_qGoesOnTest_36 : decode cX12_qGoesOnTest 36 = .ok (.invokevirtual 627, 3) := by decide +kernel
theorem dX12_qGoesOnTest_39 : decode cX12_qGoesOnTest 39 = .ok (.ifCond .ne 10, 3) := by decide +kernel
theorem dX12_qGoesOnTest_42 : decode cX12_qGoesOnTest 42 = .ok (.aload_n 0, 1) := by decide +kernel
theorem dX12_qGoesOnTest_43 : decode cX12_qGoesOnTest 43 = .ok (.invokevirtual 600, 3) := by decide +kernel
theorem dX12_qGoesOnTest_46 : decode cX12_qGoesOnTest 46 = .ok (.goto (-13), 3) := by decide +kernel
theorem dX12_qGoesOnTest_49 : decode cX12_qGoesOnTest 49 = .ok (.aload_n 0, 1) := by decide +kernel
theorem dX12_qGoesOnTest_50 : decode cX12_qGoesOnTest 50 = .ok (.dup, 1) := by decide +kernel
theorem dX12_qGoesOnTest_51 : decode cX12_qGoesOnTest 51 = .ok (.getfield 355, 3) := by decide +kernel
theorem dX12_qGoesOnTest_54 : decode cX12_qGoesOnTest 54 = .ok (.iconst 1, 1) := by decide +kernel
theorem dX12_qGoesOnTest_55 : decode cX12_qGoesOnTest 55 = .ok (.isub, 1) := by decide +kernel
theorem dX12_qGoesOnTest_56 : decode cX12_qGoesOnTest 56 = .ok (.putfield 355, 3) := by decide +kernel
theorem dX12_qGoesOnTest_59 : decode cX12_qGoesOnTest 59 = .ok (.aload_n 0, 1) := by decide +kernel
theorem dX12_qGoesOnTest_60 : decode cX12_qGoesOnTest 60 = .ok (.dup, 1) := by decide +kernel
theorem dX12_qGoesOnTest_61 : decode cX12_qGoesOnTest 61 = .ok (.getfield 358, 3) := by decide +kernel
theorem dX12_qGoesOnTest_64 : decode cX12_qGoesOnTest 64 = .ok (.iconst 1, 1) := by decide +kernel
theorem dX12_qGoesOnTest_65 : decode cX12_qGoesOnTest 65 = .ok (.isub, 1) := by decide +kernel
theorem dX12_qGoesOnTest_66 : decode cX12_qGoesOnTest 66 = .ok (.putfield 358, 3) := by decide +kernel
theorem dX12_qGoesOnTest_69 : decode cX12_qGoesOnTest 69 = .ok (.aload_n 0, 1) := by decide +kernel
theorem dX12_qGoesOnTest_70 : decode cX12_qGoesOnTest 70 = .ok (.invokevirtual 639, 3) := by decide +kernel
theorem dX12_qGoesOnTest_73 : decode cX12_qGoesOnTest 73 = .ok (.goto (-73), 3) := by decide +kernel
theorem dX12_qGoesOnTest_76 : decode cX12_qGoesOnTest 76 = .ok (.aload_n 0, 1) := by decide +kernel
theorem dX12_qGoesOnTest_77 : decode cX12_qGoesOnTest 77 = .ok (.aload_n 0, 1) := by decide +kernel
theorem dX12_qGoesOnTest_78 : decode cX12_qGoesOnTest 78 = .ok (.getfield 200, 3) := by decide +kernel
theorem dX12_qGoesOnTest_81 : decode cX12_qGoesOnTest 81 = .ok (.invokevirtual 290, 3) := by decide +kernel
theorem dX12_qGoesOnTest_84 : decode cX12_qGoesOnTest 84 = .ok (.ifCond .eq 42, 3) := by decide +kernel
theorem dX12_qGoesOnTest_87 : decode cX12_qGoesOnTest 87 = .ok (.aload_n 0, 1) := by decide +kernel
theorem dX12_qGoesOnTest_88 : decode cX12_qGoesOnTest 88 = .ok (.bipush 10, 2) := by decide +kernel
theorem dX12_qGoesOnTest_90 : decode cX12_qGoesOnTest 90 = .ok (.invokevirtual 627, 3) := by decide +kernel
theorem dX12_qGoesOnTest_93 : decode cX12_qGoesOnTest 93 = .ok (.ifCond .eq 10, 3) := by decide +kernel
theorem dX12_qGoesOnTest_96 : decode cX12_qGoesOnTest 96 = .ok (.aload_n 0, 1) := by decide +kernel
theorem dX12_qGoesOnTest_97 : decode cX12_qGoesOnTest 97 = .ok (.invokevirtual 600, 3) := by decide +kernel
theorem dX12_qGoesOnTest_100 : decode cX12_qGoesOnTest 100 = .ok (.goto (-13), 3) := by decide +kernel
theorem dX12_qGoesOnTest_103 : decode cX12_qGoesOnTest 103 = .ok (.aload_n 0, 1) := by decide +kernel
theorem dX12_qGoesOnTest_104 : decode cX12_qGoesOnTest 104 = .ok (.getfield 251, 3) := by decide +kernel
theorem dX12_qGoesOnTest_107 : decode cX12_qGoesOnTest 107 = .ok (.aload_n 0, 1) := by decide +kernel
theorem dX12_qGoesOnTest_108 : decode cX12_qGoesOnTest 108 = .ok (.getfield 355, 3) := by decide +kernel
theorem dX12_qGoesOnTest_111 : decode cX12_qGoesOnTest 111 = .ok (.bipush 10, 2) := by decide +kernel
theorem dX12_qGoesOnTest_113 : decode cX12_qGoesOnTest 113 = .ok (.iastore, 1) := by decide +kernel
theorem dX12_qGoesOnTest_114 : decode cX12_qGoesOnTest 114 = .ok (.aload_n 0, 1) := by decide +kernel
theorem dX12_qGoesOnTest_115 : decode cX12_qGoesOnTest 115 = .ok (.dup, 1) := by decide +kernel
theorem dX12_qGoesOnTest_116 : decode cX12_qGoesOnTest 116 = .ok (.getfield 355, 3) := by decide +kernel
theorem dX12_qGoesOnTest_119 : decode cX12_qGoesOnTest 119 = .ok (.iconst 1, 1) := by decide +kernel
theorem dX12_qGoesOnTest_120 : decode cX12_qGoesOnTest 120 = .ok (.iadd, 1) := by decide +kernel
theorem dX12_qGoesOnTest_121 : decode cX12_qGoesOnTest 121 = .ok (.putfield 355, 3) := by decide +kernel
theorem dX12_qGoesOnTest_124 : decode cX12_qGoesOnTest 124 = .ok (.iconst 1, 1) := by decide +kernel
theorem dX12_qGoesOnTest_125 : decode cX12_qGoesOnTest 125 = .ok (.ireturn, 1) := by decide +kernel
theorem dX12_qGoesOnTest_126 : decode cX12_qGoesOnTest 126 = .ok (.aload_n 0, 1) := by decide +kernel
theorem dX12_qGoesOnTest_127 : decode cX12_qGoesOnTest 127 = .ok (.aload_n 0, 1) := by decide +kernel
theorem dX12_qGoesOnTest_128 : decode cX12_qGoesOnTest 128 = .ok (.getfield 203, 3) := by decide +kernel
theorem dX12_qGoesOnTest_131 : decode cX12_qGoesOnTest 131 = .ok (.invokevirtual 290, 3) := by decide +kernel
theorem dX12_qGoesOnTest_134 : decode cX12_qGoesOnTest 134 = .ok (.ifCond .eq 51, 3) := by decide +kernel
theorem dX12_qGoesOnTest_137 : decode cX12_qGoesOnTest 137 = .ok (.aload_n 0, 1) := by decide +kernel
theorem dX12_qGoesOnTest_138 : decode cX12_qGoesOnTest 138 = .ok (.bipush 10, 2) := by decide +kernel
theorem dX12_qGoesOnTest_140 : decode cX12_qGoesOnTest 140 = .ok (.invokevirtual 627, 3) := by decide +kernel
theorem dX12_qGoesOnTest_143 : decode cX12_qGoesOnTest 143 = .ok (.ifCond .ne 12, 3) := by decide +kernel
theorem dX12_qGoesOnTest_146 : decode cX12_qGoesOnTest 146 = .ok (.aload_n 0, 1) := by decide +kernel
theorem dX12_qGoesOnTest_147 : decode cX12_qGoesOnTest 147 = .ok (.bipush 11, 2) := by decide +kernel
theorem dX12_qGoesOnTest_149 : decode cX12_qGoesOnTest 149 = .ok (.invokevirtual 627, 3) := by decide +kernel
theorem dX12_qGoesOnTest_152 : decode cX12_qGoesOnTest 152 = .ok (.ifCond .eq 10, 3) := by decide +kernel
theorem dX12_qGoesOnTest_155 : decode cX12_qGoesOnTest 155 = .ok (.aload_n 0, 1) := by decide +kernel
theorem dX12_qGoesOnTest_156 : decode cX12_qGoesOnTest 156 = .ok (.invokevirtual 600, 3) := by decide +kernel
theorem dX12_qGoesOnTest_159 : decode cX12_qGoesOnTest 159 = .ok (.goto (-22), 3) := by decide +kernel
theorem dX12_qGoesOnTest_162 : decode cX12_qGoesOnTest 162 = .ok (.aload_n 0, 1) := by decide +kernel
theorem dX12_qGoesOnTest_163 : decode cX12_qGoesOnTest 163 = .ok (.getfield 251, 3) := by decide +kernel
theorem dX12_qGoesOnTest_166 : decode cX12_qGoesOnTest 166 = .ok (.aload_n 0, 1) := by decide +kernel
theorem dX12_qGoesOnTest_167 : decode cX12_qGoesOnTest 167 = .ok (.getfield 355, 3) := by decide +kernel
theorem dX12_qGoesOnTest_170 : decode cX12_qGoesOnTest 170 = .ok (.bipush 11, 2) := by decide +kernel
theorem dX12_qGoesOnTest_172 : decode cX12_qGoesOnTest 172 = .ok (.iastore, 1) := by decide +kernel
theorem dX12_qGoesOnTest_173 : decode cX12_qGoesOnTest 173 = .ok (.aload_n 0, 1) := by decide +kernel
theorem dX12_qGoesOnTest_174 : decode cX12_qGoesOnTest 174 = .ok (.dup, 1) := by decide +kernel
theorem dX12_qGoesOnTest_175 : decode cX12_qGoesOnTest 175 = .ok (.getfield 355, 3) := by decide +kernel
theorem dX12_qGoesOnTest_178 : decode cX12_qGoesOnTest 178 = .ok (.iconst 1, 1) := by decide +kernel
theorem dX12_qGoesOnTest_179 : decode cX12_qGoesOnTest 179 = .ok (.iadd, 1) := by decide +kernel
theorem dX12_qGoesOnTest_180 : decode cX12_qGoesOnTest 180 = .ok (.putfield 355, 3) := by decide +kernel
theorem dX12_qGoesOnTest_183 : decode cX12_qGoesOnTest 183 = .ok (.iconst 1, 1) := by decide +kernel
theorem dX12_qGoesOnTest_184 : decode cX12_qGoesOnTest 184 = .ok (.ireturn, 1) := by decide +kernel
theorem dX12_qGoesOnTest_185 : decode cX12_qGoesOnTest 185 = .ok (.aload_n 0, 1) := by decide +kernel
theorem dX12_qGoesOnTest_186 : decode cX12_qGoesOnTest 186 = .ok (.getfield 263, 3) := by decide +kernel
theorem dX12_qGoesOnTest_189 : decode cX12_qGoesOnTest 189 = .ok (.ifCond .ne 19, 3) := by decide +kernel
theorem dX12_qGoesOnTest_192 : decode cX12_qGoesOnTest 192 = .ok (.aload_n 0, 1) := by decide +kernel
theorem dX12_qGoesOnTest_193 : decode cX12_qGoesOnTest 193 = .ok (.invokevirtual 645, 3) := by decide +kernel
theorem dX12_qGoesOnTest_196 : decode cX12_qGoesOnTest 196 = .ok (.ifCond .eq 12, 3) := by decide +kernel
theorem dX12_qGoesOnTest_199 : decode cX12_qGoesOnTest 199 = .ok (.aload_n 0, 1) := by decide +kernel
theorem dX12_qGoesOnTest_200 : decode cX12_qGoesOnTest 200 = .ok (.iconst 1, 1) := by decide +kernel
theorem dX12_qGoesOnTest_201 : decode cX12_qGoesOnTest 201 = .ok (.aload_n 0, 1) := by decide +kernel
theorem dX12_qGoesOnTest_202 : decode cX12_qGoesOnTest 202 = .ok (.getfield 269, 3) := by decide +kernel
theorem dX12_qGoesOnTest_205 : decode cX12_qGoesOnTest 205 = .ok (.invokevirtual 293, 3) := by decide +kernel
theorem dX12_qGoesOnTest_208 : decode cX12_qGoesOnTest 208 = .ok (.iconst 0, 1) := by decide +kernel
theorem dX12_qGoesOnTest_209 : decode cX12_qGoesOnTest 209 = .ok (.ireturn, 1) := by decide +kernel
theorem dX12_timeOf_0 : decode cX12_timeOf 0 = .ok (.aload_n 0, 1) := by decide +kernel
theorem dX12_timeOf_1 : decode cX12_timeOf 1 = .ok (.getfield 133, 3) := by decide +kernel
theorem dX12_timeOf_4 : decode cX12_timeOf 4 = .ok (.iconst 2, 1) := by decide +kernel
theorem dX12_timeOf_5 : decode cX12_timeOf 5 = .ok (.iaload, 1) := by decide +kernel
theorem dX12_timeOf_6 : decode cX12_timeOf 6 = .ok (.iconst (-1), 1) := by decide +kernel
theorem dX12_timeOf_7 : decode cX12_timeOf 7 = .ok (.if_icmp .ne 6, 3) := by decide +kernel
theorem dX12_timeOf_10 : decode cX12_timeOf 10 = .ok (.bipush 20, 2) := by decide +kernel
theorem dX12_timeOf_12 : decode cX12_timeOf 12 = .ok (.ireturn, 1) := by decide +kernel
theorem dX12_timeOf_13 : decode cX12_timeOf 13 = .ok (.aload_n 0, 1) := by decide +kernel
theorem dX12_timeOf_14 : decode cX12_timeOf 14 = .ok (.iconst 0, 1) := by decide +kernel
theorem dX12_timeOf_15 : decode cX12_timeOf 15 = .ok (.iload_n 1, 1) := by decide +kernel
theorem dX12_timeOf_16 : decode cX12_timeOf 16 = .ok (.iload_n 2, 1) := by decide +kernel
theorem dX12_timeOf_17 : decode cX12_timeOf 17 = .ok (.invokevirtual 445, 3) := by decide +kernel
theorem dX12_timeOf_20 : decode cX12_timeOf 20 = .ok (.lstore_n 3, 1) := by decide +kernel
theorem dX12_timeOf_21 : decode cX12_timeOf 21 = .ok (.lload_n 3, 1) := by decide +kernel
theorem dX12_timeOf_22 : decode cX12_timeOf 22 = .ok (.lconst 1, 1) := by decide +kernel
theorem dX12_timeOf_23 : decode cX12_timeOf 23 = .ok (.lcmp, 1) := by decide +kernel
theorem dX12_timeOf_24 : decode cX12_timeOf 24 = .ok (.ifCond .ge 7, 3) := by decide +kernel
theorem dX12_timeOf_27 : decode cX12_timeOf 27 = .ok (.iconst 1, 1) := by decide +kernel
theorem dX12_timeOf_28 : decode cX12_timeOf 28 = .ok (.goto 19, 3) := by decide +kernel
theorem dX12_timeOf_31 : decode cX12_timeOf 31 = .ok (.lload_n 3, 1) := by decide +kernel
theorem dX12_timeOf_32 : decode cX12_timeOf 32 = .ok (.ldc2_w 449, 3) := by decide +kernel
theorem dX12_timeOf_35 : decode cX12_timeOf 35 = .ok (.lcmp, 1) := by decide +kernel
theorem dX12_timeOf_36 : decode cX12_timeOf 36 = .ok (.ifCond .le 9, 3) := by decide +kernel
theorem dX12_timeOf_39 : decode cX12_timeOf 39 = .ok (.sipush 999, 3) := by decide +kernel
theorem dX12_timeOf_42 : decode cX12_timeOf 42 = .ok (.goto 5, 3) := by decide +kernel
theorem dX12_timeOf_45 : decode cX12_timeOf 45 = .ok (.lload_n 3, 1) := by decide +kernel
theorem dX12_timeOf_46 : decode cX12_timeOf 46 = .ok (.l2i, 1) := by decide +kernel
theorem dX12_timeOf_47 : decode cX12_timeOf 47 = .ok (.ireturn, 1) := by decide +kernel
theorem dX12_undo_0 : decode cX12_undo 0 = .ok (.aload_n 0, 1) := by decide +kernel
theorem dX12_undo_1 : decode cX12_undo 1 = .ok (.getfield 413, 3) := by decide +kernel
theorem dX12_undo_4 : decode cX12_undo 4 = .ok (.ifCond .ne 15, 3) := by decide +kernel
theorem dX12_undo_7 : decode cX12_undo 7 = .ok (.aload_n 0, 1) := by decide +kernel
theorem dX12_undo_8 : decode cX12_undo 8 = .ok (.getfield 17, 3) := by decide +kernel
theorem dX12_undo_11 : decode cX12_undo 11 = .ok (.iconst 4, 1) := by decide +kernel
theorem dX12_undo_12 : decode cX12_undo 12 = .ok (.dup2, 1) := by decide +kernel
theorem dX12_undo_13 : decode cX12_undo 13 = .ok (.iaload, 1) := by decide +kernel
theorem dX12_undo_14 : decode cX12_undo 14 = .ok (.iconst 1, 1) := by decide +kernel
theorem dX12_undo_15 : decode cX12_undo 15 = .ok (.iadd, 1) := by decide +kernel
theorem dX12_undo_16 : decode cX12_undo 16 = .ok (.iastore, 1) := by decide +kernel
theorem dX12_undo_17 : decode cX12_undo 17 = .ok (.iconst 0, 1) := by decide +kernel
theorem dX12_undo_18 : decode cX12_undo 18 = .ok (.ireturn, 1) := by decide +kernel
theorem dX12_undo_19 : decode cX12_undo 19 = .ok (.iconst 0, 1) := by decide +kernel
theorem dX12_undo_20 : decode cX12_undo 20 = .ok (.istore_n 1, 1) := by decide +kernel
theorem dX12_undo_21 : decode cX12_undo 21 = .ok (.iload_n 1, 1) := by decide +kernel
theorem dX12_undo_22 : decode cX12_undo 22 = .ok (.bipush 32, 2) := by decide +kernel
theorem dX12_undo_24 : decode cX12_undo 24 = .ok (.if_icmp .ge 29, 3) := by decide +kernel
theorem dX12_undo_27 : decode cX12_undo 27 = .ok (.aload_n 0, 1) := by decide +kernel
theorem dX12_undo_28 : decode cX12_undo 28 = .ok (.getfield 142, 3) := by decide +kernel
theorem dX12_undo_31 : decode cX12_undo 31 = .ok (.iload_n 1, 1) := by decide +kernel
theorem dX12_undo_32 : decode cX12_undo 32 = .ok (.aload_n 0, 1) := by decide +kernel
theorem dX12_undo_33 : decode cX12_undo 33 = .ok (.getfield 172, 3) := by decide +kernel
theorem dX12_undo_36 : decode cX12_undo 36 = .ok (.bipush 32, 2) := by decide +kernel
theorem dX12_undo_38 : decode cX12_undo 38 = .ok (.aload_n 0, 1) := by decide +kernel
theorem dX12_undo_39 : decode cX12_undo 39 = .ok (.getfield 572, 3) := by decide +kernel
theorem dX12_undo_42 : decode cX12_undo 42 = .ok (.imul, 1) := by decide +kernel
theorem dX12_undo_43 : decode cX12_undo 43 = .ok (.iload_n 1, 1) := by decide +kernel
theorem dX12_undo_44 : decode cX12_undo 44 = .ok (.iadd, 1) := by decide +kernel
theorem dX12_undo_45 : decode cX12_undo 45 = .ok (.iaload, 1) := by decide +kernel
theorem dX12_undo_46 : decode cX12_undo 46 = .ok (.iastore, 1) := by decide +kernel
theorem dX12_undo_47 : decode cX12_undo 47 = .ok (.iinc 1 1, 3) := by decide +kernel
theorem dX12_undo_50 : decode cX12_undo 50 = .ok (.goto (-29), 3) := by decide +kernel
theorem dX12_undo_53 : decode cX12_undo 53 = .ok (.aload_n 0, 1) := by decide +kernel
theorem dX12_undo_54 : decode cX12_undo 54 = .ok (.aload_n 0, 1) := by decide +kernel
theorem dX12_undo_55 : decode cX12_undo 55 = .ok (.getfield 572, 3) := by decide +kernel
theorem dX12_undo_58 : decode cX12_undo 58 = .ok (.bipush 20, 2) := by decide +kernel
theorem dX12_undo_60 : decode cX12_undo 60 = .ok (.iadd, 1) := by decide +kernel
theorem dX12_undo_61 : decode cX12_undo 61 = .ok (.iconst 1, 1) := by decide +kernel
theorem dX12_undo_62 : decode cX12_undo 62 = .ok (.isub, 1) := by decide +kernel
theorem dX12_undo_63 : decode cX12_undo 63 = .ok (.bipush 20, 2) := by decide +kernel
theorem dX12_undo_65 : decode cX12_undo 65 = .ok (.irem, 1) := by decide +kernel
theorem dX12_undo_66 : decode cX12_undo 66 = .ok (.putfield 572, 3) := by decide +kernel
theorem dX12_undo_69 : decode cX12_undo 69 = .ok (.aload_n 0, 1) := by decide +kernel
theorem dX12_undo_70 : decode cX12_undo 70 = .ok (.dup, 1) := by decide +kernel
theorem dX12_undo_71 : decode cX12_undo 71 = .ok (.getfield 413, 3) := by decide +kernel
theorem dX12_undo_74 : decode cX12_undo 74 = .ok (.iconst 1, 1) := by decide +kernel
theorem dX12_undo_75 : decode cX12_undo 75 = .ok (.isub, 1) := by decide +kernel
theorem dX12_undo_76 : decode cX12_undo 76 = .ok (.putfield 413, 3) := by decide +kernel
theorem dX12_undo_79 : decode cX12_undo 79 = .ok (.iconst 1, 1) := by decide +kernel
theorem dX12_undo_80 : decode cX12_undo 80 = .ok (.ireturn, 1) := by decide +kernel
theorem dX12_isFull_0 : decode cX12_isFull 0 = .ok (.aload_n 0, 1) := by decide +kernel
theorem dX12_isFull_1 : decode cX12_isFull 1 = .ok (.getfield 263, 3) := by decide +kernel
theorem dX12_isFull_4 : decode cX12_isFull 4 = .ok (.ifCond .ne 19, 3) := by decide +kernel
theorem dX12_isFull_7 : decode cX12_isFull 7 = .ok (.aload_n 0, 1) := by decide +kernel
theorem dX12_isFull_8 : decode cX12_isFull 8 = .ok (.getfield 105, 3) := by decide +kernel
theorem dX12_isFull_11 : decode cX12_isFull 11 = .ok (.iload_n 1, 1) := by decide +kernel
theorem dX12_isFull_12 : decode cX12_isFull 12 = .ok (.iaload, 1) := by decide +kernel
theorem dX12_isFull_13 : decode cX12_isFull 13 = .ok (.iload_n 2, 1) := by decide +kernel
theorem dX12_isFull_14 : decode cX12_isFull 14 = .ok (.if_icmp .ne 9, 3) := by decide +kernel
theorem dX12_isFull_17 : decode cX12_isFull 17 = .ok (.aload_n 0, 1) := by decide +kernel
theorem dX12_isFull_18 : decode cX12_isFull 18 = .ok (.iconst 5, 1) := by decide +kernel
theorem dX12_isFull_19 : decode cX12_isFull 19 = .ok (.iload_n 3, 1) := by decide +kernel
theorem dX12_isFull_20 : decode cX12_isFull 20 = .ok (.invokevirtual 293, 3) := by decide +kernel
theorem dX12_isFull_23 : decode cX12_isFull 23 = .ok (.aload_n 0, 1) := by decide +kernel
theorem dX12_isFull_24 : decode cX12_isFull 24 = .ok (.getfield 263, 3) := by decide +kernel
theorem dX12_isFull_27 : decode cX12_isFull 27 = .ok (.ifCond .eq 7, 3) := by decide +kernel
theorem dX12_isFull_30 : decode cX12_isFull 30 = .ok (.iconst 1, 1) := by decide +kernel
theorem dX12_isFull_31 : decode cX12_isFull 31 = .ok (.goto 4, 3) := by decide +kernel
theorem dX12_isFull_34 : decode cX12_isFull 34 = .ok (.iconst 0, 1) := by decide +kernel
theorem dX12_isFull_35 : decode cX12_isFull 35 = .ok (.ireturn, 1) := by decide +kernel
theorem dX12_asks_0 : decode cX12_asks 0 = .ok (.aload_n 0, 1) := by decide +kernel
theorem dX12_asks_1 : decode cX12_asks 1 = .ok (.getfield 263, 3) := by decide +kernel
theorem dX12_asks_4 : decode cX12_asks 4 = .ok (.ifCond .ne 20, 3) := by decide +kernel
theorem dX12_asks_7 : decode cX12_asks 7 = .ok (.aload_n 0, 1) := by decide +kernel
theorem dX12_asks_8 : decode cX12_asks 8 = .ok (.aload_n 1, 1) := by decide +kernel
theorem dX12_asks_9 : decode cX12_asks 9 = .ok (.invokevirtual 290, 3) := by decide +kernel
theorem dX12_asks_12 : decode cX12_asks 12 = .ok (.ifCond .ne 12, 3) := by decide +kernel
theorem dX12_asks_15 : decode cX12_asks 15 = .ok (.aload_n 0, 1) := by decide +kernel
theorem dX12_asks_16 : decode cX12_asks 16 = .ok (.iconst 1, 1) := by decide +kernel
theorem dX12_asks_17 : decode cX12_asks 17 = .ok (.aload_n 0, 1) := by decide +kernel
theorem dX12_asks_18 : decode cX12_asks 18 = .ok (.getfield 269, 3) := by decide +kernel
theorem dX12_asks_21 : decode cX12_asks 21 = .ok (.invokevirtual 293, 3) := by decide +kernel
theorem dX12_asks_24 : decode cX12_asks 24 = .ok (.return_, 1) := by decide +kernel
theorem dX12_eveningGoes_0 : decode cX12_eveningGoes 0 = .ok (.aload_n 0, 1) := by decide +kernel
theorem dX12_eveningGoes_1 : decode cX12_eveningGoes 1 = .ok (.invokevirtual 485, 3) := by decide +kernel
theorem dX12_eveningGoes_4 : decode cX12_eveningGoes 4 = .ok (.istore_n 1, 1) := by decide +kernel
theorem dX12_eveningGoes_5 : decode cX12_eveningGoes 5 = .ok (.iconst 0, 1) := by decide +kernel
theorem dX12_eveningGoes_6 : decode cX12_eveningGoes 6 = .ok (.istore_n 2, 1) := by decide +kernel
theorem dX12_eveningGoes_7 : decode cX12_eveningGoes 7 = .ok (.iload_n 2, 1) := by decide +kernel
theorem dX12_eveningGoes_8 : decode cX12_eveningGoes 8 = .ok (.aload_n 0, 1) := by decide +kernel
theorem dX12_eveningGoes_9 : decode cX12_eveningGoes 9 = .ok (.invokevirtual 419, 3) := by decide +kernel
theorem dX12_eveningGoes_12 : decode cX12_eveningGoes 12 = .ok (.if_icmp .ge 31, 3) := by decide +kernel
theorem dX12_eveningGoes_15 : decode cX12_eveningGoes 15 = .ok (.aload_n 0, 1) := by decide +kernel
theorem dX12_eveningGoes_16 : decode cX12_eveningGoes 16 = .ok (.getfield 154, 3) := by decide +kernel
theorem dX12_eveningGoes_19 : decode cX12_eveningGoes 19 = .ok (.iload_n 2, 1) := by decide +kernel
theorem dX12_eveningGoes_20 : decode cX12_eveningGoes 20 = .ok (.iaload, 1) := by decide +kernel
theorem dX12_eveningGoes_21 : decode cX12_eveningGoes 21 = .ok (.ifCond .le 16, 3) := by decide +kernel
theorem dX12_eveningGoes_24 : decode cX12_eveningGoes 24 = .ok (.aload_n 0, 1) := by decide +kernel
theorem dX12_eveningGoes_25 : decode cX12_eveningGoes 25 = .ok (.iload_n 2, 1) := by decide +kernel
theorem dX12_eveningGoes_26 : decode cX12_eveningGoes 26 = .ok (.aload_n 0, 1) := by decide +kernel
theorem dX12_eveningGoes_27 : decode cX12_eveningGoes 27 = .ok (.getfield 154, 3) := by decide +kernel
theorem dX12_eveningGoes_30 : decode cX12_eveningGoes 30 = .ok (.iload_n 2, 1) := by decide +kernel
theorem dX12_eveningGoes_31 : decode cX12_eveningGoes 31 = .ok (.iaload, 1) := by decide +kernel
theorem dX12_eveningGoes_32 : decode cX12_eveningGoes 32 = .ok (.iconst 1, 1) := by decide +kernel
theorem dX12_eveningGoes_33 : decode cX12_eveningGoes 33 = .ok (.isub, 1) := by decide +kernel
theorem dX12_eveningGoes_34 : decode cX12_eveningGoes 34 = .ok (.invokevirtual 488, 3) := by decide +kernel
theorem dX12_eveningGoes_37 : decode cX12_eveningGoes 37 = .ok (.iinc 2 1, 3) := by decide +kernel
theorem dX12_eveningGoes_40 : decode cX12_eveningGoes 40 = .ok (.goto (-33), 3) := by decide +kernel
theorem dX12_eveningGoes_43 : decode cX12_eveningGoes 43 = .ok (.aload_n 0, 1) := by decide +kernel
theorem dX12_eveningGoes_44 : decode cX12_eveningGoes 44 = .ok (.getfield 142, 3) := by decide +kernel
theorem dX12_eveningGoes_47 : decode cX12_eveningGoes 47 = .ok (.iconst 0, 1) := by decide +kernel
theorem dX12_eveningGoes_48 : decode cX12_eveningGoes 48 = .ok (.dup2, 1) := by decide +kernel
theorem dX12_eveningGoes_49 : decode cX12_eveningGoes 49 = .ok (.iaload, 1) := by decide +kernel
theorem dX12_eveningGoes_50 : decode cX12_eveningGoes 50 = .ok (.iconst 1, 1) := by decide +kernel
theorem dX12_eveningGoes_51 : decode cX12_eveningGoes 51 = .ok (.iadd, 1) := by decide +kernel
theorem dX12_eveningGoes_52 : decode cX12_eveningGoes 52 = .ok (.iastore, 1) := by decide +kernel
theorem dX12_eveningGoes_53 : decode cX12_eveningGoes 53 = .ok (.aload_n 0, 1) := by decide +kernel
theorem dX12_eveningGoes_54 : decode cX12_eveningGoes 54 = .ok (.invokevirtual 407, 3) := by decide +kernel
theorem dX12_eveningGoes_57 : decode cX12_eveningGoes 57 = .ok (.iload_n 1, 1) := by decide +kernel
theorem dX12_eveningGoes_58 : decode cX12_eveningGoes 58 = .ok (.ireturn, 1) := by decide +kernel
theorem dX12_ask_0 : decode cX12_ask 0 = .ok (.aload_n 0, 1) := by decide +kernel
theorem dX12_ask_1 : decode cX12_ask 1 = .ok (.aload_n 0, 1) := by decide +kernel
theorem dX12_ask_2 : decode cX12_ask 2 = .ok (.getfield 260, 3) := by decide +kernel
theorem dX12_ask_5 : decode cX12_ask 5 = .ok (.putfield 272, 3) := by decide +kernel
theorem dX12_ask_8 : decode cX12_ask 8 = .ok (.aload_n 0, 1) := by decide +kernel
theorem dX12_ask_9 : decode cX12_ask 9 = .ok (.iconst 0, 1) := by decide +kernel
theorem dX12_ask_10 : decode cX12_ask 10 = .ok (.putfield 260, 3) := by decide +kernel
theorem dX12_ask_13 : decode cX12_ask 13 = .ok (.aload_n 0, 1) := by decide +kernel
theorem dX12_ask_14 : decode cX12_ask 14 = .ok (.iconst 0, 1) := by decide +kernel
theorem dX12_ask_15 : decode cX12_ask 15 = .ok (.putfield 269, 3) := by decide +kernel
theorem dX12_ask_18 : decode cX12_ask 18 = .ok (.aload_n 0, 1) := by decide +kernel
theorem dX12_ask_19 : decode cX12_ask 19 = .ok (.iconst (-1), 1) := by decide +kernel
theorem dX12_ask_20 : decode cX12_ask 20 = .ok (.putfield 283, 3) := by decide +kernel
theorem dX12_ask_23 : decode cX12_ask 23 = .ok (.aload_n 0, 1) := by decide +kernel
theorem dX12_ask_24 : decode cX12_ask 24 = .ok (.iconst 0, 1) := by decide +kernel
theorem dX12_ask_25 : decode cX12_ask 25 = .ok (.putfield 263, 3) := by decide +kernel
theorem dX12_ask_28 : decode cX12_ask 28 = .ok (.aload_n 0, 1) := by decide +kernel
theorem dX12_ask_29 : decode cX12_ask 29 = .ok (.iconst (-1), 1) := by decide +kernel
theorem dX12_ask_30 : decode cX12_ask 30 = .ok (.putfield 266, 3) := by decide +kernel
theorem dX12_ask_33 : decode cX12_ask 33 = .ok (.aload_n 0, 1) := by decide +kernel
theorem dX12_ask_34 : decode cX12_ask 34 = .ok (.iconst 0, 1) := by decide +kernel
theorem dX12_ask_35 : decode cX12_ask 35 = .ok (.putfield 318, 3) := by decide +kernel
theorem dX12_ask_38 : decode cX12_ask 38 = .ok (.aload_n 0, 1) := by decide +kernel
theorem dX12_ask_39 : decode cX12_ask 39 = .ok (.iconst 0, 1) := by decide +kernel
theorem dX12_ask_40 : decode cX12_ask 40 = .ok (.putfield 352, 3) := by decide +kernel
theorem dX12_ask_43 : decode cX12_ask 43 = .ok (.aload_n 0, 1) := by decide +kernel
theorem dX12_ask_44 : decode cX12_ask 44 = .ok (.iconst 0, 1) := by decide +kernel
theorem dX12_ask_45 : decode cX12_ask 45 = .ok (.putfield 355, 3) := by decide +kernel
theorem dX12_ask_48 : decode cX12_ask 48 = .ok (.aload_n 0, 1) := by decide +kernel
theorem dX12_ask_49 : decode cX12_ask 49 = .ok (.iconst 0, 1) := by decide +kernel
theorem dX12_ask_50 : decode cX12_ask 50 = .ok (.putfield 358, 3) := by decide +kernel
theorem dX12_ask_53 : decode cX12_ask 53 = .ok (.aload_n 0, 1) := by decide +kernel
theorem dX12_ask_54 : decode cX12_ask 54 = .ok (.iconst 0, 1) := by decide +kernel
theorem dX12_ask_55 : decode cX12_ask 55 = .ok (.putfield 361, 3) := by decide +kernel
theorem dX12_ask_58 : decode cX12_ask 58 = .ok (.aload_n 0, 1) := by decide +kernel
theorem dX12_ask_59 : decode cX12_ask 59 = .ok (.invokevirtual 672, 3) := by decide +kernel
theorem dX12_ask_62 : decode cX12_ask 62 = .ok (.istore_n 1, 1) := by decide +kernel
theorem dX12_ask_63 : decode cX12_ask 63 = .ok (.aload_n 0, 1) := by decide +kernel
theorem dX12_ask_64 : decode cX12_ask 64 = .ok (.getfield 263, 3) := by decide +kernel
theorem dX12_ask_67 : decode cX12_ask 67 = .ok (.ifCond .ne 15, 3) := by decide +kernel
theorem dX12_ask_70 : decode cX12_ask 70 = .ok (.iload_n 1, 1) := by decide +kernel
theorem dX12_ask_71 : decode cX12_ask 71 = .ok (.iconst 3, 1) := by decide +kernel
theorem dX12_ask_72 : decode cX12_ask 72 = .ok (.if_icmp .ge 10, 3) := by decide +kernel
theorem dX12_ask_75 : decode cX12_ask 75 = .ok (.aload_n 0, 1) := by decide +kernel
theorem dX12_ask_76 : decode cX12_ask 76 = .ok (.invokevirtual 675, 3) := by decide +kernel
theorem dX12_ask_79 : decode cX12_ask 79 = .ok (.goto 14, 3) := by decide +kernel
theorem dX12_ask_82 : decode cX12_ask 82 = .ok (.aload_n 0, 1) := by decide +kernel
theorem dX12_ask_83 : decode cX12_ask 83 = .ok (.getfield 263, 3) := by decide +kernel
theorem dX12_ask_86 : decode cX12_ask 86 = .ok (.ifCond .ne 7, 3) := by decide +kernel
theorem dX12_ask_89 : decode cX12_ask 89 = .ok (.aload_n 0, 1) := by decide +kernel
theorem dX12_ask_90 : decode cX12_ask 90 = .ok (.invokevirtual 364, 3) := by decide +kernel
theorem dX12_ask_93 : decode cX12_ask 93 = .ok (.aload_n 0, 1) := by decide +kernel
theorem dX12_ask_94 : decode cX12_ask 94 = .ok (.getfield 263, 3) := by decide +kernel
theorem dX12_ask_97 : decode cX12_ask 97 = .ok (.ifCond .ne 20, 3) := by decide +kernel
theorem dX12_ask_100 : decode cX12_ask 100 = .ok (.aload_n 0, 1) := by decide +kernel
theorem dX12_ask_101 : decode cX12_ask 101 = .ok (.invokevirtual 275, 3) := by decide +kernel
theorem dX12_ask_104 : decode cX12_ask 104 = .ok (.iconst (-1), 1) := by decide +kernel
theorem dX12_ask_105 : decode cX12_ask 105 = .ok (.if_icmp .eq 12, 3) := by decide +kernel
theorem dX12_ask_108 : decode cX12_ask 108 = .ok (.aload_n 0, 1) := by decide +kernel
theorem dX12_ask_109 : decode cX12_ask 109 = .ok (.iconst 1, 1) := by decide +kernel
theorem dX12_ask_110 : decode cX12_ask 110 = .ok (.aload_n 0, 1) := by decide +kernel
theorem dX12_ask_111 : decode cX12_ask 111 = .ok (.getfield 269, 3) := by decide +kernel
theorem dX12_ask_114 : decode cX12_ask 114 = .ok (.invokevirtual 293, 3) := by decide +kernel
theorem dX12_ask_117 : decode cX12_ask 117 = .ok (.aload_n 0, 1) := by decide +kernel
theorem dX12_ask_118 : decode cX12_ask 118 = .ok (.aload_n 0, 1) := by decide +kernel
theorem dX12_ask_119 : decode cX12_ask 119 = .ok (.getfield 263, 3) := by decide +kernel
theorem dX12_ask_122 : decode cX12_ask 122 = .ok (.putfield 401, 3) := by decide +kernel
theorem dX12_ask_125 : decode cX12_ask 125 = .ok (.aload_n 0, 1) := by decide +kernel
theorem dX12_ask_126 : decode cX12_ask 126 = .ok (.aload_n 0, 1) := by decide +kernel
theorem dX12_ask_127 : decode cX12_ask 127 = .ok (.getfield 266, 3) := by decide +kernel
theorem dX12_ask_130 : decode cX12_ask 130 = .ok (.putfield 13, 3) := by decide +kernel
theorem dX12_ask_133 : decode cX12_ask 133 = .ok (.aload_n 0, 1) := by decide +kernel
theorem dX12_ask_134 : decode cX12_ask 134 = .ok (.getfield 263, 3) := by decide +kernel
theorem dX12_ask_137 : decode cX12_ask 137 = .ok (.ifCond .eq 7, 3) := by decide +kernel
theorem dX12_ask_140 : decode cX12_ask 140 = .ok (.ldc2_w 519, 3) := by decide +kernel
theorem dX12_ask_143 : decode cX12_ask 143 = .ok (.lreturn, 1) := by decide +kernel
theorem dX12_ask_144 : decode cX12_ask 144 = .ok (.aload_n 0, 1) := by decide +kernel
theorem dX12_ask_145 : decode cX12_ask 145 = .ok (.iload_n 1, 1) := by decide +kernel
theorem dX12_ask_146 : decode cX12_ask 146 = .ok (.iconst 2, 1) := by decide +kernel
theorem dX12_ask_147 : decode cX12_ask 147 = .ok (.if_icmp .ge 9, 3) := by decide +kernel
theorem dX12_ask_150 : decode cX12_ask 150 = .ok (.ldc2_w 667, 3) := by decide +kernel
theorem dX12_ask_153 : decode cX12_ask 153 = .ok (.goto 4, 3) := by decide +kernel
theorem dX12_ask_156 : decode cX12_ask 156 = .ok (.lconst 0, 1) := by decide +kernel
theorem dX12_ask_157 : decode cX12_ask 157 = .ok (.putfield 664, 3) := by decide +kernel
theorem dX12_ask_160 : decode cX12_ask 160 = .ok (.aload_n 0, 1) := by decide +kernel
theorem dX12_ask_161 : decode cX12_ask 161 = .ok (.iconst 1, 1) := by decide +kernel
theorem dX12_ask_162 : decode cX12_ask 162 = .ok (.putfield 669, 3) := by decide +kernel
theorem dX12_ask_165 : decode cX12_ask 165 = .ok (.aload_n 0, 1) := by decide +kernel
theorem dX12_ask_166 : decode cX12_ask 166 = .ok (.iconst 0, 1) := by decide +kernel
theorem dX12_ask_167 : decode cX12_ask 167 = .ok (.putfield 318, 3) := by decide +kernel
theorem dX12_ask_170 : decode cX12_ask 170 = .ok (.iconst 0, 1) := by decide +kernel
theorem dX12_ask_171 : decode cX12_ask 171 = .ok (.istore_n 2, 1) := by decide +kernel
theorem dX12_ask_172 : decode cX12_ask 172 = .ok (.iload_n 2, 1) := by decide +kernel
theorem dX12_ask_173 : decode cX12_ask 173 = .ok (.aload_n 0, 1) := by decide +kernel
theorem dX12_ask_174 : decode cX12_ask 174 = .ok (.invokevirtual 419, 3) := by decide +kernel
theorem dX12_ask_177 : decode cX12_ask 177 = .ok (.if_icmp .ge 20, 3) := by decide +kernel
theorem dX12_ask_180 : decode cX12_ask 180 = .ok (.aload_n 0, 1) := by decide +kernel
theorem dX12_ask_181 : decode cX12_ask 181 = .ok (.iload_n 1, 1) := by decide +kernel
theorem dX12_ask_182 : decode cX12_ask 182 = .ok (.aload_n 0, 1) := by decide +kernel
theorem dX12_ask_183 : decode cX12_ask 183 = .ok (.iload_n 2, 1) := by decide +kernel
theorem dX12_ask_184 : decode cX12_ask 184 = .ok (.invokevirtual 678, 3) := by decide +kernel
theorem dX12_ask_187 : decode cX12_ask 187 = .ok (.iload_n 2, 1) := by decide +kernel
theorem dX12_ask_188 : decode cX12_ask 188 = .ok (.invokevirtual 682, 3) := by decide +kernel
theorem dX12_ask_191 : decode cX12_ask 191 = .ok (.iinc 2 1, 3) := by decide +kernel
theorem dX12_ask_194 : decode cX12_ask 194 = .ok (.goto (-22), 3) := by decide +kernel
theorem dX12_ask_197 : decode cX12_ask 197 = .ok (.aload_n 0, 1) := by decide +kernel
theorem dX12_ask_198 : decode cX12_ask 198 = .ok (.getfield 664, 3) := by decide +kernel
theorem dX12_ask_201 : decode cX12_ask 201 = .ok (.lreturn, 1) := by decide +kernel
theorem dX12_isIn_0 : decode cX12_isIn 0 = .ok (.lload_n 0, 1) := by decide +kernel
theorem dX12_isIn_1 : decode cX12_isIn 1 = .ok (.lload_n 2, 1) := by decide +kernel
theorem dX12_isIn_2 : decode cX12_isIn 2 = .ok (.lcmp, 1) := by decide +kernel
theorem dX12_isIn_3 : decode cX12_isIn 3 = .ok (.ifCond .lt 14, 3) := by decide +kernel
theorem dX12_isIn_6 : decode cX12_isIn 6 = .ok (.lload_n 0, 1) := by decide +kernel
theorem dX12_isIn_7 : decode cX12_isIn 7 = .ok (.lload 4, 2) := by decide +kernel
theorem dX12_isIn_9 : decode cX12_isIn 9 = .ok (.lcmp, 1) := by decide +kernel
theorem dX12_isIn_10 : decode cX12_isIn 10 = .ok (.ifCond .gt 7, 3) := by decide +kernel
theorem dX12_isIn_13 : decode cX12_isIn 13 = .ok (.iconst 1, 1) := by decide +kernel
theorem dX12_isIn_14 : decode cX12_isIn 14 = .ok (.goto 4, 3) := by decide +kernel
theorem dX12_isIn_17 : decode cX12_isIn 17 = .ok (.iconst 0, 1) := by decide +kernel
theorem dX12_isIn_18 : decode cX12_isIn 18 = .ok (.ireturn, 1) := by decide +kernel
theorem dX12_eats_0 : decode cX12_eats 0 = .ok (.aload_n 0, 1) := by decide +kernel
theorem dX12_eats_1 : decode cX12_eats 1 = .ok (.aload_n 1, 1) := by decide +kernel
theorem dX12_eats_2 : decode cX12_eats 2 = .ok (.invokevirtual 286, 3) := by decide +kernel
theorem dX12_eats_5 : decode cX12_eats 5 = .ok (.ifCond .ne 5, 3) := by decide +kernel
theorem dX12_eats_8 : decode cX12_eats 8 = .ok (.iconst 0, 1) := by decide +kernel
theorem dX12_eats_9 : decode cX12_eats 9 = .ok (.ireturn, 1) := by decide +kernel
theorem dX12_eats_10 : decode cX12_eats 10 = .ok (.aload_n 0, 1) := by decide +kernel
theorem dX12_eats_11 : decode cX12_eats 11 = .ok (.dup, 1) := by decide +kernel
theorem dX12_eats_12 : decode cX12_eats 12 = .ok (.getfield 269, 3) := by decide +kernel
theorem dX12_eats_15 : decode cX12_eats 15 = .ok (.aload_n 1, 1) := by decide +kernel
theorem dX12_eats_16 : decode cX12_eats 16 = .ok (.arraylength, 1) := by decide +kernel
theorem dX12_eats_17 : decode cX12_eats 17 = .ok (.iadd, 1) := by decide +kernel
theorem dX12_eats_18 : decode cX12_eats 18 = .ok (.putfield 269, 3) := by decide +kernel
theorem dX12_eats_21 : decode cX12_eats 21 = .ok (.aload_n 0, 1) := by decide +kernel
theorem dX12_eats_22 : decode cX12_eats 22 = .ok (.aload_n 0, 1) := by decide +kernel
theorem dX12_eats_23 : decode cX12_eats 23 = .ok (.getfield 269, 3) := by decide +kernel
theorem dX12_eats_26 : decode cX12_eats 26 = .ok (.putfield 283, 3) := by decide +kernel
theorem dX12_eats_29 : decode cX12_eats 29 = .ok (.iconst 1, 1) := by decide +kernel
theorem dX12_eats_30 : decode cX12_eats 30 = .ok (.ireturn, 1) := by decide +kernel
theorem dX12_takesSign_0 : decode cX12_takesSign 0 = .ok (.aload_n 0, 1) := by decide +kernel
theorem dX12_takesSign_1 : decode cX12_takesSign 1 = .ok (.getfield 263, 3) := by decide +kernel
theorem dX12_takesSign_4 : decode cX12_takesSign 4 = .ok (.ifCond .ne 11, 3) := by decide +kernel
theorem dX12_takesSign_7 : decode cX12_takesSign 7 = .ok (.aload_n 0, 1) := by decide +kernel
theorem dX12_takesSign_8 : decode cX12_takesSign 8 = .ok (.invokevirtual 275, 3) := by decide +kernel
theorem dX12_takesSign_11 : decode cX12_takesSign 11 = .ok (.iload_n 1, 1) := by decide +kernel
theorem dX12_takesSign_12 : decode cX12_takesSign 12 = .ok (.if_icmp .eq 5, 3) := by decide +kernel
theorem dX12_takesSign_15 : decode cX12_takesSign 15 = .ok (.iconst 0, 1) := by decide +kernel
theorem dX12_takesSign_16 : decode cX12_takesSign 16 = .ok (.ireturn, 1) := by decide +kernel
theorem dX12_takesSign_17 : decode cX12_takesSign 17 = .ok (.aload_n 0, 1) := by decide +kernel
theorem dX12_takesSign_18 : decode cX12_takesSign 18 = .ok (.dup, 1) := by decide +kernel
theorem dX12_takesSign_19 : decode cX12_takesSign 19 = .ok (.getfield 269, 3) := by decide +kernel
theorem dX12_takesSign_22 : decode cX12_takesSign 22 = .ok (.iconst 1, 1) := by decide +kernel
theorem dX12_takesSign_23 : decode cX12_takesSign 23 = .ok (.iadd, 1) := by decide +kernel
theorem dX12_takesSign_24 : decode cX12_takesSign 24 = .ok (.putfield 269, 3) := by decide +kernel
theorem dX12_takesSign_27 : decode cX12_takesSign 27 = .ok (.iconst 1, 1) := by decide +kernel
theorem dX12_takesSign_28 : decode cX12_takesSign 28 = .ok (.ireturn, 1) := by decide +kernel
theorem dX12_isImage_0 : decode cX12_isImage 0 = .ok (.iconst 2, 1) := by decide +kernel
theorem dX12_isImage_1 : decode cX12_isImage 1 = .ok (.aload_n 0, 1) := by decide +kernel
theorem dX12_isImage_2 : decode cX12_isImage 2 = .ok (.invokevirtual 422, 3) := by decide +kernel
theorem dX12_isImage_5 : decode cX12_isImage 5 = .ok (.iadd, 1) := by decide +kernel
theorem dX12_isImage_6 : decode cX12_isImage 6 = .ok (.istore_n 2, 1) := by decide +kernel
theorem dX12_isImage_7 : decode cX12_isImage 7 = .ok (.iload_n 2, 1) := by decide +kernel
theorem dX12_isImage_8 : decode cX12_isImage 8 = .ok (.aload_n 0, 1) := by decide +kernel
theorem dX12_isImage_9 : decode cX12_isImage 9 = .ok (.invokevirtual 410, 3) := by decide +kernel
theorem dX12_isImage_12 : decode cX12_isImage 12 = .ok (.iadd, 1) := by decide +kernel
theorem dX12_isImage_13 : decode cX12_isImage 13 = .ok (.istore_n 3, 1) := by decide +kernel
theorem dX12_isImage_14 : decode cX12_isImage 14 = .ok (.iload_n 1, 1) := by decide +kernel
theorem dX12_isImage_15 : decode cX12_isImage 15 = .ok (.iload_n 3, 1) := by decide +kernel
theorem dX12_isImage_16 : decode cX12_isImage 16 = .ok (.iconst 3, 1) := by decide +kernel
theorem dX12_isImage_17 : decode cX12_isImage 17 = .ok (.aload_n 0, 1) := by decide +kernel
theorem dX12_isImage_18 : decode cX12_isImage 18 = .ok (.invokevirtual 419, 3) := by decide +kernel
theorem dX12_isImage_21 : decode cX12_isImage 21 = .ok (.imul, 1) := by decide +kernel
theorem dX12_isImage_22 : decode cX12_isImage 22 = .ok (.iadd, 1) := by decide +kernel
theorem dX12_isImage_23 : decode cX12_isImage 23 = .ok (.iconst 1, 1) := by decide +kernel
theorem dX12_isImage_24 : decode cX12_isImage 24 = .ok (.iadd, 1) := by decide +kernel
theorem dX12_isImage_25 : decode cX12_isImage 25 = .ok (.if_icmp .ne 47, 3) := by decide +kernel
theorem dX12_isImage_28 : decode cX12_isImage 28 = .ok (.aload_n 0, 1) := by decide +kernel
theorem dX12_isImage_29 : decode cX12_isImage 29 = .ok (.getfield 7, 3) := by decide +kernel
theorem dX12_isImage_32 : decode cX12_isImage 32 = .ok (.iload_n 1, 1) := by decide +kernel
theorem dX12_isImage_33 : decode cX12_isImage 33 = .ok (.iconst 1, 1) := by decide +kernel
theorem dX12_isImage_34 : decode cX12_isImage 34 = .ok (.isub, 1) := by decide +kernel
theorem dX12_isImage_35 : decode cX12_isImage 35 = .ok (.iaload, 1) := by decide +kernel
theorem dX12_isImage_36 : decode cX12_isImage 36 = .ok (.aload_n 0, 1) := by decide +kernel
theorem dX12_isImage_37 : decode cX12_isImage 37 = .ok (.getfield 7, 3) := by decide +kernel
theorem dX12_isImage_40 : decode cX12_isImage 40 = .ok (.iload_n 1, 1) := by decide +kernel
theorem dX12_isImage_41 : decode cX12_isImage 41 = .ok (.iconst 1, 1) := by decide +kernel
theorem dX12_isImage_42 : decode cX12_isImage 42 = .ok (.isub, 1) := by decide +kernel
theorem dX12_isImage_43 : decode cX12_isImage 43 = .ok (.invokestatic 692, 3) := by decide +kernel
theorem dX12_isImage_46 : decode cX12_isImage 46 = .ok (.if_icmp .ne 26, 3) := by decide +kernel
theorem dX12_isImage_49 : decode cX12_isImage 49 = .ok (.sipush 256, 3) := by decide +kernel
theorem dX12_isImage_52 : decode cX12_isImage 52 = .ok (.aload_n 0, 1) := by decide +kernel
theorem dX12_isImage_53 : decode cX12_isImage 53 = .ok (.getfield 7, 3) := by decide +kernel
theorem dX12_isImage_56 : decode cX12_isImage 56 = .ok (.iconst 0, 1) := by decide +kernel
theorem dX12_isImage_57 : decode cX12_isImage 57 = .ok (.iaload, 1) := by decide +kernel
theorem dX12_isImage_58 : decode cX12_isImage 58 = .ok (.imul, 1) := by decide +kernel
theorem dX12_isImage_59 : decode cX12_isImage 59 = .ok (.aload_n 0, 1) := by decide +kernel
theorem dX12_isImage_60 : decode cX12_isImage 60 = .ok (.getfield 7, 3) := by decide +kernel
theorem dX12_isImage_63 : decode cX12_isImage 63 = .ok (.iconst 1, 1) := by decide +kernel
theorem dX12_isImage_64 : decode cX12_isImage 64 = .ok (.iaload, 1) := by decide +kernel
theorem dX12_isImage_65 : decode cX12_isImage 65 = .ok (.iadd, 1) := by decide +kernel
theorem dX12_isImage_66 : decode cX12_isImage 66 = .ok (.sipush 999, 3) := by decide +kernel
theorem dX12_isImage_69 : decode cX12_isImage 69 = .ok (.if_icmp .le 5, 3) := by decide +kernel
theorem dX12_isImage_72 : decode cX12_isImage 72 = .ok (.iconst 0, 1) := by decide +kernel
theorem dX12_isImage_73 : decode cX12_isImage 73 = .ok (.ireturn, 1) := by decide +kernel
theorem dX12_isImage_74 : decode cX12_isImage 74 = .ok (.iconst 0, 1) := by decide +kernel
theorem dX12_isImage_75 : decode cX12_isImage 75 = .ok (.istore 4, 2) := by decide +kernel
theorem dX12_isImage_77 : decode cX12_isImage 77 = .ok (.iload 4, 2) := by decide +kernel
theorem dX12_isImage_79 : decode cX12_isImage 79 = .ok (.aload_n 0, 1) := by decide +kernel
theorem dX12_isImage_80 : decode cX12_isImage 80 = .ok (.invokevirtual 422, 3) := by decide +kernel
theorem dX12_isImage_83 : decode cX12_isImage 83 = .ok (.if_icmp .ge 35, 3) := by decide +kernel
theorem dX12_isImage_86 : decode cX12_isImage 86 = .ok (.aload_n 0, 1) := by decide +kernel
theorem dX12_isImage_87 : decode cX12_isImage 87 = .ok (.getfield 7, 3) := by decide +kernel
theorem dX12_isImage_90 : decode cX12_isImage 90 = .ok (.iconst 2, 1) := by decide +kernel
theorem dX12_isImage_91 : decode cX12_isImage 91 = .ok (.iload 4, 2) := by decide +kernel
theorem dX12_isImage_93 : decode cX12_isImage 93 = .ok (.iadd, 1) := by decide +kernel
theorem dX12_isImage_94 : decode cX12_isImage 94 = .ok (.iaload, 1) := by decide +kernel
theorem dX12_isImage_95 : decode cX12_isImage 95 = .ok (.aload_n 0, 1) := by decide +kernel
theorem dX12_isImage_96 : decode cX12_isImage 96 = .ok (.getfield 127, 3) := by decide +kernel
theorem dX12_isImage_99 : decode cX12_isImage 99 = .ok (.bipush 9, 2) := by decide +kernel
theorem dX12_isImage_101 : decode cX12_isImage 101 = .ok (.iconst 3, 1) := by decide +kernel
theorem dX12_isImage_102 : decode cX12_isImage 102 = .ok (.iload 4, 2) := by decide +kernel
theorem dX12_isImage_104 : decode cX12_isImage 104 = .ok (.imul, 1) := by decide +kernel
theorem dX12_isImage_105 : decode cX12_isImage 105 = .ok (.iadd, 1) := by decide +kernel
theorem dX12_isImage_106 : decode cX12_isImage 106 = .ok (.iaload, 1) := by decide +kernel
theorem dX12_isImage_107 : decode cX12_isImage 107 = .ok (.if_icmp .le 5, 3) := by decide +kernel
theorem dX12_isImage_110 : decode cX12_isImage 110 = .ok (.iconst 0, 1) := by decide +kernel
theorem dX12_isImage_111 : decode cX12_isImage 111 = .ok (.ireturn, 1) := by decide +kernel
theorem dX12_isImage_112 : decode cX12_isImage 112 = .ok (.iinc 4 1, 3) := by decide +kernel
theorem dX12_isImage_115 : decode cX12_isImage 115 = .ok (.goto (-38), 3) := by decide +kernel
theorem dX12_isImage_118 : decode cX12_isImage 118 = .ok (.iconst 0, 1) := by decide +kernel
theorem dX12_isImage_119 : decode cX12_isImage 119 = .ok (.istore 4, 2) := by decide +kernel
theorem dX12_isImage_121 : decode cX12_isImage 121 = .ok (.iload 4, 2) := by decide +kernel
theorem dX12_isImage_123 : decode cX12_isImage 123 = .ok (.aload_n 0, 1) := by decide +kernel
theorem dX12_isImage_124 : decode cX12_isImage 124 = .ok (.invokevirtual 410, 3) := by decide +kernel
theorem dX12_isImage_127 : decode cX12_isImage 127 = .ok (.if_icmp .ge 32, 3) := by decide +kernel
theorem dX12_isImage_130 : decode cX12_isImage 130 = .ok (.aload_n 0, 1) := by decide +kernel
theorem dX12_isImage_131 : decode cX12_isImage 131 = .ok (.getfield 7, 3) := by decide +kernel
theorem dX12_isImage_134 : decode cX12_isImage 134 = .ok (.iload_n 2, 1) := by decide +kernel
theorem dX12_isImage_135 : decode cX12_isImage 135 = .ok (.iload 4, 2) := by decide +kernel
theorem dX12_isImage_137 : decode cX12_isImage 137 = .ok (.iadd, 1) := by decide +kernel
theorem dX12_isImage_138 : decode cX12_isImage 138 = .ok (.iaload, 1) := by decide +kernel
theorem dX12_isImage_139 : decode cX12_isImage 139 = .ok (.aload_n 0, 1) := by decide +kernel
theorem dX12_isImage_140 : decode cX12_isImage 140 = .ok (.getfield 115, 3) := by decide +kernel
theorem dX12_isImage_143 : decode cX12_isImage 143 = .ok (.iconst 4, 1) := by decide +kernel
theorem dX12_isImage_144 : decode cX12_isImage 144 = .ok (.iload 4, 2) := by decide +kernel
theorem dX12_isImage_146 : decode cX12_isImage 146 = .ok (.iadd, 1) := by decide +kernel
theorem dX12_isImage_147 : decode cX12_isImage 147 = .ok (.iaload, 1) := by decide +kernel
theorem dX12_isImage_148 : decode cX12_isImage 148 = .ok (.if_icmp .le 5, 3) := by decide +kernel
theorem dX12_isImage_151 : decode cX12_isImage 151 = .ok (.iconst 0, 1) := by decide +kernel
theorem dX12_isImage_152 : decode cX12_isImage 152 = .ok (.ireturn, 1) := by decide +kernel
theorem dX12_isImage_153 : decode cX12_isImage 153 = .ok (.iinc 4 1, 3) := by decide +kernel
theorem dX12_isImage_156 : decode cX12_isImage 156 = .ok (.goto (-35), 3) := by decide +kernel
theorem dX12_isImage_159 : decode cX12_isImage 159 = .ok (.aload_n 0, 1) := by decide +kernel
theorem dX12_isImage_160 : decode cX12_isImage 160 = .ok (.iload_n 3, 1) := by decide +kernel
theorem dX12_isImage_161 : decode cX12_isImage 161 = .ok (.invokevirtual 696, 3) := by decide +kernel
theorem dX12_isImage_164 : decode cX12_isImage 164 = .ok (.ireturn, 1) := by decide +kernel
theorem dX12_look_0 : decode cX12_look 0 = .ok (.aload_n 0, 1) := by decide +kernel
theorem dX12_look_1 : decode cX12_look 1 = .ok (.getfield 269, 3) := by decide +kernel
theorem dX12_look_4 : decode cX12_look 4 = .ok (.aload_n 0, 1) := by decide +kernel
theorem dX12_look_5 : decode cX12_look 5 = .ok (.getfield 272, 3) := by decide +kernel
theorem dX12_look_8 : decode cX12_look 8 = .ok (.if_icmp .ge 44, 3) := by decide +kernel
theorem dX12_look_11 : decode cX12_look 11 = .ok (.aload_n 0, 1) := by decide +kernel
theorem dX12_look_12 : decode cX12_look 12 = .ok (.getfield 7, 3) := by decide +kernel
theorem dX12_look_15 : decode cX12_look 15 = .ok (.aload_n 0, 1) := by decide +kernel
theorem dX12_look_16 : decode cX12_look 16 = .ok (.getfield 269, 3) := by decide +kernel
theorem dX12_look_19 : decode cX12_look 19 = .ok (.iaload, 1) := by decide +kernel
theorem dX12_look_20 : decode cX12_look 20 = .ok (.bipush 10, 2) := by decide +kernel
theorem dX12_look_22 : decode cX12_look 22 = .ok (.if_icmp .eq 17, 3) := by decide +kernel
theorem dX12_look_25 : decode cX12_look 25 = .ok (.aload_n 0, 1) := by decide +kernel
theorem dX12_look_26 : decode cX12_look 26 = .ok (.getfield 7, 3) := by decide +kernel
theorem dX12_look_29 : decode cX12_look 29 = .ok (.aload_n 0, 1) := by decide +kernel
theorem dX12_look_30 : decode cX12_look 30 = .ok (.getfield 269, 3) := by decide +kernel
theorem dX12_look_33 : decode cX12_look 33 = .ok (.iaload, 1) := by decide +kernel
theorem dX12_look_34 : decode cX12_look 34 = .ok (.bipush 32, 2) := by decide +kernel
theorem dX12_look_36 : decode cX12_look 36 = .ok (.if_icmp .ne 16, 3) := by decide +kernel
theorem dX12_look_39 : decode cX12_look 39 = .ok (.aload_n 0, 1) := by decide +kernel
theorem dX12_look_40 : decode cX12_look 40 = .ok (.dup, 1) := by decide +kernel
theorem dX12_look_41 : decode cX12_look 41 = .ok (.getfield 269, 3) := by decide +kernel
theorem dX12_look_44 : decode cX12_look 44 = .ok (.iconst 1, 1) := by decide +kernel
theorem dX12_look_45 : decode cX12_look 45 = .ok (.iadd, 1) := by decide +kernel
theorem dX12_look_46 : decode cX12_look 46 = .ok (.putfield 269, 3) := by decide +kernel
theorem dX12_look_49 : decode cX12_look 49 = .ok (.goto (-49), 3) := by decide +kernel
theorem dX12_look_52 : decode cX12_look 52 = .ok (.aload_n 0, 1) := by decide +kernel
theorem dX12_look_53 : decode cX12_look 53 = .ok (.getfield 269, 3) := by decide +kernel
theorem dX12_look_56 : decode cX12_look 56 = .ok (.aload_n 0, 1) := by decide +kernel
theorem dX12_look_57 : decode cX12_look 57 = .ok (.getfield 272, 3) := by decide +kernel
theorem dX12_look_60 : decode cX12_look 60 = .ok (.if_icmp .ge 15, 3) := by decide +kernel
theorem dX12_look_63 : decode cX12_look 63 = .ok (.aload_n 0, 1) := by decide +kernel
theorem dX12_look_64 : decode cX12_look 64 = .ok (.getfield 7, 3) := by decide +kernel
theorem dX12_look_67 : decode cX12_look 67 = .ok (.aload_n 0, 1) := by decide +kernel
theorem dX12_look_68 : decode cX12_look 68 = .ok (.getfield 269, 3) := by decide +kernel
theorem dX12_look_71 : decode cX12_look 71 = .ok (.iaload, 1) := by decide +kernel
theorem dX12_look_72 : decode cX12_look 72 = .ok (.goto 4, 3) := by decide +kernel
theorem dX12_look_75 : decode cX12_look 75 = .ok (.iconst (-1), 1) := by decide +kernel
theorem dX12_look_76 : decode cX12_look 76 = .ok (.ireturn, 1) := by decide +kernel
theorem dX12_adds_0 : decode cX12_adds 0 = .ok (.aload_n 0, 1) := by decide +kernel
theorem dX12_adds_1 : decode cX12_adds 1 = .ok (.getfield 108, 3) := by decide +kernel
theorem dX12_adds_4 : decode cX12_adds 4 = .ok (.bipush 8, 2) := by decide +kernel
theorem dX12_adds_6 : decode cX12_adds 6 = .ok (.iload_n 1, 1) := by decide +kernel
theorem dX12_adds_7 : decode cX12_adds 7 = .ok (.imul, 1) := by decide +kernel
theorem dX12_adds_8 : decode cX12_adds 8 = .ok (.aload_n 0, 1) := by decide +kernel
theorem dX12_adds_9 : decode cX12_adds 9 = .ok (.getfield 105, 3) := by decide +kernel
theorem dX12_adds_12 : decode cX12_adds 12 = .ok (.iload_n 1, 1) := by decide +kernel
theorem dX12_adds_13 : decode cX12_adds 13 = .ok (.iaload, 1) := by decide +kernel
theorem dX12_adds_14 : decode cX12_adds 14 = .ok (.iadd, 1) := by decide +kernel
theorem dX12_adds_15 : decode cX12_adds 15 = .ok (.lload_n 2, 1) := by decide +kernel
theorem dX12_adds_16 : decode cX12_adds 16 = .ok (.lastore, 1) := by decide +kernel
theorem dX12_adds_17 : decode cX12_adds 17 = .ok (.aload_n 0, 1) := by decide +kernel
theorem dX12_adds_18 : decode cX12_adds 18 = .ok (.getfield 105, 3) := by decide +kernel
theorem dX12_adds_21 : decode cX12_adds 21 = .ok (.iload_n 1, 1) := by decide +kernel
theorem dX12_adds_22 : decode cX12_adds 22 = .ok (.dup2, 1) := by decide +kernel
theorem dX12_adds_23 : decode cX12_adds 23 = .ok (.iaload, 1) := by decide +kernel
theorem dX12_adds_24 : decode cX12_adds 24 = .ok (.iconst 1, 1) := by decide +kernel
theorem dX12_adds_25 : decode cX12_adds 25 = .ok (.iadd, 1) := by decide +kernel
theorem dX12_adds_26 : decode cX12_adds 26 = .ok (.iastore, 1) := by decide +kernel
theorem dX12_adds_27 : decode cX12_adds 27 = .ok (.aload_n 0, 1) := by decide +kernel
theorem dX12_adds_28 : decode cX12_adds 28 = .ok (.getfield 105, 3) := by decide +kernel
theorem dX12_adds_31 : decode cX12_adds 31 = .ok (.iload_n 1, 1) := by decide +kernel
theorem dX12_adds_32 : decode cX12_adds 32 = .ok (.iaload, 1) := by decide +kernel
theorem dX12_adds_33 : decode cX12_adds 33 = .ok (.iconst 1, 1) := by decide +kernel
theorem dX12_adds_34 : decode cX12_adds 34 = .ok (.isub, 1) := by decide +kernel
theorem dX12_adds_35 : decode cX12_adds 35 = .ok (.ireturn, 1) := by decide +kernel
theorem dX12_seed_0 : decode cX12_seed 0 = .ok (.iload_n 1, 1) := by decide +kernel
theorem dX12_seed_1 : decode cX12_seed 1 = .ok (.ifCond .ge 15, 3) := by decide +kernel
theorem dX12_seed_4 : decode cX12_seed 4 = .ok (.aload_n 0, 1) := by decide +kernel
theorem dX12_seed_5 : decode cX12_seed 5 = .ok (.getfield 17, 3) := by decide +kernel
theorem dX12_seed_8 : decode cX12_seed 8 = .ok (.iconst 5, 1) := by decide +kernel
theorem dX12_seed_9 : decode cX12_seed 9 = .ok (.dup2, 1) := by decide +kernel
theorem dX12_seed_10 : decode cX12_seed 10 = .ok (.iaload, 1) := by decide +kernel
theorem dX12_seed_11 : decode cX12_seed 11 = .ok (.iconst 1, 1) := by decide +kernel
theorem dX12_seed_12 : decode cX12_seed 12 = .ok (.iadd, 1) := by decide +kernel
theorem dX12_seed_13 : decode cX12_seed 13 = .ok (.iastore, 1) := by decide +kernel
theorem dX12_seed_14 : decode cX12_seed 14 = .ok (.iconst 0, 1) := by decide +kernel
theorem dX12_seed_15 : decode cX12_seed 15 = .ok (.ireturn, 1) := by decide +kernel
theorem dX12_seed_16 : decode cX12_seed 16 = .ok (.aload_n 0, 1) := by decide +kernel
theorem dX12_seed_17 : decode cX12_seed 17 = .ok (.iload_n 1, 1) := by decide +kernel
theorem dX12_seed_18 : decode cX12_seed 18 = .ok (.i2l, 1) := by decide +kernel
theorem dX12_seed_19 : decode cX12_seed 19 = .ok (.putfield 175, 3) := by decide +kernel
theorem dX12_seed_22 : decode cX12_seed 22 = .ok (.iconst 1, 1) := by decide +kernel
theorem dX12_seed_23 : decode cX12_seed 23 = .ok (.ireturn, 1) := by decide +kernel
theorem dX12_tell_0 : decode cX12_tell 0 = .ok (.iconst 0, 1) := by decide +kernel
theorem dX12_tell_1 : decode cX12_tell 1 = .ok (.istore_n 2, 1) := by decide +kernel
theorem dX12_tell_2 : decode cX12_tell 2 = .ok (.iconst 1, 1) := by decide +kernel
theorem dX12_tell_3 : decode cX12_tell 3 = .ok (.istore_n 3, 1) := by decide +kernel
theorem dX12_tell_4 : decode cX12_tell 4 = .ok (.iload_n 3, 1) := by decide +kernel
theorem dX12_tell_5 : decode cX12_tell 5 = .ok (.bipush 12, 2) := by decide +kernel
theorem dX12_tell_7 : decode cX12_tell 7 = .ok (.if_icmp .ge 24, 3) := by decide +kernel
theorem dX12_tell_10 : decode cX12_tell 10 = .ok (.aload_n 0, 1) := by decide +kernel
theorem dX12_tell_11 : decode cX12_tell 11 = .ok (.iload_n 3, 1) := by decide +kernel
theorem dX12_tell_12 : decode cX12_tell 12 = .ok (.invokevirtual 551, 3) := by decide +kernel
theorem dX12_tell_15 : decode cX12_tell 15 = .ok (.aload_n 0, 1) := by decide +kernel
theorem dX12_tell_16 : decode cX12_tell 16 = .ok (.iload_n 2, 1) := by decide +kernel
theorem dX12_tell_17 : decode cX12_tell 17 = .ok (.invokevirtual 551, 3) := by decide +kernel
theorem dX12_tell_20 : decode cX12_tell 20 = .ok (.if_icmp .ge 5, 3) := by decide +kernel
theorem dX12_tell_23 : decode cX12_tell 23 = .ok (.iload_n 3, 1) := by decide +kernel
theorem dX12_tell_24 : decode cX12_tell 24 = .ok (.istore_n 2, 1) := by decide +kernel
theorem dX12_tell_25 : decode cX12_tell 25 = .ok (.iinc 3 1, 3) := by decide +kernel
theorem dX12_tell_28 : decode cX12_tell 28 = .ok (.goto (-24), 3) := by decide +kernel
theorem dX12_tell_31 : decode cX12_tell 31 = .ok (.iload_n 1, 1) := by decide +kernel
theorem dX12_tell_32 : decode cX12_tell 32 = .ok (.ifCond .ne 7, 3) := by decide +kernel
theorem dX12_tell_35 : decode cX12_tell 35 = .ok (.iload_n 2, 1) := by decide +kernel
theorem dX12_tell_36 : decode cX12_tell 36 = .ok (.goto 17, 3) := by decide +kernel
theorem dX12_tell_39 : decode cX12_tell 39 = .ok (.iload_n 1, 1) := by decide +kernel
theorem dX12_tell_40 : decode cX12_tell 40 = .ok (.iconst 1, 1) := by decide +kernel
theorem dX12_tell_41 : decode cX12_tell 41 = .ok (.if_icmp .ne 11, 3) := by decide +kernel
theorem dX12_tell_44 : decode cX12_tell 44 = .ok (.aload_n 0, 1) := by decide +kernel
theorem dX12_tell_45 : decode cX12_tell 45 = .ok (.iload_n 2, 1) := by decide +kernel
theorem dX12_tell_46 : decode cX12_tell 46 = .ok (.invokevirtual 551, 3) := by decide +kernel
theorem dX12_tell_49 : decode cX12_tell 49 = .ok (.goto 4, 3) := by decide +kernel
theorem dX12_tell_52 : decode cX12_tell 52 = .ok (.iconst (-1), 1) := by decide +kernel
theorem dX12_tell_53 : decode cX12_tell 53 = .ok (.ireturn, 1) := by decide +kernel
theorem dX12_qTold_0 : decode cX12_qTold 0 = .ok (.aload_n 0, 1) := by decide +kernel
theorem dX12_qTold_1 : decode cX12_qTold 1 = .ok (.iconst 0, 1) := by decide +kernel
theorem dX12_qTold_2 : decode cX12_qTold 2 = .ok (.putfield 431, 3) := by decide +kernel
theorem dX12_qTold_5 : decode cX12_qTold 5 = .ok (.iconst 0, 1) := by decide +kernel
theorem dX12_qTold_6 : decode cX12_qTold 6 = .ok (.istore_n 2, 1) := by decide +kernel
theorem dX12_qTold_7 : decode cX12_qTold 7 = .ok (.iload_n 2, 1) := by decide +kernel
theorem dX12_qTold_8 : decode cX12_qTold 8 = .ok (.aload_n 0, 1) := by decide +kernel
theorem dX12_qTold_9 : decode cX12_qTold 9 = .ok (.getfield 352, 3) := by decide +kernel
theorem dX12_qTold_12 : decode cX12_qTold 12 = .ok (.if_icmp .ge 156, 3) := by decide +kernel
theorem dX12_qTold_15 : decode cX12_qTold 15 = .ok (.aload_n 0, 1) := by decide +kernel
theorem dX12_qTold_16 : decode cX12_qTold 16 = .ok (.getfield 248, 3) := by decide +kernel
theorem dX12_qTold_19 : decode cX12_qTold 19 = .ok (.iload_n 2, 1) := by decide +kernel
theorem dX12_qTold_20 : decode cX12_qTold 20 = .ok (.iaload, 1) := by decide +kernel
theorem dX12_qTold_21 : decode cX12_qTold 21 = .ok (.istore_n 3, 1) := by decide +kernel
theorem dX12_qTold_22 : decode cX12_qTold 22 = .ok (.iload_n 3, 1) := by decide +kernel
theorem dX12_qTold_23 : decode cX12_qTold 23 = .ok (.sipush 1000, 3) := by decide +kernel
theorem dX12_qTold_26 : decode cX12_qTold 26 = .ok (.if_icmp .lt 16, 3) := by decide +kernel
theorem dX12_qTold_29 : decode cX12_qTold 29 = .ok (.aload_n 0, 1) := by decide +kernel
theorem dX12_qTold_30 : decode cX12_qTold 30 = .ok (.iload_n 3, 1) := by decide +kernel
theorem dX12_qTold_31 : decode cX12_qTold 31 = .ok (.sipush 1000, 3) := by decide +kernel
theorem dX12_qTold_34 : decode cX12_qTold 34 = .ok (.isub, 1) := by decide +kernel
theorem dX12_qTold_35 : decode cX12_qTold 35 = .ok (.i2l, 1) := by decide +kernel
theorem dX12_qTold_36 : decode cX12_qTold 36 = .ok (.invokevirtual 434, 3) := by decide +kernel
theorem dX12_qTold_39 : decode cX12_qTold 39 = .ok (.goto 123, 3) := by decide +kernel
theorem dX12_qTold_42 : decode cX12_qTold 42 = .ok (.iload_n 3, 1) := by decide +kernel
theorem dX12_qTold_43 : decode cX12_qTold 43 = .ok (.bipush 60, 2) := by decide +kernel
theorem dX12_qTold_45 : decode cX12_qTold 45 = .ok (.if_icmp .lt 40, 3) := by decide +kernel
theorem dX12_qTold_48 : decode cX12_qTold 48 = .ok (.aload_n 0, 1) := by decide +kernel
theorem dX12_qTold_49 : decode cX12_qTold 49 = .ok (.getfield 254, 3) := by decide +kernel
theorem dX12_qTold_52 : decode cX12_qTold 52 = .ok (.aload_n 0, 1) := by decide +kernel
theorem dX12_qTold_53 : decode cX12_qTold 53 = .ok (.getfield 431, 3) := by decide +kernel
theorem dX12_qTold_56 : decode cX12_qTold 56 = .ok (.iconst 1, 1) := by decide +kernel
theorem dX12_qTold_57 : decode cX12_qTold 57 = .ok (.isub, 1) := by decide +kernel
theorem dX12_qTold_58 : decode cX12_qTold 58 = .ok (.aload_n 0, 1) := by decide +kernel
theorem dX12_qTold_59 : decode cX12_qTold 59 = .ok (.iload_n 3, 1) := by decide +kernel
theorem dX12_qTold_60 : decode cX12_qTold 60 = .ok (.bipush 60, 2) := by decide +kernel
theorem dX12_qTold_62 : decode cX12_qTold 62 = .ok (.isub, 1) := by decide +kernel
theorem dX12_qTold_63 : decode cX12_qTold 63 = .ok (.aload_n 0, 1) := by decide +kernel
theorem dX12_qTold_64 : decode cX12_qTold 64 = .ok (.getfield 254, 3) := by decide +kernel
theorem dX12_qTold_67 : decode cX12_qTold 67 = .ok (.aload_n 0, 1) := by decide +kernel
theorem dX12_qTold_68 : decode cX12_qTold 68 = .ok (.getfield 431, 3) := by decide +kernel
theorem dX12_qTold_71 : decode cX12_qTold 71 = .ok (.iconst 1, 1) := by decide +kernel
theorem dX12_qTold_72 : decode cX12_qTold 72 = .ok (.isub, 1) := by decide +kernel
theorem dX12_qTold_73 : decode cX12_qTold 73 = .ok (.laload, 1) := by decide +kernel
theorem dX12_qTold_74 : decode cX12_qTold 74 = .ok (.iload_n 1, 1) := by decide +kernel
theorem dX12_qTold_75 : decode cX12_qTold 75 = .ok (.invokevirtual 660, 3) := by decide +kernel
theorem dX12_qTold_78 : decode cX12_qTold 78 = .ok (.invokestatic 652, 3) := by decide +kernel
theorem dX12_qTold_81 : decode cX12_qTold 81 = .ok (.lastore, 1) := by decide +kernel
theorem dX12_qTold_82 : decode cX12_qTold 82 = .ok (.goto 80, 3) := by decide +kernel
theorem dX12_qTold_85 : decode cX12_qTold 85 = .ok (.iload_n 3, 1) := by decide +kernel
theorem dX12_qTold_86 : decode cX12_qTold 86 = .ok (.bipush 40, 2) := by decide +kernel
theorem dX12_qTold_88 : decode cX12_qTold 88 = .ok (.if_icmp .lt 22, 3) := by decide +kernel
theorem dX12_qTold_91 : decode cX12_qTold 91 = .ok (.aload_n 0, 1) := by decide +kernel
theorem dX12_qTold_92 : decode cX12_qTold 92 = .ok (.aload_n 0, 1) := by decide +kernel
theorem dX12_qTold_93 : decode cX12_qTold 93 = .ok (.iload_n 3, 1) := by decide +kernel
theorem dX12_qTold_94 : decode cX12_qTold 94 = .ok (.bipush 40, 2) := by decide +kernel
theorem dX12_qTold_96 : decode cX12_qTold 96 = .ok (.isub, 1) := by decide +kernel
theorem dX12_qTold_97 : decode cX12_qTold 97 = .ok (.iload_n 1, 1) := by decide +kernel
theorem dX12_qTold_98 : decode cX12_qTold 98 = .ok (.invokevirtual 438, 3) := by decide +kernel
theorem dX12_qTold_101 : decode cX12_qTold 101 = .ok (.invokestatic 652, 3) := by decide +kernel
theorem dX12_qTold_104 : decode cX12_qTold 104 = .ok (.invokevirtual 434, 3) := by decide +kernel
theorem dX12_qTold_107 : decode cX12_qTold 107 = .ok (.goto 55, 3) := by decide +kernel
theorem dX12_qTold_110 : decode cX12_qTold 110 = .ok (.iload_n 3, 1) := by decide +kernel
theorem dX12_qTold_111 : decode cX12_qTold 111 = .ok (.bipush 13, 2) := by decide +kernel
theorem dX12_qTold_113 : decode cX12_qTold 113 = .ok (.if_icmp .ne 11, 3) := by decide +kernel
theorem dX12_qTold_116 : decode cX12_qTold 116 = .ok (.aload_n 0, 1) := by decide +kernel
theorem dX12_qTold_117 : decode cX12_qTold 117 = .ok (.lconst 1, 1) := by decide +kernel
theorem dX12_qTold_118 : decode cX12_qTold 118 = .ok (.invokevirtual 434, 3) := by decide +kernel
theorem dX12_qTold_121 : decode cX12_qTold 121 = .ok (.goto 41, 3) := by decide +kernel
theorem dX12_qTold_124 : decode cX12_qTold 124 = .ok (.iload_n 3, 1) := by decide +kernel
theorem dX12_qTold_125 : decode cX12_qTold 125 = .ok (.bipush 12, 2) := by decide +kernel
theorem dX12_qTold_127 : decode cX12_qTold 127 = .ok (.if_icmp .ne 30, 3) := by decide +kernel
theorem dX12_qTold_130 : decode cX12_qTold 130 = .ok (.aload_n 0, 1) := by decide +kernel
theorem dX12_qTold_131 : decode cX12_qTold 131 = .ok (.getfield 254, 3) := by decide +kernel
theorem dX12_qTold_134 : decode cX12_qTold 134 = .ok (.aload_n 0, 1) := by decide +kernel
theorem dX12_qTold_135 : decode cX12_qTold 135 = .ok (.getfield 431, 3) := by decide +kernel
theorem dX12_qTold_138 : decode cX12_qTold 138 = .ok (.iconst 1, 1) := by decide +kernel
theorem dX12_qTold_139 : decode cX12_qTold 139 = .ok (.isub, 1) := by decide +kernel
theorem dX12_qTold_140 : decode cX12_qTold 140 = .ok (.lconst 1, 1) := by decide +kernel
theorem dX12_qTold_141 : decode cX12_qTold 141 = .ok (.aload_n 0, 1) := by decide +kernel
theorem dX12_qTold_142 : decode cX12_qTold 142 = .ok (.getfield 254, 3) := by decide +kernel
theorem dX12_qTold_145 : decode cX12_qTold 145 = .ok (.aload_n 0, 1) := by decide +kernel
theorem dX12_qTold_146 : decode cX12_qTold 146 = .ok (.getfield 431, 3) := by decide +kernel
theorem dX12_qTold_149 : decode cX12_qTold 149 = .ok (.iconst 1, 1) := by decide +kernel
theorem dX12_qTold_150 : decode cX12_qTold 150 = .ok (.isub, 1) := by decide +kernel
theorem dX12_qTold_151 : decode cX12_qTold 151 = .ok (.laload, 1) := by decide +kernel
theorem dX12_qTold_152 : decode cX12_qTold 152 = .ok (.lsub, 1) := by decide +kernel
theorem dX12_qTold_153 : decode cX12_qTold 153 = .ok (.lastore, 1) := by decide +kernel
theorem dX12_qTold_154 : decode cX12_qTold 154 = .ok (.goto 8, 3) := by decide +kernel
theorem dX12_qTold_157 : decode cX12_qTold 157 = .ok (.aload_n 0, 1) := by decide +kernel
theorem dX12_qTold_158 : decode cX12_qTold 158 = .ok (.iload_n 3, 1) := by decide +kernel
theorem dX12_qTold_159 : decode cX12_qTold 159 = .ok (.invokevirtual 442, 3) := by decide +kernel
theorem dX12_qTold_162 : decode cX12_qTold 162 = .ok (.iinc 2 1, 3) := by decide +kernel
theorem dX12_qTold_165 : decode cX12_qTold 165 = .ok (.goto (-158), 3) := by decide +kernel
theorem dX12_qTold_168 : decode cX12_qTold 168 = .ok (.aload_n 0, 1) := by decide +kernel
theorem dX12_qTold_169 : decode cX12_qTold 169 = .ok (.getfield 254, 3) := by decide +kernel
theorem dX12_qTold_172 : decode cX12_qTold 172 = .ok (.iconst 0, 1) := by decide +kernel
theorem dX12_qTold_173 : decode cX12_qTold 173 = .ok (.laload, 1) := by decide +kernel
theorem dX12_qTold_174 : decode cX12_qTold 174 = .ok (.lreturn, 1) := by decide +kernel
theorem dX12_laysSheets_0 : decode cX12_laysSheets 0 = .ok (.iconst 0, 1) := by decide +kernel
theorem dX12_laysSheets_1 : decode cX12_laysSheets 1 = .ok (.istore_n 2, 1) := by decide +kernel
theorem dX12_laysSheets_2 : decode cX12_laysSheets 2 = .ok (.iload_n 2, 1) := by decide +kernel
theorem dX12_laysSheets_3 : decode cX12_laysSheets 3 = .ok (.bipush 8, 2) := by decide +kernel
theorem dX12_laysSheets_5 : decode cX12_laysSheets 5 = .ok (.if_icmp .ge 16, 3) := by decide +kernel
theorem dX12_laysSheets_8 : decode cX12_laysSheets 8 = .ok (.aload_n 0, 1) := by decide +kernel
theorem dX12_laysSheets_9 : decode cX12_laysSheets 9 = .ok (.getfield 148, 3) := by decide +kernel
theorem dX12_laysSheets_12 : decode cX12_laysSheets 12 = .ok (.iload_n 2, 1) := by decide +kernel
theorem dX12_laysSheets_13 : decode cX12_laysSheets 13 = .ok (.iconst 0, 1) := by decide +kernel
theorem dX12_laysSheets_14 : decode cX12_laysSheets 14 = .ok (.iastore, 1) := by decide +kernel
theorem dX12_laysSheets_15 : decode cX12_laysSheets 15 = .ok (.iinc 2 1, 3) := by decide +kernel
theorem dX12_laysSheets_18 : decode cX12_laysSheets 18 = .ok (.goto (-16), 3) := by decide +kernel
theorem dX12_laysSheets_21 : decode cX12_laysSheets 21 = .ok (.iconst 0, 1) := by decide +kernel
theorem dX12_laysSheets_22 : decode cX12_laysSheets 22 = .ok (.istore_n 2, 1) := by decide +kernel
theorem dX12_laysSheets_23 : decode cX12_laysSheets 23 = .ok (.iload_n 2, 1) := by decide +kernel
theorem dX12_laysSheets_24 : decode cX12_laysSheets 24 = .ok (.ifCond .lt 58, 3) := by decide +kernel
theorem dX12_laysSheets_27 : decode cX12_laysSheets 27 = .ok (.iload_n 2, 1) := by decide +kernel
theorem dX12_laysSheets_28 : decode cX12_laysSheets 28 = .ok (.aload_n 0, 1) := by decide +kernel
theorem dX12_laysSheets_29 : decode cX12_laysSheets 29 = .ok (.invokevirtual 419, 3) := by decide +kernel
theorem dX12_laysSheets_32 : decode cX12_laysSheets 32 = .ok (.if_icmp .ge 50, 3) := by decide +kernel
theorem dX12_laysSheets_35 : decode cX12_laysSheets 35 = .ok (.aload_n 0, 1) := by decide +kernel
theorem dX12_laysSheets_36 : decode cX12_laysSheets 36 = .ok (.getfield 148, 3) := by decide +kernel
theorem dX12_laysSheets_39 : decode cX12_laysSheets 39 = .ok (.iload_n 2, 1) := by decide +kernel
theorem dX12_laysSheets_40 : decode cX12_laysSheets 40 = .ok (.dup2, 1) := by decide +kernel
theorem dX12_laysSheets_41 : decode cX12_laysSheets 41 = .ok (.iaload, 1) := by decide +kernel
theorem dX12_laysSheets_42 : decode cX12_laysSheets 42 = .ok (.iconst 1, 1) := by decide +kernel
theorem dX12_laysSheets_43 : decode cX12_laysSheets 43 = .ok (.iadd, 1) := by decide +kernel
theorem dX12_laysSheets_44 : decode cX12_laysSheets 44 = .ok (.iastore, 1) := by decide +kernel
theorem dX12_laysSheets_45 : decode cX12_laysSheets 45 = .ok (.aload_n 0, 1) := by decide +kernel
theorem dX12_laysSheets_46 : decode cX12_laysSheets 46 = .ok (.getfield 148, 3) := by decide +kernel
theorem dX12_laysSheets_49 : decode cX12_laysSheets 49 = .ok (.iload_n 2, 1) := by decide +kernel
theorem dX12_laysSheets_50 : decode cX12_laysSheets 50 = .ok (.iaload, 1) := by decide +kernel
theorem dX12_laysSheets_51 : decode cX12_laysSheets 51 = .ok (.iload_n 1, 1) := by decide +kernel
theorem dX12_laysSheets_52 : decode cX12_laysSheets 52 = .ok (.if_icmp .le 16, 3) := by decide +kernel
theorem dX12_laysSheets_55 : decode cX12_laysSheets 55 = .ok (.aload_n 0, 1) := by decide +kernel
theorem dX12_laysSheets_56 : decode cX12_laysSheets 56 = .ok (.getfield 148, 3) := by decide +kernel
theorem dX12_laysSheets_59 : decode cX12_laysSheets 59 = .ok (.iload_n 2, 1) := by decide +kernel
theorem dX12_laysSheets_60 : decode cX12_laysSheets 60 = .ok (.iconst 0, 1) := by decide +kernel
theorem dX12_laysSheets_61 : decode cX12_laysSheets 61 = .ok (.iastore, 1) := by decide +kernel
theorem dX12_laysSheets_62 : decode cX12_laysSheets 62 = .ok (.iinc 2 (-1), 3) := by decide +kernel
theorem dX12_laysSheets_65 : decode cX12_laysSheets 65 = .ok (.goto (-42), 3) := by decide +kernel
theorem dX12_laysSheets_68 : decode cX12_laysSheets 68 = .ok (.aload_n 0, 1) := by decide +kernel
theorem dX12_laysSheets_69 : decode cX12_laysSheets 69 = .ok (.iload_n 2, 1) := by decide +kernel
theorem dX12_laysSheets_70 : decode cX12_laysSheets 70 = .ok (.invokevirtual 539, 3) := by decide +kernel
theorem dX12_laysSheets_73 : decode cX12_laysSheets 73 = .ok (.ifCond .eq (-50), 3) := by decide +kernel
theorem dX12_laysSheets_76 : decode cX12_laysSheets 76 = .ok (.iinc 2 1, 3) := by decide +kernel
theorem dX12_laysSheets_79 : decode cX12_laysSheets 79 = .ok (.goto (-56), 3) := by decide +kernel
theorem dX12_laysSheets_82 : decode cX12_laysSheets 82 = .ok (.iload_n 2, 1) := by decide +kernel
theorem dX12_laysSheets_83 : decode cX12_laysSheets 83 = .ok (.ifCond .lt 7, 3) := by decide +kernel
theorem dX12_laysSheets_86 : decode cX12_laysSheets 86 = .ok (.iconst 1, 1) := by decide +kernel
theorem dX12_laysSheets_87 : decode cX12_laysSheets 87 = .ok (.goto 4, 3) := by decide +kernel
theorem dX12_laysSheets_90 : decode cX12_laysSheets 90 = .ok (.iconst 0, 1) := by decide +kernel
theorem dX12_laysSheets_91 : decode cX12_laysSheets 91 = .ok (.ireturn, 1) := by decide +kernel
theorem dX12_fault_0 : decode cX12_fault 0 = .ok (.iload_n 1, 1) := by decide +kernel
theorem dX12_fault_1 : decode cX12_fault 1 = .ok (.ifCond .ne 10, 3) := by decide +kernel
theorem dX12_fault_4 : decode cX12_fault 4 = .ok (.aload_n 0, 1) := by decide +kernel
theorem dX12_fault_5 : decode cX12_fault 5 = .ok (.getfield 401, 3) := by decide +kernel
theorem dX12_fault_8 : decode cX12_fault 8 = .ok (.goto 16, 3) := by decide +kernel
theorem dX12_fault_11 : decode cX12_fault 11 = .ok (.iload_n 1, 1) := by decide +kernel
theorem dX12_fault_12 : decode cX12_fault 12 = .ok (.iconst 1, 1) := by decide +kernel
theorem dX12_fault_13 : decode cX12_fault 13 = .ok (.if_icmp .ne 10, 3) := by decide +kernel
theorem dX12_fault_16 : decode cX12_fault 16 = .ok (.aload_n 0, 1) := by decide +kernel
theorem dX12_fault_17 : decode cX12_fault 17 = .ok (.getfield 13, 3) := by decide +kernel
theorem dX12_fault_20 : decode cX12_fault 20 = .ok (.goto 4, 3) := by decide +kernel
theorem dX12_fault_23 : decode cX12_fault 23 = .ok (.iconst (-1), 1) := by decide +kernel
theorem dX12_fault_24 : decode cX12_fault 24 = .ok (.ireturn, 1) := by decide +kernel
theorem dX12_shared_0 : decode cX12_shared 0 = .ok (.iload_n 1, 1) := by decide +kernel
theorem dX12_shared_1 : decode cX12_shared 1 = .ok (.iconst (-1), 1) := by decide +kernel
theorem dX12_shared_2 : decode cX12_shared 2 = .ok (.if_icmp .eq 13, 3) := by decide +kernel
theorem dX12_shared_5 : decode cX12_shared 5 = .ok (.aload_n 0, 1) := by decide +kernel
theorem dX12_shared_6 : decode cX12_shared 6 = .ok (.iload_n 1, 1) := by decide +kernel
theorem dX12_shared_7 : decode cX12_shared 7 = .ok (.invokevirtual 501, 3) := by decide +kernel
theorem dX12_shared_10 : decode cX12_shared 10 = .ok (.ifCond .ne 5, 3) := by decide +kernel
theorem dX12_shared_13 : decode cX12_shared 13 = .ok (.iconst (-1), 1) := by decide +kernel
theorem dX12_shared_14 : decode cX12_shared 14 = .ok (.ireturn, 1) := by decide +kernel
theorem dX12_shared_15 : decode cX12_shared 15 = .ok (.iconst 0, 1) := by decide +kernel
theorem dX12_shared_16 : decode cX12_shared 16 = .ok (.istore_n 2, 1) := by decide +kernel
theorem dX12_shared_17 : decode cX12_shared 17 = .ok (.iload_n 2, 1) := by decide +kernel
theorem dX12_shared_18 : decode cX12_shared 18 = .ok (.bipush 8, 2) := by decide +kernel
theorem dX12_shared_20 : decode cX12_shared 20 = .ok (.if_icmp .ge 23, 3) := by decide +kernel
theorem dX12_shared_23 : decode cX12_shared 23 = .ok (.aload_n 0, 1) := by decide +kernel
theorem dX12_shared_24 : decode cX12_shared 24 = .ok (.getfield 148, 3) := by decide +kernel
theorem dX12_shared_27 : decode cX12_shared 27 = .ok (.iload_n 2, 1) := by decide +kernel
theorem dX12_shared_28 : decode cX12_shared 28 = .ok (.iconst 0, 1) := by decide +kernel
theorem dX12_shared_29 : decode cX12_shared 29 = .ok (.iastore, 1) := by decide +kernel
theorem dX12_shared_30 : decode cX12_shared 30 = .ok (.aload_n 0, 1) := by decide +kernel
theorem dX12_shared_31 : decode cX12_shared 31 = .ok (.getfield 154, 3) := by decide +kernel
theorem dX12_shared_34 : decode cX12_shared 34 = .ok (.iload_n 2, 1) := by decide +kernel
theorem dX12_shared_35 : decode cX12_shared 35 = .ok (.iconst 0, 1) := by decide +kernel
theorem dX12_shared_36 : decode cX12_shared 36 = .ok (.iastore, 1) := by decide +kernel
theorem dX12_shared_37 : decode cX12_shared 37 = .ok (.iinc 2 1, 3) := by decide +kernel
theorem dX12_shared_40 : decode cX12_shared 40 = .ok (.goto (-23), 3) := by decide +kernel
theorem dX12_shared_43 : decode cX12_shared 43 = .ok (.iconst 0, 1) := by decide +kernel
theorem dX12_shared_44 : decode cX12_shared 44 = .ok (.istore_n 2, 1) := by decide +kernel
theorem dX12_shared_45 : decode cX12_shared 45 = .ok (.iload_n 2, 1) := by decide +kernel
theorem dX12_shared_46 : decode cX12_shared 46 = .ok (.aload_n 0, 1) := by decide +kernel
theorem dX12_shared_47 : decode cX12_shared 47 = .ok (.invokevirtual 419, 3) := by decide +kernel
theorem dX12_shared_50 : decode cX12_shared 50 = .ok (.if_icmp .ge 31, 3) := by decide +kernel
theorem dX12_shared_53 : decode cX12_shared 53 = .ok (.aload_n 0, 1) := by decide +kernel
theorem dX12_shared_54 : decode cX12_shared 54 = .ok (.getfield 151, 3) := by decide +kernel
theorem dX12_shared_57 : decode cX12_shared 57 = .ok (.iload_n 2, 1) := by decide +kernel
theorem dX12_shared_58 : decode cX12_shared 58 = .ok (.aload_n 0, 1) := by decide +kernel
theorem dX12_shared_59 : decode cX12_shared 59 = .ok (.iload_n 2, 1) := by decide +kernel
theorem dX12_shared_60 : decode cX12_shared 60 = .ok (.invokevirtual 507, 3) := by decide +kernel
theorem dX12_shared_63 : decode cX12_shared 63 = .ok (.ifCond .ne 10, 3) := by decide +kernel
theorem dX12_shared_66 : decode cX12_shared 66 = .ok (.aload_n 0, 1) := by decide +kernel
theorem dX12_shared_67 : decode cX12_shared 67 = .ok (.invokevirtual 410, 3) := by decide +kernel
theorem dX12_shared_70 : decode cX12_shared 70 = .ok (.goto 4, 3) := by decide +kernel
theorem dX12_shared_73 : decode cX12_shared 73 = .ok (.iconst 0, 1) := by decide +kernel
theorem dX12_shared_74 : decode cX12_shared 74 = .ok (.iastore, 1) := by decide +kernel
theorem dX12_shared_75 : decode cX12_shared 75 = .ok (.iinc 2 1, 3) := by decide +kernel
theorem dX12_shared_78 : decode cX12_shared 78 = .ok (.goto (-33), 3) := by decide +kernel
theorem dX12_shared_81 : decode cX12_shared 81 = .ok (.iconst 0, 1) := by decide +kernel
theorem dX12_shared_82 : decode cX12_shared 82 = .ok (.istore_n 2, 1) := by decide +kernel
theorem dX12_shared_83 : decode cX12_shared 83 = .ok (.aload_n 0, 1) := by decide +kernel
theorem dX12_shared_84 : decode cX12_shared 84 = .ok (.invokevirtual 473, 3) := by decide +kernel
theorem dX12_shared_87 : decode cX12_shared 87 = .ok (.ifCond .eq 58, 3) := by decide +kernel
theorem dX12_shared_90 : decode cX12_shared 90 = .ok (.aload_n 0, 1) := by decide +kernel
theorem dX12_shared_91 : decode cX12_shared 91 = .ok (.invokevirtual 545, 3) := by decide +kernel
theorem dX12_shared_94 : decode cX12_shared 94 = .ok (.istore_n 3, 1) := by decide +kernel
theorem dX12_shared_95 : decode cX12_shared 95 = .ok (.iload_n 3, 1) := by decide +kernel
theorem dX12_shared_96 : decode cX12_shared 96 = .ok (.iload_n 2, 1) := by decide +kernel
theorem dX12_shared_97 : decode cX12_shared 97 = .ok (.if_icmp .le (-14), 3) := by decide +kernel
theorem dX12_shared_100 : decode cX12_shared 100 = .ok (.aload_n 0, 1) := by decide +kernel
theorem dX12_shared_101 : decode cX12_shared 101 = .ok (.invokevirtual 548, 3) := by decide +kernel
theorem dX12_shared_104 : decode cX12_shared 104 = .ok (.ifCond .ne 6, 3) := by decide +kernel
theorem dX12_shared_107 : decode cX12_shared 107 = .ok (.goto (-24), 3) := by decide +kernel
theorem dX12_shared_110 : decode cX12_shared 110 = .ok (.iload_n 3, 1) := by decide +kernel
theorem dX12_shared_111 : decode cX12_shared 111 = .ok (.istore_n 2, 1) := by decide +kernel
theorem dX12_shared_112 : decode cX12_shared 112 = .ok (.iconst 0, 1) := by decide +kernel
theorem dX12_shared_113 : decode cX12_shared 113 = .ok (.istore 4, 2) := by decide +kernel
theorem dX12_shared_115 : decode cX12_shared 115 = .ok (.iload 4, 2) := by decide +kernel
theorem dX12_shared_117 : decode cX12_shared 117 = .ok (.bipush 8, 2) := by decide +kernel
theorem dX12_shared_119 : decode cX12_shared 119 = .ok (.if_icmp .ge 23, 3) := by decide +kernel
theorem dX12_shared_122 : decode cX12_shared 122 = .ok (.aload_n 0, 1) := by decide +kernel
theorem dX12_shared_123 : decode cX12_shared 123 = .ok (.getfield 154, 3) := by decide +kernel
theorem dX12_shared_126 : decode cX12_shared 126 = .ok (.iload 4, 2) := by decide +kernel
theorem dX12_shared_128 : decode cX12_shared 128 = .ok (.aload_n 0, 1) := by decide +kernel
theorem dX12_shared_129 : decode cX12_shared 129 = .ok (.getfield 148, 3) := by decide +kernel
theorem dX12_shared_132 : decode cX12_shared 132 = .ok (.iload 4, 2) := by decide +kernel
theorem dX12_shared_134 : decode cX12_shared 134 = .ok (.iaload, 1) := by decide +kernel
theorem dX12_shared_135 : decode cX12_shared 135 = .ok (.iastore, 1) := by decide +kernel
theorem dX12_shared_136 : decode cX12_shared 136 = .ok (.iinc 4 1, 3) := by decide +kernel
theorem dX12_shared_139 : decode cX12_shared 139 = .ok (.goto (-24), 3) := by decide +kernel
theorem dX12_shared_142 : decode cX12_shared 142 = .ok (.goto (-59), 3) := by decide +kernel
theorem dX12_shared_145 : decode cX12_shared 145 = .ok (.iload_n 1, 1) := by decide +kernel
theorem dX12_shared_146 : decode cX12_shared 146 = .ok (.iconst (-1), 1) := by decide +kernel
theorem dX12_shared_147 : decode cX12_shared 147 = .ok (.if_icmp .ne 7, 3) := by decide +kernel
theorem dX12_shared_150 : decode cX12_shared 150 = .ok (.iload_n 2, 1) := by decide +kernel
theorem dX12_shared_151 : decode cX12_shared 151 = .ok (.goto 11, 3) := by decide +kernel
theorem dX12_shared_154 : decode cX12_shared 154 = .ok (.aload_n 0, 1) := by decide +kernel
theorem dX12_shared_155 : decode cX12_shared 155 = .ok (.getfield 154, 3) := by decide +kernel
theorem dX12_shared_158 : decode cX12_shared 158 = .ok (.iload_n 1, 1) := by decide +kernel
theorem dX12_shared_159 : decode cX12_shared 159 = .ok (.iaload, 1) := by decide +kernel
theorem dX12_shared_160 : decode cX12_shared 160 = .ok (.iconst 1, 1) := by decide +kernel
theorem dX12_shared_161 : decode cX12_shared 161 = .ok (.isub, 1) := by decide +kernel
theorem dX12_shared_162 : decode cX12_shared 162 = .ok (.ireturn, 1) := by decide +kernel
theorem dX12_children_0 : decode cX12_children 0 = .ok (.iload_n 1, 1) := by decide +kernel
theorem dX12_children_1 : decode cX12_children 1 = .ok (.iconst (-1), 1) := by decide +kernel
theorem dX12_children_2 : decode cX12_children 2 = .ok (.if_icmp .eq 13, 3) := by decide +kernel
theorem dX12_children_5 : decode cX12_children 5 = .ok (.aload_n 0, 1) := by decide +kernel
theorem dX12_children_6 : decode cX12_children 6 = .ok (.iload_n 1, 1) := by decide +kernel
theorem dX12_children_7 : decode cX12_children 7 = .ok (.invokevirtual 501, 3) := by decide +kernel
theorem dX12_children_10 : decode cX12_children 10 = .ok (.ifCond .ne 5, 3) := by decide +kernel
theorem dX12_children_13 : decode cX12_children 13 = .ok (.iconst (-1), 1) := by decide +kernel
theorem dX12_children_14 : decode cX12_children 14 = .ok (.ireturn, 1) := by decide +kernel
theorem dX12_children_15 : decode cX12_children 15 = .ok (.iconst 0, 1) := by decide +kernel
theorem dX12_children_16 : decode cX12_children 16 = .ok (.istore_n 2, 1) := by decide +kernel
theorem dX12_children_17 : decode cX12_children 17 = .ok (.iload_n 2, 1) := by decide +kernel
theorem dX12_children_18 : decode cX12_children 18 = .ok (.bipush 8, 2) := by decide +kernel
theorem dX12_children_20 : decode cX12_children 20 = .ok (.if_icmp .ge 23, 3) := by decide +kernel
theorem dX12_children_23 : decode cX12_children 23 = .ok (.aload_n 0, 1) := by decide +kernel
theorem dX12_children_24 : decode cX12_children 24 = .ok (.getfield 148, 3) := by decide +kernel
theorem dX12_children_27 : decode cX12_children 27 = .ok (.iload_n 2, 1) := by decide +kernel
theorem dX12_children_28 : decode cX12_children 28 = .ok (.iconst 0, 1) := by decide +kernel
theorem dX12_children_29 : decode cX12_children 29 = .ok (.iastore, 1) := by decide +kernel
theorem dX12_children_30 : decode cX12_children 30 = .ok (.aload_n 0, 1) := by decide +kernel
theorem dX12_children_31 : decode cX12_children 31 = .ok (.getfield 154, 3) := by decide +kernel
theorem dX12_children_34 : decode cX12_children 34 = .ok (.iload_n 2, 1) := by decide +kernel
theorem dX12_children_35 : decode cX12_children 35 = .ok (.iconst 0, 1) := by decide +kernel
theorem dX12_children_36 : decode cX12_children 36 = .ok (.iastore, 1) := by decide +kernel
theorem dX12_children_37 : decode cX12_children 37 = .ok (.iinc 2 1, 3) := by decide +kernel
theorem dX12_children_40 : decode cX12_children 40 = .ok (.goto (-23), 3) := by decide +kernel
theorem dX12_children_43 : decode cX12_children 43 = .ok (.aload_n 0, 1) := by decide +kernel
theorem dX12_children_44 : decode cX12_children 44 = .ok (.invokevirtual 554, 3) := by decide +kernel
theorem dX12_children_47 : decode cX12_children 47 = .ok (.lstore_n 2, 1) := by decide +kernel
theorem dX12_children_48 : decode cX12_children 48 = .ok (.aload_n 0, 1) := by decide +kernel
theorem dX12_children_49 : decode cX12_children 49 = .ok (.invokevirtual 557, 3) := by decide +kernel
theorem dX12_children_52 : decode cX12_children 52 = .ok (.ifCond .eq 55, 3) := by decide +kernel
theorem dX12_children_55 : decode cX12_children 55 = .ok (.aload_n 0, 1) := by decide +kernel
theorem dX12_children_56 : decode cX12_children 56 = .ok (.invokevirtual 554, 3) := by decide +kernel
theorem dX12_children_59 : decode cX12_children 59 = .ok (.lstore 4, 2) := by decide +kernel
theorem dX12_children_61 : decode cX12_children 61 = .ok (.lload 4, 2) := by decide +kernel
theorem dX12_children_63 : decode cX12_children 63 = .ok (.lload_n 2, 1) := by decide +kernel
theorem dX12_children_64 : decode cX12_children 64 = .ok (.lcmp, 1) := by decide +kernel
theorem dX12_children_65 : decode cX12_children 65 = .ok (.ifCond .gt 6, 3) := by decide +kernel
theorem dX12_children_68 : decode cX12_children 68 = .ok (.goto (-20), 3) := by decide +kernel
theorem dX12_children_71 : decode cX12_children 71 = .ok (.lload 4, 2) := by decide +kernel
theorem dX12_children_73 : decode cX12_children 73 = .ok (.lstore_n 2, 1) := by decide +kernel
theorem dX12_children_74 : decode cX12_children 74 = .ok (.iconst 0, 1) := by decide +kernel
theorem dX12_children_75 : decode cX12_children 75 = .ok (.istore 6, 2) := by decide +kernel
theorem dX12_children_77 : decode cX12_children 77 = .ok (.iload 6, 2) := by decide +kernel
theorem dX12_children_79 : decode cX12_children 79 = .ok (.bipush 8, 2) := by decide +kernel
theorem dX12_children_81 : decode cX12_children 81 = .ok (.if_icmp .ge 23, 3) := by decide +kernel
theorem dX12_children_84 : decode cX12_children 84 = .ok (.aload_n 0, 1) := by decide +kernel
theorem dX12_children_85 : decode cX12_children 85 = .ok (.getfield 154, 3) := by decide +kernel
theorem dX12_children_88 : decode cX12_children 88 = .ok (.iload 6, 2) := by decide +kernel
theorem dX12_children_90 : decode cX12_children 90 = .ok (.aload_n 0, 1) := by decide +kernel
theorem dX12_children_91 : decode cX12_children 91 = .ok (.getfield 148, 3) := by decide +kernel
theorem dX12_children_94 : decode cX12_children 94 = .ok (.iload 6, 2) := by decide +kernel
theorem dX12_children_96 : decode cX12_children 96 = .ok (.iaload, 1) := by decide +kernel
theorem dX12_children_97 : decode cX12_children 97 = .ok (.iastore, 1) := by decide +kernel
theorem dX12_children_98 : decode cX12_children 98 = .ok (.iinc 6 1, 3) := by decide +kernel
theorem dX12_children_101 : decode cX12_children 101 = .ok (.goto (-24), 3) := by decide +kernel
theorem dX12_children_104 : decode cX12_children 104 = .ok (.goto (-56), 3) := by decide +kernel
theorem dX12_children_107 : decode cX12_children 107 = .ok (.iconst 0, 1) := by decide +kernel
theorem dX12_children_108 : decode cX12_children 108 = .ok (.istore 4, 2) := by decide +kernel
theorem dX12_children_110 : decode cX12_children 110 = .ok (.iconst 0, 1) := by decide +kernel
theorem dX12_children_111 : decode cX12_children 111 = .ok (.istore 5, 2) := by decide +kernel
theorem dX12_children_113 : decode cX12_children 113 = .ok (.iload 5, 2) := by decide +kernel
theorem dX12_children_115 : decode cX12_children 115 = .ok (.aload_n 0, 1) := by decide +kernel
theorem dX12_children_116 : decode cX12_children 116 = .ok (.invokevirtual 419, 3) := by decide +kernel
theorem dX12_children_119 : decode cX12_children 119 = .ok (.if_icmp .ge 32, 3) := by decide +kernel
theorem dX12_children_122 : decode cX12_children 122 = .ok (.aload_n 0, 1) := by decide +kernel
theorem dX12_children_123 : decode cX12_children 123 = .ok (.getfield 154, 3) := by decide +kernel
theorem dX12_children_126 : decode cX12_children 126 = .ok (.iload 5, 2) := by decide +kernel
theorem dX12_children_128 : decode cX12_children 128 = .ok (.iaload, 1) := by decide +kernel
theorem dX12_children_129 : decode cX12_children 129 = .ok (.iload 4, 2) := by decide +kernel
theorem dX12_children_131 : decode cX12_children 131 = .ok (.if_icmp .lt 14, 3) := by decide +kernel
theorem dX12_children_134 : decode cX12_children 134 = .ok (.aload_n 0, 1) := by decide +kernel
theorem dX12_children_135 : decode cX12_children 135 = .ok (.getfield 154, 3) := by decide +kernel
theorem dX12_children_138 : decode cX12_children 138 = .ok (.iload 5, 2) := by decide +kernel
theorem dX12_children_140 : decode cX12_children 140 = .ok (.iaload, 1) := by decide +kernel
theorem dX12_children_141 : decode cX12_children 141 = .ok (.iconst 1, 1) := by decide +kernel
theorem dX12_children_142 : decode cX12_children 142 = .ok (.iadd, 1) := by decide +kernel
theorem dX12_children_143 : decode cX12_children 143 = .ok (.istore 4, 2) := by decide +kernel
theorem dX12_children_145 : decode cX12_children 145 = .ok (.iinc 5 1, 3) := by decide +kernel
theorem dX12_children_148 : decode cX12_children 148 = .ok (.goto (-35), 3) := by decide +kernel
theorem dX12_children_151 : decode cX12_children 151 = .ok (.iload_n 1, 1) := by decide +kernel
theorem dX12_children_152 : decode cX12_children 152 = .ok (.iconst (-1), 1) := by decide +kernel
theorem dX12_children_153 : decode cX12_children 153 = .ok (.if_icmp .ne 8, 3) := by decide +kernel
theorem dX12_children_156 : decode cX12_children 156 = .ok (.iload 4, 2) := by decide +kernel
theorem dX12_children_158 : decode cX12_children 158 = .ok (.goto 9, 3) := by decide +kernel
theorem dX12_children_161 : decode cX12_children 161 = .ok (.aload_n 0, 1) := by decide +kernel
theorem dX12_children_162 : decode cX12_children 162 = .ok (.getfield 154, 3) := by decide +kernel
theorem dX12_children_165 : decode cX12_children 165 = .ok (.iload_n 1, 1) := by decide +kernel
theorem dX12_children_166 : decode cX12_children 166 = .ok (.iaload, 1) := by decide +kernel
theorem dX12_children_167 : decode cX12_children 167 = .ok (.ireturn, 1) := by decide +kernel
theorem dX12_answeredMany_0 : decode cX12_answeredMany 0 = .ok (.iconst 0, 1) := by decide +kernel
theorem dX12_answeredMany_1 : decode cX12_answeredMany 1 = .ok (.istore_n 1, 1) := by decide +kernel
theorem dX12_answeredMany_2 : decode cX12_answeredMany 2 = .ok (.iconst 0, 1) := by decide +kernel
theorem dX12_answeredMany_3 : decode cX12_answeredMany 3 = .ok (.istore_n 2, 1) := by decide +kernel
theorem dX12_answeredMany_4 : decode cX12_answeredMany 4 = .ok (.iload_n 2, 1) := by decide +kernel
theorem dX12_answeredMany_5 : decode cX12_answeredMany 5 = .ok (.aload_n 0, 1) := by decide +kernel
theorem dX12_answeredMany_6 : decode cX12_answeredMany 6 = .ok (.invokevirtual 419, 3) := by decide +kernel
theorem dX12_answeredMany_9 : decode cX12_answeredMany 9 = .ok (.if_icmp .ge 20, 3) := by decide +kernel
theorem dX12_answeredMany_12 : decode cX12_answeredMany 12 = .ok (.aload_n 0, 1) := by decide +kernel
theorem dX12_answeredMany_13 : decode cX12_answeredMany 13 = .ok (.iload_n 2, 1) := by decide +kernel
theorem dX12_answeredMany_14 : decode cX12_answeredMany 14 = .ok (.invokevirtual 451, 3) := by decide +kernel
theorem dX12_answeredMany_17 : decode cX12_answeredMany 17 = .ok (.ifCond .le 6, 3) := by decide +kernel
theorem dX12_answeredMany_20 : decode cX12_answeredMany 20 = .ok (.iinc 1 1, 3) := by decide +kernel
theorem dX12_answeredMany_23 : decode cX12_answeredMany 23 = .ok (.iinc 2 1, 3) := by decide +kernel
theorem dX12_answeredMany_26 : decode cX12_answeredMany 26 = .ok (.goto (-22), 3) := by decide +kernel
theorem dX12_answeredMany_29 : decode cX12_answeredMany 29 = .ok (.iload_n 1, 1) := by decide +kernel
theorem dX12_answeredMany_30 : decode cX12_answeredMany 30 = .ok (.ireturn, 1) := by decide +kernel
theorem dX12_qDrops_0 : decode cX12_qDrops 0 = .ok (.aload_n 0, 1) := by decide +kernel
theorem dX12_qDrops_1 : decode cX12_qDrops 1 = .ok (.dup, 1) := by decide +kernel
theorem dX12_qDrops_2 : decode cX12_qDrops 2 = .ok (.getfield 355, 3) := by decide +kernel
theorem dX12_qDrops_5 : decode cX12_qDrops 5 = .ok (.iconst 1, 1) := by decide +kernel
theorem dX12_qDrops_6 : decode cX12_qDrops 6 = .ok (.isub, 1) := by decide +kernel
theorem dX12_qDrops_7 : decode cX12_qDrops 7 = .ok (.putfield 355, 3) := by decide +kernel
theorem dX12_qDrops_10 : decode cX12_qDrops 10 = .ok (.aload_n 0, 1) := by decide +kernel
theorem dX12_qDrops_11 : decode cX12_qDrops 11 = .ok (.aload_n 0, 1) := by decide +kernel
theorem dX12_qDrops_12 : decode cX12_qDrops 12 = .ok (.getfield 251, 3) := by decide +kernel
theorem dX12_qDrops_15 : decode cX12_qDrops 15 = .ok (.aload_n 0, 1) := by decide +kernel
theorem dX12_qDrops_16 : decode cX12_qDrops 16 = .ok (.getfield 355, 3) := by decide +kernel
theorem dX12_qDrops_19 : decode cX12_qDrops 19 = .ok (.iaload, 1) := by decide +kernel
theorem dX12_qDrops_20 : decode cX12_qDrops 20 = .ok (.invokevirtual 594, 3) := by decide +kernel
theorem dX12_qDrops_23 : decode cX12_qDrops 23 = .ok (.return_, 1) := by decide +kernel
theorem dX12_qFloor_0 : decode cX12_qFloor 0 = .ok (.lload_n 2, 1) := by decide +kernel
theorem dX12_qFloor_1 : decode cX12_qFloor 1 = .ok (.lconst 0, 1) := by decide +kernel
theorem dX12_qFloor_2 : decode cX12_qFloor 2 = .ok (.lcmp, 1) := by decide +kernel
theorem dX12_qFloor_3 : decode cX12_qFloor 3 = .ok (.ifCond .ne 5, 3) := by decide +kernel
theorem dX12_qFloor_6 : decode cX12_qFloor 6 = .ok (.lconst 0, 1) := by decide +kernel
theorem dX12_qFloor_7 : decode cX12_qFloor 7 = .ok (.lreturn, 1) := by decide +kernel
theorem dX12_qFloor_8 : decode cX12_qFloor 8 = .ok (.lload_n 0, 1) := by decide +kernel
theorem dX12_qFloor_9 : decode cX12_qFloor 9 = .ok (.lload_n 2, 1) := by decide +kernel
theorem dX12_qFloor_10 : decode cX12_qFloor 10 = .ok (.ldiv, 1) := by decide +kernel
theorem dX12_qFloor_11 : decode cX12_qFloor 11 = .ok (.lstore 4, 2) := by decide +kernel
theorem dX12_qFloor_13 : decode cX12_qFloor 13 = .ok (.lload_n 0, 1) := by decide +kernel
theorem dX12_qFloor_14 : decode cX12_qFloor 14 = .ok (.lload_n 2, 1) := by decide +kernel
theorem dX12_qFloor_15 : decode cX12_qFloor 15 = .ok (.lrem, 1) := by decide +kernel
theorem dX12_qFloor_16 : decode cX12_qFloor 16 = .ok (.lconst 0, 1) := by decide +kernel
theorem dX12_qFloor_17 : decode cX12_qFloor 17 = .ok (.lcmp, 1) := by decide +kernel
theorem dX12_qFloor_18 : decode cX12_qFloor 18 = .ok (.ifCond .eq 35, 3) := by decide +kernel
theorem dX12_qFloor_21 : decode cX12_qFloor 21 = .ok (.lload_n 0, 1) := by decide +kernel
theorem dX12_qFloor_22 : decode cX12_qFloor 22 = .ok (.lconst 0, 1) := by decide +kernel
theorem dX12_qFloor_23 : decode cX12_qFloor 23 = .ok (.lcmp, 1) := by decide +kernel
theorem dX12_qFloor_24 : decode cX12_qFloor 24 = .ok (.ifCond .ge 7, 3) := by decide +kernel
theorem dX12_qFloor_27 : decode cX12_qFloor 27 = .ok (.iconst 1, 1) := by decide +kernel
theorem dX12_qFloor_28 : decode cX12_qFloor 28 = .ok (.goto 4, 3) := by decide +kernel
theorem dX12_qFloor_31 : decode cX12_qFloor 31 = .ok (.iconst 0, 1) := by decide +kernel
theorem dX12_qFloor_32 : decode cX12_qFloor 32 = .ok (.lload_n 2, 1) := by decide +kernel
theorem dX12_qFloor_33 : decode cX12_qFloor 33 = .ok (.lconst 0, 1) := by decide +kernel
theorem dX12_qFloor_34 : decode cX12_qFloor 34 = .ok (.lcmp, 1) := by decide +kernel
theorem dX12_qFloor_35 : decode cX12_qFloor 35 = .ok (.ifCond .ge 7, 3) := by decide +kernel
theorem dX12_qFloor_38 : decode cX12_qFloor 38 = .ok (.iconst 1, 1) := by decide +kernel
theorem dX12_qFloor_39 : decode cX12_qFloor 39 = .ok (.goto 4, 3) := by decide +kernel
theorem dX12_qFloor_42 : decode cX12_qFloor 42 = .ok (.iconst 0, 1) := by decide +kernel
theorem dX12_qFloor_43 : decode cX12_qFloor 43 = .ok (.if_icmp .eq 10, 3) := by decide +kernel
theorem dX12_qFloor_46 : decode cX12_qFloor 46 = .ok (.lload 4, 2) := by decide +kernel
theorem dX12_qFloor_48 : decode cX12_qFloor 48 = .ok (.lconst 1, 1) := by decide +kernel
theorem dX12_qFloor_49 : decode cX12_qFloor 49 = .ok (.lsub, 1) := by decide +kernel
theorem dX12_qFloor_50 : decode cX12_qFloor 50 = .ok (.goto 5, 3) := by decide +kernel
theorem dX12_qFloor_53 : decode cX12_qFloor 53 = .ok (.lload 4, 2) := by decide +kernel
theorem dX12_qFloor_55 : decode cX12_qFloor 55 = .ok (.lreturn, 1) := by decide +kernel
theorem dX12_sheets_0 : decode cX12_sheets 0 = .ok (.iload_n 1, 1) := by decide +kernel
theorem dX12_sheets_1 : decode cX12_sheets 1 = .ok (.iconst (-1), 1) := by decide +kernel
theorem dX12_sheets_2 : decode cX12_sheets 2 = .ok (.if_icmp .eq 13, 3) := by decide +kernel
theorem dX12_sheets_5 : decode cX12_sheets 5 = .ok (.aload_n 0, 1) := by decide +kernel
theorem dX12_sheets_6 : decode cX12_sheets 6 = .ok (.iload_n 1, 1) := by decide +kernel
theorem dX12_sheets_7 : decode cX12_sheets 7 = .ok (.invokevirtual 501, 3) := by decide +kernel
theorem dX12_sheets_10 : decode cX12_sheets 10 = .ok (.ifCond .ne 5, 3) := by decide +kernel
theorem dX12_sheets_13 : decode cX12_sheets 13 = .ok (.iconst (-1), 1) := by decide +kernel
theorem dX12_sheets_14 : decode cX12_sheets 14 = .ok (.ireturn, 1) := by decide +kernel
theorem dX12_sheets_15 : decode cX12_sheets 15 = .ok (.iconst 0, 1) := by decide +kernel
theorem dX12_sheets_16 : decode cX12_sheets 16 = .ok (.istore_n 2, 1) := by decide +kernel
theorem dX12_sheets_17 : decode cX12_sheets 17 = .ok (.aload_n 0, 1) := by decide +kernel
theorem dX12_sheets_18 : decode cX12_sheets 18 = .ok (.iload_n 2, 1) := by decide +kernel
theorem dX12_sheets_19 : decode cX12_sheets 19 = .ok (.invokevirtual 542, 3) := by decide +kernel
theorem dX12_sheets_22 : decode cX12_sheets 22 = .ok (.ifCond .ne 9, 3) := by decide +kernel
theorem dX12_sheets_25 : decode cX12_sheets 25 = .ok (.iinc 2 1, 3) := by decide +kernel
theorem dX12_sheets_28 : decode cX12_sheets 28 = .ok (.goto (-11), 3) := by decide +kernel
theorem dX12_sheets_31 : decode cX12_sheets 31 = .ok (.iload_n 1, 1) := by decide +kernel
theorem dX12_sheets_32 : decode cX12_sheets 32 = .ok (.iconst (-1), 1) := by decide +kernel
theorem dX12_sheets_33 : decode cX12_sheets 33 = .ok (.if_icmp .ne 7, 3) := by decide +kernel
theorem dX12_sheets_36 : decode cX12_sheets 36 = .ok (.iload_n 2, 1) := by decide +kernel
theorem dX12_sheets_37 : decode cX12_sheets 37 = .ok (.goto 9, 3) := by decide +kernel
theorem dX12_sheets_40 : decode cX12_sheets 40 = .ok (.aload_n 0, 1) := by decide +kernel
theorem dX12_sheets_41 : decode cX12_sheets 41 = .ok (.getfield 148, 3) := by decide +kernel
theorem dX12_sheets_44 : decode cX12_sheets 44 = .ok (.iload_n 1, 1) := by decide +kernel
theorem dX12_sheets_45 : decode cX12_sheets 45 = .ok (.iaload, 1) := by decide +kernel
theorem dX12_sheets_46 : decode cX12_sheets 46 = .ok (.ireturn, 1) := by decide +kernel
theorem dX12_qKind_0 : decode cX12_qKind 0 = .ok (.aload_n 0, 1) := by decide +kernel
theorem dX12_qKind_1 : decode cX12_qKind 1 = .ok (.aload_n 0, 1) := by decide +kernel
theorem dX12_qKind_2 : decode cX12_qKind 2 = .ok (.getfield 179, 3) := by decide +kernel
theorem dX12_qKind_5 : decode cX12_qKind 5 = .ok (.invokevirtual 290, 3) := by decide +kernel
theorem dX12_qKind_8 : decode cX12_qKind 8 = .ok (.ifCond .eq 7, 3) := by decide +kernel
theorem dX12_qKind_11 : decode cX12_qKind 11 = .ok (.iconst 0, 1) := by decide +kernel
theorem dX12_qKind_12 : decode cX12_qKind 12 = .ok (.goto 64, 3) := by decide +kernel
theorem dX12_qKind_15 : decode cX12_qKind 15 = .ok (.aload_n 0, 1) := by decide +kernel
theorem dX12_qKind_16 : decode cX12_qKind 16 = .ok (.aload_n 0, 1) := by decide +kernel
theorem dX12_qKind_17 : decode cX12_qKind 17 = .ok (.getfield 182, 3) := by decide +kernel
theorem dX12_qKind_20 : decode cX12_qKind 20 = .ok (.invokevirtual 290, 3) := by decide +kernel
theorem dX12_qKind_23 : decode cX12_qKind 23 = .ok (.ifCond .eq 7, 3) := by decide +kernel
theorem dX12_qKind_26 : decode cX12_qKind 26 = .ok (.iconst 1, 1) := by decide +kernel
theorem dX12_qKind_27 : decode cX12_qKind 27 = .ok (.goto 49, 3) := by decide +kernel
theorem dX12_qKind_30 : decode cX12_qKind 30 = .ok (.aload_n 0, 1) := by decide +kernel
theorem dX12_qKind_31 : decode cX12_qKind 31 = .ok (.aload_n 0, 1) := by decide +kernel
theorem dX12_qKind_32 : decode cX12_qKind 32 = .ok (.getfield 185, 3) := by decide +kernel
theorem dX12_qKind_35 : decode cX12_qKind 35 = .ok (.invokevirtual 290, 3) := by decide +kernel
theorem dX12_qKind_38 : decode cX12_qKind 38 = .ok (.ifCond .eq 7, 3) := by decide +kernel
theorem dX12_qKind_41 : decode cX12_qKind 41 = .ok (.iconst 2, 1) := by decide +kernel
theorem dX12_qKind_42 : decode cX12_qKind 42 = .ok (.goto 34, 3) := by decide +kernel
theorem dX12_qKind_45 : decode cX12_qKind 45 = .ok (.aload_n 0, 1) := by decide +kernel
theorem dX12_qKind_46 : decode cX12_qKind 46 = .ok (.aload_n 0, 1) := by decide +kernel
theorem dX12_qKind_47 : decode cX12_qKind 47 = .ok (.getfield 188, 3) := by decide +kernel
theorem dX12_qKind_50 : decode cX12_qKind 50 = .ok (.invokevirtual 290, 3) := by decide +kernel
theorem dX12_qKind_53 : decode cX12_qKind 53 = .ok (.ifCond .eq 7, 3) := by decide +kernel
theorem dX12_qKind_56 : decode cX12_qKind 56 = .ok (.iconst 3, 1) := by decide +kernel
theorem dX12_qKind_57 : decode cX12_qKind 57 = .ok (.goto 19, 3) := by decide +kernel
theorem dX12_qKind_60 : decode cX12_qKind 60 = .ok (.aload_n 0, 1) := by decide +kernel
theorem dX12_qKind_61 : decode cX12_qKind 61 = .ok (.aload_n 0, 1) := by decide +kernel
theorem dX12_qKind_62 : decode cX12_qKind 62 = .ok (.getfield 191, 3) := by decide +kernel
theorem dX12_qKind_65 : decode cX12_qKind 65 = .ok (.invokevirtual 290, 3) := by decide +kernel
theorem dX12_qKind_68 : decode cX12_qKind 68 = .ok (.ifCond .eq 7, 3) := by decide +kernel
theorem dX12_qKind_71 : decode cX12_qKind 71 = .ok (.iconst 4, 1) := by decide +kernel
theorem dX12_qKind_72 : decode cX12_qKind 72 = .ok (.goto 4, 3) := by decide +kernel
theorem dX12_qKind_75 : decode cX12_qKind 75 = .ok (.iconst 5, 1) := by decide +kernel
theorem dX12_qKind_76 : decode cX12_qKind 76 = .ok (.istore_n 1, 1) := by decide +kernel
theorem dX12_qKind_77 : decode cX12_qKind 77 = .ok (.iload_n 1, 1) := by decide +kernel
theorem dX12_qKind_78 : decode cX12_qKind 78 = .ok (.iconst 5, 1) := by decide +kernel
theorem dX12_qKind_79 : decode cX12_qKind 79 = .ok (.if_icmp .ne 11, 3) := by decide +kernel
theorem dX12_qKind_82 : decode cX12_qKind 82 = .ok (.aload_n 0, 1) := by decide +kernel
theorem dX12_qKind_83 : decode cX12_qKind 83 = .ok (.aload_n 0, 1) := by decide +kernel
theorem dX12_qKind_84 : decode cX12_qKind 84 = .ok (.getfield 194, 3) := by decide +kernel
theorem dX12_qKind_87 : decode cX12_qKind 87 = .ok (.invokevirtual 337, 3) := by decide +kernel
theorem dX12_qKind_90 : decode cX12_qKind 90 = .ok (.iload_n 1, 1) := by decide +kernel
theorem dX12_qKind_91 : decode cX12_qKind 91 = .ok (.ireturn, 1) := by decide +kernel
theorem dX12_sharedIn_0 : decode cX12_sharedIn 0 = .ok (.iconst 0, 1) := by decide +kernel
theorem dX12_sharedIn_1 : decode cX12_sharedIn 1 = .ok (.istore_n 1, 1) := by decide +kernel
theorem dX12_sharedIn_2 : decode cX12_sharedIn 2 = .ok (.iconst 0, 1) := by decide +kernel
theorem dX12_sharedIn_3 : decode cX12_sharedIn 3 = .ok (.istore_n 2, 1) := by decide +kernel
theorem dX12_sharedIn_4 : decode cX12_sharedIn 4 = .ok (.iload_n 2, 1) := by decide +kernel
theorem dX12_sharedIn_5 : decode cX12_sharedIn 5 = .ok (.aload_n 0, 1) := by decide +kernel
theorem dX12_sharedIn_6 : decode cX12_sharedIn 6 = .ok (.invokevirtual 419, 3) := by decide +kernel
theorem dX12_sharedIn_9 : decode cX12_sharedIn 9 = .ok (.if_icmp .ge 46, 3) := by decide +kernel
theorem dX12_sharedIn_12 : decode cX12_sharedIn 12 = .ok (.aload_n 0, 1) := by decide +kernel
theorem dX12_sharedIn_13 : decode cX12_sharedIn 13 = .ok (.getfield 148, 3) := by decide +kernel
theorem dX12_sharedIn_16 : decode cX12_sharedIn 16 = .ok (.iload_n 2, 1) := by decide +kernel
theorem dX12_sharedIn_17 : decode cX12_sharedIn 17 = .ok (.iaload, 1) := by decide +kernel
theorem dX12_sharedIn_18 : decode cX12_sharedIn 18 = .ok (.ifCond .le 31, 3) := by decide +kernel
theorem dX12_sharedIn_21 : decode cX12_sharedIn 21 = .ok (.iload_n 1, 1) := by decide +kernel
theorem dX12_sharedIn_22 : decode cX12_sharedIn 22 = .ok (.aload_n 0, 1) := by decide +kernel
theorem dX12_sharedIn_23 : decode cX12_sharedIn 23 = .ok (.getfield 112, 3) := by decide +kernel
theorem dX12_sharedIn_26 : decode cX12_sharedIn 26 = .ok (.bipush 25, 2) := by decide +kernel
theorem dX12_sharedIn_28 : decode cX12_sharedIn 28 = .ok (.iconst 3, 1) := by decide +kernel
theorem dX12_sharedIn_29 : decode cX12_sharedIn 29 = .ok (.iload_n 2, 1) := by decide +kernel
theorem dX12_sharedIn_30 : decode cX12_sharedIn 30 = .ok (.imul, 1) := by decide +kernel
theorem dX12_sharedIn_31 : decode cX12_sharedIn 31 = .ok (.iadd, 1) := by decide +kernel
theorem dX12_sharedIn_32 : decode cX12_sharedIn 32 = .ok (.iaload, 1) := by decide +kernel
theorem dX12_sharedIn_33 : decode cX12_sharedIn 33 = .ok (.aload_n 0, 1) := by decide +kernel
theorem dX12_sharedIn_34 : decode cX12_sharedIn 34 = .ok (.iload_n 2, 1) := by decide +kernel
theorem dX12_sharedIn_35 : decode cX12_sharedIn 35 = .ok (.aload_n 0, 1) := by decide +kernel
theorem dX12_sharedIn_36 : decode cX12_sharedIn 36 = .ok (.getfield 148, 3) := by decide +kernel
theorem dX12_sharedIn_39 : decode cX12_sharedIn 39 = .ok (.iload_n 2, 1) := by decide +kernel
theorem dX12_sharedIn_40 : decode cX12_sharedIn 40 = .ok (.iaload, 1) := by decide +kernel
theorem dX12_sharedIn_41 : decode cX12_sharedIn 41 = .ok (.iconst 1, 1) := by decide +kernel
theorem dX12_sharedIn_42 : decode cX12_sharedIn 42 = .ok (.isub, 1) := by decide +kernel
theorem dX12_sharedIn_43 : decode cX12_sharedIn 43 = .ok (.invokevirtual 425, 3) := by decide +kernel
theorem dX12_sharedIn_46 : decode cX12_sharedIn 46 = .ok (.imul, 1) := by decide +kernel
theorem dX12_sharedIn_47 : decode cX12_sharedIn 47 = .ok (.iadd, 1) := by decide +kernel
theorem dX12_sharedIn_48 : decode cX12_sharedIn 48 = .ok (.istore_n 1, 1) := by decide +kernel
theorem dX12_sharedIn_49 : decode cX12_sharedIn 49 = .ok (.iinc 2 1, 3) := by decide +kernel
theorem dX12_sharedIn_52 : decode cX12_sharedIn 52 = .ok (.goto (-48), 3) := by decide +kernel
theorem dX12_sharedIn_55 : decode cX12_sharedIn 55 = .ok (.iload_n 1, 1) := by decide +kernel
theorem dX12_sharedIn_56 : decode cX12_sharedIn 56 = .ok (.ireturn, 1) := by decide +kernel
theorem dX12_qCode_0 : decode cX12_qCode 0 = .ok (.aload_n 0, 1) := by decide +kernel
theorem dX12_qCode_1 : decode cX12_qCode 1 = .ok (.getfield 248, 3) := by decide +kernel
theorem dX12_qCode_4 : decode cX12_qCode 4 = .ok (.aload_n 0, 1) := by decide +kernel
theorem dX12_qCode_5 : decode cX12_qCode 5 = .ok (.getfield 352, 3) := by decide +kernel
theorem dX12_qCode_8 : decode cX12_qCode 8 = .ok (.iload_n 1, 1) := by decide +kernel
theorem dX12_qCode_9 : decode cX12_qCode 9 = .ok (.iastore, 1) := by decide +kernel
theorem dX12_qCode_10 : decode cX12_qCode 10 = .ok (.aload_n 0, 1) := by decide +kernel
theorem dX12_qCode_11 : decode cX12_qCode 11 = .ok (.dup, 1) := by decide +kernel
theorem dX12_qCode_12 : decode cX12_qCode 12 = .ok (.getfield 352, 3) := by decide +kernel
theorem dX12_qCode_15 : decode cX12_qCode 15 = .ok (.iconst 1, 1) := by decide +kernel
theorem dX12_qCode_16 : decode cX12_qCode 16 = .ok (.iadd, 1) := by decide +kernel
theorem dX12_qCode_17 : decode cX12_qCode 17 = .ok (.putfield 352, 3) := by decide +kernel
theorem dX12_qCode_20 : decode cX12_qCode 20 = .ok (.return_, 1) := by decide +kernel
theorem dX12_sheetOf_0 : decode cX12_sheetOf 0 = .ok (.aload_n 0, 1) := by decide +kernel
theorem dX12_sheetOf_1 : decode cX12_sheetOf 1 = .ok (.getfield 142, 3) := by decide +kernel
theorem dX12_sheetOf_4 : decode cX12_sheetOf 4 = .ok (.bipush 8, 2) := by decide +kernel
theorem dX12_sheetOf_6 : decode cX12_sheetOf 6 = .ok (.iconst 3, 1) := by decide +kernel
theorem dX12_sheetOf_7 : decode cX12_sheetOf 7 = .ok (.iload_n 1, 1) := by decide +kernel
theorem dX12_sheetOf_8 : decode cX12_sheetOf 8 = .ok (.imul, 1) := by decide +kernel
theorem dX12_sheetOf_9 : decode cX12_sheetOf 9 = .ok (.iadd, 1) := by decide +kernel
theorem dX12_sheetOf_10 : decode cX12_sheetOf 10 = .ok (.iconst 1, 1) := by decide +kernel
theorem dX12_sheetOf_11 : decode cX12_sheetOf 11 = .ok (.iadd, 1) := by decide +kernel
theorem dX12_sheetOf_12 : decode cX12_sheetOf 12 = .ok (.iaload, 1) := by decide +kernel
theorem dX12_sheetOf_13 : decode cX12_sheetOf 13 = .ok (.ireturn, 1) := by decide +kernel
theorem dX12_asksSign_0 : decode cX12_asksSign 0 = .ok (.aload_n 0, 1) := by decide +kernel
theorem dX12_asksSign_1 : decode cX12_asksSign 1 = .ok (.getfield 263, 3) := by decide +kernel
theorem dX12_asksSign_4 : decode cX12_asksSign 4 = .ok (.ifCond .ne 20, 3) := by decide +kernel
theorem dX12_asksSign_7 : decode cX12_asksSign 7 = .ok (.aload_n 0, 1) := by decide +kernel
theorem dX12_asksSign_8 : decode cX12_asksSign 8 = .ok (.iload_n 1, 1) := by decide +kernel
theorem dX12_asksSign_9 : decode cX12_asksSign 9 = .ok (.invokevirtual 297, 3) := by decide +kernel
theorem dX12_asksSign_12 : decode cX12_asksSign 12 = .ok (.ifCond .ne 12, 3) := by decide +kernel
theorem dX12_asksSign_15 : decode cX12_asksSign 15 = .ok (.aload_n 0, 1) := by decide +kernel
theorem dX12_asksSign_16 : decode cX12_asksSign 16 = .ok (.iconst 1, 1) := by decide +kernel
theorem dX12_asksSign_17 : decode cX12_asksSign 17 = .ok (.aload_n 0, 1) := by decide +kernel
theorem dX12_asksSign_18 : decode cX12_asksSign 18 = .ok (.getfield 269, 3) := by decide +kernel
theorem dX12_asksSign_21 : decode cX12_asksSign 21 = .ok (.invokevirtual 293, 3) := by decide +kernel
theorem dX12_asksSign_24 : decode cX12_asksSign 24 = .ok (.return_, 1) := by decide +kernel
theorem dX12_qDropsToBracket_0 : decode cX12_qDropsToBracket 0 = .ok (.aload_n 0, 1) := by decide +kernel
theorem dX12_qDropsToBracket_1 : decode cX12_qDropsToBracket 1 = .ok (.getfield 355, 3) := by decide +kernel
theorem dX12_qDropsToBracket_4 : decode cX12_qDropsToBracket 4 = .ok (.aload_n 0, 1) := by decide +kernel
theorem dX12_qDropsToBracket_5 : decode cX12_qDropsToBracket 5 = .ok (.getfield 361, 3) := by decide +kernel
theorem dX12_qDropsToBracket_8 : decode cX12_qDropsToBracket 8 = .ok (.if_icmp .le 27, 3) := by decide +kernel
theorem dX12_qDropsToBracket_11 : decode cX12_qDropsToBracket 11 = .ok (.aload_n 0, 1) := by decide +kernel
theorem dX12_qDropsToBracket_12 : decode cX12_qDropsToBracket 12 = .ok (.getfield 251, 3) := by decide +kernel
theorem dX12_qDropsToBracket_15 : decode cX12_qDropsToBracket 15 = .ok (.aload_n 0, 1) := by decide +kernel
theorem dX12_qDropsToBracket_16 : decode cX12_qDropsToBracket 16 = .ok (.getfield 355, 3) := by decide +kernel
theorem dX12_qDropsToBracket_19 : decode cX12_qDropsToBracket 19 = .ok (.iconst 1, 1) := by decide +kernel
theorem dX12_qDropsToBracket_20 : decode cX12_qDropsToBracket 20 = .ok (.isub, 1) := by decide +kernel
theorem dX12_qDropsToBracket_21 : decode cX12_qDropsToBracket 21 = .ok (.iaload, 1) := by decide +kernel
theorem dX12_qDropsToBracket_22 : decode cX12_qDropsToBracket 22 = .ok (.invokestatic 597, 3) := by decide +kernel
theorem dX12_qDropsToBracket_25 : decode cX12_qDropsToBracket 25 = .ok (.ifCond .ne 10, 3) := by decide +kernel
theorem dX12_qDropsToBracket_28 : decode cX12_qDropsToBracket 28 = .ok (.aload_n 0, 1) := by decide +kernel
theorem dX12_qDropsToBracket_29 : decode cX12_qDropsToBracket 29 = .ok (.invokevirtual 600, 3) := by decide +kernel
theorem dX12_qDropsToBracket_32 : decode cX12_qDropsToBracket 32 = .ok (.goto (-32), 3) := by decide +kernel
theorem dX12_qDropsToBracket_35 : decode cX12_qDropsToBracket 35 = .ok (.return_, 1) := by decide +kernel
theorem dX12_wishesOf_0 : decode cX12_wishesOf 0 = .ok (.iconst 0, 1) := by decide +kernel
theorem dX12_wishesOf_1 : decode cX12_wishesOf 1 = .ok (.istore_n 2, 1) := by decide +kernel
theorem dX12_wishesOf_2 : decode cX12_wishesOf 2 = .ok (.iconst 0, 1) := by decide +kernel
theorem dX12_wishesOf_3 : decode cX12_wishesOf 3 = .ok (.istore_n 3, 1) := by decide +kernel
theorem dX12_wishesOf_4 : decode cX12_wishesOf 4 = .ok (.iload_n 3, 1) := by decide +kernel
theorem dX12_wishesOf_5 : decode cX12_wishesOf 5 = .ok (.aload_n 0, 1) := by decide +kernel
theorem dX12_wishesOf_6 : decode cX12_wishesOf 6 = .ok (.invokevirtual 410, 3) := by decide +kernel
theorem dX12_wishesOf_9 : decode cX12_wishesOf 9 = .ok (.if_icmp .ge 18, 3) := by decide +kernel
theorem dX12_wishesOf_12 : decode cX12_wishesOf 12 = .ok (.iload_n 2, 1) := by decide +kernel
theorem dX12_wishesOf_13 : decode cX12_wishesOf 13 = .ok (.aload_n 0, 1) := by decide +kernel
theorem dX12_wishesOf_14 : decode cX12_wishesOf 14 = .ok (.iload_n 1, 1) := by decide +kernel
theorem dX12_wishesOf_15 : decode cX12_wishesOf 15 = .ok (.iload_n 3, 1) := by decide +kernel
theorem dX12_wishesOf_16 : decode cX12_wishesOf 16 = .ok (.invokevirtual 425, 3) := by decide +kernel
theorem dX12_wishesOf_19 : decode cX12_wishesOf 19 = .ok (.iadd, 1) := by decide +kernel
theorem dX12_wishesOf_20 : decode cX12_wishesOf 20 = .ok (.istore_n 2, 1) := by decide +kernel
theorem dX12_wishesOf_21 : decode cX12_wishesOf 21 = .ok (.iinc 3 1, 3) := by decide +kernel
theorem dX12_wishesOf_24 : decode cX12_wishesOf 24 = .ok (.goto (-20), 3) := by decide +kernel
theorem dX12_wishesOf_27 : decode cX12_wishesOf 27 = .ok (.iload_n 2, 1) := by decide +kernel
theorem dX12_wishesOf_28 : decode cX12_wishesOf 28 = .ok (.ireturn, 1) := by decide +kernel
theorem dX12_isAhead_0 : decode cX12_isAhead 0 = .ok (.iload_n 1, 1) := by decide +kernel
theorem dX12_isAhead_1 : decode cX12_isAhead 1 = .ok (.i2l, 1) := by decide +kernel
theorem dX12_isAhead_2 : decode cX12_isAhead 2 = .ok (.iload_n 2, 1) := by decide +kernel
theorem dX12_isAhead_3 : decode cX12_isAhead 3 = .ok (.i2l, 1) := by decide +kernel
theorem dX12_isAhead_4 : decode cX12_isAhead 4 = .ok (.iload_n 3, 1) := by decide +kernel
theorem dX12_isAhead_5 : decode cX12_isAhead 5 = .ok (.i2l, 1) := by decide +kernel
theorem dX12_isAhead_6 : decode cX12_isAhead 6 = .ok (.invokestatic 303, 3) := by decide +kernel
theorem dX12_isAhead_9 : decode cX12_isAhead 9 = .ok (.ifCond .eq 21, 3) := by decide +kernel
theorem dX12_isAhead_12 : decode cX12_isAhead 12 = .ok (.aload_n 0, 1) := by decide +kernel
theorem dX12_isAhead_13 : decode cX12_isAhead 13 = .ok (.getfield 142, 3) := by decide +kernel
theorem dX12_isAhead_16 : decode cX12_isAhead 16 = .ok (.iconst 0, 1) := by decide +kernel
theorem dX12_isAhead_17 : decode cX12_isAhead 17 = .ok (.iaload, 1) := by decide +kernel
theorem dX12_isAhead_18 : decode cX12_isAhead 18 = .ok (.iload_n 1, 1) := by decide +kernel
theorem dX12_isAhead_19 : decode cX12_isAhead 19 = .ok (.iadd, 1) := by decide +kernel
theorem dX12_isAhead_20 : decode cX12_isAhead 20 = .ok (.sipush 999, 3) := by decide +kernel
theorem dX12_isAhead_23 : decode cX12_isAhead 23 = .ok (.if_icmp .gt 7, 3) := by decide +kernel
theorem dX12_isAhead_26 : decode cX12_isAhead 26 = .ok (.iconst 1, 1) := by decide +kernel
theorem dX12_isAhead_27 : decode cX12_isAhead 27 = .ok (.goto 4, 3) := by decide +kernel
theorem dX12_isAhead_30 : decode cX12_isAhead 30 = .ok (.iconst 0, 1) := by decide +kernel
theorem dX12_isAhead_31 : decode cX12_isAhead 31 = .ok (.ireturn, 1) := by decide +kernel
theorem dX12_give_0 : decode cX12_give 0 = .ok (.aload_n 0, 1) := by decide +kernel
theorem dX12_give_1 : decode cX12_give 1 = .ok (.iload_n 1, 1) := by decide +kernel
theorem dX12_give_2 : decode cX12_give 2 = .ok (.invokevirtual 501, 3) := by decide +kernel
theorem dX12_give_5 : decode cX12_give 5 = .ok (.ifCond .eq 30, 3) := by decide +kernel
theorem dX12_give_8 : decode cX12_give 8 = .ok (.aload_n 0, 1) := by decide +kernel
theorem dX12_give_9 : decode cX12_give 9 = .ok (.iload_n 2, 1) := by decide +kernel
theorem dX12_give_10 : decode cX12_give 10 = .ok (.invokevirtual 513, 3) := by decide +kernel
theorem dX12_give_13 : decode cX12_give 13 = .ok (.ifCond .eq 22, 3) := by decide +kernel
theorem dX12_give_16 : decode cX12_give 16 = .ok (.aload_n 0, 1) := by decide +kernel
theorem dX12_give_17 : decode cX12_give 17 = .ok (.iload_n 1, 1) := by decide +kernel
theorem dX12_give_18 : decode cX12_give 18 = .ok (.invokevirtual 507, 3) := by decide +kernel
theorem dX12_give_21 : decode cX12_give 21 = .ok (.ifCond .gt 14, 3) := by decide +kernel
theorem dX12_give_24 : decode cX12_give 24 = .ok (.aload_n 0, 1) := by decide +kernel
theorem dX12_give_25 : decode cX12_give 25 = .ok (.getfield 142, 3) := by decide +kernel
theorem dX12_give_28 : decode cX12_give 28 = .ok (.iconst 4, 1) := by decide +kernel
theorem dX12_give_29 : decode cX12_give 29 = .ok (.iload_n 2, 1) := by decide +kernel
theorem dX12_give_30 : decode cX12_give 30 = .ok (.iadd, 1) := by decide +kernel
theorem dX12_give_31 : decode cX12_give 31 = .ok (.iaload, 1) := by decide +kernel
theorem dX12_give_32 : decode cX12_give 32 = .ok (.ifCond .ne 9, 3) := by decide +kernel
theorem dX12_give_35 : decode cX12_give 35 = .ok (.aload_n 0, 1) := by decide +kernel
theorem dX12_give_36 : decode cX12_give 36 = .ok (.iconst 2, 1) := by decide +kernel
theorem dX12_give_37 : decode cX12_give 37 = .ok (.invokevirtual 560, 3) := by decide +kernel
theorem dX12_give_40 : decode cX12_give 40 = .ok (.ireturn, 1) := by decide +kernel
theorem dX12_give_41 : decode cX12_give 41 = .ok (.aload_n 0, 1) := by decide +kernel
theorem dX12_give_42 : decode cX12_give 42 = .ok (.invokevirtual 575, 3) := by decide +kernel
theorem dX12_give_45 : decode cX12_give 45 = .ok (.aload_n 0, 1) := by decide +kernel
theorem dX12_give_46 : decode cX12_give 46 = .ok (.getfield 142, 3) := by decide +kernel
theorem dX12_give_49 : decode cX12_give 49 = .ok (.iconst 4, 1) := by decide +kernel
theorem dX12_give_50 : decode cX12_give 50 = .ok (.iload_n 2, 1) := by decide +kernel
theorem dX12_give_51 : decode cX12_give 51 = .ok (.iadd, 1) := by decide +kernel
theorem dX12_give_52 : decode cX12_give 52 = .ok (.dup2, 1) := by decide +kernel
theorem dX12_give_53 : decode cX12_give 53 = .ok (.iaload, 1) := by decide +kernel
theorem dX12_give_54 : decode cX12_give 54 = .ok (.iconst 1, 1) := by decide +kernel
theorem dX12_give_55 : decode cX12_give 55 = .ok (.isub, 1) := by decide +kernel
theorem dX12_give_56 : decode cX12_give 56 = .ok (.iastore, 1) := by decide +kernel
theorem dX12_give_57 : decode cX12_give 57 = .ok (.aload_n 0, 1) := by decide +kernel
theorem dX12_give_58 : decode cX12_give 58 = .ok (.getfield 142, 3) := by decide +kernel
theorem dX12_give_61 : decode cX12_give 61 = .ok (.bipush 8, 2) := by decide +kernel
theorem dX12_give_63 : decode cX12_give 63 = .ok (.iconst 3, 1) := by decide +kernel
theorem dX12_give_64 : decode cX12_give 64 = .ok (.iload_n 1, 1) := by decide +kernel
theorem dX12_give_65 : decode cX12_give 65 = .ok (.imul, 1) := by decide +kernel
theorem dX12_give_66 : decode cX12_give 66 = .ok (.iadd, 1) := by decide +kernel
theorem dX12_give_67 : decode cX12_give 67 = .ok (.iconst 2, 1) := by decide +kernel
theorem dX12_give_68 : decode cX12_give 68 = .ok (.iadd, 1) := by decide +kernel
theorem dX12_give_69 : decode cX12_give 69 = .ok (.iload_n 2, 1) := by decide +kernel
theorem dX12_give_70 : decode cX12_give 70 = .ok (.iconst 1, 1) := by decide +kernel
theorem dX12_give_71 : decode cX12_give 71 = .ok (.iadd, 1) := by decide +kernel
theorem dX12_give_72 : decode cX12_give 72 = .ok (.iastore, 1) := by decide +kernel
theorem dX12_give_73 : decode cX12_give 73 = .ok (.aload_n 0, 1) := by decide +kernel
theorem dX12_give_74 : decode cX12_give 74 = .ok (.getfield 142, 3) := by decide +kernel
theorem dX12_give_77 : decode cX12_give 77 = .ok (.iconst 4, 1) := by decide +kernel
theorem dX12_give_78 : decode cX12_give 78 = .ok (.iload_n 2, 1) := by decide +kernel
theorem dX12_give_79 : decode cX12_give 79 = .ok (.iadd, 1) := by decide +kernel
theorem dX12_give_80 : decode cX12_give 80 = .ok (.iaload, 1) := by decide +kernel
theorem dX12_give_81 : decode cX12_give 81 = .ok (.ireturn, 1) := by decide +kernel
theorem dX12_areLettersTold_0 : decode cX12_areLettersTold 0 = .ok (.iconst 0, 1) := by decide +kernel
theorem dX12_areLettersTold_1 : decode cX12_areLettersTold 1 = .ok (.istore_n 2, 1) := by decide +kernel
theorem dX12_areLettersTold_2 : decode cX12_areLettersTold 2 = .ok (.iload_n 2, 1) := by decide +kernel
theorem dX12_areLettersTold_3 : decode cX12_areLettersTold 3 = .ok (.aload_n 0, 1) := by decide +kernel
theorem dX12_areLettersTold_4 : decode cX12_areLettersTold 4 = .ok (.invokevirtual 419, 3) := by decide +kernel
theorem dX12_areLettersTold_7 : decode cX12_areLettersTold 7 = .ok (.if_icmp .ge 127, 3) := by decide +kernel
theorem dX12_areLettersTold_10 : decode cX12_areLettersTold 10 = .ok (.iload_n 1, 1) := by decide +kernel
theorem dX12_areLettersTold_11 : decode cX12_areLettersTold 11 = .ok (.iconst 3, 1) := by decide +kernel
theorem dX12_areLettersTold_12 : decode cX12_areLettersTold 12 = .ok (.iload_n 2, 1) := by decide +kernel
theorem dX12_areLettersTold_13 : decode cX12_areLettersTold 13 = .ok (.imul, 1) := by decide +kernel
theorem dX12_areLettersTold_14 : decode cX12_areLettersTold 14 = .ok (.iadd, 1) := by decide +kernel
theorem dX12_areLettersTold_15 : decode cX12_areLettersTold 15 = .ok (.istore_n 3, 1) := by decide +kernel
theorem dX12_areLettersTold_16 : decode cX12_areLettersTold 16 = .ok (.aload_n 0, 1) := by decide +kernel
theorem dX12_areLettersTold_17 : decode cX12_areLettersTold 17 = .ok (.getfield 7, 3) := by decide +kernel
theorem dX12_areLettersTold_20 : decode cX12_areLettersTold 20 = .ok (.iload_n 3, 1) := by decide +kernel
theorem dX12_areLettersTold_21 : decode cX12_areLettersTold 21 = .ok (.iaload, 1) := by decide +kernel
theorem dX12_areLettersTold_22 : decode cX12_areLettersTold 22 = .ok (.aload_n 0, 1) := by decide +kernel
theorem dX12_areLettersTold_23 : decode cX12_areLettersTold 23 = .ok (.invokevirtual 422, 3) := by decide +kernel
theorem dX12_areLettersTold_26 : decode cX12_areLettersTold 26 = .ok (.if_icmp .gt 30, 3) := by decide +kernel
theorem dX12_areLettersTold_29 : decode cX12_areLettersTold 29 = .ok (.aload_n 0, 1) := by decide +kernel
theorem dX12_areLettersTold_30 : decode cX12_areLettersTold 30 = .ok (.getfield 7, 3) := by decide +kernel
theorem dX12_areLettersTold_33 : decode cX12_areLettersTold 33 = .ok (.iload_n 3, 1) := by decide +kernel
theorem dX12_areLettersTold_34 : decode cX12_areLettersTold 34 = .ok (.iconst 1, 1) := by decide +kernel
theorem dX12_areLettersTold_35 : decode cX12_areLettersTold 35 = .ok (.iadd, 1) := by decide +kernel
theorem dX12_areLettersTold_36 : decode cX12_areLettersTold 36 = .ok (.iaload, 1) := by decide +kernel
theorem dX12_areLettersTold_37 : decode cX12_areLettersTold 37 = .ok (.iconst 4, 1) := by decide +kernel
theorem dX12_areLettersTold_38 : decode cX12_areLettersTold 38 = .ok (.if_icmp .gt 18, 3) := by decide +kernel
theorem dX12_areLettersTold_41 : decode cX12_areLettersTold 41 = .ok (.aload_n 0, 1) := by decide +kernel
theorem dX12_areLettersTold_42 : decode cX12_areLettersTold 42 = .ok (.getfield 7, 3) := by decide +kernel
theorem dX12_areLettersTold_45 : decode cX12_areLettersTold 45 = .ok (.iload_n 3, 1) := by decide +kernel
theorem dX12_areLettersTold_46 : decode cX12_areLettersTold 46 = .ok (.iconst 2, 1) := by decide +kernel
theorem dX12_areLettersTold_47 : decode cX12_areLettersTold 47 = .ok (.iadd, 1) := by decide +kernel
theorem dX12_areLettersTold_48 : decode cX12_areLettersTold 48 = .ok (.iaload, 1) := by decide +kernel
theorem dX12_areLettersTold_49 : decode cX12_areLettersTold 49 = .ok (.aload_n 0, 1) := by decide +kernel
theorem dX12_areLettersTold_50 : decode cX12_areLettersTold 50 = .ok (.invokevirtual 410, 3) := by decide +kernel
theorem dX12_areLettersTold_53 : decode cX12_areLettersTold 53 = .ok (.if_icmp .le 5, 3) := by decide +kernel
theorem dX12_areLettersTold_56 : decode cX12_areLettersTold 56 = .ok (.iconst 0, 1) := by decide +kernel
theorem dX12_areLettersTold_57 : decode cX12_areLettersTold 57 = .ok (.ireturn, 1) := by decide +kernel
theorem dX12_areLettersTold_58 : decode cX12_areLettersTold 58 = .ok (.iconst 0, 1) := by decide +kernel
theorem dX12_areLettersTold_59 : decode cX12_areLettersTold 59 = .ok (.istore 4, 2) := by decide +kernel
theorem dX12_areLettersTold_61 : decode cX12_areLettersTold 61 = .ok (.iload 4, 2) := by decide +kernel
theorem dX12_areLettersTold_63 : decode cX12_areLettersTold 63 = .ok (.iload_n 2, 1) := by decide +kernel
theorem dX12_areLettersTold_64 : decode cX12_areLettersTold 64 = .ok (.if_icmp .ge 64, 3) := by decide +kernel
theorem dX12_areLettersTold_67 : decode cX12_areLettersTold 67 = .ok (.aload_n 0, 1) := by decide +kernel
theorem dX12_areLettersTold_68 : decode cX12_areLettersTold 68 = .ok (.getfield 7, 3) := by decide +kernel
theorem dX12_areLettersTold_71 : decode cX12_areLettersTold 71 = .ok (.iload_n 3, 1) := by decide +kernel
theorem dX12_areLettersTold_72 : decode cX12_areLettersTold 72 = .ok (.iconst 1, 1) := by decide +kernel
theorem dX12_areLettersTold_73 : decode cX12_areLettersTold 73 = .ok (.iadd, 1) := by decide +kernel
theorem dX12_areLettersTold_74 : decode cX12_areLettersTold 74 = .ok (.iaload, 1) := by decide +kernel
theorem dX12_areLettersTold_75 : decode cX12_areLettersTold 75 = .ok (.ifCond .le 47, 3) := by decide +kernel
theorem dX12_areLettersTold_78 : decode cX12_areLettersTold 78 = .ok (.aload_n 0, 1) := by decide +kernel
theorem dX12_areLettersTold_79 : decode cX12_areLettersTold 79 = .ok (.getfield 7, 3) := by decide +kernel
theorem dX12_areLettersTold_82 : decode cX12_areLettersTold 82 = .ok (.iload_n 3, 1) := by decide +kernel
theorem dX12_areLettersTold_83 : decode cX12_areLettersTold 83 = .ok (.iconst 1, 1) := by decide +kernel
theorem dX12_areLettersTold_84 : decode cX12_areLettersTold 84 = .ok (.iadd, 1) := by decide +kernel
theorem dX12_areLettersTold_85 : decode cX12_areLettersTold 85 = .ok (.iaload, 1) := by decide +kernel
theorem dX12_areLettersTold_86 : decode cX12_areLettersTold 86 = .ok (.aload_n 0, 1) := by decide +kernel
theorem dX12_areLettersTold_87 : decode cX12_areLettersTold 87 = .ok (.getfield 7, 3) := by decide +kernel
theorem dX12_areLettersTold_90 : decode cX12_areLettersTold 90 = .ok (.iload_n 1, 1) := by decide +kernel
theorem dX12_areLettersTold_91 : decode cX12_areLettersTold 91 = .ok (.iconst 3, 1) := by decide +kernel
theorem dX12_areLettersTold_92 : decode cX12_areLettersTold 92 = .ok (.iload 4, 2) := by decide +kernel
theorem dX12_areLettersTold_94 : decode cX12_areLettersTold 94 = .ok (.imul, 1) := by decide +kernel
theorem dX12_areLettersTold_95 : decode cX12_areLettersTold 95 = .ok (.iadd, 1) := by decide +kernel
theorem dX12_areLettersTold_96 : decode cX12_areLettersTold 96 = .ok (.iconst 1, 1) := by decide +kernel
theorem dX12_areLettersTold_97 : decode cX12_areLettersTold 97 = .ok (.iadd, 1) := by decide +kernel
theorem dX12_areLettersTold_98 : decode cX12_areLettersTold 98 = .ok (.iaload, 1) := by decide +kernel
theorem dX12_areLettersTold_99 : decode cX12_areLettersTold 99 = .ok (.if_icmp .ne 23, 3) := by decide +kernel
theorem dX12_areLettersTold_102 : decode cX12_areLettersTold 102 = .ok (.aload_n 0, 1) := by decide +kernel
theorem dX12_areLettersTold_103 : decode cX12_areLettersTold 103 = .ok (.getfield 121, 3) := by decide +kernel
theorem dX12_areLettersTold_106 : decode cX12_areLettersTold 106 = .ok (.bipush 8, 2) := by decide +kernel
theorem dX12_areLettersTold_108 : decode cX12_areLettersTold 108 = .ok (.iload_n 2, 1) := by decide +kernel
theorem dX12_areLettersTold_109 : decode cX12_areLettersTold 109 = .ok (.iadd, 1) := by decide +kernel
theorem dX12_areLettersTold_110 : decode cX12_areLettersTold 110 = .ok (.iaload, 1) := by decide +kernel
theorem dX12_areLettersTold_111 : decode cX12_areLettersTold 111 = .ok (.iload 4, 2) := by decide +kernel
theorem dX12_areLettersTold_113 : decode cX12_areLettersTold 113 = .ok (.ishr, 1) := by decide +kernel
theorem dX12_areLettersTold_114 : decode cX12_areLettersTold 114 = .ok (.iconst 1, 1) := by decide +kernel
theorem dX12_areLettersTold_115 : decode cX12_areLettersTold 115 = .ok (.iand, 1) := by decide +kernel
theorem dX12_areLettersTold_116 : decode cX12_areLettersTold 116 = .ok (.iconst 1, 1) := by decide +kernel
theorem dX12_areLettersTold_117 : decode cX12_areLettersTold 117 = .ok (.if_icmp .ne 5, 3) := by decide +kernel
theorem dX12_areLettersTold_120 : decode cX12_areLettersTold 120 = .ok (.iconst 0, 1) := by decide +kernel
theorem dX12_areLettersTold_121 : decode cX12_areLettersTold 121 = .ok (.ireturn, 1) := by decide +kernel
theorem dX12_areLettersTold_122 : decode cX12_areLettersTold 122 = .ok (.iinc 4 1, 3) := by decide +kernel
theorem dX12_areLettersTold_125 : decode cX12_areLettersTold 125 = .ok (.goto (-64), 3) := by decide +kernel
theorem dX12_areLettersTold_128 : decode cX12_areLettersTold 128 = .ok (.iinc 2 1, 3) := by decide +kernel
theorem dX12_areLettersTold_131 : decode cX12_areLettersTold 131 = .ok (.goto (-129), 3) := by decide +kernel
theorem dX12_areLettersTold_134 : decode cX12_areLettersTold 134 = .ok (.iconst 1, 1) := by decide +kernel
theorem dX12_areLettersTold_135 : decode cX12_areLettersTold 135 = .ok (.ireturn, 1) := by decide +kernel
theorem dX12_laysTimes_0 : decode cX12_laysTimes 0 = .ok (.iconst 0, 1) := by decide +kernel
theorem dX12_laysTimes_1 : decode cX12_laysTimes 1 = .ok (.istore_n 1, 1) := by decide +kernel
theorem dX12_laysTimes_2 : decode cX12_laysTimes 2 = .ok (.iload_n 1, 1) := by decide +kernel
theorem dX12_laysTimes_3 : decode cX12_laysTimes 3 = .ok (.aload_n 0, 1) := by decide +kernel
theorem dX12_laysTimes_4 : decode cX12_laysTimes 4 = .ok (.invokevirtual 419, 3) := by decide +kernel
theorem dX12_laysTimes_7 : decode cX12_laysTimes 7 = .ok (.if_icmp .ge 57, 3) := by decide +kernel
theorem dX12_laysTimes_10 : decode cX12_laysTimes 10 = .ok (.iconst 0, 1) := by decide +kernel
theorem dX12_laysTimes_11 : decode cX12_laysTimes 11 = .ok (.istore_n 2, 1) := by decide +kernel
theorem dX12_laysTimes_12 : decode cX12_laysTimes 12 = .ok (.iload_n 2, 1) := by decide +kernel
theorem dX12_laysTimes_13 : decode cX12_laysTimes 13 = .ok (.aload_n 0, 1) := by decide +kernel
theorem dX12_laysTimes_14 : decode cX12_laysTimes 14 = .ok (.invokevirtual 422, 3) := by decide +kernel
theorem dX12_laysTimes_17 : decode cX12_laysTimes 17 = .ok (.if_icmp .ge 41, 3) := by decide +kernel
theorem dX12_laysTimes_20 : decode cX12_laysTimes 20 = .ok (.aload_n 0, 1) := by decide +kernel
theorem dX12_laysTimes_21 : decode cX12_laysTimes 21 = .ok (.getfield 157, 3) := by decide +kernel
theorem dX12_laysTimes_24 : decode cX12_laysTimes 24 = .ok (.iconst 3, 1) := by decide +kernel
theorem dX12_laysTimes_25 : decode cX12_laysTimes 25 = .ok (.iload_n 1, 1) := by decide +kernel
theorem dX12_laysTimes_26 : decode cX12_laysTimes 26 = .ok (.imul, 1) := by decide +kernel
theorem dX12_laysTimes_27 : decode cX12_laysTimes 27 = .ok (.iload_n 2, 1) := by decide +kernel
theorem dX12_laysTimes_28 : decode cX12_laysTimes 28 = .ok (.iadd, 1) := by decide +kernel
theorem dX12_laysTimes_29 : decode cX12_laysTimes 29 = .ok (.aload_n 0, 1) := by decide +kernel
theorem dX12_laysTimes_30 : decode cX12_laysTimes 30 = .ok (.iload_n 1, 1) := by decide +kernel
theorem dX12_laysTimes_31 : decode cX12_laysTimes 31 = .ok (.iload_n 2, 1) := by decide +kernel
theorem dX12_laysTimes_32 : decode cX12_laysTimes 32 = .ok (.invokevirtual 461, 3) := by decide +kernel
theorem dX12_laysTimes_35 : decode cX12_laysTimes 35 = .ok (.iastore, 1) := by decide +kernel
theorem dX12_laysTimes_36 : decode cX12_laysTimes 36 = .ok (.aload_n 0, 1) := by decide +kernel
theorem dX12_laysTimes_37 : decode cX12_laysTimes 37 = .ok (.getfield 160, 3) := by decide +kernel
theorem dX12_laysTimes_40 : decode cX12_laysTimes 40 = .ok (.iconst 3, 1) := by decide +kernel
theorem dX12_laysTimes_41 : decode cX12_laysTimes 41 = .ok (.iload_n 1, 1) := by decide +kernel
theorem dX12_laysTimes_42 : decode cX12_laysTimes 42 = .ok (.imul, 1) := by decide +kernel
theorem dX12_laysTimes_43 : decode cX12_laysTimes 43 = .ok (.iload_n 2, 1) := by decide +kernel
theorem dX12_laysTimes_44 : decode cX12_laysTimes 44 = .ok (.iadd, 1) := by decide +kernel
theorem dX12_laysTimes_45 : decode cX12_laysTimes 45 = .ok (.aload_n 0, 1) := by decide +kernel
theorem dX12_laysTimes_46 : decode cX12_laysTimes 46 = .ok (.iload_n 1, 1) := by decide +kernel
theorem dX12_laysTimes_47 : decode cX12_laysTimes 47 = .ok (.iload_n 2, 1) := by decide +kernel
theorem dX12_laysTimes_48 : decode cX12_laysTimes 48 = .ok (.invokevirtual 464, 3) := by decide +kernel
theorem dX12_laysTimes_51 : decode cX12_laysTimes 51 = .ok (.lastore, 1) := by decide +kernel
theorem dX12_laysTimes_52 : decode cX12_laysTimes 52 = .ok (.iinc 2 1, 3) := by decide +kernel
theorem dX12_laysTimes_55 : decode cX12_laysTimes 55 = .ok (.goto (-43), 3) := by decide +kernel
theorem dX12_laysTimes_58 : decode cX12_laysTimes 58 = .ok (.iinc 1 1, 3) := by decide +kernel
theorem dX12_laysTimes_61 : decode cX12_laysTimes 61 = .ok (.goto (-59), 3) := by decide +kernel
theorem dX12_laysTimes_64 : decode cX12_laysTimes 64 = .ok (.return_, 1) := by decide +kernel
theorem dX12_watched_0 : decode cX12_watched 0 = .ok (.iload_n 1, 1) := by decide +kernel
