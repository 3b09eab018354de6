theorem dX12_qWordHere_31 : decode cX12_qWordHere 31 = .ok (.invokevirtual 286, 3) := by decide +kernel
theorem dX12_qWordHere_34 : decode cX12_qWordHere 34 = .ok (.ifCond .eq 5, 3) := by decide +kernel
theorem dX12_qWordHere_37 : decode cX12_qWordHere 37 = .ok (.iconst 2, 1) := by decide +kernel
theorem dX12_qWordHere_38 : decode cX12_qWordHere 38 = .ok (.ireturn, 1) := by decide +kernel
theorem dX12_qWordHere_39 : decode cX12_qWordHere 39 = .ok (.aload_n 0, 1) := by decide +kernel
theorem dX12_qWordHere_40 : decode cX12_qWordHere 40 = .ok (.aload_n 0, 1) := by decide +kernel
theorem dX12_qWordHere_41 : decode cX12_qWordHere 41 = .ok (.getfield 224, 3) := by decide +kernel
theorem dX12_qWordHere_44 : decode cX12_qWordHere 44 = .ok (.invokevirtual 286, 3) := by decide +kernel
theorem dX12_qWordHere_47 : decode cX12_qWordHere 47 = .ok (.ifCond .eq 5, 3) := by decide +kernel
theorem dX12_qWordHere_50 : decode cX12_qWordHere 50 = .ok (.iconst 3, 1) := by decide +kernel
theorem dX12_qWordHere_51 : decode cX12_qWordHere 51 = .ok (.ireturn, 1) := by decide +kernel
theorem dX12_qWordHere_52 : decode cX12_qWordHere 52 = .ok (.aload_n 0, 1) := by decide +kernel
theorem dX12_qWordHere_53 : decode cX12_qWordHere 53 = .ok (.aload_n 0, 1) := by decide +kernel
theorem dX12_qWordHere_54 : decode cX12_qWordHere 54 = .ok (.getfield 227, 3) := by decide +kernel
theorem dX12_qWordHere_57 : decode cX12_qWordHere 57 = .ok (.invokevirtual 286, 3) := by decide +kernel
theorem dX12_qWordHere_60 : decode cX12_qWordHere 60 = .ok (.ifCond .eq 5, 3) := by decide +kernel
theorem dX12_qWordHere_63 : decode cX12_qWordHere 63 = .ok (.iconst 4, 1) := by decide +kernel
theorem dX12_qWordHere_64 : decode cX12_qWordHere 64 = .ok (.ireturn, 1) := by decide +kernel
theorem dX12_qWordHere_65 : decode cX12_qWordHere 65 = .ok (.aload_n 0, 1) := by decide +kernel
theorem dX12_qWordHere_66 : decode cX12_qWordHere 66 = .ok (.aload_n 0, 1) := by decide +kernel
theorem dX12_qWordHere_67 : decode cX12_qWordHere 67 = .ok (.getfield 230, 3) := by decide +kernel
theorem dX12_qWordHere_70 : decode cX12_qWordHere 70 = .ok (.invokevirtual 286, 3) := by decide +kernel
theorem dX12_qWordHere_73 : decode cX12_qWordHere 73 = .ok (.ifCond .eq 5, 3) := by decide +kernel
theorem dX12_qWordHere_76 : decode cX12_qWordHere 76 = .ok (.iconst 5, 1) := by decide +kernel
theorem dX12_qWordHere_77 : decode cX12_qWordHere 77 = .ok (.ireturn, 1) := by decide +kernel
theorem dX12_qWordHere_78 : decode cX12_qWordHere 78 = .ok (.aload_n 0, 1) := by decide +kernel
theorem dX12_qWordHere_79 : decode cX12_qWordHere 79 = .ok (.aload_n 0, 1) := by decide +kernel
theorem dX12_qWordHere_80 : decode cX12_qWordHere 80 = .ok (.getfield 233, 3) := by decide +kernel
theorem dX12_qWordHere_83 : decode cX12_qWordHere 83 = .ok (.invokevirtual 286, 3) := by decide +kernel
theorem dX12_qWordHere_86 : decode cX12_qWordHere 86 = .ok (.ifCond .eq 6, 3) := by decide +kernel
theorem dX12_qWordHere_89 : decode cX12_qWordHere 89 = .ok (.bipush 6, 2) := by decide +kernel
theorem dX12_qWordHere_91 : decode cX12_qWordHere 91 = .ok (.ireturn, 1) := by decide +kernel
theorem dX12_qWordHere_92 : decode cX12_qWordHere 92 = .ok (.aload_n 0, 1) := by decide +kernel
theorem dX12_qWordHere_93 : decode cX12_qWordHere 93 = .ok (.aload_n 0, 1) := by decide +kernel
theorem dX12_qWordHere_94 : decode cX12_qWordHere 94 = .ok (.getfield 236, 3) := by decide +kernel
theorem dX12_qWordHere_97 : decode cX12_qWordHere 97 = .ok (.invokevirtual 286, 3) := by decide +kernel
theorem dX12_qWordHere_100 : decode cX12_qWordHere 100 = .ok (.ifCond .eq 6, 3) := by decide +kernel
theorem dX12_qWordHere_103 : decode cX12_qWordHere 103 = .ok (.bipush 7, 2) := by decide +kernel
theorem dX12_qWordHere_105 : decode cX12_qWordHere 105 = .ok (.ireturn, 1) := by decide +kernel
theorem dX12_qWordHere_106 : decode cX12_qWordHere 106 = .ok (.aload_n 0, 1) := by decide +kernel
theorem dX12_qWordHere_107 : decode cX12_qWordHere 107 = .ok (.aload_n 0, 1) := by decide +kernel
theorem dX12_qWordHere_108 : decode cX12_qWordHere 108 = .ok (.getfield 239, 3) := by decide +kernel
theorem dX12_qWordHere_111 : decode cX12_qWordHere 111 = .ok (.invokevirtual 286, 3) := by decide +kernel
theorem dX12_qWordHere_114 : decode cX12_qWordHere 114 = .ok (.ifCond .eq 6, 3) := by decide +kernel
theorem dX12_qWordHere_117 : decode cX12_qWordHere 117 = .ok (.bipush 8, 2) := by decide +kernel
theorem dX12_qWordHere_119 : decode cX12_qWordHere 119 = .ok (.ireturn, 1) := by decide +kernel
theorem dX12_qWordHere_120 : decode cX12_qWordHere 120 = .ok (.aload_n 0, 1) := by decide +kernel
theorem dX12_qWordHere_121 : decode cX12_qWordHere 121 = .ok (.aload_n 0, 1) := by decide +kernel
theorem dX12_qWordHere_122 : decode cX12_qWordHere 122 = .ok (.getfield 242, 3) := by decide +kernel
theorem dX12_qWordHere_125 : decode cX12_qWordHere 125 = .ok (.invokevirtual 286, 3) := by decide +kernel
theorem dX12_qWordHere_128 : decode cX12_qWordHere 128 = .ok (.ifCond .eq 6, 3) := by decide +kernel
theorem dX12_qWordHere_131 : decode cX12_qWordHere 131 = .ok (.bipush 9, 2) := by decide +kernel
theorem dX12_qWordHere_133 : decode cX12_qWordHere 133 = .ok (.ireturn, 1) := by decide +kernel
theorem dX12_qWordHere_134 : decode cX12_qWordHere 134 = .ok (.aload_n 0, 1) := by decide +kernel
theorem dX12_qWordHere_135 : decode cX12_qWordHere 135 = .ok (.aload_n 0, 1) := by decide +kernel
theorem dX12_qWordHere_136 : decode cX12_qWordHere 136 = .ok (.getfield 245, 3) := by decide +kernel
theorem dX12_qWordHere_139 : decode cX12_qWordHere 139 = .ok (.invokevirtual 286, 3) := by decide +kernel
theorem dX12_qWordHere_142 : decode cX12_qWordHere 142 = .ok (.ifCond .eq 6, 3) := by decide +kernel
theorem dX12_qWordHere_145 : decode cX12_qWordHere 145 = .ok (.bipush 10, 2) := by decide +kernel
theorem dX12_qWordHere_147 : decode cX12_qWordHere 147 = .ok (.ireturn, 1) := by decide +kernel
theorem dX12_qWordHere_148 : decode cX12_qWordHere 148 = .ok (.iconst (-1), 1) := by decide +kernel
theorem dX12_qWordHere_149 : decode cX12_qWordHere 149 = .ok (.ireturn, 1) := by decide +kernel
theorem dX12_qWordOf_0 : decode cX12_qWordOf 0 = .ok (.aload_n 0, 1) := by decide +kernel
theorem dX12_qWordOf_1 : decode cX12_qWordOf 1 = .ok (.invokevirtual 603, 3) := by decide +kernel
theorem dX12_qWordOf_4 : decode cX12_qWordOf 4 = .ok (.istore_n 3, 1) := by decide +kernel
theorem dX12_qWordOf_5 : decode cX12_qWordOf 5 = .ok (.iload_n 3, 1) := by decide +kernel
theorem dX12_qWordOf_6 : decode cX12_qWordOf 6 = .ok (.iload_n 1, 1) := by decide +kernel
theorem dX12_qWordOf_7 : decode cX12_qWordOf 7 = .ok (.if_icmp .lt 20, 3) := by decide +kernel
theorem dX12_qWordOf_10 : decode cX12_qWordOf 10 = .ok (.iload_n 3, 1) := by decide +kernel
theorem dX12_qWordOf_11 : decode cX12_qWordOf 11 = .ok (.iload_n 2, 1) := by decide +kernel
theorem dX12_qWordOf_12 : decode cX12_qWordOf 12 = .ok (.if_icmp .ge 15, 3) := by decide +kernel
theorem dX12_qWordOf_15 : decode cX12_qWordOf 15 = .ok (.aload_n 0, 1) := by decide +kernel
theorem dX12_qWordOf_16 : decode cX12_qWordOf 16 = .ok (.iload_n 3, 1) := by decide +kernel
theorem dX12_qWordOf_17 : decode cX12_qWordOf 17 = .ok (.invokevirtual 606, 3) := by decide +kernel
theorem dX12_qWordOf_20 : decode cX12_qWordOf 20 = .ok (.ifCond .eq 7, 3) := by decide +kernel
theorem dX12_qWordOf_23 : decode cX12_qWordOf 23 = .ok (.iload_n 3, 1) := by decide +kernel
theorem dX12_qWordOf_24 : decode cX12_qWordOf 24 = .ok (.goto 4, 3) := by decide +kernel
theorem dX12_qWordOf_27 : decode cX12_qWordOf 27 = .ok (.iconst (-1), 1) := by decide +kernel
theorem dX12_qWordOf_28 : decode cX12_qWordOf 28 = .ok (.ireturn, 1) := by decide +kernel
theorem dX12_qAsksWord_0 : decode cX12_qAsksWord 0 = .ok (.iload_n 1, 1) := by decide +kernel
theorem dX12_qAsksWord_1 : decode cX12_qAsksWord 1 = .ok (.tableswitch 165 0 9 #[55, 66, 77, 88, 99, 110, 121, 132, 143, 154], 55) := by decide +kernel
theorem dX12_qAsksWord_56 : decode cX12_qAsksWord 56 = .ok (.aload_n 0, 1) := by decide +kernel
theorem dX12_qAsksWord_57 : decode cX12_qAsksWord 57 = .ok (.aload_n 0, 1) := by decide +kernel
theorem dX12_qAsksWord_58 : decode cX12_qAsksWord 58 = .ok (.getfield 215, 3) := by decide +kernel
theorem dX12_qAsksWord_61 : decode cX12_qAsksWord 61 = .ok (.invokevirtual 337, 3) := by decide +kernel
theorem dX12_qAsksWord_64 : decode cX12_qAsksWord 64 = .ok (.goto 110, 3) := by decide +kernel
theorem dX12_qAsksWord_67 : decode cX12_qAsksWord 67 = .ok (.aload_n 0, 1) := by decide +kernel
theorem dX12_qAsksWord_68 : decode cX12_qAsksWord 68 = .ok (.aload_n 0, 1) := by decide +kernel
theorem dX12_qAsksWord_69 : decode cX12_qAsksWord 69 = .ok (.getfield 218, 3) := by decide +kernel
theorem dX12_qAsksWord_72 : decode cX12_qAsksWord 72 = .ok (.invokevirtual 337, 3) := by decide +kernel
theorem dX12_qAsksWord_75 : decode cX12_qAsksWord 75 = .ok (.goto 99, 3) := by decide +kernel
theorem dX12_qAsksWord_78 : decode cX12_qAsksWord 78 = .ok (.aload_n 0, 1) := by decide +kernel
theorem dX12_qAsksWord_79 : decode cX12_qAsksWord 79 = .ok (.aload_n 0, 1) := by decide +kernel
theorem dX12_qAsksWord_80 : decode cX12_qAsksWord 80 = .ok (.getfield 221, 3) := by decide +kernel
theorem dX12_qAsksWord_83 : decode cX12_qAsksWord 83 = .ok (.invokevirtual 337, 3) := by decide +kernel
theorem dX12_qAsksWord_86 : decode cX12_qAsksWord 86 = .ok (.goto 88, 3) := by decide +kernel
theorem dX12_qAsksWord_89 : decode cX12_qAsksWord 89 = .ok (.aload_n 0, 1) := by decide +kernel
theorem dX12_qAsksWord_90 : decode cX12_qAsksWord 90 = .ok (.aload_n 0, 1) := by decide +kernel
theorem dX12_qAsksWord_91 : decode cX12_qAsksWord 91 = .ok (.getfield 224, 3) := by decide +kernel
theorem dX12_qAsksWord_94 : decode cX12_qAsksWord 94 = .ok (.invokevirtual 337, 3) := by decide +kernel
theorem dX12_qAsksWord_97 : decode cX12_qAsksWord 97 = .ok (.goto 77, 3) := by decide +kernel
theorem dX12_qAsksWord_100 : decode cX12_qAsksWord 100 = .ok (.aload_n 0, 1) := by decide +kernel
theorem dX12_qAsksWord_101 : decode cX12_qAsksWord 101 = .ok (.aload_n 0, 1) := by decide +kernel
theorem dX12_qAsksWord_102 : decode cX12_qAsksWord 102 = .ok (.getfield 227, 3) := by decide +kernel
theorem dX12_qAsksWord_105 : decode cX12_qAsksWord 105 = .ok (.invokevirtual 337, 3) := by decide +kernel
theorem dX12_qAsksWord_108 : decode cX12_qAsksWord 108 = .ok (.goto 66, 3) := by decide +kernel
theorem dX12_qAsksWord_111 : decode cX12_qAsksWord 111 = .ok (.aload_n 0, 1) := by decide +kernel
theorem dX12_qAsksWord_112 : decode cX12_qAsksWord 112 = .ok (.aload_n 0, 1) := by decide +kernel
theorem dX12_qAsksWord_113 : decode cX12_qAsksWord 113 = .ok (.getfield 230, 3) := by decide +kernel
theorem dX12_qAsksWord_116 : decode cX12_qAsksWord 116 = .ok (.invokevirtual 337, 3) := by decide +kernel
theorem dX12_qAsksWord_119 : decode cX12_qAsksWord 119 = .ok (.goto 55, 3) := by decide +kernel
theorem dX12_qAsksWord_122 : decode cX12_qAsksWord 122 = .ok (.aload_n 0, 1) := by decide +kernel
theorem dX12_qAsksWord_123 : decode cX12_qAsksWord 123 = .ok (.aload_n 0, 1) := by decide +kernel
theorem dX12_qAsksWord_124 : decode cX12_qAsksWord 124 = .ok (.getfield 233, 3) := by decide +kernel
theorem dX12_qAsksWord_127 : decode cX12_qAsksWord 127 = .ok (.invokevirtual 337, 3) := by decide +kernel
theorem dX12_qAsksWord_130 : decode cX12_qAsksWord 130 = .ok (.goto 44, 3) := by decide +kernel
theorem dX12_qAsksWord_133 : decode cX12_qAsksWord 133 = .ok (.aload_n 0, 1) := by decide +kernel
theorem dX12_qAsksWord_134 : decode cX12_qAsksWord 134 = .ok (.aload_n 0, 1) := by decide +kernel
theorem dX12_qAsksWord_135 : decode cX12_qAsksWord 135 = .ok (.getfield 236, 3) := by decide +kernel
theorem dX12_qAsksWord_138 : decode cX12_qAsksWord 138 = .ok (.invokevirtual 337, 3) := by decide +kernel
theorem dX12_qAsksWord_141 : decode cX12_qAsksWord 141 = .ok (.goto 33, 3) := by decide +kernel
theorem dX12_qAsksWord_144 : decode cX12_qAsksWord 144 = .ok (.aload_n 0, 1) := by decide +kernel
theorem dX12_qAsksWord_145 : decode cX12_qAsksWord 145 = .ok (.aload_n 0, 1) := by decide +kernel
theorem dX12_qAsksWord_146 : decode cX12_qAsksWord 146 = .ok (.getfield 239, 3) := by decide +kernel
theorem dX12_qAsksWord_149 : decode cX12_qAsksWord 149 = .ok (.invokevirtual 337, 3) := by decide +kernel
theorem dX12_qAsksWord_152 : decode cX12_qAsksWord 152 = .ok (.goto 22, 3) := by decide +kernel
theorem dX12_qAsksWord_155 : decode cX12_qAsksWord 155 = .ok (.aload_n 0, 1) := by decide +kernel
theorem dX12_qAsksWord_156 : decode cX12_qAsksWord 156 = .ok (.aload_n 0, 1) := by decide +kernel
theorem dX12_qAsksWord_157 : decode cX12_qAsksWord 157 = .ok (.getfield 242, 3) := by decide +kernel
theorem dX12_qAsksWord_160 : decode cX12_qAsksWord 160 = .ok (.invokevirtual 337, 3) := by decide +kernel
theorem dX12_qAsksWord_163 : decode cX12_qAsksWord 163 = .ok (.goto 11, 3) := by decide +kernel
theorem dX12_qAsksWord_166 : decode cX12_qAsksWord 166 = .ok (.aload_n 0, 1) := by decide +kernel
theorem dX12_qAsksWord_167 : decode cX12_qAsksWord 167 = .ok (.aload_n 0, 1) := by decide +kernel
theorem dX12_qAsksWord_168 : decode cX12_qAsksWord 168 = .ok (.getfield 245, 3) := by decide +kernel
theorem dX12_qAsksWord_171 : decode cX12_qAsksWord 171 = .ok (.invokevirtual 337, 3) := by decide +kernel
theorem dX12_qAsksWord_174 : decode cX12_qAsksWord 174 = .ok (.return_, 1) := by decide +kernel
theorem dX12_qEndsPart_0 : decode cX12_qEndsPart 0 = .ok (.aload_n 0, 1) := by decide +kernel
theorem dX12_qEndsPart_1 : decode cX12_qEndsPart 1 = .ok (.getfield 263, 3) := by decide +kernel
theorem dX12_qEndsPart_4 : decode cX12_qEndsPart 4 = .ok (.ifCond .ne 47, 3) := by decide +kernel
theorem dX12_qEndsPart_7 : decode cX12_qEndsPart 7 = .ok (.aload_n 0, 1) := by decide +kernel
theorem dX12_qEndsPart_8 : decode cX12_qEndsPart 8 = .ok (.getfield 355, 3) := by decide +kernel
theorem dX12_qEndsPart_11 : decode cX12_qEndsPart 11 = .ok (.aload_n 0, 1) := by decide +kernel
theorem dX12_qEndsPart_12 : decode cX12_qEndsPart 12 = .ok (.getfield 361, 3) := by decide +kernel
theorem dX12_qEndsPart_15 : decode cX12_qEndsPart 15 = .ok (.if_icmp .le 36, 3) := by decide +kernel
theorem dX12_qEndsPart_18 : decode cX12_qEndsPart 18 = .ok (.aload_n 0, 1) := by decide +kernel
theorem dX12_qEndsPart_19 : decode cX12_qEndsPart 19 = .ok (.getfield 251, 3) := by decide +kernel
theorem dX12_qEndsPart_22 : decode cX12_qEndsPart 22 = .ok (.aload_n 0, 1) := by decide +kernel
theorem dX12_qEndsPart_23 : decode cX12_qEndsPart 23 = .ok (.getfield 355, 3) := by decide +kernel
theorem dX12_qEndsPart_26 : decode cX12_qEndsPart 26 = .ok (.iconst 1, 1) := by decide +kernel
theorem dX12_qEndsPart_27 : decode cX12_qEndsPart 27 = .ok (.isub, 1) := by decide +kernel
theorem dX12_qEndsPart_28 : decode cX12_qEndsPart 28 = .ok (.iaload, 1) := by decide +kernel
theorem dX12_qEndsPart_29 : decode cX12_qEndsPart 29 = .ok (.bipush 60, 2) := by decide +kernel
theorem dX12_qEndsPart_31 : decode cX12_qEndsPart 31 = .ok (.if_icmp .lt 20, 3) := by decide +kernel
theorem dX12_qEndsPart_34 : decode cX12_qEndsPart 34 = .ok (.aload_n 0, 1) := by decide +kernel
theorem dX12_qEndsPart_35 : decode cX12_qEndsPart 35 = .ok (.dup, 1) := by decide +kernel
theorem dX12_qEndsPart_36 : decode cX12_qEndsPart 36 = .ok (.getfield 358, 3) := by decide +kernel
theorem dX12_qEndsPart_39 : decode cX12_qEndsPart 39 = .ok (.iconst 1, 1) := by decide +kernel
theorem dX12_qEndsPart_40 : decode cX12_qEndsPart 40 = .ok (.isub, 1) := by decide +kernel
theorem dX12_qEndsPart_41 : decode cX12_qEndsPart 41 = .ok (.putfield 358, 3) := by decide +kernel
theorem dX12_qEndsPart_44 : decode cX12_qEndsPart 44 = .ok (.aload_n 0, 1) := by decide +kernel
theorem dX12_qEndsPart_45 : decode cX12_qEndsPart 45 = .ok (.invokevirtual 600, 3) := by decide +kernel
theorem dX12_qEndsPart_48 : decode cX12_qEndsPart 48 = .ok (.goto (-48), 3) := by decide +kernel
theorem dX12_qEndsPart_51 : decode cX12_qEndsPart 51 = .ok (.return_, 1) := by decide +kernel
theorem dX12_qPartTold_0 : decode cX12_qPartTold 0 = .ok (.iconst 1, 1) := by decide +kernel
theorem dX12_qPartTold_1 : decode cX12_qPartTold 1 = .ok (.istore_n 1, 1) := by decide +kernel
theorem dX12_qPartTold_2 : decode cX12_qPartTold 2 = .ok (.iload_n 1, 1) := by decide +kernel
theorem dX12_qPartTold_3 : decode cX12_qPartTold 3 = .ok (.ifCond .eq 183, 3) := by decide +kernel
theorem dX12_qPartTold_6 : decode cX12_qPartTold 6 = .ok (.aload_n 0, 1) := by decide +kernel
theorem dX12_qPartTold_7 : decode cX12_qPartTold 7 = .ok (.getfield 263, 3) := by decide +kernel
theorem dX12_qPartTold_10 : decode cX12_qPartTold 10 = .ok (.ifCond .ne 176, 3) := by decide +kernel
theorem dX12_qPartTold_13 : decode cX12_qPartTold 13 = .ok (.aload_n 0, 1) := by decide +kernel
theorem dX12_qPartTold_14 : decode cX12_qPartTold 14 = .ok (.invokevirtual 275, 3) := by decide +kernel
theorem dX12_qPartTold_17 : decode cX12_qPartTold 17 = .ok (.istore_n 2, 1) := by decide +kernel
theorem dX12_qPartTold_18 : decode cX12_qPartTold 18 = .ok (.aload_n 0, 1) := by decide +kernel
theorem dX12_qPartTold_19 : decode cX12_qPartTold 19 = .ok (.bipush 10, 2) := by decide +kernel
theorem dX12_qPartTold_21 : decode cX12_qPartTold 21 = .ok (.bipush 11, 2) := by decide +kernel
theorem dX12_qPartTold_23 : decode cX12_qPartTold 23 = .ok (.invokevirtual 609, 3) := by decide +kernel
theorem dX12_qPartTold_26 : decode cX12_qPartTold 26 = .ok (.istore_n 3, 1) := by decide +kernel
theorem dX12_qPartTold_27 : decode cX12_qPartTold 27 = .ok (.iload_n 2, 1) := by decide +kernel
theorem dX12_qPartTold_28 : decode cX12_qPartTold 28 = .ok (.bipush 40, 2) := by decide +kernel
theorem dX12_qPartTold_30 : decode cX12_qPartTold 30 = .ok (.if_icmp .ne 26, 3) := by decide +kernel
theorem dX12_qPartTold_33 : decode cX12_qPartTold 33 = .ok (.aload_n 0, 1) := by decide +kernel
theorem dX12_qPartTold_34 : decode cX12_qPartTold 34 = .ok (.bipush 20, 2) := by decide +kernel
theorem dX12_qPartTold_36 : decode cX12_qPartTold 36 = .ok (.aload_n 0, 1) := by decide +kernel
theorem dX12_qPartTold_37 : decode cX12_qPartTold 37 = .ok (.getfield 269, 3) := by decide +kernel
theorem dX12_qPartTold_40 : decode cX12_qPartTold 40 = .ok (.invokevirtual 612, 3) := by decide +kernel
theorem dX12_qPartTold_43 : decode cX12_qPartTold 43 = .ok (.aload_n 0, 1) := by decide +kernel
theorem dX12_qPartTold_44 : decode cX12_qPartTold 44 = .ok (.dup, 1) := by decide +kernel
theorem dX12_qPartTold_45 : decode cX12_qPartTold 45 = .ok (.getfield 269, 3) := by decide +kernel
theorem dX12_qPartTold_48 : decode cX12_qPartTold 48 = .ok (.iconst 1, 1) := by decide +kernel
theorem dX12_qPartTold_49 : decode cX12_qPartTold 49 = .ok (.iadd, 1) := by decide +kernel
theorem dX12_qPartTold_50 : decode cX12_qPartTold 50 = .ok (.putfield 269, 3) := by decide +kernel
theorem dX12_qPartTold_53 : decode cX12_qPartTold 53 = .ok (.goto 130, 3) := by decide +kernel
theorem dX12_qPartTold_56 : decode cX12_qPartTold 56 = .ok (.aload_n 0, 1) := by decide +kernel
theorem dX12_qPartTold_57 : decode cX12_qPartTold 57 = .ok (.aload_n 0, 1) := by decide +kernel
theorem dX12_qPartTold_58 : decode cX12_qPartTold 58 = .ok (.getfield 209, 3) := by decide +kernel
theorem dX12_qPartTold_61 : decode cX12_qPartTold 61 = .ok (.invokevirtual 286, 3) := by decide +kernel
theorem dX12_qPartTold_64 : decode cX12_qPartTold 64 = .ok (.ifCond .ne 14, 3) := by decide +kernel
theorem dX12_qPartTold_67 : decode cX12_qPartTold 67 = .ok (.aload_n 0, 1) := by decide +kernel
theorem dX12_qPartTold_68 : decode cX12_qPartTold 68 = .ok (.aload_n 0, 1) := by decide +kernel
theorem dX12_qPartTold_69 : decode cX12_qPartTold 69 = .ok (.getfield 212, 3) := by decide +kernel
theorem dX12_qPartTold_72 : decode cX12_qPartTold 72 = .ok (.invokevirtual 286, 3) := by decide +kernel
theorem dX12_qPartTold_75 : decode cX12_qPartTold 75 = .ok (.ifCond .eq 78, 3) := by decide +kernel
theorem dX12_qPartTold_78 : decode cX12_qPartTold 78 = .ok (.aload_n 0, 1) := by decide +kernel
theorem dX12_qPartTold_79 : decode cX12_qPartTold 79 = .ok (.aload_n 0, 1) := by decide +kernel
theorem dX12_qPartTold_80 : decode cX12_qPartTold 80 = .ok (.getfield 209, 3) := by decide +kernel
theorem dX12_qPartTold_83 : decode cX12_qPartTold 83 = .ok (.invokevirtual 290, 3) := by decide +kernel
theorem dX12_qPartTold_86 : decode cX12_qPartTold 86 = .ok (.istore 4, 2) := by decide +kernel
theorem dX12_qPartTold_88 : decode cX12_qPartTold 88 = .ok (.iload 4, 2) := by decide +kernel
theorem dX12_qPartTold_90 : decode cX12_qPartTold 90 = .ok (.ifCond .ne 11, 3) := by decide +kernel
theorem dX12_qPartTold_93 : decode cX12_qPartTold 93 = .ok (.aload_n 0, 1) := by decide +kernel
theorem dX12_qPartTold_94 : decode cX12_qPartTold 94 = .ok (.aload_n 0, 1) := by decide +kernel
theorem dX12_qPartTold_95 : decode cX12_qPartTold 95 = .ok (.getfield 212, 3) := by decide +kernel
theorem dX12_qPartTold_98 : decode cX12_qPartTold 98 = .ok (.invokevirtual 337, 3) := by decide +kernel
theorem dX12_qPartTold_101 : decode cX12_qPartTold 101 = .ok (.aload_n 0, 1) := by decide +kernel
theorem dX12_qPartTold_102 : decode cX12_qPartTold 102 = .ok (.invokevirtual 275, 3) := by decide +kernel
theorem dX12_qPartTold_105 : decode cX12_qPartTold 105 = .ok (.bipush 40, 2) := by decide +kernel
theorem dX12_qPartTold_107 : decode cX12_qPartTold 107 = .ok (.if_icmp .ne 10, 3) := by decide +kernel
theorem dX12_qPartTold_110 : decode cX12_qPartTold 110 = .ok (.aload_n 0, 1) := by decide +kernel
theorem dX12_qPartTold_111 : decode cX12_qPartTold 111 = .ok (.getfield 269, 3) := by decide +kernel
theorem dX12_qPartTold_114 : decode cX12_qPartTold 114 = .ok (.goto 4, 3) := by decide +kernel
theorem dX12_qPartTold_117 : decode cX12_qPartTold 117 = .ok (.iconst (-1), 1) := by decide +kernel
theorem dX12_qPartTold_118 : decode cX12_qPartTold 118 = .ok (.istore 5, 2) := by decide +kernel
theorem dX12_qPartTold_120 : decode cX12_qPartTold 120 = .ok (.iload 5, 2) := by decide +kernel
theorem dX12_qPartTold_122 : decode cX12_qPartTold 122 = .ok (.iconst (-1), 1) := by decide +kernel
theorem dX12_qPartTold_123 : decode cX12_qPartTold 123 = .ok (.if_icmp .eq 21, 3) := by decide +kernel
theorem dX12_qPartTold_126 : decode cX12_qPartTold 126 = .ok (.aload_n 0, 1) := by decide +kernel
theorem dX12_qPartTold_127 : decode cX12_qPartTold 127 = .ok (.iload 4, 2) := by decide +kernel
theorem dX12_qPartTold_129 : decode cX12_qPartTold 129 = .ok (.ifCond .eq 8, 3) := by decide +kernel
theorem dX12_qPartTold_132 : decode cX12_qPartTold 132 = .ok (.bipush 21, 2) := by decide +kernel
theorem dX12_qPartTold_134 : decode cX12_qPartTold 134 = .ok (.goto 5, 3) := by decide +kernel
theorem dX12_qPartTold_137 : decode cX12_qPartTold 137 = .ok (.bipush 22, 2) := by decide +kernel
theorem dX12_qPartTold_139 : decode cX12_qPartTold 139 = .ok (.iload 5, 2) := by decide +kernel
theorem dX12_qPartTold_141 : decode cX12_qPartTold 141 = .ok (.invokevirtual 612, 3) := by decide +kernel
theorem dX12_qPartTold_144 : decode cX12_qPartTold 144 = .ok (.aload_n 0, 1) := by decide +kernel
theorem dX12_qPartTold_145 : decode cX12_qPartTold 145 = .ok (.bipush 40, 2) := by decide +kernel
theorem dX12_qPartTold_147 : decode cX12_qPartTold 147 = .ok (.invokevirtual 395, 3) := by decide +kernel
theorem dX12_qPartTold_150 : decode cX12_qPartTold 150 = .ok (.goto 33, 3) := by decide +kernel
theorem dX12_qPartTold_153 : decode cX12_qPartTold 153 = .ok (.iload_n 3, 1) := by decide +kernel
theorem dX12_qPartTold_154 : decode cX12_qPartTold 154 = .ok (.iconst (-1), 1) := by decide +kernel
theorem dX12_qPartTold_155 : decode cX12_qPartTold 155 = .ok (.if_icmp .eq 26, 3) := by decide +kernel
theorem dX12_qPartTold_158 : decode cX12_qPartTold 158 = .ok (.aload_n 0, 1) := by decide +kernel
theorem dX12_qPartTold_159 : decode cX12_qPartTold 159 = .ok (.bipush 60, 2) := by decide +kernel
theorem dX12_qPartTold_161 : decode cX12_qPartTold 161 = .ok (.iload_n 3, 1) := by decide +kernel
theorem dX12_qPartTold_162 : decode cX12_qPartTold 162 = .ok (.iadd, 1) := by decide +kernel
theorem dX12_qPartTold_163 : decode cX12_qPartTold 163 = .ok (.bipush 10, 2) := by decide +kernel
theorem dX12_qPartTold_165 : decode cX12_qPartTold 165 = .ok (.isub, 1) := by decide +kernel
theorem dX12_qPartTold_166 : decode cX12_qPartTold 166 = .ok (.aload_n 0, 1) := by decide +kernel
theorem dX12_qPartTold_167 : decode cX12_qPartTold 167 = .ok (.getfield 269, 3) := by decide +kernel
theorem dX12_qPartTold_170 : decode cX12_qPartTold 170 = .ok (.invokevirtual 612, 3) := by decide +kernel
theorem dX12_qPartTold_173 : decode cX12_qPartTold 173 = .ok (.aload_n 0, 1) := by decide +kernel
theorem dX12_qPartTold_174 : decode cX12_qPartTold 174 = .ok (.iload_n 3, 1) := by decide +kernel
theorem dX12_qPartTold_175 : decode cX12_qPartTold 175 = .ok (.invokevirtual 615, 3) := by decide +kernel
theorem dX12_qPartTold_178 : decode cX12_qPartTold 178 = .ok (.goto 5, 3) := by decide +kernel
theorem dX12_qPartTold_181 : decode cX12_qPartTold 181 = .ok (.iconst 0, 1) := by decide +kernel
theorem dX12_qPartTold_182 : decode cX12_qPartTold 182 = .ok (.istore_n 1, 1) := by decide +kernel
theorem dX12_qPartTold_183 : decode cX12_qPartTold 183 = .ok (.goto (-181), 3) := by decide +kernel
theorem dX12_qPartTold_186 : decode cX12_qPartTold 186 = .ok (.aload_n 0, 1) := by decide +kernel
theorem dX12_qPartTold_187 : decode cX12_qPartTold 187 = .ok (.getfield 263, 3) := by decide +kernel
theorem dX12_qPartTold_190 : decode cX12_qPartTold 190 = .ok (.ifCond .eq 4, 3) := by decide +kernel
theorem dX12_qPartTold_193 : decode cX12_qPartTold 193 = .ok (.return_, 1) := by decide +kernel
theorem dX12_qPartTold_194 : decode cX12_qPartTold 194 = .ok (.aload_n 0, 1) := by decide +kernel
theorem dX12_qPartTold_195 : decode cX12_qPartTold 195 = .ok (.iconst 0, 1) := by decide +kernel
theorem dX12_qPartTold_196 : decode cX12_qPartTold 196 = .ok (.bipush 10, 2) := by decide +kernel
theorem dX12_qPartTold_198 : decode cX12_qPartTold 198 = .ok (.invokevirtual 609, 3) := by decide +kernel
theorem dX12_qPartTold_201 : decode cX12_qPartTold 201 = .ok (.istore_n 2, 1) := by decide +kernel
theorem dX12_qPartTold_202 : decode cX12_qPartTold 202 = .ok (.iload_n 2, 1) := by decide +kernel
theorem dX12_qPartTold_203 : decode cX12_qPartTold 203 = .ok (.iconst (-1), 1) := by decide +kernel
theorem dX12_qPartTold_204 : decode cX12_qPartTold 204 = .ok (.if_icmp .eq 8, 3) := by decide +kernel
theorem dX12_qPartTold_207 : decode cX12_qPartTold 207 = .ok (.aload_n 0, 1) := by decide +kernel
theorem dX12_qPartTold_208 : decode cX12_qPartTold 208 = .ok (.iload_n 2, 1) := by decide +kernel
theorem dX12_qPartTold_209 : decode cX12_qPartTold 209 = .ok (.invokevirtual 615, 3) := by decide +kernel
theorem dX12_qPartTold_212 : decode cX12_qPartTold 212 = .ok (.aload_n 0, 1) := by decide +kernel
theorem dX12_qPartTold_213 : decode cX12_qPartTold 213 = .ok (.iload_n 2, 1) := by decide +kernel
theorem dX12_qPartTold_214 : decode cX12_qPartTold 214 = .ok (.iconst (-1), 1) := by decide +kernel
theorem dX12_qPartTold_215 : decode cX12_qPartTold 215 = .ok (.if_icmp .eq 10, 3) := by decide +kernel
theorem dX12_qPartTold_218 : decode cX12_qPartTold 218 = .ok (.bipush 40, 2) := by decide +kernel
theorem dX12_qPartTold_220 : decode cX12_qPartTold 220 = .ok (.iload_n 2, 1) := by decide +kernel
theorem dX12_qPartTold_221 : decode cX12_qPartTold 221 = .ok (.iadd, 1) := by decide +kernel
theorem dX12_qPartTold_222 : decode cX12_qPartTold 222 = .ok (.goto 15, 3) := by decide +kernel
theorem dX12_qPartTold_225 : decode cX12_qPartTold 225 = .ok (.sipush 1000, 3) := by decide +kernel
theorem dX12_qPartTold_228 : decode cX12_qPartTold 228 = .ok (.aload_n 0, 1) := by decide +kernel
theorem dX12_qPartTold_229 : decode cX12_qPartTold 229 = .ok (.iconst 0, 1) := by decide +kernel
theorem dX12_qPartTold_230 : decode cX12_qPartTold 230 = .ok (.sipush 9999, 3) := by decide +kernel
theorem dX12_qPartTold_233 : decode cX12_qPartTold 233 = .ok (.invokevirtual 341, 3) := by decide +kernel
theorem dX12_qPartTold_236 : decode cX12_qPartTold 236 = .ok (.iadd, 1) := by decide +kernel
theorem dX12_qPartTold_237 : decode cX12_qPartTold 237 = .ok (.invokevirtual 594, 3) := by decide +kernel
theorem dX12_qPartTold_240 : decode cX12_qPartTold 240 = .ok (.aload_n 0, 1) := by decide +kernel
theorem dX12_qPartTold_241 : decode cX12_qPartTold 241 = .ok (.invokevirtual 618, 3) := by decide +kernel
theorem dX12_qPartTold_244 : decode cX12_qPartTold 244 = .ok (.return_, 1) := by decide +kernel
theorem dX12_qGoesOn_0 : decode cX12_qGoesOn 0 = .ok (.aload_n 0, 1) := by decide +kernel
theorem dX12_qGoesOn_1 : decode cX12_qGoesOn 1 = .ok (.getfield 263, 3) := by decide +kernel
theorem dX12_qGoesOn_4 : decode cX12_qGoesOn 4 = .ok (.ifCond .ne 118, 3) := by decide +kernel
theorem dX12_qGoesOn_7 : decode cX12_qGoesOn 7 = .ok (.aload_n 0, 1) := by decide +kernel
theorem dX12_qGoesOn_8 : decode cX12_qGoesOn 8 = .ok (.invokevirtual 275, 3) := by decide +kernel
theorem dX12_qGoesOn_11 : decode cX12_qGoesOn 11 = .ok (.bipush 41, 2) := by decide +kernel
theorem dX12_qGoesOn_13 : decode cX12_qGoesOn 13 = .ok (.if_icmp .ne 109, 3) := by decide +kernel
theorem dX12_qGoesOn_16 : decode cX12_qGoesOn 16 = .ok (.aload_n 0, 1) := by decide +kernel
theorem dX12_qGoesOn_17 : decode cX12_qGoesOn 17 = .ok (.invokevirtual 621, 3) := by decide +kernel
theorem dX12_qGoesOn_20 : decode cX12_qGoesOn 20 = .ok (.bipush 20, 2) := by decide +kernel
theorem dX12_qGoesOn_22 : decode cX12_qGoesOn 22 = .ok (.if_icmp .eq 21, 3) := by decide +kernel
theorem dX12_qGoesOn_25 : decode cX12_qGoesOn 25 = .ok (.aload_n 0, 1) := by decide +kernel
theorem dX12_qGoesOn_26 : decode cX12_qGoesOn 26 = .ok (.invokevirtual 621, 3) := by decide +kernel
theorem dX12_qGoesOn_29 : decode cX12_qGoesOn 29 = .ok (.bipush 23, 2) := by decide +kernel
theorem dX12_qGoesOn_31 : decode cX12_qGoesOn 31 = .ok (.if_icmp .eq 12, 3) := by decide +kernel
theorem dX12_qGoesOn_34 : decode cX12_qGoesOn 34 = .ok (.aload_n 0, 1) := by decide +kernel
theorem dX12_qGoesOn_35 : decode cX12_qGoesOn 35 = .ok (.invokevirtual 621, 3) := by decide +kernel
theorem dX12_qGoesOn_38 : decode cX12_qGoesOn 38 = .ok (.bipush 24, 2) := by decide +kernel
theorem dX12_qGoesOn_40 : decode cX12_qGoesOn 40 = .ok (.if_icmp .ne 82, 3) := by decide +kernel
theorem dX12_qGoesOn_43 : decode cX12_qGoesOn 43 = .ok (.aload_n 0, 1) := by decide +kernel
theorem dX12_qGoesOn_44 : decode cX12_qGoesOn 44 = .ok (.dup, 1) := by decide +kernel
theorem dX12_qGoesOn_45 : decode cX12_qGoesOn 45 = .ok (.getfield 269, 3) := by decide +kernel
theorem dX12_qGoesOn_48 : decode cX12_qGoesOn 48 = .ok (.iconst 1, 1) := by decide +kernel
theorem dX12_qGoesOn_49 : decode cX12_qGoesOn 49 = .ok (.iadd, 1) := by decide +kernel
theorem dX12_qGoesOn_50 : decode cX12_qGoesOn 50 = .ok (.putfield 269, 3) := by decide +kernel
theorem dX12_qGoesOn_53 : decode cX12_qGoesOn 53 = .ok (.aload_n 0, 1) := by decide +kernel
theorem dX12_qGoesOn_54 : decode cX12_qGoesOn 54 = .ok (.invokevirtual 624, 3) := by decide +kernel
theorem dX12_qGoesOn_57 : decode cX12_qGoesOn 57 = .ok (.aload_n 0, 1) := by decide +kernel
theorem dX12_qGoesOn_58 : decode cX12_qGoesOn 58 = .ok (.dup, 1) := by decide +kernel
theorem dX12_qGoesOn_59 : decode cX12_qGoesOn 59 = .ok (.getfield 355, 3) := by decide +kernel
theorem dX12_qGoesOn_62 : decode cX12_qGoesOn 62 = .ok (.iconst 1, 1) := by decide +kernel
theorem dX12_qGoesOn_63 : decode cX12_qGoesOn 63 = .ok (.isub, 1) := by decide +kernel
theorem dX12_qGoesOn_64 : decode cX12_qGoesOn 64 = .ok (.putfield 355, 3) := by decide +kernel
theorem dX12_qGoesOn_67 : decode cX12_qGoesOn 67 = .ok (.aload_n 0, 1) := by decide +kernel
theorem dX12_qGoesOn_68 : decode cX12_qGoesOn 68 = .ok (.dup, 1) := by decide +kernel
theorem dX12_qGoesOn_69 : decode cX12_qGoesOn 69 = .ok (.getfield 358, 3) := by decide +kernel
theorem dX12_qGoesOn_72 : decode cX12_qGoesOn 72 = .ok (.iconst 1, 1) := by decide +kernel
theorem dX12_qGoesOn_73 : decode cX12_qGoesOn 73 = .ok (.isub, 1) := by decide +kernel
theorem dX12_qGoesOn_74 : decode cX12_qGoesOn 74 = .ok (.putfield 358, 3) := by decide +kernel
theorem dX12_qGoesOn_77 : decode cX12_qGoesOn 77 = .ok (.aload_n 0, 1) := by decide +kernel
theorem dX12_qGoesOn_78 : decode cX12_qGoesOn 78 = .ok (.getfield 251, 3) := by decide +kernel
theorem dX12_qGoesOn_81 : decode cX12_qGoesOn 81 = .ok (.aload_n 0, 1) := by decide +kernel
theorem dX12_qGoesOn_82 : decode cX12_qGoesOn 82 = .ok (.getfield 355, 3) := by decide +kernel
theorem dX12_qGoesOn_85 : decode cX12_qGoesOn 85 = .ok (.iaload, 1) := by decide +kernel
theorem dX12_qGoesOn_86 : decode cX12_qGoesOn 86 = .ok (.bipush 20, 2) := by decide +kernel
theorem dX12_qGoesOn_88 : decode cX12_qGoesOn 88 = .ok (.if_icmp .eq 27, 3) := by decide +kernel
theorem dX12_qGoesOn_91 : decode cX12_qGoesOn 91 = .ok (.aload_n 0, 1) := by decide +kernel
theorem dX12_qGoesOn_92 : decode cX12_qGoesOn 92 = .ok (.aload_n 0, 1) := by decide +kernel
theorem dX12_qGoesOn_93 : decode cX12_qGoesOn 93 = .ok (.getfield 251, 3) := by decide +kernel
theorem dX12_qGoesOn_96 : decode cX12_qGoesOn 96 = .ok (.aload_n 0, 1) := by decide +kernel
theorem dX12_qGoesOn_97 : decode cX12_qGoesOn 97 = .ok (.getfield 355, 3) := by decide +kernel
theorem dX12_qGoesOn_100 : decode cX12_qGoesOn 100 = .ok (.iaload, 1) := by decide +kernel
theorem dX12_qGoesOn_101 : decode cX12_qGoesOn 101 = .ok (.bipush 23, 2) := by decide +kernel
theorem dX12_qGoesOn_103 : decode cX12_qGoesOn 103 = .ok (.if_icmp .ne 7, 3) := by decide +kernel
theorem dX12_qGoesOn_106 : decode cX12_qGoesOn 106 = .ok (.iconst 5, 1) := by decide +kernel
theorem dX12_qGoesOn_107 : decode cX12_qGoesOn 107 = .ok (.goto 5, 3) := by decide +kernel
theorem dX12_qGoesOn_110 : decode cX12_qGoesOn 110 = .ok (.bipush 6, 2) := by decide +kernel
theorem dX12_qGoesOn_112 : decode cX12_qGoesOn 112 = .ok (.invokevirtual 594, 3) := by decide +kernel
theorem dX12_qGoesOn_115 : decode cX12_qGoesOn 115 = .ok (.aload_n 0, 1) := by decide +kernel
theorem dX12_qGoesOn_116 : decode cX12_qGoesOn 116 = .ok (.invokevirtual 618, 3) := by decide +kernel
theorem dX12_qGoesOn_119 : decode cX12_qGoesOn 119 = .ok (.goto (-119), 3) := by decide +kernel
theorem dX12_qGoesOn_122 : decode cX12_qGoesOn 122 = .ok (.aload_n 0, 1) := by decide +kernel
theorem dX12_qGoesOn_123 : decode cX12_qGoesOn 123 = .ok (.bipush 42, 2) := by decide +kernel
theorem dX12_qGoesOn_125 : decode cX12_qGoesOn 125 = .ok (.invokevirtual 297, 3) := by decide +kernel
theorem dX12_qGoesOn_128 : decode cX12_qGoesOn 128 = .ok (.ifCond .ne 12, 3) := by decide +kernel
theorem dX12_qGoesOn_131 : decode cX12_qGoesOn 131 = .ok (.aload_n 0, 1) := by decide +kernel
theorem dX12_qGoesOn_132 : decode cX12_qGoesOn 132 = .ok (.bipush 47, 2) := by decide +kernel
theorem dX12_qGoesOn_134 : decode cX12_qGoesOn 134 = .ok (.invokevirtual 297, 3) := by decide +kernel
theorem dX12_qGoesOn_137 : decode cX12_qGoesOn 137 = .ok (.ifCond .eq 70, 3) := by decide +kernel
theorem dX12_qGoesOn_140 : decode cX12_qGoesOn 140 = .ok (.aload_n 0, 1) := by decide +kernel
theorem dX12_qGoesOn_141 : decode cX12_qGoesOn 141 = .ok (.getfield 7, 3) := by decide +kernel
theorem dX12_qGoesOn_144 : decode cX12_qGoesOn 144 = .ok (.aload_n 0, 1) := by decide +kernel
theorem dX12_qGoesOn_145 : decode cX12_qGoesOn 145 = .ok (.getfield 269, 3) := by decide +kernel
theorem dX12_qGoesOn_148 : decode cX12_qGoesOn 148 = .ok (.iconst 1, 1) := by decide +kernel
theorem dX12_qGoesOn_149 : decode cX12_qGoesOn 149 = .ok (.isub, 1) := by decide +kernel
theorem dX12_qGoesOn_150 : decode cX12_qGoesOn 150 = .ok (.iaload, 1) := by decide +kernel
theorem dX12_qGoesOn_151 : decode cX12_qGoesOn 151 = .ok (.bipush 42, 2) := by decide +kernel
theorem dX12_qGoesOn_153 : decode cX12_qGoesOn 153 = .ok (.if_icmp .ne 7, 3) := by decide +kernel
theorem dX12_qGoesOn_156 : decode cX12_qGoesOn 156 = .ok (.iconst 3, 1) := by decide +kernel
theorem dX12_qGoesOn_157 : decode cX12_qGoesOn 157 = .ok (.goto 4, 3) := by decide +kernel
theorem dX12_qGoesOn_160 : decode cX12_qGoesOn 160 = .ok (.iconst 4, 1) := by decide +kernel
theorem dX12_qGoesOn_161 : decode cX12_qGoesOn 161 = .ok (.istore_n 1, 1) := by decide +kernel
theorem dX12_qGoesOn_162 : decode cX12_qGoesOn 162 = .ok (.aload_n 0, 1) := by decide +kernel
theorem dX12_qGoesOn_163 : decode cX12_qGoesOn 163 = .ok (.iconst 3, 1) := by decide +kernel
theorem dX12_qGoesOn_164 : decode cX12_qGoesOn 164 = .ok (.invokevirtual 627, 3) := by decide +kernel
theorem dX12_qGoesOn_167 : decode cX12_qGoesOn 167 = .ok (.ifCond .ne 11, 3) := by decide +kernel
theorem dX12_qGoesOn_170 : decode cX12_qGoesOn 170 = .ok (.aload_n 0, 1) := by decide +kernel
theorem dX12_qGoesOn_171 : decode cX12_qGoesOn 171 = .ok (.iconst 4, 1) := by decide +kernel
theorem dX12_qGoesOn_172 : decode cX12_qGoesOn 172 = .ok (.invokevirtual 627, 3) := by decide +kernel
theorem dX12_qGoesOn_175 : decode cX12_qGoesOn 175 = .ok (.ifCond .eq 10, 3) := by decide +kernel
theorem dX12_qGoesOn_178 : decode cX12_qGoesOn 178 = .ok (.aload_n 0, 1) := by decide +kernel
theorem dX12_qGoesOn_179 : decode cX12_qGoesOn 179 = .ok (.invokevirtual 600, 3) := by decide +kernel
theorem dX12_qGoesOn_182 : decode cX12_qGoesOn 182 = .ok (.goto (-20), 3) := by decide +kernel
theorem dX12_qGoesOn_185 : decode cX12_qGoesOn 185 = .ok (.aload_n 0, 1) := by decide +kernel
theorem dX12_qGoesOn_186 : decode cX12_qGoesOn 186 = .ok (.getfield 251, 3) := by decide +kernel
theorem dX12_qGoesOn_189 : decode cX12_qGoesOn 189 = .ok (.aload_n 0, 1) := by decide +kernel
theorem dX12_qGoesOn_190 : decode cX12_qGoesOn 190 = .ok (.getfield 355, 3) := by decide +kernel
theorem dX12_qGoesOn_193 : decode cX12_qGoesOn 193 = .ok (.iload_n 1, 1) := by decide +kernel
theorem dX12_qGoesOn_194 : decode cX12_qGoesOn 194 = .ok (.iastore, 1) := by decide +kernel
theorem dX12_qGoesOn_195 : decode cX12_qGoesOn 195 = .ok (.aload_n 0, 1) := by decide +kernel
theorem dX12_qGoesOn_196 : decode cX12_qGoesOn 196 = .ok (.dup, 1) := by decide +kernel
theorem dX12_qGoesOn_197 : decode cX12_qGoesOn 197 = .ok (.getfield 355, 3) := by decide +kernel
theorem dX12_qGoesOn_200 : decode cX12_qGoesOn 200 = .ok (.iconst 1, 1) := by decide +kernel
theorem dX12_qGoesOn_201 : decode cX12_qGoesOn 201 = .ok (.iadd, 1) := by decide +kernel
theorem dX12_qGoesOn_202 : decode cX12_qGoesOn 202 = .ok (.putfield 355, 3) := by decide +kernel
theorem dX12_qGoesOn_205 : decode cX12_qGoesOn 205 = .ok (.iconst 1, 1) := by decide +kernel
theorem dX12_qGoesOn_206 : decode cX12_qGoesOn 206 = .ok (.ireturn, 1) := by decide +kernel
theorem dX12_qGoesOn_207 : decode cX12_qGoesOn 207 = .ok (.aload_n 0, 1) := by decide +kernel
theorem dX12_qGoesOn_208 : decode cX12_qGoesOn 208 = .ok (.bipush 43, 2) := by decide +kernel
theorem dX12_qGoesOn_210 : decode cX12_qGoesOn 210 = .ok (.invokevirtual 297, 3) := by decide +kernel
theorem dX12_qGoesOn_213 : decode cX12_qGoesOn 213 = .ok (.ifCond .ne 12, 3) := by decide +kernel
theorem dX12_qGoesOn_216 : decode cX12_qGoesOn 216 = .ok (.aload_n 0, 1) := by decide +kernel
theorem dX12_qGoesOn_217 : decode cX12_qGoesOn 217 = .ok (.bipush 45, 2) := by decide +kernel
theorem dX12_qGoesOn_219 : decode cX12_qGoesOn 219 = .ok (.invokevirtual 297, 3) := by decide +kernel
theorem dX12_qGoesOn_222 : decode cX12_qGoesOn 222 = .ok (.ifCond .eq 86, 3) := by decide +kernel
theorem dX12_qGoesOn_225 : decode cX12_qGoesOn 225 = .ok (.aload_n 0, 1) := by decide +kernel
theorem dX12_qGoesOn_226 : decode cX12_qGoesOn 226 = .ok (.getfield 7, 3) := by decide +kernel
theorem dX12_qGoesOn_229 : decode cX12_qGoesOn 229 = .ok (.aload_n 0, 1) := by decide +kernel
theorem dX12_qGoesOn_230 : decode cX12_qGoesOn 230 = .ok (.getfield 269, 3) := by decide +kernel
theorem dX12_qGoesOn_233 : decode cX12_qGoesOn 233 = .ok (.iconst 1, 1) := by decide +kernel
theorem dX12_qGoesOn_234 : decode cX12_qGoesOn 234 = .ok (.isub, 1) := by decide +kernel
theorem dX12_qGoesOn_235 : decode cX12_qGoesOn 235 = .ok (.iaload, 1) := by decide +kernel
theorem dX12_qGoesOn_236 : decode cX12_qGoesOn 236 = .ok (.bipush 43, 2) := by decide +kernel
theorem dX12_qGoesOn_238 : decode cX12_qGoesOn 238 = .ok (.if_icmp .ne 7, 3) := by decide +kernel
theorem dX12_qGoesOn_241 : decode cX12_qGoesOn 241 = .ok (.iconst 1, 1) := by decide +kernel
theorem dX12_qGoesOn_242 : decode cX12_qGoesOn 242 = .ok (.goto 4, 3) := by decide +kernel
theorem dX12_qGoesOn_245 : decode cX12_qGoesOn 245 = .ok (.iconst 2, 1) := by decide +kernel
theorem dX12_qGoesOn_246 : decode cX12_qGoesOn 246 = .ok (.istore_n 1, 1) := by decide +kernel
theorem dX12_qGoesOn_247 : decode cX12_qGoesOn 247 = .ok (.aload_n 0, 1) := by decide +kernel
theorem dX12_qGoesOn_248 : decode cX12_qGoesOn 248 = .ok (.iconst 3, 1) := by decide +kernel
theorem dX12_qGoesOn_249 : decode cX12_qGoesOn 249 = .ok (.invokevirtual 627, 3) := by decide +kernel
theorem dX12_qGoesOn_252 : decode cX12_qGoesOn 252 = .ok (.ifCond .ne 27, 3) := by decide +kernel
theorem dX12_qGoesOn_255 : decode cX12_qGoesOn 255 = .ok (.aload_n 0, 1) := by decide +kernel
theorem dX12_qGoesOn_256 : decode cX12_qGoesOn 256 = .ok (.iconst 4, 1) := by decide +kernel
theorem dX12_qGoesOn_257 : decode cX12_qGoesOn 257 = .ok (.invokevirtual 627, 3) := by decide +kernel
theorem dX12_qGoesOn_260 : decode cX12_qGoesOn 260 = .ok (.ifCond .ne 19, 3) := by decide +kernel
theorem dX12_qGoesOn_263 : decode cX12_qGoesOn 263 = .ok (.aload_n 0, 1) := by decide +kernel
theorem dX12_qGoesOn_264 : decode cX12_qGoesOn 264 = .ok (.iconst 1, 1) := by decide +kernel
theorem dX12_qGoesOn_265 : decode cX12_qGoesOn 265 = .ok (.invokevirtual 627, 3) := by decide +kernel
theorem dX12_qGoesOn_268 : decode cX12_qGoesOn 268 = .ok (.ifCond .ne 11, 3) := by decide +kernel
theorem dX12_qGoesOn_271 : decode cX12_qGoesOn 271 = .ok (.aload_n 0, 1) := by decide +kernel
theorem dX12_qGoesOn_272 : decode cX12_qGoesOn 272 = .ok (.iconst 2, 1) := by decide +kernel
theorem dX12_qGoesOn_273 : decode cX12_qGoesOn 273 = .ok (.invokevirtual 627, 3) := by decide +kernel
theorem dX12_qGoesOn_276 : decode cX12_qGoesOn 276 = .ok (.ifCond .eq 10, 3) := by decide +kernel
theorem dX12_qGoesOn_279 : decode cX12_qGoesOn 279 = .ok (.aload_n 0, 1) := by decide +kernel
theorem dX12_qGoesOn_280 : decode cX12_qGoesOn 280 = .ok (.invokevirtual 600, 3) := by decide +kernel
theorem dX12_qGoesOn_283 : decode cX12_qGoesOn 283 = .ok (.goto (-36), 3) := by decide +kernel
theorem dX12_qGoesOn_286 : decode cX12_qGoesOn 286 = .ok (.aload_n 0, 1) := by decide +kernel
theorem dX12_qGoesOn_287 : decode cX12_qGoesOn 287 = .ok (.getfield 251, 3) := by decide +kernel
theorem dX12_qGoesOn_290 : decode cX12_qGoesOn 290 = .ok (.aload_n 0, 1) := by decide +kernel
theorem dX12_qGoesOn_291 : decode cX12_qGoesOn 291 = .ok (.getfield 355, 3) := by decide +kernel
theorem dX12_qGoesOn_294 : decode cX12_qGoesOn 294 = .ok (.iload_n 1, 1) := by decide +kernel
theorem dX12_qGoesOn_295 : decode cX12_qGoesOn 295 = .ok (.iastore, 1) := by decide +kernel
theorem dX12_qGoesOn_296 : decode cX12_qGoesOn 296 = .ok (.aload_n 0, 1) := by decide +kernel
theorem dX12_qGoesOn_297 : decode cX12_qGoesOn 297 = .ok (.dup, 1) := by decide +kernel
theorem dX12_qGoesOn_298 : decode cX12_qGoesOn 298 = .ok (.getfield 355, 3) := by decide +kernel
theorem dX12_qGoesOn_301 : decode cX12_qGoesOn 301 = .ok (.iconst 1, 1) := by decide +kernel
theorem dX12_qGoesOn_302 : decode cX12_qGoesOn 302 = .ok (.iadd, 1) := by decide +kernel
theorem dX12_qGoesOn_303 : decode cX12_qGoesOn 303 = .ok (.putfield 355, 3) := by decide +kernel
theorem dX12_qGoesOn_306 : decode cX12_qGoesOn 306 = .ok (.iconst 1, 1) := by decide +kernel
theorem dX12_qGoesOn_307 : decode cX12_qGoesOn 307 = .ok (.ireturn, 1) := by decide +kernel
theorem dX12_qGoesOn_308 : decode cX12_qGoesOn 308 = .ok (.aload_n 0, 1) := by decide +kernel
theorem dX12_qGoesOn_309 : decode cX12_qGoesOn 309 = .ok (.invokevirtual 621, 3) := by decide +kernel
theorem dX12_qGoesOn_312 : decode cX12_qGoesOn 312 = .ok (.bipush 21, 2) := by decide +kernel
theorem dX12_qGoesOn_314 : decode cX12_qGoesOn 314 = .ok (.if_icmp .eq 12, 3) := by decide +kernel
theorem dX12_qGoesOn_317 : decode cX12_qGoesOn 317 = .ok (.aload_n 0, 1) := by decide +kernel
theorem dX12_qGoesOn_318 : decode cX12_qGoesOn 318 = .ok (.invokevirtual 621, 3) := by decide +kernel
theorem dX12_qGoesOn_321 : decode cX12_qGoesOn 321 = .ok (.bipush 22, 2) := by decide +kernel
theorem dX12_qGoesOn_323 : decode cX12_qGoesOn 323 = .ok (.if_icmp .ne 39, 3) := by decide +kernel
theorem dX12_qGoesOn_326 : decode cX12_qGoesOn 326 = .ok (.aload_n 0, 1) := by decide +kernel
theorem dX12_qGoesOn_327 : decode cX12_qGoesOn 327 = .ok (.bipush 44, 2) := by decide +kernel
theorem dX12_qGoesOn_329 : decode cX12_qGoesOn 329 = .ok (.invokevirtual 395, 3) := by decide +kernel
theorem dX12_qGoesOn_332 : decode cX12_qGoesOn 332 = .ok (.aload_n 0, 1) := by decide +kernel
theorem dX12_qGoesOn_333 : decode cX12_qGoesOn 333 = .ok (.getfield 263, 3) := by decide +kernel
theorem dX12_qGoesOn_336 : decode cX12_qGoesOn 336 = .ok (.ifCond .eq 5, 3) := by decide +kernel
theorem dX12_qGoesOn_339 : decode cX12_qGoesOn 339 = .ok (.iconst 0, 1) := by decide +kernel
theorem dX12_qGoesOn_340 : decode cX12_qGoesOn 340 = .ok (.ireturn, 1) := by decide +kernel
theorem dX12_qGoesOn_341 : decode cX12_qGoesOn 341 = .ok (.aload_n 0, 1) := by decide +kernel
theorem dX12_qGoesOn_342 : decode cX12_qGoesOn 342 = .ok (.invokevirtual 624, 3) := by decide +kernel
theorem dX12_qGoesOn_345 : decode cX12_qGoesOn 345 = .ok (.aload_n 0, 1) := by decide +kernel
theorem dX12_qGoesOn_346 : decode cX12_qGoesOn 346 = .ok (.getfield 251, 3) := by decide +kernel
theorem dX12_qGoesOn_349 : decode cX12_qGoesOn 349 = .ok (.aload_n 0, 1) := by decide +kernel
theorem dX12_qGoesOn_350 : decode cX12_qGoesOn 350 = .ok (.getfield 355, 3) := by decide +kernel
theorem dX12_qGoesOn_353 : decode cX12_qGoesOn 353 = .ok (.iconst 1, 1) := by decide +kernel
theorem dX12_qGoesOn_354 : decode cX12_qGoesOn 354 = .ok (.isub, 1) := by decide +kernel
theorem dX12_qGoesOn_355 : decode cX12_qGoesOn 355 = .ok (.dup2, 1) := by decide +kernel
theorem dX12_qGoesOn_356 : decode cX12_qGoesOn 356 = .ok (.iaload, 1) := by decide +kernel
theorem dX12_qGoesOn_357 : decode cX12_qGoesOn 357 = .ok (.iconst 2, 1) := by decide +kernel
theorem dX12_qGoesOn_358 : decode cX12_qGoesOn 358 = .ok (.iadd, 1) := by decide +kernel
theorem dX12_qGoesOn_359 : decode cX12_qGoesOn 359 = .ok (.iastore, 1) := by decide +kernel
theorem dX12_qGoesOn_360 : decode cX12_qGoesOn 360 = .ok (.iconst 1, 1) := by decide +kernel
theorem dX12_qGoesOn_361 : decode cX12_qGoesOn 361 = .ok (.ireturn, 1) := by decide +kernel
theorem dX12_qGoesOn_362 : decode cX12_qGoesOn 362 = .ok (.aload_n 0, 1) := by decide +kernel
theorem dX12_qGoesOn_363 : decode cX12_qGoesOn 363 = .ok (.invokevirtual 621, 3) := by decide +kernel
theorem dX12_qGoesOn_366 : decode cX12_qGoesOn 366 = .ok (.iconst (-1), 1) := by decide +kernel
theorem dX12_qGoesOn_367 : decode cX12_qGoesOn 367 = .ok (.if_icmp .eq 19, 3) := by decide +kernel
theorem dX12_qGoesOn_370 : decode cX12_qGoesOn 370 = .ok (.aload_n 0, 1) := by decide +kernel
theorem dX12_qGoesOn_371 : decode cX12_qGoesOn 371 = .ok (.getfield 263, 3) := by decide +kernel
theorem dX12_qGoesOn_374 : decode cX12_qGoesOn 374 = .ok (.ifCond .ne 12, 3) := by decide +kernel
theorem dX12_qGoesOn_377 : decode cX12_qGoesOn 377 = .ok (.aload_n 0, 1) := by decide +kernel
theorem dX12_qGoesOn_378 : decode cX12_qGoesOn 378 = .ok (.iconst 1, 1) := by decide +kernel
theorem dX12_qGoesOn_379 : decode cX12_qGoesOn 379 = .ok (.aload_n 0, 1) := by decide +kernel
theorem dX12_qGoesOn_380 : decode cX12_qGoesOn 380 = .ok (.getfield 269, 3) := by decide +kernel
theorem dX12_qGoesOn_383 : decode cX12_qGoesOn 383 = .ok (.invokevirtual 293, 3) := by decide +kernel
theorem dX12_qGoesOn_386 : decode cX12_qGoesOn 386 = .ok (.iconst 0, 1) := by decide +kernel
theorem dX12_qGoesOn_387 : decode cX12_qGoesOn 387 = .ok (.ireturn, 1) := by decide +kernel
theorem dX12_qSums_0 : decode cX12_qSums 0 = .ok (.aload_n 0, 1) := by decide +kernel
theorem dX12_qSums_1 : decode cX12_qSums 1 = .ok (.getfield 361, 3) := by decide +kernel
theorem dX12_qSums_4 : decode cX12_qSums 4 = .ok (.istore_n 1, 1) := by decide +kernel
theorem dX12_qSums_5 : decode cX12_qSums 5 = .ok (.aload_n 0, 1) := by decide +kernel
theorem dX12_qSums_6 : decode cX12_qSums 6 = .ok (.aload_n 0, 1) := by decide +kernel
theorem dX12_qSums_7 : decode cX12_qSums 7 = .ok (.getfield 355, 3) := by decide +kernel
theorem dX12_qSums_10 : decode cX12_qSums 10 = .ok (.putfield 361, 3) := by decide +kernel
theorem dX12_qSums_13 : decode cX12_qSums 13 = .ok (.iconst 1, 1) := by decide +kernel
theorem dX12_qSums_14 : decode cX12_qSums 14 = .ok (.istore_n 2, 1) := by decide +kernel
theorem dX12_qSums_15 : decode cX12_qSums 15 = .ok (.iload_n 2, 1) := by decide +kernel
theorem dX12_qSums_16 : decode cX12_qSums 16 = .ok (.ifCond .eq 37, 3) := by decide +kernel
theorem dX12_qSums_19 : decode cX12_qSums 19 = .ok (.aload_n 0, 1) := by decide +kernel
theorem dX12_qSums_20 : decode cX12_qSums 20 = .ok (.getfield 263, 3) := by decide +kernel
theorem dX12_qSums_23 : decode cX12_qSums 23 = .ok (.ifCond .ne 30, 3) := by decide +kernel
theorem dX12_qSums_26 : decode cX12_qSums 26 = .ok (.aload_n 0, 1) := by decide +kernel
theorem dX12_qSums_27 : decode cX12_qSums 27 = .ok (.invokevirtual 630, 3) := by decide +kernel
theorem dX12_qSums_30 : decode cX12_qSums 30 = .ok (.aload_n 0, 1) := by decide +kernel
theorem dX12_qSums_31 : decode cX12_qSums 31 = .ok (.getfield 263, 3) := by decide +kernel
theorem dX12_qSums_34 : decode cX12_qSums 34 = .ok (.ifCond .ne 14, 3) := by decide +kernel
theorem dX12_qSums_37 : decode cX12_qSums 37 = .ok (.aload_n 0, 1) := by decide +kernel
theorem dX12_qSums_38 : decode cX12_qSums 38 = .ok (.invokevirtual 633, 3) := by decide +kernel
theorem dX12_qSums_41 : decode cX12_qSums 41 = .ok (.ifCond .eq 7, 3) := by decide +kernel
theorem dX12_qSums_44 : decode cX12_qSums 44 = .ok (.iconst 1, 1) := by decide +kernel
theorem dX12_qSums_45 : decode cX12_qSums 45 = .ok (.goto 4, 3) := by decide +kernel
theorem dX12_qSums_48 : decode cX12_qSums 48 = .ok (.iconst 0, 1) := by decide +kernel
theorem dX12_qSums_49 : decode cX12_qSums 49 = .ok (.istore_n 2, 1) := by decide +kernel
theorem dX12_qSums_50 : decode cX12_qSums 50 = .ok (.goto (-35), 3) := by decide +kernel
theorem dX12_qSums_53 : decode cX12_qSums 53 = .ok (.aload_n 0, 1) := by decide +kernel
theorem dX12_qSums_54 : decode cX12_qSums 54 = .ok (.getfield 263, 3) := by decide +kernel
theorem dX12_qSums_57 : decode cX12_qSums 57 = .ok (.ifCond .ne 21, 3) := by decide +kernel
theorem dX12_qSums_60 : decode cX12_qSums 60 = .ok (.aload_n 0, 1) := by decide +kernel
theorem dX12_qSums_61 : decode cX12_qSums 61 = .ok (.getfield 355, 3) := by decide +kernel
theorem dX12_qSums_64 : decode cX12_qSums 64 = .ok (.aload_n 0, 1) := by decide +kernel
theorem dX12_qSums_65 : decode cX12_qSums 65 = .ok (.getfield 361, 3) := by decide +kernel
theorem dX12_qSums_68 : decode cX12_qSums 68 = .ok (.if_icmp .le 10, 3) := by decide +kernel
theorem dX12_qSums_71 : decode cX12_qSums 71 = .ok (.aload_n 0, 1) := by decide +kernel
theorem dX12_qSums_72 : decode cX12_qSums 72 = .ok (.invokevirtual 600, 3) := by decide +kernel
theorem dX12_qSums_75 : decode cX12_qSums 75 = .ok (.goto (-22), 3) := by decide +kernel
theorem dX12_qSums_78 : decode cX12_qSums 78 = .ok (.aload_n 0, 1) := by decide +kernel
theorem dX12_qSums_79 : decode cX12_qSums 79 = .ok (.iload_n 1, 1) := by decide +kernel
theorem dX12_qSums_80 : decode cX12_qSums 80 = .ok (.putfield 361, 3) := by decide +kernel
theorem dX12_qSums_83 : decode cX12_qSums 83 = .ok (.return_, 1) := by decide +kernel
theorem dX12_qFact_0 : decode cX12_qFact 0 = .ok (.aload_n 0, 1) := by decide +kernel
theorem dX12_qFact_1 : decode cX12_qFact 1 = .ok (.aload_n 0, 1) := by decide +kernel
theorem dX12_qFact_2 : decode cX12_qFact 2 = .ok (.getfield 206, 3) := by decide +kernel
theorem dX12_qFact_5 : decode cX12_qFact 5 = .ok (.invokevirtual 290, 3) := by decide +kernel
theorem dX12_qFact_8 : decode cX12_qFact 8 = .ok (.ifCond .eq 10, 3) := by decide +kernel
theorem dX12_qFact_11 : decode cX12_qFact 11 = .ok (.aload_n 0, 1) := by decide +kernel
theorem dX12_qFact_12 : decode cX12_qFact 12 = .ok (.bipush 13, 2) := by decide +kernel
theorem dX12_qFact_14 : decode cX12_qFact 14 = .ok (.invokevirtual 594, 3) := by decide +kernel
theorem dX12_qFact_17 : decode cX12_qFact 17 = .ok (.return_, 1) := by decide +kernel
theorem dX12_qFact_18 : decode cX12_qFact 18 = .ok (.aload_n 0, 1) := by decide +kernel
theorem dX12_qFact_19 : decode cX12_qFact 19 = .ok (.invokevirtual 364, 3) := by decide +kernel
theorem dX12_qFact_22 : decode cX12_qFact 22 = .ok (.aload_n 0, 1) := by decide +kernel
theorem dX12_qFact_23 : decode cX12_qFact 23 = .ok (.getfield 263, 3) := by decide +kernel
theorem dX12_qFact_26 : decode cX12_qFact 26 = .ok (.ifCond .eq 4, 3) := by decide +kernel
theorem dX12_qFact_29 : decode cX12_qFact 29 = .ok (.return_, 1) := by decide +kernel
theorem dX12_qFact_30 : decode cX12_qFact 30 = .ok (.aload_n 0, 1) := by decide +kernel
theorem dX12_qFact_31 : decode cX12_qFact 31 = .ok (.invokevirtual 275, 3) := by decide +kernel
theorem dX12_qFact_34 : decode cX12_qFact 34 = .ok (.istore_n 1, 1) := by decide +kernel
theorem dX12_qFact_35 : decode cX12_qFact 35 = .ok (.iload_n 1, 1) := by decide +kernel
theorem dX12_qFact_36 : decode cX12_qFact 36 = .ok (.bipush 60, 2) := by decide +kernel
theorem dX12_qFact_38 : decode cX12_qFact 38 = .ok (.if_icmp .eq 25, 3) := by decide +kernel
theorem dX12_qFact_41 : decode cX12_qFact 41 = .ok (.iload_n 1, 1) := by decide +kernel
theorem dX12_qFact_42 : decode cX12_qFact 42 = .ok (.bipush 62, 2) := by decide +kernel
theorem dX12_qFact_44 : decode cX12_qFact 44 = .ok (.if_icmp .eq 19, 3) := by decide +kernel
theorem dX12_qFact_47 : decode cX12_qFact 47 = .ok (.iload_n 1, 1) := by decide +kernel
theorem dX12_qFact_48 : decode cX12_qFact 48 = .ok (.bipush 61, 2) := by decide +kernel
theorem dX12_qFact_50 : decode cX12_qFact 50 = .ok (.if_icmp .eq 13, 3) := by decide +kernel
theorem dX12_qFact_53 : decode cX12_qFact 53 = .ok (.aload_n 0, 1) := by decide +kernel
theorem dX12_qFact_54 : decode cX12_qFact 54 = .ok (.iconst 1, 1) := by decide +kernel
theorem dX12_qFact_55 : decode cX12_qFact 55 = .ok (.aload_n 0, 1) := by decide +kernel
theorem dX12_qFact_56 : decode cX12_qFact 56 = .ok (.getfield 269, 3) := by decide +kernel
theorem dX12_qFact_59 : decode cX12_qFact 59 = .ok (.invokevirtual 293, 3) := by decide +kernel
theorem dX12_qFact_62 : decode cX12_qFact 62 = .ok (.return_, 1) := by decide +kernel
theorem dX12_qFact_63 : decode cX12_qFact 63 = .ok (.aload_n 0, 1) := by decide +kernel
theorem dX12_qFact_64 : decode cX12_qFact 64 = .ok (.dup, 1) := by decide +kernel
theorem dX12_qFact_65 : decode cX12_qFact 65 = .ok (.getfield 269, 3) := by decide +kernel
theorem dX12_qFact_68 : decode cX12_qFact 68 = .ok (.iconst 1, 1) := by decide +kernel
theorem dX12_qFact_69 : decode cX12_qFact 69 = .ok (.iadd, 1) := by decide +kernel
theorem dX12_qFact_70 : decode cX12_qFact 70 = .ok (.putfield 269, 3) := by decide +kernel
theorem dX12_qFact_73 : decode cX12_qFact 73 = .ok (.aload_n 0, 1) := by decide +kernel
theorem dX12_qFact_74 : decode cX12_qFact 74 = .ok (.invokevirtual 364, 3) := by decide +kernel
theorem dX12_qFact_77 : decode cX12_qFact 77 = .ok (.aload_n 0, 1) := by decide +kernel
theorem dX12_qFact_78 : decode cX12_qFact 78 = .ok (.iload_n 1, 1) := by decide +kernel
theorem dX12_qFact_79 : decode cX12_qFact 79 = .ok (.bipush 60, 2) := by decide +kernel
theorem dX12_qFact_81 : decode cX12_qFact 81 = .ok (.if_icmp .ne 8, 3) := by decide +kernel
theorem dX12_qFact_84 : decode cX12_qFact 84 = .ok (.bipush 7, 2) := by decide +kernel
theorem dX12_qFact_86 : decode cX12_qFact 86 = .ok (.goto 16, 3) := by decide +kernel
theorem dX12_qFact_89 : decode cX12_qFact 89 = .ok (.iload_n 1, 1) := by decide +kernel
theorem dX12_qFact_90 : decode cX12_qFact 90 = .ok (.bipush 62, 2) := by decide +kernel
theorem dX12_qFact_92 : decode cX12_qFact 92 = .ok (.if_icmp .ne 8, 3) := by decide +kernel
theorem dX12_qFact_95 : decode cX12_qFact 95 = .ok (.bipush 8, 2) := by decide +kernel
theorem dX12_qFact_97 : decode cX12_qFact 97 = .ok (.goto 5, 3) := by decide +kernel
theorem dX12_qFact_100 : decode cX12_qFact 100 = .ok (.bipush 9, 2) := by decide +kernel
theorem dX12_qFact_102 : decode cX12_qFact 102 = .ok (.invokevirtual 594, 3) := by decide +kernel
theorem dX12_qFact_105 : decode cX12_qFact 105 = .ok (.return_, 1) := by decide +kernel
theorem dX12_qHasSquare_0 : decode cX12_qHasSquare 0 = .ok (.iconst 0, 1) := by decide +kernel
theorem dX12_qHasSquare_1 : decode cX12_qHasSquare 1 = .ok (.istore_n 1, 1) := by decide +kernel
theorem dX12_qHasSquare_2 : decode cX12_qHasSquare 2 = .ok (.iload_n 1, 1) := by decide +kernel
theorem dX12_qHasSquare_3 : decode cX12_qHasSquare 3 = .ok (.aload_n 0, 1) := by decide +kernel
theorem dX12_qHasSquare_4 : decode cX12_qHasSquare 4 = .ok (.getfield 355, 3) := by decide +kernel
theorem dX12_qHasSquare_7 : decode cX12_qHasSquare 7 = .ok (.if_icmp .ge 22, 3) := by decide +kernel
theorem dX12_qHasSquare_10 : decode cX12_qHasSquare 10 = .ok (.aload_n 0, 1) := by decide +kernel
theorem dX12_qHasSquare_11 : decode cX12_qHasSquare 11 = .ok (.getfield 251, 3) := by decide +kernel
theorem dX12_qHasSquare_14 : decode cX12_qHasSquare 14 = .ok (.iload_n 1, 1) := by decide +kernel
theorem dX12_qHasSquare_15 : decode cX12_qHasSquare 15 = .ok (.iaload, 1) := by decide +kernel
theorem dX12_qHasSquare_16 : decode cX12_qHasSquare 16 = .ok (.bipush 25, 2) := by decide +kernel
theorem dX12_qHasSquare_18 : decode cX12_qHasSquare 18 = .ok (.if_icmp .ne 5, 3) := by decide +kernel
theorem dX12_qHasSquare_21 : decode cX12_qHasSquare 21 = .ok (.iconst 1, 1) := by decide +kernel
theorem dX12_qHasSquare_22 : decode cX12_qHasSquare 22 = .ok (.ireturn, 1) := by decide +kernel
theorem dX12_qHasSquare_23 : decode cX12_qHasSquare 23 = .ok (.iinc 1 1, 3) := by decide +kernel
theorem dX12_qHasSquare_26 : decode cX12_qHasSquare 26 = .ok (.goto (-24), 3) := by decide +kernel
theorem dX12_qHasSquare_29 : decode cX12_qHasSquare 29 = .ok (.iconst 0, 1) := by decide +kernel
theorem dX12_qHasSquare_30 : decode cX12_qHasSquare 30 = .ok (.ireturn, 1) := by decide +kernel
theorem dX12_qDropsNots_0 : decode cX12_qDropsNots 0 = .ok (.aload_n 0, 1) := by decide +kernel
theorem dX12_qDropsNots_1 : decode cX12_qDropsNots 1 = .ok (.getfield 263, 3) := by decide +kernel
theorem dX12_qDropsNots_4 : decode cX12_qDropsNots 4 = .ok (.ifCond .ne 29, 3) := by decide +kernel
theorem dX12_qDropsNots_7 : decode cX12_qDropsNots 7 = .ok (.aload_n 0, 1) := by decide +kernel
theorem dX12_qDropsNots_8 : decode cX12_qDropsNots 8 = .ok (.bipush 12, 2) := by decide +kernel
theorem dX12_qDropsNots_10 : decode cX12_qDropsNots 10 = .ok (.invokevirtual 627, 3) := by decide +kernel
theorem dX12_qDropsNots_13 : decode cX12_qDropsNots 13 = .ok (.ifCond .eq 20, 3) := by decide +kernel
theorem dX12_qDropsNots_16 : decode cX12_qDropsNots 16 = .ok (.aload_n 0, 1) := by decide +kernel
theorem dX12_qDropsNots_17 : decode cX12_qDropsNots 17 = .ok (.dup, 1) := by decide +kernel
theorem dX12_qDropsNots_18 : decode cX12_qDropsNots 18 = .ok (.getfield 358, 3) := by decide +kernel
theorem dX12_qDropsNots_21 : decode cX12_qDropsNots 21 = .ok (.iconst 1, 1) := by decide +kernel
theorem dX12_qDropsNots_22 : decode cX12_qDropsNots 22 = .ok (.isub, 1) := by decide +kernel
theorem dX12_qDropsNots_23 : decode cX12_qDropsNots 23 = .ok (.putfield 358, 3) := by decide +kernel
theorem dX12_qDropsNots_26 : decode cX12_qDropsNots 26 = .ok (.aload_n 0, 1) := by decide +kernel
theorem dX12_qDropsNots_27 : decode cX12_qDropsNots 27 = .ok (.invokevirtual 600, 3) := by decide +kernel
theorem dX12_qDropsNots_30 : decode cX12_qDropsNots 30 = .ok (.goto (-30), 3) := by decide +kernel
theorem dX12_qDropsNots_33 : decode cX12_qDropsNots 33 = .ok (.return_, 1) := by decide +kernel
theorem dX12_qTest_0 : decode cX12_qTest 0 = .ok (.iconst 1, 1) := by decide +kernel
theorem dX12_qTest_1 : decode cX12_qTest 1 = .ok (.istore_n 1, 1) := by decide +kernel
theorem dX12_qTest_2 : decode cX12_qTest 2 = .ok (.iload_n 1, 1) := by decide +kernel
theorem dX12_qTest_3 : decode cX12_qTest 3 = .ok (.ifCond .eq 107, 3) := by decide +kernel
theorem dX12_qTest_6 : decode cX12_qTest 6 = .ok (.aload_n 0, 1) := by decide +kernel
theorem dX12_qTest_7 : decode cX12_qTest 7 = .ok (.getfield 263, 3) := by decide +kernel
theorem dX12_qTest_10 : decode cX12_qTest 10 = .ok (.ifCond .ne 100, 3) := by decide +kernel
theorem dX12_qTest_13 : decode cX12_qTest 13 = .ok (.aload_n 0, 1) := by decide +kernel
theorem dX12_qTest_14 : decode cX12_qTest 14 = .ok (.invokevirtual 275, 3) := by decide +kernel
theorem dX12_qTest_17 : decode cX12_qTest 17 = .ok (.istore_n 2, 1) := by decide +kernel
theorem dX12_qTest_18 : decode cX12_qTest 18 = .ok (.iload_n 2, 1) := by decide +kernel
theorem dX12_qTest_19 : decode cX12_qTest 19 = .ok (.bipush 91, 2) := by decide +kernel
theorem dX12_qTest_21 : decode cX12_qTest 21 = .ok (.if_icmp .ne 26, 3) := by decide +kernel
theorem dX12_qTest_24 : decode cX12_qTest 24 = .ok (.aload_n 0, 1) := by decide +kernel
theorem dX12_qTest_25 : decode cX12_qTest 25 = .ok (.bipush 25, 2) := by decide +kernel
theorem dX12_qTest_27 : decode cX12_qTest 27 = .ok (.aload_n 0, 1) := by decide +kernel
theorem dX12_qTest_28 : decode cX12_qTest 28 = .ok (.getfield 269, 3) := by decide +kernel
theorem dX12_qTest_31 : decode cX12_qTest 31 = .ok (.invokevirtual 612, 3) := by decide +kernel
theorem dX12_qTest_34 : decode cX12_qTest 34 = .ok (.aload_n 0, 1) := by decide +kernel
theorem dX12_qTest_35 : decode cX12_qTest 35 = .ok (.dup, 1) := by decide +kernel
theorem dX12_qTest_36 : decode cX12_qTest 36 = .ok (.getfield 269, 3) := by decide +kernel
theorem dX12_qTest_39 : decode cX12_qTest 39 = .ok (.iconst 1, 1) := by decide +kernel
theorem dX12_qTest_40 : decode cX12_qTest 40 = .ok (.iadd, 1) := by decide +kernel
theorem dX12_qTest_41 : decode cX12_qTest 41 = .ok (.putfield 269, 3) := by decide +kernel
theorem dX12_qTest_44 : decode cX12_qTest 44 = .ok (.goto (-42), 3) := by decide +kernel
theorem dX12_qTest_47 : decode cX12_qTest 47 = .ok (.aload_n 0, 1) := by decide +kernel
theorem dX12_qTest_48 : decode cX12_qTest 48 = .ok (.aload_n 0, 1) := by decide +kernel
theorem dX12_qTest_49 : decode cX12_qTest 49 = .ok (.getfield 197, 3) := by decide +kernel
theorem dX12_qTest_52 : decode cX12_qTest 52 = .ok (.invokevirtual 286, 3) := by decide +kernel
theorem dX12_qTest_55 : decode cX12_qTest 55 = .ok (.ifCond .eq 24, 3) := by decide +kernel
theorem dX12_qTest_58 : decode cX12_qTest 58 = .ok (.aload_n 0, 1) := by decide +kernel
theorem dX12_qTest_59 : decode cX12_qTest 59 = .ok (.bipush 12, 2) := by decide +kernel
theorem dX12_qTest_61 : decode cX12_qTest 61 = .ok (.aload_n 0, 1) := by decide +kernel
theorem dX12_qTest_62 : decode cX12_qTest 62 = .ok (.getfield 269, 3) := by decide +kernel
theorem dX12_qTest_65 : decode cX12_qTest 65 = .ok (.invokevirtual 612, 3) := by decide +kernel
theorem dX12_qTest_68 : decode cX12_qTest 68 = .ok (.aload_n 0, 1) := by decide +kernel
theorem dX12_qTest_69 : decode cX12_qTest 69 = .ok (.aload_n 0, 1) := by decide +kernel
theorem dX12_qTest_70 : decode cX12_qTest 70 = .ok (.getfield 197, 3) := by decide +kernel
theorem dX12_qTest_73 : decode cX12_qTest 73 = .ok (.invokevirtual 337, 3) := by decide +kernel
theorem dX12_qTest_76 : decode cX12_qTest 76 = .ok (.goto (-74), 3) := by decide +kernel
theorem dX12_qTest_79 : decode cX12_qTest 79 = .ok (.aload_n 0, 1) := by decide +kernel
theorem dX12_qTest_80 : decode cX12_qTest 80 = .ok (.invokevirtual 636, 3) := by decide +kernel
theorem dX12_qTest_83 : decode cX12_qTest 83 = .ok (.aload_n 0, 1) := by decide +kernel
theorem dX12_qTest_84 : decode cX12_qTest 84 = .ok (.invokevirtual 639, 3) := by decide +kernel
theorem dX12_qTest_87 : decode cX12_qTest 87 = .ok (.aload_n 0, 1) := by decide +kernel
theorem dX12_qTest_88 : decode cX12_qTest 88 = .ok (.getfield 263, 3) := by decide +kernel
theorem dX12_qTest_91 : decode cX12_qTest 91 = .ok (.ifCond .ne 14, 3) := by decide +kernel
theorem dX12_qTest_94 : decode cX12_qTest 94 = .ok (.aload_n 0, 1) := by decide +kernel
theorem dX12_qTest_95 : decode cX12_qTest 95 = .ok (.invokevirtual 642, 3) := by decide +kernel
theorem dX12_qTest_98 : decode cX12_qTest 98 = .ok (.ifCond .eq 7, 3) := by decide +kernel
theorem dX12_qTest_101 : decode cX12_qTest 101 = .ok (.iconst 1, 1) := by decide +kernel
theorem dX12_qTest_102 : decode cX12_qTest 102 = .ok (.goto 4, 3) := by decide +kernel
theorem dX12_qTest_105 : decode cX12_qTest 105 = .ok (.iconst 0, 1) := by decide +kernel
theorem dX12_qTest_106 : decode cX12_qTest 106 = .ok (.istore_n 1, 1) := by decide +kernel
theorem dX12_qTest_107 : decode cX12_qTest 107 = .ok (.goto (-105), 3) := by decide +kernel
theorem dX12_qTest_110 : decode cX12_qTest 110 = .ok (.aload_n 0, 1) := by decide +kernel
theorem dX12_qTest_111 : decode cX12_qTest 111 = .ok (.getfield 263, 3) := by decide +kernel
theorem dX12_qTest_114 : decode cX12_qTest 114 = .ok (.ifCond .ne 17, 3) := by decide +kernel
theorem dX12_qTest_117 : decode cX12_qTest 117 = .ok (.aload_n 0, 1) := by decide +kernel
theorem dX12_qTest_118 : decode cX12_qTest 118 = .ok (.getfield 355, 3) := by decide +kernel
theorem dX12_qTest_121 : decode cX12_qTest 121 = .ok (.ifCond .le 10, 3) := by decide +kernel
theorem dX12_qTest_124 : decode cX12_qTest 124 = .ok (.aload_n 0, 1) := by decide +kernel
theorem dX12_qTest_125 : decode cX12_qTest 125 = .ok (.invokevirtual 600, 3) := by decide +kernel
theorem dX12_qTest_128 : decode cX12_qTest 128 = .ok (.goto (-18), 3) := by decide +kernel
theorem dX12_qTest_131 : decode cX12_qTest 131 = .ok (.return_, 1) := by decide +kernel
theorem dX12_qGoesOnTest_0 : decode cX12_qGoesOnTest 0 = .ok (.aload_n 0, 1) := by decide +kernel
theorem dX12_qGoesOnTest_1 : decode cX12_qGoesOnTest 1 = .ok (.getfield 263, 3) := by decide +kernel
theorem dX12_qGoesOnTest_4 : decode cX12_qGoesOnTest 4 = .ok (.ifCond .ne 72, 3) := by decide +kernel
theorem dX12_qGoesOnTest_7 : decode cX12_qGoesOnTest 7 = .ok (.aload_n 0, 1) := by decide +kernel
theorem dX12_qGoesOnTest_8 : decode cX12_qGoesOnTest 8 = .ok (.invokevirtual 275, 3) := by decide +kernel
theorem dX12_qGoesOnTest_11 : decode cX12_qGoesOnTest 11 = .ok (.bipush 93, 2) := by decide +kernel
theorem dX12_qGoesOnTest_13 : decode cX12_qGoesOnTest 13 = .ok (.if_icmp .ne 63, 3) := by decide +kernel
theorem dX12_qGoesOnTest_16 : decode cX12_qGoesOnTest 16 = .ok (.aload_n 0, 1) := by decide +kernel
theorem dX12_qGoesOnTest_17 : decode cX12_qGoesOnTest 17 = .ok (.invokevirtual 645, 3) := by decide +kernel
theorem dX12_qGoesOnTest_20 : decode cX12_qGoesOnTest 20 = .ok (.ifCond .eq 56, 3) := by decide +kernel
theorem dX12_qGoesOnTest_23 : decode cX12_qGoesOnTest 23 = .ok (.aload_n 0, 1) := by decide +kernel
theorem dX12_qGoesOnTest_24 : decode cX12_qGoesOnTest 24 = .ok (.dup, 1) := by decide +kernel
theorem dX12_qGoesOnTest_25 : decode cX12_qGoesOnTest 25 = .ok (.getfield 269, 3) := by decide +kernel
theorem dX12_qGoesOnTest_28 : decode cX12_qGoesOnTest 28 = .ok (.iconst 1, 1) := by decide +kernel
theorem dX12_qGoesOnTest_29 : decode cX12_qGoesOnTest 29 = .ok (.iadd, 1) := by decide +kernel
theorem dX12_qGoesOnTest_30 : decode cX12_qGoesOnTest 30 = .ok (.putfield 269, 3) := by decide +kernel
theorem dX12_qGoesOnTest_33 : decode cX12_qGoesOnTest 33 = .ok (.aload_n 0, 1) := by decide +kernel
theorem dX12_qGoesOnTest_34 : decode cX12_qGoesOnTest 34 = .ok (.bipush 25, 2) := by decide +kernel
theorem dX12_qGoesOnTest_36 : decode cX12_qGoesOnTest 36 = .ok (.invokevirtual 627, 3) := by decide +kernel
theorem dX12_qGoesOnTest_39 : decode cX12_qGoesOnTest 39 = .ok (.ifCond .ne 10, 3) := by decide +kernel
theorem dX12_qGoesOnTest_42 : decode cX12_qGoesOnTest 42 = .ok (.aload_n 0, 1) := by decide +kernel
theorem dX12_qGoesOnTest_43 : decode cX12_qGoesOnTest 43 = .ok (.invokevirtual 600, 3) := by decide +kernel
theorem dX12_qGoesOnTest_46 : decode cX12_qGoesOnTest 46 = .ok (.goto (-13), 3) := by decide +kernel
theorem dX12_qGoesOnTest_49 : decode cX12_qGoesOnTest 49 = .ok (.aload_n 0, 1) := by decide +kernel
theorem dX12_qGoesOnTest_50 : decode cX12_qGoesOnTest 50 = .ok (.dup, 1) := by decide +kernel
theorem dX12_qGoesOnTest_51 : decode cX12_qGoesOnTest 51 = .ok (.getfield 355, 3) := by decide +kernel
theorem dX12_qGoesOnTest_54 : decode cX12_qGoesOnTest 54 = .ok (.iconst 1, 1) := by decide +kernel
theorem dX12_qGoesOnTest_55 : decode cX12_qGoesOnTest 55 = .ok (.isub, 1) := by decide +kernel
theorem dX12_qGoesOnTest_56 : decode cX12_qGoesOnTest 56 = .ok (.putfield 355, 3) := by decide +kernel
theorem dX12_qGoesOnTest_59 : decode cX12_qGoesOnTest 59 = .ok (.aload_n 0, 1) := by decide +kernel
theorem dX12_qGoesOnTest_60 : decode cX12_qGoesOnTest 60 = .ok (.dup, 1) := by decide +kernel
theorem dX12_qGoesOnTest_61 : decode cX12_qGoesOnTest 61 = .ok (.getfield 358, 3) := by decide +kernel
theorem dX12_qGoesOnTest_64 : decode cX12_qGoesOnTest 64 = .ok (.iconst 1, 1) := by decide +kernel
theorem dX12_qGoesOnTest_65 : decode cX12_qGoesOnTest 65 = .ok (.isub, 1) := by decide +kernel
theorem dX12_qGoesOnTest_66 : decode cX12_qGoesOnTest 66 = .ok (.putfield 358, 3) := by decide +kernel
theorem dX12_qGoesOnTest_69 : decode cX12_qGoesOnTest 69 = .ok (.aload_n 0, 1) := by decide +kernel
theorem dX12_qGoesOnTest_70 : decode cX12_qGoesOnTest 70 = .ok (.invokevirtual 639, 3) := by decide +kernel
theorem dX12_qGoesOnTest_73 : decode cX12_qGoesOnTest 73 = .ok (.goto (-73), 3) := by decide +kernel
theorem dX12_qGoesOnTest_76 : decode cX12_qGoesOnTest 76 = .ok (.aload_n 0, 1) := by decide +kernel
theorem dX12_qGoesOnTest_77 : decode cX12_qGoesOnTest 77 = .ok (.aload_n 0, 1) := by decide +kernel
theorem dX12_qGoesOnTest_78 : decode cX12_qGoesOnTest 78 = .ok (.getfield 200, 3) := by decide +kernel
theorem dX12_qGoesOnTest_81 : decode cX12_qGoesOnTest 81 = .ok (.invokevirtual 290, 3) := by decide +kernel
theorem dX12_qGoesOnTest_84 : decode cX12_qGoesOnTest 84 = .ok (.ifCond .eq 42, 3) := by decide +kernel
theorem dX12_qGoesOnTest_87 : decode cX12_qGoesOnTest 87 = .ok (.aload_n 0, 1) := by decide +kernel
theorem dX12_qGoesOnTest_88 : decode cX12_qGoesOnTest 88 = .ok (.bipush 10, 2) := by decide +kernel
theorem dX12_qGoesOnTest_90 : decode cX12_qGoesOnTest 90 = .ok (.invokevirtual 627, 3) := by decide +kernel
theorem dX12_qGoesOnTest_93 : decode cX12_qGoesOnTest 93 = .ok (.ifCond .eq 10, 3) := by decide +kernel
theorem dX12_qGoesOnTest_96 : decode cX12_qGoesOnTest 96 = .ok (.aload_n 0, 1) := by decide +kernel
theorem dX12_qGoesOnTest_97 : decode cX12_qGoesOnTest 97 = .ok (.invokevirtual 600, 3) := by decide +kernel
theorem dX12_qGoesOnTest_100 : decode cX12_qGoesOnTest 100 = .ok (.goto (-13), 3) := by decide +kernel
theorem dX12_qGoesOnTest_103 : decode cX12_qGoesOnTest 103 = .ok (.aload_n 0, 1) := by decide +kernel
theorem dX12_qGoesOnTest_104 : decode cX12_qGoesOnTest 104 = .ok (.getfield 251, 3) := by decide +kernel
theorem dX12_qGoesOnTest_107 : decode cX12_qGoesOnTest 107 = .ok (.aload_n 0, 1) := by decide +kernel
theorem dX12_qGoesOnTest_108 : decode cX12_qGoesOnTest 108 = .ok (.getfield 355, 3) := by decide +kernel
theorem dX12_qGoesOnTest_111 : decode cX12_qGoesOnTest 111 = .ok (.bipush 10, 2) := by decide +kernel
theorem dX12_qGoesOnTest_113 : decode cX12_qGoesOnTest 113 = .ok (.iastore, 1) := by decide +kernel
theorem dX12_qGoesOnTest_114 : decode cX12_qGoesOnTest 114 = .ok (.aload_n 0, 1) := by decide +kernel
theorem dX12_qGoesOnTest_115 : decode cX12_qGoesOnTest 115 = .ok (.dup, 1) := by decide +kernel
theorem dX12_qGoesOnTest_116 : decode cX12_qGoesOnTest 116 = .ok (.getfield 355, 3) := by decide +kernel
theorem dX12_qGoesOnTest_119 : decode cX12_qGoesOnTest 119 = .ok (.iconst 1, 1) := by decide +kernel
theorem dX12_qGoesOnTest_120 : decode cX12_qGoesOnTest 120 = .ok (.iadd, 1) := by decide +kernel
theorem dX12_qGoesOnTest_121 : decode cX12_qGoesOnTest 121 = .ok (.putfield 355, 3) := by decide +kernel
theorem dX12_qGoesOnTest_124 : decode cX12_qGoesOnTest 124 = .ok (.iconst 1, 1) := by decide +kernel
theorem dX12_qGoesOnTest_125 : decode cX12_qGoesOnTest 125 = .ok (.ireturn, 1) := by decide +kernel
theorem dX12_qGoesOnTest_126 : decode cX12_qGoesOnTest 126 = .ok (.aload_n 0, 1) := by decide +kernel
theorem dX12_qGoesOnTest_127 : decode cX12_qGoesOnTest 127 = .ok (.aload_n 0, 1) := by decide +kernel
theorem dX12_qGoesOnTest_128 : decode cX12_qGoesOnTest 128 = .ok (.getfield 203, 3) := by decide +kernel
theorem dX12_qGoesOnTest_131 : decode cX12_qGoesOnTest 131 = .ok (.invokevirtual 290, 3) := by decide +kernel
theorem dX12_qGoesOnTest_134 : decode cX12_qGoesOnTest 134 = .ok (.ifCond .eq 51, 3) := by decide +kernel
theorem dX12_qGoesOnTest_137 : decode cX12_qGoesOnTest 137 = .ok (.aload_n 0, 1) := by decide +kernel
theorem dX12_qGoesOnTest_138 : decode cX12_qGoesOnTest 138 = .ok (.bipush 10, 2) := by decide +kernel
theorem dX12_qGoesOnTest_140 : decode cX12_qGoesOnTest 140 = .ok (.invokevirtual 627, 3) := by decide +kernel
theorem dX12_qGoesOnTest_143 : decode cX12_qGoesOnTest 143 = .ok (.ifCond .ne 12, 3) := by decide +kernel
theorem dX12_qGoesOnTest_146 : decode cX12_qGoesOnTest 146 = .ok (.aload_n 0, 1) := by decide +kernel
theorem dX12_qGoesOnTest_147 : decode cX12_qGoesOnTest 147 = .ok (.bipush 11, 2) := by decide +kernel
theorem dX12_qGoesOnTest_149 : decode cX12_qGoesOnTest 149 = .ok (.invokevirtual 627, 3) := by decide +kernel
theorem dX12_qGoesOnTest_152 : decode cX12_qGoesOnTest 152 = .ok (.ifCond .eq 10, 3) := by decide +kernel
theorem dX12_qGoesOnTest_155 : decode cX12_qGoesOnTest 155 = .ok (.aload_n 0, 1) := by decide +kernel
theorem dX12_qGoesOnTest_156 : decode cX12_qGoesOnTest 156 = .ok (.invokevirtual 600, 3) := by decide +kernel
theorem dX12_qGoesOnTest_159 : decode cX12_qGoesOnTest 159 = .ok (.goto (-22), 3) := by decide +kernel
theorem dX12_qGoesOnTest_162 : decode cX12_qGoesOnTest 162 = .ok (.aload_n 0, 1) := by decide +kernel
theorem dX12_qGoesOnTest_163 : decode cX12_qGoesOnTest 163 = .ok (.getfield 251, 3) := by decide +kernel
theorem dX12_qGoesOnTest_166 : decode cX12_qGoesOnTest 166 = .ok (.aload_n 0, 1) := by decide +kernel
theorem dX12_qGoesOnTest_167 : decode cX12_qGoesOnTest 167 = .ok (.getfield 355, 3) := by decide +kernel
theorem dX12_qGoesOnTest_170 : decode cX12_qGoesOnTest 170 = .ok (.bipush 11, 2) := by decide +kernel
theorem dX12_qGoesOnTest_172 : decode cX12_qGoesOnTest 172 = .ok (.iastore, 1) := by decide +kernel
theorem dX12_qGoesOnTest_173 : decode cX12_qGoesOnTest 173 = .ok (.aload_n 0, 1) := by decide +kernel
theorem dX12_qGoesOnTest_174 : decode cX12_qGoesOnTest 174 = .ok (.dup, 1) := by decide +kernel
theorem dX12_qGoesOnTest_175 : decode cX12_qGoesOnTest 175 = .ok (.getfield 355, 3) := by decide +kernel
theorem dX12_qGoesOnTest_178 : decode cX12_qGoesOnTest 178 = .ok (.iconst 1, 1) := by decide +kernel
theorem dX12_qGoesOnTest_179 : decode cX12_qGoesOnTest 179 = .ok (.iadd, 1) := by decide +kernel
theorem dX12_qGoesOnTest_180 : decode cX12_qGoesOnTest 180 = .ok (.putfield 355, 3) := by decide +kernel
theorem dX12_qGoesOnTest_183 : decode cX12_qGoesOnTest 183 = .ok (.iconst 1, 1) := by decide +kernel
theorem dX12_qGoesOnTest_184 : decode cX12_qGoesOnTest 184 = .ok (.ireturn, 1) := by decide +kernel
theorem dX12_qGoesOnTest_185 : decode cX12_qGoesOnTest 185 = .ok (.aload_n 0, 1) := by decide +kernel
theorem dX12_qGoesOnTest_186 : decode cX12_qGoesOnTest 186 = .ok (.getfield 263, 3) := by decide +kernel
theorem dX12_qGoesOnTest_189 : decode cX12_qGoesOnTest 189 = .ok (.ifCond .ne 19, 3) := by decide +kernel
theorem dX12_qGoesOnTest_192 : decode cX12_qGoesOnTest 192 = .ok (.aload_n 0, 1) := by decide +kernel
theorem dX12_qGoesOnTest_193 : decode cX12_qGoesOnTest 193 = .ok (.invokevirtual 645, 3) := by decide +kernel
theorem dX12_qGoesOnTest_196 : decode cX12_qGoesOnTest 196 = .ok (.ifCond .eq 12, 3) := by decide +kernel
theorem dX12_qGoesOnTest_199 : decode cX12_qGoesOnTest 199 = .ok (.aload_n 0, 1) := by decide +kernel
theorem dX12_qGoesOnTest_200 : decode cX12_qGoesOnTest 200 = .ok (.iconst 1, 1) := by decide +kernel
theorem dX12_qGoesOnTest_201 : decode cX12_qGoesOnTest 201 = .ok (.aload_n 0, 1) := by decide +kernel
theorem dX12_qGoesOnTest_202 : decode cX12_qGoesOnTest 202 = .ok (.getfield 269, 3) := by decide +kernel
theorem dX12_qGoesOnTest_205 : decode cX12_qGoesOnTest 205 = .ok (.invokevirtual 293, 3) := by decide +kernel
theorem dX12_qGoesOnTest_208 : decode cX12_qGoesOnTest 208 = .ok (.iconst 0, 1) := by decide +kernel
theorem dX12_qGoesOnTest_209 : decode cX12_qGoesOnTest 209 = .ok (.ireturn, 1) := by decide +kernel
theorem dX12_qClip_0 : decode cX12_qClip 0 = .ok (.lload_n 0, 1) := by decide +kernel
theorem dX12_qClip_1 : decode cX12_qClip 1 = .ok (.ldc2_w 648, 3) := by decide +kernel
theorem dX12_qClip_4 : decode cX12_qClip 4 = .ok (.lcmp, 1) := by decide +kernel
theorem dX12_qClip_5 : decode cX12_qClip 5 = .ok (.ifCond .le 9, 3) := by decide +kernel
theorem dX12_qClip_8 : decode cX12_qClip 8 = .ok (.ldc2_w 648, 3) := by decide +kernel
theorem dX12_qClip_11 : decode cX12_qClip 11 = .ok (.goto 18, 3) := by decide +kernel
theorem dX12_qClip_14 : decode cX12_qClip 14 = .ok (.lload_n 0, 1) := by decide +kernel
theorem dX12_qClip_15 : decode cX12_qClip 15 = .ok (.ldc2_w 650, 3) := by decide +kernel
theorem dX12_qClip_18 : decode cX12_qClip 18 = .ok (.lcmp, 1) := by decide +kernel
theorem dX12_qClip_19 : decode cX12_qClip 19 = .ok (.ifCond .ge 9, 3) := by decide +kernel
theorem dX12_qClip_22 : decode cX12_qClip 22 = .ok (.ldc2_w 650, 3) := by decide +kernel
theorem dX12_qClip_25 : decode cX12_qClip 25 = .ok (.goto 4, 3) := by decide +kernel
theorem dX12_qClip_28 : decode cX12_qClip 28 = .ok (.lload_n 0, 1) := by decide +kernel
theorem dX12_qClip_29 : decode cX12_qClip 29 = .ok (.lreturn, 1) := by decide +kernel
theorem dX12_qFloor_0 : decode cX12_qFloor 0 = .ok (.lload_n 2, 1) := by decide +kernel
theorem dX12_qFloor_1 : decode cX12_qFloor 1 = .ok (.lconst 0, 1) := by decide +kernel
theorem dX12_qFloor_2 : decode cX12_qFloor 2 = .ok (.lcmp, 1) := by decide +kernel
theorem dX12_qFloor_3 : decode cX12_qFloor 3 = .ok (.ifCond .ne 5, 3) := by decide +kernel
theorem dX12_qFloor_6 : decode cX12_qFloor 6 = .ok (.lconst 0, 1) := by decide +kernel
theorem dX12_qFloor_7 : decode cX12_qFloor 7 = .ok (.lreturn, 1) := by decide +kernel
theorem dX12_qFloor_8 : decode cX12_qFloor 8 = .ok (.lload_n 0, 1) := by decide +kernel
theorem dX12_qFloor_9 : decode cX12_qFloor 9 = .ok (.lload_n 2, 1) := by decide +kernel
theorem dX12_qFloor_10 : decode cX12_qFloor 10 = .ok (.ldiv, 1) := by decide +kernel
theorem dX12_qFloor_11 : decode cX12_qFloor 11 = .ok (.lstore 4, 2) := by decide +kernel
theorem dX12_qFloor_13 : decode cX12_qFloor 13 = .ok (.lload_n 0, 1) := by decide +kernel
theorem dX12_qFloor_14 : decode cX12_qFloor 14 = .ok (.lload_n 2, 1) := by decide +kernel
theorem dX12_qFloor_15 : decode cX12_qFloor 15 = .ok (.lrem, 1) := by decide +kernel
theorem dX12_qFloor_16 : decode cX12_qFloor 16 = .ok (.lconst 0, 1) := by decide +kernel
theorem dX12_qFloor_17 : decode cX12_qFloor 17 = .ok (.lcmp, 1) := by decide +kernel
theorem dX12_qFloor_18 : decode cX12_qFloor 18 = .ok (.ifCond .eq 35, 3) := by decide +kernel
theorem dX12_qFloor_21 : decode cX12_qFloor 21 = .ok (.lload_n 0, 1) := by decide +kernel
theorem dX12_qFloor_22 : decode cX12_qFloor 22 = .ok (.lconst 0, 1) := by decide +kernel
theorem dX12_qFloor_23 : decode cX12_qFloor 23 = .ok (.lcmp, 1) := by decide +kernel
theorem dX12_qFloor_24 : decode cX12_qFloor 24 = .ok (.ifCond .ge 7, 3) := by decide +kernel
theorem dX12_qFloor_27 : decode cX12_qFloor 27 = .ok (.iconst 1, 1) := by decide +kernel
theorem dX12_qFloor_28 : decode cX12_qFloor 28 = .ok (.goto 4, 3) := by decide +kernel
theorem dX12_qFloor_31 : decode cX12_qFloor 31 = .ok (.iconst 0, 1) := by decide +kernel
theorem dX12_qFloor_32 : decode cX12_qFloor 32 = .ok (.lload_n 2, 1) := by decide +kernel
theorem dX12_qFloor_33 : decode cX12_qFloor 33 = .ok (.lconst 0, 1) := by decide +kernel
theorem dX12_qFloor_34 : decode cX12_qFloor 34 = .ok (.lcmp, 1) := by decide +kernel
theorem dX12_qFloor_35 : decode cX12_qFloor 35 = .ok (.ifCond .ge 7, 3) := by decide +kernel
theorem dX12_qFloor_38 : decode cX12_qFloor 38 = .ok (.iconst 1, 1) := by decide +kernel
theorem dX12_qFloor_39 : decode cX12_qFloor 39 = .ok (.goto 4, 3) := by decide +kernel
theorem dX12_qFloor_42 : decode cX12_qFloor 42 = .ok (.iconst 0, 1) := by decide +kernel
theorem dX12_qFloor_43 : decode cX12_qFloor 43 = .ok (.if_icmp .eq 10, 3) := by decide +kernel
theorem dX12_qFloor_46 : decode cX12_qFloor 46 = .ok (.lload 4, 2) := by decide +kernel
theorem dX12_qFloor_48 : decode cX12_qFloor 48 = .ok (.lconst 1, 1) := by decide +kernel
theorem dX12_qFloor_49 : decode cX12_qFloor 49 = .ok (.lsub, 1) := by decide +kernel
theorem dX12_qFloor_50 : decode cX12_qFloor 50 = .ok (.goto 5, 3) := by decide +kernel
theorem dX12_qFloor_53 : decode cX12_qFloor 53 = .ok (.lload 4, 2) := by decide +kernel
theorem dX12_qFloor_55 : decode cX12_qFloor 55 = .ok (.lreturn, 1) := by decide +kernel
theorem dX12_qPuts_0 : decode cX12_qPuts 0 = .ok (.aload_n 0, 1) := by decide +kernel
theorem dX12_qPuts_1 : decode cX12_qPuts 1 = .ok (.getfield 254, 3) := by decide +kernel
theorem dX12_qPuts_4 : decode cX12_qPuts 4 = .ok (.aload_n 0, 1) := by decide +kernel
theorem dX12_qPuts_5 : decode cX12_qPuts 5 = .ok (.getfield 431, 3) := by decide +kernel
theorem dX12_qPuts_8 : decode cX12_qPuts 8 = .ok (.lload_n 1, 1) := by decide +kernel
theorem dX12_qPuts_9 : decode cX12_qPuts 9 = .ok (.lastore, 1) := by decide +kernel
theorem dX12_qPuts_10 : decode cX12_qPuts 10 = .ok (.aload_n 0, 1) := by decide +kernel
theorem dX12_qPuts_11 : decode cX12_qPuts 11 = .ok (.dup, 1) := by decide +kernel
theorem dX12_qPuts_12 : decode cX12_qPuts 12 = .ok (.getfield 431, 3) := by decide +kernel
theorem dX12_qPuts_15 : decode cX12_qPuts 15 = .ok (.iconst 1, 1) := by decide +kernel
theorem dX12_qPuts_16 : decode cX12_qPuts 16 = .ok (.iadd, 1) := by decide +kernel
theorem dX12_qPuts_17 : decode cX12_qPuts 17 = .ok (.putfield 431, 3) := by decide +kernel
theorem dX12_qPuts_20 : decode cX12_qPuts 20 = .ok (.return_, 1) := by decide +kernel
theorem dX12_qJoins_0 : decode cX12_qJoins 0 = .ok (.aload_n 0, 1) := by decide +kernel
theorem dX12_qJoins_1 : decode cX12_qJoins 1 = .ok (.getfield 254, 3) := by decide +kernel
theorem dX12_qJoins_4 : decode cX12_qJoins 4 = .ok (.aload_n 0, 1) := by decide +kernel
theorem dX12_qJoins_5 : decode cX12_qJoins 5 = .ok (.getfield 431, 3) := by decide +kernel
theorem dX12_qJoins_8 : decode cX12_qJoins 8 = .ok (.iconst 1, 1) := by decide +kernel
theorem dX12_qJoins_9 : decode cX12_qJoins 9 = .ok (.isub, 1) := by decide +kernel
theorem dX12_qJoins_10 : decode cX12_qJoins 10 = .ok (.laload, 1) := by decide +kernel
theorem dX12_qJoins_11 : decode cX12_qJoins 11 = .ok (.lstore_n 2, 1) := by decide +kernel
theorem dX12_qJoins_12 : decode cX12_qJoins 12 = .ok (.aload_n 0, 1) := by decide +kernel
theorem dX12_qJoins_13 : decode cX12_qJoins 13 = .ok (.getfield 254, 3) := by decide +kernel
theorem dX12_qJoins_16 : decode cX12_qJoins 16 = .ok (.aload_n 0, 1) := by decide +kernel
theorem dX12_qJoins_17 : decode cX12_qJoins 17 = .ok (.getfield 431, 3) := by decide +kernel
theorem dX12_qJoins_20 : decode cX12_qJoins 20 = .ok (.iconst 2, 1) := by decide +kernel
theorem dX12_qJoins_21 : decode cX12_qJoins 21 = .ok (.isub, 1) := by decide +kernel
theorem dX12_qJoins_22 : decode cX12_qJoins 22 = .ok (.laload, 1) := by decide +kernel
theorem dX12_qJoins_23 : decode cX12_qJoins 23 = .ok (.lstore 4, 2) := by decide +kernel
theorem dX12_qJoins_25 : decode cX12_qJoins 25 = .ok (.aload_n 0, 1) := by decide +kernel
theorem dX12_qJoins_26 : decode cX12_qJoins 26 = .ok (.dup, 1) := by decide +kernel
theorem dX12_qJoins_27 : decode cX12_qJoins 27 = .ok (.getfield 431, 3) := by decide +kernel
theorem dX12_qJoins_30 : decode cX12_qJoins 30 = .ok (.iconst 2, 1) := by decide +kernel
theorem dX12_qJoins_31 : decode cX12_qJoins 31 = .ok (.isub, 1) := by decide +kernel
theorem dX12_qJoins_32 : decode cX12_qJoins 32 = .ok (.putfield 431, 3) := by decide +kernel
theorem dX12_qJoins_35 : decode cX12_qJoins 35 = .ok (.iload_n 1, 1) := by decide +kernel
theorem dX12_qJoins_36 : decode cX12_qJoins 36 = .ok (.tableswitch 219 1 10 #[56, 70, 84, 98, 111, 131, 151, 170, 189, 208], 56) := by decide +kernel
theorem dX12_qJoins_92 : decode cX12_qJoins 92 = .ok (.aload_n 0, 1) := by decide +kernel
theorem dX12_qJoins_93 : decode cX12_qJoins 93 = .ok (.lload 4, 2) := by decide +kernel
theorem dX12_qJoins_95 : decode cX12_qJoins 95 = .ok (.lload_n 2, 1) := by decide +kernel
theorem dX12_qJoins_96 : decode cX12_qJoins 96 = .ok (.ladd, 1) := by decide +kernel
theorem dX12_qJoins_97 : decode cX12_qJoins 97 = .ok (.invokestatic 652, 3) := by decide +kernel
theorem dX12_qJoins_100 : decode cX12_qJoins 100 = .ok (.invokevirtual 434, 3) := by decide +kernel
theorem dX12_qJoins_103 : decode cX12_qJoins 103 = .ok (.goto 170, 3) := by decide +kernel
theorem dX12_qJoins_106 : decode cX12_qJoins 106 = .ok (.aload_n 0, 1) := by decide +kernel
theorem dX12_qJoins_107 : decode cX12_qJoins 107 = .ok (.lload 4, 2) := by decide +kernel
theorem dX12_qJoins_109 : decode cX12_qJoins 109 = .ok (.lload_n 2, 1) := by decide +kernel
theorem dX12_qJoins_110 : decode cX12_qJoins 110 = .ok (.lsub, 1) := by decide +kernel
theorem dX12_qJoins_111 : decode cX12_qJoins 111 = .ok (.invokestatic 652, 3) := by decide +kernel
theorem dX12_qJoins_114 : decode cX12_qJoins 114 = .ok (.invokevirtual 434, 3) := by decide +kernel
theorem dX12_qJoins_117 : decode cX12_qJoins 117 = .ok (.goto 156, 3) := by decide +kernel
theorem dX12_qJoins_120 : decode cX12_qJoins 120 = .ok (.aload_n 0, 1) := by decide +kernel
theorem dX12_qJoins_121 : decode cX12_qJoins 121 = .ok (.lload 4, 2) := by decide +kernel
theorem dX12_qJoins_123 : decode cX12_qJoins 123 = .ok (.lload_n 2, 1) := by decide +kernel
theorem dX12_qJoins_124 : decode cX12_qJoins 124 = .ok (.lmul, 1) := by decide +kernel
theorem dX12_qJoins_125 : decode cX12_qJoins 125 = .ok (.invokestatic 652, 3) := by decide +kernel
theorem dX12_qJoins_128 : decode cX12_qJoins 128 = .ok (.invokevirtual 434, 3) := by decide +kernel
theorem dX12_qJoins_131 : decode cX12_qJoins 131 = .ok (.goto 142, 3) := by decide +kernel
theorem dX12_qJoins_134 : decode cX12_qJoins 134 = .ok (.aload_n 0, 1) := by decide +kernel
theorem dX12_qJoins_135 : decode cX12_qJoins 135 = .ok (.lload 4, 2) := by decide +kernel
theorem dX12_qJoins_137 : decode cX12_qJoins 137 = .ok (.lload_n 2, 1) := by decide +kernel
theorem dX12_qJoins_138 : decode cX12_qJoins 138 = .ok (.invokestatic 656, 3) := by decide +kernel
theorem dX12_qJoins_141 : decode cX12_qJoins 141 = .ok (.invokevirtual 434, 3) := by decide +kernel
theorem dX12_qJoins_144 : decode cX12_qJoins 144 = .ok (.goto 129, 3) := by decide +kernel
theorem dX12_qJoins_147 : decode cX12_qJoins 147 = .ok (.aload_n 0, 1) := by decide +kernel
theorem dX12_qJoins_148 : decode cX12_qJoins 148 = .ok (.lload 4, 2) := by decide +kernel
theorem dX12_qJoins_150 : decode cX12_qJoins 150 = .ok (.lload_n 2, 1) := by decide +kernel
theorem dX12_qJoins_151 : decode cX12_qJoins 151 = .ok (.lcmp, 1) := by decide +kernel
theorem dX12_qJoins_152 : decode cX12_qJoins 152 = .ok (.ifCond .ge 8, 3) := by decide +kernel
theorem dX12_qJoins_155 : decode cX12_qJoins 155 = .ok (.lload 4, 2) := by decide +kernel
theorem dX12_qJoins_157 : decode cX12_qJoins 157 = .ok (.goto 4, 3) := by decide +kernel
theorem dX12_qJoins_160 : decode cX12_qJoins 160 = .ok (.lload_n 2, 1) := by decide +kernel
theorem dX12_qJoins_161 : decode cX12_qJoins 161 = .ok (.invokevirtual 434, 3) := by decide +kernel
theorem dX12_qJoins_164 : decode cX12_qJoins 164 = .ok (.goto 109, 3) := by decide +kernel
theorem dX12_qJoins_167 : decode cX12_qJoins 167 = .ok (.aload_n 0, 1) := by decide +kernel
theorem dX12_qJoins_168 : decode cX12_qJoins 168 = .ok (.lload 4, 2) := by decide +kernel
theorem dX12_qJoins_170 : decode cX12_qJoins 170 = .ok (.lload_n 2, 1) := by decide +kernel
theorem dX12_qJoins_171 : decode cX12_qJoins 171 = .ok (.lcmp, 1) := by decide +kernel
theorem dX12_qJoins_172 : decode cX12_qJoins 172 = .ok (.ifCond .le 8, 3) := by decide +kernel
theorem dX12_qJoins_175 : decode cX12_qJoins 175 = .ok (.lload 4, 2) := by decide +kernel
theorem dX12_qJoins_177 : decode cX12_qJoins 177 = .ok (.goto 4, 3) := by decide +kernel
theorem dX12_qJoins_180 : decode cX12_qJoins 180 = .ok (.lload_n 2, 1) := by decide +kernel
theorem dX12_qJoins_181 : decode cX12_qJoins 181 = .ok (.invokevirtual 434, 3) := by decide +kernel
theorem dX12_qJoins_184 : decode cX12_qJoins 184 = .ok (.goto 89, 3) := by decide +kernel
theorem dX12_qJoins_187 : decode cX12_qJoins 187 = .ok (.aload_n 0, 1) := by decide +kernel
theorem dX12_qJoins_188 : decode cX12_qJoins 188 = .ok (.lload 4, 2) := by decide +kernel
theorem dX12_qJoins_190 : decode cX12_qJoins 190 = .ok (.lload_n 2, 1) := by decide +kernel
theorem dX12_qJoins_191 : decode cX12_qJoins 191 = .ok (.lcmp, 1) := by decide +kernel
theorem dX12_qJoins_192 : decode cX12_qJoins 192 = .ok (.ifCond .ge 7, 3) := by decide +kernel
theorem dX12_qJoins_195 : decode cX12_qJoins 195 = .ok (.lconst 1, 1) := by decide +kernel
theorem dX12_qJoins_196 : decode cX12_qJoins 196 = .ok (.goto 4, 3) := by decide +kernel
theorem dX12_qJoins_199 : decode cX12_qJoins 199 = .ok (.lconst 0, 1) := by decide +kernel
theorem dX12_qJoins_200 : decode cX12_qJoins 200 = .ok (.invokevirtual 434, 3) := by decide +kernel
theorem dX12_qJoins_203 : decode cX12_qJoins 203 = .ok (.goto 70, 3) := by decide +kernel
theorem dX12_qJoins_206 : decode cX12_qJoins 206 = .ok (.aload_n 0, 1) := by decide +kernel
theorem dX12_qJoins_207 : decode cX12_qJoins 207 = .ok (.lload 4, 2) := by decide +kernel
theorem dX12_qJoins_209 : decode cX12_qJoins 209 = .ok (.lload_n 2, 1) := by decide +kernel
theorem dX12_qJoins_210 : decode cX12_qJoins 210 = .ok (.lcmp, 1) := by decide +kernel
theorem dX12_qJoins_211 : decode cX12_qJoins 211 = .ok (.ifCond .le 7, 3) := by decide +kernel
theorem dX12_qJoins_214 : decode cX12_qJoins 214 = .ok (.lconst 1, 1) := by decide +kernel
theorem dX12_qJoins_215 : decode cX12_qJoins 215 = .ok (.goto 4, 3) := by decide +kernel
theorem dX12_qJoins_218 : decode cX12_qJoins 218 = .ok (.lconst 0, 1) := by decide +kernel
theorem dX12_qJoins_219 : decode cX12_qJoins 219 = .ok (.invokevirtual 434, 3) := by decide +kernel
theorem dX12_qJoins_222 : decode cX12_qJoins 222 = .ok (.goto 51, 3) := by decide +kernel
theorem dX12_qJoins_225 : decode cX12_qJoins 225 = .ok (.aload_n 0, 1) := by decide +kernel
theorem dX12_qJoins_226 : decode cX12_qJoins 226 = .ok (.lload 4, 2) := by decide +kernel
theorem dX12_qJoins_228 : decode cX12_qJoins 228 = .ok (.lload_n 2, 1) := by decide +kernel
theorem dX12_qJoins_229 : decode cX12_qJoins 229 = .ok (.lcmp, 1) := by decide +kernel
theorem dX12_qJoins_230 : decode cX12_qJoins 230 = .ok (.ifCond .ne 7, 3) := by decide +kernel
theorem dX12_qJoins_233 : decode cX12_qJoins 233 = .ok (.lconst 1, 1) := by decide +kernel
theorem dX12_qJoins_234 : decode cX12_qJoins 234 = .ok (.goto 4, 3) := by decide +kernel
theorem dX12_qJoins_237 : decode cX12_qJoins 237 = .ok (.lconst 0, 1) := by decide +kernel
theorem dX12_qJoins_238 : decode cX12_qJoins 238 = .ok (.invokevirtual 434, 3) := by decide +kernel
theorem dX12_qJoins_241 : decode cX12_qJoins 241 = .ok (.goto 32, 3) := by decide +kernel
theorem dX12_qJoins_244 : decode cX12_qJoins 244 = .ok (.aload_n 0, 1) := by decide +kernel
theorem dX12_qJoins_245 : decode cX12_qJoins 245 = .ok (.lload 4, 2) := by decide +kernel
theorem dX12_qJoins_247 : decode cX12_qJoins 247 = .ok (.lload_n 2, 1) := by decide +kernel
theorem dX12_qJoins_248 : decode cX12_qJoins 248 = .ok (.lmul, 1) := by decide +kernel
theorem dX12_qJoins_249 : decode cX12_qJoins 249 = .ok (.invokevirtual 434, 3) := by decide +kernel
theorem dX12_qJoins_252 : decode cX12_qJoins 252 = .ok (.goto 21, 3) := by decide +kernel
theorem dX12_qJoins_255 : decode cX12_qJoins 255 = .ok (.aload_n 0, 1) := by decide +kernel
theorem dX12_qJoins_256 : decode cX12_qJoins 256 = .ok (.lload 4, 2) := by decide +kernel
theorem dX12_qJoins_258 : decode cX12_qJoins 258 = .ok (.lload_n 2, 1) := by decide +kernel
theorem dX12_qJoins_259 : decode cX12_qJoins 259 = .ok (.ladd, 1) := by decide +kernel
theorem dX12_qJoins_260 : decode cX12_qJoins 260 = .ok (.lconst 0, 1) := by decide +kernel
theorem dX12_qJoins_261 : decode cX12_qJoins 261 = .ok (.lcmp, 1) := by decide +kernel
theorem dX12_qJoins_262 : decode cX12_qJoins 262 = .ok (.ifCond .le 7, 3) := by decide +kernel
theorem dX12_qJoins_265 : decode cX12_qJoins 265 = .ok (.lconst 1, 1) := by decide +kernel
theorem dX12_qJoins_266 : decode cX12_qJoins 266 = .ok (.goto 4, 3) := by decide +kernel
theorem dX12_qJoins_269 : decode cX12_qJoins 269 = .ok (.lconst 0, 1) := by decide +kernel
theorem dX12_qJoins_270 : decode cX12_qJoins 270 = .ok (.invokevirtual 434, 3) := by decide +kernel
theorem dX12_qJoins_273 : decode cX12_qJoins 273 = .ok (.return_, 1) := by decide +kernel
theorem dX12_qPartOf_0 : decode cX12_qPartOf 0 = .ok (.iload_n 1, 1) := by decide +kernel
theorem dX12_qPartOf_1 : decode cX12_qPartOf 1 = .ok (.tableswitch 128 0 8 #[51, 64, 77, 90, 96, 103, 111, 114, 121], 51) := by decide +kernel
theorem dX12_qPartOf_52 : decode cX12_qPartOf 52 = .ok (.aload_n 0, 1) := by decide +kernel
theorem dX12_qPartOf_53 : decode cX12_qPartOf 53 = .ok (.getfield 112, 3) := by decide +kernel
theorem dX12_qPartOf_56 : decode cX12_qPartOf 56 = .ok (.bipush 24, 2) := by decide +kernel
theorem dX12_qPartOf_58 : decode cX12_qPartOf 58 = .ok (.iconst 3, 1) := by decide +kernel
theorem dX12_qPartOf_59 : decode cX12_qPartOf 59 = .ok (.iload_n 2, 1) := by decide +kernel
theorem dX12_qPartOf_60 : decode cX12_qPartOf 60 = .ok (.imul, 1) := by decide +kernel
theorem dX12_qPartOf_61 : decode cX12_qPartOf 61 = .ok (.iadd, 1) := by decide +kernel
theorem dX12_qPartOf_62 : decode cX12_qPartOf 62 = .ok (.iaload, 1) := by decide +kernel
theorem dX12_qPartOf_63 : decode cX12_qPartOf 63 = .ok (.i2l, 1) := by decide +kernel
theorem dX12_qPartOf_64 : decode cX12_qPartOf 64 = .ok (.lreturn, 1) := by decide +kernel
theorem dX12_qPartOf_65 : decode cX12_qPartOf 65 = .ok (.aload_n 0, 1) := by decide +kernel
theorem dX12_qPartOf_66 : decode cX12_qPartOf 66 = .ok (.getfield 112, 3) := by decide +kernel
theorem dX12_qPartOf_69 : decode cX12_qPartOf 69 = .ok (.bipush 25, 2) := by decide +kernel
theorem dX12_qPartOf_71 : decode cX12_qPartOf 71 = .ok (.iconst 3, 1) := by decide +kernel
theorem dX12_qPartOf_72 : decode cX12_qPartOf 72 = .ok (.iload_n 2, 1) := by decide +kernel
theorem dX12_qPartOf_73 : decode cX12_qPartOf 73 = .ok (.imul, 1) := by decide +kernel
theorem dX12_qPartOf_74 : decode cX12_qPartOf 74 = .ok (.iadd, 1) := by decide +kernel
theorem dX12_qPartOf_75 : decode cX12_qPartOf 75 = .ok (.iaload, 1) := by decide +kernel
theorem dX12_qPartOf_76 : decode cX12_qPartOf 76 = .ok (.i2l, 1) := by decide +kernel
theorem dX12_qPartOf_77 : decode cX12_qPartOf 77 = .ok (.lreturn, 1) := by decide +kernel
theorem dX12_qPartOf_78 : decode cX12_qPartOf 78 = .ok (.aload_n 0, 1) := by decide +kernel
theorem dX12_qPartOf_79 : decode cX12_qPartOf 79 = .ok (.getfield 112, 3) := by decide +kernel
theorem dX12_qPartOf_82 : decode cX12_qPartOf 82 = .ok (.bipush 26, 2) := by decide +kernel
theorem dX12_qPartOf_84 : decode cX12_qPartOf 84 = .ok (.iconst 3, 1) := by decide +kernel
theorem dX12_qPartOf_85 : decode cX12_qPartOf 85 = .ok (.iload_n 2, 1) := by decide +kernel
theorem dX12_qPartOf_86 : decode cX12_qPartOf 86 = .ok (.imul, 1) := by decide +kernel
theorem dX12_qPartOf_87 : decode cX12_qPartOf 87 = .ok (.iadd, 1) := by decide +kernel
theorem dX12_qPartOf_88 : decode cX12_qPartOf 88 = .ok (.iaload, 1) := by decide +kernel
theorem dX12_qPartOf_89 : decode cX12_qPartOf 89 = .ok (.i2l, 1) := by decide +kernel
theorem dX12_qPartOf_90 : decode cX12_qPartOf 90 = .ok (.lreturn, 1) := by decide +kernel
theorem dX12_qPartOf_91 : decode cX12_qPartOf 91 = .ok (.aload_n 0, 1) := by decide +kernel
theorem dX12_qPartOf_92 : decode cX12_qPartOf 92 = .ok (.getfield 428, 3) := by decide +kernel
theorem dX12_qPartOf_95 : decode cX12_qPartOf 95 = .ok (.i2l, 1) := by decide +kernel
theorem dX12_qPartOf_96 : decode cX12_qPartOf 96 = .ok (.lreturn, 1) := by decide +kernel
theorem dX12_qPartOf_97 : decode cX12_qPartOf 97 = .ok (.aload_n 0, 1) := by decide +kernel
theorem dX12_qPartOf_98 : decode cX12_qPartOf 98 = .ok (.iload_n 2, 1) := by decide +kernel
theorem dX12_qPartOf_99 : decode cX12_qPartOf 99 = .ok (.invokevirtual 510, 3) := by decide +kernel
theorem dX12_qPartOf_102 : decode cX12_qPartOf 102 = .ok (.i2l, 1) := by decide +kernel
theorem dX12_qPartOf_103 : decode cX12_qPartOf 103 = .ok (.lreturn, 1) := by decide +kernel
theorem dX12_qPartOf_104 : decode cX12_qPartOf 104 = .ok (.aload_n 0, 1) := by decide +kernel
theorem dX12_qPartOf_105 : decode cX12_qPartOf 105 = .ok (.getfield 142, 3) := by decide +kernel
theorem dX12_qPartOf_108 : decode cX12_qPartOf 108 = .ok (.iconst 0, 1) := by decide +kernel
theorem dX12_qPartOf_109 : decode cX12_qPartOf 109 = .ok (.iaload, 1) := by decide +kernel
theorem dX12_qPartOf_110 : decode cX12_qPartOf 110 = .ok (.i2l, 1) := by decide +kernel
theorem dX12_qPartOf_111 : decode cX12_qPartOf 111 = .ok (.lreturn, 1) := by decide +kernel
theorem dX12_qPartOf_112 : decode cX12_qPartOf 112 = .ok (.iload_n 2, 1) := by decide +kernel
theorem dX12_qPartOf_113 : decode cX12_qPartOf 113 = .ok (.i2l, 1) := by decide +kernel
theorem dX12_qPartOf_114 : decode cX12_qPartOf 114 = .ok (.lreturn, 1) := by decide +kernel
theorem dX12_qPartOf_115 : decode cX12_qPartOf 115 = .ok (.aload_n 0, 1) := by decide +kernel
theorem dX12_qPartOf_116 : decode cX12_qPartOf 116 = .ok (.iload_n 2, 1) := by decide +kernel
theorem dX12_qPartOf_117 : decode cX12_qPartOf 117 = .ok (.invokevirtual 504, 3) := by decide +kernel
theorem dX12_qPartOf_120 : decode cX12_qPartOf 120 = .ok (.i2l, 1) := by decide +kernel
theorem dX12_qPartOf_121 : decode cX12_qPartOf 121 = .ok (.lreturn, 1) := by decide +kernel
theorem dX12_qPartOf_122 : decode cX12_qPartOf 122 = .ok (.aload_n 0, 1) := by decide +kernel
theorem dX12_qPartOf_123 : decode cX12_qPartOf 123 = .ok (.iload_n 2, 1) := by decide +kernel
theorem dX12_qPartOf_124 : decode cX12_qPartOf 124 = .ok (.invokevirtual 451, 3) := by decide +kernel
theorem dX12_qPartOf_127 : decode cX12_qPartOf 127 = .ok (.i2l, 1) := by decide +kernel
theorem dX12_qPartOf_128 : decode cX12_qPartOf 128 = .ok (.lreturn, 1) := by decide +kernel
theorem dX12_qPartOf_129 : decode cX12_qPartOf 129 = .ok (.aload_n 0, 1) := by decide +kernel
theorem dX12_qPartOf_130 : decode cX12_qPartOf 130 = .ok (.iload_n 2, 1) := by decide +kernel
theorem dX12_qPartOf_131 : decode cX12_qPartOf 131 = .ok (.invokevirtual 507, 3) := by decide +kernel
theorem dX12_qPartOf_134 : decode cX12_qPartOf 134 = .ok (.i2l, 1) := by decide +kernel
theorem dX12_qPartOf_135 : decode cX12_qPartOf 135 = .ok (.lreturn, 1) := by decide +kernel
theorem dX12_qOf_0 : decode cX12_qOf 0 = .ok (.iload_n 1, 1) := by decide +kernel
theorem dX12_qOf_1 : decode cX12_qOf 1 = .ok (.lookupswitch 11 #[], 11) := by decide +kernel
theorem dX12_qOf_12 : decode cX12_qOf 12 = .ok (.lload_n 2, 1) := by decide +kernel
theorem dX12_qOf_13 : decode cX12_qOf 13 = .ok (.lconst 0, 1) := by decide +kernel
theorem dX12_qOf_14 : decode cX12_qOf 14 = .ok (.aload_n 0, 1) := by decide +kernel
theorem dX12_qOf_15 : decode cX12_qOf 15 = .ok (.invokevirtual 410, 3) := by decide +kernel
theorem dX12_qOf_18 : decode cX12_qOf 18 = .ok (.iconst 1, 1) := by decide +kernel
theorem dX12_qOf_19 : decode cX12_qOf 19 = .ok (.isub, 1) := by decide +kernel
theorem dX12_qOf_20 : decode cX12_qOf 20 = .ok (.i2l, 1) := by decide +kernel
theorem dX12_qOf_21 : decode cX12_qOf 21 = .ok (.invokestatic 303, 3) := by decide +kernel
theorem dX12_qOf_24 : decode cX12_qOf 24 = .ok (.ifCond .eq 15, 3) := by decide +kernel
theorem dX12_qOf_27 : decode cX12_qOf 27 = .ok (.aload_n 0, 1) := by decide +kernel
theorem dX12_qOf_28 : decode cX12_qOf 28 = .ok (.iload 4, 2) := by decide +kernel
theorem dX12_qOf_30 : decode cX12_qOf 30 = .ok (.lload_n 2, 1) := by decide +kernel
theorem dX12_qOf_31 : decode cX12_qOf 31 = .ok (.l2i, 1) := by decide +kernel
theorem dX12_qOf_32 : decode cX12_qOf 32 = .ok (.invokevirtual 425, 3) := by decide +kernel
theorem dX12_qOf_35 : decode cX12_qOf 35 = .ok (.i2l, 1) := by decide +kernel
theorem dX12_qOf_36 : decode cX12_qOf 36 = .ok (.goto 4, 3) := by decide +kernel
theorem dX12_qOf_39 : decode cX12_qOf 39 = .ok (.lconst 0, 1) := by decide +kernel
theorem dX12_qOf_40 : decode cX12_qOf 40 = .ok (.lreturn, 1) := by decide +kernel
theorem dX12_qTold_0 : decode cX12_qTold 0 = .ok (.aload_n 0, 1) := by decide +kernel
theorem dX12_qTold_1 : decode cX12_qTold 1 = .ok (.iconst 0, 1) := by decide +kernel
theorem dX12_qTold_2 : decode cX12_qTold 2 = .ok (.putfield 431, 3) := by decide +kernel
theorem dX12_qTold_5 : decode cX12_qTold 5 = .ok (.iconst 0, 1) := by decide +kernel
theorem dX12_qTold_6 : decode cX12_qTold 6 = .ok (.istore_n 2, 1) := by decide +kernel
theorem dX12_qTold_7 : decode cX12_qTold 7 = .ok (.iload_n 2, 1) := by decide +kernel
theorem dX12_qTold_8 : decode cX12_qTold 8 = .ok (.aload_n 0, 1) := by decide +kernel
theorem dX12_qTold_9 : decode cX12_qTold 9 = .ok (.getfield 352, 3) := by decide +kernel
theorem dX12_qTold_12 : decode cX12_qTold 12 = .ok (.if_icmp .ge 156, 3) := by decide +kernel
theorem dX12_qTold_15 : decode cX12_qTold 15 = .ok (.aload_n 0, 1) := by decide +kernel
theorem dX12_qTold_16 : decode cX12_qTold 16 = .ok (.getfield 248, 3) := by decide +kernel
theorem dX12_qTold_19 : decode cX12_qTold 19 = .ok (.iload_n 2, 1) := by decide +kernel
theorem dX12_qTold_20 : decode cX12_qTold 20 = .ok (.iaload, 1) := by decide +kernel
theorem dX12_qTold_21 : decode cX12_qTold 21 = .ok (.istore_n 3, 1) := by decide +kernel
theorem dX12_qTold_22 : decode cX12_qTold 22 = .ok (.iload_n 3, 1) := by decide +kernel
theorem dX12_qTold_23 : decode cX12_qTold 23 = .ok (.sipush 1000, 3) := by decide +kernel
theorem dX12_qTold_26 : decode cX12_qTold 26 = .ok (.if_icmp .lt 16, 3) := by decide +kernel
theorem dX12_qTold_29 : decode cX12_qTold 29 = .ok (.aload_n 0, 1) := by decide +kernel
theorem dX12_qTold_30 : decode cX12_qTold 30 = .ok (.iload_n 3, 1) := by decide +kernel
theorem dX12_qTold_31 : decode cX12_qTold 31 = .ok (.sipush 1000, 3) := by decide +kernel
theorem dX12_qTold_34 : decode cX12_qTold 34 = .ok (.isub, 1) := by decide +kernel
theorem dX12_qTold_35 : decode cX12_qTold 35 = .ok (.i2l, 1) := by decide +kernel
theorem dX12_qTold_36 : decode cX12_qTold 36 = .ok (.invokevirtual 434, 3) := by decide +kernel
theorem dX12_qTold_39 : decode cX12_qTold 39 = .ok (.goto 123, 3) := by decide +kernel
theorem dX12_qTold_42 : decode cX12_qTold 42 = .ok (.iload_n 3, 1) := by decide +kernel
theorem dX12_qTold_43 : decode cX12_qTold 43 = .ok (.bipush 60, 2) := by decide +kernel
theorem dX12_qTold_45 : decode cX12_qTold 45 = .ok (.if_icmp .lt 40, 3) := by decide +kernel
theorem dX12_qTold_48 : decode cX12_qTold 48 = .ok (.aload_n 0, 1) := by decide +kernel
theorem dX12_qTold_49 : decode cX12_qTold 49 = .ok (.getfield 254, 3) := by decide +kernel
theorem dX12_qTold_52 : decode cX12_qTold 52 = .ok (.aload_n 0, 1) := by decide +kernel
theorem dX12_qTold_53 : decode cX12_qTold 53 = .ok (.getfield 431, 3) := by decide +kernel
theorem dX12_qTold_56 : decode cX12_qTold 56 = .ok (.iconst 1, 1) := by decide +kernel
theorem dX12_qTold_57 : decode cX12_qTold 57 = .ok (.isub, 1) := by decide +kernel
theorem dX12_qTold_58 : decode cX12_qTold 58 = .ok (.aload_n 0, 1) := by decide +kernel
theorem dX12_qTold_59 : decode cX12_qTold 59 = .ok (.iload_n 3, 1) := by decide +kernel
theorem dX12_qTold_60 : decode cX12_qTold 60 = .ok (.bipush 60, 2) := by decide +kernel
theorem dX12_qTold_62 : decode cX12_qTold 62 = .ok (.isub, 1) := by decide +kernel
theorem dX12_qTold_63 : decode cX12_qTold 63 = .ok (.aload_n 0, 1) := by decide +kernel
theorem dX12_qTold_64 : decode cX12_qTold 64 = .ok (.getfield 254, 3) := by decide +kernel
theorem dX12_qTold_67 : decode cX12_qTold 67 = .ok (.aload_n 0, 1) := by decide +kernel
theorem dX12_qTold_68 : decode cX12_qTold 68 = .ok (.getfield 431, 3) := by decide +kernel
theorem dX12_qTold_71 : decode cX12_qTold 71 = .ok (.iconst 1, 1) := by decide +kernel
theorem dX12_qTold_72 : decode cX12_qTold 72 = .ok (.isub, 1) := by decide +kernel
theorem dX12_qTold_73 : decode cX12_qTold 73 = .ok (.laload, 1) := by decide +kernel
theorem dX12_qTold_74 : decode cX12_qTold 74 = .ok (.iload_n 1, 1) := by decide +kernel
theorem dX12_qTold_75 : decode cX12_qTold 75 = .ok (.invokevirtual 660, 3) := by decide +kernel
theorem dX12_qTold_78 : decode cX12_qTold 78 = .ok (.invokestatic 652, 3) := by decide +kernel
theorem dX12_qTold_81 : decode cX12_qTold 81 = .ok (.lastore, 1) := by decide +kernel
theorem dX12_qTold_82 : decode cX12_qTold 82 = .ok (.goto 80, 3) := by decide +kernel
theorem dX12_qTold_85 : decode cX12_qTold 85 = .ok (.iload_n 3, 1) := by decide +kernel
theorem dX12_qTold_86 : decode cX12_qTold 86 = .ok (.bipush 40, 2) := by decide +kernel
theorem dX12_qTold_88 : decode cX12_qTold 88 = .ok (.if_icmp .lt 22, 3) := by decide +kernel
theorem dX12_qTold_91 : decode cX12_qTold 91 = .ok (.aload_n 0, 1) := by decide +kernel
theorem dX12_qTold_92 : decode cX12_qTold 92 = .ok (.aload_n 0, 1) := by decide +kernel
theorem dX12_qTold_93 : decode cX12_qTold 93 = .ok (.iload_n 3, 1) := by decide +kernel
theorem dX12_qTold_94 : decode cX12_qTold 94 = .ok (.bipush 40, 2) := by decide +kernel
theorem dX12_qTold_96 : decode cX12_qTold 96 = .ok (.isub, 1) := by decide +kernel
theorem dX12_qTold_97 : decode cX12_qTold 97 = .ok (.iload_n 1, 1) := by decide +kernel
theorem dX12_qTold_98 : decode cX12_qTold 98 = .ok (.invokevirtual 438, 3) := by decide +kernel
theorem dX12_qTold_101 : decode cX12_qTold 101 = .ok (.invokestatic 652, 3) := by decide +kernel
theorem dX12_qTold_104 : decode cX12_qTold 104 = .ok (.invokevirtual 434, 3) := by decide +kernel
theorem dX12_qTold_107 : decode cX12_qTold 107 = .ok (.goto 55, 3) := by decide +kernel
theorem dX12_qTold_110 : decode cX12_qTold 110 = .ok (.iload_n 3, 1) := by decide +kernel
theorem dX12_qTold_111 : decode cX12_qTold 111 = .ok (.bipush 13, 2) := by decide +kernel
theorem dX12_qTold_113 : decode cX12_qTold 113 = .ok (.if_icmp .ne 11, 3) := by decide +kernel
theorem dX12_qTold_116 : decode cX12_qTold 116 = .ok (.aload_n 0, 1) := by decide +kernel
theorem dX12_qTold_117 : decode cX12_qTold 117 = .ok (.lconst 1, 1) := by decide +kernel
theorem dX12_qTold_118 : decode cX12_qTold 118 = .ok (.invokevirtual 434, 3) := by decide +kernel
theorem dX12_qTold_121 : decode cX12_qTold 121 = .ok (.goto 41, 3) := by decide +kernel
theorem dX12_qTold_124 : decode cX12_qTold 124 = .ok (.iload_n 3, 1) := by decide +kernel
theorem dX12_qTold_125 : decode cX12_qTold 125 = .ok (.bipush 12, 2) := by decide +kernel
theorem dX12_qTold_127 : decode cX12_qTold 127 = .ok (.if_icmp .ne 30, 3) := by decide +kernel
theorem dX12_qTold_130 : decode cX12_qTold 130 = .ok (.aload_n 0, 1) := by decide +kernel
theorem dX12_qTold_131 : decode cX12_qTold 131 = .ok (.getfield 254, 3) := by decide +kernel
theorem dX12_qTold_134 : decode cX12_qTold 134 = .ok (.aload_n 0, 1) := by decide +kernel
theorem dX12_qTold_135 : decode cX12_qTold 135 = .ok (.getfield 431, 3) := by decide +kernel
theorem dX12_qTold_138 : decode cX12_qTold 138 = .ok (.iconst 1, 1) := by decide +kernel
theorem dX12_qTold_139 : decode cX12_qTold 139 = .ok (.isub, 1) := by decide +kernel
theorem dX12_qTold_140 : decode cX12_qTold 140 = .ok (.lconst 1, 1) := by decide +kernel
theorem dX12_qTold_141 : decode cX12_qTold 141 = .ok (.aload_n 0, 1) := by decide +kernel
theorem dX12_qTold_142 : decode cX12_qTold 142 = .ok (.getfield 254, 3) := by decide +kernel
theorem dX12_qTold_145 : decode cX12_qTold 145 = .ok (.aload_n 0, 1) := by decide +kernel
theorem dX12_qTold_146 : decode cX12_qTold 146 = .ok (.getfield 431, 3) := by decide +kernel
theorem dX12_qTold_149 : decode cX12_qTold 149 = .ok (.iconst 1, 1) := by decide +kernel
theorem dX12_qTold_150 : decode cX12_qTold 150 = .ok (.isub, 1) := by decide +kernel
theorem dX12_qTold_151 : decode cX12_qTold 151 = .ok (.laload, 1) := by decide +kernel
theorem dX12_qTold_152 : decode cX12_qTold 152 = .ok (.lsub, 1) := by decide +kernel
theorem dX12_qTold_153 : decode cX12_qTold 153 = .ok (.lastore, 1) := by decide +kernel
theorem dX12_qTold_154 : decode cX12_qTold 154 = .ok (.goto 8, 3) := by decide +kernel
theorem dX12_qTold_157 : decode cX12_qTold 157 = .ok (.aload_n 0, 1) := by decide +kernel
theorem dX12_qTold_158 : decode cX12_qTold 158 = .ok (.iload_n 3, 1) := by decide +kernel
theorem dX12_qTold_159 : decode cX12_qTold 159 = .ok (.invokevirtual 442, 3) := by decide +kernel
theorem dX12_qTold_162 : decode cX12_qTold 162 = .ok (.iinc 2 1, 3) := by decide +kernel
theorem dX12_qTold_165 : decode cX12_qTold 165 = .ok (.goto (-158), 3) := by decide +kernel
theorem dX12_qTold_168 : decode cX12_qTold 168 = .ok (.aload_n 0, 1) := by decide +kernel
theorem dX12_qTold_169 : decode cX12_qTold 169 = .ok (.getfield 254, 3) := by decide +kernel
theorem dX12_qTold_172 : decode cX12_qTold 172 = .ok (.iconst 0, 1) := by decide +kernel
theorem dX12_qTold_173 : decode cX12_qTold 173 = .ok (.laload, 1) := by decide +kernel
theorem dX12_qTold_174 : decode cX12_qTold 174 = .ok (.lreturn, 1) := by decide +kernel
theorem dX12_qKind_0 : decode cX12_qKind 0 = .ok (.aload_n 0, 1) := by decide +kernel
theorem dX12_qKind_1 : decode cX12_qKind 1 = .ok (.aload_n 0, 1) := by decide +kernel
theorem dX12_qKind_2 : decode cX12_qKind 2 = .ok (.getfield 179, 3) := by decide +kernel
theorem dX12_qKind_5 : decode cX12_qKind 5 = .ok (.invokevirtual 290, 3) := by decide +kernel
theorem dX12_qKind_8 : decode cX12_qKind 8 = .ok (.ifCond .eq 7, 3) := by decide +kernel
theorem dX12_qKind_11 : decode cX12_qKind 11 = .ok (.iconst 0, 1) := by decide +kernel
theorem dX12_qKind_12 : decode cX12_qKind 12 = .ok (.goto 64, 3) := by decide +kernel
theorem dX12_qKind_15 : decode cX12_qKind 15 = .ok (.aload_n 0, 1) := by decide +kernel
theorem dX12_qKind_16 : decode cX12_qKind 16 = .ok (.aload_n 0, 1) := by decide +kernel
theorem dX12_qKind_17 : decode cX12_qKind 17 = .ok (.getfield 182, 3) := by decide +kernel
theorem dX12_qKind_20 : decode cX12_qKind 20 = .ok (.invokevirtual 290, 3) := by decide +kernel
theorem dX12_qKind_23 : decode cX12_qKind 23 = .ok (.ifCond .eq 7, 3) := by decide +kernel
theorem dX12_qKind_26 : decode cX12_qKind 26 = .ok (.iconst 1, 1) := by decide +kernel
theorem dX12_qKind_27 : decode cX12_qKind 27 = .ok (.goto 49, 3) := by decide +kernel
theorem dX12_qKind_30 : decode cX12_qKind 30 = .ok (.aload_n 0, 1) := by decide +kernel
theorem dX12_qKind_31 : decode cX12_qKind 31 = .ok (.aload_n 0, 1) := by decide +kernel
theorem dX12_qKind_32 : decode cX12_qKind 32 = .ok (.getfield 185, 3) := by decide +kernel
theorem dX12_qKind_35 : decode cX12_qKind 35 = .ok (.invokevirtual 290, 3) := by decide +kernel
theorem dX12_qKind_38 : decode cX12_qKind 38 = .ok (.ifCond .eq 7, 3) := by decide +kernel
theorem dX12_qKind_41 : decode cX12_qKind 41 = .ok (.iconst 2, 1) := by decide +kernel
theorem dX12_qKind_42 : decode cX12_qKind 42 = .ok (.goto 34, 3) := by decide +kernel
theorem dX12_qKind_45 : decode cX12_qKind 45 = .ok (.aload_n 0, 1) := by decide +kernel
theorem dX12_qKind_46 : decode cX12_qKind 46 = .ok (.aload_n 0, 1) := by decide +kernel
theorem dX12_qKind_47 : decode cX12_qKind 47 = .ok (.getfield 188, 3) := by decide +kernel
theorem dX12_qKind_50 : decode cX12_qKind 50 = .ok (.invokevirtual 290, 3) := by decide +kernel
theorem dX12_qKind_53 : decode cX12_qKind 53 = .ok (.ifCond .eq 7, 3) := by decide +kernel
theorem dX12_qKind_56 : decode cX12_qKind 56 = .ok (.iconst 3, 1) := by decide +kernel
theorem dX12_qKind_57 : decode cX12_qKind 57 = .ok (.goto 19, 3) := by decide +kernel
theorem dX12_qKind_60 : decode cX12_qKind 60 = .ok (.aload_n 0, 1) := by decide +kernel
theorem dX12_qKind_61 : decode cX12_qKind 61 = .ok (.aload_n 0, 1) := by decide +kernel
theorem dX12_qKind_62 : decode cX12_qKind 62 = .ok (.getfield 191, 3) := by decide +kernel
theorem dX12_qKind_65 : decode cX12_qKind 65 = .ok (.invokevirtual 290, 3) := by decide +kernel
theorem dX12_qKind_68 : decode cX12_qKind 68 = .ok (.ifCond .eq 7, 3) := by decide +kernel
theorem dX12_qKind_71 : decode cX12_qKind 71 = .ok (.iconst 4, 1) := by decide +kernel
theorem dX12_qKind_72 : decode cX12_qKind 72 = .ok (.goto 4, 3) := by decide +kernel
theorem dX12_qKind_75 : decode cX12_qKind 75 = .ok (.iconst 5, 1) := by decide +kernel
theorem dX12_qKind_76 : decode cX12_qKind 76 = .ok (.istore_n 1, 1) := by decide +kernel
theorem dX12_qKind_77 : decode cX12_qKind 77 = .ok (.iload_n 1, 1) := by decide +kernel
theorem dX12_qKind_78 : decode cX12_qKind 78 = .ok (.iconst 5, 1) := by decide +kernel
theorem dX12_qKind_79 : decode cX12_qKind 79 = .ok (.if_icmp .ne 11, 3) := by decide +kernel
theorem dX12_qKind_82 : decode cX12_qKind 82 = .ok (.aload_n 0, 1) := by decide +kernel
theorem dX12_qKind_83 : decode cX12_qKind 83 = .ok (.aload_n 0, 1) := by decide +kernel
theorem dX12_qKind_84 : decode cX12_qKind 84 = .ok (.getfield 194, 3) := by decide +kernel
theorem dX12_qKind_87 : decode cX12_qKind 87 = .ok (.invokevirtual 337, 3) := by decide +kernel
theorem dX12_qKind_90 : decode cX12_qKind 90 = .ok (.iload_n 1, 1) := by decide +kernel
theorem dX12_qKind_91 : decode cX12_qKind 91 = .ok (.ireturn, 1) := by decide +kernel
theorem dX12_qTakes_0 : decode cX12_qTakes 0 = .ok (.iload_n 1, 1) := by decide +kernel
theorem dX12_qTakes_1 : decode cX12_qTakes 1 = .ok (.iconst 3, 1) := by decide +kernel
theorem dX12_qTakes_2 : decode cX12_qTakes 2 = .ok (.if_icmp .ge 13, 3) := by decide +kernel
theorem dX12_qTakes_5 : decode cX12_qTakes 5 = .ok (.lload_n 2, 1) := by decide +kernel
theorem dX12_qTakes_6 : decode cX12_qTakes 6 = .ok (.lconst 1, 1) := by decide +kernel
theorem dX12_qTakes_7 : decode cX12_qTakes 7 = .ok (.lcmp, 1) := by decide +kernel
theorem dX12_qTakes_8 : decode cX12_qTakes 8 = .ok (.ifCond .ne 7, 3) := by decide +kernel
theorem dX12_qTakes_11 : decode cX12_qTakes 11 = .ok (.iconst 1, 1) := by decide +kernel
theorem dX12_qTakes_12 : decode cX12_qTakes 12 = .ok (.goto 4, 3) := by decide +kernel
theorem dX12_qTakes_15 : decode cX12_qTakes 15 = .ok (.iconst 0, 1) := by decide +kernel
theorem dX12_qTakes_16 : decode cX12_qTakes 16 = .ok (.istore 5, 2) := by decide +kernel
theorem dX12_qTakes_18 : decode cX12_qTakes 18 = .ok (.iload_n 1, 1) := by decide +kernel
theorem dX12_qTakes_19 : decode cX12_qTakes 19 = .ok (.ifCond .ne 19, 3) := by decide +kernel
theorem dX12_qTakes_22 : decode cX12_qTakes 22 = .ok (.iload 5, 2) := by decide +kernel
theorem dX12_qTakes_24 : decode cX12_qTakes 24 = .ok (.ifCond .eq 14, 3) := by decide +kernel
theorem dX12_qTakes_27 : decode cX12_qTakes 27 = .ok (.aload_n 0, 1) := by decide +kernel
theorem dX12_qTakes_28 : decode cX12_qTakes 28 = .ok (.getfield 664, 3) := by decide +kernel
theorem dX12_qTakes_31 : decode cX12_qTakes 31 = .ok (.ldc2_w 667, 3) := by decide +kernel
theorem dX12_qTakes_34 : decode cX12_qTakes 34 = .ok (.lcmp, 1) := by decide +kernel
theorem dX12_qTakes_35 : decode cX12_qTakes 35 = .ok (.ifCond .eq 13, 3) := by decide +kernel
theorem dX12_qTakes_38 : decode cX12_qTakes 38 = .ok (.iload_n 1, 1) := by decide +kernel
theorem dX12_qTakes_39 : decode cX12_qTakes 39 = .ok (.iconst 1, 1) := by decide +kernel
theorem dX12_qTakes_40 : decode cX12_qTakes 40 = .ok (.if_icmp .ne 15, 3) := by decide +kernel
theorem dX12_qTakes_43 : decode cX12_qTakes 43 = .ok (.iload 5, 2) := by decide +kernel
theorem dX12_qTakes_45 : decode cX12_qTakes 45 = .ok (.ifCond .eq 10, 3) := by decide +kernel
theorem dX12_qTakes_48 : decode cX12_qTakes 48 = .ok (.aload_n 0, 1) := by decide +kernel
theorem dX12_qTakes_49 : decode cX12_qTakes 49 = .ok (.iload 4, 2) := by decide +kernel
theorem dX12_qTakes_51 : decode cX12_qTakes 51 = .ok (.i2l, 1) := by decide +kernel
theorem dX12_qTakes_52 : decode cX12_qTakes 52 = .ok (.putfield 664, 3) := by decide +kernel
theorem dX12_qTakes_55 : decode cX12_qTakes 55 = .ok (.iload_n 1, 1) := by decide +kernel
theorem dX12_qTakes_56 : decode cX12_qTakes 56 = .ok (.iconst 2, 1) := by decide +kernel
theorem dX12_qTakes_57 : decode cX12_qTakes 57 = .ok (.if_icmp .ne 18, 3) := by decide +kernel
theorem dX12_qTakes_60 : decode cX12_qTakes 60 = .ok (.iload 5, 2) := by decide +kernel
theorem dX12_qTakes_62 : decode cX12_qTakes 62 = .ok (.ifCond .eq 13, 3) := by decide +kernel
theorem dX12_qTakes_65 : decode cX12_qTakes 65 = .ok (.aload_n 0, 1) := by decide +kernel
theorem dX12_qTakes_66 : decode cX12_qTakes 66 = .ok (.dup, 1) := by decide +kernel
theorem dX12_qTakes_67 : decode cX12_qTakes 67 = .ok (.getfield 664, 3) := by decide +kernel
theorem dX12_qTakes_70 : decode cX12_qTakes 70 = .ok (.lconst 1, 1) := by decide +kernel
theorem dX12_qTakes_71 : decode cX12_qTakes 71 = .ok (.ladd, 1) := by decide +kernel
theorem dX12_qTakes_72 : decode cX12_qTakes 72 = .ok (.putfield 664, 3) := by decide +kernel
theorem dX12_qTakes_75 : decode cX12_qTakes 75 = .ok (.iload_n 1, 1) := by decide +kernel
theorem dX12_qTakes_76 : decode cX12_qTakes 76 = .ok (.iconst 3, 1) := by decide +kernel
theorem dX12_qTakes_77 : decode cX12_qTakes 77 = .ok (.if_icmp .ne 13, 3) := by decide +kernel
theorem dX12_qTakes_80 : decode cX12_qTakes 80 = .ok (.aload_n 0, 1) := by decide +kernel
theorem dX12_qTakes_81 : decode cX12_qTakes 81 = .ok (.dup, 1) := by decide +kernel
theorem dX12_qTakes_82 : decode cX12_qTakes 82 = .ok (.getfield 664, 3) := by decide +kernel
theorem dX12_qTakes_85 : decode cX12_qTakes 85 = .ok (.lload_n 2, 1) := by decide +kernel
theorem dX12_qTakes_86 : decode cX12_qTakes 86 = .ok (.ladd, 1) := by decide +kernel
theorem dX12_qTakes_87 : decode cX12_qTakes 87 = .ok (.putfield 664, 3) := by decide +kernel
theorem dX12_qTakes_90 : decode cX12_qTakes 90 = .ok (.iload_n 1, 1) := by decide +kernel
theorem dX12_qTakes_91 : decode cX12_qTakes 91 = .ok (.iconst 3, 1) := by decide +kernel
theorem dX12_qTakes_92 : decode cX12_qTakes 92 = .ok (.if_icmp .le 41, 3) := by decide +kernel
theorem dX12_qTakes_95 : decode cX12_qTakes 95 = .ok (.aload_n 0, 1) := by decide +kernel
theorem dX12_qTakes_96 : decode cX12_qTakes 96 = .ok (.getfield 669, 3) := by decide +kernel
theorem dX12_qTakes_99 : decode cX12_qTakes 99 = .ok (.ifCond .ne 29, 3) := by decide +kernel
theorem dX12_qTakes_102 : decode cX12_qTakes 102 = .ok (.iload_n 1, 1) := by decide +kernel
theorem dX12_qTakes_103 : decode cX12_qTakes 103 = .ok (.iconst 4, 1) := by decide +kernel
theorem dX12_qTakes_104 : decode cX12_qTakes 104 = .ok (.if_icmp .ne 15, 3) := by decide +kernel
theorem dX12_qTakes_107 : decode cX12_qTakes 107 = .ok (.lload_n 2, 1) := by decide +kernel
theorem dX12_qTakes_108 : decode cX12_qTakes 108 = .ok (.aload_n 0, 1) := by decide +kernel
theorem dX12_qTakes_109 : decode cX12_qTakes 109 = .ok (.getfield 664, 3) := by decide +kernel
theorem dX12_qTakes_112 : decode cX12_qTakes 112 = .ok (.lcmp, 1) := by decide +kernel
theorem dX12_qTakes_113 : decode cX12_qTakes 113 = .ok (.ifCond .le 20, 3) := by decide +kernel
theorem dX12_qTakes_116 : decode cX12_qTakes 116 = .ok (.goto 12, 3) := by decide +kernel
theorem dX12_qTakes_119 : decode cX12_qTakes 119 = .ok (.lload_n 2, 1) := by decide +kernel
theorem dX12_qTakes_120 : decode cX12_qTakes 120 = .ok (.aload_n 0, 1) := by decide +kernel
theorem dX12_qTakes_121 : decode cX12_qTakes 121 = .ok (.getfield 664, 3) := by decide +kernel
theorem dX12_qTakes_124 : decode cX12_qTakes 124 = .ok (.lcmp, 1) := by decide +kernel
theorem dX12_qTakes_125 : decode cX12_qTakes 125 = .ok (.ifCond .ge 8, 3) := by decide +kernel
theorem dX12_qTakes_128 : decode cX12_qTakes 128 = .ok (.aload_n 0, 1) := by decide +kernel
theorem dX12_qTakes_129 : decode cX12_qTakes 129 = .ok (.lload_n 2, 1) := by decide +kernel
theorem dX12_qTakes_130 : decode cX12_qTakes 130 = .ok (.putfield 664, 3) := by decide +kernel
theorem dX12_qTakes_133 : decode cX12_qTakes 133 = .ok (.aload_n 0, 1) := by decide +kernel
theorem dX12_qTakes_134 : decode cX12_qTakes 134 = .ok (.iconst 0, 1) := by decide +kernel
theorem dX12_qTakes_135 : decode cX12_qTakes 135 = .ok (.putfield 669, 3) := by decide +kernel
theorem dX12_qTakes_138 : decode cX12_qTakes 138 = .ok (.return_, 1) := by decide +kernel
theorem dX12_ask_0 : decode cX12_ask 0 = .ok (.aload_n 0, 1) := by decide +kernel
theorem dX12_ask_1 : decode cX12_ask 1 = .ok (.aload_n 0, 1) := by decide +kernel
theorem dX12_ask_2 : decode cX12_ask 2 = .ok (.getfield 260, 3) := by decide +kernel
theorem dX12_ask_5 : decode cX12_ask 5 = .ok (.putfield 272, 3) := by decide +kernel
theorem dX12_ask_8 : decode cX12_ask 8 = .ok (.aload_n 0, 1) := by decide +kernel
theorem dX12_ask_9 : decode cX12_ask 9 = .ok (.iconst 0, 1) := by decide +kernel
theorem dX12_ask_10 : decode cX12_ask 10 = .ok (.putfield 260, 3) := by decide +kernel
theorem dX12_ask_13 : decode cX12_ask 13 = .ok (.aload_n 0, 1) := by decide +kernel
theorem dX12_ask_14 : decode cX12_ask 14 = .ok (.iconst 0, 1) := by decide +kernel
theorem dX12_ask_15 : decode cX12_ask 15 = .ok (.putfield 269, 3) := by decide +kernel
theorem dX12_ask_18 : decode cX12_ask 18 = .ok (.aload_n 0, 1) := by decide +kernel
theorem dX12_ask_19 : decode cX12_ask 19 = .ok (.iconst (-1), 1) := by decide +kernel
theorem dX12_ask_20 : decode cX12_ask 20 = .ok (.putfield 283, 3) := by decide +kernel
theorem dX12_ask_23 : decode cX12_ask 23 = .ok (.aload_n 0, 1) := by decide +kernel
theorem dX12_ask_24 : decode cX12_ask 24 = .ok (.iconst 0, 1) := by decide +kernel
theorem dX12_ask_25 : decode cX12_ask 25 = .ok (.putfield 263, 3) := by decide +kernel
theorem dX12_ask_28 : decode cX12_ask 28 = .ok (.aload_n 0, 1) := by decide +kernel
theorem dX12_ask_29 : decode cX12_ask 29 = .ok (.iconst (-1), 1) := by decide +kernel
theorem dX12_ask_30 : decode cX12_ask 30 = .ok (.putfield 266, 3) := by decide +kernel
theorem dX12_ask_33 : decode cX12_ask 33 = .ok (.aload_n 0, 1) := by decide +kernel
theorem dX12_ask_34 : decode cX12_ask 34 = .ok (.iconst 0, 1) := by decide +kernel
theorem dX12_ask_35 : decode cX12_ask 35 = .ok (.putfield 318, 3) := by decide +kernel
theorem dX12_ask_38 : decode cX12_ask 38 = .ok (.aload_n 0, 1) := by decide +kernel
theorem dX12_ask_39 : decode cX12_ask 39 = .ok (.iconst 0, 1) := by decide +kernel
theorem dX12_ask_40 : decode cX12_ask 40 = .ok (.putfield 352, 3) := by decide +kernel
theorem dX12_ask_43 : decode cX12_ask 43 = .ok (.aload_n 0, 1) := by decide +kernel
theorem dX12_ask_44 : decode cX12_ask 44 = .ok (.iconst 0, 1) := by decide +kernel
theorem dX12_ask_45 : decode cX12_ask 45 = .ok (.putfield 355, 3) := by decide +kernel
theorem dX12_ask_48 : decode cX12_ask 48 = .ok (.aload_n 0, 1) := by decide +kernel
theorem dX12_ask_49 : decode cX12_ask 49 = .ok (.iconst 0, 1) := by decide +kernel
theorem dX12_ask_50 : decode cX12_ask 50 = .ok (.putfield 358, 3) := by decide +kernel
theorem dX12_ask_53 : decode cX12_ask 53 = .ok (.aload_n 0, 1) := by decide +kernel
theorem dX12_ask_54 : decode cX12_ask 54 = .ok (.iconst 0, 1) := by decide +kernel
theorem dX12_ask_55 : decode cX12_ask 55 = .ok (.putfield 361, 3) := by decide +kernel
theorem dX12_ask_58 : decode cX12_ask 58 = .ok (.aload_n 0, 1) := by decide +kernel
theorem dX12_ask_59 : decode cX12_ask 59 = .ok (.invokevirtual 672, 3) := by decide +kernel
theorem dX12_ask_62 : decode cX12_ask 62 = .ok (.istore_n 1, 1) := by decide +kernel
theorem dX12_ask_63 : decode cX12_ask 63 = .ok (.aload_n 0, 1) := by decide +kernel
theorem dX12_ask_64 : decode cX12_ask 64 = .ok (.getfield 263, 3) := by decide +kernel
theorem dX12_ask_67 : decode cX12_ask 67 = .ok (.ifCond .ne 15, 3) := by decide +kernel
theorem dX12_ask_70 : decode cX12_ask 70 = .ok (.iload_n 1, 1) := by decide +kernel
theorem dX12_ask_71 : decode cX12_ask 71 = .ok (.iconst 3, 1) := by decide +kernel
theorem dX12_ask_72 : decode cX12_ask 72 = .ok (.if_icmp .ge 10, 3) := by decide +kernel
theorem dX12_ask_75 : decode cX12_ask 75 = .ok (.aload_n 0, 1) := by decide +kernel
theorem dX12_ask_76 : decode cX12_ask 76 = .ok (.invokevirtual 675, 3) := by decide +kernel
theorem dX12_ask_79 : decode cX12_ask 79 = .ok (.goto 14, 3) := by decide +kernel
theorem dX12_ask_82 : decode cX12_ask 82 = .ok (.aload_n 0, 1) := by decide +kernel
theorem dX12_ask_83 : decode cX12_ask 83 = .ok (.getfield 263, 3) := by decide +kernel
theorem dX12_ask_86 : decode cX12_ask 86 = .ok (.ifCond .ne 7, 3) := by decide +kernel
theorem dX12_ask_89 : decode cX12_ask 89 = .ok (.aload_n 0, 1) := by decide +kernel
theorem dX12_ask_90 : decode cX12_ask 90 = .ok (.invokevirtual 364, 3) := by decide +kernel
theorem dX12_ask_93 : decode cX12_ask 93 = .ok (.aload_n 0, 1) := by decide +kernel
theorem dX12_ask_94 : decode cX12_ask 94 = .ok (.getfield 263, 3) := by decide +kernel
theorem dX12_ask_97 : decode cX12_ask 97 = .ok (.ifCond .ne 20, 3) := by decide +kernel
theorem dX12_ask_100 : decode cX12_ask 100 = .ok (.aload_n 0, 1) := by decide +kernel
theorem dX12_ask_101 : decode cX12_ask 101 = .ok (.invokevirtual 275, 3) := by decide +kernel
theorem dX12_ask_104 : decode cX12_ask 104 = .ok (.iconst (-1), 1) := by decide +kernel
theorem dX12_ask_105 : decode cX12_ask 105 = .ok (.if_icmp .eq 12, 3) := by decide +kernel
theorem dX12_ask_108 : decode cX12_ask 108 = .ok (.aload_n 0, 1) := by decide +kernel
theorem dX12_ask_109 : decode cX12_ask 109 = .ok (.iconst 1, 1) := by decide +kernel
theorem dX12_ask_110 : decode cX12_ask 110 = .ok (.aload_n 0, 1) := by decide +kernel
theorem dX12_ask_111 : decode cX12_ask 111 = .ok (.getfield 269, 3) := by decide +kernel
theorem dX12_ask_114 : decode cX12_ask 114 = .ok (.invokevirtual 293, 3) := by decide +kernel
theorem dX12_ask_117 : decode cX12_ask 117 = .ok (.aload_n 0, 1) := by decide +kernel
theorem dX12_ask_118 : decode cX12_ask 118 = .ok (.aload_n 0, 1) := by decide +kernel
theorem dX12_ask_119 : decode cX12_ask 119 = .ok (.getfield 263, 3) := by decide +kernel
theorem dX12_ask_122 : decode cX12_ask 122 = .ok (.putfield 401, 3) := by decide +kernel
theorem dX12_ask_125 : decode cX12_ask 125 = .ok (.aload_n 0, 1) := by decide +kernel
theorem dX12_ask_126 : decode cX12_ask 126 = .ok (.aload_n 0, 1) := by decide +kernel
theorem dX12_ask_127 : decode cX12_ask 127 = .ok (.getfield 266, 3) := by decide +kernel
theorem dX12_ask_130 : decode cX12_ask 130 = .ok (.putfield 13, 3) := by decide +kernel
theorem dX12_ask_133 : decode cX12_ask 133 = .ok (.aload_n 0, 1) := by decide +kernel
theorem dX12_ask_134 : decode cX12_ask 134 = .ok (.getfield 263, 3) := by decide +kernel
theorem dX12_ask_137 : decode cX12_ask 137 = .ok (.ifCond .eq 7, 3) := by decide +kernel
theorem dX12_ask_140 : decode cX12_ask 140 = .ok (.ldc2_w 519, 3) := by decide +kernel
theorem dX12_ask_143 : decode cX12_ask 143 = .ok (.lreturn, 1) := by decide +kernel
theorem dX12_ask_144 : decode cX12_ask 144 = .ok (.aload_n 0, 1) := by decide +kernel
theorem dX12_ask_145 : decode cX12_ask 145 = .ok (.iload_n 1, 1) := by decide +kernel
theorem dX12_ask_146 : decode cX12_ask 146 = .ok (.iconst 2, 1) := by decide +kernel
theorem dX12_ask_147 : decode cX12_ask 147 = .ok (.if_icmp .ge 9, 3) := by decide +kernel
theorem dX12_ask_150 : decode cX12_ask 150 = .ok (.ldc2_w 667, 3) := by decide +kernel
theorem dX12_ask_153 : decode cX12_ask 153 = .ok (.goto 4, 3) := by decide +kernel
theorem dX12_ask_156 : decode cX12_ask 156 = .ok (.lconst 0, 1) := by decide +kernel
theorem dX12_ask_157 : decode cX12_ask 157 = .ok (.putfield 664, 3) := by decide +kernel
theorem dX12_ask_160 : decode cX12_ask 160 = .ok (.aload_n 0, 1) := by decide +kernel
theorem dX12_ask_161 : decode cX12_ask 161 = .ok (.iconst 1, 1) := by decide +kernel
theorem dX12_ask_162 : decode cX12_ask 162 = .ok (.putfield 669, 3) := by decide +kernel
theorem dX12_ask_165 : decode cX12_ask 165 = .ok (.aload_n 0, 1) := by decide +kernel
theorem dX12_ask_166 : decode cX12_ask 166 = .ok (.iconst 0, 1) := by decide +kernel
theorem dX12_ask_167 : decode cX12_ask 167 = .ok (.putfield 318, 3) := by decide +kernel
theorem dX12_ask_170 : decode cX12_ask 170 = .ok (.iconst 0, 1) := by decide +kernel
theorem dX12_ask_171 : decode cX12_ask 171 = .ok (.istore_n 2, 1) := by decide +kernel
theorem dX12_ask_172 : decode cX12_ask 172 = .ok (.iload_n 2, 1) := by decide +kernel
theorem dX12_ask_173 : decode cX12_ask 173 = .ok (.aload_n 0, 1) := by decide +kernel
theorem dX12_ask_174 : decode cX12_ask 174 = .ok (.invokevirtual 419, 3) := by decide +kernel
theorem dX12_ask_177 : decode cX12_ask 177 = .ok (.if_icmp .ge 20, 3) := by decide +kernel
theorem dX12_ask_180 : decode cX12_ask 180 = .ok (.aload_n 0, 1) := by decide +kernel
theorem dX12_ask_181 : decode cX12_ask 181 = .ok (.iload_n 1, 1) := by decide +kernel
theorem dX12_ask_182 : decode cX12_ask 182 = .ok (.aload_n 0, 1) := by decide +kernel
theorem dX12_ask_183 : decode cX12_ask 183 = .ok (.iload_n 2, 1) := by decide +kernel
theorem dX12_ask_184 : decode cX12_ask 184 = .ok (.invokevirtual 678, 3) := by decide +kernel
theorem dX12_ask_187 : decode cX12_ask 187 = .ok (.iload_n 2, 1) := by decide +kernel
theorem dX12_ask_188 : decode cX12_ask 188 = .ok (.invokevirtual 682, 3) := by decide +kernel
theorem dX12_ask_191 : decode cX12_ask 191 = .ok (.iinc 2 1, 3) := by decide +kernel
theorem dX12_ask_194 : decode cX12_ask 194 = .ok (.goto (-22), 3) := by decide +kernel
theorem dX12_ask_197 : decode cX12_ask 197 = .ok (.aload_n 0, 1) := by decide +kernel
theorem dX12_ask_198 : decode cX12_ask 198 = .ok (.getfield 664, 3) := by decide +kernel
theorem dX12_ask_201 : decode cX12_ask 201 = .ok (.lreturn, 1) := by decide +kernel
theorem dX12_checked_0 : decode cX12_checked 0 = .ok (.bipush 89, 2) := by decide +kernel
theorem dX12_checked_2 : decode cX12_checked 2 = .ok (.istore_n 2, 1) := by decide +kernel
theorem dX12_checked_3 : decode cX12_checked 3 = .ok (.iconst 0, 1) := by decide +kernel
theorem dX12_checked_4 : decode cX12_checked 4 = .ok (.istore_n 3, 1) := by decide +kernel
theorem dX12_checked_5 : decode cX12_checked 5 = .ok (.iload_n 3, 1) := by decide +kernel
theorem dX12_checked_6 : decode cX12_checked 6 = .ok (.iload_n 1, 1) := by decide +kernel
theorem dX12_checked_7 : decode cX12_checked 7 = .ok (.if_icmp .ge 21, 3) := by decide +kernel
theorem dX12_checked_10 : decode cX12_checked 10 = .ok (.iconst 3, 1) := by decide +kernel
theorem dX12_checked_11 : decode cX12_checked 11 = .ok (.iload_n 2, 1) := by decide +kernel
theorem dX12_checked_12 : decode cX12_checked 12 = .ok (.imul, 1) := by decide +kernel
theorem dX12_checked_13 : decode cX12_checked 13 = .ok (.aload_n 0, 1) := by decide +kernel
theorem dX12_checked_14 : decode cX12_checked 14 = .ok (.iload_n 3, 1) := by decide +kernel
theorem dX12_checked_15 : decode cX12_checked 15 = .ok (.iaload, 1) := by decide +kernel
theorem dX12_checked_16 : decode cX12_checked 16 = .ok (.iadd, 1) := by decide +kernel
theorem dX12_checked_17 : decode cX12_checked 17 = .ok (.sipush 251, 3) := by decide +kernel
theorem dX12_checked_20 : decode cX12_checked 20 = .ok (.irem, 1) := by decide +kernel
theorem dX12_checked_21 : decode cX12_checked 21 = .ok (.istore_n 2, 1) := by decide +kernel
theorem dX12_checked_22 : decode cX12_checked 22 = .ok (.iinc 3 1, 3) := by decide +kernel
theorem dX12_checked_25 : decode cX12_checked 25 = .ok (.goto (-20), 3) := by decide +kernel
theorem dX12_checked_28 : decode cX12_checked 28 = .ok (.iload_n 2, 1) := by decide +kernel
theorem dX12_checked_29 : decode cX12_checked 29 = .ok (.ireturn, 1) := by decide +kernel
theorem dX12_writes_0 : decode cX12_writes 0 = .ok (.aload_n 0, 1) := by decide +kernel
theorem dX12_writes_1 : decode cX12_writes 1 = .ok (.getfield 257, 3) := by decide +kernel
theorem dX12_writes_4 : decode cX12_writes 4 = .ok (.aload_n 0, 1) := by decide +kernel
theorem dX12_writes_5 : decode cX12_writes 5 = .ok (.getfield 686, 3) := by decide +kernel
theorem dX12_writes_8 : decode cX12_writes 8 = .ok (.iload_n 1, 1) := by decide +kernel
theorem dX12_writes_9 : decode cX12_writes 9 = .ok (.iastore, 1) := by decide +kernel
theorem dX12_writes_10 : decode cX12_writes 10 = .ok (.aload_n 0, 1) := by decide +kernel
theorem dX12_writes_11 : decode cX12_writes 11 = .ok (.dup, 1) := by decide +kernel
theorem dX12_writes_12 : decode cX12_writes 12 = .ok (.getfield 686, 3) := by decide +kernel
theorem dX12_writes_15 : decode cX12_writes 15 = .ok (.iconst 1, 1) := by decide +kernel
theorem dX12_writes_16 : decode cX12_writes 16 = .ok (.iadd, 1) := by decide +kernel
theorem dX12_writes_17 : decode cX12_writes 17 = .ok (.putfield 686, 3) := by decide +kernel
theorem dX12_writes_20 : decode cX12_writes 20 = .ok (.return_, 1) := by decide +kernel
theorem dX12_image_0 : decode cX12_image 0 = .ok (.aload_n 0, 1) := by decide +kernel
theorem dX12_image_1 : decode cX12_image 1 = .ok (.iconst 0, 1) := by decide +kernel
theorem dX12_image_2 : decode cX12_image 2 = .ok (.putfield 686, 3) := by decide +kernel
theorem dX12_image_5 : decode cX12_image 5 = .ok (.aload_n 0, 1) := by decide +kernel
theorem dX12_image_6 : decode cX12_image 6 = .ok (.aload_n 0, 1) := by decide +kernel
theorem dX12_image_7 : decode cX12_image 7 = .ok (.getfield 142, 3) := by decide +kernel
theorem dX12_image_10 : decode cX12_image 10 = .ok (.iconst 0, 1) := by decide +kernel
theorem dX12_image_11 : decode cX12_image 11 = .ok (.iaload, 1) := by decide +kernel
theorem dX12_image_12 : decode cX12_image 12 = .ok (.sipush 256, 3) := by decide +kernel
theorem dX12_image_15 : decode cX12_image 15 = .ok (.idiv, 1) := by decide +kernel
theorem dX12_image_16 : decode cX12_image 16 = .ok (.invokevirtual 689, 3) := by decide +kernel
theorem dX12_image_19 : decode cX12_image 19 = .ok (.aload_n 0, 1) := by decide +kernel
theorem dX12_image_20 : decode cX12_image 20 = .ok (.aload_n 0, 1) := by decide +kernel
theorem dX12_image_21 : decode cX12_image 21 = .ok (.getfield 142, 3) := by decide +kernel
theorem dX12_image_24 : decode cX12_image 24 = .ok (.iconst 0, 1) := by decide +kernel
theorem dX12_image_25 : decode cX12_image 25 = .ok (.iaload, 1) := by decide +kernel
theorem dX12_image_26 : decode cX12_image 26 = .ok (.sipush 256, 3) := by decide +kernel
theorem dX12_image_29 : decode cX12_image 29 = .ok (.irem, 1) := by decide +kernel
theorem dX12_image_30 : decode cX12_image 30 = .ok (.invokevirtual 689, 3) := by decide +kernel
theorem dX12_image_33 : decode cX12_image 33 = .ok (.iconst 0, 1) := by decide +kernel
theorem dX12_image_34 : decode cX12_image 34 = .ok (.istore_n 1, 1) := by decide +kernel
theorem dX12_image_35 : decode cX12_image 35 = .ok (.iload_n 1, 1) := by decide +kernel
theorem dX12_image_36 : decode cX12_image 36 = .ok (.aload_n 0, 1) := by decide +kernel
theorem dX12_image_37 : decode cX12_image 37 = .ok (.invokevirtual 422, 3) := by decide +kernel
theorem dX12_image_40 : decode cX12_image 40 = .ok (.if_icmp .ge 18, 3) := by decide +kernel
theorem dX12_image_43 : decode cX12_image 43 = .ok (.aload_n 0, 1) := by decide +kernel
theorem dX12_image_44 : decode cX12_image 44 = .ok (.aload_n 0, 1) := by decide +kernel
theorem dX12_image_45 : decode cX12_image 45 = .ok (.iload_n 1, 1) := by decide +kernel
theorem dX12_image_46 : decode cX12_image 46 = .ok (.invokevirtual 458, 3) := by decide +kernel
theorem dX12_image_49 : decode cX12_image 49 = .ok (.invokevirtual 689, 3) := by decide +kernel
theorem dX12_image_52 : decode cX12_image 52 = .ok (.iinc 1 1, 3) := by decide +kernel
theorem dX12_image_55 : decode cX12_image 55 = .ok (.goto (-20), 3) := by decide +kernel
theorem dX12_image_58 : decode cX12_image 58 = .ok (.iconst 0, 1) := by decide +kernel
theorem dX12_image_59 : decode cX12_image 59 = .ok (.istore_n 1, 1) := by decide +kernel
theorem dX12_image_60 : decode cX12_image 60 = .ok (.iload_n 1, 1) := by decide +kernel
theorem dX12_image_61 : decode cX12_image 61 = .ok (.aload_n 0, 1) := by decide +kernel
theorem dX12_image_62 : decode cX12_image 62 = .ok (.invokevirtual 410, 3) := by decide +kernel
theorem dX12_image_65 : decode cX12_image 65 = .ok (.if_icmp .ge 21, 3) := by decide +kernel
theorem dX12_image_68 : decode cX12_image 68 = .ok (.aload_n 0, 1) := by decide +kernel
theorem dX12_image_69 : decode cX12_image 69 = .ok (.aload_n 0, 1) := by decide +kernel
theorem dX12_image_70 : decode cX12_image 70 = .ok (.getfield 142, 3) := by decide +kernel
theorem dX12_image_73 : decode cX12_image 73 = .ok (.iconst 4, 1) := by decide +kernel
theorem dX12_image_74 : decode cX12_image 74 = .ok (.iload_n 1, 1) := by decide +kernel
theorem dX12_image_75 : decode cX12_image 75 = .ok (.iadd, 1) := by decide +kernel
theorem dX12_image_76 : decode cX12_image 76 = .ok (.iaload, 1) := by decide +kernel
theorem dX12_image_77 : decode cX12_image 77 = .ok (.invokevirtual 689, 3) := by decide +kernel
theorem dX12_image_80 : decode cX12_image 80 = .ok (.iinc 1 1, 3) := by decide +kernel
theorem dX12_image_83 : decode cX12_image 83 = .ok (.goto (-23), 3) := by decide +kernel
theorem dX12_image_86 : decode cX12_image 86 = .ok (.iconst 0, 1) := by decide +kernel
theorem dX12_image_87 : decode cX12_image 87 = .ok (.istore_n 1, 1) := by decide +kernel
theorem dX12_image_88 : decode cX12_image 88 = .ok (.iload_n 1, 1) := by decide +kernel
theorem dX12_image_89 : decode cX12_image 89 = .ok (.iconst 3, 1) := by decide +kernel
theorem dX12_image_90 : decode cX12_image 90 = .ok (.aload_n 0, 1) := by decide +kernel
theorem dX12_image_91 : decode cX12_image 91 = .ok (.invokevirtual 419, 3) := by decide +kernel
theorem dX12_image_94 : decode cX12_image 94 = .ok (.imul, 1) := by decide +kernel
theorem dX12_image_95 : decode cX12_image 95 = .ok (.if_icmp .ge 22, 3) := by decide +kernel
theorem dX12_image_98 : decode cX12_image 98 = .ok (.aload_n 0, 1) := by decide +kernel
theorem dX12_image_99 : decode cX12_image 99 = .ok (.aload_n 0, 1) := by decide +kernel
theorem dX12_image_100 : decode cX12_image 100 = .ok (.getfield 142, 3) := by decide +kernel
theorem dX12_image_103 : decode cX12_image 103 = .ok (.bipush 8, 2) := by decide +kernel
theorem dX12_image_105 : decode cX12_image 105 = .ok (.iload_n 1, 1) := by decide +kernel
theorem dX12_image_106 : decode cX12_image 106 = .ok (.iadd, 1) := by decide +kernel
theorem dX12_image_107 : decode cX12_image 107 = .ok (.iaload, 1) := by decide +kernel
theorem dX12_image_108 : decode cX12_image 108 = .ok (.invokevirtual 689, 3) := by decide +kernel
theorem dX12_image_111 : decode cX12_image 111 = .ok (.iinc 1 1, 3) := by decide +kernel
theorem dX12_image_114 : decode cX12_image 114 = .ok (.goto (-26), 3) := by decide +kernel
theorem dX12_image_117 : decode cX12_image 117 = .ok (.aload_n 0, 1) := by decide +kernel
theorem dX12_image_118 : decode cX12_image 118 = .ok (.aload_n 0, 1) := by decide +kernel
theorem dX12_image_119 : decode cX12_image 119 = .ok (.getfield 257, 3) := by decide +kernel
theorem dX12_image_122 : decode cX12_image 122 = .ok (.aload_n 0, 1) := by decide +kernel
theorem dX12_image_123 : decode cX12_image 123 = .ok (.getfield 686, 3) := by decide +kernel
theorem dX12_image_126 : decode cX12_image 126 = .ok (.invokestatic 692, 3) := by decide +kernel
theorem dX12_image_129 : decode cX12_image 129 = .ok (.invokevirtual 689, 3) := by decide +kernel
theorem dX12_image_132 : decode cX12_image 132 = .ok (.aload_n 0, 1) := by decide +kernel
theorem dX12_image_133 : decode cX12_image 133 = .ok (.getfield 686, 3) := by decide +kernel
theorem dX12_image_136 : decode cX12_image 136 = .ok (.ireturn, 1) := by decide +kernel
theorem dX12_octet_0 : decode cX12_octet 0 = .ok (.iload_n 1, 1) := by decide +kernel
theorem dX12_octet_1 : decode cX12_octet 1 = .ok (.ifCond .lt 20, 3) := by decide +kernel
theorem dX12_octet_4 : decode cX12_octet 4 = .ok (.iload_n 1, 1) := by decide +kernel
theorem dX12_octet_5 : decode cX12_octet 5 = .ok (.aload_n 0, 1) := by decide +kernel
theorem dX12_octet_6 : decode cX12_octet 6 = .ok (.getfield 686, 3) := by decide +kernel
theorem dX12_octet_9 : decode cX12_octet 9 = .ok (.if_icmp .ge 12, 3) := by decide +kernel
theorem dX12_octet_12 : decode cX12_octet 12 = .ok (.aload_n 0, 1) := by decide +kernel
theorem dX12_octet_13 : decode cX12_octet 13 = .ok (.getfield 257, 3) := by decide +kernel
theorem dX12_octet_16 : decode cX12_octet 16 = .ok (.iload_n 1, 1) := by decide +kernel
theorem dX12_octet_17 : decode cX12_octet 17 = .ok (.iaload, 1) := by decide +kernel
theorem dX12_octet_18 : decode cX12_octet 18 = .ok (.goto 4, 3) := by decide +kernel
theorem dX12_octet_21 : decode cX12_octet 21 = .ok (.iconst (-1), 1) := by decide +kernel
theorem dX12_octet_22 : decode cX12_octet 22 = .ok (.ireturn, 1) := by decide +kernel
theorem dX12_areLettersTold_0 : decode cX12_areLettersTold 0 = .ok (.iconst 0, 1) := by decide +kernel
theorem dX12_areLettersTold_1 : decode cX12_areLettersTold 1 = .ok (.istore_n 2, 1) := by decide +kernel
theorem dX12_areLettersTold_2 : decode cX12_areLettersTold 2 = .ok (.iload_n 2, 1) := by decide +kernel
theorem dX12_areLettersTold_3 : decode cX12_areLettersTold 3 = .ok (.aload_n 0, 1) := by decide +kernel
theorem dX12_areLettersTold_4 : decode cX12_areLettersTold 4 = .ok (.invokevirtual 419, 3) := by decide +kernel
theorem dX12_areLettersTold_7 : decode cX12_areLettersTold 7 = .ok (.if_icmp .ge 127, 3) := by decide +kernel
theorem dX12_areLettersTold_10 : decode cX12_areLettersTold 10 = .ok (.iload_n 1, 1) := by decide +kernel
theorem dX12_areLettersTold_11 : decode cX12_areLettersTold 11 = .ok (.iconst 3, 1) := by decide +kernel
theorem dX12_areLettersTold_12 : decode cX12_areLettersTold 12 = .ok (.iload_n 2, 1) := by decide +kernel
theorem dX12_areLettersTold_13 : decode cX12_areLettersTold 13 = .ok (.imul, 1) := by decide +kernel
theorem dX12_areLettersTold_14 : decode cX12_areLettersTold 14 = .ok (.iadd, 1) := by decide +kernel
theorem dX12_areLettersTold_15 : decode cX12_areLettersTold 15 = .ok (.istore_n 3, 1) := by decide +kernel
theorem dX12_areLettersTold_16 : decode cX12_areLettersTold 16 = .ok (.aload_n 0, 1) := by decide +kernel
theorem dX12_areLettersTold_17 : decode cX12_areLettersTold 17 = .ok (.getfield 7, 3) := by decide +kernel
theorem dX12_areLettersTold_20 : decode cX12_areLettersTold 20 = .ok (.iload_n 3, 1) := by decide +kernel
theorem dX12_areLettersTold_21 : decode cX12_areLettersTold 21 = .ok (.iaload, 1) := by decide +kernel
theorem dX12_areLettersTold_22 : decode cX12_areLettersTold 22 = .ok (.aload_n 0, 1) := by decide +kernel
theorem dX12_areLettersTold_23 : decode cX12_areLettersTold 23 = .ok (.invokevirtual 422, 3) := by decide +kernel
theorem dX12_areLettersTold_26 : decode cX12_areLettersTold 26 = .ok (.if_icmp .gt 30, 3) := by decide +kernel
theorem dX12_areLettersTold_29 : decode cX12_areLettersTold 29 = .ok (.aload_n 0, 1) := by decide +kernel
theorem dX12_areLettersTold_30 : decode cX12_areLettersTold 30 = .ok (.getfield 7, 3) := by decide +kernel
theorem dX12_areLettersTold_33 : decode cX12_areLettersTold 33 = .ok (.iload_n 3, 1) := by decide +kernel
theorem dX12_areLettersTold_34 : decode cX12_areLettersTold 34 = .ok (.iconst 1, 1) := by decide +kernel
theorem dX12_areLettersTold_35 : decode cX12_areLettersTold 35 = .ok (.iadd, 1) := by decide +kernel
theorem dX12_areLettersTold_36 : decode cX12_areLettersTold 36 = .ok (.iaload, 1) := by decide +kernel
theorem dX12_areLettersTold_37 : decode cX12_areLettersTold 37 = .ok (.iconst 4, 1) := by decide +kernel
theorem dX12_areLettersTold_38 : decode cX12_areLettersTold 38 = .ok (.if_icmp .gt 18, 3) := by decide +kernel
theorem dX12_areLettersTold_41 : decode cX12_areLettersTold 41 = .ok (.aload_n 0, 1) := by decide +kernel
theorem dX12_areLettersTold_42 : decode cX12_areLettersTold 42 = .ok (.getfield 7, 3) := by decide +kernel
theorem dX12_areLettersTold_45 : decode cX12_areLettersTold 45 = .ok (.iload_n 3, 1) := by decide +kernel
theorem dX12_areLettersTold_46 : decode cX12_areLettersTold 46 = .ok (.iconst 2, 1) := by decide +kernel
theorem dX12_areLettersTold_47 : decode cX12_areLettersTold 47 = .ok (.iadd, 1) := by decide +kernel
theorem dX12_areLettersTold_48 : decode cX12_areLettersTold 48 = .ok (.iaload, 1) := by decide +kernel
theorem dX12_areLettersTold_49 : decode cX12_areLettersTold 49 = .ok (.aload_n 0, 1) := by decide +kernel
theorem dX12_areLettersTold_50 : decode cX12_areLettersTold 50 = .ok (.invokevirtual 410, 3) := by decide +kernel
theorem dX12_areLettersTold_53 : decode cX12_areLettersTold 53 = .ok (.if_icmp .le 5, 3) := by decide +kernel
theorem dX12_areLettersTold_56 : decode cX12_areLettersTold 56 = .ok (.iconst 0, 1) := by decide +kernel
theorem dX12_areLettersTold_57 : decode cX12_areLettersTold 57 = .ok (.ireturn, 1) := by decide +kernel
theorem dX12_areLettersTold_58 : decode cX12_areLettersTold 58 = .ok (.iconst 0, 1) := by decide +kernel
theorem dX12_areLettersTold_59 : decode cX12_areLettersTold 59 = .ok (.istore 4, 2) := by decide +kernel
theorem dX12_areLettersTold_61 : decode cX12_areLettersTold 61 = .ok (.iload 4, 2) := by decide +kernel
theorem dX12_areLettersTold_63 : decode cX12_areLettersTold 63 = .ok (.iload_n 2, 1) := by decide +kernel
theorem dX12_areLettersTold_64 : decode cX12_areLettersTold 64 = .ok (.if_icmp .ge 64, 3) := by decide +kernel
theorem dX12_areLettersTold_67 : decode cX12_areLettersTold 67 = .ok (.aload_n 0, 1) := by decide +kernel
theorem dX12_areLettersTold_68 : decode cX12_areLettersTold 68 = .ok (.getfield 7, 3) := by decide +kernel
theorem dX12_areLettersTold_71 : decode cX12_areLettersTold 71 = .ok (.iload_n 3, 1) := by decide +kernel
theorem dX12_areLettersTold_72 : decode cX12_areLettersTold 72 = .ok (.iconst 1, 1) := by decide +kernel
theorem dX12_areLettersTold_73 : decode cX12_areLettersTold 73 = .ok (.iadd, 1) := by decide +kernel
theorem dX12_areLettersTold_74 : decode cX12_areLettersTold 74 = .ok (.iaload, 1) := by decide +kernel
theorem dX12_areLettersTold_75 : decode cX12_areLettersTold 75 = .ok (.ifCond .le 47, 3) := by decide +kernel
theorem dX12_areLettersTold_78 : decode cX12_areLettersTold 78 = .ok (.aload_n 0, 1) := by decide +kernel
theorem dX12_areLettersTold_79 : decode cX12_areLettersTold 79 = .ok (.getfield 7, 3) := by decide +kernel
theorem dX12_areLettersTold_82 : decode cX12_areLettersTold 82 = .ok (.iload_n 3, 1) := by decide +kernel
theorem dX12_areLettersTold_83 : decode cX12_areLettersTold 83 = .ok (.iconst 1, 1) := by decide +kernel
theorem dX12_areLettersTold_84 : decode cX12_areLettersTold 84 = .ok (.iadd, 1) := by decide +kernel
theorem dX12_areLettersTold_85 : decode cX12_areLettersTold 85 = .ok (.iaload, 1) := by decide +kernel
theorem dX12_areLettersTold_86 : decode cX12_areLettersTold 86 = .ok (.aload_n 0, 1) := by decide +kernel
theorem dX12_areLettersTold_87 : decode cX12_areLettersTold 87 = .ok (.getfield 7, 3) := by decide +kernel
theorem dX12_areLettersTold_90 : decode cX12_areLettersTold 90 = .ok (.iload_n 1, 1) := by decide +kernel
theorem dX12_areLettersTold_91 : decode cX12_areLettersTold 91 = .ok (.iconst 3, 1) := by decide +kernel
theorem dX12_areLettersTold_92 : decode cX12_areLettersTold 92 = .ok (.iload 4, 2) := by decide +kernel
theorem dX12_areLettersTold_94 : decode cX12_areLettersTold 94 = .ok (.imul, 1) := by decide +kernel
theorem dX12_areLettersTold_95 : decode cX12_areLettersTold 95 = .ok (.iadd, 1) := by decide +kernel
theorem dX12_areLettersTold_96 : decode cX12_areLettersTold 96 = .ok (.iconst 1, 1) := by decide +kernel
theorem dX12_areLettersTold_97 : decode cX12_areLettersTold 97 = .ok (.iadd, 1) := by decide +kernel
theorem dX12_areLettersTold_98 : decode cX12_areLettersTold 98 = .ok (.iaload, 1) := by decide +kernel
theorem dX12_areLettersTold_99 : decode cX12_areLettersTold 99 = .ok (.if_icmp .ne 23, 3) := by decide +kernel
theorem dX12_areLettersTold_102 : decode cX12_areLettersTold 102 = .ok (.aload_n 0, 1) := by decide +kernel
theorem dX12_areLettersTold_103 : decode cX12_areLettersTold 103 = .ok (.getfield 121, 3) := by decide +kernel
theorem dX12_areLettersTold_106 : decode cX12_areLettersTold 106 = .ok (.bipush 8, 2) := by decide +kernel
theorem dX12_areLettersTold_108 : decode cX12_areLettersTold 108 = .ok (.iload_n 2, 1) := by decide +kernel
theorem dX12_areLettersTold_109 : decode cX12_areLettersTold 109 = .ok (.iadd, 1) := by decide +kernel
theorem dX12_areLettersTold_110 : decode cX12_areLettersTold 110 = .ok (.iaload, 1) := by decide +kernel
theorem dX12_areLettersTold_111 : decode cX12_areLettersTold 111 = .ok (.iload 4, 2) := by decide +kernel
theorem dX12_areLettersTold_113 : decode cX12_areLettersTold 113 = .ok (.ishr, 1) := by decide +kernel
theorem dX12_areLettersTold_114 : decode cX12_areLettersTold 114 = .ok (.iconst 1, 1) := by decide +kernel
theorem dX12_areLettersTold_115 : decode cX12_areLettersTold 115 = .ok (.iand, 1) := by decide +kernel
theorem dX12_areLettersTold_116 : decode cX12_areLettersTold 116 = .ok (.iconst 1, 1) := by decide +kernel
theorem dX12_areLettersTold_117 : decode cX12_areLettersTold 117 = .ok (.if_icmp .ne 5, 3) := by decide +kernel
theorem dX12_areLettersTold_120 : decode cX12_areLettersTold 120 = .ok (.iconst 0, 1) := by decide +kernel
