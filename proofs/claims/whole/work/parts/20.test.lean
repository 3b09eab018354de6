theorem w_2 : Cond.selects "DearLetters$Text" ⟨"DearLetters$Text", "readWord", "()V"⟩ ⟨"DearLetters$Text", "readWord", "()V"⟩ ∈ z_tbl := z_tbl_in (List.mem_of_getElem? (i := 2) (by decide +kernel)) rfl
theorem w_3 : Cond.selects "DearLetters$Text" ⟨"DearLetters$Text", "readDigits", "()V"⟩ ⟨"DearLetters$Text", "readDigits", "()V"⟩ ∈ z_tbl := z_tbl_in (List.mem_of_getElem? (i := 3) (by decide +kernel)) rfl
theorem w_155 : Cond.initialized "DearLetters$Text" ∈ z_tbl := z_tbl_in (List.mem_of_getElem? (i := 155) (by decide +kernel)) rfl
theorem w_240 : Cond.fieldLink "DearLetters$Text" 9 "DearLetters$Text" "bytes" "[I" ∈ z_tbl := z_tbl_in (List.mem_of_getElem? (i := 240) (by decide +kernel)) rfl
theorem w_243 : Cond.fieldLink "DearLetters$Text" 38 "DearLetters$Text" "size" "I" ∈ z_tbl := z_tbl_in (List.mem_of_getElem? (i := 243) (by decide +kernel)) rfl
theorem w_251 : Cond.fieldLink "DearLetters$Text" 44 "DearLetters$Text" "kind" "I" ∈ z_tbl := z_tbl_in (List.mem_of_getElem? (i := 251) (by decide +kernel)) rfl
theorem w_253 : Cond.fieldLink "DearLetters$Text" 53 "DearLetters$Text" "tokenAt" "I" ∈ z_tbl := z_tbl_in (List.mem_of_getElem? (i := 253) (by decide +kernel)) rfl
theorem w_254 : Cond.fieldLink "DearLetters$Text" 56 "DearLetters$Text" "sign" "I" ∈ z_tbl := z_tbl_in (List.mem_of_getElem? (i := 254) (by decide +kernel)) rfl
theorem w_259 : Cond.fieldLink "DearLetters$Text" 59 "DearLetters$Text" "word" "I" ∈ z_tbl := z_tbl_in (List.mem_of_getElem? (i := 259) (by decide +kernel)) rfl
theorem w_260 : Cond.fieldLink "DearLetters$Text" 68 "DearLetters$Text" "value" "I" ∈ z_tbl := z_tbl_in (List.mem_of_getElem? (i := 260) (by decide +kernel)) rfl
theorem w_261 : Cond.fieldLink "DearLetters$Text" 47 "DearLetters$Text" "tokenEnd" "I" ∈ z_tbl := z_tbl_in (List.mem_of_getElem? (i := 261) (by decide +kernel)) rfl
theorem w_262 : Cond.fieldLink "DearLetters$Text" 19 "DearLetters$Text" "words" "[I" ∈ z_tbl := z_tbl_in (List.mem_of_getElem? (i := 262) (by decide +kernel)) rfl
theorem w_735 : Cond.methodLink "DearLetters$Text" 62 ⟨"DearLetters$Text", "readWord", "()V"⟩ ∈ z_tbl := z_tbl_in (List.mem_of_getElem? (i := 735) (by decide +kernel)) rfl
theorem w_737 : Cond.instanceMethod ⟨"DearLetters$Text", "readWord", "()V"⟩ ∈ z_tbl := z_tbl_in (List.mem_of_getElem? (i := 737) (by decide +kernel)) rfl
theorem w_738 : Cond.code ⟨"DearLetters$Text", "readWord", "()V"⟩ prog_12_method_7_code 3 none ∈ z_tbl := z_tbl_in (List.mem_of_getElem? (i := 738) (by decide +kernel)) rfl
theorem w_739 : Cond.methodLink "DearLetters$Text" 65 ⟨"DearLetters$Text", "readDigits", "()V"⟩ ∈ z_tbl := z_tbl_in (List.mem_of_getElem? (i := 739) (by decide +kernel)) rfl
theorem w_741 : Cond.instanceMethod ⟨"DearLetters$Text", "readDigits", "()V"⟩ ∈ z_tbl := z_tbl_in (List.mem_of_getElem? (i := 741) (by decide +kernel)) rfl
theorem w_742 : Cond.code ⟨"DearLetters$Text", "readDigits", "()V"⟩ prog_12_method_8_code 1 none ∈ z_tbl := z_tbl_in (List.mem_of_getElem? (i := 742) (by decide +kernel)) rfl
theorem dX10_append_0 : decode cX10_append 0 = .ok (.bipush 24, 2) := by decide +kernel
theorem dX10_append_2 : decode cX10_append 2 = .ok (.istore_n 2, 1) := by decide +kernel
theorem dX10_append_3 : decode cX10_append 3 = .ok (.iload_n 2, 1) := by decide +kernel
theorem dX10_append_4 : decode cX10_append 4 = .ok (.ifCond .lt 44, 3) := by decide +kernel
theorem dX10_append_7 : decode cX10_append 7 = .ok (.aload_n 0, 1) := by decide +kernel
theorem dX10_append_8 : decode cX10_append 8 = .ok (.getfield 38, 3) := by decide +kernel
theorem dX10_append_11 : decode cX10_append 11 = .ok (.aload_n 0, 1) := by decide +kernel
theorem dX10_append_12 : decode cX10_append 12 = .ok (.getfield 9, 3) := by decide +kernel
theorem dX10_append_15 : decode cX10_append 15 = .ok (.arraylength, 1) := by decide +kernel
theorem dX10_append_16 : decode cX10_append 16 = .ok (.if_icmp .ge 32, 3) := by decide +kernel
theorem dX10_append_19 : decode cX10_append 19 = .ok (.aload_n 0, 1) := by decide +kernel
theorem dX10_append_20 : decode cX10_append 20 = .ok (.getfield 9, 3) := by decide +kernel
theorem dX10_append_23 : decode cX10_append 23 = .ok (.aload_n 0, 1) := by decide +kernel
theorem dX10_append_24 : decode cX10_append 24 = .ok (.dup, 1) := by decide +kernel
theorem dX10_append_25 : decode cX10_append 25 = .ok (.getfield 38, 3) := by decide +kernel
theorem dX10_append_28 : decode cX10_append 28 = .ok (.dup_x1, 1) := by decide +kernel
theorem dX10_append_29 : decode cX10_append 29 = .ok (.iconst 1, 1) := by decide +kernel
theorem dX10_append_30 : decode cX10_append 30 = .ok (.iadd, 1) := by decide +kernel
theorem dX10_append_31 : decode cX10_append 31 = .ok (.putfield 38, 3) := by decide +kernel
theorem dX10_append_34 : decode cX10_append 34 = .ok (.iload_n 1, 1) := by decide +kernel
theorem dX10_append_35 : decode cX10_append 35 = .ok (.iload_n 2, 1) := by decide +kernel
theorem dX10_append_36 : decode cX10_append 36 = .ok (.ishr, 1) := by decide +kernel
theorem dX10_append_37 : decode cX10_append 37 = .ok (.sipush 255, 3) := by decide +kernel
theorem dX10_append_40 : decode cX10_append 40 = .ok (.iand, 1) := by decide +kernel
theorem dX10_append_41 : decode cX10_append 41 = .ok (.iastore, 1) := by decide +kernel
theorem dX10_append_42 : decode cX10_append 42 = .ok (.iinc 2 (-8), 3) := by decide +kernel
theorem dX10_append_45 : decode cX10_append 45 = .ok (.goto (-42), 3) := by decide +kernel
theorem dX10_append_48 : decode cX10_append 48 = .ok (.return_, 1) := by decide +kernel
theorem dX10_pairAt_0 : decode cX10_pairAt 0 = .ok (.sipush 256, 3) := by decide +kernel
theorem dX10_pairAt_3 : decode cX10_pairAt 3 = .ok (.aload_n 0, 1) := by decide +kernel
theorem dX10_pairAt_4 : decode cX10_pairAt 4 = .ok (.getfield 9, 3) := by decide +kernel
theorem dX10_pairAt_7 : decode cX10_pairAt 7 = .ok (.iload_n 1, 1) := by decide +kernel
theorem dX10_pairAt_8 : decode cX10_pairAt 8 = .ok (.iaload, 1) := by decide +kernel
theorem dX10_pairAt_9 : decode cX10_pairAt 9 = .ok (.imul, 1) := by decide +kernel
theorem dX10_pairAt_10 : decode cX10_pairAt 10 = .ok (.aload_n 0, 1) := by decide +kernel
theorem dX10_pairAt_11 : decode cX10_pairAt 11 = .ok (.getfield 9, 3) := by decide +kernel
theorem dX10_pairAt_14 : decode cX10_pairAt 14 = .ok (.iload_n 1, 1) := by decide +kernel
theorem dX10_pairAt_15 : decode cX10_pairAt 15 = .ok (.iconst 1, 1) := by decide +kernel
theorem dX10_pairAt_16 : decode cX10_pairAt 16 = .ok (.iadd, 1) := by decide +kernel
theorem dX10_pairAt_17 : decode cX10_pairAt 17 = .ok (.iaload, 1) := by decide +kernel
theorem dX10_pairAt_18 : decode cX10_pairAt 18 = .ok (.iadd, 1) := by decide +kernel
theorem dX10_pairAt_19 : decode cX10_pairAt 19 = .ok (.ireturn, 1) := by decide +kernel
theorem dX10_readWord_0 : decode cX10_readWord 0 = .ok (.iconst 0, 1) := by decide +kernel
theorem dX10_readWord_1 : decode cX10_readWord 1 = .ok (.istore_n 1, 1) := by decide +kernel
theorem dX10_readWord_2 : decode cX10_readWord 2 = .ok (.aload_n 0, 1) := by decide +kernel
theorem dX10_readWord_3 : decode cX10_readWord 3 = .ok (.getfield 47, 3) := by decide +kernel
theorem dX10_readWord_6 : decode cX10_readWord 6 = .ok (.aload_n 0, 1) := by decide +kernel
theorem dX10_readWord_7 : decode cX10_readWord 7 = .ok (.getfield 38, 3) := by decide +kernel
theorem dX10_readWord_10 : decode cX10_readWord 10 = .ok (.if_icmp .ge 82, 3) := by decide +kernel
theorem dX10_readWord_13 : decode cX10_readWord 13 = .ok (.aload_n 0, 1) := by decide +kernel
theorem dX10_readWord_14 : decode cX10_readWord 14 = .ok (.getfield 9, 3) := by decide +kernel
theorem dX10_readWord_17 : decode cX10_readWord 17 = .ok (.aload_n 0, 1) := by decide +kernel
theorem dX10_readWord_18 : decode cX10_readWord 18 = .ok (.getfield 47, 3) := by decide +kernel
theorem dX10_readWord_21 : decode cX10_readWord 21 = .ok (.iaload, 1) := by decide +kernel
theorem dX10_readWord_22 : decode cX10_readWord 22 = .ok (.bipush 97, 2) := by decide +kernel
theorem dX10_readWord_24 : decode cX10_readWord 24 = .ok (.if_icmp .lt 68, 3) := by decide +kernel
theorem dX10_readWord_27 : decode cX10_readWord 27 = .ok (.aload_n 0, 1) := by decide +kernel
theorem dX10_readWord_28 : decode cX10_readWord 28 = .ok (.getfield 9, 3) := by decide +kernel
theorem dX10_readWord_31 : decode cX10_readWord 31 = .ok (.aload_n 0, 1) := by decide +kernel
theorem dX10_readWord_32 : decode cX10_readWord 32 = .ok (.getfield 47, 3) := by decide +kernel
theorem dX10_readWord_35 : decode cX10_readWord 35 = .ok (.iaload, 1) := by decide +kernel
theorem dX10_readWord_36 : decode cX10_readWord 36 = .ok (.bipush 122, 2) := by decide +kernel
theorem dX10_readWord_38 : decode cX10_readWord 38 = .ok (.if_icmp .gt 54, 3) := by decide +kernel
theorem dX10_readWord_41 : decode cX10_readWord 41 = .ok (.aload_n 0, 1) := by decide +kernel
theorem dX10_readWord_42 : decode cX10_readWord 42 = .ok (.getfield 47, 3) := by decide +kernel
theorem dX10_readWord_45 : decode cX10_readWord 45 = .ok (.aload_n 0, 1) := by decide +kernel
theorem dX10_readWord_46 : decode cX10_readWord 46 = .ok (.getfield 53, 3) := by decide +kernel
theorem dX10_readWord_49 : decode cX10_readWord 49 = .ok (.bipush 6, 2) := by decide +kernel
theorem dX10_readWord_51 : decode cX10_readWord 51 = .ok (.iadd, 1) := by decide +kernel
theorem dX10_readWord_52 : decode cX10_readWord 52 = .ok (.if_icmp .ge 25, 3) := by decide +kernel
theorem dX10_readWord_55 : decode cX10_readWord 55 = .ok (.bipush 32, 2) := by decide +kernel
theorem dX10_readWord_57 : decode cX10_readWord 57 = .ok (.iload_n 1, 1) := by decide +kernel
theorem dX10_readWord_58 : decode cX10_readWord 58 = .ok (.imul, 1) := by decide +kernel
theorem dX10_readWord_59 : decode cX10_readWord 59 = .ok (.aload_n 0, 1) := by decide +kernel
theorem dX10_readWord_60 : decode cX10_readWord 60 = .ok (.getfield 9, 3) := by decide +kernel
theorem dX10_readWord_63 : decode cX10_readWord 63 = .ok (.aload_n 0, 1) := by decide +kernel
theorem dX10_readWord_64 : decode cX10_readWord 64 = .ok (.getfield 47, 3) := by decide +kernel
theorem dX10_readWord_67 : decode cX10_readWord 67 = .ok (.iaload, 1) := by decide +kernel
theorem dX10_readWord_68 : decode cX10_readWord 68 = .ok (.iadd, 1) := by decide +kernel
theorem dX10_readWord_69 : decode cX10_readWord 69 = .ok (.bipush 97, 2) := by decide +kernel
theorem dX10_readWord_71 : decode cX10_readWord 71 = .ok (.isub, 1) := by decide +kernel
theorem dX10_readWord_72 : decode cX10_readWord 72 = .ok (.iconst 1, 1) := by decide +kernel
theorem dX10_readWord_73 : decode cX10_readWord 73 = .ok (.iadd, 1) := by decide +kernel
theorem dX10_readWord_74 : decode cX10_readWord 74 = .ok (.goto 4, 3) := by decide +kernel
theorem dX10_readWord_77 : decode cX10_readWord 77 = .ok (.iconst (-1), 1) := by decide +kernel
theorem dX10_readWord_78 : decode cX10_readWord 78 = .ok (.istore_n 1, 1) := by decide +kernel
theorem dX10_readWord_79 : decode cX10_readWord 79 = .ok (.aload_n 0, 1) := by decide +kernel
theorem dX10_readWord_80 : decode cX10_readWord 80 = .ok (.dup, 1) := by decide +kernel
theorem dX10_readWord_81 : decode cX10_readWord 81 = .ok (.getfield 47, 3) := by decide +kernel
theorem dX10_readWord_84 : decode cX10_readWord 84 = .ok (.iconst 1, 1) := by decide +kernel
theorem dX10_readWord_85 : decode cX10_readWord 85 = .ok (.iadd, 1) := by decide +kernel
theorem dX10_readWord_86 : decode cX10_readWord 86 = .ok (.putfield 47, 3) := by decide +kernel
theorem dX10_readWord_89 : decode cX10_readWord 89 = .ok (.goto (-87), 3) := by decide +kernel
theorem dX10_readWord_92 : decode cX10_readWord 92 = .ok (.iload_n 1, 1) := by decide +kernel
theorem dX10_readWord_93 : decode cX10_readWord 93 = .ok (.iconst (-1), 1) := by decide +kernel
theorem dX10_readWord_94 : decode cX10_readWord 94 = .ok (.if_icmp .ne 4, 3) := by decide +kernel
theorem dX10_readWord_97 : decode cX10_readWord 97 = .ok (.return_, 1) := by decide +kernel
theorem dX10_readWord_98 : decode cX10_readWord 98 = .ok (.aload_n 0, 1) := by decide +kernel
theorem dX10_readWord_99 : decode cX10_readWord 99 = .ok (.iload_n 1, 1) := by decide +kernel
theorem dX10_readWord_100 : decode cX10_readWord 100 = .ok (.iconst 5, 1) := by decide +kernel
theorem dX10_readWord_101 : decode cX10_readWord 101 = .ok (.bipush 6, 2) := by decide +kernel
theorem dX10_readWord_103 : decode cX10_readWord 103 = .ok (.aload_n 0, 1) := by decide +kernel
theorem dX10_readWord_104 : decode cX10_readWord 104 = .ok (.getfield 47, 3) := by decide +kernel
theorem dX10_readWord_107 : decode cX10_readWord 107 = .ok (.aload_n 0, 1) := by decide +kernel
theorem dX10_readWord_108 : decode cX10_readWord 108 = .ok (.getfield 53, 3) := by decide +kernel
theorem dX10_readWord_111 : decode cX10_readWord 111 = .ok (.isub, 1) := by decide +kernel
theorem dX10_readWord_112 : decode cX10_readWord 112 = .ok (.isub, 1) := by decide +kernel
theorem dX10_readWord_113 : decode cX10_readWord 113 = .ok (.imul, 1) := by decide +kernel
theorem dX10_readWord_114 : decode cX10_readWord 114 = .ok (.ishl, 1) := by decide +kernel
theorem dX10_readWord_115 : decode cX10_readWord 115 = .ok (.putfield 68, 3) := by decide +kernel
theorem dX10_readWord_118 : decode cX10_readWord 118 = .ok (.iconst 0, 1) := by decide +kernel
theorem dX10_readWord_119 : decode cX10_readWord 119 = .ok (.istore_n 2, 1) := by decide +kernel
theorem dX10_readWord_120 : decode cX10_readWord 120 = .ok (.iload_n 2, 1) := by decide +kernel
theorem dX10_readWord_121 : decode cX10_readWord 121 = .ok (.aload_n 0, 1) := by decide +kernel
theorem dX10_readWord_122 : decode cX10_readWord 122 = .ok (.getfield 19, 3) := by decide +kernel
theorem dX10_readWord_125 : decode cX10_readWord 125 = .ok (.arraylength, 1) := by decide +kernel
theorem dX10_readWord_126 : decode cX10_readWord 126 = .ok (.if_icmp .ge 39, 3) := by decide +kernel
theorem dX10_readWord_129 : decode cX10_readWord 129 = .ok (.aload_n 0, 1) := by decide +kernel
theorem dX10_readWord_130 : decode cX10_readWord 130 = .ok (.getfield 59, 3) := by decide +kernel
theorem dX10_readWord_133 : decode cX10_readWord 133 = .ok (.iconst (-1), 1) := by decide +kernel
theorem dX10_readWord_134 : decode cX10_readWord 134 = .ok (.if_icmp .ne 31, 3) := by decide +kernel
theorem dX10_readWord_137 : decode cX10_readWord 137 = .ok (.aload_n 0, 1) := by decide +kernel
theorem dX10_readWord_138 : decode cX10_readWord 138 = .ok (.aload_n 0, 1) := by decide +kernel
theorem dX10_readWord_139 : decode cX10_readWord 139 = .ok (.getfield 19, 3) := by decide +kernel
theorem dX10_readWord_142 : decode cX10_readWord 142 = .ok (.iload_n 2, 1) := by decide +kernel
theorem dX10_readWord_143 : decode cX10_readWord 143 = .ok (.iaload, 1) := by decide +kernel
theorem dX10_readWord_144 : decode cX10_readWord 144 = .ok (.aload_n 0, 1) := by decide +kernel
theorem dX10_readWord_145 : decode cX10_readWord 145 = .ok (.getfield 68, 3) := by decide +kernel
theorem dX10_readWord_148 : decode cX10_readWord 148 = .ok (.if_icmp .ne 7, 3) := by decide +kernel
theorem dX10_readWord_151 : decode cX10_readWord 151 = .ok (.iload_n 2, 1) := by decide +kernel
theorem dX10_readWord_152 : decode cX10_readWord 152 = .ok (.goto 4, 3) := by decide +kernel
theorem dX10_readWord_155 : decode cX10_readWord 155 = .ok (.iconst (-1), 1) := by decide +kernel
theorem dX10_readWord_156 : decode cX10_readWord 156 = .ok (.putfield 59, 3) := by decide +kernel
theorem dX10_readWord_159 : decode cX10_readWord 159 = .ok (.iinc 2 1, 3) := by decide +kernel
theorem dX10_readWord_162 : decode cX10_readWord 162 = .ok (.goto (-42), 3) := by decide +kernel
theorem dX10_readWord_165 : decode cX10_readWord 165 = .ok (.return_, 1) := by decide +kernel
theorem dX10_readDigits_0 : decode cX10_readDigits 0 = .ok (.aload_n 0, 1) := by decide +kernel
theorem dX10_readDigits_1 : decode cX10_readDigits 1 = .ok (.iconst 0, 1) := by decide +kernel
theorem dX10_readDigits_2 : decode cX10_readDigits 2 = .ok (.putfield 68, 3) := by decide +kernel
theorem dX10_readDigits_5 : decode cX10_readDigits 5 = .ok (.aload_n 0, 1) := by decide +kernel
theorem dX10_readDigits_6 : decode cX10_readDigits 6 = .ok (.getfield 47, 3) := by decide +kernel
theorem dX10_readDigits_9 : decode cX10_readDigits 9 = .ok (.aload_n 0, 1) := by decide +kernel
theorem dX10_readDigits_10 : decode cX10_readDigits 10 = .ok (.getfield 38, 3) := by decide +kernel
theorem dX10_readDigits_13 : decode cX10_readDigits 13 = .ok (.if_icmp .ge 85, 3) := by decide +kernel
theorem dX10_readDigits_16 : decode cX10_readDigits 16 = .ok (.aload_n 0, 1) := by decide +kernel
theorem dX10_readDigits_17 : decode cX10_readDigits 17 = .ok (.getfield 9, 3) := by decide +kernel
theorem dX10_readDigits_20 : decode cX10_readDigits 20 = .ok (.aload_n 0, 1) := by decide +kernel
theorem dX10_readDigits_21 : decode cX10_readDigits 21 = .ok (.getfield 47, 3) := by decide +kernel
theorem dX10_readDigits_24 : decode cX10_readDigits 24 = .ok (.iaload, 1) := by decide +kernel
theorem dX10_readDigits_25 : decode cX10_readDigits 25 = .ok (.bipush 48, 2) := by decide +kernel
theorem dX10_readDigits_27 : decode cX10_readDigits 27 = .ok (.if_icmp .lt 71, 3) := by decide +kernel
theorem dX10_readDigits_30 : decode cX10_readDigits 30 = .ok (.aload_n 0, 1) := by decide +kernel
theorem dX10_readDigits_31 : decode cX10_readDigits 31 = .ok (.getfield 9, 3) := by decide +kernel
theorem dX10_readDigits_34 : decode cX10_readDigits 34 = .ok (.aload_n 0, 1) := by decide +kernel
theorem dX10_readDigits_35 : decode cX10_readDigits 35 = .ok (.getfield 47, 3) := by decide +kernel
theorem dX10_readDigits_38 : decode cX10_readDigits 38 = .ok (.iaload, 1) := by decide +kernel
theorem dX10_readDigits_39 : decode cX10_readDigits 39 = .ok (.bipush 57, 2) := by decide +kernel
theorem dX10_readDigits_41 : decode cX10_readDigits 41 = .ok (.if_icmp .gt 57, 3) := by decide +kernel
theorem dX10_readDigits_44 : decode cX10_readDigits 44 = .ok (.aload_n 0, 1) := by decide +kernel
theorem dX10_readDigits_45 : decode cX10_readDigits 45 = .ok (.aload_n 0, 1) := by decide +kernel
theorem dX10_readDigits_46 : decode cX10_readDigits 46 = .ok (.getfield 47, 3) := by decide +kernel
theorem dX10_readDigits_49 : decode cX10_readDigits 49 = .ok (.aload_n 0, 1) := by decide +kernel
theorem dX10_readDigits_50 : decode cX10_readDigits 50 = .ok (.getfield 53, 3) := by decide +kernel
theorem dX10_readDigits_53 : decode cX10_readDigits 53 = .ok (.iconst 4, 1) := by decide +kernel
theorem dX10_readDigits_54 : decode cX10_readDigits 54 = .ok (.iadd, 1) := by decide +kernel
theorem dX10_readDigits_55 : decode cX10_readDigits 55 = .ok (.if_icmp .ge 26, 3) := by decide +kernel
theorem dX10_readDigits_58 : decode cX10_readDigits 58 = .ok (.bipush 10, 2) := by decide +kernel
theorem dX10_readDigits_60 : decode cX10_readDigits 60 = .ok (.aload_n 0, 1) := by decide +kernel
theorem dX10_readDigits_61 : decode cX10_readDigits 61 = .ok (.getfield 68, 3) := by decide +kernel
theorem dX10_readDigits_64 : decode cX10_readDigits 64 = .ok (.imul, 1) := by decide +kernel
theorem dX10_readDigits_65 : decode cX10_readDigits 65 = .ok (.aload_n 0, 1) := by decide +kernel
theorem dX10_readDigits_66 : decode cX10_readDigits 66 = .ok (.getfield 9, 3) := by decide +kernel
theorem dX10_readDigits_69 : decode cX10_readDigits 69 = .ok (.aload_n 0, 1) := by decide +kernel
theorem dX10_readDigits_70 : decode cX10_readDigits 70 = .ok (.getfield 47, 3) := by decide +kernel
theorem dX10_readDigits_73 : decode cX10_readDigits 73 = .ok (.iaload, 1) := by decide +kernel
theorem dX10_readDigits_74 : decode cX10_readDigits 74 = .ok (.iadd, 1) := by decide +kernel
theorem dX10_readDigits_75 : decode cX10_readDigits 75 = .ok (.bipush 48, 2) := by decide +kernel
theorem dX10_readDigits_77 : decode cX10_readDigits 77 = .ok (.isub, 1) := by decide +kernel
theorem dX10_readDigits_78 : decode cX10_readDigits 78 = .ok (.goto 4, 3) := by decide +kernel
theorem dX10_readDigits_81 : decode cX10_readDigits 81 = .ok (.iconst 0, 1) := by decide +kernel
theorem dX10_readDigits_82 : decode cX10_readDigits 82 = .ok (.putfield 68, 3) := by decide +kernel
theorem dX10_readDigits_85 : decode cX10_readDigits 85 = .ok (.aload_n 0, 1) := by decide +kernel
theorem dX10_readDigits_86 : decode cX10_readDigits 86 = .ok (.dup, 1) := by decide +kernel
theorem dX10_readDigits_87 : decode cX10_readDigits 87 = .ok (.getfield 47, 3) := by decide +kernel
theorem dX10_readDigits_90 : decode cX10_readDigits 90 = .ok (.iconst 1, 1) := by decide +kernel
theorem dX10_readDigits_91 : decode cX10_readDigits 91 = .ok (.iadd, 1) := by decide +kernel
theorem dX10_readDigits_92 : decode cX10_readDigits 92 = .ok (.putfield 47, 3) := by decide +kernel
theorem dX10_readDigits_95 : decode cX10_readDigits 95 = .ok (.goto (-90), 3) := by decide +kernel
theorem dX10_readDigits_98 : decode cX10_readDigits 98 = .ok (.return_, 1) := by decide +kernel
theorem dX10_next_0 : decode cX10_next 0 = .ok (.aload_n 0, 1) := by decide +kernel
theorem dX10_next_1 : decode cX10_next 1 = .ok (.getfield 44, 3) := by decide +kernel
theorem dX10_next_4 : decode cX10_next 4 = .ok (.iconst 1, 1) := by decide +kernel
theorem dX10_next_5 : decode cX10_next 5 = .ok (.if_icmp .eq 11, 3) := by decide +kernel
theorem dX10_next_8 : decode cX10_next 8 = .ok (.aload_n 0, 1) := by decide +kernel
theorem dX10_next_9 : decode cX10_next 9 = .ok (.getfield 44, 3) := by decide +kernel
theorem dX10_next_12 : decode cX10_next 12 = .ok (.iconst 2, 1) := by decide +kernel
theorem dX10_next_13 : decode cX10_next 13 = .ok (.if_icmp .ne 7, 3) := by decide +kernel
theorem dX10_next_16 : decode cX10_next 16 = .ok (.iconst 1, 1) := by decide +kernel
theorem dX10_next_17 : decode cX10_next 17 = .ok (.goto 4, 3) := by decide +kernel
theorem dX10_next_20 : decode cX10_next 20 = .ok (.iconst 0, 1) := by decide +kernel
theorem dX10_next_21 : decode cX10_next 21 = .ok (.istore_n 1, 1) := by decide +kernel
theorem dX10_next_22 : decode cX10_next 22 = .ok (.aload_n 0, 1) := by decide +kernel
theorem dX10_next_23 : decode cX10_next 23 = .ok (.aload_n 0, 1) := by decide +kernel
theorem dX10_next_24 : decode cX10_next 24 = .ok (.getfield 47, 3) := by decide +kernel
theorem dX10_next_27 : decode cX10_next 27 = .ok (.putfield 53, 3) := by decide +kernel
theorem dX10_next_30 : decode cX10_next 30 = .ok (.aload_n 0, 1) := by decide +kernel
theorem dX10_next_31 : decode cX10_next 31 = .ok (.getfield 53, 3) := by decide +kernel
theorem dX10_next_34 : decode cX10_next 34 = .ok (.aload_n 0, 1) := by decide +kernel
theorem dX10_next_35 : decode cX10_next 35 = .ok (.getfield 38, 3) := by decide +kernel
theorem dX10_next_38 : decode cX10_next 38 = .ok (.if_icmp .ge 44, 3) := by decide +kernel
theorem dX10_next_41 : decode cX10_next 41 = .ok (.aload_n 0, 1) := by decide +kernel
theorem dX10_next_42 : decode cX10_next 42 = .ok (.getfield 9, 3) := by decide +kernel
theorem dX10_next_45 : decode cX10_next 45 = .ok (.aload_n 0, 1) := by decide +kernel
theorem dX10_next_46 : decode cX10_next 46 = .ok (.getfield 53, 3) := by decide +kernel
theorem dX10_next_49 : decode cX10_next 49 = .ok (.iaload, 1) := by decide +kernel
theorem dX10_next_50 : decode cX10_next 50 = .ok (.bipush 32, 2) := by decide +kernel
theorem dX10_next_52 : decode cX10_next 52 = .ok (.if_icmp .eq 17, 3) := by decide +kernel
theorem dX10_next_55 : decode cX10_next 55 = .ok (.aload_n 0, 1) := by decide +kernel
theorem dX10_next_56 : decode cX10_next 56 = .ok (.getfield 9, 3) := by decide +kernel
theorem dX10_next_59 : decode cX10_next 59 = .ok (.aload_n 0, 1) := by decide +kernel
theorem dX10_next_60 : decode cX10_next 60 = .ok (.getfield 53, 3) := by decide +kernel
theorem dX10_next_63 : decode cX10_next 63 = .ok (.iaload, 1) := by decide +kernel
theorem dX10_next_64 : decode cX10_next 64 = .ok (.bipush 10, 2) := by decide +kernel
theorem dX10_next_66 : decode cX10_next 66 = .ok (.if_icmp .ne 16, 3) := by decide +kernel
theorem dX10_next_69 : decode cX10_next 69 = .ok (.aload_n 0, 1) := by decide +kernel
theorem dX10_next_70 : decode cX10_next 70 = .ok (.dup, 1) := by decide +kernel
theorem dX10_next_71 : decode cX10_next 71 = .ok (.getfield 53, 3) := by decide +kernel
theorem dX10_next_74 : decode cX10_next 74 = .ok (.iconst 1, 1) := by decide +kernel
theorem dX10_next_75 : decode cX10_next 75 = .ok (.iadd, 1) := by decide +kernel
theorem dX10_next_76 : decode cX10_next 76 = .ok (.putfield 53, 3) := by decide +kernel
theorem dX10_next_79 : decode cX10_next 79 = .ok (.goto (-49), 3) := by decide +kernel
theorem dX10_next_82 : decode cX10_next 82 = .ok (.iload_n 1, 1) := by decide +kernel
theorem dX10_next_83 : decode cX10_next 83 = .ok (.ifCond .eq 18, 3) := by decide +kernel
theorem dX10_next_86 : decode cX10_next 86 = .ok (.aload_n 0, 1) := by decide +kernel
theorem dX10_next_87 : decode cX10_next 87 = .ok (.getfield 53, 3) := by decide +kernel
theorem dX10_next_90 : decode cX10_next 90 = .ok (.aload_n 0, 1) := by decide +kernel
theorem dX10_next_91 : decode cX10_next 91 = .ok (.getfield 47, 3) := by decide +kernel
theorem dX10_next_94 : decode cX10_next 94 = .ok (.if_icmp .ne 7, 3) := by decide +kernel
theorem dX10_next_97 : decode cX10_next 97 = .ok (.iconst 1, 1) := by decide +kernel
theorem dX10_next_98 : decode cX10_next 98 = .ok (.goto 4, 3) := by decide +kernel
theorem dX10_next_101 : decode cX10_next 101 = .ok (.iconst 0, 1) := by decide +kernel
theorem dX10_next_102 : decode cX10_next 102 = .ok (.istore_n 2, 1) := by decide +kernel
theorem dX10_next_103 : decode cX10_next 103 = .ok (.aload_n 0, 1) := by decide +kernel
theorem dX10_next_104 : decode cX10_next 104 = .ok (.getfield 53, 3) := by decide +kernel
theorem dX10_next_107 : decode cX10_next 107 = .ok (.aload_n 0, 1) := by decide +kernel
theorem dX10_next_108 : decode cX10_next 108 = .ok (.getfield 38, 3) := by decide +kernel
theorem dX10_next_111 : decode cX10_next 111 = .ok (.if_icmp .ge 15, 3) := by decide +kernel
theorem dX10_next_114 : decode cX10_next 114 = .ok (.aload_n 0, 1) := by decide +kernel
theorem dX10_next_115 : decode cX10_next 115 = .ok (.getfield 9, 3) := by decide +kernel
theorem dX10_next_118 : decode cX10_next 118 = .ok (.aload_n 0, 1) := by decide +kernel
theorem dX10_next_119 : decode cX10_next 119 = .ok (.getfield 53, 3) := by decide +kernel
theorem dX10_next_122 : decode cX10_next 122 = .ok (.iaload, 1) := by decide +kernel
theorem dX10_next_123 : decode cX10_next 123 = .ok (.goto 4, 3) := by decide +kernel
theorem dX10_next_126 : decode cX10_next 126 = .ok (.iconst (-1), 1) := by decide +kernel
theorem dX10_next_127 : decode cX10_next 127 = .ok (.istore_n 3, 1) := by decide +kernel
theorem dX10_next_128 : decode cX10_next 128 = .ok (.aload_n 0, 1) := by decide +kernel
theorem dX10_next_129 : decode cX10_next 129 = .ok (.iconst (-1), 1) := by decide +kernel
theorem dX10_next_130 : decode cX10_next 130 = .ok (.putfield 56, 3) := by decide +kernel
theorem dX10_next_133 : decode cX10_next 133 = .ok (.aload_n 0, 1) := by decide +kernel
theorem dX10_next_134 : decode cX10_next 134 = .ok (.iconst (-1), 1) := by decide +kernel
theorem dX10_next_135 : decode cX10_next 135 = .ok (.putfield 59, 3) := by decide +kernel
theorem dX10_next_138 : decode cX10_next 138 = .ok (.aload_n 0, 1) := by decide +kernel
theorem dX10_next_139 : decode cX10_next 139 = .ok (.aload_n 0, 1) := by decide +kernel
theorem dX10_next_140 : decode cX10_next 140 = .ok (.getfield 53, 3) := by decide +kernel
theorem dX10_next_143 : decode cX10_next 143 = .ok (.putfield 47, 3) := by decide +kernel
theorem dX10_next_146 : decode cX10_next 146 = .ok (.iload_n 3, 1) := by decide +kernel
theorem dX10_next_147 : decode cX10_next 147 = .ok (.iconst (-1), 1) := by decide +kernel
theorem dX10_next_148 : decode cX10_next 148 = .ok (.if_icmp .ne 11, 3) := by decide +kernel
theorem dX10_next_151 : decode cX10_next 151 = .ok (.aload_n 0, 1) := by decide +kernel
theorem dX10_next_152 : decode cX10_next 152 = .ok (.iconst 0, 1) := by decide +kernel
theorem dX10_next_153 : decode cX10_next 153 = .ok (.putfield 44, 3) := by decide +kernel
theorem dX10_next_156 : decode cX10_next 156 = .ok (.goto 103, 3) := by decide +kernel
theorem dX10_next_159 : decode cX10_next 159 = .ok (.iload_n 3, 1) := by decide +kernel
theorem dX10_next_160 : decode cX10_next 160 = .ok (.bipush 97, 2) := by decide +kernel
theorem dX10_next_162 : decode cX10_next 162 = .ok (.if_icmp .lt 45, 3) := by decide +kernel
theorem dX10_next_165 : decode cX10_next 165 = .ok (.iload_n 3, 1) := by decide +kernel
theorem dX10_next_166 : decode cX10_next 166 = .ok (.bipush 122, 2) := by decide +kernel
theorem dX10_next_168 : decode cX10_next 168 = .ok (.if_icmp .gt 39, 3) := by decide +kernel
theorem dX10_next_171 : decode cX10_next 171 = .ok (.aload_n 0, 1) := by decide +kernel
theorem dX10_next_172 : decode cX10_next 172 = .ok (.invokevirtual 62, 3) := by decide +kernel
theorem dX10_next_175 : decode cX10_next 175 = .ok (.aload_n 0, 1) := by decide +kernel
theorem dX10_next_176 : decode cX10_next 176 = .ok (.iload_n 2, 1) := by decide +kernel
theorem dX10_next_177 : decode cX10_next 177 = .ok (.ifCond .eq 7, 3) := by decide +kernel
theorem dX10_next_180 : decode cX10_next 180 = .ok (.iconst 4, 1) := by decide +kernel
theorem dX10_next_181 : decode cX10_next 181 = .ok (.goto 4, 3) := by decide +kernel
theorem dX10_next_184 : decode cX10_next 184 = .ok (.iconst 1, 1) := by decide +kernel
theorem dX10_next_185 : decode cX10_next 185 = .ok (.putfield 44, 3) := by decide +kernel
theorem dX10_next_188 : decode cX10_next 188 = .ok (.aload_n 0, 1) := by decide +kernel
theorem dX10_next_189 : decode cX10_next 189 = .ok (.iload_n 2, 1) := by decide +kernel
theorem dX10_next_190 : decode cX10_next 190 = .ok (.ifCond .eq 7, 3) := by decide +kernel
theorem dX10_next_193 : decode cX10_next 193 = .ok (.iconst (-1), 1) := by decide +kernel
theorem dX10_next_194 : decode cX10_next 194 = .ok (.goto 7, 3) := by decide +kernel
theorem dX10_next_197 : decode cX10_next 197 = .ok (.aload_n 0, 1) := by decide +kernel
theorem dX10_next_198 : decode cX10_next 198 = .ok (.getfield 59, 3) := by decide +kernel
theorem dX10_next_201 : decode cX10_next 201 = .ok (.putfield 59, 3) := by decide +kernel
theorem dX10_next_204 : decode cX10_next 204 = .ok (.goto 55, 3) := by decide +kernel
theorem dX10_next_207 : decode cX10_next 207 = .ok (.iload_n 3, 1) := by decide +kernel
theorem dX10_next_208 : decode cX10_next 208 = .ok (.bipush 48, 2) := by decide +kernel
theorem dX10_next_210 : decode cX10_next 210 = .ok (.if_icmp .lt 29, 3) := by decide +kernel
theorem dX10_next_213 : decode cX10_next 213 = .ok (.iload_n 3, 1) := by decide +kernel
theorem dX10_next_214 : decode cX10_next 214 = .ok (.bipush 57, 2) := by decide +kernel
theorem dX10_next_216 : decode cX10_next 216 = .ok (.if_icmp .gt 23, 3) := by decide +kernel
theorem dX10_next_219 : decode cX10_next 219 = .ok (.aload_n 0, 1) := by decide +kernel
theorem dX10_next_220 : decode cX10_next 220 = .ok (.invokevirtual 65, 3) := by decide +kernel
theorem dX10_next_223 : decode cX10_next 223 = .ok (.aload_n 0, 1) := by decide +kernel
theorem dX10_next_224 : decode cX10_next 224 = .ok (.iload_n 2, 1) := by decide +kernel
theorem dX10_next_225 : decode cX10_next 225 = .ok (.ifCond .eq 7, 3) := by decide +kernel
theorem dX10_next_228 : decode cX10_next 228 = .ok (.iconst 4, 1) := by decide +kernel
theorem dX10_next_229 : decode cX10_next 229 = .ok (.goto 4, 3) := by decide +kernel
theorem dX10_next_232 : decode cX10_next 232 = .ok (.iconst 2, 1) := by decide +kernel
theorem dX10_next_233 : decode cX10_next 233 = .ok (.putfield 44, 3) := by decide +kernel
theorem dX10_next_236 : decode cX10_next 236 = .ok (.goto 23, 3) := by decide +kernel
theorem dX10_next_239 : decode cX10_next 239 = .ok (.aload_n 0, 1) := by decide +kernel
theorem dX10_next_240 : decode cX10_next 240 = .ok (.iconst 3, 1) := by decide +kernel
theorem dX10_next_241 : decode cX10_next 241 = .ok (.putfield 44, 3) := by decide +kernel
theorem dX10_next_244 : decode cX10_next 244 = .ok (.aload_n 0, 1) := by decide +kernel
theorem dX10_next_245 : decode cX10_next 245 = .ok (.iload_n 3, 1) := by decide +kernel
theorem dX10_next_246 : decode cX10_next 246 = .ok (.putfield 56, 3) := by decide +kernel
theorem dX10_next_249 : decode cX10_next 249 = .ok (.aload_n 0, 1) := by decide +kernel
theorem dX10_next_250 : decode cX10_next 250 = .ok (.dup, 1) := by decide +kernel
theorem dX10_next_251 : decode cX10_next 251 = .ok (.getfield 47, 3) := by decide +kernel
theorem dX10_next_254 : decode cX10_next 254 = .ok (.iconst 1, 1) := by decide +kernel
theorem dX10_next_255 : decode cX10_next 255 = .ok (.iadd, 1) := by decide +kernel
theorem dX10_next_256 : decode cX10_next 256 = .ok (.putfield 47, 3) := by decide +kernel
theorem dX10_next_259 : decode cX10_next 259 = .ok (.return_, 1) := by decide +kernel
