theorem dX12_qPartOf_130 : decode cX12_qPartOf 130 = .ok (.iload_n 2, 1) := by decide +kernel
theorem dX12_qPartOf_131 : decode cX12_qPartOf 131 = .ok (.invokevirtual 507, 3) := by decide +kernel
theorem dX12_qPartOf_134 : decode cX12_qPartOf 134 = .ok (.i2l, 1) := by decide +kernel
theorem dX12_qPartOf_135 : decode cX12_qPartOf 135 = .ok (.lreturn, 1) := by decide +kernel
theorem dX12_wishesOf_0 : decode cX12_wishesOf 0 = .ok (.iconst 0, 1) := by decide +kernel
theorem dX12_wishesOf_1 : decode cX12_wishesOf 1 = .ok (.istore_n 2, 1) := by decide +kernel
theorem dX12_wishesOf_2 : decode cX12_wishesOf 2 = .ok (.iconst 0, 1) := by decide +kernel
theorem dX12_wishesOf_3 : decode cX12_wishesOf 3 = .ok (.istore_n 3, 1) := by decide +kernel
theorem dX12_wishesOf_4 : decode cX12_wishesOf 4 = .ok (.iload_n 3, 1) := by decide +kernel
theorem dX12_wishesOf_5 : decode cX12_wishesOf 5 = .ok (.aload_n 0, 1) := by decide +kernel
theorem dX12_wishesOf_6 : decode cX12_wishesOf 6 = .ok (.invokevirtual 410, 3) := by decide +kernel
theorem dX12_wishesOf_9 : decode cX12_wishesOf 9 = .ok (.if_icmp .ge 18, 3) := by decide +kernel
theorem dX12_wishesOf_12 : decode cX12_wishesOf 12 = .ok (.iload_n 2, 1) := by decide +kernel
theorem dX12_wishesOf_13 : decode cX12_wishesOf 13 = .ok (.aload_n 0, 1) := by decide +kernel
theorem dX12_wishesOf_14 : decode cX12_wishesOf 14 = .ok (.iload_n 1, 1) := by decide +kernel
theorem dX12_wishesOf_15 : decode cX12_wishesOf 15 = .ok (.iload_n 3, 1) := by decide +kernel
theorem dX12_wishesOf_16 : decode cX12_wishesOf 16 = .ok (.invokevirtual 425, 3) := by decide +kernel
theorem dX12_wishesOf_19 : decode cX12_wishesOf 19 = .ok (.iadd, 1) := by decide +kernel
theorem dX12_wishesOf_20 : decode cX12_wishesOf 20 = .ok (.istore_n 2, 1) := by decide +kernel
theorem dX12_wishesOf_21 : decode cX12_wishesOf 21 = .ok (.iinc 3 1, 3) := by decide +kernel
theorem dX12_wishesOf_24 : decode cX12_wishesOf 24 = .ok (.goto (-20), 3) := by decide +kernel
theorem dX12_wishesOf_27 : decode cX12_wishesOf 27 = .ok (.iload_n 2, 1) := by decide +kernel
theorem dX12_wishesOf_28 : decode cX12_wishesOf 28 = .ok (.ireturn, 1) := by decide +kernel
theorem dX12_undo_0 : decode cX12_undo 0 = .ok (.aload_n 0, 1) := by decide +kernel
theorem dX12_undo_1 : decode cX12_undo 1 = .ok (.getfield 413, 3) := by decide +kernel
theorem dX12_undo_4 : decode cX12_undo 4 = .ok (.ifCond .ne 15, 3) := by decide +kernel
theorem dX12_undo_7 : decode cX12_undo 7 = .ok (.aload_n 0, 1) := by decide +kernel
theorem dX12_undo_8 : decode cX12_undo 8 = .ok (.getfield 17, 3) := by decide +kernel
theorem dX12_undo_11 : decode cX12_undo 11 = .ok (.iconst 4, 1) := by decide +kernel
theorem dX12_undo_12 : decode cX12_undo 12 = .ok (.dup2, 1) := by decide +kernel
theorem dX12_undo_13 : decode cX12_undo 13 = .ok (.iaload, 1) := by decide +kernel
theorem dX12_undo_14 : decode cX12_undo 14 = .ok (.iconst 1, 1) := by decide +kernel
theorem dX12_undo_15 : decode cX12_undo 15 = .ok (.iadd, 1) := by decide +kernel
theorem dX12_undo_16 : decode cX12_undo 16 = .ok (.iastore, 1) := by decide +kernel
theorem dX12_undo_17 : decode cX12_undo 17 = .ok (.iconst 0, 1) := by decide +kernel
theorem dX12_undo_18 : decode cX12_undo 18 = .ok (.ireturn, 1) := by decide +kernel
theorem dX12_undo_19 : decode cX12_undo 19 = .ok (.iconst 0, 1) := by decide +kernel
theorem dX12_undo_20 : decode cX12_undo 20 = .ok (.istore_n 1, 1) := by decide +kernel
theorem dX12_undo_21 : decode cX12_undo 21 = .ok (.iload_n 1, 1) := by decide +kernel
theorem dX12_undo_22 : decode cX12_undo 22 = .ok (.bipush 32, 2) := by decide +kernel
theorem dX12_undo_24 : decode cX12_undo 24 = .ok (.if_icmp .ge 29, 3) := by decide +kernel
theorem dX12_undo_27 : decode cX12_undo 27 = .ok (.aload_n 0, 1) := by decide +kernel
theorem dX12_undo_28 : decode cX12_undo 28 = .ok (.getfield 142, 3) := by decide +kernel
theorem dX12_undo_31 : decode cX12_undo 31 = .ok (.iload_n 1, 1) := by decide +kernel
theorem dX12_undo_32 : decode cX12_undo 32 = .ok (.aload_n 0, 1) := by decide +kernel
theorem dX12_undo_33 : decode cX12_undo 33 = .ok (.getfield 172, 3) := by decide +kernel
theorem dX12_undo_36 : decode cX12_undo 36 = .ok (.bipush 32, 2) := by decide +kernel
theorem dX12_undo_38 : decode cX12_undo 38 = .ok (.aload_n 0, 1) := by decide +kernel
theorem dX12_undo_39 : decode cX12_undo 39 = .ok (.getfield 572, 3) := by decide +kernel
theorem dX12_undo_42 : decode cX12_undo 42 = .ok (.imul, 1) := by decide +kernel
theorem dX12_undo_43 : decode cX12_undo 43 = .ok (.iload_n 1, 1) := by decide +kernel
theorem dX12_undo_44 : decode cX12_undo 44 = .ok (.iadd, 1) := by decide +kernel
theorem dX12_undo_45 : decode cX12_undo 45 = .ok (.iaload, 1) := by decide +kernel
theorem dX12_undo_46 : decode cX12_undo 46 = .ok (.iastore, 1) := by decide +kernel
theorem dX12_undo_47 : decode cX12_undo 47 = .ok (.iinc 1 1, 3) := by decide +kernel
theorem dX12_undo_50 : decode cX12_undo 50 = .ok (.goto (-29), 3) := by decide +kernel
theorem dX12_undo_53 : decode cX12_undo 53 = .ok (.aload_n 0, 1) := by decide +kernel
theorem dX12_undo_54 : decode cX12_undo 54 = .ok (.aload_n 0, 1) := by decide +kernel
theorem dX12_undo_55 : decode cX12_undo 55 = .ok (.getfield 572, 3) := by decide +kernel
theorem dX12_undo_58 : decode cX12_undo 58 = .ok (.bipush 20, 2) := by decide +kernel
theorem dX12_undo_60 : decode cX12_undo 60 = .ok (.iadd, 1) := by decide +kernel
theorem dX12_undo_61 : decode cX12_undo 61 = .ok (.iconst 1, 1) := by decide +kernel
theorem dX12_undo_62 : decode cX12_undo 62 = .ok (.isub, 1) := by decide +kernel
theorem dX12_undo_63 : decode cX12_undo 63 = .ok (.bipush 20, 2) := by decide +kernel
theorem dX12_undo_65 : decode cX12_undo 65 = .ok (.irem, 1) := by decide +kernel
theorem dX12_undo_66 : decode cX12_undo 66 = .ok (.putfield 572, 3) := by decide +kernel
theorem dX12_undo_69 : decode cX12_undo 69 = .ok (.aload_n 0, 1) := by decide +kernel
theorem dX12_undo_70 : decode cX12_undo 70 = .ok (.dup, 1) := by decide +kernel
theorem dX12_undo_71 : decode cX12_undo 71 = .ok (.getfield 413, 3) := by decide +kernel
theorem dX12_undo_74 : decode cX12_undo 74 = .ok (.iconst 1, 1) := by decide +kernel
theorem dX12_undo_75 : decode cX12_undo 75 = .ok (.isub, 1) := by decide +kernel
theorem dX12_undo_76 : decode cX12_undo 76 = .ok (.putfield 413, 3) := by decide +kernel
theorem dX12_undo_79 : decode cX12_undo 79 = .ok (.iconst 1, 1) := by decide +kernel
theorem dX12_undo_80 : decode cX12_undo 80 = .ok (.ireturn, 1) := by decide +kernel
theorem dX12_fail_0 : decode cX12_fail 0 = .ok (.aload_n 0, 1) := by decide +kernel
theorem dX12_fail_1 : decode cX12_fail 1 = .ok (.getfield 263, 3) := by decide +kernel
theorem dX12_fail_4 : decode cX12_fail 4 = .ok (.ifCond .eq 4, 3) := by decide +kernel
theorem dX12_fail_7 : decode cX12_fail 7 = .ok (.return_, 1) := by decide +kernel
theorem dX12_fail_8 : decode cX12_fail 8 = .ok (.aload_n 0, 1) := by decide +kernel
theorem dX12_fail_9 : decode cX12_fail 9 = .ok (.iload_n 1, 1) := by decide +kernel
theorem dX12_fail_10 : decode cX12_fail 10 = .ok (.putfield 263, 3) := by decide +kernel
theorem dX12_fail_13 : decode cX12_fail 13 = .ok (.aload_n 0, 1) := by decide +kernel
theorem dX12_fail_14 : decode cX12_fail 14 = .ok (.iload_n 2, 1) := by decide +kernel
theorem dX12_fail_15 : decode cX12_fail 15 = .ok (.putfield 266, 3) := by decide +kernel
theorem dX12_fail_18 : decode cX12_fail 18 = .ok (.return_, 1) := by decide +kernel
theorem dX12_isDigit_0 : decode cX12_isDigit 0 = .ok (.iload_n 0, 1) := by decide +kernel
theorem dX12_isDigit_1 : decode cX12_isDigit 1 = .ok (.bipush 48, 2) := by decide +kernel
theorem dX12_isDigit_3 : decode cX12_isDigit 3 = .ok (.if_icmp .lt 13, 3) := by decide +kernel
theorem dX12_isDigit_6 : decode cX12_isDigit 6 = .ok (.iload_n 0, 1) := by decide +kernel
theorem dX12_isDigit_7 : decode cX12_isDigit 7 = .ok (.bipush 57, 2) := by decide +kernel
theorem dX12_isDigit_9 : decode cX12_isDigit 9 = .ok (.if_icmp .gt 7, 3) := by decide +kernel
theorem dX12_isDigit_12 : decode cX12_isDigit 12 = .ok (.iconst 1, 1) := by decide +kernel
theorem dX12_isDigit_13 : decode cX12_isDigit 13 = .ok (.goto 4, 3) := by decide +kernel
theorem dX12_isDigit_16 : decode cX12_isDigit 16 = .ok (.iconst 0, 1) := by decide +kernel
theorem dX12_isDigit_17 : decode cX12_isDigit 17 = .ok (.ireturn, 1) := by decide +kernel
theorem dX12_isAnswered_0 : decode cX12_isAnswered 0 = .ok (.aload_n 0, 1) := by decide +kernel
theorem dX12_isAnswered_1 : decode cX12_isAnswered 1 = .ok (.getfield 142, 3) := by decide +kernel
theorem dX12_isAnswered_4 : decode cX12_isAnswered 4 = .ok (.iconst 1, 1) := by decide +kernel
theorem dX12_isAnswered_5 : decode cX12_isAnswered 5 = .ok (.iload_n 2, 1) := by decide +kernel
theorem dX12_isAnswered_6 : decode cX12_isAnswered 6 = .ok (.iadd, 1) := by decide +kernel
theorem dX12_isAnswered_7 : decode cX12_isAnswered 7 = .ok (.dup2, 1) := by decide +kernel
theorem dX12_isAnswered_8 : decode cX12_isAnswered 8 = .ok (.iaload, 1) := by decide +kernel
theorem dX12_isAnswered_9 : decode cX12_isAnswered 9 = .ok (.aload_n 0, 1) := by decide +kernel
theorem dX12_isAnswered_10 : decode cX12_isAnswered 10 = .ok (.iload_n 1, 1) := by decide +kernel
theorem dX12_isAnswered_11 : decode cX12_isAnswered 11 = .ok (.iload_n 2, 1) := by decide +kernel
theorem dX12_isAnswered_12 : decode cX12_isAnswered 12 = .ok (.invokevirtual 461, 3) := by decide +kernel
theorem dX12_isAnswered_15 : decode cX12_isAnswered 15 = .ok (.isub, 1) := by decide +kernel
theorem dX12_isAnswered_16 : decode cX12_isAnswered 16 = .ok (.iastore, 1) := by decide +kernel
theorem dX12_isAnswered_17 : decode cX12_isAnswered 17 = .ok (.aload_n 0, 1) := by decide +kernel
theorem dX12_isAnswered_18 : decode cX12_isAnswered 18 = .ok (.getfield 142, 3) := by decide +kernel
theorem dX12_isAnswered_21 : decode cX12_isAnswered 21 = .ok (.bipush 8, 2) := by decide +kernel
theorem dX12_isAnswered_23 : decode cX12_isAnswered 23 = .ok (.iconst 3, 1) := by decide +kernel
theorem dX12_isAnswered_24 : decode cX12_isAnswered 24 = .ok (.iload_n 1, 1) := by decide +kernel
theorem dX12_isAnswered_25 : decode cX12_isAnswered 25 = .ok (.imul, 1) := by decide +kernel
theorem dX12_isAnswered_26 : decode cX12_isAnswered 26 = .ok (.iadd, 1) := by decide +kernel
theorem dX12_isAnswered_27 : decode cX12_isAnswered 27 = .ok (.iload_n 2, 1) := by decide +kernel
theorem dX12_isAnswered_28 : decode cX12_isAnswered 28 = .ok (.iconst 1, 1) := by decide +kernel
theorem dX12_isAnswered_29 : decode cX12_isAnswered 29 = .ok (.iadd, 1) := by decide +kernel
theorem dX12_isAnswered_30 : decode cX12_isAnswered 30 = .ok (.iastore, 1) := by decide +kernel
theorem dX12_isAnswered_31 : decode cX12_isAnswered 31 = .ok (.return_, 1) := by decide +kernel
theorem dX12_isImage_0 : decode cX12_isImage 0 = .ok (.iconst 2, 1) := by decide +kernel
theorem dX12_isImage_1 : decode cX12_isImage 1 = .ok (.aload_n 0, 1) := by decide +kernel
theorem dX12_isImage_2 : decode cX12_isImage 2 = .ok (.invokevirtual 422, 3) := by decide +kernel
theorem dX12_isImage_5 : decode cX12_isImage 5 = .ok (.iadd, 1) := by decide +kernel
theorem dX12_isImage_6 : decode cX12_isImage 6 = .ok (.istore_n 2, 1) := by decide +kernel
theorem dX12_isImage_7 : decode cX12_isImage 7 = .ok (.iload_n 2, 1) := by decide +kernel
theorem dX12_isImage_8 : decode cX12_isImage 8 = .ok (.aload_n 0, 1) := by decide +kernel
theorem dX12_isImage_9 : decode cX12_isImage 9 = .ok (.invokevirtual 410, 3) := by decide +kernel
theorem dX12_isImage_12 : decode cX12_isImage 12 = .ok (.iadd, 1) := by decide +kernel
theorem dX12_isImage_13 : decode cX12_isImage 13 = .ok (.istore_n 3, 1) := by decide +kernel
theorem dX12_isImage_14 : decode cX12_isImage 14 = .ok (.iload_n 1, 1) := by decide +kernel
theorem dX12_isImage_15 : decode cX12_isImage 15 = .ok (.iload_n 3, 1) := by decide +kernel
theorem dX12_isImage_16 : decode cX12_isImage 16 = .ok (.iconst 3, 1) := by decide +kernel
theorem dX12_isImage_17 : decode cX12_isImage 17 = .ok (.aload_n 0, 1) := by decide +kernel
theorem dX12_isImage_18 : decode cX12_isImage 18 = .ok (.invokevirtual 419, 3) := by decide +kernel
theorem dX12_isImage_21 : decode cX12_isImage 21 = .ok (.imul, 1) := by decide +kernel
theorem dX12_isImage_22 : decode cX12_isImage 22 = .ok (.iadd, 1) := by decide +kernel
theorem dX12_isImage_23 : decode cX12_isImage 23 = .ok (.iconst 1, 1) := by decide +kernel
theorem dX12_isImage_24 : decode cX12_isImage 24 = .ok (.iadd, 1) := by decide +kernel
theorem dX12_isImage_25 : decode cX12_isImage 25 = .ok (.if_icmp .ne 47, 3) := by decide +kernel
theorem dX12_isImage_28 : decode cX12_isImage 28 = .ok (.aload_n 0, 1) := by decide +kernel
theorem dX12_isImage_29 : decode cX12_isImage 29 = .ok (.getfield 7, 3) := by decide +kernel
theorem dX12_isImage_32 : decode cX12_isImage 32 = .ok (.iload_n 1, 1) := by decide +kernel
theorem dX12_isImage_33 : decode cX12_isImage 33 = .ok (.iconst 1, 1) := by decide +kernel
theorem dX12_isImage_34 : decode cX12_isImage 34 = .ok (.isub, 1) := by decide +kernel
theorem dX12_isImage_35 : decode cX12_isImage 35 = .ok (.iaload, 1) := by decide +kernel
theorem dX12_isImage_36 : decode cX12_isImage 36 = .ok (.aload_n 0, 1) := by decide +kernel
theorem dX12_isImage_37 : decode cX12_isImage 37 = .ok (.getfield 7, 3) := by decide +kernel
theorem dX12_isImage_40 : decode cX12_isImage 40 = .ok (.iload_n 1, 1) := by decide +kernel
theorem dX12_isImage_41 : decode cX12_isImage 41 = .ok (.iconst 1, 1) := by decide +kernel
theorem dX12_isImage_42 : decode cX12_isImage 42 = .ok (.isub, 1) := by decide +kernel
theorem dX12_isImage_43 : decode cX12_isImage 43 = .ok (.invokestatic 692, 3) := by decide +kernel
theorem dX12_isImage_46 : decode cX12_isImage 46 = .ok (.if_icmp .ne 26, 3) := by decide +kernel
theorem dX12_isImage_49 : decode cX12_isImage 49 = .ok (.sipush 256, 3) := by decide +kernel
theorem dX12_isImage_52 : decode cX12_isImage 52 = .ok (.aload_n 0, 1) := by decide +kernel
theorem dX12_isImage_53 : decode cX12_isImage 53 = .ok (.getfield 7, 3) := by decide +kernel
theorem dX12_isImage_56 : decode cX12_isImage 56 = .ok (.iconst 0, 1) := by decide +kernel
theorem dX12_isImage_57 : decode cX12_isImage 57 = .ok (.iaload, 1) := by decide +kernel
theorem dX12_isImage_58 : decode cX12_isImage 58 = .ok (.imul, 1) := by decide +kernel
theorem dX12_isImage_59 : decode cX12_isImage 59 = .ok (.aload_n 0, 1) := by decide +kernel
theorem dX12_isImage_60 : decode cX12_isImage 60 = .ok (.getfield 7, 3) := by decide +kernel
theorem dX12_isImage_63 : decode cX12_isImage 63 = .ok (.iconst 1, 1) := by decide +kernel
theorem dX12_isImage_64 : decode cX12_isImage 64 = .ok (.iaload, 1) := by decide +kernel
theorem dX12_isImage_65 : decode cX12_isImage 65 = .ok (.iadd, 1) := by decide +kernel
theorem dX12_isImage_66 : decode cX12_isImage 66 = .ok (.sipush 999, 3) := by decide +kernel
theorem dX12_isImage_69 : decode cX12_isImage 69 = .ok (.if_icmp .le 5, 3) := by decide +kernel
theorem dX12_isImage_72 : decode cX12_isImage 72 = .ok (.iconst 0, 1) := by decide +kernel
theorem dX12_isImage_73 : decode cX12_isImage 73 = .ok (.ireturn, 1) := by decide +kernel
theorem dX12_isImage_74 : decode cX12_isImage 74 = .ok (.iconst 0, 1) := by decide +kernel
theorem dX12_isImage_75 : decode cX12_isImage 75 = .ok (.istore 4, 2) := by decide +kernel
theorem dX12_isImage_77 : decode cX12_isImage 77 = .ok (.iload 4, 2) := by decide +kernel
theorem dX12_isImage_79 : decode cX12_isImage 79 = .ok (.aload_n 0, 1) := by decide +kernel
theorem dX12_isImage_80 : decode cX12_isImage 80 = .ok (.invokevirtual 422, 3) := by decide +kernel
theorem dX12_isImage_83 : decode cX12_isImage 83 = .ok (.if_icmp .ge 35, 3) := by decide +kernel
theorem dX12_isImage_86 : decode cX12_isImage 86 = .ok (.aload_n 0, 1) := by decide +kernel
theorem dX12_isImage_87 : decode cX12_isImage 87 = .ok (.getfield 7, 3) := by decide +kernel
theorem dX12_isImage_90 : decode cX12_isImage 90 = .ok (.iconst 2, 1) := by decide +kernel
theorem dX12_isImage_91 : decode cX12_isImage 91 = .ok (.iload 4, 2) := by decide +kernel
theorem dX12_isImage_93 : decode cX12_isImage 93 = .ok (.iadd, 1) := by decide +kernel
theorem dX12_isImage_94 : decode cX12_isImage 94 = .ok (.iaload, 1) := by decide +kernel
theorem dX12_isImage_95 : decode cX12_isImage 95 = .ok (.aload_n 0, 1) := by decide +kernel
theorem dX12_isImage_96 : decode cX12_isImage 96 = .ok (.getfield 127, 3) := by decide +kernel
theorem dX12_isImage_99 : decode cX12_isImage 99 = .ok (.bipush 9, 2) := by decide +kernel
theorem dX12_isImage_101 : decode cX12_isImage 101 = .ok (.iconst 3, 1) := by decide +kernel
theorem dX12_isImage_102 : decode cX12_isImage 102 = .ok (.iload 4, 2) := by decide +kernel
theorem dX12_isImage_104 : decode cX12_isImage 104 = .ok (.imul, 1) := by decide +kernel
theorem dX12_isImage_105 : decode cX12_isImage 105 = .ok (.iadd, 1) := by decide +kernel
theorem dX12_isImage_106 : decode cX12_isImage 106 = .ok (.iaload, 1) := by decide +kernel
theorem dX12_isImage_107 : decode cX12_isImage 107 = .ok (.if_icmp .le 5, 3) := by decide +kernel
theorem dX12_isImage_110 : decode cX12_isImage 110 = .ok (.iconst 0, 1) := by decide +kernel
theorem dX12_isImage_111 : decode cX12_isImage 111 = .ok (.ireturn, 1) := by decide +kernel
theorem dX12_isImage_112 : decode cX12_isImage 112 = .ok (.iinc 4 1, 3) := by decide +kernel
theorem dX12_isImage_115 : decode cX12_isImage 115 = .ok (.goto (-38), 3) := by decide +kernel
theorem dX12_isImage_118 : decode cX12_isImage 118 = .ok (.iconst 0, 1) := by decide +kernel
theorem dX12_isImage_119 : decode cX12_isImage 119 = .ok (.istore 4, 2) := by decide +kernel
theorem dX12_isImage_121 : decode cX12_isImage 121 = .ok (.iload 4, 2) := by decide +kernel
theorem dX12_isImage_123 : decode cX12_isImage 123 = .ok (.aload_n 0, 1) := by decide +kernel
theorem dX12_isImage_124 : decode cX12_isImage 124 = .ok (.invokevirtual 410, 3) := by decide +kernel
theorem dX12_isImage_127 : decode cX12_isImage 127 = .ok (.if_icmp .ge 32, 3) := by decide +kernel
theorem dX12_isImage_130 : decode cX12_isImage 130 = .ok (.aload_n 0, 1) := by decide +kernel
theorem dX12_isImage_131 : decode cX12_isImage 131 = .ok (.getfield 7, 3) := by decide +kernel
theorem dX12_isImage_134 : decode cX12_isImage 134 = .ok (.iload_n 2, 1) := by decide +kernel
theorem dX12_isImage_135 : decode cX12_isImage 135 = .ok (.iload 4, 2) := by decide +kernel
theorem dX12_isImage_137 : decode cX12_isImage 137 = .ok (.iadd, 1) := by decide +kernel
theorem dX12_isImage_138 : decode cX12_isImage 138 = .ok (.iaload, 1) := by decide +kernel
theorem dX12_isImage_139 : decode cX12_isImage 139 = .ok (.aload_n 0, 1) := by decide +kernel
theorem dX12_isImage_140 : decode cX12_isImage 140 = .ok (.getfield 115, 3) := by decide +kernel
theorem dX12_isImage_143 : decode cX12_isImage 143 = .ok (.iconst 4, 1) := by decide +kernel
theorem dX12_isImage_144 : decode cX12_isImage 144 = .ok (.iload 4, 2) := by decide +kernel
theorem dX12_isImage_146 : decode cX12_isImage 146 = .ok (.iadd, 1) := by decide +kernel
theorem dX12_isImage_147 : decode cX12_isImage 147 = .ok (.iaload, 1) := by decide +kernel
theorem dX12_isImage_148 : decode cX12_isImage 148 = .ok (.if_icmp .le 5, 3) := by decide +kernel
theorem dX12_isImage_151 : decode cX12_isImage 151 = .ok (.iconst 0, 1) := by decide +kernel
theorem dX12_isImage_152 : decode cX12_isImage 152 = .ok (.ireturn, 1) := by decide +kernel
theorem dX12_isImage_153 : decode cX12_isImage 153 = .ok (.iinc 4 1, 3) := by decide +kernel
theorem dX12_isImage_156 : decode cX12_isImage 156 = .ok (.goto (-35), 3) := by decide +kernel
theorem dX12_isImage_159 : decode cX12_isImage 159 = .ok (.aload_n 0, 1) := by decide +kernel
theorem dX12_isImage_160 : decode cX12_isImage 160 = .ok (.iload_n 3, 1) := by decide +kernel
theorem dX12_isImage_161 : decode cX12_isImage 161 = .ok (.invokevirtual 696, 3) := by decide +kernel
theorem dX12_isImage_164 : decode cX12_isImage 164 = .ok (.ireturn, 1) := by decide +kernel
theorem dX12_wishOf_0 : decode cX12_wishOf 0 = .ok (.aload_n 0, 1) := by decide +kernel
theorem dX12_wishOf_1 : decode cX12_wishOf 1 = .ok (.getfield 118, 3) := by decide +kernel
theorem dX12_wishOf_4 : decode cX12_wishOf 4 = .ok (.bipush 32, 2) := by decide +kernel
theorem dX12_wishOf_6 : decode cX12_wishOf 6 = .ok (.iconst 4, 1) := by decide +kernel
theorem dX12_wishOf_7 : decode cX12_wishOf 7 = .ok (.iload_n 1, 1) := by decide +kernel
theorem dX12_wishOf_8 : decode cX12_wishOf 8 = .ok (.imul, 1) := by decide +kernel
theorem dX12_wishOf_9 : decode cX12_wishOf 9 = .ok (.iadd, 1) := by decide +kernel
theorem dX12_wishOf_10 : decode cX12_wishOf 10 = .ok (.iload_n 2, 1) := by decide +kernel
theorem dX12_wishOf_11 : decode cX12_wishOf 11 = .ok (.iadd, 1) := by decide +kernel
theorem dX12_wishOf_12 : decode cX12_wishOf 12 = .ok (.iaload, 1) := by decide +kernel
theorem dX12_wishOf_13 : decode cX12_wishOf 13 = .ok (.ireturn, 1) := by decide +kernel
theorem dX12_qDropsToBracket_0 : decode cX12_qDropsToBracket 0 = .ok (.aload_n 0, 1) := by decide +kernel
theorem dX12_qDropsToBracket_1 : decode cX12_qDropsToBracket 1 = .ok (.getfield 355, 3) := by decide +kernel
theorem dX12_qDropsToBracket_4 : decode cX12_qDropsToBracket 4 = .ok (.aload_n 0, 1) := by decide +kernel
theorem dX12_qDropsToBracket_5 : decode cX12_qDropsToBracket 5 = .ok (.getfield 361, 3) := by decide +kernel
theorem dX12_qDropsToBracket_8 : decode cX12_qDropsToBracket 8 = .ok (.if_icmp .le 27, 3) := by decide +kernel
theorem dX12_qDropsToBracket_11 : decode cX12_qDropsToBracket 11 = .ok (.aload_n 0, 1) := by decide +kernel
theorem dX12_qDropsToBracket_12 : decode cX12_qDropsToBracket 12 = .ok (.getfield 251, 3) := by decide +kernel
theorem dX12_qDropsToBracket_15 : decode cX12_qDropsToBracket 15 = .ok (.aload_n 0, 1) := by decide +kernel
theorem dX12_qDropsToBracket_16 : decode cX12_qDropsToBracket 16 = .ok (.getfield 355, 3) := by decide +kernel
theorem dX12_qDropsToBracket_19 : decode cX12_qDropsToBracket 19 = .ok (.iconst 1, 1) := by decide +kernel
theorem dX12_qDropsToBracket_20 : decode cX12_qDropsToBracket 20 = .ok (.isub, 1) := by decide +kernel
theorem dX12_qDropsToBracket_21 : decode cX12_qDropsToBracket 21 = .ok (.iaload, 1) := by decide +kernel
theorem dX12_qDropsToBracket_22 : decode cX12_qDropsToBracket 22 = .ok (.invokestatic 597, 3) := by decide +kernel
theorem dX12_qDropsToBracket_25 : decode cX12_qDropsToBracket 25 = .ok (.ifCond .ne 10, 3) := by decide +kernel
theorem dX12_qDropsToBracket_28 : decode cX12_qDropsToBracket 28 = .ok (.aload_n 0, 1) := by decide +kernel
theorem dX12_qDropsToBracket_29 : decode cX12_qDropsToBracket 29 = .ok (.invokevirtual 600, 3) := by decide +kernel
theorem dX12_qDropsToBracket_32 : decode cX12_qDropsToBracket 32 = .ok (.goto (-32), 3) := by decide +kernel
theorem dX12_qDropsToBracket_35 : decode cX12_qDropsToBracket 35 = .ok (.return_, 1) := by decide +kernel
theorem dX12_wishTold_0 : decode cX12_wishTold 0 = .ok (.aload_n 0, 1) := by decide +kernel
theorem dX12_wishTold_1 : decode cX12_wishTold 1 = .ok (.iconst 0, 1) := by decide +kernel
theorem dX12_wishTold_2 : decode cX12_wishTold 2 = .ok (.invokevirtual 348, 3) := by decide +kernel
theorem dX12_wishTold_5 : decode cX12_wishTold 5 = .ok (.istore_n 1, 1) := by decide +kernel
theorem dX12_wishTold_6 : decode cX12_wishTold 6 = .ok (.aload_n 0, 1) := by decide +kernel
theorem dX12_wishTold_7 : decode cX12_wishTold 7 = .ok (.iconst 1, 1) := by decide +kernel
theorem dX12_wishTold_8 : decode cX12_wishTold 8 = .ok (.invokevirtual 348, 3) := by decide +kernel
theorem dX12_wishTold_11 : decode cX12_wishTold 11 = .ok (.istore_n 2, 1) := by decide +kernel
theorem dX12_wishTold_12 : decode cX12_wishTold 12 = .ok (.aload_n 0, 1) := by decide +kernel
theorem dX12_wishTold_13 : decode cX12_wishTold 13 = .ok (.iconst 1, 1) := by decide +kernel
theorem dX12_wishTold_14 : decode cX12_wishTold 14 = .ok (.bipush 9, 2) := by decide +kernel
theorem dX12_wishTold_16 : decode cX12_wishTold 16 = .ok (.invokevirtual 341, 3) := by decide +kernel
theorem dX12_wishTold_19 : decode cX12_wishTold 19 = .ok (.istore_n 3, 1) := by decide +kernel
theorem dX12_wishTold_20 : decode cX12_wishTold 20 = .ok (.aload_n 0, 1) := by decide +kernel
theorem dX12_wishTold_21 : decode cX12_wishTold 21 = .ok (.getfield 263, 3) := by decide +kernel
theorem dX12_wishTold_24 : decode cX12_wishTold 24 = .ok (.ifCond .ne 14, 3) := by decide +kernel
theorem dX12_wishTold_27 : decode cX12_wishTold 27 = .ok (.aload_n 0, 1) := by decide +kernel
theorem dX12_wishTold_28 : decode cX12_wishTold 28 = .ok (.getfield 118, 3) := by decide +kernel
theorem dX12_wishTold_31 : decode cX12_wishTold 31 = .ok (.iconst 4, 1) := by decide +kernel
theorem dX12_wishTold_32 : decode cX12_wishTold 32 = .ok (.iload_n 1, 1) := by decide +kernel
theorem dX12_wishTold_33 : decode cX12_wishTold 33 = .ok (.imul, 1) := by decide +kernel
theorem dX12_wishTold_34 : decode cX12_wishTold 34 = .ok (.iload_n 2, 1) := by decide +kernel
theorem dX12_wishTold_35 : decode cX12_wishTold 35 = .ok (.iadd, 1) := by decide +kernel
theorem dX12_wishTold_36 : decode cX12_wishTold 36 = .ok (.iload_n 3, 1) := by decide +kernel
theorem dX12_wishTold_37 : decode cX12_wishTold 37 = .ok (.iastore, 1) := by decide +kernel
theorem dX12_wishTold_38 : decode cX12_wishTold 38 = .ok (.return_, 1) := by decide +kernel
theorem dX12_seed_0 : decode cX12_seed 0 = .ok (.iload_n 1, 1) := by decide +kernel
theorem dX12_seed_1 : decode cX12_seed 1 = .ok (.ifCond .ge 15, 3) := by decide +kernel
theorem dX12_seed_4 : decode cX12_seed 4 = .ok (.aload_n 0, 1) := by decide +kernel
theorem dX12_seed_5 : decode cX12_seed 5 = .ok (.getfield 17, 3) := by decide +kernel
theorem dX12_seed_8 : decode cX12_seed 8 = .ok (.iconst 5, 1) := by decide +kernel
theorem dX12_seed_9 : decode cX12_seed 9 = .ok (.dup2, 1) := by decide +kernel
theorem dX12_seed_10 : decode cX12_seed 10 = .ok (.iaload, 1) := by decide +kernel
theorem dX12_seed_11 : decode cX12_seed 11 = .ok (.iconst 1, 1) := by decide +kernel
theorem dX12_seed_12 : decode cX12_seed 12 = .ok (.iadd, 1) := by decide +kernel
theorem dX12_seed_13 : decode cX12_seed 13 = .ok (.iastore, 1) := by decide +kernel
theorem dX12_seed_14 : decode cX12_seed 14 = .ok (.iconst 0, 1) := by decide +kernel
theorem dX12_seed_15 : decode cX12_seed 15 = .ok (.ireturn, 1) := by decide +kernel
theorem dX12_seed_16 : decode cX12_seed 16 = .ok (.aload_n 0, 1) := by decide +kernel
theorem dX12_seed_17 : decode cX12_seed 17 = .ok (.iload_n 1, 1) := by decide +kernel
theorem dX12_seed_18 : decode cX12_seed 18 = .ok (.i2l, 1) := by decide +kernel
theorem dX12_seed_19 : decode cX12_seed 19 = .ok (.putfield 175, 3) := by decide +kernel
theorem dX12_seed_22 : decode cX12_seed 22 = .ok (.iconst 1, 1) := by decide +kernel
theorem dX12_seed_23 : decode cX12_seed 23 = .ok (.ireturn, 1) := by decide +kernel
theorem dX12_qCode_0 : decode cX12_qCode 0 = .ok (.aload_n 0, 1) := by decide +kernel
theorem dX12_qCode_1 : decode cX12_qCode 1 = .ok (.getfield 248, 3) := by decide +kernel
theorem dX12_qCode_4 : decode cX12_qCode 4 = .ok (.aload_n 0, 1) := by decide +kernel
theorem dX12_qCode_5 : decode cX12_qCode 5 = .ok (.getfield 352, 3) := by decide +kernel
theorem dX12_qCode_8 : decode cX12_qCode 8 = .ok (.iload_n 1, 1) := by decide +kernel
theorem dX12_qCode_9 : decode cX12_qCode 9 = .ok (.iastore, 1) := by decide +kernel
theorem dX12_qCode_10 : decode cX12_qCode 10 = .ok (.aload_n 0, 1) := by decide +kernel
theorem dX12_qCode_11 : decode cX12_qCode 11 = .ok (.dup, 1) := by decide +kernel
theorem dX12_qCode_12 : decode cX12_qCode 12 = .ok (.getfield 352, 3) := by decide +kernel
theorem dX12_qCode_15 : decode cX12_qCode 15 = .ok (.iconst 1, 1) := by decide +kernel
theorem dX12_qCode_16 : decode cX12_qCode 16 = .ok (.iadd, 1) := by decide +kernel
theorem dX12_qCode_17 : decode cX12_qCode 17 = .ok (.putfield 352, 3) := by decide +kernel
theorem dX12_qCode_20 : decode cX12_qCode 20 = .ok (.return_, 1) := by decide +kernel
theorem dX12_isAsTold_0 : decode cX12_isAsTold 0 = .ok (.iconst 0, 1) := by decide +kernel
theorem dX12_isAsTold_1 : decode cX12_isAsTold 1 = .ok (.istore_n 2, 1) := by decide +kernel
theorem dX12_isAsTold_2 : decode cX12_isAsTold 2 = .ok (.iload_n 2, 1) := by decide +kernel
theorem dX12_isAsTold_3 : decode cX12_isAsTold 3 = .ok (.aload_n 0, 1) := by decide +kernel
theorem dX12_isAsTold_4 : decode cX12_isAsTold 4 = .ok (.getfield 416, 3) := by decide +kernel
theorem dX12_isAsTold_7 : decode cX12_isAsTold 7 = .ok (.if_icmp .ge 52, 3) := by decide +kernel
theorem dX12_isAsTold_10 : decode cX12_isAsTold 10 = .ok (.aload_n 0, 1) := by decide +kernel
theorem dX12_isAsTold_11 : decode cX12_isAsTold 11 = .ok (.aload_n 0, 1) := by decide +kernel
theorem dX12_isAsTold_12 : decode cX12_isAsTold 12 = .ok (.getfield 169, 3) := by decide +kernel
theorem dX12_isAsTold_15 : decode cX12_isAsTold 15 = .ok (.iconst 3, 1) := by decide +kernel
theorem dX12_isAsTold_16 : decode cX12_isAsTold 16 = .ok (.iload_n 2, 1) := by decide +kernel
theorem dX12_isAsTold_17 : decode cX12_isAsTold 17 = .ok (.imul, 1) := by decide +kernel
theorem dX12_isAsTold_18 : decode cX12_isAsTold 18 = .ok (.iaload, 1) := by decide +kernel
theorem dX12_isAsTold_19 : decode cX12_isAsTold 19 = .ok (.iload_n 1, 1) := by decide +kernel
theorem dX12_isAsTold_20 : decode cX12_isAsTold 20 = .ok (.invokevirtual 461, 3) := by decide +kernel
theorem dX12_isAsTold_23 : decode cX12_isAsTold 23 = .ok (.sipush 256, 3) := by decide +kernel
theorem dX12_isAsTold_26 : decode cX12_isAsTold 26 = .ok (.aload_n 0, 1) := by decide +kernel
theorem dX12_isAsTold_27 : decode cX12_isAsTold 27 = .ok (.getfield 169, 3) := by decide +kernel
theorem dX12_isAsTold_30 : decode cX12_isAsTold 30 = .ok (.iconst 3, 1) := by decide +kernel
theorem dX12_isAsTold_31 : decode cX12_isAsTold 31 = .ok (.iload_n 2, 1) := by decide +kernel
theorem dX12_isAsTold_32 : decode cX12_isAsTold 32 = .ok (.imul, 1) := by decide +kernel
theorem dX12_isAsTold_33 : decode cX12_isAsTold 33 = .ok (.iconst 1, 1) := by decide +kernel
theorem dX12_isAsTold_34 : decode cX12_isAsTold 34 = .ok (.iadd, 1) := by decide +kernel
theorem dX12_isAsTold_35 : decode cX12_isAsTold 35 = .ok (.iaload, 1) := by decide +kernel
theorem dX12_isAsTold_36 : decode cX12_isAsTold 36 = .ok (.imul, 1) := by decide +kernel
theorem dX12_isAsTold_37 : decode cX12_isAsTold 37 = .ok (.aload_n 0, 1) := by decide +kernel
theorem dX12_isAsTold_38 : decode cX12_isAsTold 38 = .ok (.getfield 169, 3) := by decide +kernel
theorem dX12_isAsTold_41 : decode cX12_isAsTold 41 = .ok (.iconst 3, 1) := by decide +kernel
theorem dX12_isAsTold_42 : decode cX12_isAsTold 42 = .ok (.iload_n 2, 1) := by decide +kernel
theorem dX12_isAsTold_43 : decode cX12_isAsTold 43 = .ok (.imul, 1) := by decide +kernel
theorem dX12_isAsTold_44 : decode cX12_isAsTold 44 = .ok (.iconst 2, 1) := by decide +kernel
theorem dX12_isAsTold_45 : decode cX12_isAsTold 45 = .ok (.iadd, 1) := by decide +kernel
theorem dX12_isAsTold_46 : decode cX12_isAsTold 46 = .ok (.iaload, 1) := by decide +kernel
theorem dX12_isAsTold_47 : decode cX12_isAsTold 47 = .ok (.iadd, 1) := by decide +kernel
theorem dX12_isAsTold_48 : decode cX12_isAsTold 48 = .ok (.if_icmp .eq 5, 3) := by decide +kernel
theorem dX12_isAsTold_51 : decode cX12_isAsTold 51 = .ok (.iconst 0, 1) := by decide +kernel
theorem dX12_isAsTold_52 : decode cX12_isAsTold 52 = .ok (.ireturn, 1) := by decide +kernel
theorem dX12_isAsTold_53 : decode cX12_isAsTold 53 = .ok (.iinc 2 1, 3) := by decide +kernel
theorem dX12_isAsTold_56 : decode cX12_isAsTold 56 = .ok (.goto (-54), 3) := by decide +kernel
theorem dX12_isAsTold_59 : decode cX12_isAsTold 59 = .ok (.iconst 1, 1) := by decide +kernel
theorem dX12_isAsTold_60 : decode cX12_isAsTold 60 = .ok (.ireturn, 1) := by decide +kernel
theorem dX12_nameOf_0 : decode cX12_nameOf 0 = .ok (.iconst 0, 1) := by decide +kernel
theorem dX12_nameOf_1 : decode cX12_nameOf 1 = .ok (.istore 4, 2) := by decide +kernel
theorem dX12_nameOf_3 : decode cX12_nameOf 3 = .ok (.iload 4, 2) := by decide +kernel
theorem dX12_nameOf_5 : decode cX12_nameOf 5 = .ok (.aload_n 0, 1) := by decide +kernel
theorem dX12_nameOf_6 : decode cX12_nameOf 6 = .ok (.getfield 105, 3) := by decide +kernel
theorem dX12_nameOf_9 : decode cX12_nameOf 9 = .ok (.iload_n 1, 1) := by decide +kernel
theorem dX12_nameOf_10 : decode cX12_nameOf 10 = .ok (.iaload, 1) := by decide +kernel
theorem dX12_nameOf_11 : decode cX12_nameOf 11 = .ok (.if_icmp .ge 29, 3) := by decide +kernel
theorem dX12_nameOf_14 : decode cX12_nameOf 14 = .ok (.aload_n 0, 1) := by decide +kernel
theorem dX12_nameOf_15 : decode cX12_nameOf 15 = .ok (.getfield 108, 3) := by decide +kernel
theorem dX12_nameOf_18 : decode cX12_nameOf 18 = .ok (.bipush 8, 2) := by decide +kernel
theorem dX12_nameOf_20 : decode cX12_nameOf 20 = .ok (.iload_n 1, 1) := by decide +kernel
theorem dX12_nameOf_21 : decode cX12_nameOf 21 = .ok (.imul, 1) := by decide +kernel
theorem dX12_nameOf_22 : decode cX12_nameOf 22 = .ok (.iload 4, 2) := by decide +kernel
theorem dX12_nameOf_24 : decode cX12_nameOf 24 = .ok (.iadd, 1) := by decide +kernel
theorem dX12_nameOf_25 : decode cX12_nameOf 25 = .ok (.laload, 1) := by decide +kernel
theorem dX12_nameOf_26 : decode cX12_nameOf 26 = .ok (.lload_n 2, 1) := by decide +kernel
theorem dX12_nameOf_27 : decode cX12_nameOf 27 = .ok (.lcmp, 1) := by decide +kernel
theorem dX12_nameOf_28 : decode cX12_nameOf 28 = .ok (.ifCond .ne 6, 3) := by decide +kernel
theorem dX12_nameOf_31 : decode cX12_nameOf 31 = .ok (.iload 4, 2) := by decide +kernel
theorem dX12_nameOf_33 : decode cX12_nameOf 33 = .ok (.ireturn, 1) := by decide +kernel
theorem dX12_nameOf_34 : decode cX12_nameOf 34 = .ok (.iinc 4 1, 3) := by decide +kernel
theorem dX12_nameOf_37 : decode cX12_nameOf 37 = .ok (.goto (-34), 3) := by decide +kernel
theorem dX12_nameOf_40 : decode cX12_nameOf 40 = .ok (.iconst (-1), 1) := by decide +kernel
theorem dX12_nameOf_41 : decode cX12_nameOf 41 = .ok (.ireturn, 1) := by decide +kernel
theorem dX12_gift_0 : decode cX12_gift 0 = .ok (.aload_n 0, 1) := by decide +kernel
theorem dX12_gift_1 : decode cX12_gift 1 = .ok (.iload_n 1, 1) := by decide +kernel
theorem dX12_gift_2 : decode cX12_gift 2 = .ok (.invokevirtual 513, 3) := by decide +kernel
theorem dX12_gift_5 : decode cX12_gift 5 = .ok (.ifCond .ne 5, 3) := by decide +kernel
theorem dX12_gift_8 : decode cX12_gift 8 = .ok (.iconst (-1), 1) := by decide +kernel
theorem dX12_gift_9 : decode cX12_gift 9 = .ok (.ireturn, 1) := by decide +kernel
theorem dX12_gift_10 : decode cX12_gift 10 = .ok (.iload_n 2, 1) := by decide +kernel
theorem dX12_gift_11 : decode cX12_gift 11 = .ok (.bipush 10, 2) := by decide +kernel
theorem dX12_gift_13 : decode cX12_gift 13 = .ok (.if_icmp .lt 24, 3) := by decide +kernel
theorem dX12_gift_16 : decode cX12_gift 16 = .ok (.aload_n 0, 1) := by decide +kernel
theorem dX12_gift_17 : decode cX12_gift 17 = .ok (.iload_n 2, 1) := by decide +kernel
theorem dX12_gift_18 : decode cX12_gift 18 = .ok (.bipush 10, 2) := by decide +kernel
theorem dX12_gift_20 : decode cX12_gift 20 = .ok (.isub, 1) := by decide +kernel
theorem dX12_gift_21 : decode cX12_gift 21 = .ok (.invokevirtual 501, 3) := by decide +kernel
theorem dX12_gift_24 : decode cX12_gift 24 = .ok (.ifCond .eq 13, 3) := by decide +kernel
theorem dX12_gift_27 : decode cX12_gift 27 = .ok (.aload_n 0, 1) := by decide +kernel
theorem dX12_gift_28 : decode cX12_gift 28 = .ok (.iload_n 2, 1) := by decide +kernel
theorem dX12_gift_29 : decode cX12_gift 29 = .ok (.bipush 10, 2) := by decide +kernel
theorem dX12_gift_31 : decode cX12_gift 31 = .ok (.isub, 1) := by decide +kernel
theorem dX12_gift_32 : decode cX12_gift 32 = .ok (.iload_n 1, 1) := by decide +kernel
theorem dX12_gift_33 : decode cX12_gift 33 = .ok (.invokevirtual 425, 3) := by decide +kernel
theorem dX12_gift_36 : decode cX12_gift 36 = .ok (.ireturn, 1) := by decide +kernel
theorem dX12_gift_37 : decode cX12_gift 37 = .ok (.iload_n 2, 1) := by decide +kernel
theorem dX12_gift_38 : decode cX12_gift 38 = .ok (.ifCond .ne 14, 3) := by decide +kernel
theorem dX12_gift_41 : decode cX12_gift 41 = .ok (.aload_n 0, 1) := by decide +kernel
theorem dX12_gift_42 : decode cX12_gift 42 = .ok (.getfield 142, 3) := by decide +kernel
theorem dX12_gift_45 : decode cX12_gift 45 = .ok (.iconst 4, 1) := by decide +kernel
theorem dX12_gift_46 : decode cX12_gift 46 = .ok (.iload_n 1, 1) := by decide +kernel
theorem dX12_gift_47 : decode cX12_gift 47 = .ok (.iadd, 1) := by decide +kernel
theorem dX12_gift_48 : decode cX12_gift 48 = .ok (.iaload, 1) := by decide +kernel
theorem dX12_gift_49 : decode cX12_gift 49 = .ok (.goto 4, 3) := by decide +kernel
theorem dX12_gift_52 : decode cX12_gift 52 = .ok (.iconst (-1), 1) := by decide +kernel
theorem dX12_gift_53 : decode cX12_gift 53 = .ok (.ireturn, 1) := by decide +kernel
theorem dX12_warmest_0 : decode cX12_warmest 0 = .ok (.iload_n 1, 1) := by decide +kernel
theorem dX12_warmest_1 : decode cX12_warmest 1 = .ok (.iconst (-1), 1) := by decide +kernel
theorem dX12_warmest_2 : decode cX12_warmest 2 = .ok (.if_icmp .eq 13, 3) := by decide +kernel
theorem dX12_warmest_5 : decode cX12_warmest 5 = .ok (.aload_n 0, 1) := by decide +kernel
theorem dX12_warmest_6 : decode cX12_warmest 6 = .ok (.iload_n 1, 1) := by decide +kernel
theorem dX12_warmest_7 : decode cX12_warmest 7 = .ok (.invokevirtual 501, 3) := by decide +kernel
theorem dX12_warmest_10 : decode cX12_warmest 10 = .ok (.ifCond .ne 5, 3) := by decide +kernel
theorem dX12_warmest_13 : decode cX12_warmest 13 = .ok (.iconst (-1), 1) := by decide +kernel
theorem dX12_warmest_14 : decode cX12_warmest 14 = .ok (.ireturn, 1) := by decide +kernel
theorem dX12_warmest_15 : decode cX12_warmest 15 = .ok (.aload_n 0, 1) := by decide +kernel
theorem dX12_warmest_16 : decode cX12_warmest 16 = .ok (.invokevirtual 485, 3) := by decide +kernel
theorem dX12_warmest_19 : decode cX12_warmest 19 = .ok (.istore_n 2, 1) := by decide +kernel
theorem dX12_warmest_20 : decode cX12_warmest 20 = .ok (.iload_n 1, 1) := by decide +kernel
theorem dX12_warmest_21 : decode cX12_warmest 21 = .ok (.iconst (-1), 1) := by decide +kernel
theorem dX12_warmest_22 : decode cX12_warmest 22 = .ok (.if_icmp .ne 7, 3) := by decide +kernel
theorem dX12_warmest_25 : decode cX12_warmest 25 = .ok (.iload_n 2, 1) := by decide +kernel
theorem dX12_warmest_26 : decode cX12_warmest 26 = .ok (.goto 11, 3) := by decide +kernel
theorem dX12_warmest_29 : decode cX12_warmest 29 = .ok (.aload_n 0, 1) := by decide +kernel
theorem dX12_warmest_30 : decode cX12_warmest 30 = .ok (.getfield 154, 3) := by decide +kernel
theorem dX12_warmest_33 : decode cX12_warmest 33 = .ok (.iload_n 1, 1) := by decide +kernel
theorem dX12_warmest_34 : decode cX12_warmest 34 = .ok (.iaload, 1) := by decide +kernel
theorem dX12_warmest_35 : decode cX12_warmest 35 = .ok (.iconst 1, 1) := by decide +kernel
theorem dX12_warmest_36 : decode cX12_warmest 36 = .ok (.isub, 1) := by decide +kernel
theorem dX12_warmest_37 : decode cX12_warmest 37 = .ok (.ireturn, 1) := by decide +kernel
theorem dX12_keeps_0 : decode cX12_keeps 0 = .ok (.aload_n 0, 1) := by decide +kernel
theorem dX12_keeps_1 : decode cX12_keeps 1 = .ok (.aload_n 0, 1) := by decide +kernel
theorem dX12_keeps_2 : decode cX12_keeps 2 = .ok (.getfield 572, 3) := by decide +kernel
theorem dX12_keeps_5 : decode cX12_keeps 5 = .ok (.iconst 1, 1) := by decide +kernel
theorem dX12_keeps_6 : decode cX12_keeps 6 = .ok (.iadd, 1) := by decide +kernel
theorem dX12_keeps_7 : decode cX12_keeps 7 = .ok (.bipush 20, 2) := by decide +kernel
theorem dX12_keeps_9 : decode cX12_keeps 9 = .ok (.irem, 1) := by decide +kernel
theorem dX12_keeps_10 : decode cX12_keeps 10 = .ok (.putfield 572, 3) := by decide +kernel
theorem dX12_keeps_13 : decode cX12_keeps 13 = .ok (.iconst 0, 1) := by decide +kernel
theorem dX12_keeps_14 : decode cX12_keeps 14 = .ok (.istore_n 1, 1) := by decide +kernel
theorem dX12_keeps_15 : decode cX12_keeps 15 = .ok (.iload_n 1, 1) := by decide +kernel
theorem dX12_keeps_16 : decode cX12_keeps 16 = .ok (.bipush 32, 2) := by decide +kernel
theorem dX12_keeps_18 : decode cX12_keeps 18 = .ok (.if_icmp .ge 29, 3) := by decide +kernel
theorem dX12_keeps_21 : decode cX12_keeps 21 = .ok (.aload_n 0, 1) := by decide +kernel
theorem dX12_keeps_22 : decode cX12_keeps 22 = .ok (.getfield 172, 3) := by decide +kernel
theorem dX12_keeps_25 : decode cX12_keeps 25 = .ok (.bipush 32, 2) := by decide +kernel
theorem dX12_keeps_27 : decode cX12_keeps 27 = .ok (.aload_n 0, 1) := by decide +kernel
theorem dX12_keeps_28 : decode cX12_keeps 28 = .ok (.getfield 572, 3) := by decide +kernel
theorem dX12_keeps_31 : decode cX12_keeps 31 = .ok (.imul, 1) := by decide +kernel
theorem dX12_keeps_32 : decode cX12_keeps 32 = .ok (.iload_n 1, 1) := by decide +kernel
theorem dX12_keeps_33 : decode cX12_keeps 33 = .ok (.iadd, 1) := by decide +kernel
theorem dX12_keeps_34 : decode cX12_keeps 34 = .ok (.aload_n 0, 1) := by decide +kernel
theorem dX12_keeps_35 : decode cX12_keeps 35 = .ok (.getfield 142, 3) := by decide +kernel
theorem dX12_keeps_38 : decode cX12_keeps 38 = .ok (.iload_n 1, 1) := by decide +kernel
theorem dX12_keeps_39 : decode cX12_keeps 39 = .ok (.iaload, 1) := by decide +kernel
theorem dX12_keeps_40 : decode cX12_keeps 40 = .ok (.iastore, 1) := by decide +kernel
theorem dX12_keeps_41 : decode cX12_keeps 41 = .ok (.iinc 1 1, 3) := by decide +kernel
theorem dX12_keeps_44 : decode cX12_keeps 44 = .ok (.goto (-29), 3) := by decide +kernel
theorem dX12_keeps_47 : decode cX12_keeps 47 = .ok (.aload_n 0, 1) := by decide +kernel
theorem dX12_keeps_48 : decode cX12_keeps 48 = .ok (.getfield 413, 3) := by decide +kernel
theorem dX12_keeps_51 : decode cX12_keeps 51 = .ok (.bipush 20, 2) := by decide +kernel
theorem dX12_keeps_53 : decode cX12_keeps 53 = .ok (.if_icmp .ge 13, 3) := by decide +kernel
theorem dX12_keeps_56 : decode cX12_keeps 56 = .ok (.aload_n 0, 1) := by decide +kernel
theorem dX12_keeps_57 : decode cX12_keeps 57 = .ok (.dup, 1) := by decide +kernel
theorem dX12_keeps_58 : decode cX12_keeps 58 = .ok (.getfield 413, 3) := by decide +kernel
theorem dX12_keeps_61 : decode cX12_keeps 61 = .ok (.iconst 1, 1) := by decide +kernel
theorem dX12_keeps_62 : decode cX12_keeps 62 = .ok (.iadd, 1) := by decide +kernel
theorem dX12_keeps_63 : decode cX12_keeps 63 = .ok (.putfield 413, 3) := by decide +kernel
theorem dX12_keeps_66 : decode cX12_keeps 66 = .ok (.return_, 1) := by decide +kernel
theorem dX12_qOf_0 : decode cX12_qOf 0 = .ok (.iload_n 1, 1) := by decide +kernel
theorem dX12_qOf_1 : decode cX12_qOf 1 = .ok (.lookupswitch 11 #[], 11) := by decide +kernel
theorem dX12_qOf_12 : decode cX12_qOf 12 = .ok (.lload_n 2, 1) := by decide +kernel
theorem dX12_qOf_13 : decode cX12_qOf 13 = .ok (.lconst 0, 1) := by decide +kernel
theorem dX12_qOf_14 : decode cX12_qOf 14 = .ok (.aload_n 0, 1) := by decide +kernel
theorem dX12_qOf_15 : decode cX12_qOf 15 = .ok (.invokevirtual 410, 3) := by decide +kernel
theorem dX12_qOf_18 : decode cX12_qOf 18 = .ok (.iconst 1, 1) := by decide +kernel
theorem dX12_qOf_19 : decode cX12_qOf 19 = .ok (.isub, 1) := by decide +kernel
theorem dX12_qOf_20 : decode cX12_qOf 20 = .ok (.i2l, 1) := by decide +kernel
theorem dX12_qOf_21 : decode cX12_qOf 21 = .ok (.invokestatic 303, 3) := by decide +kernel
theorem dX12_qOf_24 : decode cX12_qOf 24 = .ok (.ifCond .eq 15, 3) := by decide +kernel
theorem dX12_qOf_27 : decode cX12_qOf 27 = .ok (.aload_n 0, 1) := by decide +kernel
theorem dX12_qOf_28 : decode cX12_qOf 28 = .ok (.iload 4, 2) := by decide +kernel
theorem dX12_qOf_30 : decode cX12_qOf 30 = .ok (.lload_n 2, 1) := by decide +kernel
theorem dX12_qOf_31 : decode cX12_qOf 31 = .ok (.l2i, 1) := by decide +kernel
theorem dX12_qOf_32 : decode cX12_qOf 32 = .ok (.invokevirtual 425, 3) := by decide +kernel
theorem dX12_qOf_35 : decode cX12_qOf 35 = .ok (.i2l, 1) := by decide +kernel
theorem dX12_qOf_36 : decode cX12_qOf 36 = .ok (.goto 4, 3) := by decide +kernel
theorem dX12_qOf_39 : decode cX12_qOf 39 = .ok (.lconst 0, 1) := by decide +kernel
theorem dX12_qOf_40 : decode cX12_qOf 40 = .ok (.lreturn, 1) := by decide +kernel
theorem dX12_qKind_0 : decode cX12_qKind 0 = .ok (.aload_n 0, 1) := by decide +kernel
theorem dX12_qKind_1 : decode cX12_qKind 1 = .ok (.aload_n 0, 1) := by decide +kernel
theorem dX12_qKind_2 : decode cX12_qKind 2 = .ok (.getfield 179, 3) := by decide +kernel
theorem dX12_qKind_5 : decode cX12_qKind 5 = .ok (.invokevirtual 290, 3) := by decide +kernel
theorem dX12_qKind_8 : decode cX12_qKind 8 = .ok (.ifCond .eq 7, 3) := by decide +kernel
theorem dX12_qKind_11 : decode cX12_qKind 11 = .ok (.iconst 0, 1) := by decide +kernel
theorem dX12_qKind_12 : decode cX12_qKind 12 = .ok (.goto 64, 3) := by decide +kernel
theorem dX12_qKind_15 : decode cX12_qKind 15 = .ok (.aload_n 0, 1) := by decide +kernel
theorem dX12_qKind_16 : decode cX12_qKind 16 = .ok (.aload_n 0, 1) := by decide +kernel
theorem dX12_qKind_17 : decode cX12_qKind 17 = .ok (.getfield 182, 3) := by decide +kernel
theorem dX12_qKind_20 : decode cX12_qKind 20 = .ok (.invokevirtual 290, 3) := by decide +kernel
theorem dX12_qKind_23 : decode cX12_qKind 23 = .ok (.ifCond .eq 7, 3) := by decide +kernel
theorem dX12_qKind_26 : decode cX12_qKind 26 = .ok (.iconst 1, 1) := by decide +kernel
theorem dX12_qKind_27 : decode cX12_qKind 27 = .ok (.goto 49, 3) := by decide +kernel
theorem dX12_qKind_30 : decode cX12_qKind 30 = .ok (.aload_n 0, 1) := by decide +kernel
theorem dX12_qKind_31 : decode cX12_qKind 31 = .ok (.aload_n 0, 1) := by decide +kernel
theorem dX12_qKind_32 : decode cX12_qKind 32 = .ok (.getfield 185, 3) := by decide +kernel
theorem dX12_qKind_35 : decode cX12_qKind 35 = .ok (.invokevirtual 290, 3) := by decide +kernel
theorem dX12_qKind_38 : decode cX12_qKind 38 = .ok (.ifCond .eq 7, 3) := by decide +kernel
theorem dX12_qKind_41 : decode cX12_qKind 41 = .ok (.iconst 2, 1) := by decide +kernel
theorem dX12_qKind_42 : decode cX12_qKind 42 = .ok (.goto 34, 3) := by decide +kernel
theorem dX12_qKind_45 : decode cX12_qKind 45 = .ok (.aload_n 0, 1) := by decide +kernel
theorem dX12_qKind_46 : decode cX12_qKind 46 = .ok (.aload_n 0, 1) := by decide +kernel
theorem dX12_qKind_47 : decode cX12_qKind 47 = .ok (.getfield 188, 3) := by decide +kernel
theorem dX12_qKind_50 : decode cX12_qKind 50 = .ok (.invokevirtual 290, 3) := by decide +kernel
theorem dX12_qKind_53 : decode cX12_qKind 53 = .ok (.ifCond .eq 7, 3) := by decide +kernel
theorem dX12_qKind_56 : decode cX12_qKind 56 = .ok (.iconst 3, 1) := by decide +kernel
theorem dX12_qKind_57 : decode cX12_qKind 57 = .ok (.goto 19, 3) := by decide +kernel
theorem dX12_qKind_60 : decode cX12_qKind 60 = .ok (.aload_n 0, 1) := by decide +kernel
theorem dX12_qKind_61 : decode cX12_qKind 61 = .ok (.aload_n 0, 1) := by decide +kernel
theorem dX12_qKind_62 : decode cX12_qKind 62 = .ok (.getfield 191, 3) := by decide +kernel
theorem dX12_qKind_65 : decode cX12_qKind 65 = .ok (.invokevirtual 290, 3) := by decide +kernel
theorem dX12_qKind_68 : decode cX12_qKind 68 = .ok (.ifCond .eq 7, 3) := by decide +kernel
theorem dX12_qKind_71 : decode cX12_qKind 71 = .ok (.iconst 4, 1) := by decide +kernel
theorem dX12_qKind_72 : decode cX12_qKind 72 = .ok (.goto 4, 3) := by decide +kernel
theorem dX12_qKind_75 : decode cX12_qKind 75 = .ok (.iconst 5, 1) := by decide +kernel
theorem dX12_qKind_76 : decode cX12_qKind 76 = .ok (.istore_n 1, 1) := by decide +kernel
theorem dX12_qKind_77 : decode cX12_qKind 77 = .ok (.iload_n 1, 1) := by decide +kernel
theorem dX12_qKind_78 : decode cX12_qKind 78 = .ok (.iconst 5, 1) := by decide +kernel
theorem dX12_qKind_79 : decode cX12_qKind 79 = .ok (.if_icmp .ne 11, 3) := by decide +kernel
theorem dX12_qKind_82 : decode cX12_qKind 82 = .ok (.aload_n 0, 1) := by decide +kernel
theorem dX12_qKind_83 : decode cX12_qKind 83 = .ok (.aload_n 0, 1) := by decide +kernel
theorem dX12_qKind_84 : decode cX12_qKind 84 = .ok (.getfield 194, 3) := by decide +kernel
theorem dX12_qKind_87 : decode cX12_qKind 87 = .ok (.invokevirtual 337, 3) := by decide +kernel
theorem dX12_qKind_90 : decode cX12_qKind 90 = .ok (.iload_n 1, 1) := by decide +kernel
theorem dX12_qKind_91 : decode cX12_qKind 91 = .ok (.ireturn, 1) := by decide +kernel
theorem dX12_qDropsNots_0 : decode cX12_qDropsNots 0 = .ok (.aload_n 0, 1) := by decide +kernel
theorem dX12_qDropsNots_1 : decode cX12_qDropsNots 1 = .ok (.getfield 263, 3) := by decide +kernel
theorem dX12_qDropsNots_4 : decode cX12_qDropsNots 4 = .ok (.ifCond .ne 29, 3) := by decide +kernel
theorem dX12_qDropsNots_7 : decode cX12_qDropsNots 7 = .ok (.aload_n 0, 1) := by decide +kernel
theorem dX12_qDropsNots_8 : decode cX12_qDropsNots 8 = .ok (.bipush 12, 2) := by decide +kernel
theorem dX12_qDropsNots_10 : decode cX12_qDropsNots 10 = .ok (.invokevirtual 627, 3) := by decide +kernel
theorem dX12_qDropsNots_13 : decode cX12_qDropsNots 13 = .ok (.ifCond .eq 20, 3) := by decide +kernel
theorem dX12_qDropsNots_16 : decode cX12_qDropsNots 16 = .ok (.aload_n 0, 1) := by decide +kernel
theorem dX12_qDropsNots_17 : decode cX12_qDropsNots 17 = .ok (.dup, 1) := by decide +kernel
theorem dX12_qDropsNots_18 : decode cX12_qDropsNots 18 = .ok (.getfield 358, 3) := by decide +kernel
theorem dX12_qDropsNots_21 : decode cX12_qDropsNots 21 = .ok (.iconst 1, 1) := by decide +kernel
theorem dX12_qDropsNots_22 : decode cX12_qDropsNots 22 = .ok (.isub, 1) := by decide +kernel
theorem dX12_qDropsNots_23 : decode cX12_qDropsNots 23 = .ok (.putfield 358, 3) := by decide +kernel
theorem dX12_qDropsNots_26 : decode cX12_qDropsNots 26 = .ok (.aload_n 0, 1) := by decide +kernel
theorem dX12_qDropsNots_27 : decode cX12_qDropsNots 27 = .ok (.invokevirtual 600, 3) := by decide +kernel
theorem dX12_qDropsNots_30 : decode cX12_qDropsNots 30 = .ok (.goto (-30), 3) := by decide +kernel
theorem dX12_qDropsNots_33 : decode cX12_qDropsNots 33 = .ok (.return_, 1) := by decide +kernel
theorem dX12_fault_0 : decode cX12_fault 0 = .ok (.iload_n 1, 1) := by decide +kernel
theorem dX12_fault_1 : decode cX12_fault 1 = .ok (.ifCond .ne 10, 3) := by decide +kernel
theorem dX12_fault_4 : decode cX12_fault 4 = .ok (.aload_n 0, 1) := by decide +kernel
theorem dX12_fault_5 : decode cX12_fault 5 = .ok (.getfield 401, 3) := by decide +kernel
theorem dX12_fault_8 : decode cX12_fault 8 = .ok (.goto 16, 3) := by decide +kernel
theorem dX12_fault_11 : decode cX12_fault 11 = .ok (.iload_n 1, 1) := by decide +kernel
theorem dX12_fault_12 : decode cX12_fault 12 = .ok (.iconst 1, 1) := by decide +kernel
theorem dX12_fault_13 : decode cX12_fault 13 = .ok (.if_icmp .ne 10, 3) := by decide +kernel
theorem dX12_fault_16 : decode cX12_fault 16 = .ok (.aload_n 0, 1) := by decide +kernel
theorem dX12_fault_17 : decode cX12_fault 17 = .ok (.getfield 13, 3) := by decide +kernel
theorem dX12_fault_20 : decode cX12_fault 20 = .ok (.goto 4, 3) := by decide +kernel
theorem dX12_fault_23 : decode cX12_fault 23 = .ok (.iconst (-1), 1) := by decide +kernel
theorem dX12_fault_24 : decode cX12_fault 24 = .ok (.ireturn, 1) := by decide +kernel
theorem dX12_evenings_0 : decode cX12_evenings 0 = .ok (.aload_n 0, 1) := by decide +kernel
theorem dX12_evenings_1 : decode cX12_evenings 1 = .ok (.iload_n 1, 1) := by decide +kernel
theorem dX12_evenings_2 : decode cX12_evenings 2 = .ok (.iconst 1, 1) := by decide +kernel
theorem dX12_evenings_3 : decode cX12_evenings 3 = .ok (.bipush 50, 2) := by decide +kernel
theorem dX12_evenings_5 : decode cX12_evenings 5 = .ok (.invokevirtual 524, 3) := by decide +kernel
theorem dX12_evenings_8 : decode cX12_evenings 8 = .ok (.ifCond .ne 9, 3) := by decide +kernel
theorem dX12_evenings_11 : decode cX12_evenings 11 = .ok (.aload_n 0, 1) := by decide +kernel
theorem dX12_evenings_12 : decode cX12_evenings 12 = .ok (.iconst 3, 1) := by decide +kernel
theorem dX12_evenings_13 : decode cX12_evenings 13 = .ok (.invokevirtual 560, 3) := by decide +kernel
theorem dX12_evenings_16 : decode cX12_evenings 16 = .ok (.ireturn, 1) := by decide +kernel
theorem dX12_evenings_17 : decode cX12_evenings 17 = .ok (.aload_n 0, 1) := by decide +kernel
theorem dX12_evenings_18 : decode cX12_evenings 18 = .ok (.invokevirtual 575, 3) := by decide +kernel
theorem dX12_evenings_21 : decode cX12_evenings 21 = .ok (.iconst 0, 1) := by decide +kernel
theorem dX12_evenings_22 : decode cX12_evenings 22 = .ok (.istore_n 2, 1) := by decide +kernel
theorem dX12_evenings_23 : decode cX12_evenings 23 = .ok (.iconst 0, 1) := by decide +kernel
theorem dX12_evenings_24 : decode cX12_evenings 24 = .ok (.istore_n 3, 1) := by decide +kernel
theorem dX12_evenings_25 : decode cX12_evenings 25 = .ok (.iload_n 3, 1) := by decide +kernel
theorem dX12_evenings_26 : decode cX12_evenings 26 = .ok (.iload_n 1, 1) := by decide +kernel
theorem dX12_evenings_27 : decode cX12_evenings 27 = .ok (.if_icmp .ge 16, 3) := by decide +kernel
theorem dX12_evenings_30 : decode cX12_evenings 30 = .ok (.iload_n 2, 1) := by decide +kernel
theorem dX12_evenings_31 : decode cX12_evenings 31 = .ok (.aload_n 0, 1) := by decide +kernel
theorem dX12_evenings_32 : decode cX12_evenings 32 = .ok (.invokevirtual 530, 3) := by decide +kernel
theorem dX12_evenings_35 : decode cX12_evenings 35 = .ok (.iadd, 1) := by decide +kernel
theorem dX12_evenings_36 : decode cX12_evenings 36 = .ok (.istore_n 2, 1) := by decide +kernel
theorem dX12_evenings_37 : decode cX12_evenings 37 = .ok (.iinc 3 1, 3) := by decide +kernel
theorem dX12_evenings_40 : decode cX12_evenings 40 = .ok (.goto (-15), 3) := by decide +kernel
theorem dX12_evenings_43 : decode cX12_evenings 43 = .ok (.iload_n 2, 1) := by decide +kernel
theorem dX12_evenings_44 : decode cX12_evenings 44 = .ok (.ireturn, 1) := by decide +kernel
theorem dX12_nearTold_0 : decode cX12_nearTold 0 = .ok (.aload_n 0, 1) := by decide +kernel
theorem dX12_nearTold_1 : decode cX12_nearTold 1 = .ok (.iconst 3, 1) := by decide +kernel
theorem dX12_nearTold_2 : decode cX12_nearTold 2 = .ok (.bipush 20, 2) := by decide +kernel
theorem dX12_nearTold_4 : decode cX12_nearTold 4 = .ok (.iload_n 1, 1) := by decide +kernel
theorem dX12_nearTold_5 : decode cX12_nearTold 5 = .ok (.invokevirtual 330, 3) := by decide +kernel
theorem dX12_nearTold_8 : decode cX12_nearTold 8 = .ok (.ifCond .eq 4, 3) := by decide +kernel
theorem dX12_nearTold_11 : decode cX12_nearTold 11 = .ok (.return_, 1) := by decide +kernel
theorem dX12_nearTold_12 : decode cX12_nearTold 12 = .ok (.aload_n 0, 1) := by decide +kernel
theorem dX12_nearTold_13 : decode cX12_nearTold 13 = .ok (.iconst 0, 1) := by decide +kernel
theorem dX12_nearTold_14 : decode cX12_nearTold 14 = .ok (.invokevirtual 348, 3) := by decide +kernel
theorem dX12_nearTold_17 : decode cX12_nearTold 17 = .ok (.istore_n 2, 1) := by decide +kernel
theorem dX12_nearTold_18 : decode cX12_nearTold 18 = .ok (.aload_n 0, 1) := by decide +kernel
theorem dX12_nearTold_19 : decode cX12_nearTold 19 = .ok (.iconst 0, 1) := by decide +kernel
theorem dX12_nearTold_20 : decode cX12_nearTold 20 = .ok (.invokevirtual 348, 3) := by decide +kernel
theorem dX12_nearTold_23 : decode cX12_nearTold 23 = .ok (.istore_n 3, 1) := by decide +kernel
theorem dX12_nearTold_24 : decode cX12_nearTold 24 = .ok (.aload_n 0, 1) := by decide +kernel
theorem dX12_nearTold_25 : decode cX12_nearTold 25 = .ok (.getfield 263, 3) := by decide +kernel
theorem dX12_nearTold_28 : decode cX12_nearTold 28 = .ok (.ifCond .ne 31, 3) := by decide +kernel
theorem dX12_nearTold_31 : decode cX12_nearTold 31 = .ok (.iload_n 2, 1) := by decide +kernel
theorem dX12_nearTold_32 : decode cX12_nearTold 32 = .ok (.iload_n 3, 1) := by decide +kernel
theorem dX12_nearTold_33 : decode cX12_nearTold 33 = .ok (.if_icmp .eq 17, 3) := by decide +kernel
theorem dX12_nearTold_36 : decode cX12_nearTold 36 = .ok (.aload_n 0, 1) := by decide +kernel
theorem dX12_nearTold_37 : decode cX12_nearTold 37 = .ok (.getfield 121, 3) := by decide +kernel
theorem dX12_nearTold_40 : decode cX12_nearTold 40 = .ok (.iload_n 2, 1) := by decide +kernel
theorem dX12_nearTold_41 : decode cX12_nearTold 41 = .ok (.iaload, 1) := by decide +kernel
theorem dX12_nearTold_42 : decode cX12_nearTold 42 = .ok (.iload_n 3, 1) := by decide +kernel
theorem dX12_nearTold_43 : decode cX12_nearTold 43 = .ok (.ishr, 1) := by decide +kernel
theorem dX12_nearTold_44 : decode cX12_nearTold 44 = .ok (.iconst 1, 1) := by decide +kernel
theorem dX12_nearTold_45 : decode cX12_nearTold 45 = .ok (.iand, 1) := by decide +kernel
theorem dX12_nearTold_46 : decode cX12_nearTold 46 = .ok (.iconst 1, 1) := by decide +kernel
theorem dX12_nearTold_47 : decode cX12_nearTold 47 = .ok (.if_icmp .ne 12, 3) := by decide +kernel
theorem dX12_nearTold_50 : decode cX12_nearTold 50 = .ok (.aload_n 0, 1) := by decide +kernel
theorem dX12_nearTold_51 : decode cX12_nearTold 51 = .ok (.iconst 3, 1) := by decide +kernel
theorem dX12_nearTold_52 : decode cX12_nearTold 52 = .ok (.aload_n 0, 1) := by decide +kernel
theorem dX12_nearTold_53 : decode cX12_nearTold 53 = .ok (.getfield 311, 3) := by decide +kernel
theorem dX12_nearTold_56 : decode cX12_nearTold 56 = .ok (.invokevirtual 293, 3) := by decide +kernel
theorem dX12_nearTold_59 : decode cX12_nearTold 59 = .ok (.aload_n 0, 1) := by decide +kernel
theorem dX12_nearTold_60 : decode cX12_nearTold 60 = .ok (.getfield 263, 3) := by decide +kernel
theorem dX12_nearTold_63 : decode cX12_nearTold 63 = .ok (.ifCond .eq 4, 3) := by decide +kernel
theorem dX12_nearTold_66 : decode cX12_nearTold 66 = .ok (.return_, 1) := by decide +kernel
theorem dX12_nearTold_67 : decode cX12_nearTold 67 = .ok (.aload_n 0, 1) := by decide +kernel
theorem dX12_nearTold_68 : decode cX12_nearTold 68 = .ok (.getfield 121, 3) := by decide +kernel
theorem dX12_nearTold_71 : decode cX12_nearTold 71 = .ok (.iload_n 2, 1) := by decide +kernel
theorem dX12_nearTold_72 : decode cX12_nearTold 72 = .ok (.dup2, 1) := by decide +kernel
theorem dX12_nearTold_73 : decode cX12_nearTold 73 = .ok (.iaload, 1) := by decide +kernel
theorem dX12_nearTold_74 : decode cX12_nearTold 74 = .ok (.iconst 1, 1) := by decide +kernel
theorem dX12_nearTold_75 : decode cX12_nearTold 75 = .ok (.iload_n 3, 1) := by decide +kernel
theorem dX12_nearTold_76 : decode cX12_nearTold 76 = .ok (.ishl, 1) := by decide +kernel
theorem dX12_nearTold_77 : decode cX12_nearTold 77 = .ok (.ior, 1) := by decide +kernel
theorem dX12_nearTold_78 : decode cX12_nearTold 78 = .ok (.iastore, 1) := by decide +kernel
theorem dX12_nearTold_79 : decode cX12_nearTold 79 = .ok (.aload_n 0, 1) := by decide +kernel
theorem dX12_nearTold_80 : decode cX12_nearTold 80 = .ok (.getfield 121, 3) := by decide +kernel
theorem dX12_nearTold_83 : decode cX12_nearTold 83 = .ok (.iload_n 3, 1) := by decide +kernel
theorem dX12_nearTold_84 : decode cX12_nearTold 84 = .ok (.dup2, 1) := by decide +kernel
theorem dX12_nearTold_85 : decode cX12_nearTold 85 = .ok (.iaload, 1) := by decide +kernel
theorem dX12_nearTold_86 : decode cX12_nearTold 86 = .ok (.iconst 1, 1) := by decide +kernel
theorem dX12_nearTold_87 : decode cX12_nearTold 87 = .ok (.iload_n 2, 1) := by decide +kernel
theorem dX12_nearTold_88 : decode cX12_nearTold 88 = .ok (.ishl, 1) := by decide +kernel
theorem dX12_nearTold_89 : decode cX12_nearTold 89 = .ok (.ior, 1) := by decide +kernel
theorem dX12_nearTold_90 : decode cX12_nearTold 90 = .ok (.iastore, 1) := by decide +kernel
theorem dX12_nearTold_91 : decode cX12_nearTold 91 = .ok (.aload_n 0, 1) := by decide +kernel
theorem dX12_nearTold_92 : decode cX12_nearTold 92 = .ok (.getfield 105, 3) := by decide +kernel
theorem dX12_nearTold_95 : decode cX12_nearTold 95 = .ok (.iconst 3, 1) := by decide +kernel
theorem dX12_nearTold_96 : decode cX12_nearTold 96 = .ok (.dup2, 1) := by decide +kernel
theorem dX12_nearTold_97 : decode cX12_nearTold 97 = .ok (.iaload, 1) := by decide +kernel
theorem dX12_nearTold_98 : decode cX12_nearTold 98 = .ok (.iconst 1, 1) := by decide +kernel
theorem dX12_nearTold_99 : decode cX12_nearTold 99 = .ok (.iadd, 1) := by decide +kernel
theorem dX12_nearTold_100 : decode cX12_nearTold 100 = .ok (.iastore, 1) := by decide +kernel
theorem dX12_nearTold_101 : decode cX12_nearTold 101 = .ok (.return_, 1) := by decide +kernel
theorem dX12_doesBear_0 : decode cX12_doesBear 0 = .ok (.aload_n 0, 1) := by decide +kernel
theorem dX12_doesBear_1 : decode cX12_doesBear 1 = .ok (.getfield 127, 3) := by decide +kernel
theorem dX12_doesBear_4 : decode cX12_doesBear 4 = .ok (.bipush 11, 2) := by decide +kernel
theorem dX12_doesBear_6 : decode cX12_doesBear 6 = .ok (.iconst 3, 1) := by decide +kernel
theorem dX12_doesBear_7 : decode cX12_doesBear 7 = .ok (.iload_n 2, 1) := by decide +kernel
theorem dX12_doesBear_8 : decode cX12_doesBear 8 = .ok (.imul, 1) := by decide +kernel
theorem dX12_doesBear_9 : decode cX12_doesBear 9 = .ok (.iadd, 1) := by decide +kernel
theorem dX12_doesBear_10 : decode cX12_doesBear 10 = .ok (.iaload, 1) := by decide +kernel
theorem dX12_doesBear_11 : decode cX12_doesBear 11 = .ok (.aload_n 0, 1) := by decide +kernel
theorem dX12_doesBear_12 : decode cX12_doesBear 12 = .ok (.getfield 112, 3) := by decide +kernel
theorem dX12_doesBear_15 : decode cX12_doesBear 15 = .ok (.bipush 26, 2) := by decide +kernel
theorem dX12_doesBear_17 : decode cX12_doesBear 17 = .ok (.iconst 3, 1) := by decide +kernel
theorem dX12_doesBear_18 : decode cX12_doesBear 18 = .ok (.iload_n 1, 1) := by decide +kernel
theorem dX12_doesBear_19 : decode cX12_doesBear 19 = .ok (.imul, 1) := by decide +kernel
theorem dX12_doesBear_20 : decode cX12_doesBear 20 = .ok (.iadd, 1) := by decide +kernel
theorem dX12_doesBear_21 : decode cX12_doesBear 21 = .ok (.iaload, 1) := by decide +kernel
theorem dX12_doesBear_22 : decode cX12_doesBear 22 = .ok (.if_icmp .lt 7, 3) := by decide +kernel
theorem dX12_doesBear_25 : decode cX12_doesBear 25 = .ok (.iconst 1, 1) := by decide +kernel
theorem dX12_doesBear_26 : decode cX12_doesBear 26 = .ok (.goto 4, 3) := by decide +kernel
theorem dX12_doesBear_29 : decode cX12_doesBear 29 = .ok (.iconst 0, 1) := by decide +kernel
theorem dX12_doesBear_30 : decode cX12_doesBear 30 = .ok (.ireturn, 1) := by decide +kernel
theorem dX12_answeredMany_0 : decode cX12_answeredMany 0 = .ok (.iconst 0, 1) := by decide +kernel
theorem dX12_answeredMany_1 : decode cX12_answeredMany 1 = .ok (.istore_n 1, 1) := by decide +kernel
theorem dX12_answeredMany_2 : decode cX12_answeredMany 2 = .ok (.iconst 0, 1) := by decide +kernel
theorem dX12_answeredMany_3 : decode cX12_answeredMany 3 = .ok (.istore_n 2, 1) := by decide +kernel
theorem dX12_answeredMany_4 : decode cX12_answeredMany 4 = .ok (.iload_n 2, 1) := by decide +kernel
theorem dX12_answeredMany_5 : decode cX12_answeredMany 5 = .ok (.aload_n 0, 1) := by decide +kernel
theorem dX12_answeredMany_6 : decode cX12_answeredMany 6 = .ok (.invokevirtual 419, 3) := by decide +kernel
theorem dX12_answeredMany_9 : decode cX12_answeredMany 9 = .ok (.if_icmp .ge 20, 3) := by decide +kernel
theorem dX12_answeredMany_12 : decode cX12_answeredMany 12 = .ok (.aload_n 0, 1) := by decide +kernel
theorem dX12_answeredMany_13 : decode cX12_answeredMany 13 = .ok (.iload_n 2, 1) := by decide +kernel
theorem dX12_answeredMany_14 : decode cX12_answeredMany 14 = .ok (.invokevirtual 451, 3) := by decide +kernel
theorem dX12_answeredMany_17 : decode cX12_answeredMany 17 = .ok (.ifCond .le 6, 3) := by decide +kernel
theorem dX12_answeredMany_20 : decode cX12_answeredMany 20 = .ok (.iinc 1 1, 3) := by decide +kernel
theorem dX12_answeredMany_23 : decode cX12_answeredMany 23 = .ok (.iinc 2 1, 3) := by decide +kernel
theorem dX12_answeredMany_26 : decode cX12_answeredMany 26 = .ok (.goto (-22), 3) := by decide +kernel
theorem dX12_answeredMany_29 : decode cX12_answeredMany 29 = .ok (.iload_n 1, 1) := by decide +kernel
theorem dX12_answeredMany_30 : decode cX12_answeredMany 30 = .ok (.ireturn, 1) := by decide +kernel
theorem dX12_newName_0 : decode cX12_newName 0 = .ok (.aload_n 0, 1) := by decide +kernel
theorem dX12_newName_1 : decode cX12_newName 1 = .ok (.invokevirtual 322, 3) := by decide +kernel
theorem dX12_newName_4 : decode cX12_newName 4 = .ok (.lstore_n 1, 1) := by decide +kernel
theorem dX12_newName_5 : decode cX12_newName 5 = .ok (.iconst 0, 1) := by decide +kernel
theorem dX12_newName_6 : decode cX12_newName 6 = .ok (.istore_n 3, 1) := by decide +kernel
theorem dX12_newName_7 : decode cX12_newName 7 = .ok (.iload_n 3, 1) := by decide +kernel
theorem dX12_newName_8 : decode cX12_newName 8 = .ok (.iconst 3, 1) := by decide +kernel
theorem dX12_newName_9 : decode cX12_newName 9 = .ok (.if_icmp .ge 35, 3) := by decide +kernel
theorem dX12_newName_12 : decode cX12_newName 12 = .ok (.aload_n 0, 1) := by decide +kernel
theorem dX12_newName_13 : decode cX12_newName 13 = .ok (.getfield 263, 3) := by decide +kernel
theorem dX12_newName_16 : decode cX12_newName 16 = .ok (.ifCond .ne 22, 3) := by decide +kernel
theorem dX12_newName_19 : decode cX12_newName 19 = .ok (.aload_n 0, 1) := by decide +kernel
theorem dX12_newName_20 : decode cX12_newName 20 = .ok (.iload_n 3, 1) := by decide +kernel
theorem dX12_newName_21 : decode cX12_newName 21 = .ok (.lload_n 1, 1) := by decide +kernel
theorem dX12_newName_22 : decode cX12_newName 22 = .ok (.invokevirtual 326, 3) := by decide +kernel
theorem dX12_newName_25 : decode cX12_newName 25 = .ok (.iconst (-1), 1) := by decide +kernel
theorem dX12_newName_26 : decode cX12_newName 26 = .ok (.if_icmp .eq 12, 3) := by decide +kernel
theorem dX12_newName_29 : decode cX12_newName 29 = .ok (.aload_n 0, 1) := by decide +kernel
theorem dX12_newName_30 : decode cX12_newName 30 = .ok (.iconst 3, 1) := by decide +kernel
theorem dX12_newName_31 : decode cX12_newName 31 = .ok (.aload_n 0, 1) := by decide +kernel
theorem dX12_newName_32 : decode cX12_newName 32 = .ok (.getfield 311, 3) := by decide +kernel
theorem dX12_newName_35 : decode cX12_newName 35 = .ok (.invokevirtual 293, 3) := by decide +kernel
theorem dX12_newName_38 : decode cX12_newName 38 = .ok (.iinc 3 1, 3) := by decide +kernel
theorem dX12_newName_41 : decode cX12_newName 41 = .ok (.goto (-34), 3) := by decide +kernel
theorem dX12_newName_44 : decode cX12_newName 44 = .ok (.lload_n 1, 1) := by decide +kernel
theorem dX12_newName_45 : decode cX12_newName 45 = .ok (.lreturn, 1) := by decide +kernel
theorem dX12_laysTimes_0 : decode cX12_laysTimes 0 = .ok (.iconst 0, 1) := by decide +kernel
theorem dX12_laysTimes_1 : decode cX12_laysTimes 1 = .ok (.istore_n 1, 1) := by decide +kernel
theorem dX12_laysTimes_2 : decode cX12_laysTimes 2 = .ok (.iload_n 1, 1) := by decide +kernel
theorem dX12_laysTimes_3 : decode cX12_laysTimes 3 = .ok (.aload_n 0, 1) := by decide +kernel
theorem dX12_laysTimes_4 : decode cX12_laysTimes 4 = .ok (.invokevirtual 419, 3) := by decide +kernel
theorem dX12_laysTimes_7 : decode cX12_laysTimes 7 = .ok (.if_icmp .ge 57, 3) := by decide +kernel
theorem dX12_laysTimes_10 : decode cX12_laysTimes 10 = .ok (.iconst 0, 1) := by decide +kernel
theorem dX12_laysTimes_11 : decode cX12_laysTimes 11 = .ok (.istore_n 2, 1) := by decide +kernel
theorem dX12_laysTimes_12 : decode cX12_laysTimes 12 = .ok (.iload_n 2, 1) := by decide +kernel
theorem dX12_laysTimes_13 : decode cX12_laysTimes 13 = .ok (.aload_n 0, 1) := by decide +kernel
theorem dX12_laysTimes_14 : decode cX12_laysTimes 14 = .ok (.invokevirtual 422, 3) := by decide +kernel
theorem dX12_laysTimes_17 : decode cX12_laysTimes 17 = .ok (.if_icmp .ge 41, 3) := by decide +kernel
theorem dX12_laysTimes_20 : decode cX12_laysTimes 20 = .ok (.aload_n 0, 1) := by decide +kernel
theorem dX12_laysTimes_21 : decode cX12_laysTimes 21 = .ok (.getfield 157, 3) := by decide +kernel
theorem dX12_laysTimes_24 : decode cX12_laysTimes 24 = .ok (.iconst 3, 1) := by decide +kernel
theorem dX12_laysTimes_25 : decode cX12_laysTimes 25 = .ok (.iload_n 1, 1) := by decide +kernel
theorem dX12_laysTimes_26 : decode cX12_laysTimes 26 = .ok (.imul, 1) := by decide +kernel
theorem dX12_laysTimes_27 : decode cX12_laysTimes 27 = .ok (.iload_n 2, 1) := by decide +kernel
theorem dX12_laysTimes_28 : decode cX12_laysTimes 28 = .ok (.iadd, 1) := by decide +kernel
theorem dX12_laysTimes_29 : decode cX12_laysTimes 29 = .ok (.aload_n 0, 1) := by decide +kernel
theorem dX12_laysTimes_30 : decode cX12_laysTimes 30 = .ok (.iload_n 1, 1) := by decide +kernel
theorem dX12_laysTimes_31 : decode cX12_laysTimes 31 = .ok (.iload_n 2, 1) := by decide +kernel
theorem dX12_laysTimes_32 : decode cX12_laysTimes 32 = .ok (.invokevirtual 461, 3) := by decide +kernel
theorem dX12_laysTimes_35 : decode cX12_laysTimes 35 = .ok (.iastore, 1) := by decide +kernel
theorem dX12_laysTimes_36 : decode cX12_laysTimes 36 = .ok (.aload_n 0, 1) := by decide +kernel
theorem dX12_laysTimes_37 : decode cX12_laysTimes 37 = .ok (.getfield 160, 3) := by decide +kernel
theorem dX12_laysTimes_40 : decode cX12_laysTimes 40 = .ok (.iconst 3, 1) := by decide +kernel
theorem dX12_laysTimes_41 : decode cX12_laysTimes 41 = .ok (.iload_n 1, 1) := by decide +kernel
theorem dX12_laysTimes_42 : decode cX12_laysTimes 42 = .ok (.imul, 1) := by decide +kernel
theorem dX12_laysTimes_43 : decode cX12_laysTimes 43 = .ok (.iload_n 2, 1) := by decide +kernel
theorem dX12_laysTimes_44 : decode cX12_laysTimes 44 = .ok (.iadd, 1) := by decide +kernel
theorem dX12_laysTimes_45 : decode cX12_laysTimes 45 = .ok (.aload_n 0, 1) := by decide +kernel
theorem dX12_laysTimes_46 : decode cX12_laysTimes 46 = .ok (.iload_n 1, 1) := by decide +kernel
theorem dX12_laysTimes_47 : decode cX12_laysTimes 47 = .ok (.iload_n 2, 1) := by decide +kernel
theorem dX12_laysTimes_48 : decode cX12_laysTimes 48 = .ok (.invokevirtual 464, 3) := by decide +kernel
theorem dX12_laysTimes_51 : decode cX12_laysTimes 51 = .ok (.lastore, 1) := by decide +kernel
theorem dX12_laysTimes_52 : decode cX12_laysTimes 52 = .ok (.iinc 2 1, 3) := by decide +kernel
theorem dX12_laysTimes_55 : decode cX12_laysTimes 55 = .ok (.goto (-43), 3) := by decide +kernel
theorem dX12_laysTimes_58 : decode cX12_laysTimes 58 = .ok (.iinc 1 1, 3) := by decide +kernel
theorem dX12_laysTimes_61 : decode cX12_laysTimes 61 = .ok (.goto (-59), 3) := by decide +kernel
theorem dX12_laysTimes_64 : decode cX12_laysTimes 64 = .ok (.return_, 1) := by decide +kernel
theorem dX12_isGift_0 : decode cX12_isGift 0 = .ok (.iload_n 1, 1) := by decide +kernel
theorem dX12_isGift_1 : decode cX12_isGift 1 = .ok (.i2l, 1) := by decide +kernel
theorem dX12_isGift_2 : decode cX12_isGift 2 = .ok (.lconst 0, 1) := by decide +kernel
theorem dX12_isGift_3 : decode cX12_isGift 3 = .ok (.aload_n 0, 1) := by decide +kernel
theorem dX12_isGift_4 : decode cX12_isGift 4 = .ok (.invokevirtual 410, 3) := by decide +kernel
theorem dX12_isGift_7 : decode cX12_isGift 7 = .ok (.iconst 1, 1) := by decide +kernel
theorem dX12_isGift_8 : decode cX12_isGift 8 = .ok (.isub, 1) := by decide +kernel
theorem dX12_isGift_9 : decode cX12_isGift 9 = .ok (.i2l, 1) := by decide +kernel
theorem dX12_isGift_10 : decode cX12_isGift 10 = .ok (.invokestatic 303, 3) := by decide +kernel
theorem dX12_isGift_13 : decode cX12_isGift 13 = .ok (.ireturn, 1) := by decide +kernel
theorem dX12_warmIn_0 : decode cX12_warmIn 0 = .ok (.lconst 0, 1) := by decide +kernel
theorem dX12_warmIn_1 : decode cX12_warmIn 1 = .ok (.lstore_n 1, 1) := by decide +kernel
theorem dX12_warmIn_2 : decode cX12_warmIn 2 = .ok (.iconst 0, 1) := by decide +kernel
theorem dX12_warmIn_3 : decode cX12_warmIn 3 = .ok (.istore_n 3, 1) := by decide +kernel
theorem dX12_warmIn_4 : decode cX12_warmIn 4 = .ok (.iload_n 3, 1) := by decide +kernel
theorem dX12_warmIn_5 : decode cX12_warmIn 5 = .ok (.aload_n 0, 1) := by decide +kernel
theorem dX12_warmIn_6 : decode cX12_warmIn 6 = .ok (.invokevirtual 419, 3) := by decide +kernel
theorem dX12_warmIn_9 : decode cX12_warmIn 9 = .ok (.if_icmp .ge 38, 3) := by decide +kernel
theorem dX12_warmIn_12 : decode cX12_warmIn 12 = .ok (.aload_n 0, 1) := by decide +kernel
theorem dX12_warmIn_13 : decode cX12_warmIn 13 = .ok (.getfield 148, 3) := by decide +kernel
theorem dX12_warmIn_16 : decode cX12_warmIn 16 = .ok (.iload_n 3, 1) := by decide +kernel
theorem dX12_warmIn_17 : decode cX12_warmIn 17 = .ok (.iaload, 1) := by decide +kernel
theorem dX12_warmIn_18 : decode cX12_warmIn 18 = .ok (.ifCond .le 23, 3) := by decide +kernel
theorem dX12_warmIn_21 : decode cX12_warmIn 21 = .ok (.lload_n 1, 1) := by decide +kernel
theorem dX12_warmIn_22 : decode cX12_warmIn 22 = .ok (.aload_n 0, 1) := by decide +kernel
theorem dX12_warmIn_23 : decode cX12_warmIn 23 = .ok (.getfield 160, 3) := by decide +kernel
theorem dX12_warmIn_26 : decode cX12_warmIn 26 = .ok (.iconst 3, 1) := by decide +kernel
theorem dX12_warmIn_27 : decode cX12_warmIn 27 = .ok (.iload_n 3, 1) := by decide +kernel
theorem dX12_warmIn_28 : decode cX12_warmIn 28 = .ok (.imul, 1) := by decide +kernel
theorem dX12_warmIn_29 : decode cX12_warmIn 29 = .ok (.aload_n 0, 1) := by decide +kernel
theorem dX12_warmIn_30 : decode cX12_warmIn 30 = .ok (.getfield 148, 3) := by decide +kernel
theorem dX12_warmIn_33 : decode cX12_warmIn 33 = .ok (.iload_n 3, 1) := by decide +kernel
theorem dX12_warmIn_34 : decode cX12_warmIn 34 = .ok (.iaload, 1) := by decide +kernel
theorem dX12_warmIn_35 : decode cX12_warmIn 35 = .ok (.iadd, 1) := by decide +kernel
theorem dX12_warmIn_36 : decode cX12_warmIn 36 = .ok (.iconst 1, 1) := by decide +kernel
theorem dX12_warmIn_37 : decode cX12_warmIn 37 = .ok (.isub, 1) := by decide +kernel
theorem dX12_warmIn_38 : decode cX12_warmIn 38 = .ok (.laload, 1) := by decide +kernel
theorem dX12_warmIn_39 : decode cX12_warmIn 39 = .ok (.ladd, 1) := by decide +kernel
theorem dX12_warmIn_40 : decode cX12_warmIn 40 = .ok (.lstore_n 1, 1) := by decide +kernel
theorem dX12_warmIn_41 : decode cX12_warmIn 41 = .ok (.iinc 3 1, 3) := by decide +kernel
theorem dX12_warmIn_44 : decode cX12_warmIn 44 = .ok (.goto (-40), 3) := by decide +kernel
theorem dX12_warmIn_47 : decode cX12_warmIn 47 = .ok (.lload_n 1, 1) := by decide +kernel
theorem dX12_warmIn_48 : decode cX12_warmIn 48 = .ok (.lreturn, 1) := by decide +kernel
theorem dX12_can_0 : decode cX12_can 0 = .ok (.aload_n 0, 1) := by decide +kernel
theorem dX12_can_1 : decode cX12_can 1 = .ok (.iload_n 1, 1) := by decide +kernel
theorem dX12_can_2 : decode cX12_can 2 = .ok (.invokevirtual 501, 3) := by decide +kernel
theorem dX12_can_5 : decode cX12_can 5 = .ok (.ifCond .eq 28, 3) := by decide +kernel
theorem dX12_can_8 : decode cX12_can 8 = .ok (.aload_n 0, 1) := by decide +kernel
theorem dX12_can_9 : decode cX12_can 9 = .ok (.iload_n 2, 1) := by decide +kernel
theorem dX12_can_10 : decode cX12_can 10 = .ok (.invokevirtual 516, 3) := by decide +kernel
theorem dX12_can_13 : decode cX12_can 13 = .ok (.ifCond .eq 20, 3) := by decide +kernel
theorem dX12_can_16 : decode cX12_can 16 = .ok (.aload_n 0, 1) := by decide +kernel
theorem dX12_can_17 : decode cX12_can 17 = .ok (.iload_n 1, 1) := by decide +kernel
theorem dX12_can_18 : decode cX12_can 18 = .ok (.iload_n 2, 1) := by decide +kernel
theorem dX12_can_19 : decode cX12_can 19 = .ok (.invokevirtual 521, 3) := by decide +kernel
theorem dX12_can_22 : decode cX12_can 22 = .ok (.ifCond .eq 7, 3) := by decide +kernel
theorem dX12_can_25 : decode cX12_can 25 = .ok (.iconst 1, 1) := by decide +kernel
theorem dX12_can_26 : decode cX12_can 26 = .ok (.goto 8, 3) := by decide +kernel
theorem dX12_can_29 : decode cX12_can 29 = .ok (.iconst 0, 1) := by decide +kernel
theorem dX12_can_30 : decode cX12_can 30 = .ok (.goto 4, 3) := by decide +kernel
theorem dX12_can_33 : decode cX12_can 33 = .ok (.iconst (-1), 1) := by decide +kernel
theorem dX12_can_34 : decode cX12_can 34 = .ok (.ireturn, 1) := by decide +kernel
theorem dX12_adds_0 : decode cX12_adds 0 = .ok (.aload_n 0, 1) := by decide +kernel
theorem dX12_adds_1 : decode cX12_adds 1 = .ok (.getfield 108, 3) := by decide +kernel
theorem dX12_adds_4 : decode cX12_adds 4 = .ok (.bipush 8, 2) := by decide +kernel
theorem dX12_adds_6 : decode cX12_adds 6 = .ok (.iload_n 1, 1) := by decide +kernel
theorem dX12_adds_7 : decode cX12_adds 7 = .ok (.imul, 1) := by decide +kernel
theorem dX12_adds_8 : decode cX12_adds 8 = .ok (.aload_n 0, 1) := by decide +kernel
theorem dX12_adds_9 : decode cX12_adds 9 = .ok (.getfield 105, 3) := by decide +kernel
theorem dX12_adds_12 : decode cX12_adds 12 = .ok (.iload_n 1, 1) := by decide +kernel
theorem dX12_adds_13 : decode cX12_adds 13 = .ok (.iaload, 1) := by decide +kernel
theorem dX12_adds_14 : decode cX12_adds 14 = .ok (.iadd, 1) := by decide +kernel
theorem dX12_adds_15 : decode cX12_adds 15 = .ok (.lload_n 2, 1) := by decide +kernel
theorem dX12_adds_16 : decode cX12_adds 16 = .ok (.lastore, 1) := by decide +kernel
theorem dX12_adds_17 : decode cX12_adds 17 = .ok (.aload_n 0, 1) := by decide +kernel
theorem dX12_adds_18 : decode cX12_adds 18 = .ok (.getfield 105, 3) := by decide +kernel
theorem dX12_adds_21 : decode cX12_adds 21 = .ok (.iload_n 1, 1) := by decide +kernel
theorem dX12_adds_22 : decode cX12_adds 22 = .ok (.dup2, 1) := by decide +kernel
theorem dX12_adds_23 : decode cX12_adds 23 = .ok (.iaload, 1) := by decide +kernel
theorem dX12_adds_24 : decode cX12_adds 24 = .ok (.iconst 1, 1) := by decide +kernel
theorem dX12_adds_25 : decode cX12_adds 25 = .ok (.iadd, 1) := by decide +kernel
theorem dX12_adds_26 : decode cX12_adds 26 = .ok (.iastore, 1) := by decide +kernel
theorem dX12_adds_27 : decode cX12_adds 27 = .ok (.aload_n 0, 1) := by decide +kernel
theorem dX12_adds_28 : decode cX12_adds 28 = .ok (.getfield 105, 3) := by decide +kernel
theorem dX12_adds_31 : decode cX12_adds 31 = .ok (.iload_n 1, 1) := by decide +kernel
theorem dX12_adds_32 : decode cX12_adds 32 = .ok (.iaload, 1) := by decide +kernel
theorem dX12_adds_33 : decode cX12_adds 33 = .ok (.iconst 1, 1) := by decide +kernel
theorem dX12_adds_34 : decode cX12_adds 34 = .ok (.isub, 1) := by decide +kernel
theorem dX12_adds_35 : decode cX12_adds 35 = .ok (.ireturn, 1) := by decide +kernel
theorem dX12_name_0 : decode cX12_name 0 = .ok (.aload_n 0, 1) := by decide +kernel
theorem dX12_name_1 : decode cX12_name 1 = .ok (.getfield 263, 3) := by decide +kernel
theorem dX12_name_4 : decode cX12_name 4 = .ok (.ifCond .eq 5, 3) := by decide +kernel
theorem dX12_name_7 : decode cX12_name 7 = .ok (.lconst 0, 1) := by decide +kernel
theorem dX12_name_8 : decode cX12_name 8 = .ok (.lreturn, 1) := by decide +kernel
theorem dX12_name_9 : decode cX12_name 9 = .ok (.aload_n 0, 1) := by decide +kernel
theorem dX12_name_10 : decode cX12_name 10 = .ok (.invokevirtual 275, 3) := by decide +kernel
theorem dX12_name_13 : decode cX12_name 13 = .ok (.invokestatic 279, 3) := by decide +kernel
theorem dX12_name_16 : decode cX12_name 16 = .ok (.ifCond .eq 21, 3) := by decide +kernel
theorem dX12_name_19 : decode cX12_name 19 = .ok (.aload_n 0, 1) := by decide +kernel
theorem dX12_name_20 : decode cX12_name 20 = .ok (.getfield 269, 3) := by decide +kernel
theorem dX12_name_23 : decode cX12_name 23 = .ok (.aload_n 0, 1) := by decide +kernel
theorem dX12_name_24 : decode cX12_name 24 = .ok (.getfield 283, 3) := by decide +kernel
theorem dX12_name_27 : decode cX12_name 27 = .ok (.if_icmp .eq 10, 3) := by decide +kernel
theorem dX12_name_30 : decode cX12_name 30 = .ok (.aload_n 0, 1) := by decide +kernel
theorem dX12_name_31 : decode cX12_name 31 = .ok (.invokevirtual 307, 3) := by decide +kernel
theorem dX12_name_34 : decode cX12_name 34 = .ok (.ifCond .eq 14, 3) := by decide +kernel
theorem dX12_name_37 : decode cX12_name 37 = .ok (.aload_n 0, 1) := by decide +kernel
theorem dX12_name_38 : decode cX12_name 38 = .ok (.iconst 1, 1) := by decide +kernel
theorem dX12_name_39 : decode cX12_name 39 = .ok (.aload_n 0, 1) := by decide +kernel
theorem dX12_name_40 : decode cX12_name 40 = .ok (.getfield 269, 3) := by decide +kernel
theorem dX12_name_43 : decode cX12_name 43 = .ok (.invokevirtual 293, 3) := by decide +kernel
theorem dX12_name_46 : decode cX12_name 46 = .ok (.lconst 0, 1) := by decide +kernel
theorem dX12_name_47 : decode cX12_name 47 = .ok (.lreturn, 1) := by decide +kernel
theorem dX12_name_48 : decode cX12_name 48 = .ok (.aload_n 0, 1) := by decide +kernel
theorem dX12_name_49 : decode cX12_name 49 = .ok (.aload_n 0, 1) := by decide +kernel
theorem dX12_name_50 : decode cX12_name 50 = .ok (.getfield 269, 3) := by decide +kernel
theorem dX12_name_53 : decode cX12_name 53 = .ok (.putfield 311, 3) := by decide +kernel
theorem dX12_name_56 : decode cX12_name 56 = .ok (.lconst 0, 1) := by decide +kernel
theorem dX12_name_57 : decode cX12_name 57 = .ok (.lstore_n 1, 1) := by decide +kernel
theorem dX12_name_58 : decode cX12_name 58 = .ok (.aload_n 0, 1) := by decide +kernel
theorem dX12_name_59 : decode cX12_name 59 = .ok (.getfield 269, 3) := by decide +kernel
theorem dX12_name_62 : decode cX12_name 62 = .ok (.aload_n 0, 1) := by decide +kernel
theorem dX12_name_63 : decode cX12_name 63 = .ok (.getfield 272, 3) := by decide +kernel
theorem dX12_name_66 : decode cX12_name 66 = .ok (.if_icmp .ge 79, 3) := by decide +kernel
theorem dX12_name_69 : decode cX12_name 69 = .ok (.aload_n 0, 1) := by decide +kernel
theorem dX12_name_70 : decode cX12_name 70 = .ok (.getfield 7, 3) := by decide +kernel
theorem dX12_name_73 : decode cX12_name 73 = .ok (.aload_n 0, 1) := by decide +kernel
theorem dX12_name_74 : decode cX12_name 74 = .ok (.getfield 269, 3) := by decide +kernel
theorem dX12_name_77 : decode cX12_name 77 = .ok (.iaload, 1) := by decide +kernel
theorem dX12_name_78 : decode cX12_name 78 = .ok (.invokestatic 279, 3) := by decide +kernel
theorem dX12_name_81 : decode cX12_name 81 = .ok (.ifCond .eq 64, 3) := by decide +kernel
theorem dX12_name_84 : decode cX12_name 84 = .ok (.aload_n 0, 1) := by decide +kernel
theorem dX12_name_85 : decode cX12_name 85 = .ok (.getfield 269, 3) := by decide +kernel
theorem dX12_name_88 : decode cX12_name 88 = .ok (.aload_n 0, 1) := by decide +kernel
theorem dX12_name_89 : decode cX12_name 89 = .ok (.getfield 311, 3) := by decide +kernel
theorem dX12_name_92 : decode cX12_name 92 = .ok (.isub, 1) := by decide +kernel
theorem dX12_name_93 : decode cX12_name 93 = .ok (.bipush 6, 2) := by decide +kernel
theorem dX12_name_95 : decode cX12_name 95 = .ok (.if_icmp .ne 14, 3) := by decide +kernel
theorem dX12_name_98 : decode cX12_name 98 = .ok (.aload_n 0, 1) := by decide +kernel
theorem dX12_name_99 : decode cX12_name 99 = .ok (.iconst 1, 1) := by decide +kernel
theorem dX12_name_100 : decode cX12_name 100 = .ok (.aload_n 0, 1) := by decide +kernel
theorem dX12_name_101 : decode cX12_name 101 = .ok (.getfield 269, 3) := by decide +kernel
theorem dX12_name_104 : decode cX12_name 104 = .ok (.invokevirtual 293, 3) := by decide +kernel
theorem dX12_name_107 : decode cX12_name 107 = .ok (.lconst 0, 1) := by decide +kernel
theorem dX12_name_108 : decode cX12_name 108 = .ok (.lreturn, 1) := by decide +kernel
theorem dX12_name_109 : decode cX12_name 109 = .ok (.ldc2_w 314, 3) := by decide +kernel
theorem dX12_name_112 : decode cX12_name 112 = .ok (.lload_n 1, 1) := by decide +kernel
theorem dX12_name_113 : decode cX12_name 113 = .ok (.lmul, 1) := by decide +kernel
theorem dX12_name_114 : decode cX12_name 114 = .ok (.aload_n 0, 1) := by decide +kernel
theorem dX12_name_115 : decode cX12_name 115 = .ok (.getfield 7, 3) := by decide +kernel
theorem dX12_name_118 : decode cX12_name 118 = .ok (.aload_n 0, 1) := by decide +kernel
theorem dX12_name_119 : decode cX12_name 119 = .ok (.getfield 269, 3) := by decide +kernel
theorem dX12_name_122 : decode cX12_name 122 = .ok (.iaload, 1) := by decide +kernel
theorem dX12_name_123 : decode cX12_name 123 = .ok (.i2l, 1) := by decide +kernel
theorem dX12_name_124 : decode cX12_name 124 = .ok (.ladd, 1) := by decide +kernel
theorem dX12_name_125 : decode cX12_name 125 = .ok (.ldc2_w 316, 3) := by decide +kernel
theorem dX12_name_128 : decode cX12_name 128 = .ok (.lsub, 1) := by decide +kernel
theorem dX12_name_129 : decode cX12_name 129 = .ok (.lconst 1, 1) := by decide +kernel
theorem dX12_name_130 : decode cX12_name 130 = .ok (.ladd, 1) := by decide +kernel
theorem dX12_name_131 : decode cX12_name 131 = .ok (.lstore_n 1, 1) := by decide +kernel
theorem dX12_name_132 : decode cX12_name 132 = .ok (.aload_n 0, 1) := by decide +kernel
theorem dX12_name_133 : decode cX12_name 133 = .ok (.dup, 1) := by decide +kernel
theorem dX12_name_134 : decode cX12_name 134 = .ok (.getfield 269, 3) := by decide +kernel
theorem dX12_name_137 : decode cX12_name 137 = .ok (.iconst 1, 1) := by decide +kernel
theorem dX12_name_138 : decode cX12_name 138 = .ok (.iadd, 1) := by decide +kernel
theorem dX12_name_139 : decode cX12_name 139 = .ok (.putfield 269, 3) := by decide +kernel
theorem dX12_name_142 : decode cX12_name 142 = .ok (.goto (-84), 3) := by decide +kernel
theorem dX12_name_145 : decode cX12_name 145 = .ok (.aload_n 0, 1) := by decide +kernel
theorem dX12_name_146 : decode cX12_name 146 = .ok (.aload_n 0, 1) := by decide +kernel
theorem dX12_name_147 : decode cX12_name 147 = .ok (.getfield 269, 3) := by decide +kernel
theorem dX12_name_150 : decode cX12_name 150 = .ok (.putfield 283, 3) := by decide +kernel
theorem dX12_name_153 : decode cX12_name 153 = .ok (.lload_n 1, 1) := by decide +kernel
theorem dX12_name_154 : decode cX12_name 154 = .ok (.lreturn, 1) := by decide +kernel
theorem dX12_isApart_0 : decode cX12_isApart 0 = .ok (.iconst 0, 1) := by decide +kernel
theorem dX12_isApart_1 : decode cX12_isApart 1 = .ok (.istore_n 2, 1) := by decide +kernel
theorem dX12_isApart_2 : decode cX12_isApart 2 = .ok (.iload_n 2, 1) := by decide +kernel
theorem dX12_isApart_3 : decode cX12_isApart 3 = .ok (.iload_n 1, 1) := by decide +kernel
theorem dX12_isApart_4 : decode cX12_isApart 4 = .ok (.if_icmp .ge 43, 3) := by decide +kernel
theorem dX12_isApart_7 : decode cX12_isApart 7 = .ok (.aload_n 0, 1) := by decide +kernel
theorem dX12_isApart_8 : decode cX12_isApart 8 = .ok (.getfield 121, 3) := by decide +kernel
theorem dX12_isApart_11 : decode cX12_isApart 11 = .ok (.bipush 8, 2) := by decide +kernel
theorem dX12_isApart_13 : decode cX12_isApart 13 = .ok (.iload_n 1, 1) := by decide +kernel
theorem dX12_isApart_14 : decode cX12_isApart 14 = .ok (.iadd, 1) := by decide +kernel
theorem dX12_isApart_15 : decode cX12_isApart 15 = .ok (.iaload, 1) := by decide +kernel
theorem dX12_isApart_16 : decode cX12_isApart 16 = .ok (.iload_n 2, 1) := by decide +kernel
theorem dX12_isApart_17 : decode cX12_isApart 17 = .ok (.ishr, 1) := by decide +kernel
theorem dX12_isApart_18 : decode cX12_isApart 18 = .ok (.iconst 1, 1) := by decide +kernel
theorem dX12_isApart_19 : decode cX12_isApart 19 = .ok (.iand, 1) := by decide +kernel
theorem dX12_isApart_20 : decode cX12_isApart 20 = .ok (.iconst 1, 1) := by decide +kernel
theorem dX12_isApart_21 : decode cX12_isApart 21 = .ok (.if_icmp .ne 20, 3) := by decide +kernel
theorem dX12_isApart_24 : decode cX12_isApart 24 = .ok (.aload_n 0, 1) := by decide +kernel
theorem dX12_isApart_25 : decode cX12_isApart 25 = .ok (.getfield 148, 3) := by decide +kernel
theorem dX12_isApart_28 : decode cX12_isApart 28 = .ok (.iload_n 2, 1) := by decide +kernel
theorem dX12_isApart_29 : decode cX12_isApart 29 = .ok (.iaload, 1) := by decide +kernel
theorem dX12_isApart_30 : decode cX12_isApart 30 = .ok (.aload_n 0, 1) := by decide +kernel
theorem dX12_isApart_31 : decode cX12_isApart 31 = .ok (.getfield 148, 3) := by decide +kernel
theorem dX12_isApart_34 : decode cX12_isApart 34 = .ok (.iload_n 1, 1) := by decide +kernel
theorem dX12_isApart_35 : decode cX12_isApart 35 = .ok (.iaload, 1) := by decide +kernel
theorem dX12_isApart_36 : decode cX12_isApart 36 = .ok (.if_icmp .ne 5, 3) := by decide +kernel
theorem dX12_isApart_39 : decode cX12_isApart 39 = .ok (.iconst 0, 1) := by decide +kernel
theorem dX12_isApart_40 : decode cX12_isApart 40 = .ok (.ireturn, 1) := by decide +kernel
theorem dX12_isApart_41 : decode cX12_isApart 41 = .ok (.iinc 2 1, 3) := by decide +kernel
theorem dX12_isApart_44 : decode cX12_isApart 44 = .ok (.goto (-42), 3) := by decide +kernel
theorem dX12_isApart_47 : decode cX12_isApart 47 = .ok (.iconst 1, 1) := by decide +kernel
theorem dX12_isApart_48 : decode cX12_isApart 48 = .ok (.ireturn, 1) := by decide +kernel
theorem dX12_letter_0 : decode cX12_letter 0 = .ok (.iload_n 1, 1) := by decide +kernel
theorem dX12_letter_1 : decode cX12_letter 1 = .ok (.i2l, 1) := by decide +kernel
theorem dX12_letter_2 : decode cX12_letter 2 = .ok (.lconst 0, 1) := by decide +kernel
theorem dX12_letter_3 : decode cX12_letter 3 = .ok (.ldc2_w 497, 3) := by decide +kernel
theorem dX12_letter_6 : decode cX12_letter 6 = .ok (.invokestatic 303, 3) := by decide +kernel
theorem dX12_letter_9 : decode cX12_letter 9 = .ok (.ifCond .eq 35, 3) := by decide +kernel
theorem dX12_letter_12 : decode cX12_letter 12 = .ok (.iload_n 2, 1) := by decide +kernel
theorem dX12_letter_13 : decode cX12_letter 13 = .ok (.i2l, 1) := by decide +kernel
theorem dX12_letter_14 : decode cX12_letter 14 = .ok (.lconst 0, 1) := by decide +kernel
theorem dX12_letter_15 : decode cX12_letter 15 = .ok (.aload_n 0, 1) := by decide +kernel
theorem dX12_letter_16 : decode cX12_letter 16 = .ok (.getfield 105, 3) := by decide +kernel
theorem dX12_letter_19 : decode cX12_letter 19 = .ok (.iconst 5, 1) := by decide +kernel
theorem dX12_letter_20 : decode cX12_letter 20 = .ok (.iload_n 1, 1) := by decide +kernel
theorem dX12_letter_21 : decode cX12_letter 21 = .ok (.iadd, 1) := by decide +kernel
theorem dX12_letter_22 : decode cX12_letter 22 = .ok (.iaload, 1) := by decide +kernel
theorem dX12_letter_23 : decode cX12_letter 23 = .ok (.iconst 1, 1) := by decide +kernel
theorem dX12_letter_24 : decode cX12_letter 24 = .ok (.isub, 1) := by decide +kernel
theorem dX12_letter_25 : decode cX12_letter 25 = .ok (.i2l, 1) := by decide +kernel
theorem dX12_letter_26 : decode cX12_letter 26 = .ok (.invokestatic 303, 3) := by decide +kernel
theorem dX12_letter_29 : decode cX12_letter 29 = .ok (.ifCond .eq 15, 3) := by decide +kernel
theorem dX12_letter_32 : decode cX12_letter 32 = .ok (.iload_n 3, 1) := by decide +kernel
theorem dX12_letter_33 : decode cX12_letter 33 = .ok (.i2l, 1) := by decide +kernel
theorem dX12_letter_34 : decode cX12_letter 34 = .ok (.lconst 0, 1) := by decide +kernel
theorem dX12_letter_35 : decode cX12_letter 35 = .ok (.ldc2_w 499, 3) := by decide +kernel
theorem dX12_letter_38 : decode cX12_letter 38 = .ok (.invokestatic 303, 3) := by decide +kernel
theorem dX12_letter_41 : decode cX12_letter 41 = .ok (.ifCond .ne 5, 3) := by decide +kernel
theorem dX12_letter_44 : decode cX12_letter 44 = .ok (.iconst (-1), 1) := by decide +kernel
theorem dX12_letter_45 : decode cX12_letter 45 = .ok (.ireturn, 1) := by decide +kernel
theorem dX12_letter_46 : decode cX12_letter 46 = .ok (.aload_n 0, 1) := by decide +kernel
theorem dX12_letter_47 : decode cX12_letter 47 = .ok (.getfield 108, 3) := by decide +kernel
theorem dX12_letter_50 : decode cX12_letter 50 = .ok (.bipush 24, 2) := by decide +kernel
theorem dX12_letter_52 : decode cX12_letter 52 = .ok (.bipush 8, 2) := by decide +kernel
theorem dX12_letter_54 : decode cX12_letter 54 = .ok (.iload_n 1, 1) := by decide +kernel
theorem dX12_letter_55 : decode cX12_letter 55 = .ok (.imul, 1) := by decide +kernel
theorem dX12_letter_56 : decode cX12_letter 56 = .ok (.iadd, 1) := by decide +kernel
theorem dX12_letter_57 : decode cX12_letter 57 = .ok (.iload_n 2, 1) := by decide +kernel
theorem dX12_letter_58 : decode cX12_letter 58 = .ok (.iadd, 1) := by decide +kernel
theorem dX12_letter_59 : decode cX12_letter 59 = .ok (.laload, 1) := by decide +kernel
theorem dX12_letter_60 : decode cX12_letter 60 = .ok (.lstore 4, 2) := by decide +kernel
theorem dX12_letter_62 : decode cX12_letter 62 = .ok (.iconst 0, 1) := by decide +kernel
theorem dX12_letter_63 : decode cX12_letter 63 = .ok (.istore 6, 2) := by decide +kernel
theorem dX12_letter_65 : decode cX12_letter 65 = .ok (.lload 4, 2) := by decide +kernel
theorem dX12_letter_67 : decode cX12_letter 67 = .ok (.lstore 7, 2) := by decide +kernel
theorem dX12_letter_69 : decode cX12_letter 69 = .ok (.lload 7, 2) := by decide +kernel
theorem dX12_letter_71 : decode cX12_letter 71 = .ok (.lconst 0, 1) := by decide +kernel
theorem dX12_letter_72 : decode cX12_letter 72 = .ok (.lcmp, 1) := by decide +kernel
theorem dX12_letter_73 : decode cX12_letter 73 = .ok (.ifCond .le 17, 3) := by decide +kernel
theorem dX12_letter_76 : decode cX12_letter 76 = .ok (.iinc 6 1, 3) := by decide +kernel
theorem dX12_letter_79 : decode cX12_letter 79 = .ok (.lload 7, 2) := by decide +kernel
theorem dX12_letter_81 : decode cX12_letter 81 = .ok (.ldc2_w 314, 3) := by decide +kernel
theorem dX12_letter_84 : decode cX12_letter 84 = .ok (.ldiv, 1) := by decide +kernel
theorem dX12_letter_85 : decode cX12_letter 85 = .ok (.lstore 7, 2) := by decide +kernel
theorem dX12_letter_87 : decode cX12_letter 87 = .ok (.goto (-18), 3) := by decide +kernel
theorem dX12_letter_90 : decode cX12_letter 90 = .ok (.iload_n 3, 1) := by decide +kernel
theorem dX12_letter_91 : decode cX12_letter 91 = .ok (.iload 6, 2) := by decide +kernel
theorem dX12_letter_93 : decode cX12_letter 93 = .ok (.if_icmp .lt 5, 3) := by decide +kernel
theorem dX12_letter_96 : decode cX12_letter 96 = .ok (.iconst 0, 1) := by decide +kernel
theorem dX12_letter_97 : decode cX12_letter 97 = .ok (.ireturn, 1) := by decide +kernel
theorem dX12_letter_98 : decode cX12_letter 98 = .ok (.iload 6, 2) := by decide +kernel
theorem dX12_letter_100 : decode cX12_letter 100 = .ok (.iconst 1, 1) := by decide +kernel
theorem dX12_letter_101 : decode cX12_letter 101 = .ok (.isub, 1) := by decide +kernel
theorem dX12_letter_102 : decode cX12_letter 102 = .ok (.istore 7, 2) := by decide +kernel
theorem dX12_letter_104 : decode cX12_letter 104 = .ok (.iload 7, 2) := by decide +kernel
theorem dX12_letter_106 : decode cX12_letter 106 = .ok (.iload_n 3, 1) := by decide +kernel
theorem dX12_letter_107 : decode cX12_letter 107 = .ok (.if_icmp .le 17, 3) := by decide +kernel
theorem dX12_letter_110 : decode cX12_letter 110 = .ok (.lload 4, 2) := by decide +kernel
theorem dX12_letter_112 : decode cX12_letter 112 = .ok (.ldc2_w 314, 3) := by decide +kernel
theorem dX12_letter_115 : decode cX12_letter 115 = .ok (.ldiv, 1) := by decide +kernel
theorem dX12_letter_116 : decode cX12_letter 116 = .ok (.lstore 4, 2) := by decide +kernel
theorem dX12_letter_118 : decode cX12_letter 118 = .ok (.iinc 7 (-1), 3) := by decide +kernel
theorem dX12_letter_121 : decode cX12_letter 121 = .ok (.goto (-17), 3) := by decide +kernel
theorem dX12_letter_124 : decode cX12_letter 124 = .ok (.lload 4, 2) := by decide +kernel
theorem dX12_letter_126 : decode cX12_letter 126 = .ok (.ldc2_w 314, 3) := by decide +kernel
theorem dX12_letter_129 : decode cX12_letter 129 = .ok (.lrem, 1) := by decide +kernel
theorem dX12_letter_130 : decode cX12_letter 130 = .ok (.l2i, 1) := by decide +kernel
theorem dX12_letter_131 : decode cX12_letter 131 = .ok (.ireturn, 1) := by decide +kernel
theorem dX12_warmth_0 : decode cX12_warmth 0 = .ok (.aload_n 0, 1) := by decide +kernel
theorem dX12_warmth_1 : decode cX12_warmth 1 = .ok (.iload_n 1, 1) := by decide +kernel
theorem dX12_warmth_2 : decode cX12_warmth 2 = .ok (.invokevirtual 501, 3) := by decide +kernel
theorem dX12_warmth_5 : decode cX12_warmth 5 = .ok (.ifCond .eq 20, 3) := by decide +kernel
theorem dX12_warmth_8 : decode cX12_warmth 8 = .ok (.aload_n 0, 1) := by decide +kernel
theorem dX12_warmth_9 : decode cX12_warmth 9 = .ok (.iload_n 2, 1) := by decide +kernel
theorem dX12_warmth_10 : decode cX12_warmth 10 = .ok (.invokevirtual 516, 3) := by decide +kernel
theorem dX12_warmth_13 : decode cX12_warmth 13 = .ok (.ifCond .eq 12, 3) := by decide +kernel
theorem dX12_warmth_16 : decode cX12_warmth 16 = .ok (.aload_n 0, 1) := by decide +kernel
theorem dX12_warmth_17 : decode cX12_warmth 17 = .ok (.iload_n 1, 1) := by decide +kernel
theorem dX12_warmth_18 : decode cX12_warmth 18 = .ok (.iload_n 2, 1) := by decide +kernel
theorem dX12_warmth_19 : decode cX12_warmth 19 = .ok (.invokevirtual 464, 3) := by decide +kernel
theorem dX12_warmth_22 : decode cX12_warmth 22 = .ok (.goto 6, 3) := by decide +kernel
theorem dX12_warmth_25 : decode cX12_warmth 25 = .ok (.ldc2_w 519, 3) := by decide +kernel
theorem dX12_warmth_28 : decode cX12_warmth 28 = .ok (.lreturn, 1) := by decide +kernel
theorem dX12_codesTold_0 : decode cX12_codesTold 0 = .ok (.aload_n 0, 1) := by decide +kernel
theorem dX12_codesTold_1 : decode cX12_codesTold 1 = .ok (.getfield 263, 3) := by decide +kernel
theorem dX12_codesTold_4 : decode cX12_codesTold 4 = .ok (.ifCond .ne 19, 3) := by decide +kernel
theorem dX12_codesTold_7 : decode cX12_codesTold 7 = .ok (.aload_n 0, 1) := by decide +kernel
theorem dX12_codesTold_8 : decode cX12_codesTold 8 = .ok (.getfield 133, 3) := by decide +kernel
theorem dX12_codesTold_11 : decode cX12_codesTold 11 = .ok (.iload_n 1, 1) := by decide +kernel
theorem dX12_codesTold_12 : decode cX12_codesTold 12 = .ok (.iaload, 1) := by decide +kernel
theorem dX12_codesTold_13 : decode cX12_codesTold 13 = .ok (.iconst (-1), 1) := by decide +kernel
theorem dX12_codesTold_14 : decode cX12_codesTold 14 = .ok (.if_icmp .eq 9, 3) := by decide +kernel
theorem dX12_codesTold_17 : decode cX12_codesTold 17 = .ok (.aload_n 0, 1) := by decide +kernel
theorem dX12_codesTold_18 : decode cX12_codesTold 18 = .ok (.iconst 5, 1) := by decide +kernel
theorem dX12_codesTold_19 : decode cX12_codesTold 19 = .ok (.iload_n 2, 1) := by decide +kernel
theorem dX12_codesTold_20 : decode cX12_codesTold 20 = .ok (.invokevirtual 293, 3) := by decide +kernel
theorem dX12_codesTold_23 : decode cX12_codesTold 23 = .ok (.aload_n 0, 1) := by decide +kernel
theorem dX12_codesTold_24 : decode cX12_codesTold 24 = .ok (.getfield 263, 3) := by decide +kernel
theorem dX12_codesTold_27 : decode cX12_codesTold 27 = .ok (.ifCond .eq 4, 3) := by decide +kernel
theorem dX12_codesTold_30 : decode cX12_codesTold 30 = .ok (.return_, 1) := by decide +kernel
theorem dX12_codesTold_31 : decode cX12_codesTold 31 = .ok (.aload_n 0, 1) := by decide +kernel
theorem dX12_codesTold_32 : decode cX12_codesTold 32 = .ok (.iconst 1, 1) := by decide +kernel
theorem dX12_codesTold_33 : decode cX12_codesTold 33 = .ok (.putfield 318, 3) := by decide +kernel
theorem dX12_codesTold_36 : decode cX12_codesTold 36 = .ok (.aload_n 0, 1) := by decide +kernel
theorem dX12_codesTold_37 : decode cX12_codesTold 37 = .ok (.iconst 0, 1) := by decide +kernel
theorem dX12_codesTold_38 : decode cX12_codesTold 38 = .ok (.putfield 352, 3) := by decide +kernel
theorem dX12_codesTold_41 : decode cX12_codesTold 41 = .ok (.aload_n 0, 1) := by decide +kernel
theorem dX12_codesTold_42 : decode cX12_codesTold 42 = .ok (.iconst 0, 1) := by decide +kernel
theorem dX12_codesTold_43 : decode cX12_codesTold 43 = .ok (.putfield 355, 3) := by decide +kernel
theorem dX12_codesTold_46 : decode cX12_codesTold 46 = .ok (.aload_n 0, 1) := by decide +kernel
theorem dX12_codesTold_47 : decode cX12_codesTold 47 = .ok (.iconst 0, 1) := by decide +kernel
theorem dX12_codesTold_48 : decode cX12_codesTold 48 = .ok (.putfield 358, 3) := by decide +kernel
theorem dX12_codesTold_51 : decode cX12_codesTold 51 = .ok (.aload_n 0, 1) := by decide +kernel
theorem dX12_codesTold_52 : decode cX12_codesTold 52 = .ok (.iconst 0, 1) := by decide +kernel
theorem dX12_codesTold_53 : decode cX12_codesTold 53 = .ok (.putfield 361, 3) := by decide +kernel
theorem dX12_codesTold_56 : decode cX12_codesTold 56 = .ok (.aload_n 0, 1) := by decide +kernel
theorem dX12_codesTold_57 : decode cX12_codesTold 57 = .ok (.invokevirtual 364, 3) := by decide +kernel
theorem dX12_codesTold_60 : decode cX12_codesTold 60 = .ok (.aload_n 0, 1) := by decide +kernel
theorem dX12_codesTold_61 : decode cX12_codesTold 61 = .ok (.getfield 263, 3) := by decide +kernel
theorem dX12_codesTold_64 : decode cX12_codesTold 64 = .ok (.ifCond .eq 4, 3) := by decide +kernel
theorem dX12_codesTold_67 : decode cX12_codesTold 67 = .ok (.return_, 1) := by decide +kernel
theorem dX12_codesTold_68 : decode cX12_codesTold 68 = .ok (.aload_n 0, 1) := by decide +kernel
theorem dX12_codesTold_69 : decode cX12_codesTold 69 = .ok (.getfield 133, 3) := by decide +kernel
theorem dX12_codesTold_72 : decode cX12_codesTold 72 = .ok (.iload_n 1, 1) := by decide +kernel
theorem dX12_codesTold_73 : decode cX12_codesTold 73 = .ok (.aload_n 0, 1) := by decide +kernel
theorem dX12_codesTold_74 : decode cX12_codesTold 74 = .ok (.getfield 367, 3) := by decide +kernel
theorem dX12_codesTold_77 : decode cX12_codesTold 77 = .ok (.iastore, 1) := by decide +kernel
theorem dX12_codesTold_78 : decode cX12_codesTold 78 = .ok (.iconst 0, 1) := by decide +kernel
theorem dX12_codesTold_79 : decode cX12_codesTold 79 = .ok (.istore_n 3, 1) := by decide +kernel
theorem dX12_codesTold_80 : decode cX12_codesTold 80 = .ok (.iload_n 3, 1) := by decide +kernel
theorem dX12_codesTold_81 : decode cX12_codesTold 81 = .ok (.aload_n 0, 1) := by decide +kernel
theorem dX12_codesTold_82 : decode cX12_codesTold 82 = .ok (.getfield 352, 3) := by decide +kernel
theorem dX12_codesTold_85 : decode cX12_codesTold 85 = .ok (.if_icmp .ge 34, 3) := by decide +kernel
theorem dX12_codesTold_88 : decode cX12_codesTold 88 = .ok (.aload_n 0, 1) := by decide +kernel
theorem dX12_codesTold_89 : decode cX12_codesTold 89 = .ok (.getfield 139, 3) := by decide +kernel
theorem dX12_codesTold_92 : decode cX12_codesTold 92 = .ok (.aload_n 0, 1) := by decide +kernel
theorem dX12_codesTold_93 : decode cX12_codesTold 93 = .ok (.getfield 367, 3) := by decide +kernel
theorem dX12_codesTold_96 : decode cX12_codesTold 96 = .ok (.aload_n 0, 1) := by decide +kernel
theorem dX12_codesTold_97 : decode cX12_codesTold 97 = .ok (.getfield 248, 3) := by decide +kernel
theorem dX12_codesTold_100 : decode cX12_codesTold 100 = .ok (.iload_n 3, 1) := by decide +kernel
theorem dX12_codesTold_101 : decode cX12_codesTold 101 = .ok (.iaload, 1) := by decide +kernel
theorem dX12_codesTold_102 : decode cX12_codesTold 102 = .ok (.iastore, 1) := by decide +kernel
theorem dX12_codesTold_103 : decode cX12_codesTold 103 = .ok (.aload_n 0, 1) := by decide +kernel
theorem dX12_codesTold_104 : decode cX12_codesTold 104 = .ok (.dup, 1) := by decide +kernel
theorem dX12_codesTold_105 : decode cX12_codesTold 105 = .ok (.getfield 367, 3) := by decide +kernel
theorem dX12_codesTold_108 : decode cX12_codesTold 108 = .ok (.iconst 1, 1) := by decide +kernel
theorem dX12_codesTold_109 : decode cX12_codesTold 109 = .ok (.iadd, 1) := by decide +kernel
theorem dX12_codesTold_110 : decode cX12_codesTold 110 = .ok (.putfield 367, 3) := by decide +kernel
theorem dX12_codesTold_113 : decode cX12_codesTold 113 = .ok (.iinc 3 1, 3) := by decide +kernel
theorem dX12_codesTold_116 : decode cX12_codesTold 116 = .ok (.goto (-36), 3) := by decide +kernel
theorem dX12_codesTold_119 : decode cX12_codesTold 119 = .ok (.aload_n 0, 1) := by decide +kernel
theorem dX12_codesTold_120 : decode cX12_codesTold 120 = .ok (.getfield 136, 3) := by decide +kernel
theorem dX12_codesTold_123 : decode cX12_codesTold 123 = .ok (.iload_n 1, 1) := by decide +kernel
theorem dX12_codesTold_124 : decode cX12_codesTold 124 = .ok (.aload_n 0, 1) := by decide +kernel
theorem dX12_codesTold_125 : decode cX12_codesTold 125 = .ok (.getfield 367, 3) := by decide +kernel
theorem dX12_codesTold_128 : decode cX12_codesTold 128 = .ok (.iastore, 1) := by decide +kernel
theorem dX12_codesTold_129 : decode cX12_codesTold 129 = .ok (.return_, 1) := by decide +kernel
theorem dX12_qAsksWord_0 : decode cX12_qAsksWord 0 = .ok (.iload_n 1, 1) := by decide +kernel
theorem dX12_qAsksWord_1 : decode cX12_qAsksWord 1 = .ok (.tableswitch 165 0 9 #[55, 66, 77, 88, 99, 110, 121, 132, 143, 154], 55) := by decide +kernel
theorem dX12_qAsksWord_56 : decode cX12_qAsksWord 56 = .ok (.aload_n 0, 1) := by decide +kernel
theorem dX12_qAsksWord_57 : decode cX12_qAsksWord 57 = .ok (.aload_n 0, 1) := by decide +kernel
theorem dX12_qAsksWord_58 : decode cX12_qAsksWord 58 = .ok (.getfield 215, 3) := by decide +kernel
theorem dX12_qAsksWord_61 : decode cX12_qAsksWord 61 = .ok (.invokevirtual 337, 3) := by decide +kernel
theorem dX12_qAsksWord_64 : decode cX12_qAsksWord 64 = .ok (.goto 110, 3) := by decide +kernel
theorem dX12_qAsksWord_67 : decode cX12_qAsksWord 67 = .ok (.aload_n 0, 1) := by decide +kernel
theorem dX12_qAsksWord_68 : decode cX12_qAsksWord 68 = .ok (.aload_n 0, 1) := by decide +kernel
theorem dX12_qAsksWord_69 : decode cX12_qAsksWord 69 = .ok (.getfield 218, 3) := by decide +kernel
theorem dX12_qAsksWord_72 : decode cX12_qAsksWord 72 = .ok (.invokevirtual 337, 3) := by decide +kernel
theorem dX12_qAsksWord_75 : decode cX12_qAsksWord 75 = .ok (.goto 99, 3) := by decide +kernel
theorem dX12_qAsksWord_78 : decode cX12_qAsksWord 78 = .ok (.aload_n 0, 1) := by decide +kernel
theorem dX12_qAsksWord_79 : decode cX12_qAsksWord 79 = .ok (.aload_n 0, 1) := by decide +kernel
theorem dX12_qAsksWord_80 : decode cX12_qAsksWord 80 = .ok (.getfield 221, 3) := by decide +kernel
theorem dX12_qAsksWord_83 : decode cX12_qAsksWord 83 = .ok (.invokevirtual 337, 3) := by decide +kernel
theorem dX12_qAsksWord_86 : decode cX12_qAsksWord 86 = .ok (.goto 88, 3) := by decide +kernel
theorem dX12_qAsksWord_89 : decode cX12_qAsksWord 89 = .ok (.aload_n 0, 1) := by decide +kernel
theorem dX12_qAsksWord_90 : decode cX12_qAsksWord 90 = .ok (.aload_n 0, 1) := by decide +kernel
theorem dX12_qAsksWord_91 : decode cX12_qAsksWord 91 = .ok (.getfield 224, 3) := by decide +kernel
theorem dX12_qAsksWord_94 : decode cX12_qAsksWord 94 = .ok (.invokevirtual 337, 3) := by decide +kernel
theorem dX12_qAsksWord_97 : decode cX12_qAsksWord 97 = .ok (.goto 77, 3) := by decide +kernel
theorem dX12_qAsksWord_100 : decode cX12_qAsksWord 100 = .ok (.aload_n 0, 1) := by decide +kernel
theorem dX12_qAsksWord_101 : decode cX12_qAsksWord 101 = .ok (.aload_n 0, 1) := by decide +kernel
theorem dX12_qAsksWord_102 : decode cX12_qAsksWord 102 = .ok (.getfield 227, 3) := by decide +kernel
theorem dX12_qAsksWord_105 : decode cX12_qAsksWord 105 = .ok (.invokevirtual 337, 3) := by decide +kernel
theorem dX12_qAsksWord_108 : decode cX12_qAsksWord 108 = .ok (.goto 66, 3) := by decide +kernel
theorem dX12_qAsksWord_111 : decode cX12_qAsksWord 111 = .ok (.aload_n 0, 1) := by decide +kernel
theorem dX12_qAsksWord_112 : decode cX12_qAsksWord 112 = .ok (.aload_n 0, 1) := by decide +kernel
theorem dX12_qAsksWord_113 : decode cX12_qAsksWord 113 = .ok (.getfield 230, 3) := by decide +kernel
theorem dX12_qAsksWord_116 : decode cX12_qAsksWord 116 = .ok (.invokevirtual 337, 3) := by decide +kernel
theorem dX12_qAsksWord_119 : decode cX12_qAsksWord 119 = .ok (.goto 55, 3) := by decide +kernel
theorem dX12_qAsksWord_122 : decode cX12_qAsksWord 122 = .ok (.aload_n 0, 1) := by decide +kernel
theorem dX12_qAsksWord_123 : decode cX12_qAsksWord 123 = .ok (.aload_n 0, 1) := by decide +kernel
theorem dX12_qAsksWord_124 : decode cX12_qAsksWord 124 = .ok (.getfield 233, 3) := by decide +kernel
theorem dX12_qAsksWord_127 : decode cX12_qAsksWord 127 = .ok (.invokevirtual 337, 3) := by decide +kernel
theorem dX12_qAsksWord_130 : decode cX12_qAsksWord 130 = .ok (.goto 44, 3) := by decide +kernel
theorem dX12_qAsksWord_133 : decode cX12_qAsksWord 133 = .ok (.aload_n 0, 1) := by decide +kernel
theorem dX12_qAsksWord_134 : decode cX12_qAsksWord 134 = .ok (.aload_n 0, 1) := by decide +kernel
theorem dX12_qAsksWord_135 : decode cX12_qAsksWord 135 = .ok (.getfield 236, 3) := by decide +kernel
theorem dX12_qAsksWord_138 : decode cX12_qAsksWord 138 = .ok (.invokevirtual 337, 3) := by decide +kernel
theorem dX12_qAsksWord_141 : decode cX12_qAsksWord 141 = .ok (.goto 33, 3) := by decide +kernel
theorem dX12_qAsksWord_144 : decode cX12_qAsksWord 144 = .ok (.aload_n 0, 1) := by decide +kernel
theorem dX12_qAsksWord_145 : decode cX12_qAsksWord 145 = .ok (.aload_n 0, 1) := by decide +kernel
theorem dX12_qAsksWord_146 : decode cX12_qAsksWord 146 = .ok (.getfield 239, 3) := by decide +kernel
theorem dX12_qAsksWord_149 : decode cX12_qAsksWord 149 = .ok (.invokevirtual 337, 3) := by decide +kernel
theorem dX12_qAsksWord_152 : decode cX12_qAsksWord 152 = .ok (.goto 22, 3) := by decide +kernel
theorem dX12_qAsksWord_155 : decode cX12_qAsksWord 155 = .ok (.aload_n 0, 1) := by decide +kernel
theorem dX12_qAsksWord_156 : decode cX12_qAsksWord 156 = .ok (.aload_n 0, 1) := by decide +kernel
theorem dX12_qAsksWord_157 : decode cX12_qAsksWord 157 = .ok (.getfield 242, 3) := by decide +kernel
theorem dX12_qAsksWord_160 : decode cX12_qAsksWord 160 = .ok (.invokevirtual 337, 3) := by decide +kernel
theorem dX12_qAsksWord_163 : decode cX12_qAsksWord 163 = .ok (.goto 11, 3) := by decide +kernel
theorem dX12_qAsksWord_166 : decode cX12_qAsksWord 166 = .ok (.aload_n 0, 1) := by decide +kernel
theorem dX12_qAsksWord_167 : decode cX12_qAsksWord 167 = .ok (.aload_n 0, 1) := by decide +kernel
theorem dX12_qAsksWord_168 : decode cX12_qAsksWord 168 = .ok (.getfield 245, 3) := by decide +kernel
theorem dX12_qAsksWord_171 : decode cX12_qAsksWord 171 = .ok (.invokevirtual 337, 3) := by decide +kernel
theorem dX12_qAsksWord_174 : decode cX12_qAsksWord 174 = .ok (.return_, 1) := by decide +kernel
theorem dX12_giftTold_0 : decode cX12_giftTold 0 = .ok (.aload_n 0, 1) := by decide +kernel
theorem dX12_giftTold_1 : decode cX12_giftTold 1 = .ok (.iconst 1, 1) := by decide +kernel
theorem dX12_giftTold_2 : decode cX12_giftTold 2 = .ok (.iconst 4, 1) := by decide +kernel
theorem dX12_giftTold_3 : decode cX12_giftTold 3 = .ok (.iload_n 1, 1) := by decide +kernel
theorem dX12_giftTold_4 : decode cX12_giftTold 4 = .ok (.invokevirtual 330, 3) := by decide +kernel
theorem dX12_giftTold_7 : decode cX12_giftTold 7 = .ok (.ifCond .eq 4, 3) := by decide +kernel
theorem dX12_giftTold_10 : decode cX12_giftTold 10 = .ok (.return_, 1) := by decide +kernel
theorem dX12_giftTold_11 : decode cX12_giftTold 11 = .ok (.aload_n 0, 1) := by decide +kernel
theorem dX12_giftTold_12 : decode cX12_giftTold 12 = .ok (.invokevirtual 334, 3) := by decide +kernel
theorem dX12_giftTold_15 : decode cX12_giftTold 15 = .ok (.lstore_n 2, 1) := by decide +kernel
theorem dX12_giftTold_16 : decode cX12_giftTold 16 = .ok (.aload_n 0, 1) := by decide +kernel
theorem dX12_giftTold_17 : decode cX12_giftTold 17 = .ok (.aload_n 0, 1) := by decide +kernel
theorem dX12_giftTold_18 : decode cX12_giftTold 18 = .ok (.getfield 36, 3) := by decide +kernel
theorem dX12_giftTold_21 : decode cX12_giftTold 21 = .ok (.invokevirtual 337, 3) := by decide +kernel
theorem dX12_giftTold_24 : decode cX12_giftTold 24 = .ok (.aload_n 0, 1) := by decide +kernel
theorem dX12_giftTold_25 : decode cX12_giftTold 25 = .ok (.iconst 0, 1) := by decide +kernel
theorem dX12_giftTold_26 : decode cX12_giftTold 26 = .ok (.iconst 3, 1) := by decide +kernel
theorem dX12_giftTold_27 : decode cX12_giftTold 27 = .ok (.invokevirtual 341, 3) := by decide +kernel
theorem dX12_giftTold_30 : decode cX12_giftTold 30 = .ok (.istore 4, 2) := by decide +kernel
theorem dX12_giftTold_32 : decode cX12_giftTold 32 = .ok (.aload_n 0, 1) := by decide +kernel
theorem dX12_giftTold_33 : decode cX12_giftTold 33 = .ok (.getfield 263, 3) := by decide +kernel
theorem dX12_giftTold_36 : decode cX12_giftTold 36 = .ok (.ifCond .ne 16, 3) := by decide +kernel
theorem dX12_giftTold_39 : decode cX12_giftTold 39 = .ok (.aload_n 0, 1) := by decide +kernel
theorem dX12_giftTold_40 : decode cX12_giftTold 40 = .ok (.getfield 115, 3) := by decide +kernel
theorem dX12_giftTold_43 : decode cX12_giftTold 43 = .ok (.aload_n 0, 1) := by decide +kernel
theorem dX12_giftTold_44 : decode cX12_giftTold 44 = .ok (.iconst 1, 1) := by decide +kernel
theorem dX12_giftTold_45 : decode cX12_giftTold 45 = .ok (.lload_n 2, 1) := by decide +kernel
theorem dX12_giftTold_46 : decode cX12_giftTold 46 = .ok (.invokevirtual 345, 3) := by decide +kernel
theorem dX12_giftTold_49 : decode cX12_giftTold 49 = .ok (.iload 4, 2) := by decide +kernel
theorem dX12_giftTold_51 : decode cX12_giftTold 51 = .ok (.iastore, 1) := by decide +kernel
theorem dX12_giftTold_52 : decode cX12_giftTold 52 = .ok (.return_, 1) := by decide +kernel
theorem dX12_qEndsPart_0 : decode cX12_qEndsPart 0 = .ok (.aload_n 0, 1) := by decide +kernel
theorem dX12_qEndsPart_1 : decode cX12_qEndsPart 1 = .ok (.getfield 263, 3) := by decide +kernel
theorem dX12_qEndsPart_4 : decode cX12_qEndsPart 4 = .ok (.ifCond .ne 47, 3) := by decide +kernel
theorem dX12_qEndsPart_7 : decode cX12_qEndsPart 7 = .ok (.aload_n 0, 1) := by decide +kernel
theorem dX12_qEndsPart_8 : decode cX12_qEndsPart 8 = .ok (.getfield 355, 3) := by decide +kernel
theorem dX12_qEndsPart_11 : decode cX12_qEndsPart 11 = .ok (.aload_n 0, 1) := by decide +kernel
theorem dX12_qEndsPart_12 : decode cX12_qEndsPart 12 = .ok (.getfield 361, 3) := by decide +kernel
theorem dX12_qEndsPart_15 : decode cX12_qEndsPart 15 = .ok (.if_icmp .le 36, 3) := by decide +kernel
theorem dX12_qEndsPart_18 : decode cX12_qEndsPart 18 = .ok (.aload_n 0, 1) := by decide +kernel
theorem dX12_qEndsPart_19 : decode cX12_qEndsPart 19 = .ok (.getfield 251, 3) := by decide +kernel
theorem dX12_qEndsPart_22 : decode cX12_qEndsPart 22 = .ok (.aload_n 0, 1) := by decide +kernel
theorem dX12_qEndsPart_23 : decode cX12_qEndsPart 23 = .ok (.getfield 355, 3) := by decide +kernel
theorem dX12_qEndsPart_26 : decode cX12_qEndsPart 26 = .ok (.iconst 1, 1) := by decide +kernel
theorem dX12_qEndsPart_27 : decode cX12_qEndsPart 27 = .ok (.isub, 1) := by decide +kernel
theorem dX12_qEndsPart_28 : decode cX12_qEndsPart 28 = .ok (.iaload, 1) := by decide +kernel
theorem dX12_qEndsPart_29 : decode cX12_qEndsPart 29 = .ok (.bipush 60, 2) := by decide +kernel
theorem dX12_qEndsPart_31 : decode cX12_qEndsPart 31 = .ok (.if_icmp .lt 20, 3) := by decide +kernel
theorem dX12_qEndsPart_34 : decode cX12_qEndsPart 34 = .ok (.aload_n 0, 1) := by decide +kernel
theorem dX12_qEndsPart_35 : decode cX12_qEndsPart 35 = .ok (.dup, 1) := by decide +kernel
theorem dX12_qEndsPart_36 : decode cX12_qEndsPart 36 = .ok (.getfield 358, 3) := by decide +kernel
theorem dX12_qEndsPart_39 : decode cX12_qEndsPart 39 = .ok (.iconst 1, 1) := by decide +kernel
theorem dX12_qEndsPart_40 : decode cX12_qEndsPart 40 = .ok (.isub, 1) := by decide +kernel
theorem dX12_qEndsPart_41 : decode cX12_qEndsPart 41 = .ok (.putfield 358, 3) := by decide +kernel
theorem dX12_qEndsPart_44 : decode cX12_qEndsPart 44 = .ok (.aload_n 0, 1) := by decide +kernel
theorem dX12_qEndsPart_45 : decode cX12_qEndsPart 45 = .ok (.invokevirtual 600, 3) := by decide +kernel
theorem dX12_qEndsPart_48 : decode cX12_qEndsPart 48 = .ok (.goto (-48), 3) := by decide +kernel
theorem dX12_qEndsPart_51 : decode cX12_qEndsPart 51 = .ok (.return_, 1) := by decide +kernel
theorem dX12_helperMany_0 : decode cX12_helperMany 0 = .ok (.aload_n 0, 1) := by decide +kernel
theorem dX12_helperMany_1 : decode cX12_helperMany 1 = .ok (.getfield 105, 3) := by decide +kernel
theorem dX12_helperMany_4 : decode cX12_helperMany 4 = .ok (.bipush 7, 2) := by decide +kernel
theorem dX12_helperMany_6 : decode cX12_helperMany 6 = .ok (.iaload, 1) := by decide +kernel
theorem dX12_helperMany_7 : decode cX12_helperMany 7 = .ok (.ireturn, 1) := by decide +kernel
theorem dX12_takes_0 : decode cX12_takes 0 = .ok (.aload_n 0, 1) := by decide +kernel
theorem dX12_takes_1 : decode cX12_takes 1 = .ok (.iload_n 1, 1) := by decide +kernel
theorem dX12_takes_2 : decode cX12_takes 2 = .ok (.invokevirtual 501, 3) := by decide +kernel
theorem dX12_takes_5 : decode cX12_takes 5 = .ok (.ifCond .eq 20, 3) := by decide +kernel
theorem dX12_takes_8 : decode cX12_takes 8 = .ok (.aload_n 0, 1) := by decide +kernel
theorem dX12_takes_9 : decode cX12_takes 9 = .ok (.iload_n 2, 1) := by decide +kernel
theorem dX12_takes_10 : decode cX12_takes 10 = .ok (.invokevirtual 516, 3) := by decide +kernel
theorem dX12_takes_13 : decode cX12_takes 13 = .ok (.ifCond .eq 12, 3) := by decide +kernel
theorem dX12_takes_16 : decode cX12_takes 16 = .ok (.aload_n 0, 1) := by decide +kernel
theorem dX12_takes_17 : decode cX12_takes 17 = .ok (.iload_n 1, 1) := by decide +kernel
theorem dX12_takes_18 : decode cX12_takes 18 = .ok (.iload_n 2, 1) := by decide +kernel
theorem dX12_takes_19 : decode cX12_takes 19 = .ok (.invokevirtual 461, 3) := by decide +kernel
theorem dX12_takes_22 : decode cX12_takes 22 = .ok (.goto 4, 3) := by decide +kernel
theorem dX12_takes_25 : decode cX12_takes 25 = .ok (.iconst (-1), 1) := by decide +kernel
theorem dX12_takes_26 : decode cX12_takes 26 = .ok (.ireturn, 1) := by decide +kernel
theorem dX12_status_0 : decode cX12_status 0 = .ok (.iload_n 1, 1) := by decide +kernel
theorem dX12_status_1 : decode cX12_status 1 = .ok (.i2l, 1) := by decide +kernel
theorem dX12_status_2 : decode cX12_status 2 = .ok (.lconst 0, 1) := by decide +kernel
theorem dX12_status_3 : decode cX12_status 3 = .ok (.ldc2_w 499, 3) := by decide +kernel
theorem dX12_status_6 : decode cX12_status 6 = .ok (.invokestatic 303, 3) := by decide +kernel
theorem dX12_status_9 : decode cX12_status 9 = .ok (.ifCond .eq 12, 3) := by decide +kernel
theorem dX12_status_12 : decode cX12_status 12 = .ok (.aload_n 0, 1) := by decide +kernel
theorem dX12_status_13 : decode cX12_status 13 = .ok (.getfield 17, 3) := by decide +kernel
theorem dX12_status_16 : decode cX12_status 16 = .ok (.iload_n 1, 1) := by decide +kernel
theorem dX12_status_17 : decode cX12_status 17 = .ok (.iaload, 1) := by decide +kernel
theorem dX12_status_18 : decode cX12_status 18 = .ok (.goto 4, 3) := by decide +kernel
theorem dX12_status_21 : decode cX12_status 21 = .ok (.iconst (-1), 1) := by decide +kernel
theorem dX12_status_22 : decode cX12_status 22 = .ok (.ireturn, 1) := by decide +kernel
theorem dX12_isLetter_0 : decode cX12_isLetter 0 = .ok (.iload_n 0, 1) := by decide +kernel
theorem dX12_isLetter_1 : decode cX12_isLetter 1 = .ok (.bipush 97, 2) := by decide +kernel
theorem dX12_isLetter_3 : decode cX12_isLetter 3 = .ok (.if_icmp .lt 13, 3) := by decide +kernel
theorem dX12_isLetter_6 : decode cX12_isLetter 6 = .ok (.iload_n 0, 1) := by decide +kernel
theorem dX12_isLetter_7 : decode cX12_isLetter 7 = .ok (.bipush 122, 2) := by decide +kernel
theorem dX12_isLetter_9 : decode cX12_isLetter 9 = .ok (.if_icmp .gt 7, 3) := by decide +kernel
theorem dX12_isLetter_12 : decode cX12_isLetter 12 = .ok (.iconst 1, 1) := by decide +kernel
theorem dX12_isLetter_13 : decode cX12_isLetter 13 = .ok (.goto 4, 3) := by decide +kernel
theorem dX12_isLetter_16 : decode cX12_isLetter 16 = .ok (.iconst 0, 1) := by decide +kernel
theorem dX12_isLetter_17 : decode cX12_isLetter 17 = .ok (.ireturn, 1) := by decide +kernel
theorem dX12_eats_0 : decode cX12_eats 0 = .ok (.aload_n 0, 1) := by decide +kernel
theorem dX12_eats_1 : decode cX12_eats 1 = .ok (.aload_n 1, 1) := by decide +kernel
theorem dX12_eats_2 : decode cX12_eats 2 = .ok (.invokevirtual 286, 3) := by decide +kernel
theorem dX12_eats_5 : decode cX12_eats 5 = .ok (.ifCond .ne 5, 3) := by decide +kernel
theorem dX12_eats_8 : decode cX12_eats 8 = .ok (.iconst 0, 1) := by decide +kernel
theorem dX12_eats_9 : decode cX12_eats 9 = .ok (.ireturn, 1) := by decide +kernel
theorem dX12_eats_10 : decode cX12_eats 10 = .ok (.aload_n 0, 1) := by decide +kernel
theorem dX12_eats_11 : decode cX12_eats 11 = .ok (.dup, 1) := by decide +kernel
theorem dX12_eats_12 : decode cX12_eats 12 = .ok (.getfield 269, 3) := by decide +kernel
theorem dX12_eats_15 : decode cX12_eats 15 = .ok (.aload_n 1, 1) := by decide +kernel
theorem dX12_eats_16 : decode cX12_eats 16 = .ok (.arraylength, 1) := by decide +kernel
theorem dX12_eats_17 : decode cX12_eats 17 = .ok (.iadd, 1) := by decide +kernel
theorem dX12_eats_18 : decode cX12_eats 18 = .ok (.putfield 269, 3) := by decide +kernel
theorem dX12_eats_21 : decode cX12_eats 21 = .ok (.aload_n 0, 1) := by decide +kernel
theorem dX12_eats_22 : decode cX12_eats 22 = .ok (.aload_n 0, 1) := by decide +kernel
theorem dX12_eats_23 : decode cX12_eats 23 = .ok (.getfield 269, 3) := by decide +kernel
theorem dX12_eats_26 : decode cX12_eats 26 = .ok (.putfield 283, 3) := by decide +kernel
theorem dX12_eats_29 : decode cX12_eats 29 = .ok (.iconst 1, 1) := by decide +kernel
theorem dX12_eats_30 : decode cX12_eats 30 = .ok (.ireturn, 1) := by decide +kernel
theorem dX12_qDrops_0 : decode cX12_qDrops 0 = .ok (.aload_n 0, 1) := by decide +kernel
theorem dX12_qDrops_1 : decode cX12_qDrops 1 = .ok (.dup, 1) := by decide +kernel
theorem dX12_qDrops_2 : decode cX12_qDrops 2 = .ok (.getfield 355, 3) := by decide +kernel
theorem dX12_qDrops_5 : decode cX12_qDrops 5 = .ok (.iconst 1, 1) := by decide +kernel
theorem dX12_qDrops_6 : decode cX12_qDrops 6 = .ok (.isub, 1) := by decide +kernel
theorem dX12_qDrops_7 : decode cX12_qDrops 7 = .ok (.putfield 355, 3) := by decide +kernel
theorem dX12_qDrops_10 : decode cX12_qDrops 10 = .ok (.aload_n 0, 1) := by decide +kernel
theorem dX12_qDrops_11 : decode cX12_qDrops 11 = .ok (.aload_n 0, 1) := by decide +kernel
theorem dX12_qDrops_12 : decode cX12_qDrops 12 = .ok (.getfield 251, 3) := by decide +kernel
theorem dX12_qDrops_15 : decode cX12_qDrops 15 = .ok (.aload_n 0, 1) := by decide +kernel
theorem dX12_qDrops_16 : decode cX12_qDrops 16 = .ok (.getfield 355, 3) := by decide +kernel
theorem dX12_qDrops_19 : decode cX12_qDrops 19 = .ok (.iaload, 1) := by decide +kernel
theorem dX12_qDrops_20 : decode cX12_qDrops 20 = .ok (.invokevirtual 594, 3) := by decide +kernel
theorem dX12_qDrops_23 : decode cX12_qDrops 23 = .ok (.return_, 1) := by decide +kernel
theorem dX12_leftAnew_0 : decode cX12_leftAnew 0 = .ok (.iconst 0, 1) := by decide +kernel
theorem dX12_leftAnew_1 : decode cX12_leftAnew 1 = .ok (.istore_n 1, 1) := by decide +kernel
theorem dX12_leftAnew_2 : decode cX12_leftAnew 2 = .ok (.iload_n 1, 1) := by decide +kernel
theorem dX12_leftAnew_3 : decode cX12_leftAnew 3 = .ok (.aload_n 0, 1) := by decide +kernel
theorem dX12_leftAnew_4 : decode cX12_leftAnew 4 = .ok (.invokevirtual 422, 3) := by decide +kernel
theorem dX12_leftAnew_7 : decode cX12_leftAnew 7 = .ok (.if_icmp .ge 28, 3) := by decide +kernel
theorem dX12_leftAnew_10 : decode cX12_leftAnew 10 = .ok (.aload_n 0, 1) := by decide +kernel
theorem dX12_leftAnew_11 : decode cX12_leftAnew 11 = .ok (.getfield 142, 3) := by decide +kernel
theorem dX12_leftAnew_14 : decode cX12_leftAnew 14 = .ok (.iconst 1, 1) := by decide +kernel
theorem dX12_leftAnew_15 : decode cX12_leftAnew 15 = .ok (.iload_n 1, 1) := by decide +kernel
theorem dX12_leftAnew_16 : decode cX12_leftAnew 16 = .ok (.iadd, 1) := by decide +kernel
theorem dX12_leftAnew_17 : decode cX12_leftAnew 17 = .ok (.aload_n 0, 1) := by decide +kernel
theorem dX12_leftAnew_18 : decode cX12_leftAnew 18 = .ok (.getfield 127, 3) := by decide +kernel
theorem dX12_leftAnew_21 : decode cX12_leftAnew 21 = .ok (.bipush 9, 2) := by decide +kernel
theorem dX12_leftAnew_23 : decode cX12_leftAnew 23 = .ok (.iconst 3, 1) := by decide +kernel
theorem dX12_leftAnew_24 : decode cX12_leftAnew 24 = .ok (.iload_n 1, 1) := by decide +kernel
theorem dX12_leftAnew_25 : decode cX12_leftAnew 25 = .ok (.imul, 1) := by decide +kernel
theorem dX12_leftAnew_26 : decode cX12_leftAnew 26 = .ok (.iadd, 1) := by decide +kernel
theorem dX12_leftAnew_27 : decode cX12_leftAnew 27 = .ok (.iaload, 1) := by decide +kernel
theorem dX12_leftAnew_28 : decode cX12_leftAnew 28 = .ok (.iastore, 1) := by decide +kernel
theorem dX12_leftAnew_29 : decode cX12_leftAnew 29 = .ok (.iinc 1 1, 3) := by decide +kernel
theorem dX12_leftAnew_32 : decode cX12_leftAnew 32 = .ok (.goto (-30), 3) := by decide +kernel
theorem dX12_leftAnew_35 : decode cX12_leftAnew 35 = .ok (.return_, 1) := by decide +kernel
theorem dX12_sheets_0 : decode cX12_sheets 0 = .ok (.iload_n 1, 1) := by decide +kernel
theorem dX12_sheets_1 : decode cX12_sheets 1 = .ok (.iconst (-1), 1) := by decide +kernel
theorem dX12_sheets_2 : decode cX12_sheets 2 = .ok (.if_icmp .eq 13, 3) := by decide +kernel
theorem dX12_sheets_5 : decode cX12_sheets 5 = .ok (.aload_n 0, 1) := by decide +kernel
theorem dX12_sheets_6 : decode cX12_sheets 6 = .ok (.iload_n 1, 1) := by decide +kernel
theorem dX12_sheets_7 : decode cX12_sheets 7 = .ok (.invokevirtual 501, 3) := by decide +kernel
theorem dX12_sheets_10 : decode cX12_sheets 10 = .ok (.ifCond .ne 5, 3) := by decide +kernel
theorem dX12_sheets_13 : decode cX12_sheets 13 = .ok (.iconst (-1), 1) := by decide +kernel
theorem dX12_sheets_14 : decode cX12_sheets 14 = .ok (.ireturn, 1) := by decide +kernel
theorem dX12_sheets_15 : decode cX12_sheets 15 = .ok (.iconst 0, 1) := by decide +kernel
theorem dX12_sheets_16 : decode cX12_sheets 16 = .ok (.istore_n 2, 1) := by decide +kernel
theorem dX12_sheets_17 : decode cX12_sheets 17 = .ok (.aload_n 0, 1) := by decide +kernel
theorem dX12_sheets_18 : decode cX12_sheets 18 = .ok (.iload_n 2, 1) := by decide +kernel
theorem dX12_sheets_19 : decode cX12_sheets 19 = .ok (.invokevirtual 542, 3) := by decide +kernel
theorem dX12_sheets_22 : decode cX12_sheets 22 = .ok (.ifCond .ne 9, 3) := by decide +kernel
theorem dX12_sheets_25 : decode cX12_sheets 25 = .ok (.iinc 2 1, 3) := by decide +kernel
theorem dX12_sheets_28 : decode cX12_sheets 28 = .ok (.goto (-11), 3) := by decide +kernel
theorem dX12_sheets_31 : decode cX12_sheets 31 = .ok (.iload_n 1, 1) := by decide +kernel
theorem dX12_sheets_32 : decode cX12_sheets 32 = .ok (.iconst (-1), 1) := by decide +kernel
theorem dX12_sheets_33 : decode cX12_sheets 33 = .ok (.if_icmp .ne 7, 3) := by decide +kernel
theorem dX12_sheets_36 : decode cX12_sheets 36 = .ok (.iload_n 2, 1) := by decide +kernel
theorem dX12_sheets_37 : decode cX12_sheets 37 = .ok (.goto 9, 3) := by decide +kernel
theorem dX12_sheets_40 : decode cX12_sheets 40 = .ok (.aload_n 0, 1) := by decide +kernel
theorem dX12_sheets_41 : decode cX12_sheets 41 = .ok (.getfield 148, 3) := by decide +kernel
theorem dX12_sheets_44 : decode cX12_sheets 44 = .ok (.iload_n 1, 1) := by decide +kernel
theorem dX12_sheets_45 : decode cX12_sheets 45 = .ok (.iaload, 1) := by decide +kernel
theorem dX12_sheets_46 : decode cX12_sheets 46 = .ok (.ireturn, 1) := by decide +kernel
theorem dX12_has_0 : decode cX12_has 0 = .ok (.iload_n 1, 1) := by decide +kernel
theorem dX12_has_1 : decode cX12_has 1 = .ok (.tableswitch 103 0 11 #[63, 63, 63, 63, 63, 72, 79, 79, 79, 88, 93, 98], 63) := by decide +kernel
theorem dX12_has_64 : decode cX12_has 64 = .ok (.aload_n 0, 1) := by decide +kernel
theorem dX12_has_65 : decode cX12_has 65 = .ok (.getfield 105, 3) := by decide +kernel
theorem dX12_has_68 : decode cX12_has 68 = .ok (.iconst 5, 1) := by decide +kernel
theorem dX12_has_69 : decode cX12_has 69 = .ok (.iload_n 1, 1) := by decide +kernel
theorem dX12_has_70 : decode cX12_has 70 = .ok (.iadd, 1) := by decide +kernel
theorem dX12_has_71 : decode cX12_has 71 = .ok (.iaload, 1) := by decide +kernel
theorem dX12_has_72 : decode cX12_has 72 = .ok (.ireturn, 1) := by decide +kernel
theorem dX12_has_73 : decode cX12_has 73 = .ok (.aload_n 0, 1) := by decide +kernel
theorem dX12_has_74 : decode cX12_has 74 = .ok (.getfield 142, 3) := by decide +kernel
theorem dX12_has_77 : decode cX12_has 77 = .ok (.iconst 0, 1) := by decide +kernel
theorem dX12_has_78 : decode cX12_has 78 = .ok (.iaload, 1) := by decide +kernel
theorem dX12_has_79 : decode cX12_has 79 = .ok (.ireturn, 1) := by decide +kernel
theorem dX12_has_80 : decode cX12_has 80 = .ok (.aload_n 0, 1) := by decide +kernel
theorem dX12_has_81 : decode cX12_has 81 = .ok (.iload_n 1, 1) := by decide +kernel
theorem dX12_has_82 : decode cX12_has 82 = .ok (.bipush 6, 2) := by decide +kernel
theorem dX12_has_84 : decode cX12_has 84 = .ok (.isub, 1) := by decide +kernel
theorem dX12_has_85 : decode cX12_has 85 = .ok (.invokevirtual 491, 3) := by decide +kernel
theorem dX12_has_88 : decode cX12_has 88 = .ok (.ireturn, 1) := by decide +kernel
theorem dX12_has_89 : decode cX12_has 89 = .ok (.aload_n 0, 1) := by decide +kernel
theorem dX12_has_90 : decode cX12_has 90 = .ok (.invokevirtual 494, 3) := by decide +kernel
theorem dX12_has_93 : decode cX12_has 93 = .ok (.ireturn, 1) := by decide +kernel
theorem dX12_has_94 : decode cX12_has 94 = .ok (.aload_n 0, 1) := by decide +kernel
theorem dX12_has_95 : decode cX12_has 95 = .ok (.getfield 416, 3) := by decide +kernel
theorem dX12_has_98 : decode cX12_has 98 = .ok (.ireturn, 1) := by decide +kernel
theorem dX12_has_99 : decode cX12_has 99 = .ok (.aload_n 0, 1) := by decide +kernel
theorem dX12_has_100 : decode cX12_has 100 = .ok (.getfield 413, 3) := by decide +kernel
theorem dX12_has_103 : decode cX12_has 103 = .ok (.ireturn, 1) := by decide +kernel
theorem dX12_has_104 : decode cX12_has 104 = .ok (.iconst (-1), 1) := by decide +kernel
theorem dX12_has_105 : decode cX12_has 105 = .ok (.ireturn, 1) := by decide +kernel
theorem dX12_see_0 : decode cX12_see 0 = .ok (.aload_n 0, 1) := by decide +kernel
theorem dX12_see_1 : decode cX12_see 1 = .ok (.getfield 260, 3) := by decide +kernel
theorem dX12_see_4 : decode cX12_see 4 = .ok (.istore_n 1, 1) := by decide +kernel
theorem dX12_see_5 : decode cX12_see 5 = .ok (.aload_n 0, 1) := by decide +kernel
theorem dX12_see_6 : decode cX12_see 6 = .ok (.iconst 0, 1) := by decide +kernel
theorem dX12_see_7 : decode cX12_see 7 = .ok (.putfield 260, 3) := by decide +kernel
theorem dX12_see_10 : decode cX12_see 10 = .ok (.iload_n 1, 1) := by decide +kernel
theorem dX12_see_11 : decode cX12_see 11 = .ok (.ifCond .le 21, 3) := by decide +kernel
theorem dX12_see_14 : decode cX12_see 14 = .ok (.iload_n 1, 1) := by decide +kernel
theorem dX12_see_15 : decode cX12_see 15 = .ok (.iconst 3, 1) := by decide +kernel
theorem dX12_see_16 : decode cX12_see 16 = .ok (.irem, 1) := by decide +kernel
theorem dX12_see_17 : decode cX12_see 17 = .ok (.ifCond .ne 15, 3) := by decide +kernel
theorem dX12_see_20 : decode cX12_see 20 = .ok (.iload_n 1, 1) := by decide +kernel
theorem dX12_see_21 : decode cX12_see 21 = .ok (.iconst 3, 1) := by decide +kernel
theorem dX12_see_22 : decode cX12_see 22 = .ok (.idiv, 1) := by decide +kernel
theorem dX12_see_23 : decode cX12_see 23 = .ok (.bipush 16, 2) := by decide +kernel
theorem dX12_see_25 : decode cX12_see 25 = .ok (.if_icmp .gt 7, 3) := by decide +kernel
theorem dX12_see_28 : decode cX12_see 28 = .ok (.iconst 1, 1) := by decide +kernel
theorem dX12_see_29 : decode cX12_see 29 = .ok (.goto 4, 3) := by decide +kernel
theorem dX12_see_32 : decode cX12_see 32 = .ok (.iconst 0, 1) := by decide +kernel
theorem dX12_see_33 : decode cX12_see 33 = .ok (.istore_n 2, 1) := by decide +kernel
theorem dX12_see_34 : decode cX12_see 34 = .ok (.iconst 0, 1) := by decide +kernel
theorem dX12_see_35 : decode cX12_see 35 = .ok (.istore_n 3, 1) := by decide +kernel
theorem dX12_see_36 : decode cX12_see 36 = .ok (.iload_n 3, 1) := by decide +kernel
theorem dX12_see_37 : decode cX12_see 37 = .ok (.iload_n 1, 1) := by decide +kernel
theorem dX12_see_38 : decode cX12_see 38 = .ok (.if_icmp .ge 24, 3) := by decide +kernel
theorem dX12_see_41 : decode cX12_see 41 = .ok (.iload_n 2, 1) := by decide +kernel
theorem dX12_see_42 : decode cX12_see 42 = .ok (.ifCond .eq 20, 3) := by decide +kernel
theorem dX12_see_45 : decode cX12_see 45 = .ok (.aload_n 0, 1) := by decide +kernel
theorem dX12_see_46 : decode cX12_see 46 = .ok (.aload_n 0, 1) := by decide +kernel
theorem dX12_see_47 : decode cX12_see 47 = .ok (.getfield 7, 3) := by decide +kernel
theorem dX12_see_50 : decode cX12_see 50 = .ok (.iload_n 3, 1) := by decide +kernel
theorem dX12_see_51 : decode cX12_see 51 = .ok (.iaload, 1) := by decide +kernel
theorem dX12_see_52 : decode cX12_see 52 = .ok (.invokevirtual 501, 3) := by decide +kernel
theorem dX12_see_55 : decode cX12_see 55 = .ok (.istore_n 2, 1) := by decide +kernel
theorem dX12_see_56 : decode cX12_see 56 = .ok (.iinc 3 3, 3) := by decide +kernel
theorem dX12_see_59 : decode cX12_see 59 = .ok (.goto (-23), 3) := by decide +kernel
theorem dX12_see_62 : decode cX12_see 62 = .ok (.iload_n 2, 1) := by decide +kernel
theorem dX12_see_63 : decode cX12_see 63 = .ok (.ifCond .ne 9, 3) := by decide +kernel
theorem dX12_see_66 : decode cX12_see 66 = .ok (.aload_n 0, 1) := by decide +kernel
theorem dX12_see_67 : decode cX12_see 67 = .ok (.iconst 1, 1) := by decide +kernel
theorem dX12_see_68 : decode cX12_see 68 = .ok (.invokevirtual 560, 3) := by decide +kernel
theorem dX12_see_71 : decode cX12_see 71 = .ok (.ireturn, 1) := by decide +kernel
theorem dX12_see_72 : decode cX12_see 72 = .ok (.iconst 0, 1) := by decide +kernel
theorem dX12_see_73 : decode cX12_see 73 = .ok (.istore_n 3, 1) := by decide +kernel
theorem dX12_see_74 : decode cX12_see 74 = .ok (.iload_n 3, 1) := by decide +kernel
theorem dX12_see_75 : decode cX12_see 75 = .ok (.iload_n 1, 1) := by decide +kernel
theorem dX12_see_76 : decode cX12_see 76 = .ok (.if_icmp .ge 21, 3) := by decide +kernel
theorem dX12_see_79 : decode cX12_see 79 = .ok (.aload_n 0, 1) := by decide +kernel
theorem dX12_see_80 : decode cX12_see 80 = .ok (.getfield 169, 3) := by decide +kernel
theorem dX12_see_83 : decode cX12_see 83 = .ok (.iload_n 3, 1) := by decide +kernel
theorem dX12_see_84 : decode cX12_see 84 = .ok (.aload_n 0, 1) := by decide +kernel
theorem dX12_see_85 : decode cX12_see 85 = .ok (.getfield 7, 3) := by decide +kernel
theorem dX12_see_88 : decode cX12_see 88 = .ok (.iload_n 3, 1) := by decide +kernel
theorem dX12_see_89 : decode cX12_see 89 = .ok (.iaload, 1) := by decide +kernel
theorem dX12_see_90 : decode cX12_see 90 = .ok (.iastore, 1) := by decide +kernel
theorem dX12_see_91 : decode cX12_see 91 = .ok (.iinc 3 1, 3) := by decide +kernel
theorem dX12_see_94 : decode cX12_see 94 = .ok (.goto (-20), 3) := by decide +kernel
theorem dX12_see_97 : decode cX12_see 97 = .ok (.aload_n 0, 1) := by decide +kernel
theorem dX12_see_98 : decode cX12_see 98 = .ok (.iload_n 1, 1) := by decide +kernel
theorem dX12_see_99 : decode cX12_see 99 = .ok (.iconst 3, 1) := by decide +kernel
theorem dX12_see_100 : decode cX12_see 100 = .ok (.idiv, 1) := by decide +kernel
theorem dX12_see_101 : decode cX12_see 101 = .ok (.putfield 416, 3) := by decide +kernel
theorem dX12_see_104 : decode cX12_see 104 = .ok (.aload_n 0, 1) := by decide +kernel
theorem dX12_see_105 : decode cX12_see 105 = .ok (.getfield 416, 3) := by decide +kernel
theorem dX12_see_108 : decode cX12_see 108 = .ok (.ireturn, 1) := by decide +kernel
theorem dX12_octet_0 : decode cX12_octet 0 = .ok (.iload_n 1, 1) := by decide +kernel
theorem dX12_octet_1 : decode cX12_octet 1 = .ok (.ifCond .lt 20, 3) := by decide +kernel
theorem dX12_octet_4 : decode cX12_octet 4 = .ok (.iload_n 1, 1) := by decide +kernel
theorem dX12_octet_5 : decode cX12_octet 5 = .ok (.aload_n 0, 1) := by decide +kernel
theorem dX12_octet_6 : decode cX12_octet 6 = .ok (.getfield 686, 3) := by decide +kernel
theorem dX12_octet_9 : decode cX12_octet 9 = .ok (.if_icmp .ge 12, 3) := by decide +kernel
theorem dX12_octet_12 : decode cX12_octet 12 = .ok (.aload_n 0, 1) := by decide +kernel
theorem dX12_octet_13 : decode cX12_octet 13 = .ok (.getfield 257, 3) := by decide +kernel
theorem dX12_octet_16 : decode cX12_octet 16 = .ok (.iload_n 1, 1) := by decide +kernel
theorem dX12_octet_17 : decode cX12_octet 17 = .ok (.iaload, 1) := by decide +kernel
theorem dX12_octet_18 : decode cX12_octet 18 = .ok (.goto 4, 3) := by decide +kernel
theorem dX12_octet_21 : decode cX12_octet 21 = .ok (.iconst (-1), 1) := by decide +kernel
theorem dX12_octet_22 : decode cX12_octet 22 = .ok (.ireturn, 1) := by decide +kernel
theorem dX12_whose_0 : decode cX12_whose 0 = .ok (.iconst 0, 1) := by decide +kernel
theorem dX12_whose_1 : decode cX12_whose 1 = .ok (.istore_n 1, 1) := by decide +kernel
theorem dX12_whose_2 : decode cX12_whose 2 = .ok (.iconst 0, 1) := by decide +kernel
theorem dX12_whose_3 : decode cX12_whose 3 = .ok (.istore_n 2, 1) := by decide +kernel
theorem dX12_whose_4 : decode cX12_whose 4 = .ok (.iload_n 2, 1) := by decide +kernel
theorem dX12_whose_5 : decode cX12_whose 5 = .ok (.aload_n 0, 1) := by decide +kernel
theorem dX12_whose_6 : decode cX12_whose 6 = .ok (.invokevirtual 422, 3) := by decide +kernel
theorem dX12_whose_9 : decode cX12_whose 9 = .ok (.if_icmp .ge 23, 3) := by decide +kernel
theorem dX12_whose_12 : decode cX12_whose 12 = .ok (.aload_n 0, 1) := by decide +kernel
theorem dX12_whose_13 : decode cX12_whose 13 = .ok (.iload_n 2, 1) := by decide +kernel
theorem dX12_whose_14 : decode cX12_whose 14 = .ok (.invokevirtual 563, 3) := by decide +kernel
theorem dX12_whose_17 : decode cX12_whose 17 = .ok (.ifCond .eq 9, 3) := by decide +kernel
theorem dX12_whose_20 : decode cX12_whose 20 = .ok (.iload_n 1, 1) := by decide +kernel
theorem dX12_whose_21 : decode cX12_whose 21 = .ok (.iconst 1, 1) := by decide +kernel
theorem dX12_whose_22 : decode cX12_whose 22 = .ok (.iload_n 2, 1) := by decide +kernel
theorem dX12_whose_23 : decode cX12_whose 23 = .ok (.ishl, 1) := by decide +kernel
theorem dX12_whose_24 : decode cX12_whose 24 = .ok (.ior, 1) := by decide +kernel
theorem dX12_whose_25 : decode cX12_whose 25 = .ok (.istore_n 1, 1) := by decide +kernel
theorem dX12_whose_26 : decode cX12_whose 26 = .ok (.iinc 2 1, 3) := by decide +kernel
theorem dX12_whose_29 : decode cX12_whose 29 = .ok (.goto (-25), 3) := by decide +kernel
theorem dX12_whose_32 : decode cX12_whose 32 = .ok (.iload_n 1, 1) := by decide +kernel
theorem dX12_whose_33 : decode cX12_whose 33 = .ok (.ireturn, 1) := by decide +kernel
theorem dX12_qIsOn_0 : decode cX12_qIsOn 0 = .ok (.aload_n 0, 1) := by decide +kernel
theorem dX12_qIsOn_1 : decode cX12_qIsOn 1 = .ok (.getfield 355, 3) := by decide +kernel
theorem dX12_qIsOn_4 : decode cX12_qIsOn 4 = .ok (.ifCond .le 22, 3) := by decide +kernel
theorem dX12_qIsOn_7 : decode cX12_qIsOn 7 = .ok (.aload_n 0, 1) := by decide +kernel
theorem dX12_qIsOn_8 : decode cX12_qIsOn 8 = .ok (.getfield 251, 3) := by decide +kernel
theorem dX12_qIsOn_11 : decode cX12_qIsOn 11 = .ok (.aload_n 0, 1) := by decide +kernel
theorem dX12_qIsOn_12 : decode cX12_qIsOn 12 = .ok (.getfield 355, 3) := by decide +kernel
theorem dX12_qIsOn_15 : decode cX12_qIsOn 15 = .ok (.iconst 1, 1) := by decide +kernel
theorem dX12_qIsOn_16 : decode cX12_qIsOn 16 = .ok (.isub, 1) := by decide +kernel
theorem dX12_qIsOn_17 : decode cX12_qIsOn 17 = .ok (.iaload, 1) := by decide +kernel
theorem dX12_qIsOn_18 : decode cX12_qIsOn 18 = .ok (.iload_n 1, 1) := by decide +kernel
theorem dX12_qIsOn_19 : decode cX12_qIsOn 19 = .ok (.if_icmp .ne 7, 3) := by decide +kernel
theorem dX12_qIsOn_22 : decode cX12_qIsOn 22 = .ok (.iconst 1, 1) := by decide +kernel
theorem dX12_qIsOn_23 : decode cX12_qIsOn 23 = .ok (.goto 4, 3) := by decide +kernel
theorem dX12_qIsOn_26 : decode cX12_qIsOn 26 = .ok (.iconst 0, 1) := by decide +kernel
theorem dX12_qIsOn_27 : decode cX12_qIsOn 27 = .ok (.ireturn, 1) := by decide +kernel
theorem dX12_shared_0 : decode cX12_shared 0 = .ok (.iload_n 1, 1) := by decide +kernel
theorem dX12_shared_1 : decode cX12_shared 1 = .ok (.iconst (-1), 1) := by decide +kernel
theorem dX12_shared_2 : decode cX12_shared 2 = .ok (.if_icmp .eq 13, 3) := by decide +kernel
theorem dX12_shared_5 : decode cX12_shared 5 = .ok (.aload_n 0, 1) := by decide +kernel
theorem dX12_shared_6 : decode cX12_shared 6 = .ok (.iload_n 1, 1) := by decide +kernel
theorem dX12_shared_7 : decode cX12_shared 7 = .ok (.invokevirtual 501, 3) := by decide +kernel
theorem dX12_shared_10 : decode cX12_shared 10 = .ok (.ifCond .ne 5, 3) := by decide +kernel
theorem dX12_shared_13 : decode cX12_shared 13 = .ok (.iconst (-1), 1) := by decide +kernel
theorem dX12_shared_14 : decode cX12_shared 14 = .ok (.ireturn, 1) := by decide +kernel
theorem dX12_shared_15 : decode cX12_shared 15 = .ok (.iconst 0, 1) := by decide +kernel
theorem dX12_shared_16 : decode cX12_shared 16 = .ok (.istore_n 2, 1) := by decide +kernel
theorem dX12_shared_17 : decode cX12_shared 17 = .ok (.iload_n 2, 1) := by decide +kernel
theorem dX12_shared_18 : decode cX12_shared 18 = .ok (.bipush 8, 2) := by decide +kernel
theorem dX12_shared_20 : decode cX12_shared 20 = .ok (.if_icmp .ge 23, 3) := by decide +kernel
theorem dX12_shared_23 : decode cX12_shared 23 = .ok (.aload_n 0, 1) := by decide +kernel
theorem dX12_shared_24 : decode cX12_shared 24 = .ok (.getfield 148, 3) := by decide +kernel
theorem dX12_shared_27 : decode cX12_shared 27 = .ok (.iload_n 2, 1) := by decide +kernel
theorem dX12_shared_28 : decode cX12_shared 28 = .ok (.iconst 0, 1) := by decide +kernel
theorem dX12_shared_29 : decode cX12_shared 29 = .ok (.iastore, 1) := by decide +kernel
theorem dX12_shared_30 : decode cX12_shared 30 = .ok (.aload_n 0, 1) := by decide +kernel
theorem dX12_shared_31 : decode cX12_shared 31 = .ok (.getfield 154, 3) := by decide +kernel
theorem dX12_shared_34 : decode cX12_shared 34 = .ok (.iload_n 2, 1) := by decide +kernel
theorem dX12_shared_35 : decode cX12_shared 35 = .ok (.iconst 0, 1) := by decide +kernel
theorem dX12_shared_36 : decode cX12_shared 36 = .ok (.iastore, 1) := by decide +kernel
theorem dX12_shared_37 : decode cX12_shared 37 = .ok (.iinc 2 1, 3) := by decide +kernel
theorem dX12_shared_40 : decode cX12_shared 40 = .ok (.goto (-23), 3) := by decide +kernel
theorem dX12_shared_43 : decode cX12_shared 43 = .ok (.iconst 0, 1) := by decide +kernel
theorem dX12_shared_44 : decode cX12_shared 44 = .ok (.istore_n 2, 1) := by decide +kernel
theorem dX12_shared_45 : decode cX12_shared 45 = .ok (.iload_n 2, 1) := by decide +kernel
theorem dX12_shared_46 : decode cX12_shared 46 = .ok (.aload_n 0, 1) := by decide +kernel
theorem dX12_shared_47 : decode cX12_shared 47 = .ok (.invokevirtual 419, 3) := by decide +kernel
theorem dX12_shared_50 : decode cX12_shared 50 = .ok (.if_icmp .ge 31, 3) := by decide +kernel
theorem dX12_shared_53 : decode cX12_shared 53 = .ok (.aload_n 0, 1) := by decide +kernel
theorem dX12_shared_54 : decode cX12_shared 54 = .ok (.getfield 151, 3) := by decide +kernel
theorem dX12_shared_57 : decode cX12_shared 57 = .ok (.iload_n 2, 1) := by decide +kernel
theorem dX12_shared_58 : decode cX12_shared 58 = .ok (.aload_n 0, 1) := by decide +kernel
theorem dX12_shared_59 : decode cX12_shared 59 = .ok (.iload_n 2, 1) := by decide +kernel
theorem dX12_shared_60 : decode cX12_shared 60 = .ok (.invokevirtual 507, 3) := by decide +kernel
theorem dX12_shared_63 : decode cX12_shared 63 = .ok (.ifCond .ne 10, 3) := by decide +kernel
theorem dX12_shared_66 : decode cX12_shared 66 = .ok (.aload_n 0, 1) := by decide +kernel
theorem dX12_shared_67 : decode cX12_shared 67 = .ok (.invokevirtual 410, 3) := by decide +kernel
theorem dX12_shared_70 : decode cX12_shared 70 = .ok (.goto 4, 3) := by decide +kernel
theorem dX12_shared_73 : decode cX12_shared 73 = .ok (.iconst 0, 1) := by decide +kernel
theorem dX12_shared_74 : decode cX12_shared 74 = .ok (.iastore, 1) := by decide +kernel
theorem dX12_shared_75 : decode cX12_shared 75 = .ok (.iinc 2 1, 3) := by decide +kernel
theorem dX12_shared_78 : decode cX12_shared 78 = .ok (.goto (-33), 3) := by decide +kernel
theorem dX12_shared_81 : decode cX12_shared 81 = .ok (.iconst 0, 1) := by decide +kernel
theorem dX12_shared_82 : decode cX12_shared 82 = .ok (.istore_n 2, 1) := by decide +kernel
theorem dX12_shared_83 : decode cX12_shared 83 = .ok (.aload_n 0, 1) := by decide +kernel
theorem dX12_shared_84 : decode cX12_shared 84 = .ok (.invokevirtual 473, 3) := by decide +kernel
theorem dX12_shared_87 : decode cX12_shared 87 = .ok (.ifCond .eq 58, 3) := by decide +kernel
theorem dX12_shared_90 : decode cX12_shared 90 = .ok (.aload_n 0, 1) := by decide +kernel
theorem dX12_shared_91 : decode cX12_shared 91 = .ok (.invokevirtual 545, 3) := by decide +kernel
theorem dX12_shared_94 : decode cX12_shared 94 = .ok (.istore_n 3, 1) := by decide +kernel
theorem dX12_shared_95 : decode cX12_shared 95 = .ok (.iload_n 3, 1) := by decide +kernel
theorem dX12_shared_96 : decode cX12_shared 96 = .ok (.iload_n 2, 1) := by decide +kernel
theorem dX12_shared_97 : decode cX12_shared 97 = .ok (.if_icmp .le (-14), 3) := by decide +kernel
theorem dX12_shared_100 : decode cX12_shared 100 = .ok (.aload_n 0, 1) := by decide +kernel
theorem dX12_shared_101 : decode cX12_shared 101 = .ok (.invokevirtual 548, 3) := by decide +kernel
theorem dX12_shared_104 : decode cX12_shared 104 = .ok (.ifCond .ne 6, 3) := by decide +kernel
theorem dX12_shared_107 : decode cX12_shared 107 = .ok (.goto (-24), 3) := by decide +kernel
theorem dX12_shared_110 : decode cX12_shared 110 = .ok (.iload_n 3, 1) := by decide +kernel
theorem dX12_shared_111 : decode cX12_shared 111 = .ok (.istore_n 2, 1) := by decide +kernel
theorem dX12_shared_112 : decode cX12_shared 112 = .ok (.iconst 0, 1) := by decide +kernel
theorem dX12_shared_113 : decode cX12_shared 113 = .ok (.istore 4, 2) := by decide +kernel
theorem dX12_shared_115 : decode cX12_shared 115 = .ok (.iload 4, 2) := by decide +kernel
theorem dX12_shared_117 : decode cX12_shared 117 = .ok (.bipush 8, 2) := by decide +kernel
theorem dX12_shared_119 : decode cX12_shared 119 = .ok (.if_icmp .ge 23, 3) := by decide +kernel
theorem dX12_shared_122 : decode cX12_shared 122 = .ok (.aload_n 0, 1) := by decide +kernel
theorem dX12_shared_123 : decode cX12_shared 123 = .ok (.getfield 154, 3) := by decide +kernel
theorem dX12_shared_126 : decode cX12_shared 126 = .ok (.iload 4, 2) := by decide +kernel
theorem dX12_shared_128 : decode cX12_shared 128 = .ok (.aload_n 0, 1) := by decide +kernel
theorem dX12_shared_129 : decode cX12_shared 129 = .ok (.getfield 148, 3) := by decide +kernel
theorem dX12_shared_132 : decode cX12_shared 132 = .ok (.iload 4, 2) := by decide +kernel
theorem dX12_shared_134 : decode cX12_shared 134 = .ok (.iaload, 1) := by decide +kernel
