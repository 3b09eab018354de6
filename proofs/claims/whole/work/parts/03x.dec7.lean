theorem dX12_isIn_17 : decode cX12_isIn 17 = .ok (.iconst 0, 1) := by decide +kernel
theorem dX12_isIn_18 : decode cX12_isIn 18 = .ok (.ireturn, 1) := by decide +kernel
theorem dX12_sharedIn_0 : decode cX12_sharedIn 0 = .ok (.iconst 0, 1) := by decide +kernel
theorem dX12_sharedIn_1 : decode cX12_sharedIn 1 = .ok (.istore_n 1, 1) := by decide +kernel
theorem dX12_sharedIn_2 : decode cX12_sharedIn 2 = .ok (.iconst 0, 1) := by decide +kernel
theorem dX12_sharedIn_3 : decode cX12_sharedIn 3 = .ok (.istore_n 2, 1) := by decide +kernel
theorem dX12_sharedIn_4 : decode cX12_sharedIn 4 = .ok (.iload_n 2, 1) := by decide +kernel
theorem dX12_sharedIn_5 : decode cX12_sharedIn 5 = .ok (.aload_n 0, 1) := by decide +kernel
theorem dX12_sharedIn_6 : decode cX12_sharedIn 6 = .ok (.invokevirtual 419, 3) := by decide +kernel
theorem dX12_sharedIn_9 : decode cX12_sharedIn 9 = .ok (.if_icmp .ge 46, 3) := by decide +kernel
theorem dX12_sharedIn_12 : decode cX12_sharedIn 12 = .ok (.aload_n 0, 1) := by decide +kernel
theorem dX12_sharedIn_13 : decode cX12_sharedIn 13 = .ok (.getfield 148, 3) := by decide +kernel
theorem dX12_sharedIn_16 : decode cX12_sharedIn 16 = .ok (.iload_n 2, 1) := by decide +kernel
theorem dX12_sharedIn_17 : decode cX12_sharedIn 17 = .ok (.iaload, 1) := by decide +kernel
theorem dX12_sharedIn_18 : decode cX12_sharedIn 18 = .ok (.ifCond .le 31, 3) := by decide +kernel
theorem dX12_sharedIn_21 : decode cX12_sharedIn 21 = .ok (.iload_n 1, 1) := by decide +kernel
theorem dX12_sharedIn_22 : decode cX12_sharedIn 22 = .ok (.aload_n 0, 1) := by decide +kernel
theorem dX12_sharedIn_23 : decode cX12_sharedIn 23 = .ok (.getfield 112, 3) := by decide +kernel
theorem dX12_sharedIn_26 : decode cX12_sharedIn 26 = .ok (.bipush 25, 2) := by decide +kernel
theorem dX12_sharedIn_28 : decode cX12_sharedIn 28 = .ok (.iconst 3, 1) := by decide +kernel
theorem dX12_sharedIn_29 : decode cX12_sharedIn 29 = .ok (.iload_n 2, 1) := by decide +kernel
theorem dX12_sharedIn_30 : decode cX12_sharedIn 30 = .ok (.imul, 1) := by decide +kernel
theorem dX12_sharedIn_31 : decode cX12_sharedIn 31 = .ok (.iadd, 1) := by decide +kernel
theorem dX12_sharedIn_32 : decode cX12_sharedIn 32 = .ok (.iaload, 1) := by decide +kernel
theorem dX12_sharedIn_33 : decode cX12_sharedIn 33 = .ok (.aload_n 0, 1) := by decide +kernel
theorem dX12_sharedIn_34 : decode cX12_sharedIn 34 = .ok (.iload_n 2, 1) := by decide +kernel
theorem dX12_sharedIn_35 : decode cX12_sharedIn 35 = .ok (.aload_n 0, 1) := by decide +kernel
theorem dX12_sharedIn_36 : decode cX12_sharedIn 36 = .ok (.getfield 148, 3) := by decide +kernel
theorem dX12_sharedIn_39 : decode cX12_sharedIn 39 = .ok (.iload_n 2, 1) := by decide +kernel
theorem dX12_sharedIn_40 : decode cX12_sharedIn 40 = .ok (.iaload, 1) := by decide +kernel
theorem dX12_sharedIn_41 : decode cX12_sharedIn 41 = .ok (.iconst 1, 1) := by decide +kernel
theorem dX12_sharedIn_42 : decode cX12_sharedIn 42 = .ok (.isub, 1) := by decide +kernel
theorem dX12_sharedIn_43 : decode cX12_sharedIn 43 = .ok (.invokevirtual 425, 3) := by decide +kernel
theorem dX12_sharedIn_46 : decode cX12_sharedIn 46 = .ok (.imul, 1) := by decide +kernel
theorem dX12_sharedIn_47 : decode cX12_sharedIn 47 = .ok (.iadd, 1) := by decide +kernel
theorem dX12_sharedIn_48 : decode cX12_sharedIn 48 = .ok (.istore_n 1, 1) := by decide +kernel
theorem dX12_sharedIn_49 : decode cX12_sharedIn 49 = .ok (.iinc 2 1, 3) := by decide +kernel
theorem dX12_sharedIn_52 : decode cX12_sharedIn 52 = .ok (.goto (-48), 3) := by decide +kernel
theorem dX12_sharedIn_55 : decode cX12_sharedIn 55 = .ok (.iload_n 1, 1) := by decide +kernel
theorem dX12_sharedIn_56 : decode cX12_sharedIn 56 = .ok (.ireturn, 1) := by decide +kernel
theorem dX12_eats_0 : decode cX12_eats 0 = .ok (.aload_n 0, 1) := by decide +kernel
theorem dX12_eats_1 : decode cX12_eats 1 = .ok (.aload_n 1, 1) := by decide +kernel
theorem dX12_eats_2 : decode cX12_eats 2 = .ok (.invokevirtual 286, 3) := by decide +kernel
theorem dX12_eats_5 : decode cX12_eats 5 = .ok (.ifCond .ne 5, 3) := by decide +kernel
theorem dX12_eats_8 : decode cX12_eats 8 = .ok (.iconst 0, 1) := by decide +kernel
theorem dX12_eats_9 : decode cX12_eats 9 = .ok (.ireturn, 1) := by decide +kernel
theorem dX12_eats_10 : decode cX12_eats 10 = .ok (.aload_n 0, 1) := by decide +kernel
theorem dX12_eats_11 : decode cX12_eats 11 = .ok (.dup, 1) := by decide +kernel
theorem dX12_eats_12 : decode cX12_eats 12 = .ok (.getfield 269, 3) := by decide +kernel
theorem dX12_eats_15 : decode cX12_eats 15 = .ok (.aload_n 1, 1) := by decide +kernel
theorem dX12_eats_16 : decode cX12_eats 16 = .ok (.arraylength, 1) := by decide +kernel
theorem dX12_eats_17 : decode cX12_eats 17 = .ok (.iadd, 1) := by decide +kernel
theorem dX12_eats_18 : decode cX12_eats 18 = .ok (.putfield 269, 3) := by decide +kernel
theorem dX12_eats_21 : decode cX12_eats 21 = .ok (.aload_n 0, 1) := by decide +kernel
theorem dX12_eats_22 : decode cX12_eats 22 = .ok (.aload_n 0, 1) := by decide +kernel
theorem dX12_eats_23 : decode cX12_eats 23 = .ok (.getfield 269, 3) := by decide +kernel
theorem dX12_eats_26 : decode cX12_eats 26 = .ok (.putfield 283, 3) := by decide +kernel
theorem dX12_eats_29 : decode cX12_eats 29 = .ok (.iconst 1, 1) := by decide +kernel
theorem dX12_eats_30 : decode cX12_eats 30 = .ok (.ireturn, 1) := by decide +kernel
theorem dX12_isHere_0 : decode cX12_isHere 0 = .ok (.aload_n 0, 1) := by decide +kernel
theorem dX12_isHere_1 : decode cX12_isHere 1 = .ok (.getfield 263, 3) := by decide +kernel
theorem dX12_isHere_4 : decode cX12_isHere 4 = .ok (.ifCond .ne 24, 3) := by decide +kernel
theorem dX12_isHere_7 : decode cX12_isHere 7 = .ok (.aload_n 0, 1) := by decide +kernel
theorem dX12_isHere_8 : decode cX12_isHere 8 = .ok (.invokevirtual 275, 3) := by decide +kernel
theorem dX12_isHere_11 : decode cX12_isHere 11 = .ok (.invokestatic 279, 3) := by decide +kernel
theorem dX12_isHere_14 : decode cX12_isHere 14 = .ok (.ifCond .eq 14, 3) := by decide +kernel
theorem dX12_isHere_17 : decode cX12_isHere 17 = .ok (.aload_n 0, 1) := by decide +kernel
theorem dX12_isHere_18 : decode cX12_isHere 18 = .ok (.getfield 269, 3) := by decide +kernel
theorem dX12_isHere_21 : decode cX12_isHere 21 = .ok (.aload_n 0, 1) := by decide +kernel
theorem dX12_isHere_22 : decode cX12_isHere 22 = .ok (.getfield 283, 3) := by decide +kernel
theorem dX12_isHere_25 : decode cX12_isHere 25 = .ok (.if_icmp .ne 5, 3) := by decide +kernel
theorem dX12_isHere_28 : decode cX12_isHere 28 = .ok (.iconst 0, 1) := by decide +kernel
theorem dX12_isHere_29 : decode cX12_isHere 29 = .ok (.ireturn, 1) := by decide +kernel
theorem dX12_isHere_30 : decode cX12_isHere 30 = .ok (.aload_n 0, 1) := by decide +kernel
theorem dX12_isHere_31 : decode cX12_isHere 31 = .ok (.getfield 269, 3) := by decide +kernel
theorem dX12_isHere_34 : decode cX12_isHere 34 = .ok (.istore_n 2, 1) := by decide +kernel
theorem dX12_isHere_35 : decode cX12_isHere 35 = .ok (.iload_n 2, 1) := by decide +kernel
theorem dX12_isHere_36 : decode cX12_isHere 36 = .ok (.aload_n 0, 1) := by decide +kernel
theorem dX12_isHere_37 : decode cX12_isHere 37 = .ok (.getfield 272, 3) := by decide +kernel
theorem dX12_isHere_40 : decode cX12_isHere 40 = .ok (.if_icmp .ge 21, 3) := by decide +kernel
theorem dX12_isHere_43 : decode cX12_isHere 43 = .ok (.aload_n 0, 1) := by decide +kernel
theorem dX12_isHere_44 : decode cX12_isHere 44 = .ok (.getfield 7, 3) := by decide +kernel
theorem dX12_isHere_47 : decode cX12_isHere 47 = .ok (.iload_n 2, 1) := by decide +kernel
theorem dX12_isHere_48 : decode cX12_isHere 48 = .ok (.iaload, 1) := by decide +kernel
theorem dX12_isHere_49 : decode cX12_isHere 49 = .ok (.invokestatic 279, 3) := by decide +kernel
theorem dX12_isHere_52 : decode cX12_isHere 52 = .ok (.ifCond .eq 9, 3) := by decide +kernel
theorem dX12_isHere_55 : decode cX12_isHere 55 = .ok (.iinc 2 1, 3) := by decide +kernel
theorem dX12_isHere_58 : decode cX12_isHere 58 = .ok (.goto (-23), 3) := by decide +kernel
theorem dX12_isHere_61 : decode cX12_isHere 61 = .ok (.iload_n 2, 1) := by decide +kernel
theorem dX12_isHere_62 : decode cX12_isHere 62 = .ok (.aload_n 0, 1) := by decide +kernel
theorem dX12_isHere_63 : decode cX12_isHere 63 = .ok (.getfield 269, 3) := by decide +kernel
theorem dX12_isHere_66 : decode cX12_isHere 66 = .ok (.isub, 1) := by decide +kernel
theorem dX12_isHere_67 : decode cX12_isHere 67 = .ok (.aload_n 1, 1) := by decide +kernel
theorem dX12_isHere_68 : decode cX12_isHere 68 = .ok (.arraylength, 1) := by decide +kernel
theorem dX12_isHere_69 : decode cX12_isHere 69 = .ok (.if_icmp .eq 5, 3) := by decide +kernel
theorem dX12_isHere_72 : decode cX12_isHere 72 = .ok (.iconst 0, 1) := by decide +kernel
theorem dX12_isHere_73 : decode cX12_isHere 73 = .ok (.ireturn, 1) := by decide +kernel
theorem dX12_isHere_74 : decode cX12_isHere 74 = .ok (.iconst 0, 1) := by decide +kernel
theorem dX12_isHere_75 : decode cX12_isHere 75 = .ok (.istore_n 3, 1) := by decide +kernel
theorem dX12_isHere_76 : decode cX12_isHere 76 = .ok (.iload_n 3, 1) := by decide +kernel
theorem dX12_isHere_77 : decode cX12_isHere 77 = .ok (.aload_n 1, 1) := by decide +kernel
theorem dX12_isHere_78 : decode cX12_isHere 78 = .ok (.arraylength, 1) := by decide +kernel
theorem dX12_isHere_79 : decode cX12_isHere 79 = .ok (.if_icmp .ge 28, 3) := by decide +kernel
theorem dX12_isHere_82 : decode cX12_isHere 82 = .ok (.aload_n 0, 1) := by decide +kernel
theorem dX12_isHere_83 : decode cX12_isHere 83 = .ok (.getfield 7, 3) := by decide +kernel
theorem dX12_isHere_86 : decode cX12_isHere 86 = .ok (.aload_n 0, 1) := by decide +kernel
theorem dX12_isHere_87 : decode cX12_isHere 87 = .ok (.getfield 269, 3) := by decide +kernel
theorem dX12_isHere_90 : decode cX12_isHere 90 = .ok (.iload_n 3, 1) := by decide +kernel
theorem dX12_isHere_91 : decode cX12_isHere 91 = .ok (.iadd, 1) := by decide +kernel
theorem dX12_isHere_92 : decode cX12_isHere 92 = .ok (.iaload, 1) := by decide +kernel
theorem dX12_isHere_93 : decode cX12_isHere 93 = .ok (.aload_n 1, 1) := by decide +kernel
theorem dX12_isHere_94 : decode cX12_isHere 94 = .ok (.iload_n 3, 1) := by decide +kernel
theorem dX12_isHere_95 : decode cX12_isHere 95 = .ok (.caload, 1) := by decide +kernel
theorem dX12_isHere_96 : decode cX12_isHere 96 = .ok (.if_icmp .eq 5, 3) := by decide +kernel
theorem dX12_isHere_99 : decode cX12_isHere 99 = .ok (.iconst 0, 1) := by decide +kernel
theorem dX12_isHere_100 : decode cX12_isHere 100 = .ok (.ireturn, 1) := by decide +kernel
theorem dX12_isHere_101 : decode cX12_isHere 101 = .ok (.iinc 3 1, 3) := by decide +kernel
theorem dX12_isHere_104 : decode cX12_isHere 104 = .ok (.goto (-28), 3) := by decide +kernel
theorem dX12_isHere_107 : decode cX12_isHere 107 = .ok (.iconst 1, 1) := by decide +kernel
theorem dX12_isHere_108 : decode cX12_isHere 108 = .ok (.ireturn, 1) := by decide +kernel
theorem dX12_letter_0 : decode cX12_letter 0 = .ok (.iload_n 1, 1) := by decide +kernel
theorem dX12_letter_1 : decode cX12_letter 1 = .ok (.i2l, 1) := by decide +kernel
theorem dX12_letter_2 : decode cX12_letter 2 = .ok (.lconst 0, 1) := by decide +kernel
theorem dX12_letter_3 : decode cX12_letter 3 = .ok (.ldc2_w 497, 3) := by decide +kernel
theorem dX12_letter_6 : decode cX12_letter 6 = .ok (.invokestatic 303, 3) := by decide +kernel
theorem dX12_letter_9 : decode cX12_letter 9 = .ok (.ifCond .eq 35, 3) := by decide +kernel
theorem dX12_letter_12 : decode cX12_letter 12 = .ok (.iload_n 2, 1) := by decide +kernel
theorem dX12_letter_13 : decode cX12_letter 13 = .ok (.i2l, 1) := by decide +kernel
theorem dX12_letter_14 : decode cX12_letter 14 = .ok (.lconst 0, 1) := by decide +kernel
theorem dX12_letter_15 : decode cX12_letter 15 = .ok (.aload_n 0, 1) := by decide +kernel
theorem dX12_letter_16 : decode cX12_letter 16 = .ok (.getfield 105, 3) := by decide +kernel
theorem dX12_letter_19 : decode cX12_letter 19 = .ok (.iconst 5, 1) := by decide +kernel
theorem dX12_letter_20 : decode cX12_letter 20 = .ok (.iload_n 1, 1) := by decide +kernel
theorem dX12_letter_21 : decode cX12_letter 21 = .ok (.iadd, 1) := by decide +kernel
theorem dX12_letter_22 : decode cX12_letter 22 = .ok (.iaload, 1) := by decide +kernel
theorem dX12_letter_23 : decode cX12_letter 23 = .ok (.iconst 1, 1) := by decide +kernel
theorem dX12_letter_24 : decode cX12_letter 24 = .ok (.isub, 1) := by decide +kernel
theorem dX12_letter_25 : decode cX12_letter 25 = .ok (.i2l, 1) := by decide +kernel
theorem dX12_letter_26 : decode cX12_letter 26 = .ok (.invokestatic 303, 3) := by decide +kernel
theorem dX12_letter_29 : decode cX12_letter 29 = .ok (.ifCond .eq 15, 3) := by decide +kernel
theorem dX12_letter_32 : decode cX12_letter 32 = .ok (.iload_n 3, 1) := by decide +kernel
theorem dX12_letter_33 : decode cX12_letter 33 = .ok (.i2l, 1) := by decide +kernel
theorem dX12_letter_34 : decode cX12_letter 34 = .ok (.lconst 0, 1) := by decide +kernel
theorem dX12_letter_35 : decode cX12_letter 35 = .ok (.ldc2_w 499, 3) := by decide +kernel
theorem dX12_letter_38 : decode cX12_letter 38 = .ok (.invokestatic 303, 3) := by decide +kernel
theorem dX12_letter_41 : decode cX12_letter 41 = .ok (.ifCond .ne 5, 3) := by decide +kernel
theorem dX12_letter_44 : decode cX12_letter 44 = .ok (.iconst (-1), 1) := by decide +kernel
theorem dX12_letter_45 : decode cX12_letter 45 = .ok (.ireturn, 1) := by decide +kernel
theorem dX12_letter_46 : decode cX12_letter 46 = .ok (.aload_n 0, 1) := by decide +kernel
theorem dX12_letter_47 : decode cX12_letter 47 = .ok (.getfield 108, 3) := by decide +kernel
theorem dX12_letter_50 : decode cX12_letter 50 = .ok (.bipush 24, 2) := by decide +kernel
theorem dX12_letter_52 : decode cX12_letter 52 = .ok (.bipush 8, 2) := by decide +kernel
theorem dX12_letter_54 : decode cX12_letter 54 = .ok (.iload_n 1, 1) := by decide +kernel
theorem dX12_letter_55 : decode cX12_letter 55 = .ok (.imul, 1) := by decide +kernel
theorem dX12_letter_56 : decode cX12_letter 56 = .ok (.iadd, 1) := by decide +kernel
theorem dX12_letter_57 : decode cX12_letter 57 = .ok (.iload_n 2, 1) := by decide +kernel
theorem dX12_letter_58 : decode cX12_letter 58 = .ok (.iadd, 1) := by decide +kernel
theorem dX12_letter_59 : decode cX12_letter 59 = .ok (.laload, 1) := by decide +kernel
theorem dX12_letter_60 : decode cX12_letter 60 = .ok (.lstore 4, 2) := by decide +kernel
theorem dX12_letter_62 : decode cX12_letter 62 = .ok (.iconst 0, 1) := by decide +kernel
theorem dX12_letter_63 : decode cX12_letter 63 = .ok (.istore 6, 2) := by decide +kernel
theorem dX12_letter_65 : decode cX12_letter 65 = .ok (.lload 4, 2) := by decide +kernel
theorem dX12_letter_67 : decode cX12_letter 67 = .ok (.lstore 7, 2) := by decide +kernel
theorem dX12_letter_69 : decode cX12_letter 69 = .ok (.lload 7, 2) := by decide +kernel
theorem dX12_letter_71 : decode cX12_letter 71 = .ok (.lconst 0, 1) := by decide +kernel
theorem dX12_letter_72 : decode cX12_letter 72 = .ok (.lcmp, 1) := by decide +kernel
theorem dX12_letter_73 : decode cX12_letter 73 = .ok (.ifCond .le 17, 3) := by decide +kernel
theorem dX12_letter_76 : decode cX12_letter 76 = .ok (.iinc 6 1, 3) := by decide +kernel
theorem dX12_letter_79 : decode cX12_letter 79 = .ok (.lload 7, 2) := by decide +kernel
theorem dX12_letter_81 : decode cX12_letter 81 = .ok (.ldc2_w 314, 3) := by decide +kernel
theorem dX12_letter_84 : decode cX12_letter 84 = .ok (.ldiv, 1) := by decide +kernel
theorem dX12_letter_85 : decode cX12_letter 85 = .ok (.lstore 7, 2) := by decide +kernel
theorem dX12_letter_87 : decode cX12_letter 87 = .ok (.goto (-18), 3) := by decide +kernel
theorem dX12_letter_90 : decode cX12_letter 90 = .ok (.iload_n 3, 1) := by decide +kernel
theorem dX12_letter_91 : decode cX12_letter 91 = .ok (.iload 6, 2) := by decide +kernel
theorem dX12_letter_93 : decode cX12_letter 93 = .ok (.if_icmp .lt 5, 3) := by decide +kernel
theorem dX12_letter_96 : decode cX12_letter 96 = .ok (.iconst 0, 1) := by decide +kernel
theorem dX12_letter_97 : decode cX12_letter 97 = .ok (.ireturn, 1) := by decide +kernel
theorem dX12_letter_98 : decode cX12_letter 98 = .ok (.iload 6, 2) := by decide +kernel
theorem dX12_letter_100 : decode cX12_letter 100 = .ok (.iconst 1, 1) := by decide +kernel
theorem dX12_letter_101 : decode cX12_letter 101 = .ok (.isub, 1) := by decide +kernel
theorem dX12_letter_102 : decode cX12_letter 102 = .ok (.istore 7, 2) := by decide +kernel
theorem dX12_letter_104 : decode cX12_letter 104 = .ok (.iload 7, 2) := by decide +kernel
theorem dX12_letter_106 : decode cX12_letter 106 = .ok (.iload_n 3, 1) := by decide +kernel
theorem dX12_letter_107 : decode cX12_letter 107 = .ok (.if_icmp .le 17, 3) := by decide +kernel
theorem dX12_letter_110 : decode cX12_letter 110 = .ok (.lload 4, 2) := by decide +kernel
theorem dX12_letter_112 : decode cX12_letter 112 = .ok (.ldc2_w 314, 3) := by decide +kernel
theorem dX12_letter_115 : decode cX12_letter 115 = .ok (.ldiv, 1) := by decide +kernel
theorem dX12_letter_116 : decode cX12_letter 116 = .ok (.lstore 4, 2) := by decide +kernel
theorem dX12_letter_118 : decode cX12_letter 118 = .ok (.iinc 7 (-1), 3) := by decide +kernel
theorem dX12_letter_121 : decode cX12_letter 121 = .ok (.goto (-17), 3) := by decide +kernel
theorem dX12_letter_124 : decode cX12_letter 124 = .ok (.lload 4, 2) := by decide +kernel
theorem dX12_letter_126 : decode cX12_letter 126 = .ok (.ldc2_w 314, 3) := by decide +kernel
theorem dX12_letter_129 : decode cX12_letter 129 = .ok (.lrem, 1) := by decide +kernel
theorem dX12_letter_130 : decode cX12_letter 130 = .ok (.l2i, 1) := by decide +kernel
theorem dX12_letter_131 : decode cX12_letter 131 = .ok (.ireturn, 1) := by decide +kernel
theorem dX12_oneOf_0 : decode cX12_oneOf 0 = .ok (.aload_n 0, 1) := by decide +kernel
theorem dX12_oneOf_1 : decode cX12_oneOf 1 = .ok (.invokevirtual 322, 3) := by decide +kernel
theorem dX12_oneOf_4 : decode cX12_oneOf 4 = .ok (.lstore_n 2, 1) := by decide +kernel
theorem dX12_oneOf_5 : decode cX12_oneOf 5 = .ok (.aload_n 0, 1) := by decide +kernel
theorem dX12_oneOf_6 : decode cX12_oneOf 6 = .ok (.iload_n 1, 1) := by decide +kernel
theorem dX12_oneOf_7 : decode cX12_oneOf 7 = .ok (.lload_n 2, 1) := by decide +kernel
theorem dX12_oneOf_8 : decode cX12_oneOf 8 = .ok (.invokevirtual 326, 3) := by decide +kernel
theorem dX12_oneOf_11 : decode cX12_oneOf 11 = .ok (.istore 4, 2) := by decide +kernel
theorem dX12_oneOf_13 : decode cX12_oneOf 13 = .ok (.aload_n 0, 1) := by decide +kernel
theorem dX12_oneOf_14 : decode cX12_oneOf 14 = .ok (.getfield 263, 3) := by decide +kernel
theorem dX12_oneOf_17 : decode cX12_oneOf 17 = .ok (.ifCond .ne 18, 3) := by decide +kernel
theorem dX12_oneOf_20 : decode cX12_oneOf 20 = .ok (.iload 4, 2) := by decide +kernel
theorem dX12_oneOf_22 : decode cX12_oneOf 22 = .ok (.iconst (-1), 1) := by decide +kernel
theorem dX12_oneOf_23 : decode cX12_oneOf 23 = .ok (.if_icmp .ne 12, 3) := by decide +kernel
theorem dX12_oneOf_26 : decode cX12_oneOf 26 = .ok (.aload_n 0, 1) := by decide +kernel
theorem dX12_oneOf_27 : decode cX12_oneOf 27 = .ok (.iconst 3, 1) := by decide +kernel
theorem dX12_oneOf_28 : decode cX12_oneOf 28 = .ok (.aload_n 0, 1) := by decide +kernel
theorem dX12_oneOf_29 : decode cX12_oneOf 29 = .ok (.getfield 311, 3) := by decide +kernel
theorem dX12_oneOf_32 : decode cX12_oneOf 32 = .ok (.invokevirtual 293, 3) := by decide +kernel
theorem dX12_oneOf_35 : decode cX12_oneOf 35 = .ok (.aload_n 0, 1) := by decide +kernel
theorem dX12_oneOf_36 : decode cX12_oneOf 36 = .ok (.getfield 263, 3) := by decide +kernel
theorem dX12_oneOf_39 : decode cX12_oneOf 39 = .ok (.ifCond .ne 8, 3) := by decide +kernel
theorem dX12_oneOf_42 : decode cX12_oneOf 42 = .ok (.iload 4, 2) := by decide +kernel
theorem dX12_oneOf_44 : decode cX12_oneOf 44 = .ok (.goto 4, 3) := by decide +kernel
theorem dX12_oneOf_47 : decode cX12_oneOf 47 = .ok (.iconst 0, 1) := by decide +kernel
theorem dX12_oneOf_48 : decode cX12_oneOf 48 = .ok (.ireturn, 1) := by decide +kernel
