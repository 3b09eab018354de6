theorem dX12_isNextGroups_47 : decode cX12_isNextGroups 47 = .ok (.iload_n 1, 1) := by decide +kernel
theorem dX12_isNextGroups_48 : decode cX12_isNextGroups 48 = .ok (.iaload, 1) := by decide +kernel
theorem dX12_isNextGroups_49 : decode cX12_isNextGroups 49 = .ok (.iload_n 2, 1) := by decide +kernel
theorem dX12_isNextGroups_50 : decode cX12_isNextGroups 50 = .ok (.if_icmp .gt 40, 3) := by decide +kernel
theorem dX12_isNextGroups_53 : decode cX12_isNextGroups 53 = .ok (.aload_n 0, 1) := by decide +kernel
theorem dX12_isNextGroups_54 : decode cX12_isNextGroups 54 = .ok (.getfield 148, 3) := by decide +kernel
theorem dX12_isNextGroups_57 : decode cX12_isNextGroups 57 = .ok (.iload_n 1, 1) := by decide +kernel
theorem dX12_isNextGroups_58 : decode cX12_isNextGroups 58 = .ok (.dup2, 1) := by decide +kernel
theorem dX12_isNextGroups_59 : decode cX12_isNextGroups 59 = .ok (.iaload, 1) := by decide +kernel
theorem dX12_isNextGroups_60 : decode cX12_isNextGroups 60 = .ok (.iconst 1, 1) := by decide +kernel
theorem dX12_isNextGroups_61 : decode cX12_isNextGroups 61 = .ok (.iadd, 1) := by decide +kernel
theorem dX12_isNextGroups_62 : decode cX12_isNextGroups 62 = .ok (.iastore, 1) := by decide +kernel
theorem dX12_isNextGroups_63 : decode cX12_isNextGroups 63 = .ok (.iload_n 1, 1) := by decide +kernel
theorem dX12_isNextGroups_64 : decode cX12_isNextGroups 64 = .ok (.iconst 1, 1) := by decide +kernel
theorem dX12_isNextGroups_65 : decode cX12_isNextGroups 65 = .ok (.iadd, 1) := by decide +kernel
theorem dX12_isNextGroups_66 : decode cX12_isNextGroups 66 = .ok (.istore_n 3, 1) := by decide +kernel
theorem dX12_isNextGroups_67 : decode cX12_isNextGroups 67 = .ok (.iload_n 3, 1) := by decide +kernel
theorem dX12_isNextGroups_68 : decode cX12_isNextGroups 68 = .ok (.aload_n 0, 1) := by decide +kernel
theorem dX12_isNextGroups_69 : decode cX12_isNextGroups 69 = .ok (.invokevirtual 419, 3) := by decide +kernel
theorem dX12_isNextGroups_72 : decode cX12_isNextGroups 72 = .ok (.if_icmp .ge 16, 3) := by decide +kernel
theorem dX12_isNextGroups_75 : decode cX12_isNextGroups 75 = .ok (.aload_n 0, 1) := by decide +kernel
theorem dX12_isNextGroups_76 : decode cX12_isNextGroups 76 = .ok (.getfield 148, 3) := by decide +kernel
theorem dX12_isNextGroups_79 : decode cX12_isNextGroups 79 = .ok (.iload_n 3, 1) := by decide +kernel
theorem dX12_isNextGroups_80 : decode cX12_isNextGroups 80 = .ok (.iconst 0, 1) := by decide +kernel
theorem dX12_isNextGroups_81 : decode cX12_isNextGroups 81 = .ok (.iastore, 1) := by decide +kernel
theorem dX12_isNextGroups_82 : decode cX12_isNextGroups 82 = .ok (.iinc 3 1, 3) := by decide +kernel
theorem dX12_isNextGroups_85 : decode cX12_isNextGroups 85 = .ok (.goto (-18), 3) := by decide +kernel
theorem dX12_isNextGroups_88 : decode cX12_isNextGroups 88 = .ok (.iconst 1, 1) := by decide +kernel
theorem dX12_isNextGroups_89 : decode cX12_isNextGroups 89 = .ok (.ireturn, 1) := by decide +kernel
theorem dX12_isNextGroups_90 : decode cX12_isNextGroups 90 = .ok (.iinc 1 (-1), 3) := by decide +kernel
theorem dX12_isNextGroups_93 : decode cX12_isNextGroups 93 = .ok (.goto (-86), 3) := by decide +kernel
theorem dX12_isNextGroups_96 : decode cX12_isNextGroups 96 = .ok (.iconst 0, 1) := by decide +kernel
theorem dX12_isNextGroups_97 : decode cX12_isNextGroups 97 = .ok (.ireturn, 1) := by decide +kernel
theorem dX12_drawOf_0 : decode cX12_drawOf 0 = .ok (.aload_n 0, 1) := by decide +kernel
theorem dX12_drawOf_1 : decode cX12_drawOf 1 = .ok (.ldc2_w 583, 3) := by decide +kernel
theorem dX12_drawOf_4 : decode cX12_drawOf 4 = .ok (.aload_n 0, 1) := by decide +kernel
theorem dX12_drawOf_5 : decode cX12_drawOf 5 = .ok (.getfield 175, 3) := by decide +kernel
theorem dX12_drawOf_8 : decode cX12_drawOf 8 = .ok (.lmul, 1) := by decide +kernel
theorem dX12_drawOf_9 : decode cX12_drawOf 9 = .ok (.ldc2_w 585, 3) := by decide +kernel
theorem dX12_drawOf_12 : decode cX12_drawOf 12 = .ok (.ladd, 1) := by decide +kernel
theorem dX12_drawOf_13 : decode cX12_drawOf 13 = .ok (.ldc2_w 587, 3) := by decide +kernel
theorem dX12_drawOf_16 : decode cX12_drawOf 16 = .ok (.lrem, 1) := by decide +kernel
theorem dX12_drawOf_17 : decode cX12_drawOf 17 = .ok (.putfield 175, 3) := by decide +kernel
theorem dX12_drawOf_20 : decode cX12_drawOf 20 = .ok (.aload_n 0, 1) := by decide +kernel
theorem dX12_drawOf_21 : decode cX12_drawOf 21 = .ok (.getfield 175, 3) := by decide +kernel
theorem dX12_drawOf_24 : decode cX12_drawOf 24 = .ok (.ldc2_w 589, 3) := by decide +kernel
theorem dX12_drawOf_27 : decode cX12_drawOf 27 = .ok (.ldiv, 1) := by decide +kernel
theorem dX12_drawOf_28 : decode cX12_drawOf 28 = .ok (.iload_n 1, 1) := by decide +kernel
theorem dX12_drawOf_29 : decode cX12_drawOf 29 = .ok (.i2l, 1) := by decide +kernel
theorem dX12_drawOf_30 : decode cX12_drawOf 30 = .ok (.lrem, 1) := by decide +kernel
theorem dX12_drawOf_31 : decode cX12_drawOf 31 = .ok (.l2i, 1) := by decide +kernel
theorem dX12_drawOf_32 : decode cX12_drawOf 32 = .ok (.ireturn, 1) := by decide +kernel
theorem dX12_qPartOf_0 : decode cX12_qPartOf 0 = .ok (.iload_n 1, 1) := by decide +kernel
theorem dX12_qPartOf_1 : decode cX12_qPartOf 1 = .ok (.tableswitch 128 0 8 #[51, 64, 77, 90, 96, 103, 111, 114, 121], 51) := by decide +kernel
theorem dX12_qPartOf_52 : decode cX12_qPartOf 52 = .ok (.aload_n 0, 1) := by decide +kernel
theorem dX12_qPartOf_53 : decode cX12_qPartOf 53 = .ok (.getfield 112, 3) := by decide +kernel
theorem dX12_qPartOf_56 : decode cX12_qPartOf 56 = .ok (.bipush 24, 2) := by decide +kernel
theorem dX12_qPartOf_58 : decode cX12_qPartOf 58 = .ok (.iconst 3, 1) := by decide +kernel
theorem dX12_qPartOf_59 : decode cX12_qPartOf 59 = .ok (.iload_n 2, 1) := by decide +kernel
theorem dX12_qPartOf_60 : decode cX12_qPartOf 60 = .ok (.imul, 1) := by decide +kernel
theorem dX12_qPartOf_61 : decode cX12_qPartOf 61 = .ok (.iadd, 1) := by decide +kernel
theorem dX12_qPartOf_62 : decode cX12_qPartOf 62 = .ok (.iaload, 1) := by decide +kernel
theorem dX12_qPartOf_63 : decode cX12_qPartOf 63 = .ok (.i2l, 1) := by decide +kernel
theorem dX12_qPartOf_64 : decode cX12_qPartOf 64 = .ok (.lreturn, 1) := by decide +kernel
theorem dX12_qPartOf_65 : decode cX12_qPartOf 65 = .ok (.aload_n 0, 1) := by decide +kernel
theorem dX12_qPartOf_66 : decode cX12_qPartOf 66 = .ok (.getfield 112, 3) := by decide +kernel
theorem dX12_qPartOf_69 : decode cX12_qPartOf 69 = .ok (.bipush 25, 2) := by decide +kernel
theorem dX12_qPartOf_71 : decode cX12_qPartOf 71 = .ok (.iconst 3, 1) := by decide +kernel
theorem dX12_qPartOf_72 : decode cX12_qPartOf 72 = .ok (.iload_n 2, 1) := by decide +kernel
theorem dX12_qPartOf_73 : decode cX12_qPartOf 73 = .ok (.imul, 1) := by decide +kernel
theorem dX12_qPartOf_74 : decode cX12_qPartOf 74 = .ok (.iadd, 1) := by decide +kernel
theorem dX12_qPartOf_75 : decode cX12_qPartOf 75 = .ok (.iaload, 1) := by decide +kernel
theorem dX12_qPartOf_76 : decode cX12_qPartOf 76 = .ok (.i2l, 1) := by decide +kernel
theorem dX12_qPartOf_77 : decode cX12_qPartOf 77 = .ok (.lreturn, 1) := by decide +kernel
theorem dX12_qPartOf_78 : decode cX12_qPartOf 78 = .ok (.aload_n 0, 1) := by decide +kernel
theorem dX12_qPartOf_79 : decode cX12_qPartOf 79 = .ok (.getfield 112, 3) := by decide +kernel
theorem dX12_qPartOf_82 : decode cX12_qPartOf 82 = .ok (.bipush 26, 2) := by decide +kernel
theorem dX12_qPartOf_84 : decode cX12_qPartOf 84 = .ok (.iconst 3, 1) := by decide +kernel
theorem dX12_qPartOf_85 : decode cX12_qPartOf 85 = .ok (.iload_n 2, 1) := by decide +kernel
theorem dX12_qPartOf_86 : decode cX12_qPartOf 86 = .ok (.imul, 1) := by decide +kernel
theorem dX12_qPartOf_87 : decode cX12_qPartOf 87 = .ok (.iadd, 1) := by decide +kernel
theorem dX12_qPartOf_88 : decode cX12_qPartOf 88 = .ok (.iaload, 1) := by decide +kernel
theorem dX12_qPartOf_89 : decode cX12_qPartOf 89 = .ok (.i2l, 1) := by decide +kernel
theorem dX12_qPartOf_90 : decode cX12_qPartOf 90 = .ok (.lreturn, 1) := by decide +kernel
theorem dX12_qPartOf_91 : decode cX12_qPartOf 91 = .ok (.aload_n 0, 1) := by decide +kernel
theorem dX12_qPartOf_92 : decode cX12_qPartOf 92 = .ok (.getfield 428, 3) := by decide +kernel
theorem dX12_qPartOf_95 : decode cX12_qPartOf 95 = .ok (.i2l, 1) := by decide +kernel
theorem dX12_qPartOf_96 : decode cX12_qPartOf 96 = .ok (.lreturn, 1) := by decide +kernel
theorem dX12_qPartOf_97 : decode cX12_qPartOf 97 = .ok (.aload_n 0, 1) := by decide +kernel
theorem dX12_qPartOf_98 : decode cX12_qPartOf 98 = .ok (.iload_n 2, 1) := by decide +kernel
theorem dX12_qPartOf_99 : decode cX12_qPartOf 99 = .ok (.invokevirtual 510, 3) := by decide +kernel
theorem dX12_qPartOf_102 : decode cX12_qPartOf 102 = .ok (.i2l, 1) := by decide +kernel
theorem dX12_qPartOf_103 : decode cX12_qPartOf 103 = .ok (.lreturn, 1) := by decide +kernel
theorem dX12_qPartOf_104 : decode cX12_qPartOf 104 = .ok (.aload_n 0, 1) := by decide +kernel
theorem dX12_qPartOf_105 : decode cX12_qPartOf 105 = .ok (.getfield 142, 3) := by decide +kernel
theorem dX12_qPartOf_108 : decode cX12_qPartOf 108 = .ok (.iconst 0, 1) := by decide +kernel
theorem dX12_qPartOf_109 : decode cX12_qPartOf 109 = .ok (.iaload, 1) := by decide +kernel
theorem dX12_qPartOf_110 : decode cX12_qPartOf 110 = .ok (.i2l, 1) := by decide +kernel
theorem dX12_qPartOf_111 : decode cX12_qPartOf 111 = .ok (.lreturn, 1) := by decide +kernel
theorem dX12_qPartOf_112 : decode cX12_qPartOf 112 = .ok (.iload_n 2, 1) := by decide +kernel
theorem dX12_qPartOf_113 : decode cX12_qPartOf 113 = .ok (.i2l, 1) := by decide +kernel
theorem dX12_qPartOf_114 : decode cX12_qPartOf 114 = .ok (.lreturn, 1) := by decide +kernel
theorem dX12_qPartOf_115 : decode cX12_qPartOf 115 = .ok (.aload_n 0, 1) := by decide +kernel
theorem dX12_qPartOf_116 : decode cX12_qPartOf 116 = .ok (.iload_n 2, 1) := by decide +kernel
theorem dX12_qPartOf_117 : decode cX12_qPartOf 117 = .ok (.invokevirtual 504, 3) := by decide +kernel
theorem dX12_qPartOf_120 : decode cX12_qPartOf 120 = .ok (.i2l, 1) := by decide +kernel
theorem dX12_qPartOf_121 : decode cX12_qPartOf 121 = .ok (.lreturn, 1) := by decide +kernel
theorem dX12_qPartOf_122 : decode cX12_qPartOf 122 = .ok (.aload_n 0, 1) := by decide +kernel
theorem dX12_qPartOf_123 : decode cX12_qPartOf 123 = .ok (.iload_n 2, 1) := by decide +kernel
theorem dX12_qPartOf_124 : decode cX12_qPartOf 124 = .ok (.invokevirtual 451, 3) := by decide +kernel
theorem dX12_qPartOf_127 : decode cX12_qPartOf 127 = .ok (.i2l, 1) := by decide +kernel
theorem dX12_qPartOf_128 : decode cX12_qPartOf 128 = .ok (.lreturn, 1) := by decide +kernel
theorem dX12_qPartOf_129 : decode cX12_qPartOf 129 = .ok (.aload_n 0, 1) := by decide +kernel
theorem dX12_qPartOf_130 : decode cX12_qPartOf 130 = .ok (.iload_n 2, 1) := by decide +kernel
theorem dX12_qPartOf_131 : decode cX12_qPartOf 131 = .ok (.invokevirtual 507, 3) := by decide +kernel
theorem dX12_qPartOf_134 : decode cX12_qPartOf 134 = .ok (.i2l, 1) := by decide +kernel
theorem dX12_qPartOf_135 : decode cX12_qPartOf 135 = .ok (.lreturn, 1) := by decide +kernel
theorem dX12_evenings_0 : decode cX12_evenings 0 = .ok (.aload_n 0, 1) := by decide +kernel
theorem dX12_evenings_1 : decode cX12_evenings 1 = .ok (.iload_n 1, 1) := by decide +kernel
theorem dX12_evenings_2 : decode cX12_evenings 2 = .ok (.iconst 1, 1) := by decide +kernel
theorem dX12_evenings_3 : decode cX12_evenings 3 = .ok (.bipush 50, 2) := by decide +kernel
theorem dX12_evenings_5 : decode cX12_evenings 5 = .ok (.invokevirtual 524, 3) := by decide +kernel
theorem dX12_evenings_8 : decode cX12_evenings 8 = .ok (.ifCond .ne 9, 3) := by decide +kernel
theorem dX12_evenings_11 : decode cX12_evenings 11 = .ok (.aload_n 0, 1) := by decide +kernel
theorem dX12_evenings_12 : decode cX12_evenings 12 = .ok (.iconst 3, 1) := by decide +kernel
theorem dX12_evenings_13 : decode cX12_evenings 13 = .ok (.invokevirtual 560, 3) := by decide +kernel
theorem dX12_evenings_16 : decode cX12_evenings 16 = .ok (.ireturn, 1) := by decide +kernel
theorem dX12_evenings_17 : decode cX12_evenings 17 = .ok (.aload_n 0, 1) := by decide +kernel
theorem dX12_evenings_18 : decode cX12_evenings 18 = .ok (.invokevirtual 575, 3) := by decide +kernel
theorem dX12_evenings_21 : decode cX12_evenings 21 = .ok (.iconst 0, 1) := by decide +kernel
theorem dX12_evenings_22 : decode cX12_evenings 22 = .ok (.istore_n 2, 1) := by decide +kernel
theorem dX12_evenings_23 : decode cX12_evenings 23 = .ok (.iconst 0, 1) := by decide +kernel
theorem dX12_evenings_24 : decode cX12_evenings 24 = .ok (.istore_n 3, 1) := by decide +kernel
theorem dX12_evenings_25 : decode cX12_evenings 25 = .ok (.iload_n 3, 1) := by decide +kernel
theorem dX12_evenings_26 : decode cX12_evenings 26 = .ok (.iload_n 1, 1) := by decide +kernel
theorem dX12_evenings_27 : decode cX12_evenings 27 = .ok (.if_icmp .ge 16, 3) := by decide +kernel
theorem dX12_evenings_30 : decode cX12_evenings 30 = .ok (.iload_n 2, 1) := by decide +kernel
theorem dX12_evenings_31 : decode cX12_evenings 31 = .ok (.aload_n 0, 1) := by decide +kernel
theorem dX12_evenings_32 : decode cX12_evenings 32 = .ok (.invokevirtual 530, 3) := by decide +kernel
theorem dX12_evenings_35 : decode cX12_evenings 35 = .ok (.iadd, 1) := by decide +kernel
theorem dX12_evenings_36 : decode cX12_evenings 36 = .ok (.istore_n 2, 1) := by decide +kernel
theorem dX12_evenings_37 : decode cX12_evenings 37 = .ok (.iinc 3 1, 3) := by decide +kernel
theorem dX12_evenings_40 : decode cX12_evenings 40 = .ok (.goto (-15), 3) := by decide +kernel
theorem dX12_evenings_43 : decode cX12_evenings 43 = .ok (.iload_n 2, 1) := by decide +kernel
theorem dX12_evenings_44 : decode cX12_evenings 44 = .ok (.ireturn, 1) := by decide +kernel
theorem dX12_qOf_0 : decode cX12_qOf 0 = .ok (.iload_n 1, 1) := by decide +kernel
theorem dX12_qOf_1 : decode cX12_qOf 1 = .ok (.lookupswitch 11 #[], 11) := by decide +kernel
theorem dX12_qOf_12 : decode cX12_qOf 12 = .ok (.lload_n 2, 1) := by decide +kernel
theorem dX12_qOf_13 : decode cX12_qOf 13 = .ok (.lconst 0, 1) := by decide +kernel
theorem dX12_qOf_14 : decode cX12_qOf 14 = .ok (.aload_n 0, 1) := by decide +kernel
theorem dX12_qOf_15 : decode cX12_qOf 15 = .ok (.invokevirtual 410, 3) := by decide +kernel
theorem dX12_qOf_18 : decode cX12_qOf 18 = .ok (.iconst 1, 1) := by decide +kernel
theorem dX12_qOf_19 : decode cX12_qOf 19 = .ok (.isub, 1) := by decide +kernel
theorem dX12_qOf_20 : decode cX12_qOf 20 = .ok (.i2l, 1) := by decide +kernel
theorem dX12_qOf_21 : decode cX12_qOf 21 = .ok (.invokestatic 303, 3) := by decide +kernel
theorem dX12_qOf_24 : decode cX12_qOf 24 = .ok (.ifCond .eq 15, 3) := by decide +kernel
theorem dX12_qOf_27 : decode cX12_qOf 27 = .ok (.aload_n 0, 1) := by decide +kernel
theorem dX12_qOf_28 : decode cX12_qOf 28 = .ok (.iload 4, 2) := by decide +kernel
theorem dX12_qOf_30 : decode cX12_qOf 30 = .ok (.lload_n 2, 1) := by decide +kernel
theorem dX12_qOf_31 : decode cX12_qOf 31 = .ok (.l2i, 1) := by decide +kernel
theorem dX12_qOf_32 : decode cX12_qOf 32 = .ok (.invokevirtual 425, 3) := by decide +kernel
theorem dX12_qOf_35 : decode cX12_qOf 35 = .ok (.i2l, 1) := by decide +kernel
theorem dX12_qOf_36 : decode cX12_qOf 36 = .ok (.goto 4, 3) := by decide +kernel
theorem dX12_qOf_39 : decode cX12_qOf 39 = .ok (.lconst 0, 1) := by decide +kernel
theorem dX12_qOf_40 : decode cX12_qOf 40 = .ok (.lreturn, 1) := by decide +kernel
theorem dX12_isOwnHere_0 : decode cX12_isOwnHere 0 = .ok (.aload_n 0, 1) := by decide +kernel
theorem dX12_isOwnHere_1 : decode cX12_isOwnHere 1 = .ok (.aload_n 0, 1) := by decide +kernel
theorem dX12_isOwnHere_2 : decode cX12_isOwnHere 2 = .ok (.getfield 20, 3) := by decide +kernel
theorem dX12_isOwnHere_5 : decode cX12_isOwnHere 5 = .ok (.invokevirtual 286, 3) := by decide +kernel
theorem dX12_isOwnHere_8 : decode cX12_isOwnHere 8 = .ok (.ifCond .ne 58, 3) := by decide +kernel
theorem dX12_isOwnHere_11 : decode cX12_isOwnHere 11 = .ok (.aload_n 0, 1) := by decide +kernel
theorem dX12_isOwnHere_12 : decode cX12_isOwnHere 12 = .ok (.aload_n 0, 1) := by decide +kernel
theorem dX12_isOwnHere_13 : decode cX12_isOwnHere 13 = .ok (.getfield 24, 3) := by decide +kernel
theorem dX12_isOwnHere_16 : decode cX12_isOwnHere 16 = .ok (.invokevirtual 286, 3) := by decide +kernel
theorem dX12_isOwnHere_19 : decode cX12_isOwnHere 19 = .ok (.ifCond .ne 47, 3) := by decide +kernel
theorem dX12_isOwnHere_22 : decode cX12_isOwnHere 22 = .ok (.aload_n 0, 1) := by decide +kernel
theorem dX12_isOwnHere_23 : decode cX12_isOwnHere 23 = .ok (.aload_n 0, 1) := by decide +kernel
theorem dX12_isOwnHere_24 : decode cX12_isOwnHere 24 = .ok (.getfield 27, 3) := by decide +kernel
theorem dX12_isOwnHere_27 : decode cX12_isOwnHere 27 = .ok (.invokevirtual 286, 3) := by decide +kernel
theorem dX12_isOwnHere_30 : decode cX12_isOwnHere 30 = .ok (.ifCond .ne 36, 3) := by decide +kernel
theorem dX12_isOwnHere_33 : decode cX12_isOwnHere 33 = .ok (.aload_n 0, 1) := by decide +kernel
theorem dX12_isOwnHere_34 : decode cX12_isOwnHere 34 = .ok (.aload_n 0, 1) := by decide +kernel
theorem dX12_isOwnHere_35 : decode cX12_isOwnHere 35 = .ok (.getfield 30, 3) := by decide +kernel
theorem dX12_isOwnHere_38 : decode cX12_isOwnHere 38 = .ok (.invokevirtual 286, 3) := by decide +kernel
theorem dX12_isOwnHere_41 : decode cX12_isOwnHere 41 = .ok (.ifCond .ne 25, 3) := by decide +kernel
theorem dX12_isOwnHere_44 : decode cX12_isOwnHere 44 = .ok (.aload_n 0, 1) := by decide +kernel
theorem dX12_isOwnHere_45 : decode cX12_isOwnHere 45 = .ok (.aload_n 0, 1) := by decide +kernel
theorem dX12_isOwnHere_46 : decode cX12_isOwnHere 46 = .ok (.getfield 33, 3) := by decide +kernel
theorem dX12_isOwnHere_49 : decode cX12_isOwnHere 49 = .ok (.invokevirtual 286, 3) := by decide +kernel
theorem dX12_isOwnHere_52 : decode cX12_isOwnHere 52 = .ok (.ifCond .ne 14, 3) := by decide +kernel
theorem dX12_isOwnHere_55 : decode cX12_isOwnHere 55 = .ok (.aload_n 0, 1) := by decide +kernel
theorem dX12_isOwnHere_56 : decode cX12_isOwnHere 56 = .ok (.aload_n 0, 1) := by decide +kernel
theorem dX12_isOwnHere_57 : decode cX12_isOwnHere 57 = .ok (.getfield 36, 3) := by decide +kernel
theorem dX12_isOwnHere_60 : decode cX12_isOwnHere 60 = .ok (.invokevirtual 286, 3) := by decide +kernel
theorem dX12_isOwnHere_63 : decode cX12_isOwnHere 63 = .ok (.ifCond .eq 7, 3) := by decide +kernel
theorem dX12_isOwnHere_66 : decode cX12_isOwnHere 66 = .ok (.iconst 1, 1) := by decide +kernel
theorem dX12_isOwnHere_67 : decode cX12_isOwnHere 67 = .ok (.goto 4, 3) := by decide +kernel
theorem dX12_isOwnHere_70 : decode cX12_isOwnHere 70 = .ok (.iconst 0, 1) := by decide +kernel
theorem dX12_isOwnHere_71 : decode cX12_isOwnHere 71 = .ok (.istore_n 1, 1) := by decide +kernel
theorem dX12_isOwnHere_72 : decode cX12_isOwnHere 72 = .ok (.iload_n 1, 1) := by decide +kernel
theorem dX12_isOwnHere_73 : decode cX12_isOwnHere 73 = .ok (.ifCond .ne 69, 3) := by decide +kernel
theorem dX12_isOwnHere_76 : decode cX12_isOwnHere 76 = .ok (.aload_n 0, 1) := by decide +kernel
theorem dX12_isOwnHere_77 : decode cX12_isOwnHere 77 = .ok (.aload_n 0, 1) := by decide +kernel
theorem dX12_isOwnHere_78 : decode cX12_isOwnHere 78 = .ok (.getfield 39, 3) := by decide +kernel
theorem dX12_isOwnHere_81 : decode cX12_isOwnHere 81 = .ok (.invokevirtual 286, 3) := by decide +kernel
theorem dX12_isOwnHere_84 : decode cX12_isOwnHere 84 = .ok (.ifCond .ne 58, 3) := by decide +kernel
theorem dX12_isOwnHere_87 : decode cX12_isOwnHere 87 = .ok (.aload_n 0, 1) := by decide +kernel
theorem dX12_isOwnHere_88 : decode cX12_isOwnHere 88 = .ok (.aload_n 0, 1) := by decide +kernel
theorem dX12_isOwnHere_89 : decode cX12_isOwnHere 89 = .ok (.getfield 42, 3) := by decide +kernel
theorem dX12_isOwnHere_92 : decode cX12_isOwnHere 92 = .ok (.invokevirtual 286, 3) := by decide +kernel
theorem dX12_isOwnHere_95 : decode cX12_isOwnHere 95 = .ok (.ifCond .ne 47, 3) := by decide +kernel
theorem dX12_isOwnHere_98 : decode cX12_isOwnHere 98 = .ok (.aload_n 0, 1) := by decide +kernel
theorem dX12_isOwnHere_99 : decode cX12_isOwnHere 99 = .ok (.aload_n 0, 1) := by decide +kernel
theorem dX12_isOwnHere_100 : decode cX12_isOwnHere 100 = .ok (.getfield 45, 3) := by decide +kernel
theorem dX12_isOwnHere_103 : decode cX12_isOwnHere 103 = .ok (.invokevirtual 286, 3) := by decide +kernel
theorem dX12_isOwnHere_106 : decode cX12_isOwnHere 106 = .ok (.ifCond .ne 36, 3) := by decide +kernel
theorem dX12_isOwnHere_109 : decode cX12_isOwnHere 109 = .ok (.aload_n 0, 1) := by decide +kernel
theorem dX12_isOwnHere_110 : decode cX12_isOwnHere 110 = .ok (.aload_n 0, 1) := by decide +kernel
theorem dX12_isOwnHere_111 : decode cX12_isOwnHere 111 = .ok (.getfield 48, 3) := by decide +kernel
theorem dX12_isOwnHere_114 : decode cX12_isOwnHere 114 = .ok (.invokevirtual 286, 3) := by decide +kernel
theorem dX12_isOwnHere_117 : decode cX12_isOwnHere 117 = .ok (.ifCond .ne 25, 3) := by decide +kernel
theorem dX12_isOwnHere_120 : decode cX12_isOwnHere 120 = .ok (.aload_n 0, 1) := by decide +kernel
theorem dX12_isOwnHere_121 : decode cX12_isOwnHere 121 = .ok (.aload_n 0, 1) := by decide +kernel
theorem dX12_isOwnHere_122 : decode cX12_isOwnHere 122 = .ok (.getfield 51, 3) := by decide +kernel
theorem dX12_isOwnHere_125 : decode cX12_isOwnHere 125 = .ok (.invokevirtual 286, 3) := by decide +kernel
theorem dX12_isOwnHere_128 : decode cX12_isOwnHere 128 = .ok (.ifCond .ne 14, 3) := by decide +kernel
theorem dX12_isOwnHere_131 : decode cX12_isOwnHere 131 = .ok (.aload_n 0, 1) := by decide +kernel
theorem dX12_isOwnHere_132 : decode cX12_isOwnHere 132 = .ok (.aload_n 0, 1) := by decide +kernel
theorem dX12_isOwnHere_133 : decode cX12_isOwnHere 133 = .ok (.getfield 54, 3) := by decide +kernel
theorem dX12_isOwnHere_136 : decode cX12_isOwnHere 136 = .ok (.invokevirtual 286, 3) := by decide +kernel
theorem dX12_isOwnHere_139 : decode cX12_isOwnHere 139 = .ok (.ifCond .eq 7, 3) := by decide +kernel
theorem dX12_isOwnHere_142 : decode cX12_isOwnHere 142 = .ok (.iconst 1, 1) := by decide +kernel
theorem dX12_isOwnHere_143 : decode cX12_isOwnHere 143 = .ok (.goto 4, 3) := by decide +kernel
theorem dX12_isOwnHere_146 : decode cX12_isOwnHere 146 = .ok (.iconst 0, 1) := by decide +kernel
theorem dX12_isOwnHere_147 : decode cX12_isOwnHere 147 = .ok (.istore_n 1, 1) := by decide +kernel
theorem dX12_isOwnHere_148 : decode cX12_isOwnHere 148 = .ok (.iload_n 1, 1) := by decide +kernel
theorem dX12_isOwnHere_149 : decode cX12_isOwnHere 149 = .ok (.ifCond .ne 69, 3) := by decide +kernel
theorem dX12_isOwnHere_152 : decode cX12_isOwnHere 152 = .ok (.aload_n 0, 1) := by decide +kernel
theorem dX12_isOwnHere_153 : decode cX12_isOwnHere 153 = .ok (.aload_n 0, 1) := by decide +kernel
theorem dX12_isOwnHere_154 : decode cX12_isOwnHere 154 = .ok (.getfield 57, 3) := by decide +kernel
theorem dX12_isOwnHere_157 : decode cX12_isOwnHere 157 = .ok (.invokevirtual 286, 3) := by decide +kernel
theorem dX12_isOwnHere_160 : decode cX12_isOwnHere 160 = .ok (.ifCond .ne 58, 3) := by decide +kernel
theorem dX12_isOwnHere_163 : decode cX12_isOwnHere 163 = .ok (.aload_n 0, 1) := by decide +kernel
theorem dX12_isOwnHere_164 : decode cX12_isOwnHere 164 = .ok (.aload_n 0, 1) := by decide +kernel
theorem dX12_isOwnHere_165 : decode cX12_isOwnHere 165 = .ok (.getfield 60, 3) := by decide +kernel
theorem dX12_isOwnHere_168 : decode cX12_isOwnHere 168 = .ok (.invokevirtual 286, 3) := by decide +kernel
theorem dX12_isOwnHere_171 : decode cX12_isOwnHere 171 = .ok (.ifCond .ne 47, 3) := by decide +kernel
theorem dX12_isOwnHere_174 : decode cX12_isOwnHere 174 = .ok (.aload_n 0, 1) := by decide +kernel
theorem dX12_isOwnHere_175 : decode cX12_isOwnHere 175 = .ok (.aload_n 0, 1) := by decide +kernel
theorem dX12_isOwnHere_176 : decode cX12_isOwnHere 176 = .ok (.getfield 63, 3) := by decide +kernel
theorem dX12_isOwnHere_179 : decode cX12_isOwnHere 179 = .ok (.invokevirtual 286, 3) := by decide +kernel
theorem dX12_isOwnHere_182 : decode cX12_isOwnHere 182 = .ok (.ifCond .ne 36, 3) := by decide +kernel
theorem dX12_isOwnHere_185 : decode cX12_isOwnHere 185 = .ok (.aload_n 0, 1) := by decide +kernel
theorem dX12_isOwnHere_186 : decode cX12_isOwnHere 186 = .ok (.aload_n 0, 1) := by decide +kernel
theorem dX12_isOwnHere_187 : decode cX12_isOwnHere 187 = .ok (.getfield 66, 3) := by decide +kernel
theorem dX12_isOwnHere_190 : decode cX12_isOwnHere 190 = .ok (.invokevirtual 286, 3) := by decide +kernel
theorem dX12_isOwnHere_193 : decode cX12_isOwnHere 193 = .ok (.ifCond .ne 25, 3) := by decide +kernel
theorem dX12_isOwnHere_196 : decode cX12_isOwnHere 196 = .ok (.aload_n 0, 1) := by decide +kernel
theorem dX12_isOwnHere_197 : decode cX12_isOwnHere 197 = .ok (.aload_n 0, 1) := by decide +kernel
theorem dX12_isOwnHere_198 : decode cX12_isOwnHere 198 = .ok (.getfield 69, 3) := by decide +kernel
theorem dX12_isOwnHere_201 : decode cX12_isOwnHere 201 = .ok (.invokevirtual 286, 3) := by decide +kernel
theorem dX12_isOwnHere_204 : decode cX12_isOwnHere 204 = .ok (.ifCond .ne 14, 3) := by decide +kernel
theorem dX12_isOwnHere_207 : decode cX12_isOwnHere 207 = .ok (.aload_n 0, 1) := by decide +kernel
theorem dX12_isOwnHere_208 : decode cX12_isOwnHere 208 = .ok (.aload_n 0, 1) := by decide +kernel
theorem dX12_isOwnHere_209 : decode cX12_isOwnHere 209 = .ok (.getfield 72, 3) := by decide +kernel
theorem dX12_isOwnHere_212 : decode cX12_isOwnHere 212 = .ok (.invokevirtual 286, 3) := by decide +kernel
theorem dX12_isOwnHere_215 : decode cX12_isOwnHere 215 = .ok (.ifCond .eq 7, 3) := by decide +kernel
theorem dX12_isOwnHere_218 : decode cX12_isOwnHere 218 = .ok (.iconst 1, 1) := by decide +kernel
theorem dX12_isOwnHere_219 : decode cX12_isOwnHere 219 = .ok (.goto 4, 3) := by decide +kernel
theorem dX12_isOwnHere_222 : decode cX12_isOwnHere 222 = .ok (.iconst 0, 1) := by decide +kernel
theorem dX12_isOwnHere_223 : decode cX12_isOwnHere 223 = .ok (.istore_n 1, 1) := by decide +kernel
theorem dX12_isOwnHere_224 : decode cX12_isOwnHere 224 = .ok (.iload_n 1, 1) := by decide +kernel
theorem dX12_isOwnHere_225 : decode cX12_isOwnHere 225 = .ok (.ifCond .ne 69, 3) := by decide +kernel
theorem dX12_isOwnHere_228 : decode cX12_isOwnHere 228 = .ok (.aload_n 0, 1) := by decide +kernel
theorem dX12_isOwnHere_229 : decode cX12_isOwnHere 229 = .ok (.aload_n 0, 1) := by decide +kernel
theorem dX12_isOwnHere_230 : decode cX12_isOwnHere 230 = .ok (.getfield 75, 3) := by decide +kernel
theorem dX12_isOwnHere_233 : decode cX12_isOwnHere 233 = .ok (.invokevirtual 286, 3) := by decide +kernel
theorem dX12_isOwnHere_236 : decode cX12_isOwnHere 236 = .ok (.ifCond .ne 58, 3) := by decide +kernel
theorem dX12_isOwnHere_239 : decode cX12_isOwnHere 239 = .ok (.aload_n 0, 1) := by decide +kernel
theorem dX12_isOwnHere_240 : decode cX12_isOwnHere 240 = .ok (.aload_n 0, 1) := by decide +kernel
theorem dX12_isOwnHere_241 : decode cX12_isOwnHere 241 = .ok (.getfield 78, 3) := by decide +kernel
theorem dX12_isOwnHere_244 : decode cX12_isOwnHere 244 = .ok (.invokevirtual 286, 3) := by decide +kernel
theorem dX12_isOwnHere_247 : decode cX12_isOwnHere 247 = .ok (.ifCond .ne 47, 3) := by decide +kernel
theorem dX12_isOwnHere_250 : decode cX12_isOwnHere 250 = .ok (.aload_n 0, 1) := by decide +kernel
theorem dX12_isOwnHere_251 : decode cX12_isOwnHere 251 = .ok (.aload_n 0, 1) := by decide +kernel
theorem dX12_isOwnHere_252 : decode cX12_isOwnHere 252 = .ok (.getfield 81, 3) := by decide +kernel
theorem dX12_isOwnHere_255 : decode cX12_isOwnHere 255 = .ok (.invokevirtual 286, 3) := by decide +kernel
theorem dX12_isOwnHere_258 : decode cX12_isOwnHere 258 = .ok (.ifCond .ne 36, 3) := by decide +kernel
theorem dX12_isOwnHere_261 : decode cX12_isOwnHere 261 = .ok (.aload_n 0, 1) := by decide +kernel
theorem dX12_isOwnHere_262 : decode cX12_isOwnHere 262 = .ok (.aload_n 0, 1) := by decide +kernel
theorem dX12_isOwnHere_263 : decode cX12_isOwnHere 263 = .ok (.getfield 84, 3) := by decide +kernel
theorem dX12_isOwnHere_266 : decode cX12_isOwnHere 266 = .ok (.invokevirtual 286, 3) := by decide +kernel
theorem dX12_isOwnHere_269 : decode cX12_isOwnHere 269 = .ok (.ifCond .ne 25, 3) := by decide +kernel
theorem dX12_isOwnHere_272 : decode cX12_isOwnHere 272 = .ok (.aload_n 0, 1) := by decide +kernel
theorem dX12_isOwnHere_273 : decode cX12_isOwnHere 273 = .ok (.aload_n 0, 1) := by decide +kernel
theorem dX12_isOwnHere_274 : decode cX12_isOwnHere 274 = .ok (.getfield 87, 3) := by decide +kernel
theorem dX12_isOwnHere_277 : decode cX12_isOwnHere 277 = .ok (.invokevirtual 286, 3) := by decide +kernel
theorem dX12_isOwnHere_280 : decode cX12_isOwnHere 280 = .ok (.ifCond .ne 14, 3) := by decide +kernel
theorem dX12_isOwnHere_283 : decode cX12_isOwnHere 283 = .ok (.aload_n 0, 1) := by decide +kernel
theorem dX12_isOwnHere_284 : decode cX12_isOwnHere 284 = .ok (.aload_n 0, 1) := by decide +kernel
theorem dX12_isOwnHere_285 : decode cX12_isOwnHere 285 = .ok (.getfield 90, 3) := by decide +kernel
theorem dX12_isOwnHere_288 : decode cX12_isOwnHere 288 = .ok (.invokevirtual 286, 3) := by decide +kernel
theorem dX12_isOwnHere_291 : decode cX12_isOwnHere 291 = .ok (.ifCond .eq 7, 3) := by decide +kernel
theorem dX12_isOwnHere_294 : decode cX12_isOwnHere 294 = .ok (.iconst 1, 1) := by decide +kernel
theorem dX12_isOwnHere_295 : decode cX12_isOwnHere 295 = .ok (.goto 4, 3) := by decide +kernel
theorem dX12_isOwnHere_298 : decode cX12_isOwnHere 298 = .ok (.iconst 0, 1) := by decide +kernel
theorem dX12_isOwnHere_299 : decode cX12_isOwnHere 299 = .ok (.istore_n 1, 1) := by decide +kernel
theorem dX12_isOwnHere_300 : decode cX12_isOwnHere 300 = .ok (.iload_n 1, 1) := by decide +kernel
theorem dX12_isOwnHere_301 : decode cX12_isOwnHere 301 = .ok (.ifCond .ne 47, 3) := by decide +kernel
theorem dX12_isOwnHere_304 : decode cX12_isOwnHere 304 = .ok (.aload_n 0, 1) := by decide +kernel
theorem dX12_isOwnHere_305 : decode cX12_isOwnHere 305 = .ok (.aload_n 0, 1) := by decide +kernel
theorem dX12_isOwnHere_306 : decode cX12_isOwnHere 306 = .ok (.getfield 93, 3) := by decide +kernel
theorem dX12_isOwnHere_309 : decode cX12_isOwnHere 309 = .ok (.invokevirtual 286, 3) := by decide +kernel
theorem dX12_isOwnHere_312 : decode cX12_isOwnHere 312 = .ok (.ifCond .ne 36, 3) := by decide +kernel
theorem dX12_isOwnHere_315 : decode cX12_isOwnHere 315 = .ok (.aload_n 0, 1) := by decide +kernel
theorem dX12_isOwnHere_316 : decode cX12_isOwnHere 316 = .ok (.aload_n 0, 1) := by decide +kernel
theorem dX12_isOwnHere_317 : decode cX12_isOwnHere 317 = .ok (.getfield 96, 3) := by decide +kernel
theorem dX12_isOwnHere_320 : decode cX12_isOwnHere 320 = .ok (.invokevirtual 286, 3) := by decide +kernel
theorem dX12_isOwnHere_323 : decode cX12_isOwnHere 323 = .ok (.ifCond .ne 25, 3) := by decide +kernel
theorem dX12_isOwnHere_326 : decode cX12_isOwnHere 326 = .ok (.aload_n 0, 1) := by decide +kernel
theorem dX12_isOwnHere_327 : decode cX12_isOwnHere 327 = .ok (.aload_n 0, 1) := by decide +kernel
theorem dX12_isOwnHere_328 : decode cX12_isOwnHere 328 = .ok (.getfield 99, 3) := by decide +kernel
theorem dX12_isOwnHere_331 : decode cX12_isOwnHere 331 = .ok (.invokevirtual 286, 3) := by decide +kernel
theorem dX12_isOwnHere_334 : decode cX12_isOwnHere 334 = .ok (.ifCond .ne 14, 3) := by decide +kernel
theorem dX12_isOwnHere_337 : decode cX12_isOwnHere 337 = .ok (.aload_n 0, 1) := by decide +kernel
theorem dX12_isOwnHere_338 : decode cX12_isOwnHere 338 = .ok (.aload_n 0, 1) := by decide +kernel
theorem dX12_isOwnHere_339 : decode cX12_isOwnHere 339 = .ok (.getfield 102, 3) := by decide +kernel
theorem dX12_isOwnHere_342 : decode cX12_isOwnHere 342 = .ok (.invokevirtual 286, 3) := by decide +kernel
theorem dX12_isOwnHere_345 : decode cX12_isOwnHere 345 = .ok (.ifCond .eq 7, 3) := by decide +kernel
theorem dX12_isOwnHere_348 : decode cX12_isOwnHere 348 = .ok (.iconst 1, 1) := by decide +kernel
theorem dX12_isOwnHere_349 : decode cX12_isOwnHere 349 = .ok (.goto 4, 3) := by decide +kernel
theorem dX12_isOwnHere_352 : decode cX12_isOwnHere 352 = .ok (.iconst 0, 1) := by decide +kernel
theorem dX12_isOwnHere_353 : decode cX12_isOwnHere 353 = .ok (.istore_n 1, 1) := by decide +kernel
theorem dX12_isOwnHere_354 : decode cX12_isOwnHere 354 = .ok (.iload_n 1, 1) := by decide +kernel
theorem dX12_isOwnHere_355 : decode cX12_isOwnHere 355 = .ok (.ireturn, 1) := by decide +kernel
theorem dX12_codesTell_0 : decode cX12_codesTell 0 = .ok (.aload_n 0, 1) := by decide +kernel
theorem dX12_codesTell_1 : decode cX12_codesTell 1 = .ok (.aload_n 0, 1) := by decide +kernel
theorem dX12_codesTell_2 : decode cX12_codesTell 2 = .ok (.getfield 127, 3) := by decide +kernel
theorem dX12_codesTell_5 : decode cX12_codesTell 5 = .ok (.bipush 10, 2) := by decide +kernel
theorem dX12_codesTell_7 : decode cX12_codesTell 7 = .ok (.iconst 3, 1) := by decide +kernel
theorem dX12_codesTell_8 : decode cX12_codesTell 8 = .ok (.iload_n 3, 1) := by decide +kernel
theorem dX12_codesTell_9 : decode cX12_codesTell 9 = .ok (.imul, 1) := by decide +kernel
theorem dX12_codesTell_10 : decode cX12_codesTell 10 = .ok (.iadd, 1) := by decide +kernel
theorem dX12_codesTell_11 : decode cX12_codesTell 11 = .ok (.iaload, 1) := by decide +kernel
theorem dX12_codesTell_12 : decode cX12_codesTell 12 = .ok (.putfield 428, 3) := by decide +kernel
theorem dX12_codesTell_15 : decode cX12_codesTell 15 = .ok (.aload_n 0, 1) := by decide +kernel
theorem dX12_codesTell_16 : decode cX12_codesTell 16 = .ok (.iconst 1, 1) := by decide +kernel
theorem dX12_codesTell_17 : decode cX12_codesTell 17 = .ok (.putfield 318, 3) := by decide +kernel
theorem dX12_codesTell_20 : decode cX12_codesTell 20 = .ok (.aload_n 0, 1) := by decide +kernel
theorem dX12_codesTell_21 : decode cX12_codesTell 21 = .ok (.iconst 0, 1) := by decide +kernel
theorem dX12_codesTell_22 : decode cX12_codesTell 22 = .ok (.putfield 431, 3) := by decide +kernel
theorem dX12_codesTell_25 : decode cX12_codesTell 25 = .ok (.aload_n 0, 1) := by decide +kernel
theorem dX12_codesTell_26 : decode cX12_codesTell 26 = .ok (.getfield 133, 3) := by decide +kernel
theorem dX12_codesTell_29 : decode cX12_codesTell 29 = .ok (.iconst 2, 1) := by decide +kernel
theorem dX12_codesTell_30 : decode cX12_codesTell 30 = .ok (.iload_n 1, 1) := by decide +kernel
theorem dX12_codesTell_31 : decode cX12_codesTell 31 = .ok (.iadd, 1) := by decide +kernel
theorem dX12_codesTell_32 : decode cX12_codesTell 32 = .ok (.iaload, 1) := by decide +kernel
theorem dX12_codesTell_33 : decode cX12_codesTell 33 = .ok (.istore 4, 2) := by decide +kernel
theorem dX12_codesTell_35 : decode cX12_codesTell 35 = .ok (.iload 4, 2) := by decide +kernel
theorem dX12_codesTell_37 : decode cX12_codesTell 37 = .ok (.aload_n 0, 1) := by decide +kernel
theorem dX12_codesTell_38 : decode cX12_codesTell 38 = .ok (.getfield 136, 3) := by decide +kernel
theorem dX12_codesTell_41 : decode cX12_codesTell 41 = .ok (.iconst 2, 1) := by decide +kernel
theorem dX12_codesTell_42 : decode cX12_codesTell 42 = .ok (.iload_n 1, 1) := by decide +kernel
theorem dX12_codesTell_43 : decode cX12_codesTell 43 = .ok (.iadd, 1) := by decide +kernel
theorem dX12_codesTell_44 : decode cX12_codesTell 44 = .ok (.iaload, 1) := by decide +kernel
theorem dX12_codesTell_45 : decode cX12_codesTell 45 = .ok (.if_icmp .ge 74, 3) := by decide +kernel
theorem dX12_codesTell_48 : decode cX12_codesTell 48 = .ok (.aload_n 0, 1) := by decide +kernel
theorem dX12_codesTell_49 : decode cX12_codesTell 49 = .ok (.getfield 139, 3) := by decide +kernel
theorem dX12_codesTell_52 : decode cX12_codesTell 52 = .ok (.sipush 1600, 3) := by decide +kernel
theorem dX12_codesTell_55 : decode cX12_codesTell 55 = .ok (.iload 4, 2) := by decide +kernel
theorem dX12_codesTell_57 : decode cX12_codesTell 57 = .ok (.iadd, 1) := by decide +kernel
theorem dX12_codesTell_58 : decode cX12_codesTell 58 = .ok (.iaload, 1) := by decide +kernel
theorem dX12_codesTell_59 : decode cX12_codesTell 59 = .ok (.istore 5, 2) := by decide +kernel
theorem dX12_codesTell_61 : decode cX12_codesTell 61 = .ok (.iload 5, 2) := by decide +kernel
theorem dX12_codesTell_63 : decode cX12_codesTell 63 = .ok (.sipush 1000, 3) := by decide +kernel
theorem dX12_codesTell_66 : decode cX12_codesTell 66 = .ok (.if_icmp .lt 17, 3) := by decide +kernel
theorem dX12_codesTell_69 : decode cX12_codesTell 69 = .ok (.aload_n 0, 1) := by decide +kernel
theorem dX12_codesTell_70 : decode cX12_codesTell 70 = .ok (.iload 5, 2) := by decide +kernel
theorem dX12_codesTell_72 : decode cX12_codesTell 72 = .ok (.sipush 1000, 3) := by decide +kernel
theorem dX12_codesTell_75 : decode cX12_codesTell 75 = .ok (.isub, 1) := by decide +kernel
theorem dX12_codesTell_76 : decode cX12_codesTell 76 = .ok (.i2l, 1) := by decide +kernel
theorem dX12_codesTell_77 : decode cX12_codesTell 77 = .ok (.invokevirtual 434, 3) := by decide +kernel
theorem dX12_codesTell_80 : decode cX12_codesTell 80 = .ok (.goto 33, 3) := by decide +kernel
theorem dX12_codesTell_83 : decode cX12_codesTell 83 = .ok (.iload 5, 2) := by decide +kernel
theorem dX12_codesTell_85 : decode cX12_codesTell 85 = .ok (.bipush 40, 2) := by decide +kernel
theorem dX12_codesTell_87 : decode cX12_codesTell 87 = .ok (.if_icmp .lt 20, 3) := by decide +kernel
theorem dX12_codesTell_90 : decode cX12_codesTell 90 = .ok (.aload_n 0, 1) := by decide +kernel
theorem dX12_codesTell_91 : decode cX12_codesTell 91 = .ok (.aload_n 0, 1) := by decide +kernel
theorem dX12_codesTell_92 : decode cX12_codesTell 92 = .ok (.iload 5, 2) := by decide +kernel
theorem dX12_codesTell_94 : decode cX12_codesTell 94 = .ok (.bipush 40, 2) := by decide +kernel
theorem dX12_codesTell_96 : decode cX12_codesTell 96 = .ok (.isub, 1) := by decide +kernel
theorem dX12_codesTell_97 : decode cX12_codesTell 97 = .ok (.iload_n 2, 1) := by decide +kernel
theorem dX12_codesTell_98 : decode cX12_codesTell 98 = .ok (.invokevirtual 438, 3) := by decide +kernel
theorem dX12_codesTell_101 : decode cX12_codesTell 101 = .ok (.invokevirtual 434, 3) := by decide +kernel
theorem dX12_codesTell_104 : decode cX12_codesTell 104 = .ok (.goto 9, 3) := by decide +kernel
theorem dX12_codesTell_107 : decode cX12_codesTell 107 = .ok (.aload_n 0, 1) := by decide +kernel
theorem dX12_codesTell_108 : decode cX12_codesTell 108 = .ok (.iload 5, 2) := by decide +kernel
theorem dX12_codesTell_110 : decode cX12_codesTell 110 = .ok (.invokevirtual 442, 3) := by decide +kernel
theorem dX12_codesTell_113 : decode cX12_codesTell 113 = .ok (.iinc 4 1, 3) := by decide +kernel
theorem dX12_codesTell_116 : decode cX12_codesTell 116 = .ok (.goto (-81), 3) := by decide +kernel
theorem dX12_codesTell_119 : decode cX12_codesTell 119 = .ok (.aload_n 0, 1) := by decide +kernel
theorem dX12_codesTell_120 : decode cX12_codesTell 120 = .ok (.getfield 254, 3) := by decide +kernel
theorem dX12_codesTell_123 : decode cX12_codesTell 123 = .ok (.iconst 0, 1) := by decide +kernel
theorem dX12_codesTell_124 : decode cX12_codesTell 124 = .ok (.laload, 1) := by decide +kernel
theorem dX12_codesTell_125 : decode cX12_codesTell 125 = .ok (.lreturn, 1) := by decide +kernel
theorem dX12_eveningGoes_0 : decode cX12_eveningGoes 0 = .ok (.aload_n 0, 1) := by decide +kernel
theorem dX12_eveningGoes_1 : decode cX12_eveningGoes 1 = .ok (.invokevirtual 485, 3) := by decide +kernel
theorem dX12_eveningGoes_4 : decode cX12_eveningGoes 4 = .ok (.istore_n 1, 1) := by decide +kernel
theorem dX12_eveningGoes_5 : decode cX12_eveningGoes 5 = .ok (.iconst 0, 1) := by decide +kernel
theorem dX12_eveningGoes_6 : decode cX12_eveningGoes 6 = .ok (.istore_n 2, 1) := by decide +kernel
theorem dX12_eveningGoes_7 : decode cX12_eveningGoes 7 = .ok (.iload_n 2, 1) := by decide +kernel
theorem dX12_eveningGoes_8 : decode cX12_eveningGoes 8 = .ok (.aload_n 0, 1) := by decide +kernel
theorem dX12_eveningGoes_9 : decode cX12_eveningGoes 9 = .ok (.invokevirtual 419, 3) := by decide +kernel
theorem dX12_eveningGoes_12 : decode cX12_eveningGoes 12 = .ok (.if_icmp .ge 31, 3) := by decide +kernel
theorem dX12_eveningGoes_15 : decode cX12_eveningGoes 15 = .ok (.aload_n 0, 1) := by decide +kernel
theorem dX12_eveningGoes_16 : decode cX12_eveningGoes 16 = .ok (.getfield 154, 3) := by decide +kernel
theorem dX12_eveningGoes_19 : decode cX12_eveningGoes 19 = .ok (.iload_n 2, 1) := by decide +kernel
theorem dX12_eveningGoes_20 : decode cX12_eveningGoes 20 = .ok (.iaload, 1) := by decide +kernel
theorem dX12_eveningGoes_21 : decode cX12_eveningGoes 21 = .ok (.ifCond .le 16, 3) := by decide +kernel
theorem dX12_eveningGoes_24 : decode cX12_eveningGoes 24 = .ok (.aload_n 0, 1) := by decide +kernel
theorem dX12_eveningGoes_25 : decode cX12_eveningGoes 25 = .ok (.iload_n 2, 1) := by decide +kernel
theorem dX12_eveningGoes_26 : decode cX12_eveningGoes 26 = .ok (.aload_n 0, 1) := by decide +kernel
theorem dX12_eveningGoes_27 : decode cX12_eveningGoes 27 = .ok (.getfield 154, 3) := by decide +kernel
theorem dX12_eveningGoes_30 : decode cX12_eveningGoes 30 = .ok (.iload_n 2, 1) := by decide +kernel
theorem dX12_eveningGoes_31 : decode cX12_eveningGoes 31 = .ok (.iaload, 1) := by decide +kernel
theorem dX12_eveningGoes_32 : decode cX12_eveningGoes 32 = .ok (.iconst 1, 1) := by decide +kernel
theorem dX12_eveningGoes_33 : decode cX12_eveningGoes 33 = .ok (.isub, 1) := by decide +kernel
theorem dX12_eveningGoes_34 : decode cX12_eveningGoes 34 = .ok (.invokevirtual 488, 3) := by decide +kernel
theorem dX12_eveningGoes_37 : decode cX12_eveningGoes 37 = .ok (.iinc 2 1, 3) := by decide +kernel
theorem dX12_eveningGoes_40 : decode cX12_eveningGoes 40 = .ok (.goto (-33), 3) := by decide +kernel
theorem dX12_eveningGoes_43 : decode cX12_eveningGoes 43 = .ok (.aload_n 0, 1) := by decide +kernel
theorem dX12_eveningGoes_44 : decode cX12_eveningGoes 44 = .ok (.getfield 142, 3) := by decide +kernel
theorem dX12_eveningGoes_47 : decode cX12_eveningGoes 47 = .ok (.iconst 0, 1) := by decide +kernel
theorem dX12_eveningGoes_48 : decode cX12_eveningGoes 48 = .ok (.dup2, 1) := by decide +kernel
theorem dX12_eveningGoes_49 : decode cX12_eveningGoes 49 = .ok (.iaload, 1) := by decide +kernel
theorem dX12_eveningGoes_50 : decode cX12_eveningGoes 50 = .ok (.iconst 1, 1) := by decide +kernel
theorem dX12_eveningGoes_51 : decode cX12_eveningGoes 51 = .ok (.iadd, 1) := by decide +kernel
theorem dX12_eveningGoes_52 : decode cX12_eveningGoes 52 = .ok (.iastore, 1) := by decide +kernel
theorem dX12_eveningGoes_53 : decode cX12_eveningGoes 53 = .ok (.aload_n 0, 1) := by decide +kernel
theorem dX12_eveningGoes_54 : decode cX12_eveningGoes 54 = .ok (.invokevirtual 407, 3) := by decide +kernel
theorem dX12_eveningGoes_57 : decode cX12_eveningGoes 57 = .ok (.iload_n 1, 1) := by decide +kernel
theorem dX12_eveningGoes_58 : decode cX12_eveningGoes 58 = .ok (.ireturn, 1) := by decide +kernel
theorem dX12_writes_0 : decode cX12_writes 0 = .ok (.aload_n 0, 1) := by decide +kernel
theorem dX12_writes_1 : decode cX12_writes 1 = .ok (.getfield 257, 3) := by decide +kernel
theorem dX12_writes_4 : decode cX12_writes 4 = .ok (.aload_n 0, 1) := by decide +kernel
theorem dX12_writes_5 : decode cX12_writes 5 = .ok (.getfield 686, 3) := by decide +kernel
theorem dX12_writes_8 : decode cX12_writes 8 = .ok (.iload_n 1, 1) := by decide +kernel
theorem dX12_writes_9 : decode cX12_writes 9 = .ok (.iastore, 1) := by decide +kernel
theorem dX12_writes_10 : decode cX12_writes 10 = .ok (.aload_n 0, 1) := by decide +kernel
theorem dX12_writes_11 : decode cX12_writes 11 = .ok (.dup, 1) := by decide +kernel
theorem dX12_writes_12 : decode cX12_writes 12 = .ok (.getfield 686, 3) := by decide +kernel
theorem dX12_writes_15 : decode cX12_writes 15 = .ok (.iconst 1, 1) := by decide +kernel
theorem dX12_writes_16 : decode cX12_writes 16 = .ok (.iadd, 1) := by decide +kernel
theorem dX12_writes_17 : decode cX12_writes 17 = .ok (.putfield 686, 3) := by decide +kernel
theorem dX12_writes_20 : decode cX12_writes 20 = .ok (.return_, 1) := by decide +kernel
theorem dX12_qFact_0 : decode cX12_qFact 0 = .ok (.aload_n 0, 1) := by decide +kernel
theorem dX12_qFact_1 : decode cX12_qFact 1 = .ok (.aload_n 0, 1) := by decide +kernel
theorem dX12_qFact_2 : decode cX12_qFact 2 = .ok (.getfield 206, 3) := by decide +kernel
theorem dX12_qFact_5 : decode cX12_qFact 5 = .ok (.invokevirtual 290, 3) := by decide +kernel
theorem dX12_qFact_8 : decode cX12_qFact 8 = .ok (.ifCond .eq 10, 3) := by decide +kernel
theorem dX12_qFact_11 : decode cX12_qFact 11 = .ok (.aload_n 0, 1) := by decide +kernel
theorem dX12_qFact_12 : decode cX12_qFact 12 = .ok (.bipush 13, 2) := by decide +kernel
theorem dX12_qFact_14 : decode cX12_qFact 14 = .ok (.invokevirtual 594, 3) := by decide +kernel
theorem dX12_qFact_17 : decode cX12_qFact 17 = .ok (.return_, 1) := by decide +kernel
theorem dX12_qFact_18 : decode cX12_qFact 18 = .ok (.aload_n 0, 1) := by decide +kernel
theorem dX12_qFact_19 : decode cX12_qFact 19 = .ok (.invokevirtual 364, 3) := by decide +kernel
theorem dX12_qFact_22 : decode cX12_qFact 22 = .ok (.aload_n 0, 1) := by decide +kernel
theorem dX12_qFact_23 : decode cX12_qFact 23 = .ok (.getfield 263, 3) := by decide +kernel
theorem dX12_qFact_26 : decode cX12_qFact 26 = .ok (.ifCond .eq 4, 3) := by decide +kernel
theorem dX12_qFact_29 : decode cX12_qFact 29 = .ok (.return_, 1) := by decide +kernel
theorem dX12_qFact_30 : decode cX12_qFact 30 = .ok (.aload_n 0, 1) := by decide +kernel
theorem dX12_qFact_31 : decode cX12_qFact 31 = .ok (.invokevirtual 275, 3) := by decide +kernel
theorem dX12_qFact_34 : decode cX12_qFact 34 = .ok (.istore_n 1, 1) := by decide +kernel
theorem dX12_qFact_35 : decode cX12_qFact 35 = .ok (.iload_n 1, 1) := by decide +kernel
theorem dX12_qFact_36 : decode cX12_qFact 36 = .ok (.bipush 60, 2) := by decide +kernel
theorem dX12_qFact_38 : decode cX12_qFact 38 = .ok (.if_icmp .eq 25, 3) := by decide +kernel
theorem dX12_qFact_41 : decode cX12_qFact 41 = .ok (.iload_n 1, 1) := by decide +kernel
theorem dX12_qFact_42 : decode cX12_qFact 42 = .ok (.bipush 62, 2) := by decide +kernel
theorem dX12_qFact_44 : decode cX12_qFact 44 = .ok (.if_icmp .eq 19, 3) := by decide +kernel
theorem dX12_qFact_47 : decode cX12_qFact 47 = .ok (.iload_n 1, 1) := by decide +kernel
theorem dX12_qFact_48 : decode cX12_qFact 48 = .ok (.bipush 61, 2) := by decide +kernel
theorem dX12_qFact_50 : decode cX12_qFact 50 = .ok (.if_icmp .eq 13, 3) := by decide +kernel
theorem dX12_qFact_53 : decode cX12_qFact 53 = .ok (.aload_n 0, 1) := by decide +kernel
theorem dX12_qFact_54 : decode cX12_qFact 54 = .ok (.iconst 1, 1) := by decide +kernel
theorem dX12_qFact_55 : decode cX12_qFact 55 = .ok (.aload_n 0, 1) := by decide +kernel
theorem dX12_qFact_56 : decode cX12_qFact 56 = .ok (.getfield 269, 3) := by decide +kernel
theorem dX12_qFact_59 : decode cX12_qFact 59 = .ok (.invokevirtual 293, 3) := by decide +kernel
theorem dX12_qFact_62 : decode cX12_qFact 62 = .ok (.return_, 1) := by decide +kernel
theorem dX12_qFact_63 : decode cX12_qFact 63 = .ok (.aload_n 0, 1) := by decide +kernel
theorem dX12_qFact_64 : decode cX12_qFact 64 = .ok (.dup, 1) := by decide +kernel
theorem dX12_qFact_65 : decode cX12_qFact 65 = .ok (.getfield 269, 3) := by decide +kernel
theorem dX12_qFact_68 : decode cX12_qFact 68 = .ok (.iconst 1, 1) := by decide +kernel
theorem dX12_qFact_69 : decode cX12_qFact 69 = .ok (.iadd, 1) := by decide +kernel
theorem dX12_qFact_70 : decode cX12_qFact 70 = .ok (.putfield 269, 3) := by decide +kernel
theorem dX12_qFact_73 : decode cX12_qFact 73 = .ok (.aload_n 0, 1) := by decide +kernel
theorem dX12_qFact_74 : decode cX12_qFact 74 = .ok (.invokevirtual 364, 3) := by decide +kernel
theorem dX12_qFact_77 : decode cX12_qFact 77 = .ok (.aload_n 0, 1) := by decide +kernel
theorem dX12_qFact_78 : decode cX12_qFact 78 = .ok (.iload_n 1, 1) := by decide +kernel
theorem dX12_qFact_79 : decode cX12_qFact 79 = .ok (.bipush 60, 2) := by decide +kernel
theorem dX12_qFact_81 : decode cX12_qFact 81 = .ok (.if_icmp .ne 8, 3) := by decide +kernel
theorem dX12_qFact_84 : decode cX12_qFact 84 = .ok (.bipush 7, 2) := by decide +kernel
theorem dX12_qFact_86 : decode cX12_qFact 86 = .ok (.goto 16, 3) := by decide +kernel
theorem dX12_qFact_89 : decode cX12_qFact 89 = .ok (.iload_n 1, 1) := by decide +kernel
theorem dX12_qFact_90 : decode cX12_qFact 90 = .ok (.bipush 62, 2) := by decide +kernel
theorem dX12_qFact_92 : decode cX12_qFact 92 = .ok (.if_icmp .ne 8, 3) := by decide +kernel
theorem dX12_qFact_95 : decode cX12_qFact 95 = .ok (.bipush 8, 2) := by decide +kernel
theorem dX12_qFact_97 : decode cX12_qFact 97 = .ok (.goto 5, 3) := by decide +kernel
theorem dX12_qFact_100 : decode cX12_qFact 100 = .ok (.bipush 9, 2) := by decide +kernel
theorem dX12_qFact_102 : decode cX12_qFact 102 = .ok (.invokevirtual 594, 3) := by decide +kernel
theorem dX12_qFact_105 : decode cX12_qFact 105 = .ok (.return_, 1) := by decide +kernel
theorem dX12_timeOf_0 : decode cX12_timeOf 0 = .ok (.aload_n 0, 1) := by decide +kernel
theorem dX12_timeOf_1 : decode cX12_timeOf 1 = .ok (.getfield 133, 3) := by decide +kernel
theorem dX12_timeOf_4 : decode cX12_timeOf 4 = .ok (.iconst 2, 1) := by decide +kernel
theorem dX12_timeOf_5 : decode cX12_timeOf 5 = .ok (.iaload, 1) := by decide +kernel
theorem dX12_timeOf_6 : decode cX12_timeOf 6 = .ok (.iconst (-1), 1) := by decide +kernel
theorem dX12_timeOf_7 : decode cX12_timeOf 7 = .ok (.if_icmp .ne 6, 3) := by decide +kernel
theorem dX12_timeOf_10 : decode cX12_timeOf 10 = .ok (.bipush 20, 2) := by decide +kernel
theorem dX12_timeOf_12 : decode cX12_timeOf 12 = .ok (.ireturn, 1) := by decide +kernel
theorem dX12_timeOf_13 : decode cX12_timeOf 13 = .ok (.aload_n 0, 1) := by decide +kernel
theorem dX12_timeOf_14 : decode cX12_timeOf 14 = .ok (.iconst 0, 1) := by decide +kernel
theorem dX12_timeOf_15 : decode cX12_timeOf 15 = .ok (.iload_n 1, 1) := by decide +kernel
theorem dX12_timeOf_16 : decode cX12_timeOf 16 = .ok (.iload_n 2, 1) := by decide +kernel
theorem dX12_timeOf_17 : decode cX12_timeOf 17 = .ok (.invokevirtual 445, 3) := by decide +kernel
theorem dX12_timeOf_20 : decode cX12_timeOf 20 = .ok (.lstore_n 3, 1) := by decide +kernel
theorem dX12_timeOf_21 : decode cX12_timeOf 21 = .ok (.lload_n 3, 1) := by decide +kernel
theorem dX12_timeOf_22 : decode cX12_timeOf 22 = .ok (.lconst 1, 1) := by decide +kernel
theorem dX12_timeOf_23 : decode cX12_timeOf 23 = .ok (.lcmp, 1) := by decide +kernel
theorem dX12_timeOf_24 : decode cX12_timeOf 24 = .ok (.ifCond .ge 7, 3) := by decide +kernel
theorem dX12_timeOf_27 : decode cX12_timeOf 27 = .ok (.iconst 1, 1) := by decide +kernel
theorem dX12_timeOf_28 : decode cX12_timeOf 28 = .ok (.goto 19, 3) := by decide +kernel
theorem dX12_timeOf_31 : decode cX12_timeOf 31 = .ok (.lload_n 3, 1) := by decide +kernel
theorem dX12_timeOf_32 : decode cX12_timeOf 32 = .ok (.ldc2_w 449, 3) := by decide +kernel
theorem dX12_timeOf_35 : decode cX12_timeOf 35 = .ok (.lcmp, 1) := by decide +kernel
theorem dX12_timeOf_36 : decode cX12_timeOf 36 = .ok (.ifCond .le 9, 3) := by decide +kernel
theorem dX12_timeOf_39 : decode cX12_timeOf 39 = .ok (.sipush 999, 3) := by decide +kernel
theorem dX12_timeOf_42 : decode cX12_timeOf 42 = .ok (.goto 5, 3) := by decide +kernel
theorem dX12_timeOf_45 : decode cX12_timeOf 45 = .ok (.lload_n 3, 1) := by decide +kernel
theorem dX12_timeOf_46 : decode cX12_timeOf 46 = .ok (.l2i, 1) := by decide +kernel
theorem dX12_timeOf_47 : decode cX12_timeOf 47 = .ok (.ireturn, 1) := by decide +kernel
theorem dX12_qIsBracket_0 : decode cX12_qIsBracket 0 = .ok (.iload_n 0, 1) := by decide +kernel
theorem dX12_qIsBracket_1 : decode cX12_qIsBracket 1 = .ok (.bipush 20, 2) := by decide +kernel
theorem dX12_qIsBracket_3 : decode cX12_qIsBracket 3 = .ok (.if_icmp .lt 13, 3) := by decide +kernel
theorem dX12_qIsBracket_6 : decode cX12_qIsBracket 6 = .ok (.iload_n 0, 1) := by decide +kernel
theorem dX12_qIsBracket_7 : decode cX12_qIsBracket 7 = .ok (.bipush 24, 2) := by decide +kernel
theorem dX12_qIsBracket_9 : decode cX12_qIsBracket 9 = .ok (.if_icmp .gt 7, 3) := by decide +kernel
theorem dX12_qIsBracket_12 : decode cX12_qIsBracket 12 = .ok (.iconst 1, 1) := by decide +kernel
theorem dX12_qIsBracket_13 : decode cX12_qIsBracket 13 = .ok (.goto 4, 3) := by decide +kernel
theorem dX12_qIsBracket_16 : decode cX12_qIsBracket 16 = .ok (.iconst 0, 1) := by decide +kernel
theorem dX12_qIsBracket_17 : decode cX12_qIsBracket 17 = .ok (.ireturn, 1) := by decide +kernel
theorem dX12_putsAside_0 : decode cX12_putsAside 0 = .ok (.iconst 0, 1) := by decide +kernel
theorem dX12_putsAside_1 : decode cX12_putsAside 1 = .ok (.istore_n 1, 1) := by decide +kernel
theorem dX12_putsAside_2 : decode cX12_putsAside 2 = .ok (.iload_n 1, 1) := by decide +kernel
theorem dX12_putsAside_3 : decode cX12_putsAside 3 = .ok (.bipush 32, 2) := by decide +kernel
theorem dX12_putsAside_5 : decode cX12_putsAside 5 = .ok (.if_icmp .ge 21, 3) := by decide +kernel
theorem dX12_putsAside_8 : decode cX12_putsAside 8 = .ok (.aload_n 0, 1) := by decide +kernel
theorem dX12_putsAside_9 : decode cX12_putsAside 9 = .ok (.getfield 145, 3) := by decide +kernel
theorem dX12_putsAside_12 : decode cX12_putsAside 12 = .ok (.iload_n 1, 1) := by decide +kernel
theorem dX12_putsAside_13 : decode cX12_putsAside 13 = .ok (.aload_n 0, 1) := by decide +kernel
theorem dX12_putsAside_14 : decode cX12_putsAside 14 = .ok (.getfield 142, 3) := by decide +kernel
theorem dX12_putsAside_17 : decode cX12_putsAside 17 = .ok (.iload_n 1, 1) := by decide +kernel
theorem dX12_putsAside_18 : decode cX12_putsAside 18 = .ok (.iaload, 1) := by decide +kernel
theorem dX12_putsAside_19 : decode cX12_putsAside 19 = .ok (.iastore, 1) := by decide +kernel
theorem dX12_putsAside_20 : decode cX12_putsAside 20 = .ok (.iinc 1 1, 3) := by decide +kernel
theorem dX12_putsAside_23 : decode cX12_putsAside 23 = .ok (.goto (-21), 3) := by decide +kernel
theorem dX12_putsAside_26 : decode cX12_putsAside 26 = .ok (.return_, 1) := by decide +kernel
theorem dX12_warmest_0 : decode cX12_warmest 0 = .ok (.iload_n 1, 1) := by decide +kernel
theorem dX12_warmest_1 : decode cX12_warmest 1 = .ok (.iconst (-1), 1) := by decide +kernel
theorem dX12_warmest_2 : decode cX12_warmest 2 = .ok (.if_icmp .eq 13, 3) := by decide +kernel
theorem dX12_warmest_5 : decode cX12_warmest 5 = .ok (.aload_n 0, 1) := by decide +kernel
theorem dX12_warmest_6 : decode cX12_warmest 6 = .ok (.iload_n 1, 1) := by decide +kernel
theorem dX12_warmest_7 : decode cX12_warmest 7 = .ok (.invokevirtual 501, 3) := by decide +kernel
theorem dX12_warmest_10 : decode cX12_warmest 10 = .ok (.ifCond .ne 5, 3) := by decide +kernel
theorem dX12_warmest_13 : decode cX12_warmest 13 = .ok (.iconst (-1), 1) := by decide +kernel
theorem dX12_warmest_14 : decode cX12_warmest 14 = .ok (.ireturn, 1) := by decide +kernel
theorem dX12_warmest_15 : decode cX12_warmest 15 = .ok (.aload_n 0, 1) := by decide +kernel
theorem dX12_warmest_16 : decode cX12_warmest 16 = .ok (.invokevirtual 485, 3) := by decide +kernel
theorem dX12_warmest_19 : decode cX12_warmest 19 = .ok (.istore_n 2, 1) := by decide +kernel
theorem dX12_warmest_20 : decode cX12_warmest 20 = .ok (.iload_n 1, 1) := by decide +kernel
theorem dX12_warmest_21 : decode cX12_warmest 21 = .ok (.iconst (-1), 1) := by decide +kernel
theorem dX12_warmest_22 : decode cX12_warmest 22 = .ok (.if_icmp .ne 7, 3) := by decide +kernel
theorem dX12_warmest_25 : decode cX12_warmest 25 = .ok (.iload_n 2, 1) := by decide +kernel
theorem dX12_warmest_26 : decode cX12_warmest 26 = .ok (.goto 11, 3) := by decide +kernel
theorem dX12_warmest_29 : decode cX12_warmest 29 = .ok (.aload_n 0, 1) := by decide +kernel
theorem dX12_warmest_30 : decode cX12_warmest 30 = .ok (.getfield 154, 3) := by decide +kernel
theorem dX12_warmest_33 : decode cX12_warmest 33 = .ok (.iload_n 1, 1) := by decide +kernel
theorem dX12_warmest_34 : decode cX12_warmest 34 = .ok (.iaload, 1) := by decide +kernel
theorem dX12_warmest_35 : decode cX12_warmest 35 = .ok (.iconst 1, 1) := by decide +kernel
theorem dX12_warmest_36 : decode cX12_warmest 36 = .ok (.isub, 1) := by decide +kernel
theorem dX12_warmest_37 : decode cX12_warmest 37 = .ok (.ireturn, 1) := by decide +kernel
theorem dX12_giftMany_0 : decode cX12_giftMany 0 = .ok (.aload_n 0, 1) := by decide +kernel
theorem dX12_giftMany_1 : decode cX12_giftMany 1 = .ok (.getfield 105, 3) := by decide +kernel
theorem dX12_giftMany_4 : decode cX12_giftMany 4 = .ok (.bipush 6, 2) := by decide +kernel
theorem dX12_giftMany_6 : decode cX12_giftMany 6 = .ok (.iaload, 1) := by decide +kernel
theorem dX12_giftMany_7 : decode cX12_giftMany 7 = .ok (.ireturn, 1) := by decide +kernel
theorem dX12_nearTold_0 : decode cX12_nearTold 0 = .ok (.aload_n 0, 1) := by decide +kernel
theorem dX12_nearTold_1 : decode cX12_nearTold 1 = .ok (.iconst 3, 1) := by decide +kernel
theorem dX12_nearTold_2 : decode cX12_nearTold 2 = .ok (.bipush 20, 2) := by decide +kernel
theorem dX12_nearTold_4 : decode cX12_nearTold 4 = .ok (.iload_n 1, 1) := by decide +kernel
theorem dX12_nearTold_5 : decode cX12_nearTold 5 = .ok (.invokevirtual 330, 3) := by decide +kernel
theorem dX12_nearTold_8 : decode cX12_nearTold 8 = .ok (.ifCond .eq 4, 3) := by decide +kernel
theorem dX12_nearTold_11 : decode cX12_nearTold 11 = .ok (.return_, 1) := by decide +kernel
theorem dX12_nearTold_12 : decode cX12_nearTold 12 = .ok (.aload_n 0, 1) := by decide +kernel
theorem dX12_nearTold_13 : decode cX12_nearTold 13 = .ok (.iconst 0, 1) := by decide +kernel
theorem dX12_nearTold_14 : decode cX12_nearTold 14 = .ok (.invokevirtual 348, 3) := by decide +kernel
theorem dX12_nearTold_17 : decode cX12_nearTold 17 = .ok (.istore_n 2, 1) := by decide +kernel
theorem dX12_nearTold_18 : decode cX12_nearTold 18 = .ok (.aload_n 0, 1) := by decide +kernel
theorem dX12_nearTold_19 : decode cX12_nearTold 19 = .ok (.iconst 0, 1) := by decide +kernel
theorem dX12_nearTold_20 : decode cX12_nearTold 20 = .ok (.invokevirtual 348, 3) := by decide +kernel
theorem dX12_nearTold_23 : decode cX12_nearTold 23 = .ok (.istore_n 3, 1) := by decide +kernel
theorem dX12_nearTold_24 : decode cX12_nearTold 24 = .ok (.aload_n 0, 1) := by decide +kernel
theorem dX12_nearTold_25 : decode cX12_nearTold 25 = .ok (.getfield 263, 3) := by decide +kernel
theorem dX12_nearTold_28 : decode cX12_nearTold 28 = .ok (.ifCond .ne 31, 3) := by decide +kernel
theorem dX12_nearTold_31 : decode cX12_nearTold 31 = .ok (.iload_n 2, 1) := by decide +kernel
theorem dX12_nearTold_32 : decode cX12_nearTold 32 = .ok (.iload_n 3, 1) := by decide +kernel
theorem dX12_nearTold_33 : decode cX12_nearTold 33 = .ok (.if_icmp .eq 17, 3) := by decide +kernel
theorem dX12_nearTold_36 : decode cX12_nearTold 36 = .ok (.aload_n 0, 1) := by decide +kernel
theorem dX12_nearTold_37 : decode cX12_nearTold 37 = .ok (.getfield 121, 3) := by decide +kernel
theorem dX12_nearTold_40 : decode cX12_nearTold 40 = .ok (.iload_n 2, 1) := by decide +kernel
theorem dX12_nearTold_41 : decode cX12_nearTold 41 = .ok (.iaload, 1) := by decide +kernel
theorem dX12_nearTold_42 : decode cX12_nearTold 42 = .ok (.iload_n 3, 1) := by decide +kernel
theorem dX12_nearTold_43 : decode cX12_nearTold 43 = .ok (.ishr, 1) := by decide +kernel
theorem dX12_nearTold_44 : decode cX12_nearTold 44 = .ok (.iconst 1, 1) := by decide +kernel
theorem dX12_nearTold_45 : decode cX12_nearTold 45 = .ok (.iand, 1) := by decide +kernel
theorem dX12_nearTold_46 : decode cX12_nearTold 46 = .ok (.iconst 1, 1) := by decide +kernel
theorem dX12_nearTold_47 : decode cX12_nearTold 47 = .ok (.if_icmp .ne 12, 3) := by decide +kernel
theorem dX12_nearTold_50 : decode cX12_nearTold 50 = .ok (.aload_n 0, 1) := by decide +kernel
theorem dX12_nearTold_51 : decode cX12_nearTold 51 = .ok (.iconst 3, 1) := by decide +kernel
theorem dX12_nearTold_52 : decode cX12_nearTold 52 = .ok (.aload_n 0, 1) := by decide +kernel
theorem dX12_nearTold_53 : decode cX12_nearTold 53 = .ok (.getfield 311, 3) := by decide +kernel
theorem dX12_nearTold_56 : decode cX12_nearTold 56 = .ok (.invokevirtual 293, 3) := by decide +kernel
theorem dX12_nearTold_59 : decode cX12_nearTold 59 = .ok (.aload_n 0, 1) := by decide +kernel
theorem dX12_nearTold_60 : decode cX12_nearTold 60 = .ok (.getfield 263, 3) := by decide +kernel
theorem dX12_nearTold_63 : decode cX12_nearTold 63 = .ok (.ifCond .eq 4, 3) := by decide +kernel
theorem dX12_nearTold_66 : decode cX12_nearTold 66 = .ok (.return_, 1) := by decide +kernel
theorem dX12_nearTold_67 : decode cX12_nearTold 67 = .ok (.aload_n 0, 1) := by decide +kernel
theorem dX12_nearTold_68 : decode cX12_nearTold 68 = .ok (.getfield 121, 3) := by decide +kernel
theorem dX12_nearTold_71 : decode cX12_nearTold 71 = .ok (.iload_n 2, 1) := by decide +kernel
theorem dX12_nearTold_72 : decode cX12_nearTold 72 = .ok (.dup2, 1) := by decide +kernel
theorem dX12_nearTold_73 : decode cX12_nearTold 73 = .ok (.iaload, 1) := by decide +kernel
theorem dX12_nearTold_74 : decode cX12_nearTold 74 = .ok (.iconst 1, 1) := by decide +kernel
theorem dX12_nearTold_75 : decode cX12_nearTold 75 = .ok (.iload_n 3, 1) := by decide +kernel
theorem dX12_nearTold_76 : decode cX12_nearTold 76 = .ok (.ishl, 1) := by decide +kernel
theorem dX12_nearTold_77 : decode cX12_nearTold 77 = .ok (.ior, 1) := by decide +kernel
theorem dX12_nearTold_78 : decode cX12_nearTold 78 = .ok (.iastore, 1) := by decide +kernel
theorem dX12_nearTold_79 : decode cX12_nearTold 79 = .ok (.aload_n 0, 1) := by decide +kernel
theorem dX12_nearTold_80 : decode cX12_nearTold 80 = .ok (.getfield 121, 3) := by decide +kernel
theorem dX12_nearTold_83 : decode cX12_nearTold 83 = .ok (.iload_n 3, 1) := by decide +kernel
theorem dX12_nearTold_84 : decode cX12_nearTold 84 = .ok (.dup2, 1) := by decide +kernel
theorem dX12_nearTold_85 : decode cX12_nearTold 85 = .ok (.iaload, 1) := by decide +kernel
theorem dX12_nearTold_86 : decode cX12_nearTold 86 = .ok (.iconst 1, 1) := by decide +kernel
theorem dX12_nearTold_87 : decode cX12_nearTold 87 = .ok (.iload_n 2, 1) := by decide +kernel
theorem dX12_nearTold_88 : decode cX12_nearTold 88 = .ok (.ishl, 1) := by decide +kernel
theorem dX12_nearTold_89 : decode cX12_nearTold 89 = .ok (.ior, 1) := by decide +kernel
theorem dX12_nearTold_90 : decode cX12_nearTold 90 = .ok (.iastore, 1) := by decide +kernel
theorem dX12_nearTold_91 : decode cX12_nearTold 91 = .ok (.aload_n 0, 1) := by decide +kernel
theorem dX12_nearTold_92 : decode cX12_nearTold 92 = .ok (.getfield 105, 3) := by decide +kernel
theorem dX12_nearTold_95 : decode cX12_nearTold 95 = .ok (.iconst 3, 1) := by decide +kernel
theorem dX12_nearTold_96 : decode cX12_nearTold 96 = .ok (.dup2, 1) := by decide +kernel
theorem dX12_nearTold_97 : decode cX12_nearTold 97 = .ok (.iaload, 1) := by decide +kernel
theorem dX12_nearTold_98 : decode cX12_nearTold 98 = .ok (.iconst 1, 1) := by decide +kernel
theorem dX12_nearTold_99 : decode cX12_nearTold 99 = .ok (.iadd, 1) := by decide +kernel
theorem dX12_nearTold_100 : decode cX12_nearTold 100 = .ok (.iastore, 1) := by decide +kernel
theorem dX12_nearTold_101 : decode cX12_nearTold 101 = .ok (.return_, 1) := by decide +kernel
theorem dX12_gift_0 : decode cX12_gift 0 = .ok (.aload_n 0, 1) := by decide +kernel
theorem dX12_gift_1 : decode cX12_gift 1 = .ok (.iload_n 1, 1) := by decide +kernel
theorem dX12_gift_2 : decode cX12_gift 2 = .ok (.invokevirtual 513, 3) := by decide +kernel
theorem dX12_gift_5 : decode cX12_gift 5 = .ok (.ifCond .ne 5, 3) := by decide +kernel
theorem dX12_gift_8 : decode cX12_gift 8 = .ok (.iconst (-1), 1) := by decide +kernel
theorem dX12_gift_9 : decode cX12_gift 9 = .ok (.ireturn, 1) := by decide +kernel
theorem dX12_gift_10 : decode cX12_gift 10 = .ok (.iload_n 2, 1) := by decide +kernel
theorem dX12_gift_11 : decode cX12_gift 11 = .ok (.bipush 10, 2) := by decide +kernel
theorem dX12_gift_13 : decode cX12_gift 13 = .ok (.if_icmp .lt 24, 3) := by decide +kernel
theorem dX12_gift_16 : decode cX12_gift 16 = .ok (.aload_n 0, 1) := by decide +kernel
theorem dX12_gift_17 : decode cX12_gift 17 = .ok (.iload_n 2, 1) := by decide +kernel
theorem dX12_gift_18 : decode cX12_gift 18 = .ok (.bipush 10, 2) := by decide +kernel
theorem dX12_gift_20 : decode cX12_gift 20 = .ok (.isub, 1) := by decide +kernel
theorem dX12_gift_21 : decode cX12_gift 21 = .ok (.invokevirtual 501, 3) := by decide +kernel
theorem dX12_gift_24 : decode cX12_gift 24 = .ok (.ifCond .eq 13, 3) := by decide +kernel
theorem dX12_gift_27 : decode cX12_gift 27 = .ok (.aload_n 0, 1) := by decide +kernel
theorem dX12_gift_28 : decode cX12_gift 28 = .ok (.iload_n 2, 1) := by decide +kernel
theorem dX12_gift_29 : decode cX12_gift 29 = .ok (.bipush 10, 2) := by decide +kernel
theorem dX12_gift_31 : decode cX12_gift 31 = .ok (.isub, 1) := by decide +kernel
theorem dX12_gift_32 : decode cX12_gift 32 = .ok (.iload_n 1, 1) := by decide +kernel
theorem dX12_gift_33 : decode cX12_gift 33 = .ok (.invokevirtual 425, 3) := by decide +kernel
theorem dX12_gift_36 : decode cX12_gift 36 = .ok (.ireturn, 1) := by decide +kernel
theorem dX12_gift_37 : decode cX12_gift 37 = .ok (.iload_n 2, 1) := by decide +kernel
theorem dX12_gift_38 : decode cX12_gift 38 = .ok (.ifCond .ne 14, 3) := by decide +kernel
theorem dX12_gift_41 : decode cX12_gift 41 = .ok (.aload_n 0, 1) := by decide +kernel
theorem dX12_gift_42 : decode cX12_gift 42 = .ok (.getfield 142, 3) := by decide +kernel
theorem dX12_gift_45 : decode cX12_gift 45 = .ok (.iconst 4, 1) := by decide +kernel
theorem dX12_gift_46 : decode cX12_gift 46 = .ok (.iload_n 1, 1) := by decide +kernel
theorem dX12_gift_47 : decode cX12_gift 47 = .ok (.iadd, 1) := by decide +kernel
theorem dX12_gift_48 : decode cX12_gift 48 = .ok (.iaload, 1) := by decide +kernel
theorem dX12_gift_49 : decode cX12_gift 49 = .ok (.goto 4, 3) := by decide +kernel
theorem dX12_gift_52 : decode cX12_gift 52 = .ok (.iconst (-1), 1) := by decide +kernel
theorem dX12_gift_53 : decode cX12_gift 53 = .ok (.ireturn, 1) := by decide +kernel
theorem dX12_fail_0 : decode cX12_fail 0 = .ok (.aload_n 0, 1) := by decide +kernel
theorem dX12_fail_1 : decode cX12_fail 1 = .ok (.getfield 263, 3) := by decide +kernel
theorem dX12_fail_4 : decode cX12_fail 4 = .ok (.ifCond .eq 4, 3) := by decide +kernel
theorem dX12_fail_7 : decode cX12_fail 7 = .ok (.return_, 1) := by decide +kernel
theorem dX12_fail_8 : decode cX12_fail 8 = .ok (.aload_n 0, 1) := by decide +kernel
theorem dX12_fail_9 : decode cX12_fail 9 = .ok (.iload_n 1, 1) := by decide +kernel
theorem dX12_fail_10 : decode cX12_fail 10 = .ok (.putfield 263, 3) := by decide +kernel
theorem dX12_fail_13 : decode cX12_fail 13 = .ok (.aload_n 0, 1) := by decide +kernel
theorem dX12_fail_14 : decode cX12_fail 14 = .ok (.iload_n 2, 1) := by decide +kernel
theorem dX12_fail_15 : decode cX12_fail 15 = .ok (.putfield 266, 3) := by decide +kernel
theorem dX12_fail_18 : decode cX12_fail 18 = .ok (.return_, 1) := by decide +kernel
theorem dX12_canGive_0 : decode cX12_canGive 0 = .ok (.iconst 0, 1) := by decide +kernel
theorem dX12_canGive_1 : decode cX12_canGive 1 = .ok (.istore_n 1, 1) := by decide +kernel
theorem dX12_canGive_2 : decode cX12_canGive 2 = .ok (.iload_n 1, 1) := by decide +kernel
theorem dX12_canGive_3 : decode cX12_canGive 3 = .ok (.aload_n 0, 1) := by decide +kernel
theorem dX12_canGive_4 : decode cX12_canGive 4 = .ok (.invokevirtual 410, 3) := by decide +kernel
theorem dX12_canGive_7 : decode cX12_canGive 7 = .ok (.if_icmp .ge 23, 3) := by decide +kernel
theorem dX12_canGive_10 : decode cX12_canGive 10 = .ok (.aload_n 0, 1) := by decide +kernel
theorem dX12_canGive_11 : decode cX12_canGive 11 = .ok (.getfield 166, 3) := by decide +kernel
theorem dX12_canGive_14 : decode cX12_canGive 14 = .ok (.iload_n 1, 1) := by decide +kernel
theorem dX12_canGive_15 : decode cX12_canGive 15 = .ok (.aload_n 0, 1) := by decide +kernel
theorem dX12_canGive_16 : decode cX12_canGive 16 = .ok (.getfield 142, 3) := by decide +kernel
theorem dX12_canGive_19 : decode cX12_canGive 19 = .ok (.iconst 4, 1) := by decide +kernel
theorem dX12_canGive_20 : decode cX12_canGive 20 = .ok (.iload_n 1, 1) := by decide +kernel
theorem dX12_canGive_21 : decode cX12_canGive 21 = .ok (.iadd, 1) := by decide +kernel
theorem dX12_canGive_22 : decode cX12_canGive 22 = .ok (.iaload, 1) := by decide +kernel
theorem dX12_canGive_23 : decode cX12_canGive 23 = .ok (.iastore, 1) := by decide +kernel
theorem dX12_canGive_24 : decode cX12_canGive 24 = .ok (.iinc 1 1, 3) := by decide +kernel
theorem dX12_canGive_27 : decode cX12_canGive 27 = .ok (.goto (-25), 3) := by decide +kernel
theorem dX12_canGive_30 : decode cX12_canGive 30 = .ok (.iconst 0, 1) := by decide +kernel
theorem dX12_canGive_31 : decode cX12_canGive 31 = .ok (.istore_n 1, 1) := by decide +kernel
theorem dX12_canGive_32 : decode cX12_canGive 32 = .ok (.iload_n 1, 1) := by decide +kernel
theorem dX12_canGive_33 : decode cX12_canGive 33 = .ok (.aload_n 0, 1) := by decide +kernel
theorem dX12_canGive_34 : decode cX12_canGive 34 = .ok (.invokevirtual 419, 3) := by decide +kernel
theorem dX12_canGive_37 : decode cX12_canGive 37 = .ok (.if_icmp .ge 56, 3) := by decide +kernel
theorem dX12_canGive_40 : decode cX12_canGive 40 = .ok (.aload_n 0, 1) := by decide +kernel
theorem dX12_canGive_41 : decode cX12_canGive 41 = .ok (.getfield 148, 3) := by decide +kernel
theorem dX12_canGive_44 : decode cX12_canGive 44 = .ok (.iload_n 1, 1) := by decide +kernel
theorem dX12_canGive_45 : decode cX12_canGive 45 = .ok (.iaload, 1) := by decide +kernel
theorem dX12_canGive_46 : decode cX12_canGive 46 = .ok (.ifCond .ne 6, 3) := by decide +kernel
theorem dX12_canGive_49 : decode cX12_canGive 49 = .ok (.goto 38, 3) := by decide +kernel
theorem dX12_canGive_52 : decode cX12_canGive 52 = .ok (.aload_n 0, 1) := by decide +kernel
theorem dX12_canGive_53 : decode cX12_canGive 53 = .ok (.getfield 166, 3) := by decide +kernel
theorem dX12_canGive_56 : decode cX12_canGive 56 = .ok (.aload_n 0, 1) := by decide +kernel
theorem dX12_canGive_57 : decode cX12_canGive 57 = .ok (.getfield 148, 3) := by decide +kernel
theorem dX12_canGive_60 : decode cX12_canGive 60 = .ok (.iload_n 1, 1) := by decide +kernel
theorem dX12_canGive_61 : decode cX12_canGive 61 = .ok (.iaload, 1) := by decide +kernel
theorem dX12_canGive_62 : decode cX12_canGive 62 = .ok (.iconst 1, 1) := by decide +kernel
theorem dX12_canGive_63 : decode cX12_canGive 63 = .ok (.isub, 1) := by decide +kernel
theorem dX12_canGive_64 : decode cX12_canGive 64 = .ok (.dup2, 1) := by decide +kernel
theorem dX12_canGive_65 : decode cX12_canGive 65 = .ok (.iaload, 1) := by decide +kernel
theorem dX12_canGive_66 : decode cX12_canGive 66 = .ok (.iconst 1, 1) := by decide +kernel
theorem dX12_canGive_67 : decode cX12_canGive 67 = .ok (.isub, 1) := by decide +kernel
theorem dX12_canGive_68 : decode cX12_canGive 68 = .ok (.iastore, 1) := by decide +kernel
theorem dX12_canGive_69 : decode cX12_canGive 69 = .ok (.aload_n 0, 1) := by decide +kernel
theorem dX12_canGive_70 : decode cX12_canGive 70 = .ok (.getfield 166, 3) := by decide +kernel
theorem dX12_canGive_73 : decode cX12_canGive 73 = .ok (.aload_n 0, 1) := by decide +kernel
theorem dX12_canGive_74 : decode cX12_canGive 74 = .ok (.getfield 148, 3) := by decide +kernel
theorem dX12_canGive_77 : decode cX12_canGive 77 = .ok (.iload_n 1, 1) := by decide +kernel
theorem dX12_canGive_78 : decode cX12_canGive 78 = .ok (.iaload, 1) := by decide +kernel
theorem dX12_canGive_79 : decode cX12_canGive 79 = .ok (.iconst 1, 1) := by decide +kernel
theorem dX12_canGive_80 : decode cX12_canGive 80 = .ok (.isub, 1) := by decide +kernel
theorem dX12_canGive_81 : decode cX12_canGive 81 = .ok (.iaload, 1) := by decide +kernel
theorem dX12_canGive_82 : decode cX12_canGive 82 = .ok (.ifCond .ge 5, 3) := by decide +kernel
theorem dX12_canGive_85 : decode cX12_canGive 85 = .ok (.iconst 0, 1) := by decide +kernel
theorem dX12_canGive_86 : decode cX12_canGive 86 = .ok (.ireturn, 1) := by decide +kernel
theorem dX12_canGive_87 : decode cX12_canGive 87 = .ok (.iinc 1 1, 3) := by decide +kernel
theorem dX12_canGive_90 : decode cX12_canGive 90 = .ok (.goto (-58), 3) := by decide +kernel
theorem dX12_canGive_93 : decode cX12_canGive 93 = .ok (.iconst 1, 1) := by decide +kernel
theorem dX12_canGive_94 : decode cX12_canGive 94 = .ok (.ireturn, 1) := by decide +kernel
theorem dX12_answeredIn_0 : decode cX12_answeredIn 0 = .ok (.iconst 0, 1) := by decide +kernel
theorem dX12_answeredIn_1 : decode cX12_answeredIn 1 = .ok (.istore_n 1, 1) := by decide +kernel
theorem dX12_answeredIn_2 : decode cX12_answeredIn 2 = .ok (.iconst 0, 1) := by decide +kernel
theorem dX12_answeredIn_3 : decode cX12_answeredIn 3 = .ok (.istore_n 2, 1) := by decide +kernel
theorem dX12_answeredIn_4 : decode cX12_answeredIn 4 = .ok (.iload_n 2, 1) := by decide +kernel
theorem dX12_answeredIn_5 : decode cX12_answeredIn 5 = .ok (.aload_n 0, 1) := by decide +kernel
theorem dX12_answeredIn_6 : decode cX12_answeredIn 6 = .ok (.invokevirtual 419, 3) := by decide +kernel
theorem dX12_answeredIn_9 : decode cX12_answeredIn 9 = .ok (.if_icmp .ge 21, 3) := by decide +kernel
theorem dX12_answeredIn_12 : decode cX12_answeredIn 12 = .ok (.aload_n 0, 1) := by decide +kernel
theorem dX12_answeredIn_13 : decode cX12_answeredIn 13 = .ok (.getfield 148, 3) := by decide +kernel
theorem dX12_answeredIn_16 : decode cX12_answeredIn 16 = .ok (.iload_n 2, 1) := by decide +kernel
theorem dX12_answeredIn_17 : decode cX12_answeredIn 17 = .ok (.iaload, 1) := by decide +kernel
theorem dX12_answeredIn_18 : decode cX12_answeredIn 18 = .ok (.ifCond .le 6, 3) := by decide +kernel
theorem dX12_answeredIn_21 : decode cX12_answeredIn 21 = .ok (.iinc 1 1, 3) := by decide +kernel
theorem dX12_answeredIn_24 : decode cX12_answeredIn 24 = .ok (.iinc 2 1, 3) := by decide +kernel
theorem dX12_answeredIn_27 : decode cX12_answeredIn 27 = .ok (.goto (-23), 3) := by decide +kernel
theorem dX12_answeredIn_30 : decode cX12_answeredIn 30 = .ok (.iload_n 1, 1) := by decide +kernel
theorem dX12_answeredIn_31 : decode cX12_answeredIn 31 = .ok (.ireturn, 1) := by decide +kernel
theorem dX12_answer_0 : decode cX12_answer 0 = .ok (.aload_n 0, 1) := by decide +kernel
theorem dX12_answer_1 : decode cX12_answer 1 = .ok (.iload_n 1, 1) := by decide +kernel
theorem dX12_answer_2 : decode cX12_answer 2 = .ok (.invokevirtual 501, 3) := by decide +kernel
theorem dX12_answer_5 : decode cX12_answer 5 = .ok (.ifCond .eq 20, 3) := by decide +kernel
theorem dX12_answer_8 : decode cX12_answer 8 = .ok (.aload_n 0, 1) := by decide +kernel
theorem dX12_answer_9 : decode cX12_answer 9 = .ok (.iload_n 2, 1) := by decide +kernel
theorem dX12_answer_10 : decode cX12_answer 10 = .ok (.invokevirtual 516, 3) := by decide +kernel
theorem dX12_answer_13 : decode cX12_answer 13 = .ok (.ifCond .eq 12, 3) := by decide +kernel
theorem dX12_answer_16 : decode cX12_answer 16 = .ok (.aload_n 0, 1) := by decide +kernel
theorem dX12_answer_17 : decode cX12_answer 17 = .ok (.iload_n 1, 1) := by decide +kernel
theorem dX12_answer_18 : decode cX12_answer 18 = .ok (.iload_n 2, 1) := by decide +kernel
theorem dX12_answer_19 : decode cX12_answer 19 = .ok (.invokevirtual 521, 3) := by decide +kernel
theorem dX12_answer_22 : decode cX12_answer 22 = .ok (.ifCond .ne 9, 3) := by decide +kernel
theorem dX12_answer_25 : decode cX12_answer 25 = .ok (.aload_n 0, 1) := by decide +kernel
theorem dX12_answer_26 : decode cX12_answer 26 = .ok (.iconst 2, 1) := by decide +kernel
theorem dX12_answer_27 : decode cX12_answer 27 = .ok (.invokevirtual 560, 3) := by decide +kernel
theorem dX12_answer_30 : decode cX12_answer 30 = .ok (.ireturn, 1) := by decide +kernel
theorem dX12_answer_31 : decode cX12_answer 31 = .ok (.aload_n 0, 1) := by decide +kernel
theorem dX12_answer_32 : decode cX12_answer 32 = .ok (.invokevirtual 575, 3) := by decide +kernel
theorem dX12_answer_35 : decode cX12_answer 35 = .ok (.aload_n 0, 1) := by decide +kernel
theorem dX12_answer_36 : decode cX12_answer 36 = .ok (.iload_n 1, 1) := by decide +kernel
theorem dX12_answer_37 : decode cX12_answer 37 = .ok (.iload_n 2, 1) := by decide +kernel
theorem dX12_answer_38 : decode cX12_answer 38 = .ok (.invokevirtual 461, 3) := by decide +kernel
theorem dX12_answer_41 : decode cX12_answer 41 = .ok (.istore_n 3, 1) := by decide +kernel
theorem dX12_answer_42 : decode cX12_answer 42 = .ok (.aload_n 0, 1) := by decide +kernel
theorem dX12_answer_43 : decode cX12_answer 43 = .ok (.iload_n 1, 1) := by decide +kernel
theorem dX12_answer_44 : decode cX12_answer 44 = .ok (.iload_n 2, 1) := by decide +kernel
theorem dX12_answer_45 : decode cX12_answer 45 = .ok (.invokevirtual 488, 3) := by decide +kernel
theorem dX12_answer_48 : decode cX12_answer 48 = .ok (.iload_n 3, 1) := by decide +kernel
theorem dX12_answer_49 : decode cX12_answer 49 = .ok (.ireturn, 1) := by decide +kernel
theorem dX12_wishTold_0 : decode cX12_wishTold 0 = .ok (.aload_n 0, 1) := by decide +kernel
theorem dX12_wishTold_1 : decode cX12_wishTold 1 = .ok (.iconst 0, 1) := by decide +kernel
theorem dX12_wishTold_2 : decode cX12_wishTold 2 = .ok (.invokevirtual 348, 3) := by decide +kernel
theorem dX12_wishTold_5 : decode cX12_wishTold 5 = .ok (.istore_n 1, 1) := by decide +kernel
theorem dX12_wishTold_6 : decode cX12_wishTold 6 = .ok (.aload_n 0, 1) := by decide +kernel
theorem dX12_wishTold_7 : decode cX12_wishTold 7 = .ok (.iconst 1, 1) := by decide +kernel
theorem dX12_wishTold_8 : decode cX12_wishTold 8 = .ok (.invokevirtual 348, 3) := by decide +kernel
theorem dX12_wishTold_11 : decode cX12_wishTold 11 = .ok (.istore_n 2, 1) := by decide +kernel
theorem dX12_wishTold_12 : decode cX12_wishTold 12 = .ok (.aload_n 0, 1) := by decide +kernel
theorem dX12_wishTold_13 : decode cX12_wishTold 13 = .ok (.iconst 1, 1) := by decide +kernel
theorem dX12_wishTold_14 : decode cX12_wishTold 14 = .ok (.bipush 9, 2) := by decide +kernel
theorem dX12_wishTold_16 : decode cX12_wishTold 16 = .ok (.invokevirtual 341, 3) := by decide +kernel
theorem dX12_wishTold_19 : decode cX12_wishTold 19 = .ok (.istore_n 3, 1) := by decide +kernel
theorem dX12_wishTold_20 : decode cX12_wishTold 20 = .ok (.aload_n 0, 1) := by decide +kernel
theorem dX12_wishTold_21 : decode cX12_wishTold 21 = .ok (.getfield 263, 3) := by decide +kernel
theorem dX12_wishTold_24 : decode cX12_wishTold 24 = .ok (.ifCond .ne 14, 3) := by decide +kernel
theorem dX12_wishTold_27 : decode cX12_wishTold 27 = .ok (.aload_n 0, 1) := by decide +kernel
theorem dX12_wishTold_28 : decode cX12_wishTold 28 = .ok (.getfield 118, 3) := by decide +kernel
theorem dX12_wishTold_31 : decode cX12_wishTold 31 = .ok (.iconst 4, 1) := by decide +kernel
theorem dX12_wishTold_32 : decode cX12_wishTold 32 = .ok (.iload_n 1, 1) := by decide +kernel
theorem dX12_wishTold_33 : decode cX12_wishTold 33 = .ok (.imul, 1) := by decide +kernel
theorem dX12_wishTold_34 : decode cX12_wishTold 34 = .ok (.iload_n 2, 1) := by decide +kernel
theorem dX12_wishTold_35 : decode cX12_wishTold 35 = .ok (.iadd, 1) := by decide +kernel
theorem dX12_wishTold_36 : decode cX12_wishTold 36 = .ok (.iload_n 3, 1) := by decide +kernel
theorem dX12_wishTold_37 : decode cX12_wishTold 37 = .ok (.iastore, 1) := by decide +kernel
theorem dX12_wishTold_38 : decode cX12_wishTold 38 = .ok (.return_, 1) := by decide +kernel
theorem dX12_doneOf_0 : decode cX12_doneOf 0 = .ok (.aload_n 0, 1) := by decide +kernel
theorem dX12_doneOf_1 : decode cX12_doneOf 1 = .ok (.getfield 142, 3) := by decide +kernel
theorem dX12_doneOf_4 : decode cX12_doneOf 4 = .ok (.bipush 8, 2) := by decide +kernel
theorem dX12_doneOf_6 : decode cX12_doneOf 6 = .ok (.iconst 3, 1) := by decide +kernel
theorem dX12_doneOf_7 : decode cX12_doneOf 7 = .ok (.iload_n 1, 1) := by decide +kernel
theorem dX12_doneOf_8 : decode cX12_doneOf 8 = .ok (.imul, 1) := by decide +kernel
theorem dX12_doneOf_9 : decode cX12_doneOf 9 = .ok (.iadd, 1) := by decide +kernel
theorem dX12_doneOf_10 : decode cX12_doneOf 10 = .ok (.iaload, 1) := by decide +kernel
theorem dX12_doneOf_11 : decode cX12_doneOf 11 = .ok (.ireturn, 1) := by decide +kernel
theorem dX12_undo_0 : decode cX12_undo 0 = .ok (.aload_n 0, 1) := by decide +kernel
theorem dX12_undo_1 : decode cX12_undo 1 = .ok (.getfield 413, 3) := by decide +kernel
theorem dX12_undo_4 : decode cX12_undo 4 = .ok (.ifCond .ne 15, 3) := by decide +kernel
theorem dX12_undo_7 : decode cX12_undo 7 = .ok (.aload_n 0, 1) := by decide +kernel
theorem dX12_undo_8 : decode cX12_undo 8 = .ok (.getfield 17, 3) := by decide +kernel
theorem dX12_undo_11 : decode cX12_undo 11 = .ok (.iconst 4, 1) := by decide +kernel
theorem dX12_undo_12 : decode cX12_undo 12 = .ok (.dup2, 1) := by decide +kernel
theorem dX12_undo_13 : decode cX12_undo 13 = .ok (.iaload, 1) := by decide +kernel
theorem dX12_undo_14 : decode cX12_undo 14 = .ok (.iconst 1, 1) := by decide +kernel
theorem dX12_undo_15 : decode cX12_undo 15 = .ok (.iadd, 1) := by decide +kernel
theorem dX12_undo_16 : decode cX12_undo 16 = .ok (.iastore, 1) := by decide +kernel
theorem dX12_undo_17 : decode cX12_undo 17 = .ok (.iconst 0, 1) := by decide +kernel
theorem dX12_undo_18 : decode cX12_undo 18 = .ok (.ireturn, 1) := by decide +kernel
theorem dX12_undo_19 : decode cX12_undo 19 = .ok (.iconst 0, 1) := by decide +kernel
theorem dX12_undo_20 : decode cX12_undo 20 = .ok (.istore_n 1, 1) := by decide +kernel
theorem dX12_undo_21 : decode cX12_undo 21 = .ok (.iload_n 1, 1) := by decide +kernel
theorem dX12_undo_22 : decode cX12_undo 22 = .ok (.bipush 32, 2) := by decide +kernel
theorem dX12_undo_24 : decode cX12_undo 24 = .ok (.if_icmp .ge 29, 3) := by decide +kernel
theorem dX12_undo_27 : decode cX12_undo 27 = .ok (.aload_n 0, 1) := by decide +kernel
theorem dX12_undo_28 : decode cX12_undo 28 = .ok (.getfield 142, 3) := by decide +kernel
theorem dX12_undo_31 : decode cX12_undo 31 = .ok (.iload_n 1, 1) := by decide +kernel
theorem dX12_undo_32 : decode cX12_undo 32 = .ok (.aload_n 0, 1) := by decide +kernel
theorem dX12_undo_33 : decode cX12_undo 33 = .ok (.getfield 172, 3) := by decide +kernel
theorem dX12_undo_36 : decode cX12_undo 36 = .ok (.bipush 32, 2) := by decide +kernel
theorem dX12_undo_38 : decode cX12_undo 38 = .ok (.aload_n 0, 1) := by decide +kernel
theorem dX12_undo_39 : decode cX12_undo 39 = .ok (.getfield 572, 3) := by decide +kernel
theorem dX12_undo_42 : decode cX12_undo 42 = .ok (.imul, 1) := by decide +kernel
theorem dX12_undo_43 : decode cX12_undo 43 = .ok (.iload_n 1, 1) := by decide +kernel
theorem dX12_undo_44 : decode cX12_undo 44 = .ok (.iadd, 1) := by decide +kernel
theorem dX12_undo_45 : decode cX12_undo 45 = .ok (.iaload, 1) := by decide +kernel
theorem dX12_undo_46 : decode cX12_undo 46 = .ok (.iastore, 1) := by decide +kernel
theorem dX12_undo_47 : decode cX12_undo 47 = .ok (.iinc 1 1, 3) := by decide +kernel
theorem dX12_undo_50 : decode cX12_undo 50 = .ok (.goto (-29), 3) := by decide +kernel
theorem dX12_undo_53 : decode cX12_undo 53 = .ok (.aload_n 0, 1) := by decide +kernel
theorem dX12_undo_54 : decode cX12_undo 54 = .ok (.aload_n 0, 1) := by decide +kernel
theorem dX12_undo_55 : decode cX12_undo 55 = .ok (.getfield 572, 3) := by decide +kernel
theorem dX12_undo_58 : decode cX12_undo 58 = .ok (.bipush 20, 2) := by decide +kernel
theorem dX12_undo_60 : decode cX12_undo 60 = .ok (.iadd, 1) := by decide +kernel
theorem dX12_undo_61 : decode cX12_undo 61 = .ok (.iconst 1, 1) := by decide +kernel
theorem dX12_undo_62 : decode cX12_undo 62 = .ok (.isub, 1) := by decide +kernel
theorem dX12_undo_63 : decode cX12_undo 63 = .ok (.bipush 20, 2) := by decide +kernel
theorem dX12_undo_65 : decode cX12_undo 65 = .ok (.irem, 1) := by decide +kernel
theorem dX12_undo_66 : decode cX12_undo 66 = .ok (.putfield 572, 3) := by decide +kernel
theorem dX12_undo_69 : decode cX12_undo 69 = .ok (.aload_n 0, 1) := by decide +kernel
theorem dX12_undo_70 : decode cX12_undo 70 = .ok (.dup, 1) := by decide +kernel
theorem dX12_undo_71 : decode cX12_undo 71 = .ok (.getfield 413, 3) := by decide +kernel
theorem dX12_undo_74 : decode cX12_undo 74 = .ok (.iconst 1, 1) := by decide +kernel
theorem dX12_undo_75 : decode cX12_undo 75 = .ok (.isub, 1) := by decide +kernel
theorem dX12_undo_76 : decode cX12_undo 76 = .ok (.putfield 413, 3) := by decide +kernel
theorem dX12_undo_79 : decode cX12_undo 79 = .ok (.iconst 1, 1) := by decide +kernel
theorem dX12_undo_80 : decode cX12_undo 80 = .ok (.ireturn, 1) := by decide +kernel
theorem dX12_takesSign_0 : decode cX12_takesSign 0 = .ok (.aload_n 0, 1) := by decide +kernel
theorem dX12_takesSign_1 : decode cX12_takesSign 1 = .ok (.getfield 263, 3) := by decide +kernel
theorem dX12_takesSign_4 : decode cX12_takesSign 4 = .ok (.ifCond .ne 11, 3) := by decide +kernel
theorem dX12_takesSign_7 : decode cX12_takesSign 7 = .ok (.aload_n 0, 1) := by decide +kernel
theorem dX12_takesSign_8 : decode cX12_takesSign 8 = .ok (.invokevirtual 275, 3) := by decide +kernel
theorem dX12_takesSign_11 : decode cX12_takesSign 11 = .ok (.iload_n 1, 1) := by decide +kernel
theorem dX12_takesSign_12 : decode cX12_takesSign 12 = .ok (.if_icmp .eq 5, 3) := by decide +kernel
theorem dX12_takesSign_15 : decode cX12_takesSign 15 = .ok (.iconst 0, 1) := by decide +kernel
theorem dX12_takesSign_16 : decode cX12_takesSign 16 = .ok (.ireturn, 1) := by decide +kernel
theorem dX12_takesSign_17 : decode cX12_takesSign 17 = .ok (.aload_n 0, 1) := by decide +kernel
theorem dX12_takesSign_18 : decode cX12_takesSign 18 = .ok (.dup, 1) := by decide +kernel
theorem dX12_takesSign_19 : decode cX12_takesSign 19 = .ok (.getfield 269, 3) := by decide +kernel
theorem dX12_takesSign_22 : decode cX12_takesSign 22 = .ok (.iconst 1, 1) := by decide +kernel
theorem dX12_takesSign_23 : decode cX12_takesSign 23 = .ok (.iadd, 1) := by decide +kernel
theorem dX12_takesSign_24 : decode cX12_takesSign 24 = .ok (.putfield 269, 3) := by decide +kernel
theorem dX12_takesSign_27 : decode cX12_takesSign 27 = .ok (.iconst 1, 1) := by decide +kernel
theorem dX12_takesSign_28 : decode cX12_takesSign 28 = .ok (.ireturn, 1) := by decide +kernel
theorem dX12_doesBear_0 : decode cX12_doesBear 0 = .ok (.aload_n 0, 1) := by decide +kernel
theorem dX12_doesBear_1 : decode cX12_doesBear 1 = .ok (.getfield 127, 3) := by decide +kernel
theorem dX12_doesBear_4 : decode cX12_doesBear 4 = .ok (.bipush 11, 2) := by decide +kernel
theorem dX12_doesBear_6 : decode cX12_doesBear 6 = .ok (.iconst 3, 1) := by decide +kernel
theorem dX12_doesBear_7 : decode cX12_doesBear 7 = .ok (.iload_n 2, 1) := by decide +kernel
theorem dX12_doesBear_8 : decode cX12_doesBear 8 = .ok (.imul, 1) := by decide +kernel
theorem dX12_doesBear_9 : decode cX12_doesBear 9 = .ok (.iadd, 1) := by decide +kernel
theorem dX12_doesBear_10 : decode cX12_doesBear 10 = .ok (.iaload, 1) := by decide +kernel
theorem dX12_doesBear_11 : decode cX12_doesBear 11 = .ok (.aload_n 0, 1) := by decide +kernel
theorem dX12_doesBear_12 : decode cX12_doesBear 12 = .ok (.getfield 112, 3) := by decide +kernel
theorem dX12_doesBear_15 : decode cX12_doesBear 15 = .ok (.bipush 26, 2) := by decide +kernel
theorem dX12_doesBear_17 : decode cX12_doesBear 17 = .ok (.iconst 3, 1) := by decide +kernel
theorem dX12_doesBear_18 : decode cX12_doesBear 18 = .ok (.iload_n 1, 1) := by decide +kernel
theorem dX12_doesBear_19 : decode cX12_doesBear 19 = .ok (.imul, 1) := by decide +kernel
theorem dX12_doesBear_20 : decode cX12_doesBear 20 = .ok (.iadd, 1) := by decide +kernel
theorem dX12_doesBear_21 : decode cX12_doesBear 21 = .ok (.iaload, 1) := by decide +kernel
theorem dX12_doesBear_22 : decode cX12_doesBear 22 = .ok (.if_icmp .lt 7, 3) := by decide +kernel
theorem dX12_doesBear_25 : decode cX12_doesBear 25 = .ok (.iconst 1, 1) := by decide +kernel
theorem dX12_doesBear_26 : decode cX12_doesBear 26 = .ok (.goto 4, 3) := by decide +kernel
theorem dX12_doesBear_29 : decode cX12_doesBear 29 = .ok (.iconst 0, 1) := by decide +kernel
theorem dX12_doesBear_30 : decode cX12_doesBear 30 = .ok (.ireturn, 1) := by decide +kernel
theorem dX12_warmth_0 : decode cX12_warmth 0 = .ok (.aload_n 0, 1) := by decide +kernel
theorem dX12_warmth_1 : decode cX12_warmth 1 = .ok (.iload_n 1, 1) := by decide +kernel
theorem dX12_warmth_2 : decode cX12_warmth 2 = .ok (.invokevirtual 501, 3) := by decide +kernel
theorem dX12_warmth_5 : decode cX12_warmth 5 = .ok (.ifCond .eq 20, 3) := by decide +kernel
theorem dX12_warmth_8 : decode cX12_warmth 8 = .ok (.aload_n 0, 1) := by decide +kernel
theorem dX12_warmth_9 : decode cX12_warmth 9 = .ok (.iload_n 2, 1) := by decide +kernel
theorem dX12_warmth_10 : decode cX12_warmth 10 = .ok (.invokevirtual 516, 3) := by decide +kernel
theorem dX12_warmth_13 : decode cX12_warmth 13 = .ok (.ifCond .eq 12, 3) := by decide +kernel
theorem dX12_warmth_16 : decode cX12_warmth 16 = .ok (.aload_n 0, 1) := by decide +kernel
theorem dX12_warmth_17 : decode cX12_warmth 17 = .ok (.iload_n 1, 1) := by decide +kernel
theorem dX12_warmth_18 : decode cX12_warmth 18 = .ok (.iload_n 2, 1) := by decide +kernel
theorem dX12_warmth_19 : decode cX12_warmth 19 = .ok (.invokevirtual 464, 3) := by decide +kernel
theorem dX12_warmth_22 : decode cX12_warmth 22 = .ok (.goto 6, 3) := by decide +kernel
theorem dX12_warmth_25 : decode cX12_warmth 25 = .ok (.ldc2_w 519, 3) := by decide +kernel
theorem dX12_warmth_28 : decode cX12_warmth 28 = .ok (.lreturn, 1) := by decide +kernel
theorem dX12_qWordOf_0 : decode cX12_qWordOf 0 = .ok (.aload_n 0, 1) := by decide +kernel
theorem dX12_qWordOf_1 : decode cX12_qWordOf 1 = .ok (.invokevirtual 603, 3) := by decide +kernel
theorem dX12_qWordOf_4 : decode cX12_qWordOf 4 = .ok (.istore_n 3, 1) := by decide +kernel
theorem dX12_qWordOf_5 : decode cX12_qWordOf 5 = .ok (.iload_n 3, 1) := by decide +kernel
theorem dX12_qWordOf_6 : decode cX12_qWordOf 6 = .ok (.iload_n 1, 1) := by decide +kernel
theorem dX12_qWordOf_7 : decode cX12_qWordOf 7 = .ok (.if_icmp .lt 20, 3) := by decide +kernel
theorem dX12_qWordOf_10 : decode cX12_qWordOf 10 = .ok (.iload_n 3, 1) := by decide +kernel
theorem dX12_qWordOf_11 : decode cX12_qWordOf 11 = .ok (.iload_n 2, 1) := by decide +kernel
theorem dX12_qWordOf_12 : decode cX12_qWordOf 12 = .ok (.if_icmp .ge 15, 3) := by decide +kernel
theorem dX12_qWordOf_15 : decode cX12_qWordOf 15 = .ok (.aload_n 0, 1) := by decide +kernel
theorem dX12_qWordOf_16 : decode cX12_qWordOf 16 = .ok (.iload_n 3, 1) := by decide +kernel
theorem dX12_qWordOf_17 : decode cX12_qWordOf 17 = .ok (.invokevirtual 606, 3) := by decide +kernel
theorem dX12_qWordOf_20 : decode cX12_qWordOf 20 = .ok (.ifCond .eq 7, 3) := by decide +kernel
theorem dX12_qWordOf_23 : decode cX12_qWordOf 23 = .ok (.iload_n 3, 1) := by decide +kernel
theorem dX12_qWordOf_24 : decode cX12_qWordOf 24 = .ok (.goto 4, 3) := by decide +kernel
theorem dX12_qWordOf_27 : decode cX12_qWordOf 27 = .ok (.iconst (-1), 1) := by decide +kernel
theorem dX12_qWordOf_28 : decode cX12_qWordOf 28 = .ok (.ireturn, 1) := by decide +kernel
theorem dX12_qOpens_0 : decode cX12_qOpens 0 = .ok (.aload_n 0, 1) := by decide +kernel
theorem dX12_qOpens_1 : decode cX12_qOpens 1 = .ok (.getfield 263, 3) := by decide +kernel
theorem dX12_qOpens_4 : decode cX12_qOpens 4 = .ok (.ifCond .eq 4, 3) := by decide +kernel
theorem dX12_qOpens_7 : decode cX12_qOpens 7 = .ok (.return_, 1) := by decide +kernel
theorem dX12_qOpens_8 : decode cX12_qOpens 8 = .ok (.aload_n 0, 1) := by decide +kernel
theorem dX12_qOpens_9 : decode cX12_qOpens 9 = .ok (.getfield 358, 3) := by decide +kernel
theorem dX12_qOpens_12 : decode cX12_qOpens 12 = .ok (.bipush 6, 2) := by decide +kernel
theorem dX12_qOpens_14 : decode cX12_qOpens 14 = .ok (.if_icmp .ne 10, 3) := by decide +kernel
theorem dX12_qOpens_17 : decode cX12_qOpens 17 = .ok (.aload_n 0, 1) := by decide +kernel
theorem dX12_qOpens_18 : decode cX12_qOpens 18 = .ok (.iconst 4, 1) := by decide +kernel
theorem dX12_qOpens_19 : decode cX12_qOpens 19 = .ok (.iload_n 2, 1) := by decide +kernel
theorem dX12_qOpens_20 : decode cX12_qOpens 20 = .ok (.invokevirtual 293, 3) := by decide +kernel
theorem dX12_qOpens_23 : decode cX12_qOpens 23 = .ok (.return_, 1) := by decide +kernel
theorem dX12_qOpens_24 : decode cX12_qOpens 24 = .ok (.aload_n 0, 1) := by decide +kernel
theorem dX12_qOpens_25 : decode cX12_qOpens 25 = .ok (.dup, 1) := by decide +kernel
theorem dX12_qOpens_26 : decode cX12_qOpens 26 = .ok (.getfield 358, 3) := by decide +kernel
theorem dX12_qOpens_29 : decode cX12_qOpens 29 = .ok (.iconst 1, 1) := by decide +kernel
theorem dX12_qOpens_30 : decode cX12_qOpens 30 = .ok (.iadd, 1) := by decide +kernel
theorem dX12_qOpens_31 : decode cX12_qOpens 31 = .ok (.putfield 358, 3) := by decide +kernel
theorem dX12_qOpens_34 : decode cX12_qOpens 34 = .ok (.aload_n 0, 1) := by decide +kernel
theorem dX12_qOpens_35 : decode cX12_qOpens 35 = .ok (.getfield 251, 3) := by decide +kernel
theorem dX12_qOpens_38 : decode cX12_qOpens 38 = .ok (.aload_n 0, 1) := by decide +kernel
theorem dX12_qOpens_39 : decode cX12_qOpens 39 = .ok (.getfield 355, 3) := by decide +kernel
theorem dX12_qOpens_42 : decode cX12_qOpens 42 = .ok (.iload_n 1, 1) := by decide +kernel
theorem dX12_qOpens_43 : decode cX12_qOpens 43 = .ok (.iastore, 1) := by decide +kernel
theorem dX12_qOpens_44 : decode cX12_qOpens 44 = .ok (.aload_n 0, 1) := by decide +kernel
theorem dX12_qOpens_45 : decode cX12_qOpens 45 = .ok (.dup, 1) := by decide +kernel
theorem dX12_qOpens_46 : decode cX12_qOpens 46 = .ok (.getfield 355, 3) := by decide +kernel
theorem dX12_qOpens_49 : decode cX12_qOpens 49 = .ok (.iconst 1, 1) := by decide +kernel
theorem dX12_qOpens_50 : decode cX12_qOpens 50 = .ok (.iadd, 1) := by decide +kernel
theorem dX12_qOpens_51 : decode cX12_qOpens 51 = .ok (.putfield 355, 3) := by decide +kernel
theorem dX12_qOpens_54 : decode cX12_qOpens 54 = .ok (.return_, 1) := by decide +kernel
theorem dX12_leftAnew_0 : decode cX12_leftAnew 0 = .ok (.iconst 0, 1) := by decide +kernel
theorem dX12_leftAnew_1 : decode cX12_leftAnew 1 = .ok (.istore_n 1, 1) := by decide +kernel
theorem dX12_leftAnew_2 : decode cX12_leftAnew 2 = .ok (.iload_n 1, 1) := by decide +kernel
theorem dX12_leftAnew_3 : decode cX12_leftAnew 3 = .ok (.aload_n 0, 1) := by decide +kernel
theorem dX12_leftAnew_4 : decode cX12_leftAnew 4 = .ok (.invokevirtual 422, 3) := by decide +kernel
theorem dX12_leftAnew_7 : decode cX12_leftAnew 7 = .ok (.if_icmp .ge 28, 3) := by decide +kernel
theorem dX12_leftAnew_10 : decode cX12_leftAnew 10 = .ok (.aload_n 0, 1) := by decide +kernel
theorem dX12_leftAnew_11 : decode cX12_leftAnew 11 = .ok (.getfield 142, 3) := by decide +kernel
theorem dX12_leftAnew_14 : decode cX12_leftAnew 14 = .ok (.iconst 1, 1) := by decide +kernel
theorem dX12_leftAnew_15 : decode cX12_leftAnew 15 = .ok (.iload_n 1, 1) := by decide +kernel
theorem dX12_leftAnew_16 : decode cX12_leftAnew 16 = .ok (.iadd, 1) := by decide +kernel
theorem dX12_leftAnew_17 : decode cX12_leftAnew 17 = .ok (.aload_n 0, 1) := by decide +kernel
theorem dX12_leftAnew_18 : decode cX12_leftAnew 18 = .ok (.getfield 127, 3) := by decide +kernel
theorem dX12_leftAnew_21 : decode cX12_leftAnew 21 = .ok (.bipush 9, 2) := by decide +kernel
theorem dX12_leftAnew_23 : decode cX12_leftAnew 23 = .ok (.iconst 3, 1) := by decide +kernel
theorem dX12_leftAnew_24 : decode cX12_leftAnew 24 = .ok (.iload_n 1, 1) := by decide +kernel
theorem dX12_leftAnew_25 : decode cX12_leftAnew 25 = .ok (.imul, 1) := by decide +kernel
theorem dX12_leftAnew_26 : decode cX12_leftAnew 26 = .ok (.iadd, 1) := by decide +kernel
theorem dX12_leftAnew_27 : decode cX12_leftAnew 27 = .ok (.iaload, 1) := by decide +kernel
theorem dX12_leftAnew_28 : decode cX12_leftAnew 28 = .ok (.iastore, 1) := by decide +kernel
theorem dX12_leftAnew_29 : decode cX12_leftAnew 29 = .ok (.iinc 1 1, 3) := by decide +kernel
theorem dX12_leftAnew_32 : decode cX12_leftAnew 32 = .ok (.goto (-30), 3) := by decide +kernel
theorem dX12_leftAnew_35 : decode cX12_leftAnew 35 = .ok (.return_, 1) := by decide +kernel
theorem dX12_give_0 : decode cX12_give 0 = .ok (.aload_n 0, 1) := by decide +kernel
theorem dX12_give_1 : decode cX12_give 1 = .ok (.iload_n 1, 1) := by decide +kernel
theorem dX12_give_2 : decode cX12_give 2 = .ok (.invokevirtual 501, 3) := by decide +kernel
theorem dX12_give_5 : decode cX12_give 5 = .ok (.ifCond .eq 30, 3) := by decide +kernel
theorem dX12_give_8 : decode cX12_give 8 = .ok (.aload_n 0, 1) := by decide +kernel
theorem dX12_give_9 : decode cX12_give 9 = .ok (.iload_n 2, 1) := by decide +kernel
theorem dX12_give_10 : decode cX12_give 10 = .ok (.invokevirtual 513, 3) := by decide +kernel
theorem dX12_give_13 : decode cX12_give 13 = .ok (.ifCond .eq 22, 3) := by decide +kernel
theorem dX12_give_16 : decode cX12_give 16 = .ok (.aload_n 0, 1) := by decide +kernel
theorem dX12_give_17 : decode cX12_give 17 = .ok (.iload_n 1, 1) := by decide +kernel
theorem dX12_give_18 : decode cX12_give 18 = .ok (.invokevirtual 507, 3) := by decide +kernel
theorem dX12_give_21 : decode cX12_give 21 = .ok (.ifCond .gt 14, 3) := by decide +kernel
theorem dX12_give_24 : decode cX12_give 24 = .ok (.aload_n 0, 1) := by decide +kernel
theorem dX12_give_25 : decode cX12_give 25 = .ok (.getfield 142, 3) := by decide +kernel
theorem dX12_give_28 : decode cX12_give 28 = .ok (.iconst 4, 1) := by decide +kernel
theorem dX12_give_29 : decode cX12_give 29 = .ok (.iload_n 2, 1) := by decide +kernel
theorem dX12_give_30 : decode cX12_give 30 = .ok (.iadd, 1) := by decide +kernel
theorem dX12_give_31 : decode cX12_give 31 = .ok (.iaload, 1) := by decide +kernel
theorem dX12_give_32 : decode cX12_give 32 = .ok (.ifCond .ne 9, 3) := by decide +kernel
theorem dX12_give_35 : decode cX12_give 35 = .ok (.aload_n 0, 1) := by decide +kernel
theorem dX12_give_36 : decode cX12_give 36 = .ok (.iconst 2, 1) := by decide +kernel
theorem dX12_give_37 : decode cX12_give 37 = .ok (.invokevirtual 560, 3) := by decide +kernel
theorem dX12_give_40 : decode cX12_give 40 = .ok (.ireturn, 1) := by decide +kernel
theorem dX12_give_41 : decode cX12_give 41 = .ok (.aload_n 0, 1) := by decide +kernel
theorem dX12_give_42 : decode cX12_give 42 = .ok (.invokevirtual 575, 3) := by decide +kernel
theorem dX12_give_45 : decode cX12_give 45 = .ok (.aload_n 0, 1) := by decide +kernel
theorem dX12_give_46 : decode cX12_give 46 = .ok (.getfield 142, 3) := by decide +kernel
theorem dX12_give_49 : decode cX12_give 49 = .ok (.iconst 4, 1) := by decide +kernel
theorem dX12_give_50 : decode cX12_give 50 = .ok (.iload_n 2, 1) := by decide +kernel
theorem dX12_give_51 : decode cX12_give 51 = .ok (.iadd, 1) := by decide +kernel
theorem dX12_give_52 : decode cX12_give 52 = .ok (.dup2, 1) := by decide +kernel
theorem dX12_give_53 : decode cX12_give 53 = .ok (.iaload, 1) := by decide +kernel
theorem dX12_give_54 : decode cX12_give 54 = .ok (.iconst 1, 1) := by decide +kernel
theorem dX12_give_55 : decode cX12_give 55 = .ok (.isub, 1) := by decide +kernel
theorem dX12_give_56 : decode cX12_give 56 = .ok (.iastore, 1) := by decide +kernel
theorem dX12_give_57 : decode cX12_give 57 = .ok (.aload_n 0, 1) := by decide +kernel
theorem dX12_give_58 : decode cX12_give 58 = .ok (.getfield 142, 3) := by decide +kernel
theorem dX12_give_61 : decode cX12_give 61 = .ok (.bipush 8, 2) := by decide +kernel
theorem dX12_give_63 : decode cX12_give 63 = .ok (.iconst 3, 1) := by decide +kernel
theorem dX12_give_64 : decode cX12_give 64 = .ok (.iload_n 1, 1) := by decide +kernel
theorem dX12_give_65 : decode cX12_give 65 = .ok (.imul, 1) := by decide +kernel
theorem dX12_give_66 : decode cX12_give 66 = .ok (.iadd, 1) := by decide +kernel
theorem dX12_give_67 : decode cX12_give 67 = .ok (.iconst 2, 1) := by decide +kernel
theorem dX12_give_68 : decode cX12_give 68 = .ok (.iadd, 1) := by decide +kernel
theorem dX12_give_69 : decode cX12_give 69 = .ok (.iload_n 2, 1) := by decide +kernel
theorem dX12_give_70 : decode cX12_give 70 = .ok (.iconst 1, 1) := by decide +kernel
theorem dX12_give_71 : decode cX12_give 71 = .ok (.iadd, 1) := by decide +kernel
theorem dX12_give_72 : decode cX12_give 72 = .ok (.iastore, 1) := by decide +kernel
theorem dX12_give_73 : decode cX12_give 73 = .ok (.aload_n 0, 1) := by decide +kernel
theorem dX12_give_74 : decode cX12_give 74 = .ok (.getfield 142, 3) := by decide +kernel
theorem dX12_give_77 : decode cX12_give 77 = .ok (.iconst 4, 1) := by decide +kernel
theorem dX12_give_78 : decode cX12_give 78 = .ok (.iload_n 2, 1) := by decide +kernel
theorem dX12_give_79 : decode cX12_give 79 = .ok (.iadd, 1) := by decide +kernel
theorem dX12_give_80 : decode cX12_give 80 = .ok (.iaload, 1) := by decide +kernel
theorem dX12_give_81 : decode cX12_give 81 = .ok (.ireturn, 1) := by decide +kernel
theorem dX12_name_0 : decode cX12_name 0 = .ok (.aload_n 0, 1) := by decide +kernel
theorem dX12_name_1 : decode cX12_name 1 = .ok (.getfield 263, 3) := by decide +kernel
theorem dX12_name_4 : decode cX12_name 4 = .ok (.ifCond .eq 5, 3) := by decide +kernel
theorem dX12_name_7 : decode cX12_name 7 = .ok (.lconst 0, 1) := by decide +kernel
theorem dX12_name_8 : decode cX12_name 8 = .ok (.lreturn, 1) := by decide +kernel
theorem dX12_name_9 : decode cX12_name 9 = .ok (.aload_n 0, 1) := by decide +kernel
theorem dX12_name_10 : decode cX12_name 10 = .ok (.invokevirtual 275, 3) := by decide +kernel
theorem dX12_name_13 : decode cX12_name 13 = .ok (.invokestatic 279, 3) := by decide +kernel
theorem dX12_name_16 : decode cX12_name 16 = .ok (.ifCond .eq 21, 3) := by decide +kernel
theorem dX12_name_19 : decode cX12_name 19 = .ok (.aload_n 0, 1) := by decide +kernel
theorem dX12_name_20 : decode cX12_name 20 = .ok (.getfield 269, 3) := by decide +kernel
theorem dX12_name_23 : decode cX12_name 23 = .ok (.aload_n 0, 1) := by decide +kernel
theorem dX12_name_24 : decode cX12_name 24 = .ok (.getfield 283, 3) := by decide +kernel
theorem dX12_name_27 : decode cX12_name 27 = .ok (.if_icmp .eq 10, 3) := by decide +kernel
theorem dX12_name_30 : decode cX12_name 30 = .ok (.aload_n 0, 1) := by decide +kernel
theorem dX12_name_31 : decode cX12_name 31 = .ok (.invokevirtual 307, 3) := by decide +kernel
theorem dX12_name_34 : decode cX12_name 34 = .ok (.ifCond .eq 14, 3) := by decide +kernel
theorem dX12_name_37 : decode cX12_name 37 = .ok (.aload_n 0, 1) := by decide +kernel
theorem dX12_name_38 : decode cX12_name 38 = .ok (.iconst 1, 1) := by decide +kernel
theorem dX12_name_39 : decode cX12_name 39 = .ok (.aload_n 0, 1) := by decide +kernel
theorem dX12_name_40 : decode cX12_name 40 = .ok (.getfield 269, 3) := by decide +kernel
theorem dX12_name_43 : decode cX12_name 43 = .ok (.invokevirtual 293, 3) := by decide +kernel
theorem dX12_name_46 : decode cX12_name 46 = .ok (.lconst 0, 1) := by decide +kernel
theorem dX12_name_47 : decode cX12_name 47 = .ok (.lreturn, 1) := by decide +kernel
theorem dX12_name_48 : decode cX12_name 48 = .ok (.aload_n 0, 1) := by decide +kernel
theorem dX12_name_49 : decode cX12_name 49 = .ok (.aload_n 0, 1) := by decide +kernel
theorem dX12_name_50 : decode cX12_name 50 = .ok (.getfield 269, 3) := by decide +kernel
theorem dX12_name_53 : decode cX12_name 53 = .ok (.putfield 311, 3) := by decide +kernel
theorem dX12_name_56 : decode cX12_name 56 = .ok (.lconst 0, 1) := by decide +kernel
theorem dX12_name_57 : decode cX12_name 57 = .ok (.lstore_n 1, 1) := by decide +kernel
theorem dX12_name_58 : decode cX12_name 58 = .ok (.aload_n 0, 1) := by decide +kernel
theorem dX12_name_59 : decode cX12_name 59 = .ok (.getfield 269, 3) := by decide +kernel
theorem dX12_name_62 : decode cX12_name 62 = .ok (.aload_n 0, 1) := by decide +kernel
theorem dX12_name_63 : decode cX12_name 63 = .ok (.getfield 272, 3) := by decide +kernel
theorem dX12_name_66 : decode cX12_name 66 = .ok (.if_icmp .ge 79, 3) := by decide +kernel
theorem dX12_name_69 : decode cX12_name 69 = .ok (.aload_n 0, 1) := by decide +kernel
theorem dX12_name_70 : decode cX12_name 70 = .ok (.getfield 7, 3) := by decide +kernel
theorem dX12_name_73 : decode cX12_name 73 = .ok (.aload_n 0, 1) := by decide +kernel
theorem dX12_name_74 : decode cX12_name 74 = .ok (.getfield 269, 3) := by decide +kernel
theorem dX12_name_77 : decode cX12_name 77 = .ok (.iaload, 1) := by decide +kernel
theorem dX12_name_78 : decode cX12_name 78 = .ok (.invokestatic 279, 3) := by decide +kernel
theorem dX12_name_81 : decode cX12_name 81 = .ok (.ifCond .eq 64, 3) := by decide +kernel
theorem dX12_name_84 : decode cX12_name 84 = .ok (.aload_n 0, 1) := by decide +kernel
theorem dX12_name_85 : decode cX12_name 85 = .ok (.getfield 269, 3) := by decide +kernel
theorem dX12_name_88 : decode cX12_name 88 = .ok (.aload_n 0, 1) := by decide +kernel
theorem dX12_name_89 : decode cX12_name 89 = .ok (.getfield 311, 3) := by decide +kernel
theorem dX12_name_92 : decode cX12_name 92 = .ok (.isub, 1) := by decide +kernel
theorem dX12_name_93 : decode cX12_name 93 = .ok (.bipush 6, 2) := by decide +kernel
theorem dX12_name_95 : decode cX12_name 95 = .ok (.if_icmp .ne 14, 3) := by decide +kernel
theorem dX12_name_98 : decode cX12_name 98 = .ok (.aload_n 0, 1) := by decide +kernel
theorem dX12_name_99 : decode cX12_name 99 = .ok (.iconst 1, 1) := by decide +kernel
theorem dX12_name_100 : decode cX12_name 100 = .ok (.aload_n 0, 1) := by decide +kernel
theorem dX12_name_101 : decode cX12_name 101 = .ok (.getfield 269, 3) := by decide +kernel
theorem dX12_name_104 : decode cX12_name 104 = .ok (.invokevirtual 293, 3) := by decide +kernel
theorem dX12_name_107 : decode cX12_name 107 = .ok (.lconst 0, 1) := by decide +kernel
theorem dX12_name_108 : decode cX12_name 108 = .ok (.lreturn, 1) := by decide +kernel
theorem dX12_name_109 : decode cX12_name 109 = .ok (.ldc2_w 314, 3) := by decide +kernel
theorem dX12_name_112 : decode cX12_name 112 = .ok (.lload_n 1, 1) := by decide +kernel
theorem dX12_name_113 : decode cX12_name 113 = .ok (.lmul, 1) := by decide +kernel
theorem dX12_name_114 : decode cX12_name 114 = .ok (.aload_n 0, 1) := by decide +kernel
theorem dX12_name_115 : decode cX12_name 115 = .ok (.getfield 7, 3) := by decide +kernel
theorem dX12_name_118 : decode cX12_name 118 = .ok (.aload_n 0, 1) := by decide +kernel
theorem dX12_name_119 : decode cX12_name 119 = .ok (.getfield 269, 3) := by decide +kernel
theorem dX12_name_122 : decode cX12_name 122 = .ok (.iaload, 1) := by decide +kernel
theorem dX12_name_123 : decode cX12_name 123 = .ok (.i2l, 1) := by decide +kernel
theorem dX12_name_124 : decode cX12_name 124 = .ok (.ladd, 1) := by decide +kernel
theorem dX12_name_125 : decode cX12_name 125 = .ok (.ldc2_w 316, 3) := by decide +kernel
theorem dX12_name_128 : decode cX12_name 128 = .ok (.lsub, 1) := by decide +kernel
theorem dX12_name_129 : decode cX12_name 129 = .ok (.lconst 1, 1) := by decide +kernel
theorem dX12_name_130 : decode cX12_name 130 = .ok (.ladd, 1) := by decide +kernel
theorem dX12_name_131 : decode cX12_name 131 = .ok (.lstore_n 1, 1) := by decide +kernel
theorem dX12_name_132 : decode cX12_name 132 = .ok (.aload_n 0, 1) := by decide +kernel
theorem dX12_name_133 : decode cX12_name 133 = .ok (.dup, 1) := by decide +kernel
theorem dX12_name_134 : decode cX12_name 134 = .ok (.getfield 269, 3) := by decide +kernel
theorem dX12_name_137 : decode cX12_name 137 = .ok (.iconst 1, 1) := by decide +kernel
theorem dX12_name_138 : decode cX12_name 138 = .ok (.iadd, 1) := by decide +kernel
theorem dX12_name_139 : decode cX12_name 139 = .ok (.putfield 269, 3) := by decide +kernel
theorem dX12_name_142 : decode cX12_name 142 = .ok (.goto (-84), 3) := by decide +kernel
theorem dX12_name_145 : decode cX12_name 145 = .ok (.aload_n 0, 1) := by decide +kernel
theorem dX12_name_146 : decode cX12_name 146 = .ok (.aload_n 0, 1) := by decide +kernel
theorem dX12_name_147 : decode cX12_name 147 = .ok (.getfield 269, 3) := by decide +kernel
theorem dX12_name_150 : decode cX12_name 150 = .ok (.putfield 283, 3) := by decide +kernel
theorem dX12_name_153 : decode cX12_name 153 = .ok (.lload_n 1, 1) := by decide +kernel
theorem dX12_name_154 : decode cX12_name 154 = .ok (.lreturn, 1) := by decide +kernel
theorem dX12_warmOf_0 : decode cX12_warmOf 0 = .ok (.aload_n 0, 1) := by decide +kernel
theorem dX12_warmOf_1 : decode cX12_warmOf 1 = .ok (.getfield 133, 3) := by decide +kernel
theorem dX12_warmOf_4 : decode cX12_warmOf 4 = .ok (.iconst 3, 1) := by decide +kernel
theorem dX12_warmOf_5 : decode cX12_warmOf 5 = .ok (.iaload, 1) := by decide +kernel
theorem dX12_warmOf_6 : decode cX12_warmOf 6 = .ok (.iconst (-1), 1) := by decide +kernel
theorem dX12_warmOf_7 : decode cX12_warmOf 7 = .ok (.if_icmp .ne 18, 3) := by decide +kernel
theorem dX12_warmOf_10 : decode cX12_warmOf 10 = .ok (.aload_n 0, 1) := by decide +kernel
theorem dX12_warmOf_11 : decode cX12_warmOf 11 = .ok (.getfield 127, 3) := by decide +kernel
theorem dX12_warmOf_14 : decode cX12_warmOf 14 = .ok (.bipush 10, 2) := by decide +kernel
theorem dX12_warmOf_16 : decode cX12_warmOf 16 = .ok (.iconst 3, 1) := by decide +kernel
theorem dX12_warmOf_17 : decode cX12_warmOf 17 = .ok (.iload_n 2, 1) := by decide +kernel
theorem dX12_warmOf_18 : decode cX12_warmOf 18 = .ok (.imul, 1) := by decide +kernel
theorem dX12_warmOf_19 : decode cX12_warmOf 19 = .ok (.iadd, 1) := by decide +kernel
theorem dX12_warmOf_20 : decode cX12_warmOf 20 = .ok (.iaload, 1) := by decide +kernel
theorem dX12_warmOf_21 : decode cX12_warmOf 21 = .ok (.i2l, 1) := by decide +kernel
theorem dX12_warmOf_22 : decode cX12_warmOf 22 = .ok (.goto 10, 3) := by decide +kernel
theorem dX12_warmOf_25 : decode cX12_warmOf 25 = .ok (.aload_n 0, 1) := by decide +kernel
theorem dX12_warmOf_26 : decode cX12_warmOf 26 = .ok (.iconst 1, 1) := by decide +kernel
theorem dX12_warmOf_27 : decode cX12_warmOf 27 = .ok (.iload_n 1, 1) := by decide +kernel
theorem dX12_warmOf_28 : decode cX12_warmOf 28 = .ok (.iload_n 2, 1) := by decide +kernel
theorem dX12_warmOf_29 : decode cX12_warmOf 29 = .ok (.invokevirtual 445, 3) := by decide +kernel
theorem dX12_warmOf_32 : decode cX12_warmOf 32 = .ok (.lreturn, 1) := by decide +kernel
theorem dX12_on_0 : decode cX12_on 0 = .ok (.aload_n 0, 1) := by decide +kernel
theorem dX12_on_1 : decode cX12_on 1 = .ok (.getfield 260, 3) := by decide +kernel
theorem dX12_on_4 : decode cX12_on 4 = .ok (.istore_n 1, 1) := by decide +kernel
theorem dX12_on_5 : decode cX12_on 5 = .ok (.aload_n 0, 1) := by decide +kernel
theorem dX12_on_6 : decode cX12_on 6 = .ok (.iconst 0, 1) := by decide +kernel
theorem dX12_on_7 : decode cX12_on 7 = .ok (.putfield 260, 3) := by decide +kernel
theorem dX12_on_10 : decode cX12_on 10 = .ok (.aload_n 0, 1) := by decide +kernel
theorem dX12_on_11 : decode cX12_on 11 = .ok (.iload_n 1, 1) := by decide +kernel
theorem dX12_on_12 : decode cX12_on 12 = .ok (.invokevirtual 699, 3) := by decide +kernel
theorem dX12_on_15 : decode cX12_on 15 = .ok (.ifCond .ne 15, 3) := by decide +kernel
theorem dX12_on_18 : decode cX12_on 18 = .ok (.aload_n 0, 1) := by decide +kernel
theorem dX12_on_19 : decode cX12_on 19 = .ok (.getfield 17, 3) := by decide +kernel
theorem dX12_on_22 : decode cX12_on 22 = .ok (.iconst 5, 1) := by decide +kernel
theorem dX12_on_23 : decode cX12_on 23 = .ok (.dup2, 1) := by decide +kernel
theorem dX12_on_24 : decode cX12_on 24 = .ok (.iaload, 1) := by decide +kernel
theorem dX12_on_25 : decode cX12_on 25 = .ok (.iconst 1, 1) := by decide +kernel
theorem dX12_on_26 : decode cX12_on 26 = .ok (.iadd, 1) := by decide +kernel
theorem dX12_on_27 : decode cX12_on 27 = .ok (.iastore, 1) := by decide +kernel
theorem dX12_on_28 : decode cX12_on 28 = .ok (.iconst 0, 1) := by decide +kernel
theorem dX12_on_29 : decode cX12_on 29 = .ok (.ireturn, 1) := by decide +kernel
theorem dX12_on_30 : decode cX12_on 30 = .ok (.aload_n 0, 1) := by decide +kernel
theorem dX12_on_31 : decode cX12_on 31 = .ok (.getfield 142, 3) := by decide +kernel
theorem dX12_on_34 : decode cX12_on 34 = .ok (.iconst 0, 1) := by decide +kernel
theorem dX12_on_35 : decode cX12_on 35 = .ok (.sipush 256, 3) := by decide +kernel
theorem dX12_on_38 : decode cX12_on 38 = .ok (.aload_n 0, 1) := by decide +kernel
theorem dX12_on_39 : decode cX12_on 39 = .ok (.getfield 7, 3) := by decide +kernel
theorem dX12_on_42 : decode cX12_on 42 = .ok (.iconst 0, 1) := by decide +kernel
theorem dX12_on_43 : decode cX12_on 43 = .ok (.iaload, 1) := by decide +kernel
theorem dX12_on_44 : decode cX12_on 44 = .ok (.imul, 1) := by decide +kernel
theorem dX12_on_45 : decode cX12_on 45 = .ok (.aload_n 0, 1) := by decide +kernel
theorem dX12_on_46 : decode cX12_on 46 = .ok (.getfield 7, 3) := by decide +kernel
theorem dX12_on_49 : decode cX12_on 49 = .ok (.iconst 1, 1) := by decide +kernel
theorem dX12_on_50 : decode cX12_on 50 = .ok (.iaload, 1) := by decide +kernel
theorem dX12_on_51 : decode cX12_on 51 = .ok (.iadd, 1) := by decide +kernel
theorem dX12_on_52 : decode cX12_on 52 = .ok (.iastore, 1) := by decide +kernel
theorem dX12_on_53 : decode cX12_on 53 = .ok (.iconst 2, 1) := by decide +kernel
theorem dX12_on_54 : decode cX12_on 54 = .ok (.istore_n 2, 1) := by decide +kernel
theorem dX12_on_55 : decode cX12_on 55 = .ok (.iconst 0, 1) := by decide +kernel
theorem dX12_on_56 : decode cX12_on 56 = .ok (.istore_n 3, 1) := by decide +kernel
theorem dX12_on_57 : decode cX12_on 57 = .ok (.iload_n 3, 1) := by decide +kernel
theorem dX12_on_58 : decode cX12_on 58 = .ok (.aload_n 0, 1) := by decide +kernel
theorem dX12_on_59 : decode cX12_on 59 = .ok (.invokevirtual 422, 3) := by decide +kernel
theorem dX12_on_62 : decode cX12_on 62 = .ok (.if_icmp .ge 26, 3) := by decide +kernel
theorem dX12_on_65 : decode cX12_on 65 = .ok (.aload_n 0, 1) := by decide +kernel
theorem dX12_on_66 : decode cX12_on 66 = .ok (.getfield 142, 3) := by decide +kernel
theorem dX12_on_69 : decode cX12_on 69 = .ok (.iconst 1, 1) := by decide +kernel
theorem dX12_on_70 : decode cX12_on 70 = .ok (.iload_n 3, 1) := by decide +kernel
theorem dX12_on_71 : decode cX12_on 71 = .ok (.iadd, 1) := by decide +kernel
theorem dX12_on_72 : decode cX12_on 72 = .ok (.aload_n 0, 1) := by decide +kernel
theorem dX12_on_73 : decode cX12_on 73 = .ok (.getfield 7, 3) := by decide +kernel
theorem dX12_on_76 : decode cX12_on 76 = .ok (.iload_n 2, 1) := by decide +kernel
theorem dX12_on_77 : decode cX12_on 77 = .ok (.iaload, 1) := by decide +kernel
theorem dX12_on_78 : decode cX12_on 78 = .ok (.iastore, 1) := by decide +kernel
theorem dX12_on_79 : decode cX12_on 79 = .ok (.iinc 2 1, 3) := by decide +kernel
theorem dX12_on_82 : decode cX12_on 82 = .ok (.iinc 3 1, 3) := by decide +kernel
theorem dX12_on_85 : decode cX12_on 85 = .ok (.goto (-28), 3) := by decide +kernel
theorem dX12_on_88 : decode cX12_on 88 = .ok (.iconst 0, 1) := by decide +kernel
theorem dX12_on_89 : decode cX12_on 89 = .ok (.istore_n 3, 1) := by decide +kernel
theorem dX12_on_90 : decode cX12_on 90 = .ok (.iload_n 3, 1) := by decide +kernel
theorem dX12_on_91 : decode cX12_on 91 = .ok (.aload_n 0, 1) := by decide +kernel
theorem dX12_on_92 : decode cX12_on 92 = .ok (.invokevirtual 410, 3) := by decide +kernel
theorem dX12_on_95 : decode cX12_on 95 = .ok (.if_icmp .ge 26, 3) := by decide +kernel
theorem dX12_on_98 : decode cX12_on 98 = .ok (.aload_n 0, 1) := by decide +kernel
theorem dX12_on_99 : decode cX12_on 99 = .ok (.getfield 142, 3) := by decide +kernel
theorem dX12_on_102 : decode cX12_on 102 = .ok (.iconst 4, 1) := by decide +kernel
theorem dX12_on_103 : decode cX12_on 103 = .ok (.iload_n 3, 1) := by decide +kernel
theorem dX12_on_104 : decode cX12_on 104 = .ok (.iadd, 1) := by decide +kernel
theorem dX12_on_105 : decode cX12_on 105 = .ok (.aload_n 0, 1) := by decide +kernel
theorem dX12_on_106 : decode cX12_on 106 = .ok (.getfield 7, 3) := by decide +kernel
theorem dX12_on_109 : decode cX12_on 109 = .ok (.iload_n 2, 1) := by decide +kernel
theorem dX12_on_110 : decode cX12_on 110 = .ok (.iaload, 1) := by decide +kernel
theorem dX12_on_111 : decode cX12_on 111 = .ok (.iastore, 1) := by decide +kernel
theorem dX12_on_112 : decode cX12_on 112 = .ok (.iinc 2 1, 3) := by decide +kernel
theorem dX12_on_115 : decode cX12_on 115 = .ok (.iinc 3 1, 3) := by decide +kernel
theorem dX12_on_118 : decode cX12_on 118 = .ok (.goto (-28), 3) := by decide +kernel
theorem dX12_on_121 : decode cX12_on 121 = .ok (.iconst 0, 1) := by decide +kernel
theorem dX12_on_122 : decode cX12_on 122 = .ok (.istore_n 3, 1) := by decide +kernel
theorem dX12_on_123 : decode cX12_on 123 = .ok (.iload_n 3, 1) := by decide +kernel
theorem dX12_on_124 : decode cX12_on 124 = .ok (.iconst 3, 1) := by decide +kernel
theorem dX12_on_125 : decode cX12_on 125 = .ok (.aload_n 0, 1) := by decide +kernel
theorem dX12_on_126 : decode cX12_on 126 = .ok (.invokevirtual 419, 3) := by decide +kernel
theorem dX12_on_129 : decode cX12_on 129 = .ok (.imul, 1) := by decide +kernel
theorem dX12_on_130 : decode cX12_on 130 = .ok (.if_icmp .ge 26, 3) := by decide +kernel
theorem dX12_on_133 : decode cX12_on 133 = .ok (.aload_n 0, 1) := by decide +kernel
theorem dX12_on_134 : decode cX12_on 134 = .ok (.getfield 142, 3) := by decide +kernel
theorem dX12_on_137 : decode cX12_on 137 = .ok (.bipush 8, 2) := by decide +kernel
theorem dX12_on_139 : decode cX12_on 139 = .ok (.iload_n 3, 1) := by decide +kernel
theorem dX12_on_140 : decode cX12_on 140 = .ok (.iadd, 1) := by decide +kernel
theorem dX12_on_141 : decode cX12_on 141 = .ok (.aload_n 0, 1) := by decide +kernel
theorem dX12_on_142 : decode cX12_on 142 = .ok (.getfield 7, 3) := by decide +kernel
theorem dX12_on_145 : decode cX12_on 145 = .ok (.iload_n 2, 1) := by decide +kernel
theorem dX12_on_146 : decode cX12_on 146 = .ok (.iload_n 3, 1) := by decide +kernel
theorem dX12_on_147 : decode cX12_on 147 = .ok (.iadd, 1) := by decide +kernel
theorem dX12_on_148 : decode cX12_on 148 = .ok (.iaload, 1) := by decide +kernel
theorem dX12_on_149 : decode cX12_on 149 = .ok (.iastore, 1) := by decide +kernel
theorem dX12_on_150 : decode cX12_on 150 = .ok (.iinc 3 1, 3) := by decide +kernel
theorem dX12_on_153 : decode cX12_on 153 = .ok (.goto (-30), 3) := by decide +kernel
theorem dX12_on_156 : decode cX12_on 156 = .ok (.aload_n 0, 1) := by decide +kernel
theorem dX12_on_157 : decode cX12_on 157 = .ok (.iconst 0, 1) := by decide +kernel
theorem dX12_on_158 : decode cX12_on 158 = .ok (.putfield 413, 3) := by decide +kernel
theorem dX12_on_161 : decode cX12_on 161 = .ok (.iconst 1, 1) := by decide +kernel
theorem dX12_on_162 : decode cX12_on 162 = .ok (.ireturn, 1) := by decide +kernel
theorem dX12_answeredMany_0 : decode cX12_answeredMany 0 = .ok (.iconst 0, 1) := by decide +kernel
theorem dX12_answeredMany_1 : decode cX12_answeredMany 1 = .ok (.istore_n 1, 1) := by decide +kernel
theorem dX12_answeredMany_2 : decode cX12_answeredMany 2 = .ok (.iconst 0, 1) := by decide +kernel
theorem dX12_answeredMany_3 : decode cX12_answeredMany 3 = .ok (.istore_n 2, 1) := by decide +kernel
theorem dX12_answeredMany_4 : decode cX12_answeredMany 4 = .ok (.iload_n 2, 1) := by decide +kernel
theorem dX12_answeredMany_5 : decode cX12_answeredMany 5 = .ok (.aload_n 0, 1) := by decide +kernel
theorem dX12_answeredMany_6 : decode cX12_answeredMany 6 = .ok (.invokevirtual 419, 3) := by decide +kernel
theorem dX12_answeredMany_9 : decode cX12_answeredMany 9 = .ok (.if_icmp .ge 20, 3) := by decide +kernel
theorem dX12_answeredMany_12 : decode cX12_answeredMany 12 = .ok (.aload_n 0, 1) := by decide +kernel
theorem dX12_answeredMany_13 : decode cX12_answeredMany 13 = .ok (.iload_n 2, 1) := by decide +kernel
theorem dX12_answeredMany_14 : decode cX12_answeredMany 14 = .ok (.invokevirtual 451, 3) := by decide +kernel
theorem dX12_answeredMany_17 : decode cX12_answeredMany 17 = .ok (.ifCond .le 6, 3) := by decide +kernel
theorem dX12_answeredMany_20 : decode cX12_answeredMany 20 = .ok (.iinc 1 1, 3) := by decide +kernel
theorem dX12_answeredMany_23 : decode cX12_answeredMany 23 = .ok (.iinc 2 1, 3) := by decide +kernel
theorem dX12_answeredMany_26 : decode cX12_answeredMany 26 = .ok (.goto (-22), 3) := by decide +kernel
theorem dX12_answeredMany_29 : decode cX12_answeredMany 29 = .ok (.iload_n 1, 1) := by decide +kernel
theorem dX12_answeredMany_30 : decode cX12_answeredMany 30 = .ok (.ireturn, 1) := by decide +kernel
theorem dX12_sheets_0 : decode cX12_sheets 0 = .ok (.iload_n 1, 1) := by decide +kernel
theorem dX12_sheets_1 : decode cX12_sheets 1 = .ok (.iconst (-1), 1) := by decide +kernel
theorem dX12_sheets_2 : decode cX12_sheets 2 = .ok (.if_icmp .eq 13, 3) := by decide +kernel
theorem dX12_sheets_5 : decode cX12_sheets 5 = .ok (.aload_n 0, 1) := by decide +kernel
theorem dX12_sheets_6 : decode cX12_sheets 6 = .ok (.iload_n 1, 1) := by decide +kernel
theorem dX12_sheets_7 : decode cX12_sheets 7 = .ok (.invokevirtual 501, 3) := by decide +kernel
theorem dX12_sheets_10 : decode cX12_sheets 10 = .ok (.ifCond .ne 5, 3) := by decide +kernel
theorem dX12_sheets_13 : decode cX12_sheets 13 = .ok (.iconst (-1), 1) := by decide +kernel
theorem dX12_sheets_14 : decode cX12_sheets 14 = .ok (.ireturn, 1) := by decide +kernel
theorem dX12_sheets_15 : decode cX12_sheets 15 = .ok (.iconst 0, 1) := by decide +kernel
theorem dX12_sheets_16 : decode cX12_sheets 16 = .ok (.istore_n 2, 1) := by decide +kernel
theorem dX12_sheets_17 : decode cX12_sheets 17 = .ok (.aload_n 0, 1) := by decide +kernel
theorem dX12_sheets_18 : decode cX12_sheets 18 = .ok (.iload_n 2, 1) := by decide +kernel
theorem dX12_sheets_19 : decode cX12_sheets 19 = .ok (.invokevirtual 542, 3) := by decide +kernel
theorem dX12_sheets_22 : decode cX12_sheets 22 = .ok (.ifCond .ne 9, 3) := by decide +kernel
theorem dX12_sheets_25 : decode cX12_sheets 25 = .ok (.iinc 2 1, 3) := by decide +kernel
theorem dX12_sheets_28 : decode cX12_sheets 28 = .ok (.goto (-11), 3) := by decide +kernel
theorem dX12_sheets_31 : decode cX12_sheets 31 = .ok (.iload_n 1, 1) := by decide +kernel
theorem dX12_sheets_32 : decode cX12_sheets 32 = .ok (.iconst (-1), 1) := by decide +kernel
theorem dX12_sheets_33 : decode cX12_sheets 33 = .ok (.if_icmp .ne 7, 3) := by decide +kernel
theorem dX12_sheets_36 : decode cX12_sheets 36 = .ok (.iload_n 2, 1) := by decide +kernel
theorem dX12_sheets_37 : decode cX12_sheets 37 = .ok (.goto 9, 3) := by decide +kernel
theorem dX12_sheets_40 : decode cX12_sheets 40 = .ok (.aload_n 0, 1) := by decide +kernel
theorem dX12_sheets_41 : decode cX12_sheets 41 = .ok (.getfield 148, 3) := by decide +kernel
theorem dX12_sheets_44 : decode cX12_sheets 44 = .ok (.iload_n 1, 1) := by decide +kernel
theorem dX12_sheets_45 : decode cX12_sheets 45 = .ok (.iaload, 1) := by decide +kernel
theorem dX12_sheets_46 : decode cX12_sheets 46 = .ok (.ireturn, 1) := by decide +kernel
theorem dX12_helper_0 : decode cX12_helper 0 = .ok (.aload_n 0, 1) := by decide +kernel
theorem dX12_helper_1 : decode cX12_helper 1 = .ok (.iload_n 1, 1) := by decide +kernel
theorem dX12_helper_2 : decode cX12_helper 2 = .ok (.invokevirtual 516, 3) := by decide +kernel
theorem dX12_helper_5 : decode cX12_helper 5 = .ok (.ifCond .ne 5, 3) := by decide +kernel
theorem dX12_helper_8 : decode cX12_helper 8 = .ok (.iconst (-1), 1) := by decide +kernel
theorem dX12_helper_9 : decode cX12_helper 9 = .ok (.ireturn, 1) := by decide +kernel
theorem dX12_helper_10 : decode cX12_helper 10 = .ok (.iconst 0, 1) := by decide +kernel
theorem dX12_helper_11 : decode cX12_helper 11 = .ok (.istore_n 3, 1) := by decide +kernel
theorem dX12_helper_12 : decode cX12_helper 12 = .ok (.iconst 0, 1) := by decide +kernel
theorem dX12_helper_13 : decode cX12_helper 13 = .ok (.istore 4, 2) := by decide +kernel
theorem dX12_helper_15 : decode cX12_helper 15 = .ok (.iload 4, 2) := by decide +kernel
theorem dX12_helper_17 : decode cX12_helper 17 = .ok (.aload_n 0, 1) := by decide +kernel
theorem dX12_helper_18 : decode cX12_helper 18 = .ok (.invokevirtual 419, 3) := by decide +kernel
theorem dX12_helper_21 : decode cX12_helper 21 = .ok (.if_icmp .ge 28, 3) := by decide +kernel
theorem dX12_helper_24 : decode cX12_helper 24 = .ok (.aload_n 0, 1) := by decide +kernel
theorem dX12_helper_25 : decode cX12_helper 25 = .ok (.iload 4, 2) := by decide +kernel
theorem dX12_helper_27 : decode cX12_helper 27 = .ok (.invokevirtual 451, 3) := by decide +kernel
theorem dX12_helper_30 : decode cX12_helper 30 = .ok (.iload_n 1, 1) := by decide +kernel
theorem dX12_helper_31 : decode cX12_helper 31 = .ok (.iconst 1, 1) := by decide +kernel
theorem dX12_helper_32 : decode cX12_helper 32 = .ok (.iadd, 1) := by decide +kernel
theorem dX12_helper_33 : decode cX12_helper 33 = .ok (.if_icmp .ne 10, 3) := by decide +kernel
theorem dX12_helper_36 : decode cX12_helper 36 = .ok (.iload_n 3, 1) := by decide +kernel
theorem dX12_helper_37 : decode cX12_helper 37 = .ok (.iconst 1, 1) := by decide +kernel
theorem dX12_helper_38 : decode cX12_helper 38 = .ok (.iload 4, 2) := by decide +kernel
theorem dX12_helper_40 : decode cX12_helper 40 = .ok (.ishl, 1) := by decide +kernel
theorem dX12_helper_41 : decode cX12_helper 41 = .ok (.ior, 1) := by decide +kernel
theorem dX12_helper_42 : decode cX12_helper 42 = .ok (.istore_n 3, 1) := by decide +kernel
theorem dX12_helper_43 : decode cX12_helper 43 = .ok (.iinc 4 1, 3) := by decide +kernel
theorem dX12_helper_46 : decode cX12_helper 46 = .ok (.goto (-31), 3) := by decide +kernel
theorem dX12_helper_49 : decode cX12_helper 49 = .ok (.iload_n 2, 1) := by decide +kernel
theorem dX12_helper_50 : decode cX12_helper 50 = .ok (.i2l, 1) := by decide +kernel
theorem dX12_helper_51 : decode cX12_helper 51 = .ok (.lconst 0, 1) := by decide +kernel
theorem dX12_helper_52 : decode cX12_helper 52 = .ok (.ldc2_w 497, 3) := by decide +kernel
theorem dX12_helper_55 : decode cX12_helper 55 = .ok (.invokestatic 303, 3) := by decide +kernel
theorem dX12_helper_58 : decode cX12_helper 58 = .ok (.ifCond .eq 19, 3) := by decide +kernel
theorem dX12_helper_61 : decode cX12_helper 61 = .ok (.aload_n 0, 1) := by decide +kernel
theorem dX12_helper_62 : decode cX12_helper 62 = .ok (.getfield 127, 3) := by decide +kernel
theorem dX12_helper_65 : decode cX12_helper 65 = .ok (.bipush 9, 2) := by decide +kernel
theorem dX12_helper_67 : decode cX12_helper 67 = .ok (.iconst 3, 1) := by decide +kernel
theorem dX12_helper_68 : decode cX12_helper 68 = .ok (.iload_n 1, 1) := by decide +kernel
theorem dX12_helper_69 : decode cX12_helper 69 = .ok (.imul, 1) := by decide +kernel
theorem dX12_helper_70 : decode cX12_helper 70 = .ok (.iadd, 1) := by decide +kernel
theorem dX12_helper_71 : decode cX12_helper 71 = .ok (.iload_n 2, 1) := by decide +kernel
theorem dX12_helper_72 : decode cX12_helper 72 = .ok (.iadd, 1) := by decide +kernel
theorem dX12_helper_73 : decode cX12_helper 73 = .ok (.iaload, 1) := by decide +kernel
theorem dX12_helper_74 : decode cX12_helper 74 = .ok (.goto 26, 3) := by decide +kernel
theorem dX12_helper_77 : decode cX12_helper 77 = .ok (.iload_n 2, 1) := by decide +kernel
theorem dX12_helper_78 : decode cX12_helper 78 = .ok (.iconst 3, 1) := by decide +kernel
theorem dX12_helper_79 : decode cX12_helper 79 = .ok (.if_icmp .ne 11, 3) := by decide +kernel
theorem dX12_helper_82 : decode cX12_helper 82 = .ok (.aload_n 0, 1) := by decide +kernel
theorem dX12_helper_83 : decode cX12_helper 83 = .ok (.iload_n 1, 1) := by decide +kernel
theorem dX12_helper_84 : decode cX12_helper 84 = .ok (.invokevirtual 458, 3) := by decide +kernel
theorem dX12_helper_87 : decode cX12_helper 87 = .ok (.goto 13, 3) := by decide +kernel
theorem dX12_helper_90 : decode cX12_helper 90 = .ok (.iload_n 2, 1) := by decide +kernel
theorem dX12_helper_91 : decode cX12_helper 91 = .ok (.iconst 4, 1) := by decide +kernel
theorem dX12_helper_92 : decode cX12_helper 92 = .ok (.if_icmp .ne 7, 3) := by decide +kernel
theorem dX12_helper_95 : decode cX12_helper 95 = .ok (.iload_n 3, 1) := by decide +kernel
theorem dX12_helper_96 : decode cX12_helper 96 = .ok (.goto 4, 3) := by decide +kernel
theorem dX12_helper_99 : decode cX12_helper 99 = .ok (.iconst (-1), 1) := by decide +kernel
theorem dX12_helper_100 : decode cX12_helper 100 = .ok (.ireturn, 1) := by decide +kernel
theorem dX12_isAsTold_0 : decode cX12_isAsTold 0 = .ok (.iconst 0, 1) := by decide +kernel
theorem dX12_isAsTold_1 : decode cX12_isAsTold 1 = .ok (.istore_n 2, 1) := by decide +kernel
theorem dX12_isAsTold_2 : decode cX12_isAsTold 2 = .ok (.iload_n 2, 1) := by decide +kernel
theorem dX12_isAsTold_3 : decode cX12_isAsTold 3 = .ok (.aload_n 0, 1) := by decide +kernel
theorem dX12_isAsTold_4 : decode cX12_isAsTold 4 = .ok (.getfield 416, 3) := by decide +kernel
theorem dX12_isAsTold_7 : decode cX12_isAsTold 7 = .ok (.if_icmp .ge 52, 3) := by decide +kernel
theorem dX12_isAsTold_10 : decode cX12_isAsTold 10 = .ok (.aload_n 0, 1) := by decide +kernel
theorem dX12_isAsTold_11 : decode cX12_isAsTold 11 = .ok (.aload_n 0, 1) := by decide +kernel
theorem dX12_isAsTold_12 : decode cX12_isAsTold 12 = .ok (.getfield 169, 3) := by decide +kernel
theorem dX12_isAsTold_15 : decode cX12_isAsTold 15 = .ok (.iconst 3, 1) := by decide +kernel
theorem dX12_isAsTold_16 : decode cX12_isAsTold 16 = .ok (.iload_n 2, 1) := by decide +kernel
theorem dX12_isAsTold_17 : decode cX12_isAsTold 17 = .ok (.imul, 1) := by decide +kernel
theorem dX12_isAsTold_18 : decode cX12_isAsTold 18 = .ok (.iaload, 1) := by decide +kernel
theorem dX12_isAsTold_19 : decode cX12_isAsTold 19 = .ok (.iload_n 1, 1) := by decide +kernel
theorem dX12_isAsTold_20 : decode cX12_isAsTold 20 = .ok (.invokevirtual 461, 3) := by decide +kernel
theorem dX12_isAsTold_23 : decode cX12_isAsTold 23 = .ok (.sipush 256, 3) := by decide +kernel
theorem dX12_isAsTold_26 : decode cX12_isAsTold 26 = .ok (.aload_n 0, 1) := by decide +kernel
theorem dX12_isAsTold_27 : decode cX12_isAsTold 27 = .ok (.getfield 169, 3) := by decide +kernel
theorem dX12_isAsTold_30 : decode cX12_isAsTold 30 = .ok (.iconst 3, 1) := by decide +kernel
theorem dX12_isAsTold_31 : decode cX12_isAsTold 31 = .ok (.iload_n 2, 1) := by decide +kernel
theorem dX12_isAsTold_32 : decode cX12_isAsTold 32 = .ok (.imul, 1) := by decide +kernel
theorem dX12_isAsTold_33 : decode cX12_isAsTold 33 = .ok (.iconst 1, 1) := by decide +kernel
theorem dX12_isAsTold_34 : decode cX12_isAsTold 34 = .ok (.iadd, 1) := by decide +kernel
theorem dX12_isAsTold_35 : decode cX12_isAsTold 35 = .ok (.iaload, 1) := by decide +kernel
theorem dX12_isAsTold_36 : decode cX12_isAsTold 36 = .ok (.imul, 1) := by decide +kernel
theorem dX12_isAsTold_37 : decode cX12_isAsTold 37 = .ok (.aload_n 0, 1) := by decide +kernel
theorem dX12_isAsTold_38 : decode cX12_isAsTold 38 = .ok (.getfield 169, 3) := by decide +kernel
theorem dX12_isAsTold_41 : decode cX12_isAsTold 41 = .ok (.iconst 3, 1) := by decide +kernel
theorem dX12_isAsTold_42 : decode cX12_isAsTold 42 = .ok (.iload_n 2, 1) := by decide +kernel
theorem dX12_isAsTold_43 : decode cX12_isAsTold 43 = .ok (.imul, 1) := by decide +kernel
theorem dX12_isAsTold_44 : decode cX12_isAsTold 44 = .ok (.iconst 2, 1) := by decide +kernel
theorem dX12_isAsTold_45 : decode cX12_isAsTold 45 = .ok (.iadd, 1) := by decide +kernel
theorem dX12_isAsTold_46 : decode cX12_isAsTold 46 = .ok (.iaload, 1) := by decide +kernel
theorem dX12_isAsTold_47 : decode cX12_isAsTold 47 = .ok (.iadd, 1) := by decide +kernel
theorem dX12_isAsTold_48 : decode cX12_isAsTold 48 = .ok (.if_icmp .eq 5, 3) := by decide +kernel
theorem dX12_isAsTold_51 : decode cX12_isAsTold 51 = .ok (.iconst 0, 1) := by decide +kernel
theorem dX12_isAsTold_52 : decode cX12_isAsTold 52 = .ok (.ireturn, 1) := by decide +kernel
theorem dX12_isAsTold_53 : decode cX12_isAsTold 53 = .ok (.iinc 2 1, 3) := by decide +kernel
theorem dX12_isAsTold_56 : decode cX12_isAsTold 56 = .ok (.goto (-54), 3) := by decide +kernel
theorem dX12_isAsTold_59 : decode cX12_isAsTold 59 = .ok (.iconst 1, 1) := by decide +kernel
theorem dX12_isAsTold_60 : decode cX12_isAsTold 60 = .ok (.ireturn, 1) := by decide +kernel
theorem dX12_qTest_0 : decode cX12_qTest 0 = .ok (.iconst 1, 1) := by decide +kernel
theorem dX12_qTest_1 : decode cX12_qTest 1 = .ok (.istore_n 1, 1) := by decide +kernel
theorem dX12_qTest_2 : decode cX12_qTest 2 = .ok (.iload_n 1, 1) := by decide +kernel
theorem dX12_qTest_3 : decode cX12_qTest 3 = .ok (.ifCond .eq 107, 3) := by decide +kernel
theorem dX12_qTest_6 : decode cX12_qTest 6 = .ok (.aload_n 0, 1) := by decide +kernel
theorem dX12_qTest_7 : decode cX12_qTest 7 = .ok (.getfield 263, 3) := by decide +kernel
theorem dX12_qTest_10 : decode cX12_qTest 10 = .ok (.ifCond .ne 100, 3) := by decide +kernel
theorem dX12_qTest_13 : decode cX12_qTest 13 = .ok (.aload_n 0, 1) := by decide +kernel
theorem dX12_qTest_14 : decode cX12_qTest 14 = .ok (.invokevirtual 275, 3) := by decide +kernel
theorem dX12_qTest_17 : decode cX12_qTest 17 = .ok (.istore_n 2, 1) := by decide +kernel
theorem dX12_qTest_18 : decode cX12_qTest 18 = .ok (.iload_n 2, 1) := by decide +kernel
theorem dX12_qTest_19 : decode cX12_qTest 19 = .ok (.bipush 91, 2) := by decide +kernel
theorem dX12_qTest_21 : decode cX12_qTest 21 = .ok (.if_icmp .ne 26, 3) := by decide +kernel
theorem dX12_qTest_24 : decode cX12_qTest 24 = .ok (.aload_n 0, 1) := by decide +kernel
theorem dX12_qTest_25 : decode cX12_qTest 25 = .ok (.bipush 25, 2) := by decide +kernel
theorem dX12_qTest_27 : decode cX12_qTest 27 = .ok (.aload_n 0, 1) := by decide +kernel
theorem dX12_qTest_28 : decode cX12_qTest 28 = .ok (.getfield 269, 3) := by decide +kernel
theorem dX12_qTest_31 : decode cX12_qTest 31 = .ok (.invokevirtual 612, 3) := by decide +kernel
theorem dX12_qTest_34 : decode cX12_qTest 34 = .ok (.aload_n 0, 1) := by decide +kernel
theorem dX12_qTest_35 : decode cX12_qTest 35 = .ok (.dup, 1) := by decide +kernel
theorem dX12_qTest_36 : decode cX12_qTest 36 = .ok (.getfield 269, 3) := by decide +kernel
theorem dX12_qTest_39 : decode cX12_qTest 39 = .ok (.iconst 1, 1) := by decide +kernel
theorem dX12_qTest_40 : decode cX12_qTest 40 = .ok (.iadd, 1) := by decide +kernel
theorem dX12_qTest_41 : decode cX12_qTest 41 = .ok (.putfield 269, 3) := by decide +kernel
theorem dX12_qTest_44 : decode cX12_qTest 44 = .ok (.goto (-42), 3) := by decide +kernel
theorem dX12_qTest_47 : decode cX12_qTest 47 = .ok (.aload_n 0, 1) := by decide +kernel
theorem dX12_qTest_48 : decode cX12_qTest 48 = .ok (.aload_n 0, 1) := by decide +kernel
theorem dX12_qTest_49 : decode cX12_qTest 49 = .ok (.getfield 197, 3) := by decide +kernel
theorem dX12_qTest_52 : decode cX12_qTest 52 = .ok (.invokevirtual 286, 3) := by decide +kernel
theorem dX12_qTest_55 : decode cX12_qTest 55 = .ok (.ifCond .eq 24, 3) := by decide +kernel
theorem dX12_qTest_58 : decode cX12_qTest 58 = .ok (.aload_n 0, 1) := by decide +kernel
theorem dX12_qTest_59 : decode cX12_qTest 59 = .ok (.bipush 12, 2) := by decide +kernel
theorem dX12_qTest_61 : decode cX12_qTest 61 = .ok (.aload_n 0, 1) := by decide +kernel
theorem dX12_qTest_62 : decode cX12_qTest 62 = .ok (.getfield 269, 3) := by decide +kernel
theorem dX12_qTest_65 : decode cX12_qTest 65 = .ok (.invokevirtual 612, 3) := by decide +kernel
theorem dX12_qTest_68 : decode cX12_qTest 68 = .ok (.aload_n 0, 1) := by decide +kernel
theorem dX12_qTest_69 : decode cX12_qTest 69 = .ok (.aload_n 0, 1) := by decide +kernel
theorem dX12_qTest_70 : decode cX12_qTest 70 = .ok (.getfield 197, 3) := by decide +kernel
theorem dX12_qTest_73 : decode cX12_qTest 73 = .ok (.invokevirtual 337, 3) := by decide +kernel
theorem dX12_qTest_76 : decode cX12_qTest 76 = .ok (.goto (-74), 3) := by decide +kernel
theorem dX12_qTest_79 : decode cX12_qTest 79 = .ok (.aload_n 0, 1) := by decide +kernel
theorem dX12_qTest_80 : decode cX12_qTest 80 = .ok (.invokevirtual 636, 3) := by decide +kernel
theorem dX12_qTest_83 : decode cX12_qTest 83 = .ok (.aload_n 0, 1) := by decide +kernel
theorem dX12_qTest_84 : decode cX12_qTest 84 = .ok (.invokevirtual 639, 3) := by decide +kernel
theorem dX12_qTest_87 : decode cX12_qTest 87 = .ok (.aload_n 0, 1) := by decide +kernel
theorem dX12_qTest_88 : decode cX12_qTest 88 = .ok (.getfield 263, 3) := by decide +kernel
theorem dX12_qTest_91 : decode cX12_qTest 91 = .ok (.ifCond .ne 14, 3) := by decide +kernel
theorem dX12_qTest_94 : decode cX12_qTest 94 = .ok (.aload_n 0, 1) := by decide +kernel
theorem dX12_qTest_95 : decode cX12_qTest 95 = .ok (.invokevirtual 642, 3) := by decide +kernel
theorem dX12_qTest_98 : decode cX12_qTest 98 = .ok (.ifCond .eq 7, 3) := by decide +kernel
theorem dX12_qTest_101 : decode cX12_qTest 101 = .ok (.iconst 1, 1) := by decide +kernel
theorem dX12_qTest_102 : decode cX12_qTest 102 = .ok (.goto 4, 3) := by decide +kernel
theorem dX12_qTest_105 : decode cX12_qTest 105 = .ok (.iconst 0, 1) := by decide +kernel
theorem dX12_qTest_106 : decode cX12_qTest 106 = .ok (.istore_n 1, 1) := by decide +kernel
theorem dX12_qTest_107 : decode cX12_qTest 107 = .ok (.goto (-105), 3) := by decide +kernel
theorem dX12_qTest_110 : decode cX12_qTest 110 = .ok (.aload_n 0, 1) := by decide +kernel
theorem dX12_qTest_111 : decode cX12_qTest 111 = .ok (.getfield 263, 3) := by decide +kernel
theorem dX12_qTest_114 : decode cX12_qTest 114 = .ok (.ifCond .ne 17, 3) := by decide +kernel
theorem dX12_qTest_117 : decode cX12_qTest 117 = .ok (.aload_n 0, 1) := by decide +kernel
theorem dX12_qTest_118 : decode cX12_qTest 118 = .ok (.getfield 355, 3) := by decide +kernel
theorem dX12_qTest_121 : decode cX12_qTest 121 = .ok (.ifCond .le 10, 3) := by decide +kernel
theorem dX12_qTest_124 : decode cX12_qTest 124 = .ok (.aload_n 0, 1) := by decide +kernel
theorem dX12_qTest_125 : decode cX12_qTest 125 = .ok (.invokevirtual 600, 3) := by decide +kernel
theorem dX12_qTest_128 : decode cX12_qTest 128 = .ok (.goto (-18), 3) := by decide +kernel
theorem dX12_qTest_131 : decode cX12_qTest 131 = .ok (.return_, 1) := by decide +kernel
theorem dX12_isHelper_0 : decode cX12_isHelper 0 = .ok (.iload_n 1, 1) := by decide +kernel
theorem dX12_isHelper_1 : decode cX12_isHelper 1 = .ok (.i2l, 1) := by decide +kernel
theorem dX12_isHelper_2 : decode cX12_isHelper 2 = .ok (.lconst 0, 1) := by decide +kernel
theorem dX12_isHelper_3 : decode cX12_isHelper 3 = .ok (.aload_n 0, 1) := by decide +kernel
theorem dX12_isHelper_4 : decode cX12_isHelper 4 = .ok (.invokevirtual 422, 3) := by decide +kernel
theorem dX12_isHelper_7 : decode cX12_isHelper 7 = .ok (.iconst 1, 1) := by decide +kernel
theorem dX12_isHelper_8 : decode cX12_isHelper 8 = .ok (.isub, 1) := by decide +kernel
theorem dX12_isHelper_9 : decode cX12_isHelper 9 = .ok (.i2l, 1) := by decide +kernel
theorem dX12_isHelper_10 : decode cX12_isHelper 10 = .ok (.invokestatic 303, 3) := by decide +kernel
theorem dX12_isHelper_13 : decode cX12_isHelper 13 = .ok (.ireturn, 1) := by decide +kernel
theorem dX12_canAnswer_0 : decode cX12_canAnswer 0 = .ok (.aload_n 0, 1) := by decide +kernel
theorem dX12_canAnswer_1 : decode cX12_canAnswer 1 = .ok (.iload_n 1, 1) := by decide +kernel
theorem dX12_canAnswer_2 : decode cX12_canAnswer 2 = .ok (.invokevirtual 451, 3) := by decide +kernel
theorem dX12_canAnswer_5 : decode cX12_canAnswer 5 = .ok (.ifCond .ne 30, 3) := by decide +kernel
theorem dX12_canAnswer_8 : decode cX12_canAnswer 8 = .ok (.aload_n 0, 1) := by decide +kernel
theorem dX12_canAnswer_9 : decode cX12_canAnswer 9 = .ok (.iload_n 1, 1) := by decide +kernel
theorem dX12_canAnswer_10 : decode cX12_canAnswer 10 = .ok (.iload_n 2, 1) := by decide +kernel
theorem dX12_canAnswer_11 : decode cX12_canAnswer 11 = .ok (.invokevirtual 454, 3) := by decide +kernel
theorem dX12_canAnswer_14 : decode cX12_canAnswer 14 = .ok (.ifCond .eq 21, 3) := by decide +kernel
theorem dX12_canAnswer_17 : decode cX12_canAnswer 17 = .ok (.aload_n 0, 1) := by decide +kernel
theorem dX12_canAnswer_18 : decode cX12_canAnswer 18 = .ok (.iload_n 2, 1) := by decide +kernel
theorem dX12_canAnswer_19 : decode cX12_canAnswer 19 = .ok (.invokevirtual 458, 3) := by decide +kernel
theorem dX12_canAnswer_22 : decode cX12_canAnswer 22 = .ok (.aload_n 0, 1) := by decide +kernel
theorem dX12_canAnswer_23 : decode cX12_canAnswer 23 = .ok (.iload_n 1, 1) := by decide +kernel
theorem dX12_canAnswer_24 : decode cX12_canAnswer 24 = .ok (.iload_n 2, 1) := by decide +kernel
theorem dX12_canAnswer_25 : decode cX12_canAnswer 25 = .ok (.invokevirtual 461, 3) := by decide +kernel
theorem dX12_canAnswer_28 : decode cX12_canAnswer 28 = .ok (.if_icmp .lt 7, 3) := by decide +kernel
theorem dX12_canAnswer_31 : decode cX12_canAnswer 31 = .ok (.iconst 1, 1) := by decide +kernel
theorem dX12_canAnswer_32 : decode cX12_canAnswer 32 = .ok (.goto 4, 3) := by decide +kernel
theorem dX12_canAnswer_35 : decode cX12_canAnswer 35 = .ok (.iconst 0, 1) := by decide +kernel
theorem dX12_canAnswer_36 : decode cX12_canAnswer 36 = .ok (.ireturn, 1) := by decide +kernel
theorem dX12_look_0 : decode cX12_look 0 = .ok (.aload_n 0, 1) := by decide +kernel
theorem dX12_look_1 : decode cX12_look 1 = .ok (.getfield 269, 3) := by decide +kernel
theorem dX12_look_4 : decode cX12_look 4 = .ok (.aload_n 0, 1) := by decide +kernel
theorem dX12_look_5 : decode cX12_look 5 = .ok (.getfield 272, 3) := by decide +kernel
theorem dX12_look_8 : decode cX12_look 8 = .ok (.if_icmp .ge 44, 3) := by decide +kernel
theorem dX12_look_11 : decode cX12_look 11 = .ok (.aload_n 0, 1) := by decide +kernel
theorem dX12_look_12 : decode cX12_look 12 = .ok (.getfield 7, 3) := by decide +kernel
theorem dX12_look_15 : decode cX12_look 15 = .ok (.aload_n 0, 1) := by decide +kernel
theorem dX12_look_16 : decode cX12_look 16 = .ok (.getfield 269, 3) := by decide +kernel
theorem dX12_look_19 : decode cX12_look 19 = .ok (.iaload, 1) := by decide +kernel
theorem dX12_look_20 : decode cX12_look 20 = .ok (.bipush 10, 2) := by decide +kernel
theorem dX12_look_22 : decode cX12_look 22 = .ok (.if_icmp .eq 17, 3) := by decide +kernel
theorem dX12_look_25 : decode cX12_look 25 = .ok (.aload_n 0, 1) := by decide +kernel
theorem dX12_look_26 : decode cX12_look 26 = .ok (.getfield 7, 3) := by decide +kernel
theorem dX12_look_29 : decode cX12_look 29 = .ok (.aload_n 0, 1) := by decide +kernel
theorem dX12_look_30 : decode cX12_look 30 = .ok (.getfield 269, 3) := by decide +kernel
theorem dX12_look_33 : decode cX12_look 33 = .ok (.iaload, 1) := by decide +kernel
theorem dX12_look_34 : decode cX12_look 34 = .ok (.bipush 32, 2) := by decide +kernel
theorem dX12_look_36 : decode cX12_look 36 = .ok (.if_icmp .ne 16, 3) := by decide +kernel
theorem dX12_look_39 : decode cX12_look 39 = .ok (.aload_n 0, 1) := by decide +kernel
theorem dX12_look_40 : decode cX12_look 40 = .ok (.dup, 1) := by decide +kernel
theorem dX12_look_41 : decode cX12_look 41 = .ok (.getfield 269, 3) := by decide +kernel
theorem dX12_look_44 : decode cX12_look 44 = .ok (.iconst 1, 1) := by decide +kernel
theorem dX12_look_45 : decode cX12_look 45 = .ok (.iadd, 1) := by decide +kernel
theorem dX12_look_46 : decode cX12_look 46 = .ok (.putfield 269, 3) := by decide +kernel
theorem dX12_look_49 : decode cX12_look 49 = .ok (.goto (-49), 3) := by decide +kernel
theorem dX12_look_52 : decode cX12_look 52 = .ok (.aload_n 0, 1) := by decide +kernel
theorem dX12_look_53 : decode cX12_look 53 = .ok (.getfield 269, 3) := by decide +kernel
theorem dX12_look_56 : decode cX12_look 56 = .ok (.aload_n 0, 1) := by decide +kernel
theorem dX12_look_57 : decode cX12_look 57 = .ok (.getfield 272, 3) := by decide +kernel
theorem dX12_look_60 : decode cX12_look 60 = .ok (.if_icmp .ge 15, 3) := by decide +kernel
theorem dX12_look_63 : decode cX12_look 63 = .ok (.aload_n 0, 1) := by decide +kernel
theorem dX12_look_64 : decode cX12_look 64 = .ok (.getfield 7, 3) := by decide +kernel
theorem dX12_look_67 : decode cX12_look 67 = .ok (.aload_n 0, 1) := by decide +kernel
theorem dX12_look_68 : decode cX12_look 68 = .ok (.getfield 269, 3) := by decide +kernel
theorem dX12_look_71 : decode cX12_look 71 = .ok (.iaload, 1) := by decide +kernel
theorem dX12_look_72 : decode cX12_look 72 = .ok (.goto 4, 3) := by decide +kernel
theorem dX12_look_75 : decode cX12_look 75 = .ok (.iconst (-1), 1) := by decide +kernel
theorem dX12_look_76 : decode cX12_look 76 = .ok (.ireturn, 1) := by decide +kernel
theorem dX12_sheet_0 : decode cX12_sheet 0 = .ok (.aload_n 0, 1) := by decide +kernel
theorem dX12_sheet_1 : decode cX12_sheet 1 = .ok (.iload_n 1, 1) := by decide +kernel
theorem dX12_sheet_2 : decode cX12_sheet 2 = .ok (.invokevirtual 501, 3) := by decide +kernel
theorem dX12_sheet_5 : decode cX12_sheet 5 = .ok (.ifCond .eq 33, 3) := by decide +kernel
theorem dX12_sheet_8 : decode cX12_sheet 8 = .ok (.iload_n 2, 1) := by decide +kernel
theorem dX12_sheet_9 : decode cX12_sheet 9 = .ok (.i2l, 1) := by decide +kernel
theorem dX12_sheet_10 : decode cX12_sheet 10 = .ok (.lconst 1, 1) := by decide +kernel
theorem dX12_sheet_11 : decode cX12_sheet 11 = .ok (.ldc2_w 578, 3) := by decide +kernel
theorem dX12_sheet_14 : decode cX12_sheet 14 = .ok (.invokestatic 303, 3) := by decide +kernel
theorem dX12_sheet_17 : decode cX12_sheet 17 = .ok (.ifCond .eq 21, 3) := by decide +kernel
theorem dX12_sheet_20 : decode cX12_sheet 20 = .ok (.aload_n 0, 1) := by decide +kernel
theorem dX12_sheet_21 : decode cX12_sheet 21 = .ok (.iload_n 1, 1) := by decide +kernel
theorem dX12_sheet_22 : decode cX12_sheet 22 = .ok (.invokevirtual 504, 3) := by decide +kernel
theorem dX12_sheet_25 : decode cX12_sheet 25 = .ok (.iload_n 2, 1) := by decide +kernel
theorem dX12_sheet_26 : decode cX12_sheet 26 = .ok (.if_icmp .eq 12, 3) := by decide +kernel
theorem dX12_sheet_29 : decode cX12_sheet 29 = .ok (.aload_n 0, 1) := by decide +kernel
theorem dX12_sheet_30 : decode cX12_sheet 30 = .ok (.iload_n 1, 1) := by decide +kernel
theorem dX12_sheet_31 : decode cX12_sheet 31 = .ok (.iload_n 2, 1) := by decide +kernel
theorem dX12_sheet_32 : decode cX12_sheet 32 = .ok (.invokevirtual 580, 3) := by decide +kernel
theorem dX12_sheet_35 : decode cX12_sheet 35 = .ok (.ifCond .eq 15, 3) := by decide +kernel
theorem dX12_sheet_38 : decode cX12_sheet 38 = .ok (.aload_n 0, 1) := by decide +kernel
theorem dX12_sheet_39 : decode cX12_sheet 39 = .ok (.getfield 17, 3) := by decide +kernel
theorem dX12_sheet_42 : decode cX12_sheet 42 = .ok (.iconst 2, 1) := by decide +kernel
theorem dX12_sheet_43 : decode cX12_sheet 43 = .ok (.dup2, 1) := by decide +kernel
theorem dX12_sheet_44 : decode cX12_sheet 44 = .ok (.iaload, 1) := by decide +kernel
theorem dX12_sheet_45 : decode cX12_sheet 45 = .ok (.iconst 1, 1) := by decide +kernel
theorem dX12_sheet_46 : decode cX12_sheet 46 = .ok (.iadd, 1) := by decide +kernel
theorem dX12_sheet_47 : decode cX12_sheet 47 = .ok (.iastore, 1) := by decide +kernel
theorem dX12_sheet_48 : decode cX12_sheet 48 = .ok (.iconst 0, 1) := by decide +kernel
theorem dX12_sheet_49 : decode cX12_sheet 49 = .ok (.ireturn, 1) := by decide +kernel
theorem dX12_sheet_50 : decode cX12_sheet 50 = .ok (.aload_n 0, 1) := by decide +kernel
theorem dX12_sheet_51 : decode cX12_sheet 51 = .ok (.invokevirtual 575, 3) := by decide +kernel
