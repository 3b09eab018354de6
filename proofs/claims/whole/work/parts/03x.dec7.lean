theorem dX12_likeTold_32 : decode cX12_likeTold 32 = .ok (.iload_n 3, 1) := by decide +kernel
theorem dX12_likeTold_33 : decode cX12_likeTold 33 = .ok (.if_icmp .eq 17, 3) := by decide +kernel
theorem dX12_likeTold_36 : decode cX12_likeTold 36 = .ok (.aload_n 0, 1) := by decide +kernel
theorem dX12_likeTold_37 : decode cX12_likeTold 37 = .ok (.getfield 124, 3) := by decide +kernel
theorem dX12_likeTold_40 : decode cX12_likeTold 40 = .ok (.bipush 8, 2) := by decide +kernel
theorem dX12_likeTold_42 : decode cX12_likeTold 42 = .ok (.iload_n 2, 1) := by decide +kernel
theorem dX12_likeTold_43 : decode cX12_likeTold 43 = .ok (.imul, 1) := by decide +kernel
theorem dX12_likeTold_44 : decode cX12_likeTold 44 = .ok (.iload_n 3, 1) := by decide +kernel
theorem dX12_likeTold_45 : decode cX12_likeTold 45 = .ok (.iadd, 1) := by decide +kernel
theorem dX12_likeTold_46 : decode cX12_likeTold 46 = .ok (.iaload, 1) := by decide +kernel
theorem dX12_likeTold_47 : decode cX12_likeTold 47 = .ok (.ifCond .le 12, 3) := by decide +kernel
theorem dX12_likeTold_50 : decode cX12_likeTold 50 = .ok (.aload_n 0, 1) := by decide +kernel
theorem dX12_likeTold_51 : decode cX12_likeTold 51 = .ok (.iconst 3, 1) := by decide +kernel
theorem dX12_likeTold_52 : decode cX12_likeTold 52 = .ok (.aload_n 0, 1) := by decide +kernel
theorem dX12_likeTold_53 : decode cX12_likeTold 53 = .ok (.getfield 311, 3) := by decide +kernel
theorem dX12_likeTold_56 : decode cX12_likeTold 56 = .ok (.invokevirtual 293, 3) := by decide +kernel
theorem dX12_likeTold_59 : decode cX12_likeTold 59 = .ok (.aload_n 0, 1) := by decide +kernel
theorem dX12_likeTold_60 : decode cX12_likeTold 60 = .ok (.iconst 0, 1) := by decide +kernel
theorem dX12_likeTold_61 : decode cX12_likeTold 61 = .ok (.bipush 10, 2) := by decide +kernel
theorem dX12_likeTold_63 : decode cX12_likeTold 63 = .ok (.invokevirtual 341, 3) := by decide +kernel
theorem dX12_likeTold_66 : decode cX12_likeTold 66 = .ok (.istore 4, 2) := by decide +kernel
theorem dX12_likeTold_68 : decode cX12_likeTold 68 = .ok (.aload_n 0, 1) := by decide +kernel
theorem dX12_likeTold_69 : decode cX12_likeTold 69 = .ok (.getfield 263, 3) := by decide +kernel
theorem dX12_likeTold_72 : decode cX12_likeTold 72 = .ok (.ifCond .eq 4, 3) := by decide +kernel
theorem dX12_likeTold_75 : decode cX12_likeTold 75 = .ok (.return_, 1) := by decide +kernel
theorem dX12_likeTold_76 : decode cX12_likeTold 76 = .ok (.aload_n 0, 1) := by decide +kernel
theorem dX12_likeTold_77 : decode cX12_likeTold 77 = .ok (.getfield 124, 3) := by decide +kernel
theorem dX12_likeTold_80 : decode cX12_likeTold 80 = .ok (.bipush 8, 2) := by decide +kernel
theorem dX12_likeTold_82 : decode cX12_likeTold 82 = .ok (.iload_n 2, 1) := by decide +kernel
theorem dX12_likeTold_83 : decode cX12_likeTold 83 = .ok (.imul, 1) := by decide +kernel
theorem dX12_likeTold_84 : decode cX12_likeTold 84 = .ok (.iload_n 3, 1) := by decide +kernel
theorem dX12_likeTold_85 : decode cX12_likeTold 85 = .ok (.iadd, 1) := by decide +kernel
theorem dX12_likeTold_86 : decode cX12_likeTold 86 = .ok (.iload 4, 2) := by decide +kernel
theorem dX12_likeTold_88 : decode cX12_likeTold 88 = .ok (.iconst 1, 1) := by decide +kernel
theorem dX12_likeTold_89 : decode cX12_likeTold 89 = .ok (.iadd, 1) := by decide +kernel
theorem dX12_likeTold_90 : decode cX12_likeTold 90 = .ok (.iastore, 1) := by decide +kernel
theorem dX12_likeTold_91 : decode cX12_likeTold 91 = .ok (.aload_n 0, 1) := by decide +kernel
theorem dX12_likeTold_92 : decode cX12_likeTold 92 = .ok (.getfield 124, 3) := by decide +kernel
theorem dX12_likeTold_95 : decode cX12_likeTold 95 = .ok (.bipush 8, 2) := by decide +kernel
theorem dX12_likeTold_97 : decode cX12_likeTold 97 = .ok (.iload_n 3, 1) := by decide +kernel
theorem dX12_likeTold_98 : decode cX12_likeTold 98 = .ok (.imul, 1) := by decide +kernel
theorem dX12_likeTold_99 : decode cX12_likeTold 99 = .ok (.iload_n 2, 1) := by decide +kernel
theorem dX12_likeTold_100 : decode cX12_likeTold 100 = .ok (.iadd, 1) := by decide +kernel
theorem dX12_likeTold_101 : decode cX12_likeTold 101 = .ok (.iload 4, 2) := by decide +kernel
theorem dX12_likeTold_103 : decode cX12_likeTold 103 = .ok (.iconst 1, 1) := by decide +kernel
theorem dX12_likeTold_104 : decode cX12_likeTold 104 = .ok (.iadd, 1) := by decide +kernel
theorem dX12_likeTold_105 : decode cX12_likeTold 105 = .ok (.iastore, 1) := by decide +kernel
theorem dX12_likeTold_106 : decode cX12_likeTold 106 = .ok (.aload_n 0, 1) := by decide +kernel
theorem dX12_likeTold_107 : decode cX12_likeTold 107 = .ok (.getfield 105, 3) := by decide +kernel
theorem dX12_likeTold_110 : decode cX12_likeTold 110 = .ok (.iconst 4, 1) := by decide +kernel
theorem dX12_likeTold_111 : decode cX12_likeTold 111 = .ok (.dup2, 1) := by decide +kernel
theorem dX12_likeTold_112 : decode cX12_likeTold 112 = .ok (.iaload, 1) := by decide +kernel
theorem dX12_likeTold_113 : decode cX12_likeTold 113 = .ok (.iconst 1, 1) := by decide +kernel
theorem dX12_likeTold_114 : decode cX12_likeTold 114 = .ok (.iadd, 1) := by decide +kernel
theorem dX12_likeTold_115 : decode cX12_likeTold 115 = .ok (.iastore, 1) := by decide +kernel
theorem dX12_likeTold_116 : decode cX12_likeTold 116 = .ok (.return_, 1) := by decide +kernel
theorem dX12_warmOf_0 : decode cX12_warmOf 0 = .ok (.aload_n 0, 1) := by decide +kernel
theorem dX12_warmOf_1 : decode cX12_warmOf 1 = .ok (.getfield 133, 3) := by decide +kernel
theorem dX12_warmOf_4 : decode cX12_warmOf 4 = .ok (.iconst 3, 1) := by decide +kernel
theorem dX12_warmOf_5 : decode cX12_warmOf 5 = .ok (.iaload, 1) := by decide +kernel
theorem dX12_warmOf_6 : decode cX12_warmOf 6 = .ok (.iconst (-1), 1) := by decide +kernel
theorem dX12_warmOf_7 : decode cX12_warmOf 7 = .ok (.if_icmp .ne 18, 3) := by decide +kernel
theorem dX12_warmOf_10 : decode cX12_warmOf 10 = .ok (.aload_n 0, 1) := by decide +kernel
theorem dX12_warmOf_11 : decode cX12_warmOf 11 = .ok (.getfield 127, 3) := by decide +kernel
theorem dX12_warmOf_14 : decode cX12_warmOf 14 = .ok (.bipush 10, 2) := by decide +kernel
theorem dX12_warmOf_16 : decode cX12_warmOf 16 = .ok (.iconst 3, 1) := by decide +kernel
theorem dX12_warmOf_17 : decode cX12_warmOf 17 = .ok (.iload_n 2, 1) := by decide +kernel
theorem dX12_warmOf_18 : decode cX12_warmOf 18 = .ok (.imul, 1) := by decide +kernel
theorem dX12_warmOf_19 : decode cX12_warmOf 19 = .ok (.iadd, 1) := by decide +kernel
theorem dX12_warmOf_20 : decode cX12_warmOf 20 = .ok (.iaload, 1) := by decide +kernel
theorem dX12_warmOf_21 : decode cX12_warmOf 21 = .ok (.i2l, 1) := by decide +kernel
theorem dX12_warmOf_22 : decode cX12_warmOf 22 = .ok (.goto 10, 3) := by decide +kernel
theorem dX12_warmOf_25 : decode cX12_warmOf 25 = .ok (.aload_n 0, 1) := by decide +kernel
theorem dX12_warmOf_26 : decode cX12_warmOf 26 = .ok (.iconst 1, 1) := by decide +kernel
theorem dX12_warmOf_27 : decode cX12_warmOf 27 = .ok (.iload_n 1, 1) := by decide +kernel
theorem dX12_warmOf_28 : decode cX12_warmOf 28 = .ok (.iload_n 2, 1) := by decide +kernel
theorem dX12_warmOf_29 : decode cX12_warmOf 29 = .ok (.invokevirtual 445, 3) := by decide +kernel
theorem dX12_warmOf_32 : decode cX12_warmOf 32 = .ok (.lreturn, 1) := by decide +kernel
theorem dX12_giftTold_0 : decode cX12_giftTold 0 = .ok (.aload_n 0, 1) := by decide +kernel
theorem dX12_giftTold_1 : decode cX12_giftTold 1 = .ok (.iconst 1, 1) := by decide +kernel
theorem dX12_giftTold_2 : decode cX12_giftTold 2 = .ok (.iconst 4, 1) := by decide +kernel
theorem dX12_giftTold_3 : decode cX12_giftTold 3 = .ok (.iload_n 1, 1) := by decide +kernel
theorem dX12_giftTold_4 : decode cX12_giftTold 4 = .ok (.invokevirtual 330, 3) := by decide +kernel
theorem dX12_giftTold_7 : decode cX12_giftTold 7 = .ok (.ifCond .eq 4, 3) := by decide +kernel
theorem dX12_giftTold_10 : decode cX12_giftTold 10 = .ok (.return_, 1) := by decide +kernel
theorem dX12_giftTold_11 : decode cX12_giftTold 11 = .ok (.aload_n 0, 1) := by decide +kernel
theorem dX12_giftTold_12 : decode cX12_giftTold 12 = .ok (.invokevirtual 334, 3) := by decide +kernel
theorem dX12_giftTold_15 : decode cX12_giftTold 15 = .ok (.lstore_n 2, 1) := by decide +kernel
theorem dX12_giftTold_16 : decode cX12_giftTold 16 = .ok (.aload_n 0, 1) := by decide +kernel
theorem dX12_giftTold_17 : decode cX12_giftTold 17 = .ok (.aload_n 0, 1) := by decide +kernel
theorem dX12_giftTold_18 : decode cX12_giftTold 18 = .ok (.getfield 36, 3) := by decide +kernel
theorem dX12_giftTold_21 : decode cX12_giftTold 21 = .ok (.invokevirtual 337, 3) := by decide +kernel
theorem dX12_giftTold_24 : decode cX12_giftTold 24 = .ok (.aload_n 0, 1) := by decide +kernel
theorem dX12_giftTold_25 : decode cX12_giftTold 25 = .ok (.iconst 0, 1) := by decide +kernel
theorem dX12_giftTold_26 : decode cX12_giftTold 26 = .ok (.iconst 3, 1) := by decide +kernel
theorem dX12_giftTold_27 : decode cX12_giftTold 27 = .ok (.invokevirtual 341, 3) := by decide +kernel
theorem dX12_giftTold_30 : decode cX12_giftTold 30 = .ok (.istore 4, 2) := by decide +kernel
theorem dX12_giftTold_32 : decode cX12_giftTold 32 = .ok (.aload_n 0, 1) := by decide +kernel
theorem dX12_giftTold_33 : decode cX12_giftTold 33 = .ok (.getfield 263, 3) := by decide +kernel
theorem dX12_giftTold_36 : decode cX12_giftTold 36 = .ok (.ifCond .ne 16, 3) := by decide +kernel
theorem dX12_giftTold_39 : decode cX12_giftTold 39 = .ok (.aload_n 0, 1) := by decide +kernel
theorem dX12_giftTold_40 : decode cX12_giftTold 40 = .ok (.getfield 115, 3) := by decide +kernel
theorem dX12_giftTold_43 : decode cX12_giftTold 43 = .ok (.aload_n 0, 1) := by decide +kernel
theorem dX12_giftTold_44 : decode cX12_giftTold 44 = .ok (.iconst 1, 1) := by decide +kernel
theorem dX12_giftTold_45 : decode cX12_giftTold 45 = .ok (.lload_n 2, 1) := by decide +kernel
theorem dX12_giftTold_46 : decode cX12_giftTold 46 = .ok (.invokevirtual 345, 3) := by decide +kernel
theorem dX12_giftTold_49 : decode cX12_giftTold 49 = .ok (.iload 4, 2) := by decide +kernel
theorem dX12_giftTold_51 : decode cX12_giftTold 51 = .ok (.iastore, 1) := by decide +kernel
theorem dX12_giftTold_52 : decode cX12_giftTold 52 = .ok (.return_, 1) := by decide +kernel
theorem dX12_qFact_0 : decode cX12_qFact 0 = .ok (.aload_n 0, 1) := by decide +kernel
theorem dX12_qFact_1 : decode cX12_qFact 1 = .ok (.aload_n 0, 1) := by decide +kernel
theorem dX12_qFact_2 : decode cX12_qFact 2 = .ok (.getfield 206, 3) := by decide +kernel
theorem dX12_qFact_5 : decode cX12_qFact 5 = .ok (.invokevirtual 290, 3) := by decide +kernel
theorem dX12_qFact_8 : decode cX12_qFact 8 = .ok (.ifCond .eq 10, 3) := by decide +kernel
theorem dX12_qFact_11 : decode cX12_qFact 11 = .ok (.aload_n 0, 1) := by decide +kernel
theorem dX12_qFact_12 : decode cX12_qFact 12 = .ok (.bipush 13, 2) := by decide +kernel
theorem dX12_qFact_14 : decode cX12_qFact 14 = .ok (.invokevirtual 594, 3) := by decide +kernel
theorem dX12_qFact_17 : decode cX12_qFact 17 = .ok (.return_, 1) := by decide +kernel
theorem dX12_qFact_18 : decode cX12_qFact 18 = .ok (.aload_n 0, 1) := by decide +kernel
theorem dX12_qFact_19 : decode cX12_qFact 19 = .ok (.invokevirtual 364, 3) := by decide +kernel
theorem dX12_qFact_22 : decode cX12_qFact 22 = .ok (.aload_n 0, 1) := by decide +kernel
theorem dX12_qFact_23 : decode cX12_qFact 23 = .ok (.getfield 263, 3) := by decide +kernel
theorem dX12_qFact_26 : decode cX12_qFact 26 = .ok (.ifCond .eq 4, 3) := by decide +kernel
theorem dX12_qFact_29 : decode cX12_qFact 29 = .ok (.return_, 1) := by decide +kernel
theorem dX12_qFact_30 : decode cX12_qFact 30 = .ok (.aload_n 0, 1) := by decide +kernel
theorem dX12_qFact_31 : decode cX12_qFact 31 = .ok (.invokevirtual 275, 3) := by decide +kernel
theorem dX12_qFact_34 : decode cX12_qFact 34 = .ok (.istore_n 1, 1) := by decide +kernel
theorem dX12_qFact_35 : decode cX12_qFact 35 = .ok (.iload_n 1, 1) := by decide +kernel
theorem dX12_qFact_36 : decode cX12_qFact 36 = .ok (.bipush 60, 2) := by decide +kernel
theorem dX12_qFact_38 : decode cX12_qFact 38 = .ok (.if_icmp .eq 25, 3) := by decide +kernel
theorem dX12_qFact_41 : decode cX12_qFact 41 = .ok (.iload_n 1, 1) := by decide +kernel
theorem dX12_qFact_42 : decode cX12_qFact 42 = .ok (.bipush 62, 2) := by decide +kernel
theorem dX12_qFact_44 : decode cX12_qFact 44 = .ok (.if_icmp .eq 19, 3) := by decide +kernel
theorem dX12_qFact_47 : decode cX12_qFact 47 = .ok (.iload_n 1, 1) := by decide +kernel
theorem dX12_qFact_48 : decode cX12_qFact 48 = .ok (.bipush 61, 2) := by decide +kernel
theorem dX12_qFact_50 : decode cX12_qFact 50 = .ok (.if_icmp .eq 13, 3) := by decide +kernel
theorem dX12_qFact_53 : decode cX12_qFact 53 = .ok (.aload_n 0, 1) := by decide +kernel
theorem dX12_qFact_54 : decode cX12_qFact 54 = .ok (.iconst 1, 1) := by decide +kernel
theorem dX12_qFact_55 : decode cX12_qFact 55 = .ok (.aload_n 0, 1) := by decide +kernel
theorem dX12_qFact_56 : decode cX12_qFact 56 = .ok (.getfield 269, 3) := by decide +kernel
theorem dX12_qFact_59 : decode cX12_qFact 59 = .ok (.invokevirtual 293, 3) := by decide +kernel
theorem dX12_qFact_62 : decode cX12_qFact 62 = .ok (.return_, 1) := by decide +kernel
theorem dX12_qFact_63 : decode cX12_qFact 63 = .ok (.aload_n 0, 1) := by decide +kernel
theorem dX12_qFact_64 : decode cX12_qFact 64 = .ok (.dup, 1) := by decide +kernel
theorem dX12_qFact_65 : decode cX12_qFact 65 = .ok (.getfield 269, 3) := by decide +kernel
theorem dX12_qFact_68 : decode cX12_qFact 68 = .ok (.iconst 1, 1) := by decide +kernel
theorem dX12_qFact_69 : decode cX12_qFact 69 = .ok (.iadd, 1) := by decide +kernel
theorem dX12_qFact_70 : decode cX12_qFact 70 = .ok (.putfield 269, 3) := by decide +kernel
theorem dX12_qFact_73 : decode cX12_qFact 73 = .ok (.aload_n 0, 1) := by decide +kernel
theorem dX12_qFact_74 : decode cX12_qFact 74 = .ok (.invokevirtual 364, 3) := by decide +kernel
theorem dX12_qFact_77 : decode cX12_qFact 77 = .ok (.aload_n 0, 1) := by decide +kernel
theorem dX12_qFact_78 : decode cX12_qFact 78 = .ok (.iload_n 1, 1) := by decide +kernel
theorem dX12_qFact_79 : decode cX12_qFact 79 = .ok (.bipush 60, 2) := by decide +kernel
theorem dX12_qFact_81 : decode cX12_qFact 81 = .ok (.if_icmp .ne 8, 3) := by decide +kernel
theorem dX12_qFact_84 : decode cX12_qFact 84 = .ok (.bipush 7, 2) := by decide +kernel
theorem dX12_qFact_86 : decode cX12_qFact 86 = .ok (.goto 16, 3) := by decide +kernel
theorem dX12_qFact_89 : decode cX12_qFact 89 = .ok (.iload_n 1, 1) := by decide +kernel
theorem dX12_qFact_90 : decode cX12_qFact 90 = .ok (.bipush 62, 2) := by decide +kernel
theorem dX12_qFact_92 : decode cX12_qFact 92 = .ok (.if_icmp .ne 8, 3) := by decide +kernel
theorem dX12_qFact_95 : decode cX12_qFact 95 = .ok (.bipush 8, 2) := by decide +kernel
theorem dX12_qFact_97 : decode cX12_qFact 97 = .ok (.goto 5, 3) := by decide +kernel
theorem dX12_qFact_100 : decode cX12_qFact 100 = .ok (.bipush 9, 2) := by decide +kernel
theorem dX12_qFact_102 : decode cX12_qFact 102 = .ok (.invokevirtual 594, 3) := by decide +kernel
theorem dX12_qFact_105 : decode cX12_qFact 105 = .ok (.return_, 1) := by decide +kernel
theorem dX12_warms_0 : decode cX12_warms 0 = .ok (.aload_n 0, 1) := by decide +kernel
theorem dX12_warms_1 : decode cX12_warms 1 = .ok (.invokevirtual 485, 3) := by decide +kernel
theorem dX12_warms_4 : decode cX12_warms 4 = .ok (.pop, 1) := by decide +kernel
theorem dX12_warms_5 : decode cX12_warms 5 = .ok (.aload_n 0, 1) := by decide +kernel
theorem dX12_warms_6 : decode cX12_warms 6 = .ok (.getfield 470, 3) := by decide +kernel
theorem dX12_warms_9 : decode cX12_warms 9 = .ok (.lreturn, 1) := by decide +kernel
theorem dX12_warmth_0 : decode cX12_warmth 0 = .ok (.aload_n 0, 1) := by decide +kernel
theorem dX12_warmth_1 : decode cX12_warmth 1 = .ok (.iload_n 1, 1) := by decide +kernel
theorem dX12_warmth_2 : decode cX12_warmth 2 = .ok (.invokevirtual 501, 3) := by decide +kernel
theorem dX12_warmth_5 : decode cX12_warmth 5 = .ok (.ifCond .eq 20, 3) := by decide +kernel
theorem dX12_warmth_8 : decode cX12_warmth 8 = .ok (.aload_n 0, 1) := by decide +kernel
theorem dX12_warmth_9 : decode cX12_warmth 9 = .ok (.iload_n 2, 1) := by decide +kernel
theorem dX12_warmth_10 : decode cX12_warmth 10 = .ok (.invokevirtual 516, 3) := by decide +kernel
theorem dX12_warmth_13 : decode cX12_warmth 13 = .ok (.ifCond .eq 12, 3) := by decide +kernel
theorem dX12_warmth_16 : decode cX12_warmth 16 = .ok (.aload_n 0, 1) := by decide +kernel
theorem dX12_warmth_17 : decode cX12_warmth 17 = .ok (.iload_n 1, 1) := by decide +kernel
theorem dX12_warmth_18 : decode cX12_warmth 18 = .ok (.iload_n 2, 1) := by decide +kernel
theorem dX12_warmth_19 : decode cX12_warmth 19 = .ok (.invokevirtual 464, 3) := by decide +kernel
theorem dX12_warmth_22 : decode cX12_warmth 22 = .ok (.goto 6, 3) := by decide +kernel
theorem dX12_warmth_25 : decode cX12_warmth 25 = .ok (.ldc2_w 519, 3) := by decide +kernel
theorem dX12_warmth_28 : decode cX12_warmth 28 = .ok (.lreturn, 1) := by decide +kernel
theorem dX12_isNextRow_0 : decode cX12_isNextRow 0 = .ok (.aload_n 0, 1) := by decide +kernel
theorem dX12_isNextRow_1 : decode cX12_isNextRow 1 = .ok (.invokevirtual 419, 3) := by decide +kernel
theorem dX12_isNextRow_4 : decode cX12_isNextRow 4 = .ok (.iconst 1, 1) := by decide +kernel
theorem dX12_isNextRow_5 : decode cX12_isNextRow 5 = .ok (.isub, 1) := by decide +kernel
theorem dX12_isNextRow_6 : decode cX12_isNextRow 6 = .ok (.istore_n 1, 1) := by decide +kernel
theorem dX12_isNextRow_7 : decode cX12_isNextRow 7 = .ok (.iload_n 1, 1) := by decide +kernel
theorem dX12_isNextRow_8 : decode cX12_isNextRow 8 = .ok (.ifCond .lt 31, 3) := by decide +kernel
theorem dX12_isNextRow_11 : decode cX12_isNextRow 11 = .ok (.aload_n 0, 1) := by decide +kernel
theorem dX12_isNextRow_12 : decode cX12_isNextRow 12 = .ok (.getfield 148, 3) := by decide +kernel
theorem dX12_isNextRow_15 : decode cX12_isNextRow 15 = .ok (.iload_n 1, 1) := by decide +kernel
theorem dX12_isNextRow_16 : decode cX12_isNextRow 16 = .ok (.iaload, 1) := by decide +kernel
theorem dX12_isNextRow_17 : decode cX12_isNextRow 17 = .ok (.aload_n 0, 1) := by decide +kernel
theorem dX12_isNextRow_18 : decode cX12_isNextRow 18 = .ok (.getfield 151, 3) := by decide +kernel
theorem dX12_isNextRow_21 : decode cX12_isNextRow 21 = .ok (.iload_n 1, 1) := by decide +kernel
theorem dX12_isNextRow_22 : decode cX12_isNextRow 22 = .ok (.iaload, 1) := by decide +kernel
theorem dX12_isNextRow_23 : decode cX12_isNextRow 23 = .ok (.if_icmp .ne 16, 3) := by decide +kernel
theorem dX12_isNextRow_26 : decode cX12_isNextRow 26 = .ok (.aload_n 0, 1) := by decide +kernel
theorem dX12_isNextRow_27 : decode cX12_isNextRow 27 = .ok (.getfield 148, 3) := by decide +kernel
theorem dX12_isNextRow_30 : decode cX12_isNextRow 30 = .ok (.iload_n 1, 1) := by decide +kernel
theorem dX12_isNextRow_31 : decode cX12_isNextRow 31 = .ok (.iconst 0, 1) := by decide +kernel
theorem dX12_isNextRow_32 : decode cX12_isNextRow 32 = .ok (.iastore, 1) := by decide +kernel
theorem dX12_isNextRow_33 : decode cX12_isNextRow 33 = .ok (.iinc 1 (-1), 3) := by decide +kernel
theorem dX12_isNextRow_36 : decode cX12_isNextRow 36 = .ok (.goto (-29), 3) := by decide +kernel
theorem dX12_isNextRow_39 : decode cX12_isNextRow 39 = .ok (.iload_n 1, 1) := by decide +kernel
theorem dX12_isNextRow_40 : decode cX12_isNextRow 40 = .ok (.ifCond .ge 5, 3) := by decide +kernel
theorem dX12_isNextRow_43 : decode cX12_isNextRow 43 = .ok (.iconst 0, 1) := by decide +kernel
theorem dX12_isNextRow_44 : decode cX12_isNextRow 44 = .ok (.ireturn, 1) := by decide +kernel
theorem dX12_isNextRow_45 : decode cX12_isNextRow 45 = .ok (.aload_n 0, 1) := by decide +kernel
theorem dX12_isNextRow_46 : decode cX12_isNextRow 46 = .ok (.getfield 148, 3) := by decide +kernel
theorem dX12_isNextRow_49 : decode cX12_isNextRow 49 = .ok (.iload_n 1, 1) := by decide +kernel
theorem dX12_isNextRow_50 : decode cX12_isNextRow 50 = .ok (.dup2, 1) := by decide +kernel
theorem dX12_isNextRow_51 : decode cX12_isNextRow 51 = .ok (.iaload, 1) := by decide +kernel
theorem dX12_isNextRow_52 : decode cX12_isNextRow 52 = .ok (.iconst 1, 1) := by decide +kernel
theorem dX12_isNextRow_53 : decode cX12_isNextRow 53 = .ok (.iadd, 1) := by decide +kernel
theorem dX12_isNextRow_54 : decode cX12_isNextRow 54 = .ok (.iastore, 1) := by decide +kernel
theorem dX12_isNextRow_55 : decode cX12_isNextRow 55 = .ok (.iconst 1, 1) := by decide +kernel
theorem dX12_isNextRow_56 : decode cX12_isNextRow 56 = .ok (.ireturn, 1) := by decide +kernel
