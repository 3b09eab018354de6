theorem dX12_watched_1 : decode cX12_watched 1 = .ok (.i2l, 1) := by decide +kernel
theorem dX12_watched_2 : decode cX12_watched 2 = .ok (.lconst 0, 1) := by decide +kernel
theorem dX12_watched_3 : decode cX12_watched 3 = .ok (.lconst 1, 1) := by decide +kernel
theorem dX12_watched_4 : decode cX12_watched 4 = .ok (.invokestatic 303, 3) := by decide +kernel
theorem dX12_watched_7 : decode cX12_watched 7 = .ok (.ifCond .ne 5, 3) := by decide +kernel
theorem dX12_watched_10 : decode cX12_watched 10 = .ok (.iconst (-1), 1) := by decide +kernel
theorem dX12_watched_11 : decode cX12_watched 11 = .ok (.ireturn, 1) := by decide +kernel
theorem dX12_watched_12 : decode cX12_watched 12 = .ok (.aload_n 0, 1) := by decide +kernel
theorem dX12_watched_13 : decode cX12_watched 13 = .ok (.invokevirtual 566, 3) := by decide +kernel
theorem dX12_watched_16 : decode cX12_watched 16 = .ok (.istore_n 2, 1) := by decide +kernel
theorem dX12_watched_17 : decode cX12_watched 17 = .ok (.iconst (-1), 1) := by decide +kernel
theorem dX12_watched_18 : decode cX12_watched 18 = .ok (.istore_n 3, 1) := by decide +kernel
theorem dX12_watched_19 : decode cX12_watched 19 = .ok (.iconst 0, 1) := by decide +kernel
theorem dX12_watched_20 : decode cX12_watched 20 = .ok (.istore 4, 2) := by decide +kernel
theorem dX12_watched_22 : decode cX12_watched 22 = .ok (.iconst 0, 1) := by decide +kernel
theorem dX12_watched_23 : decode cX12_watched 23 = .ok (.istore 5, 2) := by decide +kernel
theorem dX12_watched_25 : decode cX12_watched 25 = .ok (.iload 5, 2) := by decide +kernel
theorem dX12_watched_27 : decode cX12_watched 27 = .ok (.aload_n 0, 1) := by decide +kernel
theorem dX12_watched_28 : decode cX12_watched 28 = .ok (.invokevirtual 419, 3) := by decide +kernel
theorem dX12_watched_31 : decode cX12_watched 31 = .ok (.if_icmp .ge 44, 3) := by decide +kernel
theorem dX12_watched_34 : decode cX12_watched 34 = .ok (.iload_n 2, 1) := by decide +kernel
theorem dX12_watched_35 : decode cX12_watched 35 = .ok (.ifCond .eq 40, 3) := by decide +kernel
theorem dX12_watched_38 : decode cX12_watched 38 = .ok (.aload_n 0, 1) := by decide +kernel
theorem dX12_watched_39 : decode cX12_watched 39 = .ok (.iload 5, 2) := by decide +kernel
theorem dX12_watched_41 : decode cX12_watched 41 = .ok (.iload_n 2, 1) := by decide +kernel
theorem dX12_watched_42 : decode cX12_watched 42 = .ok (.invokevirtual 569, 3) := by decide +kernel
theorem dX12_watched_45 : decode cX12_watched 45 = .ok (.istore 6, 2) := by decide +kernel
theorem dX12_watched_47 : decode cX12_watched 47 = .ok (.iload_n 3, 1) := by decide +kernel
theorem dX12_watched_48 : decode cX12_watched 48 = .ok (.iconst (-1), 1) := by decide +kernel
theorem dX12_watched_49 : decode cX12_watched 49 = .ok (.if_icmp .eq 13, 3) := by decide +kernel
theorem dX12_watched_52 : decode cX12_watched 52 = .ok (.iload 6, 2) := by decide +kernel
theorem dX12_watched_54 : decode cX12_watched 54 = .ok (.iload 4, 2) := by decide +kernel
theorem dX12_watched_56 : decode cX12_watched 56 = .ok (.if_icmp .lt 6, 3) := by decide +kernel
theorem dX12_watched_59 : decode cX12_watched 59 = .ok (.goto 10, 3) := by decide +kernel
theorem dX12_watched_62 : decode cX12_watched 62 = .ok (.iload 5, 2) := by decide +kernel
theorem dX12_watched_64 : decode cX12_watched 64 = .ok (.istore_n 3, 1) := by decide +kernel
theorem dX12_watched_65 : decode cX12_watched 65 = .ok (.iload 6, 2) := by decide +kernel
theorem dX12_watched_67 : decode cX12_watched 67 = .ok (.istore 4, 2) := by decide +kernel
theorem dX12_watched_69 : decode cX12_watched 69 = .ok (.iinc 5 1, 3) := by decide +kernel
theorem dX12_watched_72 : decode cX12_watched 72 = .ok (.goto (-47), 3) := by decide +kernel
theorem dX12_watched_75 : decode cX12_watched 75 = .ok (.iload_n 3, 1) := by decide +kernel
theorem dX12_watched_76 : decode cX12_watched 76 = .ok (.iconst (-1), 1) := by decide +kernel
theorem dX12_watched_77 : decode cX12_watched 77 = .ok (.if_icmp .ne 7, 3) := by decide +kernel
theorem dX12_watched_80 : decode cX12_watched 80 = .ok (.iconst (-1), 1) := by decide +kernel
theorem dX12_watched_81 : decode cX12_watched 81 = .ok (.goto 13, 3) := by decide +kernel
theorem dX12_watched_84 : decode cX12_watched 84 = .ok (.iload_n 1, 1) := by decide +kernel
theorem dX12_watched_85 : decode cX12_watched 85 = .ok (.ifCond .ne 7, 3) := by decide +kernel
theorem dX12_watched_88 : decode cX12_watched 88 = .ok (.iload_n 3, 1) := by decide +kernel
theorem dX12_watched_89 : decode cX12_watched 89 = .ok (.goto 5, 3) := by decide +kernel
theorem dX12_watched_92 : decode cX12_watched 92 = .ok (.iload 4, 2) := by decide +kernel
theorem dX12_watched_94 : decode cX12_watched 94 = .ok (.ireturn, 1) := by decide +kernel
theorem dX12_oneOf_0 : decode cX12_oneOf 0 = .ok (.aload_n 0, 1) := by decide +kernel
theorem dX12_oneOf_1 : decode cX12_oneOf 1 = .ok (.invokevirtual 322, 3) := by decide +kernel
theorem dX12_oneOf_4 : decode cX12_oneOf 4 = .ok (.lstore_n 2, 1) := by decide +kernel
theorem dX12_oneOf_5 : decode cX12_oneOf 5 = .ok (.aload_n 0, 1) := by decide +kernel
theorem dX12_oneOf_6 : decode cX12_oneOf 6 = .ok (.iload_n 1, 1) := by decide +kernel
theorem dX12_oneOf_7 : decode cX12_oneOf 7 = .ok (.lload_n 2, 1) := by decide +kernel
theorem dX12_oneOf_8 : decode cX12_oneOf 8 = .ok (.invokevirtual 326, 3) := by decide +kernel
theorem dX12_oneOf_11 : decode cX12_oneOf 11 = .ok (.istore 4, 2) := by decide +kernel
theorem dX12_oneOf_13 : decode cX12_oneOf 13 = .ok (.aload_n 0, 1) := by decide +kernel
theorem dX12_oneOf_14 : decode cX12_oneOf 14 = .ok (.getfield 263, 3) := by decide +kernel
theorem dX12_oneOf_17 : decode cX12_oneOf 17 = .ok (.ifCond .ne 18, 3) := by decide +kernel
theorem dX12_oneOf_20 : decode cX12_oneOf 20 = .ok (.iload 4, 2) := by decide +kernel
theorem dX12_oneOf_22 : decode cX12_oneOf 22 = .ok (.iconst (-1), 1) := by decide +kernel
theorem dX12_oneOf_23 : decode cX12_oneOf 23 = .ok (.if_icmp .ne 12, 3) := by decide +kernel
theorem dX12_oneOf_26 : decode cX12_oneOf 26 = .ok (.aload_n 0, 1) := by decide +kernel
theorem dX12_oneOf_27 : decode cX12_oneOf 27 = .ok (.iconst 3, 1) := by decide +kernel
theorem dX12_oneOf_28 : decode cX12_oneOf 28 = .ok (.aload_n 0, 1) := by decide +kernel
theorem dX12_oneOf_29 : decode cX12_oneOf 29 = .ok (.getfield 311, 3) := by decide +kernel
theorem dX12_oneOf_32 : decode cX12_oneOf 32 = .ok (.invokevirtual 293, 3) := by decide +kernel
theorem dX12_oneOf_35 : decode cX12_oneOf 35 = .ok (.aload_n 0, 1) := by decide +kernel
theorem dX12_oneOf_36 : decode cX12_oneOf 36 = .ok (.getfield 263, 3) := by decide +kernel
theorem dX12_oneOf_39 : decode cX12_oneOf 39 = .ok (.ifCond .ne 8, 3) := by decide +kernel
theorem dX12_oneOf_42 : decode cX12_oneOf 42 = .ok (.iload 4, 2) := by decide +kernel
theorem dX12_oneOf_44 : decode cX12_oneOf 44 = .ok (.goto 4, 3) := by decide +kernel
theorem dX12_oneOf_47 : decode cX12_oneOf 47 = .ok (.iconst 0, 1) := by decide +kernel
theorem dX12_oneOf_48 : decode cX12_oneOf 48 = .ok (.ireturn, 1) := by decide +kernel
theorem dX12_drawOf_0 : decode cX12_drawOf 0 = .ok (.aload_n 0, 1) := by decide +kernel
theorem dX12_drawOf_1 : decode cX12_drawOf 1 = .ok (.ldc2_w 583, 3) := by decide +kernel
theorem dX12_drawOf_4 : decode cX12_drawOf 4 = .ok (.aload_n 0, 1) := by decide +kernel
theorem dX12_drawOf_5 : decode cX12_drawOf 5 = .ok (.getfield 175, 3) := by decide +kernel
theorem dX12_drawOf_8 : decode cX12_drawOf 8 = .ok (.lmul, 1) := by decide +kernel
theorem dX12_drawOf_9 : decode cX12_drawOf 9 = .ok (.ldc2_w 585, 3) := by decide +kernel
theorem dX12_drawOf_12 : decode cX12_drawOf 12 = .ok (.ladd, 1) := by decide +kernel
theorem dX12_drawOf_13 : decode cX12_drawOf 13 = .ok (.ldc2_w 587, 3) := by decide +kernel
theorem dX12_drawOf_16 : decode cX12_drawOf 16 = .ok (.lrem, 1) := by decide +kernel
theorem dX12_drawOf_17 : decode cX12_drawOf 17 = .ok (.putfield 175, 3) := by decide +kernel
theorem dX12_drawOf_20 : decode cX12_drawOf 20 = .ok (.aload_n 0, 1) := by decide +kernel
theorem dX12_drawOf_21 : decode cX12_drawOf 21 = .ok (.getfield 175, 3) := by decide +kernel
theorem dX12_drawOf_24 : decode cX12_drawOf 24 = .ok (.ldc2_w 589, 3) := by decide +kernel
theorem dX12_drawOf_27 : decode cX12_drawOf 27 = .ok (.ldiv, 1) := by decide +kernel
theorem dX12_drawOf_28 : decode cX12_drawOf 28 = .ok (.iload_n 1, 1) := by decide +kernel
theorem dX12_drawOf_29 : decode cX12_drawOf 29 = .ok (.i2l, 1) := by decide +kernel
theorem dX12_drawOf_30 : decode cX12_drawOf 30 = .ok (.lrem, 1) := by decide +kernel
theorem dX12_drawOf_31 : decode cX12_drawOf 31 = .ok (.l2i, 1) := by decide +kernel
theorem dX12_drawOf_32 : decode cX12_drawOf 32 = .ok (.ireturn, 1) := by decide +kernel
theorem dX12_isLetter_0 : decode cX12_isLetter 0 = .ok (.iload_n 0, 1) := by decide +kernel
theorem dX12_isLetter_1 : decode cX12_isLetter 1 = .ok (.bipush 97, 2) := by decide +kernel
theorem dX12_isLetter_3 : decode cX12_isLetter 3 = .ok (.if_icmp .lt 13, 3) := by decide +kernel
theorem dX12_isLetter_6 : decode cX12_isLetter 6 = .ok (.iload_n 0, 1) := by decide +kernel
theorem dX12_isLetter_7 : decode cX12_isLetter 7 = .ok (.bipush 122, 2) := by decide +kernel
theorem dX12_isLetter_9 : decode cX12_isLetter 9 = .ok (.if_icmp .gt 7, 3) := by decide +kernel
theorem dX12_isLetter_12 : decode cX12_isLetter 12 = .ok (.iconst 1, 1) := by decide +kernel
theorem dX12_isLetter_13 : decode cX12_isLetter 13 = .ok (.goto 4, 3) := by decide +kernel
theorem dX12_isLetter_16 : decode cX12_isLetter 16 = .ok (.iconst 0, 1) := by decide +kernel
theorem dX12_isLetter_17 : decode cX12_isLetter 17 = .ok (.ireturn, 1) := by decide +kernel
theorem dX12_isAsTold_0 : decode cX12_isAsTold 0 = .ok (.iconst 0, 1) := by decide +kernel
theorem dX12_isAsTold_1 : decode cX12_isAsTold 1 = .ok (.istore_n 2, 1) := by decide +kernel
theorem dX12_isAsTold_2 : decode cX12_isAsTold 2 = .ok (.iload_n 2, 1) := by decide +kernel
theorem dX12_isAsTold_3 : decode cX12_isAsTold 3 = .ok (.aload_n 0, 1) := by decide +kernel
theorem dX12_isAsTold_4 : decode cX12_isAsTold 4 = .ok (.getfield 416, 3) := by decide +kernel
theorem dX12_isAsTold_7 : decode cX12_isAsTold 7 = .ok (.if_icmp .ge 52, 3) := by decide +kernel
theorem dX12_isAsTold_10 : decode cX12_isAsTold 10 = .ok (.aload_n 0, 1) := by decide +kernel
theorem dX12_isAsTold_11 : decode cX12_isAsTold 11 = .ok (.aload_n 0, 1) := by decide +kernel
theorem dX12_isAsTold_12 : decode cX12_isAsTold 12 = .ok (.getfield 169, 3) := by decide +kernel
theorem dX12_isAsTold_15 : decode cX12_isAsTold 15 = .ok (.iconst 3, 1) := by decide +kernel
theorem dX12_isAsTold_16 : decode cX12_isAsTold 16 = .ok (.iload_n 2, 1) := by decide +kernel
theorem dX12_isAsTold_17 : decode cX12_isAsTold 17 = .ok (.imul, 1) := by decide +kernel
theorem dX12_isAsTold_18 : decode cX12_isAsTold 18 = .ok (.iaload, 1) := by decide +kernel
theorem dX12_isAsTold_19 : decode cX12_isAsTold 19 = .ok (.iload_n 1, 1) := by decide +kernel
theorem dX12_isAsTold_20 : decode cX12_isAsTold 20 = .ok (.invokevirtual 461, 3) := by decide +kernel
theorem dX12_isAsTold_23 : decode cX12_isAsTold 23 = .ok (.sipush 256, 3) := by decide +kernel
theorem dX12_isAsTold_26 : decode cX12_isAsTold 26 = .ok (.aload_n 0, 1) := by decide +kernel
theorem dX12_isAsTold_27 : decode cX12_isAsTold 27 = .ok (.getfield 169, 3) := by decide +kernel
theorem dX12_isAsTold_30 : decode cX12_isAsTold 30 = .ok (.iconst 3, 1) := by decide +kernel
theorem dX12_isAsTold_31 : decode cX12_isAsTold 31 = .ok (.iload_n 2, 1) := by decide +kernel
theorem dX12_isAsTold_32 : decode cX12_isAsTold 32 = .ok (.imul, 1) := by decide +kernel
theorem dX12_isAsTold_33 : decode cX12_isAsTold 33 = .ok (.iconst 1, 1) := by decide +kernel
theorem dX12_isAsTold_34 : decode cX12_isAsTold 34 = .ok (.iadd, 1) := by decide +kernel
theorem dX12_isAsTold_35 : decode cX12_isAsTold 35 = .ok (.iaload, 1) := by decide +kernel
theorem dX12_isAsTold_36 : decode cX12_isAsTold 36 = .ok (.imul, 1) := by decide +kernel
theorem dX12_isAsTold_37 : decode cX12_isAsTold 37 = .ok (.aload_n 0, 1) := by decide +kernel
theorem dX12_isAsTold_38 : decode cX12_isAsTold 38 = .ok (.getfield 169, 3) := by decide +kernel
theorem dX12_isAsTold_41 : decode cX12_isAsTold 41 = .ok (.iconst 3, 1) := by decide +kernel
theorem dX12_isAsTold_42 : decode cX12_isAsTold 42 = .ok (.iload_n 2, 1) := by decide +kernel
theorem dX12_isAsTold_43 : decode cX12_isAsTold 43 = .ok (.imul, 1) := by decide +kernel
theorem dX12_isAsTold_44 : decode cX12_isAsTold 44 = .ok (.iconst 2, 1) := by decide +kernel
theorem dX12_isAsTold_45 : decode cX12_isAsTold 45 = .ok (.iadd, 1) := by decide +kernel
theorem dX12_isAsTold_46 : decode cX12_isAsTold 46 = .ok (.iaload, 1) := by decide +kernel
theorem dX12_isAsTold_47 : decode cX12_isAsTold 47 = .ok (.iadd, 1) := by decide +kernel
theorem dX12_isAsTold_48 : decode cX12_isAsTold 48 = .ok (.if_icmp .eq 5, 3) := by decide +kernel
theorem dX12_isAsTold_51 : decode cX12_isAsTold 51 = .ok (.iconst 0, 1) := by decide +kernel
theorem dX12_isAsTold_52 : decode cX12_isAsTold 52 = .ok (.ireturn, 1) := by decide +kernel
theorem dX12_isAsTold_53 : decode cX12_isAsTold 53 = .ok (.iinc 2 1, 3) := by decide +kernel
theorem dX12_isAsTold_56 : decode cX12_isAsTold 56 = .ok (.goto (-54), 3) := by decide +kernel
theorem dX12_isAsTold_59 : decode cX12_isAsTold 59 = .ok (.iconst 1, 1) := by decide +kernel
theorem dX12_isAsTold_60 : decode cX12_isAsTold 60 = .ok (.ireturn, 1) := by decide +kernel
theorem dX12_statementTold_0 : decode cX12_statementTold 0 = .ok (.aload_n 0, 1) := by decide +kernel
theorem dX12_statementTold_1 : decode cX12_statementTold 1 = .ok (.getfield 269, 3) := by decide +kernel
theorem dX12_statementTold_4 : decode cX12_statementTold 4 = .ok (.istore_n 1, 1) := by decide +kernel
theorem dX12_statementTold_5 : decode cX12_statementTold 5 = .ok (.aload_n 0, 1) := by decide +kernel
theorem dX12_statementTold_6 : decode cX12_statementTold 6 = .ok (.getfield 370, 3) := by decide +kernel
theorem dX12_statementTold_9 : decode cX12_statementTold 9 = .ok (.bipush 80, 2) := by decide +kernel
theorem dX12_statementTold_11 : decode cX12_statementTold 11 = .ok (.if_icmp .ne 10, 3) := by decide +kernel
theorem dX12_statementTold_14 : decode cX12_statementTold 14 = .ok (.aload_n 0, 1) := by decide +kernel
theorem dX12_statementTold_15 : decode cX12_statementTold 15 = .ok (.iconst 5, 1) := by decide +kernel
theorem dX12_statementTold_16 : decode cX12_statementTold 16 = .ok (.iload_n 1, 1) := by decide +kernel
theorem dX12_statementTold_17 : decode cX12_statementTold 17 = .ok (.invokevirtual 293, 3) := by decide +kernel
theorem dX12_statementTold_20 : decode cX12_statementTold 20 = .ok (.return_, 1) := by decide +kernel
theorem dX12_statementTold_21 : decode cX12_statementTold 21 = .ok (.aload_n 0, 1) := by decide +kernel
theorem dX12_statementTold_22 : decode cX12_statementTold 22 = .ok (.aload_n 0, 1) := by decide +kernel
theorem dX12_statementTold_23 : decode cX12_statementTold 23 = .ok (.getfield 20, 3) := by decide +kernel
theorem dX12_statementTold_26 : decode cX12_statementTold 26 = .ok (.invokevirtual 290, 3) := by decide +kernel
theorem dX12_statementTold_29 : decode cX12_statementTold 29 = .ok (.ifCond .eq 11, 3) := by decide +kernel
theorem dX12_statementTold_32 : decode cX12_statementTold 32 = .ok (.aload_n 0, 1) := by decide +kernel
theorem dX12_statementTold_33 : decode cX12_statementTold 33 = .ok (.iload_n 1, 1) := by decide +kernel
theorem dX12_statementTold_34 : decode cX12_statementTold 34 = .ok (.invokevirtual 373, 3) := by decide +kernel
theorem dX12_statementTold_37 : decode cX12_statementTold 37 = .ok (.goto 185, 3) := by decide +kernel
theorem dX12_statementTold_40 : decode cX12_statementTold 40 = .ok (.aload_n 0, 1) := by decide +kernel
theorem dX12_statementTold_41 : decode cX12_statementTold 41 = .ok (.aload_n 0, 1) := by decide +kernel
theorem dX12_statementTold_42 : decode cX12_statementTold 42 = .ok (.getfield 33, 3) := by decide +kernel
theorem dX12_statementTold_45 : decode cX12_statementTold 45 = .ok (.invokevirtual 290, 3) := by decide +kernel
theorem dX12_statementTold_48 : decode cX12_statementTold 48 = .ok (.ifCond .eq 11, 3) := by decide +kernel
theorem dX12_statementTold_51 : decode cX12_statementTold 51 = .ok (.aload_n 0, 1) := by decide +kernel
theorem dX12_statementTold_52 : decode cX12_statementTold 52 = .ok (.iload_n 1, 1) := by decide +kernel
theorem dX12_statementTold_53 : decode cX12_statementTold 53 = .ok (.invokevirtual 377, 3) := by decide +kernel
theorem dX12_statementTold_56 : decode cX12_statementTold 56 = .ok (.goto 166, 3) := by decide +kernel
theorem dX12_statementTold_59 : decode cX12_statementTold 59 = .ok (.aload_n 0, 1) := by decide +kernel
theorem dX12_statementTold_60 : decode cX12_statementTold 60 = .ok (.aload_n 0, 1) := by decide +kernel
theorem dX12_statementTold_61 : decode cX12_statementTold 61 = .ok (.getfield 39, 3) := by decide +kernel
theorem dX12_statementTold_64 : decode cX12_statementTold 64 = .ok (.invokevirtual 290, 3) := by decide +kernel
theorem dX12_statementTold_67 : decode cX12_statementTold 67 = .ok (.ifCond .eq 10, 3) := by decide +kernel
theorem dX12_statementTold_70 : decode cX12_statementTold 70 = .ok (.aload_n 0, 1) := by decide +kernel
theorem dX12_statementTold_71 : decode cX12_statementTold 71 = .ok (.invokevirtual 380, 3) := by decide +kernel
theorem dX12_statementTold_74 : decode cX12_statementTold 74 = .ok (.goto 148, 3) := by decide +kernel
theorem dX12_statementTold_77 : decode cX12_statementTold 77 = .ok (.aload_n 0, 1) := by decide +kernel
theorem dX12_statementTold_78 : decode cX12_statementTold 78 = .ok (.aload_n 0, 1) := by decide +kernel
theorem dX12_statementTold_79 : decode cX12_statementTold 79 = .ok (.getfield 42, 3) := by decide +kernel
theorem dX12_statementTold_82 : decode cX12_statementTold 82 = .ok (.invokevirtual 290, 3) := by decide +kernel
theorem dX12_statementTold_85 : decode cX12_statementTold 85 = .ok (.ifCond .eq 11, 3) := by decide +kernel
theorem dX12_statementTold_88 : decode cX12_statementTold 88 = .ok (.aload_n 0, 1) := by decide +kernel
theorem dX12_statementTold_89 : decode cX12_statementTold 89 = .ok (.iload_n 1, 1) := by decide +kernel
theorem dX12_statementTold_90 : decode cX12_statementTold 90 = .ok (.invokevirtual 383, 3) := by decide +kernel
theorem dX12_statementTold_93 : decode cX12_statementTold 93 = .ok (.goto 129, 3) := by decide +kernel
theorem dX12_statementTold_96 : decode cX12_statementTold 96 = .ok (.aload_n 0, 1) := by decide +kernel
theorem dX12_statementTold_97 : decode cX12_statementTold 97 = .ok (.aload_n 0, 1) := by decide +kernel
theorem dX12_statementTold_98 : decode cX12_statementTold 98 = .ok (.getfield 45, 3) := by decide +kernel
theorem dX12_statementTold_101 : decode cX12_statementTold 101 = .ok (.invokevirtual 290, 3) := by decide +kernel
theorem dX12_statementTold_104 : decode cX12_statementTold 104 = .ok (.ifCond .eq 11, 3) := by decide +kernel
theorem dX12_statementTold_107 : decode cX12_statementTold 107 = .ok (.aload_n 0, 1) := by decide +kernel
theorem dX12_statementTold_108 : decode cX12_statementTold 108 = .ok (.iload_n 1, 1) := by decide +kernel
theorem dX12_statementTold_109 : decode cX12_statementTold 109 = .ok (.invokevirtual 386, 3) := by decide +kernel
theorem dX12_statementTold_112 : decode cX12_statementTold 112 = .ok (.goto 110, 3) := by decide +kernel
theorem dX12_statementTold_115 : decode cX12_statementTold 115 = .ok (.aload_n 0, 1) := by decide +kernel
theorem dX12_statementTold_116 : decode cX12_statementTold 116 = .ok (.aload_n 0, 1) := by decide +kernel
theorem dX12_statementTold_117 : decode cX12_statementTold 117 = .ok (.getfield 48, 3) := by decide +kernel
theorem dX12_statementTold_120 : decode cX12_statementTold 120 = .ok (.invokevirtual 290, 3) := by decide +kernel
theorem dX12_statementTold_123 : decode cX12_statementTold 123 = .ok (.ifCond .eq 11, 3) := by decide +kernel
theorem dX12_statementTold_126 : decode cX12_statementTold 126 = .ok (.aload_n 0, 1) := by decide +kernel
theorem dX12_statementTold_127 : decode cX12_statementTold 127 = .ok (.iload_n 1, 1) := by decide +kernel
theorem dX12_statementTold_128 : decode cX12_statementTold 128 = .ok (.invokevirtual 389, 3) := by decide +kernel
theorem dX12_statementTold_131 : decode cX12_statementTold 131 = .ok (.goto 91, 3) := by decide +kernel
theorem dX12_statementTold_134 : decode cX12_statementTold 134 = .ok (.aload_n 0, 1) := by decide +kernel
theorem dX12_statementTold_135 : decode cX12_statementTold 135 = .ok (.aload_n 0, 1) := by decide +kernel
theorem dX12_statementTold_136 : decode cX12_statementTold 136 = .ok (.getfield 60, 3) := by decide +kernel
theorem dX12_statementTold_139 : decode cX12_statementTold 139 = .ok (.invokevirtual 290, 3) := by decide +kernel
theorem dX12_statementTold_142 : decode cX12_statementTold 142 = .ok (.ifCond .eq 12, 3) := by decide +kernel
theorem dX12_statementTold_145 : decode cX12_statementTold 145 = .ok (.aload_n 0, 1) := by decide +kernel
theorem dX12_statementTold_146 : decode cX12_statementTold 146 = .ok (.iconst 0, 1) := by decide +kernel
theorem dX12_statementTold_147 : decode cX12_statementTold 147 = .ok (.iload_n 1, 1) := by decide +kernel
theorem dX12_statementTold_148 : decode cX12_statementTold 148 = .ok (.invokevirtual 392, 3) := by decide +kernel
theorem dX12_statementTold_151 : decode cX12_statementTold 151 = .ok (.goto 71, 3) := by decide +kernel
theorem dX12_statementTold_154 : decode cX12_statementTold 154 = .ok (.aload_n 0, 1) := by decide +kernel
theorem dX12_statementTold_155 : decode cX12_statementTold 155 = .ok (.aload_n 0, 1) := by decide +kernel
theorem dX12_statementTold_156 : decode cX12_statementTold 156 = .ok (.getfield 63, 3) := by decide +kernel
theorem dX12_statementTold_159 : decode cX12_statementTold 159 = .ok (.invokevirtual 290, 3) := by decide +kernel
theorem dX12_statementTold_162 : decode cX12_statementTold 162 = .ok (.ifCond .eq 12, 3) := by decide +kernel
theorem dX12_statementTold_165 : decode cX12_statementTold 165 = .ok (.aload_n 0, 1) := by decide +kernel
theorem dX12_statementTold_166 : decode cX12_statementTold 166 = .ok (.iconst 1, 1) := by decide +kernel
theorem dX12_statementTold_167 : decode cX12_statementTold 167 = .ok (.iload_n 1, 1) := by decide +kernel
theorem dX12_statementTold_168 : decode cX12_statementTold 168 = .ok (.invokevirtual 392, 3) := by decide +kernel
theorem dX12_statementTold_171 : decode cX12_statementTold 171 = .ok (.goto 51, 3) := by decide +kernel
theorem dX12_statementTold_174 : decode cX12_statementTold 174 = .ok (.aload_n 0, 1) := by decide +kernel
theorem dX12_statementTold_175 : decode cX12_statementTold 175 = .ok (.aload_n 0, 1) := by decide +kernel
theorem dX12_statementTold_176 : decode cX12_statementTold 176 = .ok (.getfield 66, 3) := by decide +kernel
theorem dX12_statementTold_179 : decode cX12_statementTold 179 = .ok (.invokevirtual 290, 3) := by decide +kernel
theorem dX12_statementTold_182 : decode cX12_statementTold 182 = .ok (.ifCond .eq 19, 3) := by decide +kernel
theorem dX12_statementTold_185 : decode cX12_statementTold 185 = .ok (.aload_n 0, 1) := by decide +kernel
theorem dX12_statementTold_186 : decode cX12_statementTold 186 = .ok (.getfield 130, 3) := by decide +kernel
theorem dX12_statementTold_189 : decode cX12_statementTold 189 = .ok (.iconst 0, 1) := by decide +kernel
theorem dX12_statementTold_190 : decode cX12_statementTold 190 = .ok (.aload_n 0, 1) := by decide +kernel
theorem dX12_statementTold_191 : decode cX12_statementTold 191 = .ok (.iconst 0, 1) := by decide +kernel
theorem dX12_statementTold_192 : decode cX12_statementTold 192 = .ok (.bipush 99, 2) := by decide +kernel
theorem dX12_statementTold_194 : decode cX12_statementTold 194 = .ok (.invokevirtual 341, 3) := by decide +kernel
theorem dX12_statementTold_197 : decode cX12_statementTold 197 = .ok (.iastore, 1) := by decide +kernel
theorem dX12_statementTold_198 : decode cX12_statementTold 198 = .ok (.goto 24, 3) := by decide +kernel
theorem dX12_statementTold_201 : decode cX12_statementTold 201 = .ok (.aload_n 0, 1) := by decide +kernel
theorem dX12_statementTold_202 : decode cX12_statementTold 202 = .ok (.aload_n 0, 1) := by decide +kernel
theorem dX12_statementTold_203 : decode cX12_statementTold 203 = .ok (.getfield 69, 3) := by decide +kernel
theorem dX12_statementTold_206 : decode cX12_statementTold 206 = .ok (.invokevirtual 337, 3) := by decide +kernel
theorem dX12_statementTold_209 : decode cX12_statementTold 209 = .ok (.aload_n 0, 1) := by decide +kernel
theorem dX12_statementTold_210 : decode cX12_statementTold 210 = .ok (.getfield 130, 3) := by decide +kernel
theorem dX12_statementTold_213 : decode cX12_statementTold 213 = .ok (.iconst 1, 1) := by decide +kernel
theorem dX12_statementTold_214 : decode cX12_statementTold 214 = .ok (.aload_n 0, 1) := by decide +kernel
theorem dX12_statementTold_215 : decode cX12_statementTold 215 = .ok (.iconst 0, 1) := by decide +kernel
theorem dX12_statementTold_216 : decode cX12_statementTold 216 = .ok (.bipush 100, 2) := by decide +kernel
theorem dX12_statementTold_218 : decode cX12_statementTold 218 = .ok (.invokevirtual 341, 3) := by decide +kernel
theorem dX12_statementTold_221 : decode cX12_statementTold 221 = .ok (.iastore, 1) := by decide +kernel
theorem dX12_statementTold_222 : decode cX12_statementTold 222 = .ok (.aload_n 0, 1) := by decide +kernel
theorem dX12_statementTold_223 : decode cX12_statementTold 223 = .ok (.bipush 59, 2) := by decide +kernel
theorem dX12_statementTold_225 : decode cX12_statementTold 225 = .ok (.invokevirtual 395, 3) := by decide +kernel
theorem dX12_statementTold_228 : decode cX12_statementTold 228 = .ok (.aload_n 0, 1) := by decide +kernel
theorem dX12_statementTold_229 : decode cX12_statementTold 229 = .ok (.dup, 1) := by decide +kernel
theorem dX12_statementTold_230 : decode cX12_statementTold 230 = .ok (.getfield 370, 3) := by decide +kernel
theorem dX12_statementTold_233 : decode cX12_statementTold 233 = .ok (.iconst 1, 1) := by decide +kernel
theorem dX12_statementTold_234 : decode cX12_statementTold 234 = .ok (.iadd, 1) := by decide +kernel
theorem dX12_statementTold_235 : decode cX12_statementTold 235 = .ok (.putfield 370, 3) := by decide +kernel
theorem dX12_statementTold_238 : decode cX12_statementTold 238 = .ok (.return_, 1) := by decide +kernel
theorem dX12_checked_0 : decode cX12_checked 0 = .ok (.bipush 89, 2) := by decide +kernel
theorem dX12_checked_2 : decode cX12_checked 2 = .ok (.istore_n 2, 1) := by decide +kernel
theorem dX12_checked_3 : decode cX12_checked 3 = .ok (.iconst 0, 1) := by decide +kernel
theorem dX12_checked_4 : decode cX12_checked 4 = .ok (.istore_n 3, 1) := by decide +kernel
theorem dX12_checked_5 : decode cX12_checked 5 = .ok (.iload_n 3, 1) := by decide +kernel
theorem dX12_checked_6 : decode cX12_checked 6 = .ok (.iload_n 1, 1) := by decide +kernel
theorem dX12_checked_7 : decode cX12_checked 7 = .ok (.if_icmp .ge 21, 3) := by decide +kernel
theorem dX12_checked_10 : decode cX12_checked 10 = .ok (.iconst 3, 1) := by decide +kernel
theorem dX12_checked_11 : decode cX12_checked 11 = .ok (.iload_n 2, 1) := by decide +kernel
theorem dX12_checked_12 : decode cX12_checked 12 = .ok (.imul, 1) := by decide +kernel
theorem dX12_checked_13 : decode cX12_checked 13 = .ok (.aload_n 0, 1) := by decide +kernel
theorem dX12_checked_14 : decode cX12_checked 14 = .ok (.iload_n 3, 1) := by decide +kernel
theorem dX12_checked_15 : decode cX12_checked 15 = .ok (.iaload, 1) := by decide +kernel
theorem dX12_checked_16 : decode cX12_checked 16 = .ok (.iadd, 1) := by decide +kernel
theorem dX12_checked_17 : decode cX12_checked 17 = .ok (.sipush 251, 3) := by decide +kernel
theorem dX12_checked_20 : decode cX12_checked 20 = .ok (.irem, 1) := by decide +kernel
theorem dX12_checked_21 : decode cX12_checked 21 = .ok (.istore_n 2, 1) := by decide +kernel
theorem dX12_checked_22 : decode cX12_checked 22 = .ok (.iinc 3 1, 3) := by decide +kernel
theorem dX12_checked_25 : decode cX12_checked 25 = .ok (.goto (-20), 3) := by decide +kernel
theorem dX12_checked_28 : decode cX12_checked 28 = .ok (.iload_n 2, 1) := by decide +kernel
theorem dX12_checked_29 : decode cX12_checked 29 = .ok (.ireturn, 1) := by decide +kernel
theorem dX12_nearTold_0 : decode cX12_nearTold 0 = .ok (.aload_n 0, 1) := by decide +kernel
theorem dX12_nearTold_1 : decode cX12_nearTold 1 = .ok (.iconst 3, 1) := by decide +kernel
theorem dX12_nearTold_2 : decode cX12_nearTold 2 = .ok (.bipush 20, 2) := by decide +kernel
theorem dX12_nearTold_4 : decode cX12_nearTold 4 = .ok (.iload_n 1, 1) := by decide +kernel
theorem dX12_nearTold_5 : decode cX12_nearTold 5 = .ok (.invokevirtual 330, 3) := by decide +kernel
theorem dX12_nearTold_8 : decode cX12_nearTold 8 = .ok (.ifCond .eq 4, 3) := by decide +kernel
theorem dX12_nearTold_11 : decode cX12_nearTold 11 = .ok (.return_, 1) := by decide +kernel
theorem dX12_nearTold_12 : decode cX12_nearTold 12 = .ok (.aload_n 0, 1) := by decide +kernel
theorem dX12_nearTold_13 : decode cX12_nearTold 13 = .ok (.iconst 0, 1) := by decide +kernel
theorem dX12_nearTold_14 : decode cX12_nearTold 14 = .ok (.invokevirtual 348, 3) := by decide +kernel
theorem dX12_nearTold_17 : decode cX12_nearTold 17 = .ok (.istore_n 2, 1) := by decide +kernel
theorem dX12_nearTold_18 : decode cX12_nearTold 18 = .ok (.aload_n 0, 1) := by decide +kernel
theorem dX12_nearTold_19 : decode cX12_nearTold 19 = .ok (.iconst 0, 1) := by decide +kernel
theorem dX12_nearTold_20 : decode cX12_nearTold 20 = .ok (.invokevirtual 348, 3) := by decide +kernel
theorem dX12_nearTold_23 : decode cX12_nearTold 23 = .ok (.istore_n 3, 1) := by decide +kernel
theorem dX12_nearTold_24 : decode cX12_nearTold 24 = .ok (.aload_n 0, 1) := by decide +kernel
theorem dX12_nearTold_25 : decode cX12_nearTold 25 = .ok (.getfield 263, 3) := by decide +kernel
theorem dX12_nearTold_28 : decode cX12_nearTold 28 = .ok (.ifCond .ne 31, 3) := by decide +kernel
theorem dX12_nearTold_31 : decode cX12_nearTold 31 = .ok (.iload_n 2, 1) := by decide +kernel
theorem dX12_nearTold_32 : decode cX12_nearTold 32 = .ok (.iload_n 3, 1) := by decide +kernel
theorem dX12_nearTold_33 : decode cX12_nearTold 33 = .ok (.if_icmp .eq 17, 3) := by decide +kernel
theorem dX12_nearTold_36 : decode cX12_nearTold 36 = .ok (.aload_n 0, 1) := by decide +kernel
theorem dX12_nearTold_37 : decode cX12_nearTold 37 = .ok (.getfield 121, 3) := by decide +kernel
theorem dX12_nearTold_40 : decode cX12_nearTold 40 = .ok (.iload_n 2, 1) := by decide +kernel
theorem dX12_nearTold_41 : decode cX12_nearTold 41 = .ok (.iaload, 1) := by decide +kernel
theorem dX12_nearTold_42 : decode cX12_nearTold 42 = .ok (.iload_n 3, 1) := by decide +kernel
theorem dX12_nearTold_43 : decode cX12_nearTold 43 = .ok (.ishr, 1) := by decide +kernel
theorem dX12_nearTold_44 : decode cX12_nearTold 44 = .ok (.iconst 1, 1) := by decide +kernel
theorem dX12_nearTold_45 : decode cX12_nearTold 45 = .ok (.iand, 1) := by decide +kernel
theorem dX12_nearTold_46 : decode cX12_nearTold 46 = .ok (.iconst 1, 1) := by decide +kernel
theorem dX12_nearTold_47 : decode cX12_nearTold 47 = .ok (.if_icmp .ne 12, 3) := by decide +kernel
theorem dX12_nearTold_50 : decode cX12_nearTold 50 = .ok (.aload_n 0, 1) := by decide +kernel
theorem dX12_nearTold_51 : decode cX12_nearTold 51 = .ok (.iconst 3, 1) := by decide +kernel
theorem dX12_nearTold_52 : decode cX12_nearTold 52 = .ok (.aload_n 0, 1) := by decide +kernel
theorem dX12_nearTold_53 : decode cX12_nearTold 53 = .ok (.getfield 311, 3) := by decide +kernel
theorem dX12_nearTold_56 : decode cX12_nearTold 56 = .ok (.invokevirtual 293, 3) := by decide +kernel
theorem dX12_nearTold_59 : decode cX12_nearTold 59 = .ok (.aload_n 0, 1) := by decide +kernel
theorem dX12_nearTold_60 : decode cX12_nearTold 60 = .ok (.getfield 263, 3) := by decide +kernel
theorem dX12_nearTold_63 : decode cX12_nearTold 63 = .ok (.ifCond .eq 4, 3) := by decide +kernel
theorem dX12_nearTold_66 : decode cX12_nearTold 66 = .ok (.return_, 1) := by decide +kernel
theorem dX12_nearTold_67 : decode cX12_nearTold 67 = .ok (.aload_n 0, 1) := by decide +kernel
theorem dX12_nearTold_68 : decode cX12_nearTold 68 = .ok (.getfield 121, 3) := by decide +kernel
theorem dX12_nearTold_71 : decode cX12_nearTold 71 = .ok (.iload_n 2, 1) := by decide +kernel
theorem dX12_nearTold_72 : decode cX12_nearTold 72 = .ok (.dup2, 1) := by decide +kernel
theorem dX12_nearTold_73 : decode cX12_nearTold 73 = .ok (.iaload, 1) := by decide +kernel
theorem dX12_nearTold_74 : decode cX12_nearTold 74 = .ok (.iconst 1, 1) := by decide +kernel
theorem dX12_nearTold_75 : decode cX12_nearTold 75 = .ok (.iload_n 3, 1) := by decide +kernel
theorem dX12_nearTold_76 : decode cX12_nearTold 76 = .ok (.ishl, 1) := by decide +kernel
theorem dX12_nearTold_77 : decode cX12_nearTold 77 = .ok (.ior, 1) := by decide +kernel
theorem dX12_nearTold_78 : decode cX12_nearTold 78 = .ok (.iastore, 1) := by decide +kernel
theorem dX12_nearTold_79 : decode cX12_nearTold 79 = .ok (.aload_n 0, 1) := by decide +kernel
theorem dX12_nearTold_80 : decode cX12_nearTold 80 = .ok (.getfield 121, 3) := by decide +kernel
theorem dX12_nearTold_83 : decode cX12_nearTold 83 = .ok (.iload_n 3, 1) := by decide +kernel
theorem dX12_nearTold_84 : decode cX12_nearTold 84 = .ok (.dup2, 1) := by decide +kernel
theorem dX12_nearTold_85 : decode cX12_nearTold 85 = .ok (.iaload, 1) := by decide +kernel
theorem dX12_nearTold_86 : decode cX12_nearTold 86 = .ok (.iconst 1, 1) := by decide +kernel
theorem dX12_nearTold_87 : decode cX12_nearTold 87 = .ok (.iload_n 2, 1) := by decide +kernel
theorem dX12_nearTold_88 : decode cX12_nearTold 88 = .ok (.ishl, 1) := by decide +kernel
theorem dX12_nearTold_89 : decode cX12_nearTold 89 = .ok (.ior, 1) := by decide +kernel
theorem dX12_nearTold_90 : decode cX12_nearTold 90 = .ok (.iastore, 1) := by decide +kernel
theorem dX12_nearTold_91 : decode cX12_nearTold 91 = .ok (.aload_n 0, 1) := by decide +kernel
theorem dX12_nearTold_92 : decode cX12_nearTold 92 = .ok (.getfield 105, 3) := by decide +kernel
theorem dX12_nearTold_95 : decode cX12_nearTold 95 = .ok (.iconst 3, 1) := by decide +kernel
theorem dX12_nearTold_96 : decode cX12_nearTold 96 = .ok (.dup2, 1) := by decide +kernel
theorem dX12_nearTold_97 : decode cX12_nearTold 97 = .ok (.iaload, 1) := by decide +kernel
theorem dX12_nearTold_98 : decode cX12_nearTold 98 = .ok (.iconst 1, 1) := by decide +kernel
theorem dX12_nearTold_99 : decode cX12_nearTold 99 = .ok (.iadd, 1) := by decide +kernel
theorem dX12_nearTold_100 : decode cX12_nearTold 100 = .ok (.iastore, 1) := by decide +kernel
theorem dX12_nearTold_101 : decode cX12_nearTold 101 = .ok (.return_, 1) := by decide +kernel
theorem dX12_helperTold_0 : decode cX12_helperTold 0 = .ok (.aload_n 0, 1) := by decide +kernel
theorem dX12_helperTold_1 : decode cX12_helperTold 1 = .ok (.iconst 2, 1) := by decide +kernel
theorem dX12_helperTold_2 : decode cX12_helperTold 2 = .ok (.iconst 3, 1) := by decide +kernel
theorem dX12_helperTold_3 : decode cX12_helperTold 3 = .ok (.iload_n 1, 1) := by decide +kernel
theorem dX12_helperTold_4 : decode cX12_helperTold 4 = .ok (.invokevirtual 330, 3) := by decide +kernel
theorem dX12_helperTold_7 : decode cX12_helperTold 7 = .ok (.ifCond .eq 4, 3) := by decide +kernel
theorem dX12_helperTold_10 : decode cX12_helperTold 10 = .ok (.return_, 1) := by decide +kernel
theorem dX12_helperTold_11 : decode cX12_helperTold 11 = .ok (.aload_n 0, 1) := by decide +kernel
theorem dX12_helperTold_12 : decode cX12_helperTold 12 = .ok (.invokevirtual 334, 3) := by decide +kernel
theorem dX12_helperTold_15 : decode cX12_helperTold 15 = .ok (.lstore_n 2, 1) := by decide +kernel
theorem dX12_helperTold_16 : decode cX12_helperTold 16 = .ok (.aload_n 0, 1) := by decide +kernel
theorem dX12_helperTold_17 : decode cX12_helperTold 17 = .ok (.aload_n 0, 1) := by decide +kernel
theorem dX12_helperTold_18 : decode cX12_helperTold 18 = .ok (.getfield 51, 3) := by decide +kernel
theorem dX12_helperTold_21 : decode cX12_helperTold 21 = .ok (.invokevirtual 337, 3) := by decide +kernel
theorem dX12_helperTold_24 : decode cX12_helperTold 24 = .ok (.aload_n 0, 1) := by decide +kernel
theorem dX12_helperTold_25 : decode cX12_helperTold 25 = .ok (.iconst 1, 1) := by decide +kernel
theorem dX12_helperTold_26 : decode cX12_helperTold 26 = .ok (.sipush 240, 3) := by decide +kernel
theorem dX12_helperTold_29 : decode cX12_helperTold 29 = .ok (.invokevirtual 341, 3) := by decide +kernel
theorem dX12_helperTold_32 : decode cX12_helperTold 32 = .ok (.istore 4, 2) := by decide +kernel
theorem dX12_helperTold_34 : decode cX12_helperTold 34 = .ok (.aload_n 0, 1) := by decide +kernel
theorem dX12_helperTold_35 : decode cX12_helperTold 35 = .ok (.aload_n 0, 1) := by decide +kernel
theorem dX12_helperTold_36 : decode cX12_helperTold 36 = .ok (.getfield 54, 3) := by decide +kernel
theorem dX12_helperTold_39 : decode cX12_helperTold 39 = .ok (.invokevirtual 337, 3) := by decide +kernel
theorem dX12_helperTold_42 : decode cX12_helperTold 42 = .ok (.aload_n 0, 1) := by decide +kernel
theorem dX12_helperTold_43 : decode cX12_helperTold 43 = .ok (.iconst 0, 1) := by decide +kernel
theorem dX12_helperTold_44 : decode cX12_helperTold 44 = .ok (.bipush 9, 2) := by decide +kernel
theorem dX12_helperTold_46 : decode cX12_helperTold 46 = .ok (.invokevirtual 341, 3) := by decide +kernel
theorem dX12_helperTold_49 : decode cX12_helperTold 49 = .ok (.istore 5, 2) := by decide +kernel
theorem dX12_helperTold_51 : decode cX12_helperTold 51 = .ok (.aload_n 0, 1) := by decide +kernel
theorem dX12_helperTold_52 : decode cX12_helperTold 52 = .ok (.aload_n 0, 1) := by decide +kernel
theorem dX12_helperTold_53 : decode cX12_helperTold 53 = .ok (.getfield 57, 3) := by decide +kernel
theorem dX12_helperTold_56 : decode cX12_helperTold 56 = .ok (.invokevirtual 337, 3) := by decide +kernel
theorem dX12_helperTold_59 : decode cX12_helperTold 59 = .ok (.aload_n 0, 1) := by decide +kernel
theorem dX12_helperTold_60 : decode cX12_helperTold 60 = .ok (.iconst 0, 1) := by decide +kernel
theorem dX12_helperTold_61 : decode cX12_helperTold 61 = .ok (.bipush 10, 2) := by decide +kernel
theorem dX12_helperTold_63 : decode cX12_helperTold 63 = .ok (.invokevirtual 341, 3) := by decide +kernel
theorem dX12_helperTold_66 : decode cX12_helperTold 66 = .ok (.istore 6, 2) := by decide +kernel
theorem dX12_helperTold_68 : decode cX12_helperTold 68 = .ok (.aload_n 0, 1) := by decide +kernel
theorem dX12_helperTold_69 : decode cX12_helperTold 69 = .ok (.getfield 263, 3) := by decide +kernel
theorem dX12_helperTold_72 : decode cX12_helperTold 72 = .ok (.ifCond .eq 4, 3) := by decide +kernel
theorem dX12_helperTold_75 : decode cX12_helperTold 75 = .ok (.return_, 1) := by decide +kernel
theorem dX12_helperTold_76 : decode cX12_helperTold 76 = .ok (.iconst 3, 1) := by decide +kernel
theorem dX12_helperTold_77 : decode cX12_helperTold 77 = .ok (.aload_n 0, 1) := by decide +kernel
theorem dX12_helperTold_78 : decode cX12_helperTold 78 = .ok (.iconst 2, 1) := by decide +kernel
theorem dX12_helperTold_79 : decode cX12_helperTold 79 = .ok (.lload_n 2, 1) := by decide +kernel
theorem dX12_helperTold_80 : decode cX12_helperTold 80 = .ok (.invokevirtual 345, 3) := by decide +kernel
theorem dX12_helperTold_83 : decode cX12_helperTold 83 = .ok (.imul, 1) := by decide +kernel
theorem dX12_helperTold_84 : decode cX12_helperTold 84 = .ok (.istore 7, 2) := by decide +kernel
theorem dX12_helperTold_86 : decode cX12_helperTold 86 = .ok (.aload_n 0, 1) := by decide +kernel
theorem dX12_helperTold_87 : decode cX12_helperTold 87 = .ok (.getfield 127, 3) := by decide +kernel
theorem dX12_helperTold_90 : decode cX12_helperTold 90 = .ok (.iload 7, 2) := by decide +kernel
theorem dX12_helperTold_92 : decode cX12_helperTold 92 = .ok (.iload 4, 2) := by decide +kernel
theorem dX12_helperTold_94 : decode cX12_helperTold 94 = .ok (.iastore, 1) := by decide +kernel
theorem dX12_helperTold_95 : decode cX12_helperTold 95 = .ok (.aload_n 0, 1) := by decide +kernel
theorem dX12_helperTold_96 : decode cX12_helperTold 96 = .ok (.getfield 127, 3) := by decide +kernel
theorem dX12_helperTold_99 : decode cX12_helperTold 99 = .ok (.iload 7, 2) := by decide +kernel
theorem dX12_helperTold_101 : decode cX12_helperTold 101 = .ok (.iconst 1, 1) := by decide +kernel
theorem dX12_helperTold_102 : decode cX12_helperTold 102 = .ok (.iadd, 1) := by decide +kernel
theorem dX12_helperTold_103 : decode cX12_helperTold 103 = .ok (.iload 5, 2) := by decide +kernel
theorem dX12_helperTold_105 : decode cX12_helperTold 105 = .ok (.iastore, 1) := by decide +kernel
theorem dX12_helperTold_106 : decode cX12_helperTold 106 = .ok (.aload_n 0, 1) := by decide +kernel
theorem dX12_helperTold_107 : decode cX12_helperTold 107 = .ok (.getfield 127, 3) := by decide +kernel
theorem dX12_helperTold_110 : decode cX12_helperTold 110 = .ok (.iload 7, 2) := by decide +kernel
theorem dX12_helperTold_112 : decode cX12_helperTold 112 = .ok (.iconst 2, 1) := by decide +kernel
theorem dX12_helperTold_113 : decode cX12_helperTold 113 = .ok (.iadd, 1) := by decide +kernel
theorem dX12_helperTold_114 : decode cX12_helperTold 114 = .ok (.iload 6, 2) := by decide +kernel
theorem dX12_helperTold_116 : decode cX12_helperTold 116 = .ok (.iastore, 1) := by decide +kernel
theorem dX12_helperTold_117 : decode cX12_helperTold 117 = .ok (.return_, 1) := by decide +kernel
theorem dX12_heap_0 : decode cX12_heap 0 = .ok (.aload_n 0, 1) := by decide +kernel
theorem dX12_heap_1 : decode cX12_heap 1 = .ok (.aload_n 0, 1) := by decide +kernel
theorem dX12_heap_2 : decode cX12_heap 2 = .ok (.getfield 260, 3) := by decide +kernel
theorem dX12_heap_5 : decode cX12_heap 5 = .ok (.putfield 272, 3) := by decide +kernel
theorem dX12_heap_8 : decode cX12_heap 8 = .ok (.aload_n 0, 1) := by decide +kernel
theorem dX12_heap_9 : decode cX12_heap 9 = .ok (.iconst 0, 1) := by decide +kernel
theorem dX12_heap_10 : decode cX12_heap 10 = .ok (.putfield 260, 3) := by decide +kernel
theorem dX12_heap_13 : decode cX12_heap 13 = .ok (.aload_n 0, 1) := by decide +kernel
theorem dX12_heap_14 : decode cX12_heap 14 = .ok (.iconst 0, 1) := by decide +kernel
theorem dX12_heap_15 : decode cX12_heap 15 = .ok (.putfield 269, 3) := by decide +kernel
theorem dX12_heap_18 : decode cX12_heap 18 = .ok (.aload_n 0, 1) := by decide +kernel
theorem dX12_heap_19 : decode cX12_heap 19 = .ok (.iconst (-1), 1) := by decide +kernel
theorem dX12_heap_20 : decode cX12_heap 20 = .ok (.putfield 283, 3) := by decide +kernel
theorem dX12_heap_23 : decode cX12_heap 23 = .ok (.aload_n 0, 1) := by decide +kernel
theorem dX12_heap_24 : decode cX12_heap 24 = .ok (.iconst 0, 1) := by decide +kernel
theorem dX12_heap_25 : decode cX12_heap 25 = .ok (.putfield 263, 3) := by decide +kernel
theorem dX12_heap_28 : decode cX12_heap 28 = .ok (.aload_n 0, 1) := by decide +kernel
theorem dX12_heap_29 : decode cX12_heap 29 = .ok (.iconst (-1), 1) := by decide +kernel
theorem dX12_heap_30 : decode cX12_heap 30 = .ok (.putfield 266, 3) := by decide +kernel
theorem dX12_heap_33 : decode cX12_heap 33 = .ok (.aload_n 0, 1) := by decide +kernel
theorem dX12_heap_34 : decode cX12_heap 34 = .ok (.iconst 0, 1) := by decide +kernel
theorem dX12_heap_35 : decode cX12_heap 35 = .ok (.putfield 370, 3) := by decide +kernel
theorem dX12_heap_38 : decode cX12_heap 38 = .ok (.aload_n 0, 1) := by decide +kernel
theorem dX12_heap_39 : decode cX12_heap 39 = .ok (.iconst 0, 1) := by decide +kernel
theorem dX12_heap_40 : decode cX12_heap 40 = .ok (.putfield 367, 3) := by decide +kernel
theorem dX12_heap_43 : decode cX12_heap 43 = .ok (.iconst 0, 1) := by decide +kernel
theorem dX12_heap_44 : decode cX12_heap 44 = .ok (.istore_n 1, 1) := by decide +kernel
theorem dX12_heap_45 : decode cX12_heap 45 = .ok (.iload_n 1, 1) := by decide +kernel
theorem dX12_heap_46 : decode cX12_heap 46 = .ok (.iconst 5, 1) := by decide +kernel
theorem dX12_heap_47 : decode cX12_heap 47 = .ok (.if_icmp .ge 16, 3) := by decide +kernel
theorem dX12_heap_50 : decode cX12_heap 50 = .ok (.aload_n 0, 1) := by decide +kernel
theorem dX12_heap_51 : decode cX12_heap 51 = .ok (.getfield 105, 3) := by decide +kernel
theorem dX12_heap_54 : decode cX12_heap 54 = .ok (.iload_n 1, 1) := by decide +kernel
theorem dX12_heap_55 : decode cX12_heap 55 = .ok (.iconst 0, 1) := by decide +kernel
theorem dX12_heap_56 : decode cX12_heap 56 = .ok (.iastore, 1) := by decide +kernel
theorem dX12_heap_57 : decode cX12_heap 57 = .ok (.iinc 1 1, 3) := by decide +kernel
theorem dX12_heap_60 : decode cX12_heap 60 = .ok (.goto (-15), 3) := by decide +kernel
theorem dX12_heap_63 : decode cX12_heap 63 = .ok (.iconst 0, 1) := by decide +kernel
theorem dX12_heap_64 : decode cX12_heap 64 = .ok (.istore_n 1, 1) := by decide +kernel
theorem dX12_heap_65 : decode cX12_heap 65 = .ok (.iload_n 1, 1) := by decide +kernel
theorem dX12_heap_66 : decode cX12_heap 66 = .ok (.bipush 32, 2) := by decide +kernel
theorem dX12_heap_68 : decode cX12_heap 68 = .ok (.if_icmp .ge 16, 3) := by decide +kernel
theorem dX12_heap_71 : decode cX12_heap 71 = .ok (.aload_n 0, 1) := by decide +kernel
theorem dX12_heap_72 : decode cX12_heap 72 = .ok (.getfield 118, 3) := by decide +kernel
theorem dX12_heap_75 : decode cX12_heap 75 = .ok (.iload_n 1, 1) := by decide +kernel
theorem dX12_heap_76 : decode cX12_heap 76 = .ok (.iconst 0, 1) := by decide +kernel
theorem dX12_heap_77 : decode cX12_heap 77 = .ok (.iastore, 1) := by decide +kernel
theorem dX12_heap_78 : decode cX12_heap 78 = .ok (.iinc 1 1, 3) := by decide +kernel
theorem dX12_heap_81 : decode cX12_heap 81 = .ok (.goto (-16), 3) := by decide +kernel
theorem dX12_heap_84 : decode cX12_heap 84 = .ok (.iconst 0, 1) := by decide +kernel
theorem dX12_heap_85 : decode cX12_heap 85 = .ok (.istore_n 1, 1) := by decide +kernel
theorem dX12_heap_86 : decode cX12_heap 86 = .ok (.iload_n 1, 1) := by decide +kernel
theorem dX12_heap_87 : decode cX12_heap 87 = .ok (.bipush 8, 2) := by decide +kernel
theorem dX12_heap_89 : decode cX12_heap 89 = .ok (.if_icmp .ge 16, 3) := by decide +kernel
theorem dX12_heap_92 : decode cX12_heap 92 = .ok (.aload_n 0, 1) := by decide +kernel
theorem dX12_heap_93 : decode cX12_heap 93 = .ok (.getfield 121, 3) := by decide +kernel
theorem dX12_heap_96 : decode cX12_heap 96 = .ok (.iload_n 1, 1) := by decide +kernel
theorem dX12_heap_97 : decode cX12_heap 97 = .ok (.iconst 0, 1) := by decide +kernel
theorem dX12_heap_98 : decode cX12_heap 98 = .ok (.iastore, 1) := by decide +kernel
theorem dX12_heap_99 : decode cX12_heap 99 = .ok (.iinc 1 1, 3) := by decide +kernel
theorem dX12_heap_102 : decode cX12_heap 102 = .ok (.goto (-16), 3) := by decide +kernel
theorem dX12_heap_105 : decode cX12_heap 105 = .ok (.iconst 0, 1) := by decide +kernel
theorem dX12_heap_106 : decode cX12_heap 106 = .ok (.istore_n 1, 1) := by decide +kernel
theorem dX12_heap_107 : decode cX12_heap 107 = .ok (.iload_n 1, 1) := by decide +kernel
theorem dX12_heap_108 : decode cX12_heap 108 = .ok (.bipush 64, 2) := by decide +kernel
theorem dX12_heap_110 : decode cX12_heap 110 = .ok (.if_icmp .ge 16, 3) := by decide +kernel
theorem dX12_heap_113 : decode cX12_heap 113 = .ok (.aload_n 0, 1) := by decide +kernel
theorem dX12_heap_114 : decode cX12_heap 114 = .ok (.getfield 124, 3) := by decide +kernel
theorem dX12_heap_117 : decode cX12_heap 117 = .ok (.iload_n 1, 1) := by decide +kernel
theorem dX12_heap_118 : decode cX12_heap 118 = .ok (.iconst 0, 1) := by decide +kernel
theorem dX12_heap_119 : decode cX12_heap 119 = .ok (.iastore, 1) := by decide +kernel
theorem dX12_heap_120 : decode cX12_heap 120 = .ok (.iinc 1 1, 3) := by decide +kernel
theorem dX12_heap_123 : decode cX12_heap 123 = .ok (.goto (-16), 3) := by decide +kernel
theorem dX12_heap_126 : decode cX12_heap 126 = .ok (.aload_n 0, 1) := by decide +kernel
theorem dX12_heap_127 : decode cX12_heap 127 = .ok (.getfield 133, 3) := by decide +kernel
theorem dX12_heap_130 : decode cX12_heap 130 = .ok (.iconst 0, 1) := by decide +kernel
theorem dX12_heap_131 : decode cX12_heap 131 = .ok (.iconst (-1), 1) := by decide +kernel
theorem dX12_heap_132 : decode cX12_heap 132 = .ok (.iastore, 1) := by decide +kernel
theorem dX12_heap_133 : decode cX12_heap 133 = .ok (.aload_n 0, 1) := by decide +kernel
theorem dX12_heap_134 : decode cX12_heap 134 = .ok (.getfield 133, 3) := by decide +kernel
theorem dX12_heap_137 : decode cX12_heap 137 = .ok (.iconst 1, 1) := by decide +kernel
theorem dX12_heap_138 : decode cX12_heap 138 = .ok (.iconst (-1), 1) := by decide +kernel
theorem dX12_heap_139 : decode cX12_heap 139 = .ok (.iastore, 1) := by decide +kernel
theorem dX12_heap_140 : decode cX12_heap 140 = .ok (.aload_n 0, 1) := by decide +kernel
theorem dX12_heap_141 : decode cX12_heap 141 = .ok (.getfield 130, 3) := by decide +kernel
theorem dX12_heap_144 : decode cX12_heap 144 = .ok (.iconst 0, 1) := by decide +kernel
theorem dX12_heap_145 : decode cX12_heap 145 = .ok (.iconst 3, 1) := by decide +kernel
theorem dX12_heap_146 : decode cX12_heap 146 = .ok (.iastore, 1) := by decide +kernel
theorem dX12_heap_147 : decode cX12_heap 147 = .ok (.aload_n 0, 1) := by decide +kernel
theorem dX12_heap_148 : decode cX12_heap 148 = .ok (.getfield 130, 3) := by decide +kernel
theorem dX12_heap_151 : decode cX12_heap 151 = .ok (.iconst 1, 1) := by decide +kernel
theorem dX12_heap_152 : decode cX12_heap 152 = .ok (.iconst 0, 1) := by decide +kernel
theorem dX12_heap_153 : decode cX12_heap 153 = .ok (.iastore, 1) := by decide +kernel
theorem dX12_heap_154 : decode cX12_heap 154 = .ok (.aload_n 0, 1) := by decide +kernel
theorem dX12_heap_155 : decode cX12_heap 155 = .ok (.getfield 263, 3) := by decide +kernel
theorem dX12_heap_158 : decode cX12_heap 158 = .ok (.ifCond .ne 18, 3) := by decide +kernel
theorem dX12_heap_161 : decode cX12_heap 161 = .ok (.aload_n 0, 1) := by decide +kernel
theorem dX12_heap_162 : decode cX12_heap 162 = .ok (.invokevirtual 275, 3) := by decide +kernel
theorem dX12_heap_165 : decode cX12_heap 165 = .ok (.iconst (-1), 1) := by decide +kernel
theorem dX12_heap_166 : decode cX12_heap 166 = .ok (.if_icmp .eq 10, 3) := by decide +kernel
theorem dX12_heap_169 : decode cX12_heap 169 = .ok (.aload_n 0, 1) := by decide +kernel
theorem dX12_heap_170 : decode cX12_heap 170 = .ok (.invokevirtual 398, 3) := by decide +kernel
theorem dX12_heap_173 : decode cX12_heap 173 = .ok (.goto (-19), 3) := by decide +kernel
theorem dX12_heap_176 : decode cX12_heap 176 = .ok (.aload_n 0, 1) := by decide +kernel
theorem dX12_heap_177 : decode cX12_heap 177 = .ok (.aload_n 0, 1) := by decide +kernel
theorem dX12_heap_178 : decode cX12_heap 178 = .ok (.getfield 263, 3) := by decide +kernel
theorem dX12_heap_181 : decode cX12_heap 181 = .ok (.putfield 401, 3) := by decide +kernel
theorem dX12_heap_184 : decode cX12_heap 184 = .ok (.aload_n 0, 1) := by decide +kernel
theorem dX12_heap_185 : decode cX12_heap 185 = .ok (.aload_n 0, 1) := by decide +kernel
theorem dX12_heap_186 : decode cX12_heap 186 = .ok (.getfield 266, 3) := by decide +kernel
theorem dX12_heap_189 : decode cX12_heap 189 = .ok (.putfield 13, 3) := by decide +kernel
theorem dX12_heap_192 : decode cX12_heap 192 = .ok (.aload_n 0, 1) := by decide +kernel
theorem dX12_heap_193 : decode cX12_heap 193 = .ok (.getfield 263, 3) := by decide +kernel
theorem dX12_heap_196 : decode cX12_heap 196 = .ok (.ifCond .eq 15, 3) := by decide +kernel
theorem dX12_heap_199 : decode cX12_heap 199 = .ok (.aload_n 0, 1) := by decide +kernel
theorem dX12_heap_200 : decode cX12_heap 200 = .ok (.getfield 17, 3) := by decide +kernel
theorem dX12_heap_203 : decode cX12_heap 203 = .ok (.iconst 1, 1) := by decide +kernel
theorem dX12_heap_204 : decode cX12_heap 204 = .ok (.dup2, 1) := by decide +kernel
theorem dX12_heap_205 : decode cX12_heap 205 = .ok (.iaload, 1) := by decide +kernel
theorem dX12_heap_206 : decode cX12_heap 206 = .ok (.iconst 1, 1) := by decide +kernel
theorem dX12_heap_207 : decode cX12_heap 207 = .ok (.iadd, 1) := by decide +kernel
theorem dX12_heap_208 : decode cX12_heap 208 = .ok (.iastore, 1) := by decide +kernel
theorem dX12_heap_209 : decode cX12_heap 209 = .ok (.iconst (-1), 1) := by decide +kernel
theorem dX12_heap_210 : decode cX12_heap 210 = .ok (.ireturn, 1) := by decide +kernel
theorem dX12_heap_211 : decode cX12_heap 211 = .ok (.aload_n 0, 1) := by decide +kernel
theorem dX12_heap_212 : decode cX12_heap 212 = .ok (.invokevirtual 404, 3) := by decide +kernel
theorem dX12_heap_215 : decode cX12_heap 215 = .ok (.aload_n 0, 1) := by decide +kernel
theorem dX12_heap_216 : decode cX12_heap 216 = .ok (.getfield 370, 3) := by decide +kernel
theorem dX12_heap_219 : decode cX12_heap 219 = .ok (.ireturn, 1) := by decide +kernel
theorem dX12_letterMany_0 : decode cX12_letterMany 0 = .ok (.aload_n 0, 1) := by decide +kernel
theorem dX12_letterMany_1 : decode cX12_letterMany 1 = .ok (.getfield 105, 3) := by decide +kernel
theorem dX12_letterMany_4 : decode cX12_letterMany 4 = .ok (.iconst 5, 1) := by decide +kernel
theorem dX12_letterMany_5 : decode cX12_letterMany 5 = .ok (.iaload, 1) := by decide +kernel
theorem dX12_letterMany_6 : decode cX12_letterMany 6 = .ok (.ireturn, 1) := by decide +kernel
theorem dX12_mostAlike_0 : decode cX12_mostAlike 0 = .ok (.iconst 0, 1) := by decide +kernel
theorem dX12_mostAlike_1 : decode cX12_mostAlike 1 = .ok (.istore_n 3, 1) := by decide +kernel
theorem dX12_mostAlike_2 : decode cX12_mostAlike 2 = .ok (.iconst 0, 1) := by decide +kernel
theorem dX12_mostAlike_3 : decode cX12_mostAlike 3 = .ok (.istore 4, 2) := by decide +kernel
theorem dX12_mostAlike_5 : decode cX12_mostAlike 5 = .ok (.iload 4, 2) := by decide +kernel
theorem dX12_mostAlike_7 : decode cX12_mostAlike 7 = .ok (.aload_n 0, 1) := by decide +kernel
theorem dX12_mostAlike_8 : decode cX12_mostAlike 8 = .ok (.invokevirtual 422, 3) := by decide +kernel
theorem dX12_mostAlike_11 : decode cX12_mostAlike 11 = .ok (.if_icmp .ge 79, 3) := by decide +kernel
theorem dX12_mostAlike_14 : decode cX12_mostAlike 14 = .ok (.iconst 0, 1) := by decide +kernel
theorem dX12_mostAlike_15 : decode cX12_mostAlike 15 = .ok (.istore 5, 2) := by decide +kernel
theorem dX12_mostAlike_17 : decode cX12_mostAlike 17 = .ok (.iconst 0, 1) := by decide +kernel
theorem dX12_mostAlike_18 : decode cX12_mostAlike 18 = .ok (.istore 6, 2) := by decide +kernel
theorem dX12_mostAlike_20 : decode cX12_mostAlike 20 = .ok (.iload 6, 2) := by decide +kernel
theorem dX12_mostAlike_22 : decode cX12_mostAlike 22 = .ok (.aload_n 0, 1) := by decide +kernel
theorem dX12_mostAlike_23 : decode cX12_mostAlike 23 = .ok (.invokevirtual 422, 3) := by decide +kernel
theorem dX12_mostAlike_26 : decode cX12_mostAlike 26 = .ok (.if_icmp .ge 49, 3) := by decide +kernel
theorem dX12_mostAlike_29 : decode cX12_mostAlike 29 = .ok (.iload_n 2, 1) := by decide +kernel
theorem dX12_mostAlike_30 : decode cX12_mostAlike 30 = .ok (.iload 4, 2) := by decide +kernel
theorem dX12_mostAlike_32 : decode cX12_mostAlike 32 = .ok (.ishr, 1) := by decide +kernel
theorem dX12_mostAlike_33 : decode cX12_mostAlike 33 = .ok (.iconst 1, 1) := by decide +kernel
theorem dX12_mostAlike_34 : decode cX12_mostAlike 34 = .ok (.iand, 1) := by decide +kernel
theorem dX12_mostAlike_35 : decode cX12_mostAlike 35 = .ok (.iconst 1, 1) := by decide +kernel
theorem dX12_mostAlike_36 : decode cX12_mostAlike 36 = .ok (.if_icmp .ne 33, 3) := by decide +kernel
theorem dX12_mostAlike_39 : decode cX12_mostAlike 39 = .ok (.iload_n 2, 1) := by decide +kernel
theorem dX12_mostAlike_40 : decode cX12_mostAlike 40 = .ok (.iload 6, 2) := by decide +kernel
theorem dX12_mostAlike_42 : decode cX12_mostAlike 42 = .ok (.ishr, 1) := by decide +kernel
theorem dX12_mostAlike_43 : decode cX12_mostAlike 43 = .ok (.iconst 1, 1) := by decide +kernel
theorem dX12_mostAlike_44 : decode cX12_mostAlike 44 = .ok (.iand, 1) := by decide +kernel
theorem dX12_mostAlike_45 : decode cX12_mostAlike 45 = .ok (.iconst 1, 1) := by decide +kernel
theorem dX12_mostAlike_46 : decode cX12_mostAlike 46 = .ok (.if_icmp .ne 23, 3) := by decide +kernel
theorem dX12_mostAlike_49 : decode cX12_mostAlike 49 = .ok (.aload_n 0, 1) := by decide +kernel
theorem dX12_mostAlike_50 : decode cX12_mostAlike 50 = .ok (.iload_n 1, 1) := by decide +kernel
theorem dX12_mostAlike_51 : decode cX12_mostAlike 51 = .ok (.iload 6, 2) := by decide +kernel
theorem dX12_mostAlike_53 : decode cX12_mostAlike 53 = .ok (.invokevirtual 461, 3) := by decide +kernel
theorem dX12_mostAlike_56 : decode cX12_mostAlike 56 = .ok (.aload_n 0, 1) := by decide +kernel
theorem dX12_mostAlike_57 : decode cX12_mostAlike 57 = .ok (.iload_n 1, 1) := by decide +kernel
theorem dX12_mostAlike_58 : decode cX12_mostAlike 58 = .ok (.iload 4, 2) := by decide +kernel
theorem dX12_mostAlike_60 : decode cX12_mostAlike 60 = .ok (.invokevirtual 461, 3) := by decide +kernel
theorem dX12_mostAlike_63 : decode cX12_mostAlike 63 = .ok (.if_icmp .ne 6, 3) := by decide +kernel
theorem dX12_mostAlike_66 : decode cX12_mostAlike 66 = .ok (.iinc 5 1, 3) := by decide +kernel
theorem dX12_mostAlike_69 : decode cX12_mostAlike 69 = .ok (.iinc 6 1, 3) := by decide +kernel
theorem dX12_mostAlike_72 : decode cX12_mostAlike 72 = .ok (.goto (-52), 3) := by decide +kernel
theorem dX12_mostAlike_75 : decode cX12_mostAlike 75 = .ok (.iload 5, 2) := by decide +kernel
theorem dX12_mostAlike_77 : decode cX12_mostAlike 77 = .ok (.iload_n 3, 1) := by decide +kernel
theorem dX12_mostAlike_78 : decode cX12_mostAlike 78 = .ok (.if_icmp .le 6, 3) := by decide +kernel
theorem dX12_mostAlike_81 : decode cX12_mostAlike 81 = .ok (.iload 5, 2) := by decide +kernel
theorem dX12_mostAlike_83 : decode cX12_mostAlike 83 = .ok (.istore_n 3, 1) := by decide +kernel
theorem dX12_mostAlike_84 : decode cX12_mostAlike 84 = .ok (.iinc 4 1, 3) := by decide +kernel
theorem dX12_mostAlike_87 : decode cX12_mostAlike 87 = .ok (.goto (-82), 3) := by decide +kernel
theorem dX12_mostAlike_90 : decode cX12_mostAlike 90 = .ok (.iload_n 3, 1) := by decide +kernel
theorem dX12_mostAlike_91 : decode cX12_mostAlike 91 = .ok (.ireturn, 1) := by decide +kernel
theorem dX12_qDropsNots_0 : decode cX12_qDropsNots 0 = .ok (.aload_n 0, 1) := by decide +kernel
theorem dX12_qDropsNots_1 : decode cX12_qDropsNots 1 = .ok (.getfield 263, 3) := by decide +kernel
theorem dX12_qDropsNots_4 : decode cX12_qDropsNots 4 = .ok (.ifCond .ne 29, 3) := by decide +kernel
theorem dX12_qDropsNots_7 : decode cX12_qDropsNots 7 = .ok (.aload_n 0, 1) := by decide +kernel
theorem dX12_qDropsNots_8 : decode cX12_qDropsNots 8 = .ok (.bipush 12, 2) := by decide +kernel
theorem dX12_qDropsNots_10 : decode cX12_qDropsNots 10 = .ok (.invokevirtual 627, 3) := by decide +kernel
theorem dX12_qDropsNots_13 : decode cX12_qDropsNots 13 = .ok (.ifCond .eq 20, 3) := by decide +kernel
theorem dX12_qDropsNots_16 : decode cX12_qDropsNots 16 = .ok (.aload_n 0, 1) := by decide +kernel
theorem dX12_qDropsNots_17 : decode cX12_qDropsNots 17 = .ok (.dup, 1) := by decide +kernel
theorem dX12_qDropsNots_18 : decode cX12_qDropsNots 18 = .ok (.getfield 358, 3) := by decide +kernel
theorem dX12_qDropsNots_21 : decode cX12_qDropsNots 21 = .ok (.iconst 1, 1) := by decide +kernel
theorem dX12_qDropsNots_22 : decode cX12_qDropsNots 22 = .ok (.isub, 1) := by decide +kernel
theorem dX12_qDropsNots_23 : decode cX12_qDropsNots 23 = .ok (.putfield 358, 3) := by decide +kernel
theorem dX12_qDropsNots_26 : decode cX12_qDropsNots 26 = .ok (.aload_n 0, 1) := by decide +kernel
theorem dX12_qDropsNots_27 : decode cX12_qDropsNots 27 = .ok (.invokevirtual 600, 3) := by decide +kernel
theorem dX12_qDropsNots_30 : decode cX12_qDropsNots 30 = .ok (.goto (-30), 3) := by decide +kernel
theorem dX12_qDropsNots_33 : decode cX12_qDropsNots 33 = .ok (.return_, 1) := by decide +kernel
theorem dX12_leftAll_0 : decode cX12_leftAll 0 = .ok (.iconst 0, 1) := by decide +kernel
theorem dX12_leftAll_1 : decode cX12_leftAll 1 = .ok (.istore_n 1, 1) := by decide +kernel
theorem dX12_leftAll_2 : decode cX12_leftAll 2 = .ok (.iconst 0, 1) := by decide +kernel
theorem dX12_leftAll_3 : decode cX12_leftAll 3 = .ok (.istore_n 2, 1) := by decide +kernel
theorem dX12_leftAll_4 : decode cX12_leftAll 4 = .ok (.iload_n 2, 1) := by decide +kernel
theorem dX12_leftAll_5 : decode cX12_leftAll 5 = .ok (.aload_n 0, 1) := by decide +kernel
theorem dX12_leftAll_6 : decode cX12_leftAll 6 = .ok (.invokevirtual 422, 3) := by decide +kernel
theorem dX12_leftAll_9 : decode cX12_leftAll 9 = .ok (.if_icmp .ge 17, 3) := by decide +kernel
theorem dX12_leftAll_12 : decode cX12_leftAll 12 = .ok (.iload_n 1, 1) := by decide +kernel
theorem dX12_leftAll_13 : decode cX12_leftAll 13 = .ok (.aload_n 0, 1) := by decide +kernel
theorem dX12_leftAll_14 : decode cX12_leftAll 14 = .ok (.iload_n 2, 1) := by decide +kernel
theorem dX12_leftAll_15 : decode cX12_leftAll 15 = .ok (.invokevirtual 458, 3) := by decide +kernel
theorem dX12_leftAll_18 : decode cX12_leftAll 18 = .ok (.iadd, 1) := by decide +kernel
theorem dX12_leftAll_19 : decode cX12_leftAll 19 = .ok (.istore_n 1, 1) := by decide +kernel
theorem dX12_leftAll_20 : decode cX12_leftAll 20 = .ok (.iinc 2 1, 3) := by decide +kernel
theorem dX12_leftAll_23 : decode cX12_leftAll 23 = .ok (.goto (-19), 3) := by decide +kernel
theorem dX12_leftAll_26 : decode cX12_leftAll 26 = .ok (.iload_n 1, 1) := by decide +kernel
theorem dX12_leftAll_27 : decode cX12_leftAll 27 = .ok (.ireturn, 1) := by decide +kernel
theorem dX12_lostBy_0 : decode cX12_lostBy 0 = .ok (.iconst 0, 1) := by decide +kernel
theorem dX12_lostBy_1 : decode cX12_lostBy 1 = .ok (.istore_n 2, 1) := by decide +kernel
theorem dX12_lostBy_2 : decode cX12_lostBy 2 = .ok (.iconst 0, 1) := by decide +kernel
theorem dX12_lostBy_3 : decode cX12_lostBy 3 = .ok (.istore_n 3, 1) := by decide +kernel
theorem dX12_lostBy_4 : decode cX12_lostBy 4 = .ok (.iload_n 3, 1) := by decide +kernel
theorem dX12_lostBy_5 : decode cX12_lostBy 5 = .ok (.aload_n 0, 1) := by decide +kernel
theorem dX12_lostBy_6 : decode cX12_lostBy 6 = .ok (.invokevirtual 419, 3) := by decide +kernel
theorem dX12_lostBy_9 : decode cX12_lostBy 9 = .ok (.if_icmp .ge 48, 3) := by decide +kernel
theorem dX12_lostBy_12 : decode cX12_lostBy 12 = .ok (.aload_n 0, 1) := by decide +kernel
theorem dX12_lostBy_13 : decode cX12_lostBy 13 = .ok (.getfield 112, 3) := by decide +kernel
theorem dX12_lostBy_16 : decode cX12_lostBy 16 = .ok (.bipush 26, 2) := by decide +kernel
theorem dX12_lostBy_18 : decode cX12_lostBy 18 = .ok (.iconst 3, 1) := by decide +kernel
theorem dX12_lostBy_19 : decode cX12_lostBy 19 = .ok (.iload_n 3, 1) := by decide +kernel
theorem dX12_lostBy_20 : decode cX12_lostBy 20 = .ok (.imul, 1) := by decide +kernel
theorem dX12_lostBy_21 : decode cX12_lostBy 21 = .ok (.iadd, 1) := by decide +kernel
theorem dX12_lostBy_22 : decode cX12_lostBy 22 = .ok (.iaload, 1) := by decide +kernel
theorem dX12_lostBy_23 : decode cX12_lostBy 23 = .ok (.istore 4, 2) := by decide +kernel
theorem dX12_lostBy_25 : decode cX12_lostBy 25 = .ok (.iload_n 2, 1) := by decide +kernel
theorem dX12_lostBy_26 : decode cX12_lostBy 26 = .ok (.iload 4, 2) := by decide +kernel
theorem dX12_lostBy_28 : decode cX12_lostBy 28 = .ok (.iload_n 1, 1) := by decide +kernel
theorem dX12_lostBy_29 : decode cX12_lostBy 29 = .ok (.if_icmp .lt 11, 3) := by decide +kernel
theorem dX12_lostBy_32 : decode cX12_lostBy 32 = .ok (.bipush 10, 2) := by decide +kernel
theorem dX12_lostBy_34 : decode cX12_lostBy 34 = .ok (.iload 4, 2) := by decide +kernel
theorem dX12_lostBy_36 : decode cX12_lostBy 36 = .ok (.isub, 1) := by decide +kernel
theorem dX12_lostBy_37 : decode cX12_lostBy 37 = .ok (.goto 12, 3) := by decide +kernel
theorem dX12_lostBy_40 : decode cX12_lostBy 40 = .ok (.aload_n 0, 1) := by decide +kernel
theorem dX12_lostBy_41 : decode cX12_lostBy 41 = .ok (.getfield 130, 3) := by decide +kernel
theorem dX12_lostBy_44 : decode cX12_lostBy 44 = .ok (.iconst 2, 1) := by decide +kernel
theorem dX12_lostBy_45 : decode cX12_lostBy 45 = .ok (.iaload, 1) := by decide +kernel
theorem dX12_lostBy_46 : decode cX12_lostBy 46 = .ok (.iload 4, 2) := by decide +kernel
theorem dX12_lostBy_48 : decode cX12_lostBy 48 = .ok (.imul, 1) := by decide +kernel
theorem dX12_lostBy_49 : decode cX12_lostBy 49 = .ok (.iadd, 1) := by decide +kernel
theorem dX12_lostBy_50 : decode cX12_lostBy 50 = .ok (.istore_n 2, 1) := by decide +kernel
theorem dX12_lostBy_51 : decode cX12_lostBy 51 = .ok (.iinc 3 1, 3) := by decide +kernel
theorem dX12_lostBy_54 : decode cX12_lostBy 54 = .ok (.goto (-50), 3) := by decide +kernel
theorem dX12_lostBy_57 : decode cX12_lostBy 57 = .ok (.iload_n 2, 1) := by decide +kernel
theorem dX12_lostBy_58 : decode cX12_lostBy 58 = .ok (.ireturn, 1) := by decide +kernel
theorem dX12_qWordHere_0 : decode cX12_qWordHere 0 = .ok (.aload_n 0, 1) := by decide +kernel
theorem dX12_qWordHere_1 : decode cX12_qWordHere 1 = .ok (.aload_n 0, 1) := by decide +kernel
theorem dX12_qWordHere_2 : decode cX12_qWordHere 2 = .ok (.getfield 215, 3) := by decide +kernel
theorem dX12_qWordHere_5 : decode cX12_qWordHere 5 = .ok (.invokevirtual 286, 3) := by decide +kernel
theorem dX12_qWordHere_8 : decode cX12_qWordHere 8 = .ok (.ifCond .eq 5, 3) := by decide +kernel
theorem dX12_qWordHere_11 : decode cX12_qWordHere 11 = .ok (.iconst 0, 1) := by decide +kernel
theorem dX12_qWordHere_12 : decode cX12_qWordHere 12 = .ok (.ireturn, 1) := by decide +kernel
theorem dX12_qWordHere_13 : decode cX12_qWordHere 13 = .ok (.aload_n 0, 1) := by decide +kernel
theorem dX12_qWordHere_14 : decode cX12_qWordHere 14 = .ok (.aload_n 0, 1) := by decide +kernel
theorem dX12_qWordHere_15 : decode cX12_qWordHere 15 = .ok (.getfield 218, 3) := by decide +kernel
theorem dX12_qWordHere_18 : decode cX12_qWordHere 18 = .ok (.invokevirtual 286, 3) := by decide +kernel
theorem dX12_qWordHere_21 : decode cX12_qWordHere 21 = .ok (.ifCond .eq 5, 3) := by decide +kernel
theorem dX12_qWordHere_24 : decode cX12_qWordHere 24 = .ok (.iconst 1, 1) := by decide +kernel
theorem dX12_qWordHere_25 : decode cX12_qWordHere 25 = .ok (.ireturn, 1) := by decide +kernel
theorem dX12_qWordHere_26 : decode cX12_qWordHere 26 = .ok (.aload_n 0, 1) := by decide +kernel
theorem dX12_qWordHere_27 : decode cX12_qWordHere 27 = .ok (.aload_n 0, 1) := by decide +kernel
theorem dX12_qWordHere_28 : decode cX12_qWordHere 28 = .ok (.getfield 221, 3) := by decide +kernel
theorem dX12_qWordHere_31 : decode cX12_qWordHere 31 = .ok (.invokevirtual 286, 3) := by decide +kernel
theorem dX12_qWordHere_34 : decode cX12_qWordHere 34 = .ok (.ifCond .eq 5, 3) := by decide +kernel
theorem dX12_qWordHere_37 : decode cX12_qWordHere 37 = .ok (.iconst 2, 1) := by decide +kernel
theorem dX12_qWordHere_38 : decode cX12_qWordHere 38 = .ok (.ireturn, 1) := by decide +kernel
theorem dX12_qWordHere_39 : decode cX12_qWordHere 39 = .ok (.aload_n 0, 1) := by decide +kernel
theorem dX12_qWordHere_40 : decode cX12_qWordHere 40 = .ok (.aload_n 0, 1) := by decide +kernel
theorem dX12_qWordHere_41 : decode cX12_qWordHere 41 = .ok (.getfield 224, 3) := by decide +kernel
theorem dX12_qWordHere_44 : decode cX12_qWordHere 44 = .ok (.invokevirtual 286, 3) := by decide +kernel
theorem dX12_qWordHere_47 : decode cX12_qWordHere 47 = .ok (.ifCond .eq 5, 3) := by decide +kernel
theorem dX12_qWordHere_50 : decode cX12_qWordHere 50 = .ok (.iconst 3, 1) := by decide +kernel
theorem dX12_qWordHere_51 : decode cX12_qWordHere 51 = .ok (.ireturn, 1) := by decide +kernel
theorem dX12_qWordHere_52 : decode cX12_qWordHere 52 = .ok (.aload_n 0, 1) := by decide +kernel
theorem dX12_qWordHere_53 : decode cX12_qWordHere 53 = .ok (.aload_n 0, 1) := by decide +kernel
theorem dX12_qWordHere_54 : decode cX12_qWordHere 54 = .ok (.getfield 227, 3) := by decide +kernel
theorem dX12_qWordHere_57 : decode cX12_qWordHere 57 = .ok (.invokevirtual 286, 3) := by decide +kernel
theorem dX12_qWordHere_60 : decode cX12_qWordHere 60 = .ok (.ifCond .eq 5, 3) := by decide +kernel
theorem dX12_qWordHere_63 : decode cX12_qWordHere 63 = .ok (.iconst 4, 1) := by decide +kernel
theorem dX12_qWordHere_64 : decode cX12_qWordHere 64 = .ok (.ireturn, 1) := by decide +kernel
theorem dX12_qWordHere_65 : decode cX12_qWordHere 65 = .ok (.aload_n 0, 1) := by decide +kernel
theorem dX12_qWordHere_66 : decode cX12_qWordHere 66 = .ok (.aload_n 0, 1) := by decide +kernel
theorem dX12_qWordHere_67 : decode cX12_qWordHere 67 = .ok (.getfield 230, 3) := by decide +kernel
theorem dX12_qWordHere_70 : decode cX12_qWordHere 70 = .ok (.invokevirtual 286, 3) := by decide +kernel
theorem dX12_qWordHere_73 : decode cX12_qWordHere 73 = .ok (.ifCond .eq 5, 3) := by decide +kernel
theorem dX12_qWordHere_76 : decode cX12_qWordHere 76 = .ok (.iconst 5, 1) := by decide +kernel
theorem dX12_qWordHere_77 : decode cX12_qWordHere 77 = .ok (.ireturn, 1) := by decide +kernel
theorem dX12_qWordHere_78 : decode cX12_qWordHere 78 = .ok (.aload_n 0, 1) := by decide +kernel
theorem dX12_qWordHere_79 : decode cX12_qWordHere 79 = .ok (.aload_n 0, 1) := by decide +kernel
theorem dX12_qWordHere_80 : decode cX12_qWordHere 80 = .ok (.getfield 233, 3) := by decide +kernel
theorem dX12_qWordHere_83 : decode cX12_qWordHere 83 = .ok (.invokevirtual 286, 3) := by decide +kernel
theorem dX12_qWordHere_86 : decode cX12_qWordHere 86 = .ok (.ifCond .eq 6, 3) := by decide +kernel
theorem dX12_qWordHere_89 : decode cX12_qWordHere 89 = .ok (.bipush 6, 2) := by decide +kernel
theorem dX12_qWordHere_91 : decode cX12_qWordHere 91 = .ok (.ireturn, 1) := by decide +kernel
theorem dX12_qWordHere_92 : decode cX12_qWordHere 92 = .ok (.aload_n 0, 1) := by decide +kernel
theorem dX12_qWordHere_93 : decode cX12_qWordHere 93 = .ok (.aload_n 0, 1) := by decide +kernel
theorem dX12_qWordHere_94 : decode cX12_qWordHere 94 = .ok (.getfield 236, 3) := by decide +kernel
theorem dX12_qWordHere_97 : decode cX12_qWordHere 97 = .ok (.invokevirtual 286, 3) := by decide +kernel
theorem dX12_qWordHere_100 : decode cX12_qWordHere 100 = .ok (.ifCond .eq 6, 3) := by decide +kernel
theorem dX12_qWordHere_103 : decode cX12_qWordHere 103 = .ok (.bipush 7, 2) := by decide +kernel
theorem dX12_qWordHere_105 : decode cX12_qWordHere 105 = .ok (.ireturn, 1) := by decide +kernel
theorem dX12_qWordHere_106 : decode cX12_qWordHere 106 = .ok (.aload_n 0, 1) := by decide +kernel
theorem dX12_qWordHere_107 : decode cX12_qWordHere 107 = .ok (.aload_n 0, 1) := by decide +kernel
theorem dX12_qWordHere_108 : decode cX12_qWordHere 108 = .ok (.getfield 239, 3) := by decide +kernel
theorem dX12_qWordHere_111 : decode cX12_qWordHere 111 = .ok (.invokevirtual 286, 3) := by decide +kernel
theorem dX12_qWordHere_114 : decode cX12_qWordHere 114 = .ok (.ifCond .eq 6, 3) := by decide +kernel
theorem dX12_qWordHere_117 : decode cX12_qWordHere 117 = .ok (.bipush 8, 2) := by decide +kernel
theorem dX12_qWordHere_119 : decode cX12_qWordHere 119 = .ok (.ireturn, 1) := by decide +kernel
theorem dX12_qWordHere_120 : decode cX12_qWordHere 120 = .ok (.aload_n 0, 1) := by decide +kernel
theorem dX12_qWordHere_121 : decode cX12_qWordHere 121 = .ok (.aload_n 0, 1) := by decide +kernel
theorem dX12_qWordHere_122 : decode cX12_qWordHere 122 = .ok (.getfield 242, 3) := by decide +kernel
theorem dX12_qWordHere_125 : decode cX12_qWordHere 125 = .ok (.invokevirtual 286, 3) := by decide +kernel
theorem dX12_qWordHere_128 : decode cX12_qWordHere 128 = .ok (.ifCond .eq 6, 3) := by decide +kernel
theorem dX12_qWordHere_131 : decode cX12_qWordHere 131 = .ok (.bipush 9, 2) := by decide +kernel
theorem dX12_qWordHere_133 : decode cX12_qWordHere 133 = .ok (.ireturn, 1) := by decide +kernel
theorem dX12_qWordHere_134 : decode cX12_qWordHere 134 = .ok (.aload_n 0, 1) := by decide +kernel
theorem dX12_qWordHere_135 : decode cX12_qWordHere 135 = .ok (.aload_n 0, 1) := by decide +kernel
theorem dX12_qWordHere_136 : decode cX12_qWordHere 136 = .ok (.getfield 245, 3) := by decide +kernel
theorem dX12_qWordHere_139 : decode cX12_qWordHere 139 = .ok (.invokevirtual 286, 3) := by decide +kernel
theorem dX12_qWordHere_142 : decode cX12_qWordHere 142 = .ok (.ifCond .eq 6, 3) := by decide +kernel
theorem dX12_qWordHere_145 : decode cX12_qWordHere 145 = .ok (.bipush 10, 2) := by decide +kernel
theorem dX12_qWordHere_147 : decode cX12_qWordHere 147 = .ok (.ireturn, 1) := by decide +kernel
theorem dX12_qWordHere_148 : decode cX12_qWordHere 148 = .ok (.iconst (-1), 1) := by decide +kernel
theorem dX12_qWordHere_149 : decode cX12_qWordHere 149 = .ok (.ireturn, 1) := by decide +kernel
theorem dX12_newName_0 : decode cX12_newName 0 = .ok (.aload_n 0, 1) := by decide +kernel
theorem dX12_newName_1 : decode cX12_newName 1 = .ok (.invokevirtual 322, 3) := by decide +kernel
theorem dX12_newName_4 : decode cX12_newName 4 = .ok (.lstore_n 1, 1) := by decide +kernel
theorem dX12_newName_5 : decode cX12_newName 5 = .ok (.iconst 0, 1) := by decide +kernel
theorem dX12_newName_6 : decode cX12_newName 6 = .ok (.istore_n 3, 1) := by decide +kernel
theorem dX12_newName_7 : decode cX12_newName 7 = .ok (.iload_n 3, 1) := by decide +kernel
theorem dX12_newName_8 : decode cX12_newName 8 = .ok (.iconst 3, 1) := by decide +kernel
theorem dX12_newName_9 : decode cX12_newName 9 = .ok (.if_icmp .ge 35, 3) := by decide +kernel
theorem dX12_newName_12 : decode cX12_newName 12 = .ok (.aload_n 0, 1) := by decide +kernel
theorem dX12_newName_13 : decode cX12_newName 13 = .ok (.getfield 263, 3) := by decide +kernel
theorem dX12_newName_16 : decode cX12_newName 16 = .ok (.ifCond .ne 22, 3) := by decide +kernel
theorem dX12_newName_19 : decode cX12_newName 19 = .ok (.aload_n 0, 1) := by decide +kernel
theorem dX12_newName_20 : decode cX12_newName 20 = .ok (.iload_n 3, 1) := by decide +kernel
theorem dX12_newName_21 : decode cX12_newName 21 = .ok (.lload_n 1, 1) := by decide +kernel
theorem dX12_newName_22 : decode cX12_newName 22 = .ok (.invokevirtual 326, 3) := by decide +kernel
theorem dX12_newName_25 : decode cX12_newName 25 = .ok (.iconst (-1), 1) := by decide +kernel
theorem dX12_newName_26 : decode cX12_newName 26 = .ok (.if_icmp .eq 12, 3) := by decide +kernel
theorem dX12_newName_29 : decode cX12_newName 29 = .ok (.aload_n 0, 1) := by decide +kernel
theorem dX12_newName_30 : decode cX12_newName 30 = .ok (.iconst 3, 1) := by decide +kernel
theorem dX12_newName_31 : decode cX12_newName 31 = .ok (.aload_n 0, 1) := by decide +kernel
theorem dX12_newName_32 : decode cX12_newName 32 = .ok (.getfield 311, 3) := by decide +kernel
theorem dX12_newName_35 : decode cX12_newName 35 = .ok (.invokevirtual 293, 3) := by decide +kernel
theorem dX12_newName_38 : decode cX12_newName 38 = .ok (.iinc 3 1, 3) := by decide +kernel
theorem dX12_newName_41 : decode cX12_newName 41 = .ok (.goto (-34), 3) := by decide +kernel
theorem dX12_newName_44 : decode cX12_newName 44 = .ok (.lload_n 1, 1) := by decide +kernel
theorem dX12_newName_45 : decode cX12_newName 45 = .ok (.lreturn, 1) := by decide +kernel
theorem dX12_letterTold_0 : decode cX12_letterTold 0 = .ok (.aload_n 0, 1) := by decide +kernel
theorem dX12_letterTold_1 : decode cX12_letterTold 1 = .ok (.iconst 0, 1) := by decide +kernel
theorem dX12_letterTold_2 : decode cX12_letterTold 2 = .ok (.bipush 8, 2) := by decide +kernel
theorem dX12_letterTold_4 : decode cX12_letterTold 4 = .ok (.iload_n 1, 1) := by decide +kernel
theorem dX12_letterTold_5 : decode cX12_letterTold 5 = .ok (.invokevirtual 330, 3) := by decide +kernel
theorem dX12_letterTold_8 : decode cX12_letterTold 8 = .ok (.ifCond .eq 4, 3) := by decide +kernel
theorem dX12_letterTold_11 : decode cX12_letterTold 11 = .ok (.return_, 1) := by decide +kernel
theorem dX12_letterTold_12 : decode cX12_letterTold 12 = .ok (.aload_n 0, 1) := by decide +kernel
theorem dX12_letterTold_13 : decode cX12_letterTold 13 = .ok (.invokevirtual 334, 3) := by decide +kernel
theorem dX12_letterTold_16 : decode cX12_letterTold 16 = .ok (.lstore_n 2, 1) := by decide +kernel
theorem dX12_letterTold_17 : decode cX12_letterTold 17 = .ok (.aload_n 0, 1) := by decide +kernel
theorem dX12_letterTold_18 : decode cX12_letterTold 18 = .ok (.aload_n 0, 1) := by decide +kernel
theorem dX12_letterTold_19 : decode cX12_letterTold 19 = .ok (.getfield 24, 3) := by decide +kernel
theorem dX12_letterTold_22 : decode cX12_letterTold 22 = .ok (.invokevirtual 337, 3) := by decide +kernel
theorem dX12_letterTold_25 : decode cX12_letterTold 25 = .ok (.aload_n 0, 1) := by decide +kernel
theorem dX12_letterTold_26 : decode cX12_letterTold 26 = .ok (.iconst 0, 1) := by decide +kernel
theorem dX12_letterTold_27 : decode cX12_letterTold 27 = .ok (.bipush 20, 2) := by decide +kernel
theorem dX12_letterTold_29 : decode cX12_letterTold 29 = .ok (.invokevirtual 341, 3) := by decide +kernel
theorem dX12_letterTold_32 : decode cX12_letterTold 32 = .ok (.istore 4, 2) := by decide +kernel
theorem dX12_letterTold_34 : decode cX12_letterTold 34 = .ok (.aload_n 0, 1) := by decide +kernel
theorem dX12_letterTold_35 : decode cX12_letterTold 35 = .ok (.aload_n 0, 1) := by decide +kernel
theorem dX12_letterTold_36 : decode cX12_letterTold 36 = .ok (.getfield 27, 3) := by decide +kernel
theorem dX12_letterTold_39 : decode cX12_letterTold 39 = .ok (.invokevirtual 337, 3) := by decide +kernel
theorem dX12_letterTold_42 : decode cX12_letterTold 42 = .ok (.aload_n 0, 1) := by decide +kernel
theorem dX12_letterTold_43 : decode cX12_letterTold 43 = .ok (.iconst 0, 1) := by decide +kernel
theorem dX12_letterTold_44 : decode cX12_letterTold 44 = .ok (.bipush 9, 2) := by decide +kernel
theorem dX12_letterTold_46 : decode cX12_letterTold 46 = .ok (.invokevirtual 341, 3) := by decide +kernel
theorem dX12_letterTold_49 : decode cX12_letterTold 49 = .ok (.istore 5, 2) := by decide +kernel
theorem dX12_letterTold_51 : decode cX12_letterTold 51 = .ok (.aload_n 0, 1) := by decide +kernel
theorem dX12_letterTold_52 : decode cX12_letterTold 52 = .ok (.aload_n 0, 1) := by decide +kernel
theorem dX12_letterTold_53 : decode cX12_letterTold 53 = .ok (.getfield 30, 3) := by decide +kernel
theorem dX12_letterTold_56 : decode cX12_letterTold 56 = .ok (.invokevirtual 337, 3) := by decide +kernel
theorem dX12_letterTold_59 : decode cX12_letterTold 59 = .ok (.aload_n 0, 1) := by decide +kernel
theorem dX12_letterTold_60 : decode cX12_letterTold 60 = .ok (.iconst 0, 1) := by decide +kernel
theorem dX12_letterTold_61 : decode cX12_letterTold 61 = .ok (.bipush 10, 2) := by decide +kernel
theorem dX12_letterTold_63 : decode cX12_letterTold 63 = .ok (.invokevirtual 341, 3) := by decide +kernel
theorem dX12_letterTold_66 : decode cX12_letterTold 66 = .ok (.istore 6, 2) := by decide +kernel
theorem dX12_letterTold_68 : decode cX12_letterTold 68 = .ok (.aload_n 0, 1) := by decide +kernel
theorem dX12_letterTold_69 : decode cX12_letterTold 69 = .ok (.getfield 263, 3) := by decide +kernel
theorem dX12_letterTold_72 : decode cX12_letterTold 72 = .ok (.ifCond .eq 4, 3) := by decide +kernel
theorem dX12_letterTold_75 : decode cX12_letterTold 75 = .ok (.return_, 1) := by decide +kernel
theorem dX12_letterTold_76 : decode cX12_letterTold 76 = .ok (.iconst 3, 1) := by decide +kernel
theorem dX12_letterTold_77 : decode cX12_letterTold 77 = .ok (.aload_n 0, 1) := by decide +kernel
theorem dX12_letterTold_78 : decode cX12_letterTold 78 = .ok (.iconst 0, 1) := by decide +kernel
theorem dX12_letterTold_79 : decode cX12_letterTold 79 = .ok (.lload_n 2, 1) := by decide +kernel
theorem dX12_letterTold_80 : decode cX12_letterTold 80 = .ok (.invokevirtual 345, 3) := by decide +kernel
theorem dX12_letterTold_83 : decode cX12_letterTold 83 = .ok (.imul, 1) := by decide +kernel
theorem dX12_letterTold_84 : decode cX12_letterTold 84 = .ok (.istore 7, 2) := by decide +kernel
theorem dX12_letterTold_86 : decode cX12_letterTold 86 = .ok (.aload_n 0, 1) := by decide +kernel
theorem dX12_letterTold_87 : decode cX12_letterTold 87 = .ok (.getfield 112, 3) := by decide +kernel
theorem dX12_letterTold_90 : decode cX12_letterTold 90 = .ok (.iload 7, 2) := by decide +kernel
theorem dX12_letterTold_92 : decode cX12_letterTold 92 = .ok (.iload 4, 2) := by decide +kernel
theorem dX12_letterTold_94 : decode cX12_letterTold 94 = .ok (.iastore, 1) := by decide +kernel
theorem dX12_letterTold_95 : decode cX12_letterTold 95 = .ok (.aload_n 0, 1) := by decide +kernel
theorem dX12_letterTold_96 : decode cX12_letterTold 96 = .ok (.getfield 112, 3) := by decide +kernel
theorem dX12_letterTold_99 : decode cX12_letterTold 99 = .ok (.iload 7, 2) := by decide +kernel
theorem dX12_letterTold_101 : decode cX12_letterTold 101 = .ok (.iconst 1, 1) := by decide +kernel
theorem dX12_letterTold_102 : decode cX12_letterTold 102 = .ok (.iadd, 1) := by decide +kernel
theorem dX12_letterTold_103 : decode cX12_letterTold 103 = .ok (.iload 5, 2) := by decide +kernel
theorem dX12_letterTold_105 : decode cX12_letterTold 105 = .ok (.iastore, 1) := by decide +kernel
theorem dX12_letterTold_106 : decode cX12_letterTold 106 = .ok (.aload_n 0, 1) := by decide +kernel
theorem dX12_letterTold_107 : decode cX12_letterTold 107 = .ok (.getfield 112, 3) := by decide +kernel
theorem dX12_letterTold_110 : decode cX12_letterTold 110 = .ok (.iload 7, 2) := by decide +kernel
theorem dX12_letterTold_112 : decode cX12_letterTold 112 = .ok (.iconst 2, 1) := by decide +kernel
theorem dX12_letterTold_113 : decode cX12_letterTold 113 = .ok (.iadd, 1) := by decide +kernel
theorem dX12_letterTold_114 : decode cX12_letterTold 114 = .ok (.iload 6, 2) := by decide +kernel
theorem dX12_letterTold_116 : decode cX12_letterTold 116 = .ok (.iastore, 1) := by decide +kernel
theorem dX12_letterTold_117 : decode cX12_letterTold 117 = .ok (.return_, 1) := by decide +kernel
theorem dX12_wishTold_0 : decode cX12_wishTold 0 = .ok (.aload_n 0, 1) := by decide +kernel
theorem dX12_wishTold_1 : decode cX12_wishTold 1 = .ok (.iconst 0, 1) := by decide +kernel
theorem dX12_wishTold_2 : decode cX12_wishTold 2 = .ok (.invokevirtual 348, 3) := by decide +kernel
theorem dX12_wishTold_5 : decode cX12_wishTold 5 = .ok (.istore_n 1, 1) := by decide +kernel
theorem dX12_wishTold_6 : decode cX12_wishTold 6 = .ok (.aload_n 0, 1) := by decide +kernel
theorem dX12_wishTold_7 : decode cX12_wishTold 7 = .ok (.iconst 1, 1) := by decide +kernel
theorem dX12_wishTold_8 : decode cX12_wishTold 8 = .ok (.invokevirtual 348, 3) := by decide +kernel
theorem dX12_wishTold_11 : decode cX12_wishTold 11 = .ok (.istore_n 2, 1) := by decide +kernel
theorem dX12_wishTold_12 : decode cX12_wishTold 12 = .ok (.aload_n 0, 1) := by decide +kernel
theorem dX12_wishTold_13 : decode cX12_wishTold 13 = .ok (.iconst 1, 1) := by decide +kernel
theorem dX12_wishTold_14 : decode cX12_wishTold 14 = .ok (.bipush 9, 2) := by decide +kernel
theorem dX12_wishTold_16 : decode cX12_wishTold 16 = .ok (.invokevirtual 341, 3) := by decide +kernel
theorem dX12_wishTold_19 : decode cX12_wishTold 19 = .ok (.istore_n 3, 1) := by decide +kernel
theorem dX12_wishTold_20 : decode cX12_wishTold 20 = .ok (.aload_n 0, 1) := by decide +kernel
theorem dX12_wishTold_21 : decode cX12_wishTold 21 = .ok (.getfield 263, 3) := by decide +kernel
theorem dX12_wishTold_24 : decode cX12_wishTold 24 = .ok (.ifCond .ne 14, 3) := by decide +kernel
theorem dX12_wishTold_27 : decode cX12_wishTold 27 = .ok (.aload_n 0, 1) := by decide +kernel
theorem dX12_wishTold_28 : decode cX12_wishTold 28 = .ok (.getfield 118, 3) := by decide +kernel
theorem dX12_wishTold_31 : decode cX12_wishTold 31 = .ok (.iconst 4, 1) := by decide +kernel
theorem dX12_wishTold_32 : decode cX12_wishTold 32 = .ok (.iload_n 1, 1) := by decide +kernel
theorem dX12_wishTold_33 : decode cX12_wishTold 33 = .ok (.imul, 1) := by decide +kernel
theorem dX12_wishTold_34 : decode cX12_wishTold 34 = .ok (.iload_n 2, 1) := by decide +kernel
theorem dX12_wishTold_35 : decode cX12_wishTold 35 = .ok (.iadd, 1) := by decide +kernel
theorem dX12_wishTold_36 : decode cX12_wishTold 36 = .ok (.iload_n 3, 1) := by decide +kernel
theorem dX12_wishTold_37 : decode cX12_wishTold 37 = .ok (.iastore, 1) := by decide +kernel
theorem dX12_wishTold_38 : decode cX12_wishTold 38 = .ok (.return_, 1) := by decide +kernel
theorem dX12_isSheetNear_0 : decode cX12_isSheetNear 0 = .ok (.iconst 0, 1) := by decide +kernel
theorem dX12_isSheetNear_1 : decode cX12_isSheetNear 1 = .ok (.istore_n 3, 1) := by decide +kernel
theorem dX12_isSheetNear_2 : decode cX12_isSheetNear 2 = .ok (.iload_n 3, 1) := by decide +kernel
theorem dX12_isSheetNear_3 : decode cX12_isSheetNear 3 = .ok (.aload_n 0, 1) := by decide +kernel
theorem dX12_isSheetNear_4 : decode cX12_isSheetNear 4 = .ok (.invokevirtual 419, 3) := by decide +kernel
theorem dX12_isSheetNear_7 : decode cX12_isSheetNear 7 = .ok (.if_icmp .ge 37, 3) := by decide +kernel
theorem dX12_isSheetNear_10 : decode cX12_isSheetNear 10 = .ok (.aload_n 0, 1) := by decide +kernel
theorem dX12_isSheetNear_11 : decode cX12_isSheetNear 11 = .ok (.getfield 121, 3) := by decide +kernel
theorem dX12_isSheetNear_14 : decode cX12_isSheetNear 14 = .ok (.bipush 8, 2) := by decide +kernel
theorem dX12_isSheetNear_16 : decode cX12_isSheetNear 16 = .ok (.iload_n 1, 1) := by decide +kernel
theorem dX12_isSheetNear_17 : decode cX12_isSheetNear 17 = .ok (.iadd, 1) := by decide +kernel
theorem dX12_isSheetNear_18 : decode cX12_isSheetNear 18 = .ok (.iaload, 1) := by decide +kernel
theorem dX12_isSheetNear_19 : decode cX12_isSheetNear 19 = .ok (.iload_n 3, 1) := by decide +kernel
theorem dX12_isSheetNear_20 : decode cX12_isSheetNear 20 = .ok (.ishr, 1) := by decide +kernel
theorem dX12_isSheetNear_21 : decode cX12_isSheetNear 21 = .ok (.iconst 1, 1) := by decide +kernel
theorem dX12_isSheetNear_22 : decode cX12_isSheetNear 22 = .ok (.iand, 1) := by decide +kernel
theorem dX12_isSheetNear_23 : decode cX12_isSheetNear 23 = .ok (.iconst 1, 1) := by decide +kernel
theorem dX12_isSheetNear_24 : decode cX12_isSheetNear 24 = .ok (.if_icmp .ne 14, 3) := by decide +kernel
theorem dX12_isSheetNear_27 : decode cX12_isSheetNear 27 = .ok (.aload_n 0, 1) := by decide +kernel
theorem dX12_isSheetNear_28 : decode cX12_isSheetNear 28 = .ok (.iload_n 3, 1) := by decide +kernel
theorem dX12_isSheetNear_29 : decode cX12_isSheetNear 29 = .ok (.invokevirtual 504, 3) := by decide +kernel
theorem dX12_isSheetNear_32 : decode cX12_isSheetNear 32 = .ok (.iload_n 2, 1) := by decide +kernel
theorem dX12_isSheetNear_33 : decode cX12_isSheetNear 33 = .ok (.if_icmp .ne 5, 3) := by decide +kernel
theorem dX12_isSheetNear_36 : decode cX12_isSheetNear 36 = .ok (.iconst 1, 1) := by decide +kernel
theorem dX12_isSheetNear_37 : decode cX12_isSheetNear 37 = .ok (.ireturn, 1) := by decide +kernel
theorem dX12_isSheetNear_38 : decode cX12_isSheetNear 38 = .ok (.iinc 3 1, 3) := by decide +kernel
theorem dX12_isSheetNear_41 : decode cX12_isSheetNear 41 = .ok (.goto (-39), 3) := by decide +kernel
theorem dX12_isSheetNear_44 : decode cX12_isSheetNear 44 = .ok (.iconst 0, 1) := by decide +kernel
theorem dX12_isSheetNear_45 : decode cX12_isSheetNear 45 = .ok (.ireturn, 1) := by decide +kernel
theorem dX12_qTest_0 : decode cX12_qTest 0 = .ok (.iconst 1, 1) := by decide +kernel
theorem dX12_qTest_1 : decode cX12_qTest 1 = .ok (.istore_n 1, 1) := by decide +kernel
theorem dX12_qTest_2 : decode cX12_qTest 2 = .ok (.iload_n 1, 1) := by decide +kernel
theorem dX12_qTest_3 : decode cX12_qTest 3 = .ok (.ifCond .eq 107, 3) := by decide +kernel
theorem dX12_qTest_6 : decode cX12_qTest 6 = .ok (.aload_n 0, 1) := by decide +kernel
theorem dX12_qTest_7 : decode cX12_qTest 7 = .ok (.getfield 263, 3) := by decide +kernel
theorem dX12_qTest_10 : decode cX12_qTest 10 = .ok (.ifCond .ne 100, 3) := by decide +kernel
theorem dX12_qTest_13 : decode cX12_qTest 13 = .ok (.aload_n 0, 1) := by decide +kernel
theorem dX12_qTest_14 : decode cX12_qTest 14 = .ok (.invokevirtual 275, 3) := by decide +kernel
theorem dX12_qTest_17 : decode cX12_qTest 17 = .ok (.istore_n 2, 1) := by decide +kernel
theorem dX12_qTest_18 : decode cX12_qTest 18 = .ok (.iload_n 2, 1) := by decide +kernel
theorem dX12_qTest_19 : decode cX12_qTest 19 = .ok (.bipush 91, 2) := by decide +kernel
theorem dX12_qTest_21 : decode cX12_qTest 21 = .ok (.if_icmp .ne 26, 3) := by decide +kernel
theorem dX12_qTest_24 : decode cX12_qTest 24 = .ok (.aload_n 0, 1) := by decide +kernel
theorem dX12_qTest_25 : decode cX12_qTest 25 = .ok (.bipush 25, 2) := by decide +kernel
theorem dX12_qTest_27 : decode cX12_qTest 27 = .ok (.aload_n 0, 1) := by decide +kernel
theorem dX12_qTest_28 : decode cX12_qTest 28 = .ok (.getfield 269, 3) := by decide +kernel
theorem dX12_qTest_31 : decode cX12_qTest 31 = .ok (.invokevirtual 612, 3) := by decide +kernel
theorem dX12_qTest_34 : decode cX12_qTest 34 = .ok (.aload_n 0, 1) := by decide +kernel
theorem dX12_qTest_35 : decode cX12_qTest 35 = .ok (.dup, 1) := by decide +kernel
theorem dX12_qTest_36 : decode cX12_qTest 36 = .ok (.getfield 269, 3) := by decide +kernel
theorem dX12_qTest_39 : decode cX12_qTest 39 = .ok (.iconst 1, 1) := by decide +kernel
theorem dX12_qTest_40 : decode cX12_qTest 40 = .ok (.iadd, 1) := by decide +kernel
theorem dX12_qTest_41 : decode cX12_qTest 41 = .ok (.putfield 269, 3) := by decide +kernel
theorem dX12_qTest_44 : decode cX12_qTest 44 = .ok (.goto (-42), 3) := by decide +kernel
theorem dX12_qTest_47 : decode cX12_qTest 47 = .ok (.aload_n 0, 1) := by decide +kernel
theorem dX12_qTest_48 : decode cX12_qTest 48 = .ok (.aload_n 0, 1) := by decide +kernel
theorem dX12_qTest_49 : decode cX12_qTest 49 = .ok (.getfield 197, 3) := by decide +kernel
theorem dX12_qTest_52 : decode cX12_qTest 52 = .ok (.invokevirtual 286, 3) := by decide +kernel
theorem dX12_qTest_55 : decode cX12_qTest 55 = .ok (.ifCond .eq 24, 3) := by decide +kernel
theorem dX12_qTest_58 : decode cX12_qTest 58 = .ok (.aload_n 0, 1) := by decide +kernel
theorem dX12_qTest_59 : decode cX12_qTest 59 = .ok (.bipush 12, 2) := by decide +kernel
theorem dX12_qTest_61 : decode cX12_qTest 61 = .ok (.aload_n 0, 1) := by decide +kernel
theorem dX12_qTest_62 : decode cX12_qTest 62 = .ok (.getfield 269, 3) := by decide +kernel
theorem dX12_qTest_65 : decode cX12_qTest 65 = .ok (.invokevirtual 612, 3) := by decide +kernel
theorem dX12_qTest_68 : decode cX12_qTest 68 = .ok (.aload_n 0, 1) := by decide +kernel
theorem dX12_qTest_69 : decode cX12_qTest 69 = .ok (.aload_n 0, 1) := by decide +kernel
theorem dX12_qTest_70 : decode cX12_qTest 70 = .ok (.getfield 197, 3) := by decide +kernel
theorem dX12_qTest_73 : decode cX12_qTest 73 = .ok (.invokevirtual 337, 3) := by decide +kernel
theorem dX12_qTest_76 : decode cX12_qTest 76 = .ok (.goto (-74), 3) := by decide +kernel
theorem dX12_qTest_79 : decode cX12_qTest 79 = .ok (.aload_n 0, 1) := by decide +kernel
theorem dX12_qTest_80 : decode cX12_qTest 80 = .ok (.invokevirtual 636, 3) := by decide +kernel
theorem dX12_qTest_83 : decode cX12_qTest 83 = .ok (.aload_n 0, 1) := by decide +kernel
theorem dX12_qTest_84 : decode cX12_qTest 84 = .ok (.invokevirtual 639, 3) := by decide +kernel
theorem dX12_qTest_87 : decode cX12_qTest 87 = .ok (.aload_n 0, 1) := by decide +kernel
theorem dX12_qTest_88 : decode cX12_qTest 88 = .ok (.getfield 263, 3) := by decide +kernel
theorem dX12_qTest_91 : decode cX12_qTest 91 = .ok (.ifCond .ne 14, 3) := by decide +kernel
theorem dX12_qTest_94 : decode cX12_qTest 94 = .ok (.aload_n 0, 1) := by decide +kernel
theorem dX12_qTest_95 : decode cX12_qTest 95 = .ok (.invokevirtual 642, 3) := by decide +kernel
theorem dX12_qTest_98 : decode cX12_qTest 98 = .ok (.ifCond .eq 7, 3) := by decide +kernel
theorem dX12_qTest_101 : decode cX12_qTest 101 = .ok (.iconst 1, 1) := by decide +kernel
theorem dX12_qTest_102 : decode cX12_qTest 102 = .ok (.goto 4, 3) := by decide +kernel
theorem dX12_qTest_105 : decode cX12_qTest 105 = .ok (.iconst 0, 1) := by decide +kernel
theorem dX12_qTest_106 : decode cX12_qTest 106 = .ok (.istore_n 1, 1) := by decide +kernel
theorem dX12_qTest_107 : decode cX12_qTest 107 = .ok (.goto (-105), 3) := by decide +kernel
theorem dX12_qTest_110 : decode cX12_qTest 110 = .ok (.aload_n 0, 1) := by decide +kernel
theorem dX12_qTest_111 : decode cX12_qTest 111 = .ok (.getfield 263, 3) := by decide +kernel
theorem dX12_qTest_114 : decode cX12_qTest 114 = .ok (.ifCond .ne 17, 3) := by decide +kernel
theorem dX12_qTest_117 : decode cX12_qTest 117 = .ok (.aload_n 0, 1) := by decide +kernel
theorem dX12_qTest_118 : decode cX12_qTest 118 = .ok (.getfield 355, 3) := by decide +kernel
theorem dX12_qTest_121 : decode cX12_qTest 121 = .ok (.ifCond .le 10, 3) := by decide +kernel
theorem dX12_qTest_124 : decode cX12_qTest 124 = .ok (.aload_n 0, 1) := by decide +kernel
theorem dX12_qTest_125 : decode cX12_qTest 125 = .ok (.invokevirtual 600, 3) := by decide +kernel
theorem dX12_qTest_128 : decode cX12_qTest 128 = .ok (.goto (-18), 3) := by decide +kernel
theorem dX12_qTest_131 : decode cX12_qTest 131 = .ok (.return_, 1) := by decide +kernel
theorem dX12_helper_0 : decode cX12_helper 0 = .ok (.aload_n 0, 1) := by decide +kernel
theorem dX12_helper_1 : decode cX12_helper 1 = .ok (.iload_n 1, 1) := by decide +kernel
theorem dX12_helper_2 : decode cX12_helper 2 = .ok (.invokevirtual 516, 3) := by decide +kernel
theorem dX12_helper_5 : decode cX12_helper 5 = .ok (.ifCond .ne 5, 3) := by decide +kernel
theorem dX12_helper_8 : decode cX12_helper 8 = .ok (.iconst (-1), 1) := by decide +kernel
theorem dX12_helper_9 : decode cX12_helper 9 = .ok (.ireturn, 1) := by decide +kernel
theorem dX12_helper_10 : decode cX12_helper 10 = .ok (.iconst 0, 1) := by decide +kernel
theorem dX12_helper_11 : decode cX12_helper 11 = .ok (.istore_n 3, 1) := by decide +kernel
theorem dX12_helper_12 : decode cX12_helper 12 = .ok (.iconst 0, 1) := by decide +kernel
theorem dX12_helper_13 : decode cX12_helper 13 = .ok (.istore 4, 2) := by decide +kernel
theorem dX12_helper_15 : decode cX12_helper 15 = .ok (.iload 4, 2) := by decide +kernel
theorem dX12_helper_17 : decode cX12_helper 17 = .ok (.aload_n 0, 1) := by decide +kernel
theorem dX12_helper_18 : decode cX12_helper 18 = .ok (.invokevirtual 419, 3) := by decide +kernel
theorem dX12_helper_21 : decode cX12_helper 21 = .ok (.if_icmp .ge 28, 3) := by decide +kernel
theorem dX12_helper_24 : decode cX12_helper 24 = .ok (.aload_n 0, 1) := by decide +kernel
theorem dX12_helper_25 : decode cX12_helper 25 = .ok (.iload 4, 2) := by decide +kernel
theorem dX12_helper_27 : decode cX12_helper 27 = .ok (.invokevirtual 451, 3) := by decide +kernel
theorem dX12_helper_30 : decode cX12_helper 30 = .ok (.iload_n 1, 1) := by decide +kernel
theorem dX12_helper_31 : decode cX12_helper 31 = .ok (.iconst 1, 1) := by decide +kernel
theorem dX12_helper_32 : decode cX12_helper 32 = .ok (.iadd, 1) := by decide +kernel
theorem dX12_helper_33 : decode cX12_helper 33 = .ok (.if_icmp .ne 10, 3) := by decide +kernel
theorem dX12_helper_36 : decode cX12_helper 36 = .ok (.iload_n 3, 1) := by decide +kernel
theorem dX12_helper_37 : decode cX12_helper 37 = .ok (.iconst 1, 1) := by decide +kernel
theorem dX12_helper_38 : decode cX12_helper 38 = .ok (.iload 4, 2) := by decide +kernel
theorem dX12_helper_40 : decode cX12_helper 40 = .ok (.ishl, 1) := by decide +kernel
theorem dX12_helper_41 : decode cX12_helper 41 = .ok (.ior, 1) := by decide +kernel
theorem dX12_helper_42 : decode cX12_helper 42 = .ok (.istore_n 3, 1) := by decide +kernel
theorem dX12_helper_43 : decode cX12_helper 43 = .ok (.iinc 4 1, 3) := by decide +kernel
theorem dX12_helper_46 : decode cX12_helper 46 = .ok (.goto (-31), 3) := by decide +kernel
theorem dX12_helper_49 : decode cX12_helper 49 = .ok (.iload_n 2, 1) := by decide +kernel
theorem dX12_helper_50 : decode cX12_helper 50 = .ok (.i2l, 1) := by decide +kernel
theorem dX12_helper_51 : decode cX12_helper 51 = .ok (.lconst 0, 1) := by decide +kernel
theorem dX12_helper_52 : decode cX12_helper 52 = .ok (.ldc2_w 497, 3) := by decide +kernel
theorem dX12_helper_55 : decode cX12_helper 55 = .ok (.invokestatic 303, 3) := by decide +kernel
theorem dX12_helper_58 : decode cX12_helper 58 = .ok (.ifCond .eq 19, 3) := by decide +kernel
theorem dX12_helper_61 : decode cX12_helper 61 = .ok (.aload_n 0, 1) := by decide +kernel
theorem dX12_helper_62 : decode cX12_helper 62 = .ok (.getfield 127, 3) := by decide +kernel
theorem dX12_helper_65 : decode cX12_helper 65 = .ok (.bipush 9, 2) := by decide +kernel
theorem dX12_helper_67 : decode cX12_helper 67 = .ok (.iconst 3, 1) := by decide +kernel
theorem dX12_helper_68 : decode cX12_helper 68 = .ok (.iload_n 1, 1) := by decide +kernel
theorem dX12_helper_69 : decode cX12_helper 69 = .ok (.imul, 1) := by decide +kernel
theorem dX12_helper_70 : decode cX12_helper 70 = .ok (.iadd, 1) := by decide +kernel
theorem dX12_helper_71 : decode cX12_helper 71 = .ok (.iload_n 2, 1) := by decide +kernel
theorem dX12_helper_72 : decode cX12_helper 72 = .ok (.iadd, 1) := by decide +kernel
theorem dX12_helper_73 : decode cX12_helper 73 = .ok (.iaload, 1) := by decide +kernel
theorem dX12_helper_74 : decode cX12_helper 74 = .ok (.goto 26, 3) := by decide +kernel
theorem dX12_helper_77 : decode cX12_helper 77 = .ok (.iload_n 2, 1) := by decide +kernel
theorem dX12_helper_78 : decode cX12_helper 78 = .ok (.iconst 3, 1) := by decide +kernel
theorem dX12_helper_79 : decode cX12_helper 79 = .ok (.if_icmp .ne 11, 3) := by decide +kernel
theorem dX12_helper_82 : decode cX12_helper 82 = .ok (.aload_n 0, 1) := by decide +kernel
theorem dX12_helper_83 : decode cX12_helper 83 = .ok (.iload_n 1, 1) := by decide +kernel
theorem dX12_helper_84 : decode cX12_helper 84 = .ok (.invokevirtual 458, 3) := by decide +kernel
theorem dX12_helper_87 : decode cX12_helper 87 = .ok (.goto 13, 3) := by decide +kernel
theorem dX12_helper_90 : decode cX12_helper 90 = .ok (.iload_n 2, 1) := by decide +kernel
theorem dX12_helper_91 : decode cX12_helper 91 = .ok (.iconst 4, 1) := by decide +kernel
theorem dX12_helper_92 : decode cX12_helper 92 = .ok (.if_icmp .ne 7, 3) := by decide +kernel
theorem dX12_helper_95 : decode cX12_helper 95 = .ok (.iload_n 3, 1) := by decide +kernel
theorem dX12_helper_96 : decode cX12_helper 96 = .ok (.goto 4, 3) := by decide +kernel
theorem dX12_helper_99 : decode cX12_helper 99 = .ok (.iconst (-1), 1) := by decide +kernel
theorem dX12_helper_100 : decode cX12_helper 100 = .ok (.ireturn, 1) := by decide +kernel
theorem dX12_mail_0 : decode cX12_mail 0 = .ok (.aload_n 0, 1) := by decide +kernel
theorem dX12_mail_1 : decode cX12_mail 1 = .ok (.iload_n 1, 1) := by decide +kernel
theorem dX12_mail_2 : decode cX12_mail 2 = .ok (.invokevirtual 501, 3) := by decide +kernel
theorem dX12_mail_5 : decode cX12_mail 5 = .ok (.ifCond .ne 5, 3) := by decide +kernel
theorem dX12_mail_8 : decode cX12_mail 8 = .ok (.iconst (-1), 1) := by decide +kernel
theorem dX12_mail_9 : decode cX12_mail 9 = .ok (.ireturn, 1) := by decide +kernel
theorem dX12_mail_10 : decode cX12_mail 10 = .ok (.iload_n 2, 1) := by decide +kernel
theorem dX12_mail_11 : decode cX12_mail 11 = .ok (.tableswitch 97 0 7 #[45, 45, 45, 59, 67, 73, 81, 87], 45) := by decide +kernel
theorem dX12_mail_56 : decode cX12_mail 56 = .ok (.aload_n 0, 1) := by decide +kernel
theorem dX12_mail_57 : decode cX12_mail 57 = .ok (.getfield 112, 3) := by decide +kernel
theorem dX12_mail_60 : decode cX12_mail 60 = .ok (.bipush 24, 2) := by decide +kernel
theorem dX12_mail_62 : decode cX12_mail 62 = .ok (.iconst 3, 1) := by decide +kernel
theorem dX12_mail_63 : decode cX12_mail 63 = .ok (.iload_n 1, 1) := by decide +kernel
theorem dX12_mail_64 : decode cX12_mail 64 = .ok (.imul, 1) := by decide +kernel
theorem dX12_mail_65 : decode cX12_mail 65 = .ok (.iadd, 1) := by decide +kernel
theorem dX12_mail_66 : decode cX12_mail 66 = .ok (.iload_n 2, 1) := by decide +kernel
theorem dX12_mail_67 : decode cX12_mail 67 = .ok (.iadd, 1) := by decide +kernel
theorem dX12_mail_68 : decode cX12_mail 68 = .ok (.iaload, 1) := by decide +kernel
theorem dX12_mail_69 : decode cX12_mail 69 = .ok (.ireturn, 1) := by decide +kernel
theorem dX12_mail_70 : decode cX12_mail 70 = .ok (.aload_n 0, 1) := by decide +kernel
theorem dX12_mail_71 : decode cX12_mail 71 = .ok (.iload_n 1, 1) := by decide +kernel
theorem dX12_mail_72 : decode cX12_mail 72 = .ok (.invokevirtual 451, 3) := by decide +kernel
theorem dX12_mail_75 : decode cX12_mail 75 = .ok (.iconst 1, 1) := by decide +kernel
theorem dX12_mail_76 : decode cX12_mail 76 = .ok (.isub, 1) := by decide +kernel
theorem dX12_mail_77 : decode cX12_mail 77 = .ok (.ireturn, 1) := by decide +kernel
theorem dX12_mail_78 : decode cX12_mail 78 = .ok (.aload_n 0, 1) := by decide +kernel
theorem dX12_mail_79 : decode cX12_mail 79 = .ok (.iload_n 1, 1) := by decide +kernel
theorem dX12_mail_80 : decode cX12_mail 80 = .ok (.invokevirtual 504, 3) := by decide +kernel
theorem dX12_mail_83 : decode cX12_mail 83 = .ok (.ireturn, 1) := by decide +kernel
theorem dX12_mail_84 : decode cX12_mail 84 = .ok (.aload_n 0, 1) := by decide +kernel
theorem dX12_mail_85 : decode cX12_mail 85 = .ok (.iload_n 1, 1) := by decide +kernel
theorem dX12_mail_86 : decode cX12_mail 86 = .ok (.invokevirtual 507, 3) := by decide +kernel
theorem dX12_mail_89 : decode cX12_mail 89 = .ok (.iconst 1, 1) := by decide +kernel
theorem dX12_mail_90 : decode cX12_mail 90 = .ok (.isub, 1) := by decide +kernel
theorem dX12_mail_91 : decode cX12_mail 91 = .ok (.ireturn, 1) := by decide +kernel
theorem dX12_mail_92 : decode cX12_mail 92 = .ok (.aload_n 0, 1) := by decide +kernel
theorem dX12_mail_93 : decode cX12_mail 93 = .ok (.iload_n 1, 1) := by decide +kernel
theorem dX12_mail_94 : decode cX12_mail 94 = .ok (.invokevirtual 510, 3) := by decide +kernel
theorem dX12_mail_97 : decode cX12_mail 97 = .ok (.ireturn, 1) := by decide +kernel
theorem dX12_mail_98 : decode cX12_mail 98 = .ok (.aload_n 0, 1) := by decide +kernel
theorem dX12_mail_99 : decode cX12_mail 99 = .ok (.getfield 121, 3) := by decide +kernel
theorem dX12_mail_102 : decode cX12_mail 102 = .ok (.bipush 8, 2) := by decide +kernel
theorem dX12_mail_104 : decode cX12_mail 104 = .ok (.iload_n 1, 1) := by decide +kernel
theorem dX12_mail_105 : decode cX12_mail 105 = .ok (.iadd, 1) := by decide +kernel
theorem dX12_mail_106 : decode cX12_mail 106 = .ok (.iaload, 1) := by decide +kernel
theorem dX12_mail_107 : decode cX12_mail 107 = .ok (.ireturn, 1) := by decide +kernel
theorem dX12_mail_108 : decode cX12_mail 108 = .ok (.iconst (-1), 1) := by decide +kernel
theorem dX12_mail_109 : decode cX12_mail 109 = .ok (.ireturn, 1) := by decide +kernel
theorem dX12_oddsIn_0 : decode cX12_oddsIn 0 = .ok (.lconst 1, 1) := by decide +kernel
theorem dX12_oddsIn_1 : decode cX12_oddsIn 1 = .ok (.lstore_n 1, 1) := by decide +kernel
theorem dX12_oddsIn_2 : decode cX12_oddsIn 2 = .ok (.iconst 0, 1) := by decide +kernel
theorem dX12_oddsIn_3 : decode cX12_oddsIn 3 = .ok (.istore_n 3, 1) := by decide +kernel
theorem dX12_oddsIn_4 : decode cX12_oddsIn 4 = .ok (.iload_n 3, 1) := by decide +kernel
theorem dX12_oddsIn_5 : decode cX12_oddsIn 5 = .ok (.aload_n 0, 1) := by decide +kernel
theorem dX12_oddsIn_6 : decode cX12_oddsIn 6 = .ok (.invokevirtual 419, 3) := by decide +kernel
theorem dX12_oddsIn_9 : decode cX12_oddsIn 9 = .ok (.if_icmp .ge 85, 3) := by decide +kernel
theorem dX12_oddsIn_12 : decode cX12_oddsIn 12 = .ok (.iload_n 3, 1) := by decide +kernel
theorem dX12_oddsIn_13 : decode cX12_oddsIn 13 = .ok (.iconst 1, 1) := by decide +kernel
theorem dX12_oddsIn_14 : decode cX12_oddsIn 14 = .ok (.iadd, 1) := by decide +kernel
theorem dX12_oddsIn_15 : decode cX12_oddsIn 15 = .ok (.istore 4, 2) := by decide +kernel
theorem dX12_oddsIn_17 : decode cX12_oddsIn 17 = .ok (.iload 4, 2) := by decide +kernel
theorem dX12_oddsIn_19 : decode cX12_oddsIn 19 = .ok (.aload_n 0, 1) := by decide +kernel
theorem dX12_oddsIn_20 : decode cX12_oddsIn 20 = .ok (.invokevirtual 419, 3) := by decide +kernel
theorem dX12_oddsIn_23 : decode cX12_oddsIn 23 = .ok (.if_icmp .ge 65, 3) := by decide +kernel
theorem dX12_oddsIn_26 : decode cX12_oddsIn 26 = .ok (.aload_n 0, 1) := by decide +kernel
theorem dX12_oddsIn_27 : decode cX12_oddsIn 27 = .ok (.getfield 124, 3) := by decide +kernel
theorem dX12_oddsIn_30 : decode cX12_oddsIn 30 = .ok (.bipush 64, 2) := by decide +kernel
theorem dX12_oddsIn_32 : decode cX12_oddsIn 32 = .ok (.bipush 8, 2) := by decide +kernel
theorem dX12_oddsIn_34 : decode cX12_oddsIn 34 = .ok (.iload_n 3, 1) := by decide +kernel
theorem dX12_oddsIn_35 : decode cX12_oddsIn 35 = .ok (.imul, 1) := by decide +kernel
theorem dX12_oddsIn_36 : decode cX12_oddsIn 36 = .ok (.iadd, 1) := by decide +kernel
theorem dX12_oddsIn_37 : decode cX12_oddsIn 37 = .ok (.iload 4, 2) := by decide +kernel
theorem dX12_oddsIn_39 : decode cX12_oddsIn 39 = .ok (.iadd, 1) := by decide +kernel
theorem dX12_oddsIn_40 : decode cX12_oddsIn 40 = .ok (.iaload, 1) := by decide +kernel
theorem dX12_oddsIn_41 : decode cX12_oddsIn 41 = .ok (.iconst 1, 1) := by decide +kernel
theorem dX12_oddsIn_42 : decode cX12_oddsIn 42 = .ok (.isub, 1) := by decide +kernel
theorem dX12_oddsIn_43 : decode cX12_oddsIn 43 = .ok (.istore 5, 2) := by decide +kernel
theorem dX12_oddsIn_45 : decode cX12_oddsIn 45 = .ok (.iload 5, 2) := by decide +kernel
theorem dX12_oddsIn_47 : decode cX12_oddsIn 47 = .ok (.iconst (-1), 1) := by decide +kernel
theorem dX12_oddsIn_48 : decode cX12_oddsIn 48 = .ok (.if_icmp .eq 34, 3) := by decide +kernel
theorem dX12_oddsIn_51 : decode cX12_oddsIn 51 = .ok (.lload_n 1, 1) := by decide +kernel
theorem dX12_oddsIn_52 : decode cX12_oddsIn 52 = .ok (.aload_n 0, 1) := by decide +kernel
theorem dX12_oddsIn_53 : decode cX12_oddsIn 53 = .ok (.getfield 148, 3) := by decide +kernel
theorem dX12_oddsIn_56 : decode cX12_oddsIn 56 = .ok (.iload_n 3, 1) := by decide +kernel
theorem dX12_oddsIn_57 : decode cX12_oddsIn 57 = .ok (.iaload, 1) := by decide +kernel
theorem dX12_oddsIn_58 : decode cX12_oddsIn 58 = .ok (.aload_n 0, 1) := by decide +kernel
theorem dX12_oddsIn_59 : decode cX12_oddsIn 59 = .ok (.getfield 148, 3) := by decide +kernel
theorem dX12_oddsIn_62 : decode cX12_oddsIn 62 = .ok (.iload 4, 2) := by decide +kernel
theorem dX12_oddsIn_64 : decode cX12_oddsIn 64 = .ok (.iaload, 1) := by decide +kernel
theorem dX12_oddsIn_65 : decode cX12_oddsIn 65 = .ok (.if_icmp .ne 9, 3) := by decide +kernel
theorem dX12_oddsIn_68 : decode cX12_oddsIn 68 = .ok (.iload 5, 2) := by decide +kernel
theorem dX12_oddsIn_70 : decode cX12_oddsIn 70 = .ok (.i2l, 1) := by decide +kernel
theorem dX12_oddsIn_71 : decode cX12_oddsIn 71 = .ok (.goto 9, 3) := by decide +kernel
theorem dX12_oddsIn_74 : decode cX12_oddsIn 74 = .ok (.bipush 10, 2) := by decide +kernel
theorem dX12_oddsIn_76 : decode cX12_oddsIn 76 = .ok (.iload 5, 2) := by decide +kernel
theorem dX12_oddsIn_78 : decode cX12_oddsIn 78 = .ok (.isub, 1) := by decide +kernel
theorem dX12_oddsIn_79 : decode cX12_oddsIn 79 = .ok (.i2l, 1) := by decide +kernel
theorem dX12_oddsIn_80 : decode cX12_oddsIn 80 = .ok (.lmul, 1) := by decide +kernel
theorem dX12_oddsIn_81 : decode cX12_oddsIn 81 = .ok (.lstore_n 1, 1) := by decide +kernel
theorem dX12_oddsIn_82 : decode cX12_oddsIn 82 = .ok (.iinc 4 1, 3) := by decide +kernel
theorem dX12_oddsIn_85 : decode cX12_oddsIn 85 = .ok (.goto (-68), 3) := by decide +kernel
theorem dX12_oddsIn_88 : decode cX12_oddsIn 88 = .ok (.iinc 3 1, 3) := by decide +kernel
theorem dX12_oddsIn_91 : decode cX12_oddsIn 91 = .ok (.goto (-87), 3) := by decide +kernel
theorem dX12_oddsIn_94 : decode cX12_oddsIn 94 = .ok (.lload_n 1, 1) := by decide +kernel
theorem dX12_oddsIn_95 : decode cX12_oddsIn 95 = .ok (.lreturn, 1) := by decide +kernel
theorem dX12_writes_0 : decode cX12_writes 0 = .ok (.aload_n 0, 1) := by decide +kernel
theorem dX12_writes_1 : decode cX12_writes 1 = .ok (.getfield 257, 3) := by decide +kernel
theorem dX12_writes_4 : decode cX12_writes 4 = .ok (.aload_n 0, 1) := by decide +kernel
theorem dX12_writes_5 : decode cX12_writes 5 = .ok (.getfield 686, 3) := by decide +kernel
theorem dX12_writes_8 : decode cX12_writes 8 = .ok (.iload_n 1, 1) := by decide +kernel
theorem dX12_writes_9 : decode cX12_writes 9 = .ok (.iastore, 1) := by decide +kernel
theorem dX12_writes_10 : decode cX12_writes 10 = .ok (.aload_n 0, 1) := by decide +kernel
theorem dX12_writes_11 : decode cX12_writes 11 = .ok (.dup, 1) := by decide +kernel
theorem dX12_writes_12 : decode cX12_writes 12 = .ok (.getfield 686, 3) := by decide +kernel
theorem dX12_writes_15 : decode cX12_writes 15 = .ok (.iconst 1, 1) := by decide +kernel
theorem dX12_writes_16 : decode cX12_writes 16 = .ok (.iadd, 1) := by decide +kernel
theorem dX12_writes_17 : decode cX12_writes 17 = .ok (.putfield 686, 3) := by decide +kernel
theorem dX12_writes_20 : decode cX12_writes 20 = .ok (.return_, 1) := by decide +kernel
theorem dX12_canRow_0 : decode cX12_canRow 0 = .ok (.iconst 0, 1) := by decide +kernel
theorem dX12_canRow_1 : decode cX12_canRow 1 = .ok (.istore_n 1, 1) := by decide +kernel
theorem dX12_canRow_2 : decode cX12_canRow 2 = .ok (.iload_n 1, 1) := by decide +kernel
theorem dX12_canRow_3 : decode cX12_canRow 3 = .ok (.aload_n 0, 1) := by decide +kernel
theorem dX12_canRow_4 : decode cX12_canRow 4 = .ok (.invokevirtual 422, 3) := by decide +kernel
theorem dX12_canRow_7 : decode cX12_canRow 7 = .ok (.if_icmp .ge 20, 3) := by decide +kernel
theorem dX12_canRow_10 : decode cX12_canRow 10 = .ok (.aload_n 0, 1) := by decide +kernel
theorem dX12_canRow_11 : decode cX12_canRow 11 = .ok (.getfield 163, 3) := by decide +kernel
theorem dX12_canRow_14 : decode cX12_canRow 14 = .ok (.iload_n 1, 1) := by decide +kernel
theorem dX12_canRow_15 : decode cX12_canRow 15 = .ok (.aload_n 0, 1) := by decide +kernel
theorem dX12_canRow_16 : decode cX12_canRow 16 = .ok (.iload_n 1, 1) := by decide +kernel
theorem dX12_canRow_17 : decode cX12_canRow 17 = .ok (.invokevirtual 458, 3) := by decide +kernel
theorem dX12_canRow_20 : decode cX12_canRow 20 = .ok (.iastore, 1) := by decide +kernel
theorem dX12_canRow_21 : decode cX12_canRow 21 = .ok (.iinc 1 1, 3) := by decide +kernel
theorem dX12_canRow_24 : decode cX12_canRow 24 = .ok (.goto (-22), 3) := by decide +kernel
theorem dX12_canRow_27 : decode cX12_canRow 27 = .ok (.iconst 0, 1) := by decide +kernel
theorem dX12_canRow_28 : decode cX12_canRow 28 = .ok (.istore_n 1, 1) := by decide +kernel
theorem dX12_canRow_29 : decode cX12_canRow 29 = .ok (.iload_n 1, 1) := by decide +kernel
theorem dX12_canRow_30 : decode cX12_canRow 30 = .ok (.aload_n 0, 1) := by decide +kernel
theorem dX12_canRow_31 : decode cX12_canRow 31 = .ok (.invokevirtual 419, 3) := by decide +kernel
theorem dX12_canRow_34 : decode cX12_canRow 34 = .ok (.if_icmp .ge 69, 3) := by decide +kernel
theorem dX12_canRow_37 : decode cX12_canRow 37 = .ok (.aload_n 0, 1) := by decide +kernel
theorem dX12_canRow_38 : decode cX12_canRow 38 = .ok (.getfield 148, 3) := by decide +kernel
theorem dX12_canRow_41 : decode cX12_canRow 41 = .ok (.iload_n 1, 1) := by decide +kernel
theorem dX12_canRow_42 : decode cX12_canRow 42 = .ok (.iaload, 1) := by decide +kernel
theorem dX12_canRow_43 : decode cX12_canRow 43 = .ok (.ifCond .ne 6, 3) := by decide +kernel
theorem dX12_canRow_46 : decode cX12_canRow 46 = .ok (.goto 51, 3) := by decide +kernel
theorem dX12_canRow_49 : decode cX12_canRow 49 = .ok (.aload_n 0, 1) := by decide +kernel
theorem dX12_canRow_50 : decode cX12_canRow 50 = .ok (.getfield 148, 3) := by decide +kernel
theorem dX12_canRow_53 : decode cX12_canRow 53 = .ok (.iload_n 1, 1) := by decide +kernel
theorem dX12_canRow_54 : decode cX12_canRow 54 = .ok (.iaload, 1) := by decide +kernel
theorem dX12_canRow_55 : decode cX12_canRow 55 = .ok (.iconst 1, 1) := by decide +kernel
theorem dX12_canRow_56 : decode cX12_canRow 56 = .ok (.isub, 1) := by decide +kernel
theorem dX12_canRow_57 : decode cX12_canRow 57 = .ok (.istore_n 2, 1) := by decide +kernel
theorem dX12_canRow_58 : decode cX12_canRow 58 = .ok (.aload_n 0, 1) := by decide +kernel
theorem dX12_canRow_59 : decode cX12_canRow 59 = .ok (.getfield 163, 3) := by decide +kernel
theorem dX12_canRow_62 : decode cX12_canRow 62 = .ok (.iload_n 2, 1) := by decide +kernel
theorem dX12_canRow_63 : decode cX12_canRow 63 = .ok (.dup2, 1) := by decide +kernel
theorem dX12_canRow_64 : decode cX12_canRow 64 = .ok (.iaload, 1) := by decide +kernel
theorem dX12_canRow_65 : decode cX12_canRow 65 = .ok (.aload_n 0, 1) := by decide +kernel
theorem dX12_canRow_66 : decode cX12_canRow 66 = .ok (.getfield 157, 3) := by decide +kernel
theorem dX12_canRow_69 : decode cX12_canRow 69 = .ok (.iconst 3, 1) := by decide +kernel
theorem dX12_canRow_70 : decode cX12_canRow 70 = .ok (.iload_n 1, 1) := by decide +kernel
theorem dX12_canRow_71 : decode cX12_canRow 71 = .ok (.imul, 1) := by decide +kernel
theorem dX12_canRow_72 : decode cX12_canRow 72 = .ok (.iload_n 2, 1) := by decide +kernel
theorem dX12_canRow_73 : decode cX12_canRow 73 = .ok (.iadd, 1) := by decide +kernel
theorem dX12_canRow_74 : decode cX12_canRow 74 = .ok (.iaload, 1) := by decide +kernel
theorem dX12_canRow_75 : decode cX12_canRow 75 = .ok (.isub, 1) := by decide +kernel
theorem dX12_canRow_76 : decode cX12_canRow 76 = .ok (.iastore, 1) := by decide +kernel
theorem dX12_canRow_77 : decode cX12_canRow 77 = .ok (.aload_n 0, 1) := by decide +kernel
theorem dX12_canRow_78 : decode cX12_canRow 78 = .ok (.getfield 163, 3) := by decide +kernel
theorem dX12_canRow_81 : decode cX12_canRow 81 = .ok (.iload_n 2, 1) := by decide +kernel
theorem dX12_canRow_82 : decode cX12_canRow 82 = .ok (.iaload, 1) := by decide +kernel
theorem dX12_canRow_83 : decode cX12_canRow 83 = .ok (.ifCond .lt 12, 3) := by decide +kernel
theorem dX12_canRow_86 : decode cX12_canRow 86 = .ok (.aload_n 0, 1) := by decide +kernel
theorem dX12_canRow_87 : decode cX12_canRow 87 = .ok (.iload_n 1, 1) := by decide +kernel
theorem dX12_canRow_88 : decode cX12_canRow 88 = .ok (.iload_n 2, 1) := by decide +kernel
theorem dX12_canRow_89 : decode cX12_canRow 89 = .ok (.invokevirtual 454, 3) := by decide +kernel
theorem dX12_canRow_92 : decode cX12_canRow 92 = .ok (.ifCond .ne 5, 3) := by decide +kernel
theorem dX12_canRow_95 : decode cX12_canRow 95 = .ok (.iconst 0, 1) := by decide +kernel
theorem dX12_canRow_96 : decode cX12_canRow 96 = .ok (.ireturn, 1) := by decide +kernel
theorem dX12_canRow_97 : decode cX12_canRow 97 = .ok (.iinc 1 1, 3) := by decide +kernel
theorem dX12_canRow_100 : decode cX12_canRow 100 = .ok (.goto (-71), 3) := by decide +kernel
theorem dX12_canRow_103 : decode cX12_canRow 103 = .ok (.iconst 1, 1) := by decide +kernel
theorem dX12_canRow_104 : decode cX12_canRow 104 = .ok (.ireturn, 1) := by decide +kernel
theorem dX12_qSums_0 : decode cX12_qSums 0 = .ok (.aload_n 0, 1) := by decide +kernel
theorem dX12_qSums_1 : decode cX12_qSums 1 = .ok (.getfield 361, 3) := by decide +kernel
theorem dX12_qSums_4 : decode cX12_qSums 4 = .ok (.istore_n 1, 1) := by decide +kernel
theorem dX12_qSums_5 : decode cX12_qSums 5 = .ok (.aload_n 0, 1) := by decide +kernel
theorem dX12_qSums_6 : decode cX12_qSums 6 = .ok (.aload_n 0, 1) := by decide +kernel
theorem dX12_qSums_7 : decode cX12_qSums 7 = .ok (.getfield 355, 3) := by decide +kernel
theorem dX12_qSums_10 : decode cX12_qSums 10 = .ok (.putfield 361, 3) := by decide +kernel
theorem dX12_qSums_13 : decode cX12_qSums 13 = .ok (.iconst 1, 1) := by decide +kernel
theorem dX12_qSums_14 : decode cX12_qSums 14 = .ok (.istore_n 2, 1) := by decide +kernel
theorem dX12_qSums_15 : decode cX12_qSums 15 = .ok (.iload_n 2, 1) := by decide +kernel
theorem dX12_qSums_16 : decode cX12_qSums 16 = .ok (.ifCond .eq 37, 3) := by decide +kernel
theorem dX12_qSums_19 : decode cX12_qSums 19 = .ok (.aload_n 0, 1) := by decide +kernel
theorem dX12_qSums_20 : decode cX12_qSums 20 = .ok (.getfield 263, 3) := by decide +kernel
theorem dX12_qSums_23 : decode cX12_qSums 23 = .ok (.ifCond .ne 30, 3) := by decide +kernel
theorem dX12_qSums_26 : decode cX12_qSums 26 = .ok (.aload_n 0, 1) := by decide +kernel
theorem dX12_qSums_27 : decode cX12_qSums 27 = .ok (.invokevirtual 630, 3) := by decide +kernel
theorem dX12_qSums_30 : decode cX12_qSums 30 = .ok (.aload_n 0, 1) := by decide +kernel
theorem dX12_qSums_31 : decode cX12_qSums 31 = .ok (.getfield 263, 3) := by decide +kernel
theorem dX12_qSums_34 : decode cX12_qSums 34 = .ok (.ifCond .ne 14, 3) := by decide +kernel
theorem dX12_qSums_37 : decode cX12_qSums 37 = .ok (.aload_n 0, 1) := by decide +kernel
theorem dX12_qSums_38 : decode cX12_qSums 38 = .ok (.invokevirtual 633, 3) := by decide +kernel
theorem dX12_qSums_41 : decode cX12_qSums 41 = .ok (.ifCond .eq 7, 3) := by decide +kernel
theorem dX12_qSums_44 : decode cX12_qSums 44 = .ok (.iconst 1, 1) := by decide +kernel
theorem dX12_qSums_45 : decode cX12_qSums 45 = .ok (.goto 4, 3) := by decide +kernel
theorem dX12_qSums_48 : decode cX12_qSums 48 = .ok (.iconst 0, 1) := by decide +kernel
theorem dX12_qSums_49 : decode cX12_qSums 49 = .ok (.istore_n 2, 1) := by decide +kernel
theorem dX12_qSums_50 : decode cX12_qSums 50 = .ok (.goto (-35), 3) := by decide +kernel
theorem dX12_qSums_53 : decode cX12_qSums 53 = .ok (.aload_n 0, 1) := by decide +kernel
theorem dX12_qSums_54 : decode cX12_qSums 54 = .ok (.getfield 263, 3) := by decide +kernel
theorem dX12_qSums_57 : decode cX12_qSums 57 = .ok (.ifCond .ne 21, 3) := by decide +kernel
theorem dX12_qSums_60 : decode cX12_qSums 60 = .ok (.aload_n 0, 1) := by decide +kernel
theorem dX12_qSums_61 : decode cX12_qSums 61 = .ok (.getfield 355, 3) := by decide +kernel
theorem dX12_qSums_64 : decode cX12_qSums 64 = .ok (.aload_n 0, 1) := by decide +kernel
theorem dX12_qSums_65 : decode cX12_qSums 65 = .ok (.getfield 361, 3) := by decide +kernel
theorem dX12_qSums_68 : decode cX12_qSums 68 = .ok (.if_icmp .le 10, 3) := by decide +kernel
theorem dX12_qSums_71 : decode cX12_qSums 71 = .ok (.aload_n 0, 1) := by decide +kernel
theorem dX12_qSums_72 : decode cX12_qSums 72 = .ok (.invokevirtual 600, 3) := by decide +kernel
theorem dX12_qSums_75 : decode cX12_qSums 75 = .ok (.goto (-22), 3) := by decide +kernel
theorem dX12_qSums_78 : decode cX12_qSums 78 = .ok (.aload_n 0, 1) := by decide +kernel
theorem dX12_qSums_79 : decode cX12_qSums 79 = .ok (.iload_n 1, 1) := by decide +kernel
theorem dX12_qSums_80 : decode cX12_qSums 80 = .ok (.putfield 361, 3) := by decide +kernel
theorem dX12_qSums_83 : decode cX12_qSums 83 = .ok (.return_, 1) := by decide +kernel
theorem dX12_image_0 : decode cX12_image 0 = .ok (.aload_n 0, 1) := by decide +kernel
theorem dX12_image_1 : decode cX12_image 1 = .ok (.iconst 0, 1) := by decide +kernel
theorem dX12_image_2 : decode cX12_image 2 = .ok (.putfield 686, 3) := by decide +kernel
theorem dX12_image_5 : decode cX12_image 5 = .ok (.aload_n 0, 1) := by decide +kernel
theorem dX12_image_6 : decode cX12_image 6 = .ok (.aload_n 0, 1) := by decide +kernel
theorem dX12_image_7 : decode cX12_image 7 = .ok (.getfield 142, 3) := by decide +kernel
theorem dX12_image_10 : decode cX12_image 10 = .ok (.iconst 0, 1) := by decide +kernel
theorem dX12_image_11 : decode cX12_image 11 = .ok (.iaload, 1) := by decide +kernel
theorem dX12_image_12 : decode cX12_image 12 = .ok (.sipush 256, 3) := by decide +kernel
theorem dX12_image_15 : decode cX12_image 15 = .ok (.idiv, 1) := by decide +kernel
theorem dX12_image_16 : decode cX12_image 16 = .ok (.invokevirtual 689, 3) := by decide +kernel
theorem dX12_image_19 : decode cX12_image 19 = .ok (.aload_n 0, 1) := by decide +kernel
theorem dX12_image_20 : decode cX12_image 20 = .ok (.aload_n 0, 1) := by decide +kernel
theorem dX12_image_21 : decode cX12_image 21 = .ok (.getfield 142, 3) := by decide +kernel
theorem dX12_image_24 : decode cX12_image 24 = .ok (.iconst 0, 1) := by decide +kernel
theorem dX12_image_25 : decode cX12_image 25 = .ok (.iaload, 1) := by decide +kernel
theorem dX12_image_26 : decode cX12_image 26 = .ok (.sipush 256, 3) := by decide +kernel
theorem dX12_image_29 : decode cX12_image 29 = .ok (.irem, 1) := by decide +kernel
theorem dX12_image_30 : decode cX12_image 30 = .ok (.invokevirtual 689, 3) := by decide +kernel
theorem dX12_image_33 : decode cX12_image 33 = .ok (.iconst 0, 1) := by decide +kernel
theorem dX12_image_34 : decode cX12_image 34 = .ok (.istore_n 1, 1) := by decide +kernel
theorem dX12_image_35 : decode cX12_image 35 = .ok (.iload_n 1, 1) := by decide +kernel
theorem dX12_image_36 : decode cX12_image 36 = .ok (.aload_n 0, 1) := by decide +kernel
theorem dX12_image_37 : decode cX12_image 37 = .ok (.invokevirtual 422, 3) := by decide +kernel
theorem dX12_image_40 : decode cX12_image 40 = .ok (.if_icmp .ge 18, 3) := by decide +kernel
theorem dX12_image_43 : decode cX12_image 43 = .ok (.aload_n 0, 1) := by decide +kernel
theorem dX12_image_44 : decode cX12_image 44 = .ok (.aload_n 0, 1) := by decide +kernel
theorem dX12_image_45 : decode cX12_image 45 = .ok (.iload_n 1, 1) := by decide +kernel
theorem dX12_image_46 : decode cX12_image 46 = .ok (.invokevirtual 458, 3) := by decide +kernel
theorem dX12_image_49 : decode cX12_image 49 = .ok (.invokevirtual 689, 3) := by decide +kernel
theorem dX12_image_52 : decode cX12_image 52 = .ok (.iinc 1 1, 3) := by decide +kernel
theorem dX12_image_55 : decode cX12_image 55 = .ok (.goto (-20), 3) := by decide +kernel
theorem dX12_image_58 : decode cX12_image 58 = .ok (.iconst 0, 1) := by decide +kernel
theorem dX12_image_59 : decode cX12_image 59 = .ok (.istore_n 1, 1) := by decide +kernel
theorem dX12_image_60 : decode cX12_image 60 = .ok (.iload_n 1, 1) := by decide +kernel
theorem dX12_image_61 : decode cX12_image 61 = .ok (.aload_n 0, 1) := by decide +kernel
theorem dX12_image_62 : decode cX12_image 62 = .ok (.invokevirtual 410, 3) := by decide +kernel
theorem dX12_image_65 : decode cX12_image 65 = .ok (.if_icmp .ge 21, 3) := by decide +kernel
theorem dX12_image_68 : decode cX12_image 68 = .ok (.aload_n 0, 1) := by decide +kernel
theorem dX12_image_69 : decode cX12_image 69 = .ok (.aload_n 0, 1) := by decide +kernel
theorem dX12_image_70 : decode cX12_image 70 = .ok (.getfield 142, 3) := by decide +kernel
theorem dX12_image_73 : decode cX12_image 73 = .ok (.iconst 4, 1) := by decide +kernel
theorem dX12_image_74 : decode cX12_image 74 = .ok (.iload_n 1, 1) := by decide +kernel
theorem dX12_image_75 : decode cX12_image 75 = .ok (.iadd, 1) := by decide +kernel
theorem dX12_image_76 : decode cX12_image 76 = .ok (.iaload, 1) := by decide +kernel
theorem dX12_image_77 : decode cX12_image 77 = .ok (.invokevirtual 689, 3) := by decide +kernel
theorem dX12_image_80 : decode cX12_image 80 = .ok (.iinc 1 1, 3) := by decide +kernel
theorem dX12_image_83 : decode cX12_image 83 = .ok (.goto (-23), 3) := by decide +kernel
theorem dX12_image_86 : decode cX12_image 86 = .ok (.iconst 0, 1) := by decide +kernel
theorem dX12_image_87 : decode cX12_image 87 = .ok (.istore_n 1, 1) := by decide +kernel
theorem dX12_image_88 : decode cX12_image 88 = .ok (.iload_n 1, 1) := by decide +kernel
theorem dX12_image_89 : decode cX12_image 89 = .ok (.iconst 3, 1) := by decide +kernel
theorem dX12_image_90 : decode cX12_image 90 = .ok (.aload_n 0, 1) := by decide +kernel
theorem dX12_image_91 : decode cX12_image 91 = .ok (.invokevirtual 419, 3) := by decide +kernel
theorem dX12_image_94 : decode cX12_image 94 = .ok (.imul, 1) := by decide +kernel
theorem dX12_image_95 : decode cX12_image 95 = .ok (.if_icmp .ge 22, 3) := by decide +kernel
theorem dX12_image_98 : decode cX12_image 98 = .ok (.aload_n 0, 1) := by decide +kernel
theorem dX12_image_99 : decode cX12_image 99 = .ok (.aload_n 0, 1) := by decide +kernel
theorem dX12_image_100 : decode cX12_image 100 = .ok (.getfield 142, 3) := by decide +kernel
theorem dX12_image_103 : decode cX12_image 103 = .ok (.bipush 8, 2) := by decide +kernel
theorem dX12_image_105 : decode cX12_image 105 = .ok (.iload_n 1, 1) := by decide +kernel
theorem dX12_image_106 : decode cX12_image 106 = .ok (.iadd, 1) := by decide +kernel
theorem dX12_image_107 : decode cX12_image 107 = .ok (.iaload, 1) := by decide +kernel
theorem dX12_image_108 : decode cX12_image 108 = .ok (.invokevirtual 689, 3) := by decide +kernel
theorem dX12_image_111 : decode cX12_image 111 = .ok (.iinc 1 1, 3) := by decide +kernel
theorem dX12_image_114 : decode cX12_image 114 = .ok (.goto (-26), 3) := by decide +kernel
theorem dX12_image_117 : decode cX12_image 117 = .ok (.aload_n 0, 1) := by decide +kernel
theorem dX12_image_118 : decode cX12_image 118 = .ok (.aload_n 0, 1) := by decide +kernel
theorem dX12_image_119 : decode cX12_image 119 = .ok (.getfield 257, 3) := by decide +kernel
theorem dX12_image_122 : decode cX12_image 122 = .ok (.aload_n 0, 1) := by decide +kernel
theorem dX12_image_123 : decode cX12_image 123 = .ok (.getfield 686, 3) := by decide +kernel
theorem dX12_image_126 : decode cX12_image 126 = .ok (.invokestatic 692, 3) := by decide +kernel
theorem dX12_image_129 : decode cX12_image 129 = .ok (.invokevirtual 689, 3) := by decide +kernel
theorem dX12_image_132 : decode cX12_image 132 = .ok (.aload_n 0, 1) := by decide +kernel
theorem dX12_image_133 : decode cX12_image 133 = .ok (.getfield 686, 3) := by decide +kernel
theorem dX12_image_136 : decode cX12_image 136 = .ok (.ireturn, 1) := by decide +kernel
theorem dX12_takes_0 : decode cX12_takes 0 = .ok (.aload_n 0, 1) := by decide +kernel
theorem dX12_takes_1 : decode cX12_takes 1 = .ok (.iload_n 1, 1) := by decide +kernel
theorem dX12_takes_2 : decode cX12_takes 2 = .ok (.invokevirtual 501, 3) := by decide +kernel
theorem dX12_takes_5 : decode cX12_takes 5 = .ok (.ifCond .eq 20, 3) := by decide +kernel
theorem dX12_takes_8 : decode cX12_takes 8 = .ok (.aload_n 0, 1) := by decide +kernel
theorem dX12_takes_9 : decode cX12_takes 9 = .ok (.iload_n 2, 1) := by decide +kernel
theorem dX12_takes_10 : decode cX12_takes 10 = .ok (.invokevirtual 516, 3) := by decide +kernel
theorem dX12_takes_13 : decode cX12_takes 13 = .ok (.ifCond .eq 12, 3) := by decide +kernel
theorem dX12_takes_16 : decode cX12_takes 16 = .ok (.aload_n 0, 1) := by decide +kernel
theorem dX12_takes_17 : decode cX12_takes 17 = .ok (.iload_n 1, 1) := by decide +kernel
theorem dX12_takes_18 : decode cX12_takes 18 = .ok (.iload_n 2, 1) := by decide +kernel
theorem dX12_takes_19 : decode cX12_takes 19 = .ok (.invokevirtual 461, 3) := by decide +kernel
theorem dX12_takes_22 : decode cX12_takes 22 = .ok (.goto 4, 3) := by decide +kernel
theorem dX12_takes_25 : decode cX12_takes 25 = .ok (.iconst (-1), 1) := by decide +kernel
theorem dX12_takes_26 : decode cX12_takes 26 = .ok (.ireturn, 1) := by decide +kernel
theorem dX12_number_0 : decode cX12_number 0 = .ok (.aload_n 0, 1) := by decide +kernel
theorem dX12_number_1 : decode cX12_number 1 = .ok (.getfield 263, 3) := by decide +kernel
theorem dX12_number_4 : decode cX12_number 4 = .ok (.ifCond .eq 5, 3) := by decide +kernel
theorem dX12_number_7 : decode cX12_number 7 = .ok (.iconst 0, 1) := by decide +kernel
theorem dX12_number_8 : decode cX12_number 8 = .ok (.ireturn, 1) := by decide +kernel
theorem dX12_number_9 : decode cX12_number 9 = .ok (.aload_n 0, 1) := by decide +kernel
theorem dX12_number_10 : decode cX12_number 10 = .ok (.invokevirtual 275, 3) := by decide +kernel
theorem dX12_number_13 : decode cX12_number 13 = .ok (.invokestatic 300, 3) := by decide +kernel
theorem dX12_number_16 : decode cX12_number 16 = .ok (.ifCond .eq 14, 3) := by decide +kernel
theorem dX12_number_19 : decode cX12_number 19 = .ok (.aload_n 0, 1) := by decide +kernel
theorem dX12_number_20 : decode cX12_number 20 = .ok (.getfield 269, 3) := by decide +kernel
theorem dX12_number_23 : decode cX12_number 23 = .ok (.aload_n 0, 1) := by decide +kernel
theorem dX12_number_24 : decode cX12_number 24 = .ok (.getfield 283, 3) := by decide +kernel
theorem dX12_number_27 : decode cX12_number 27 = .ok (.if_icmp .ne 14, 3) := by decide +kernel
theorem dX12_number_30 : decode cX12_number 30 = .ok (.aload_n 0, 1) := by decide +kernel
theorem dX12_number_31 : decode cX12_number 31 = .ok (.iconst 1, 1) := by decide +kernel
theorem dX12_number_32 : decode cX12_number 32 = .ok (.aload_n 0, 1) := by decide +kernel
theorem dX12_number_33 : decode cX12_number 33 = .ok (.getfield 269, 3) := by decide +kernel
theorem dX12_number_36 : decode cX12_number 36 = .ok (.invokevirtual 293, 3) := by decide +kernel
theorem dX12_number_39 : decode cX12_number 39 = .ok (.iconst 0, 1) := by decide +kernel
theorem dX12_number_40 : decode cX12_number 40 = .ok (.ireturn, 1) := by decide +kernel
theorem dX12_number_41 : decode cX12_number 41 = .ok (.aload_n 0, 1) := by decide +kernel
theorem dX12_number_42 : decode cX12_number 42 = .ok (.getfield 269, 3) := by decide +kernel
theorem dX12_number_45 : decode cX12_number 45 = .ok (.istore_n 3, 1) := by decide +kernel
theorem dX12_number_46 : decode cX12_number 46 = .ok (.iconst 0, 1) := by decide +kernel
theorem dX12_number_47 : decode cX12_number 47 = .ok (.istore 4, 2) := by decide +kernel
theorem dX12_number_49 : decode cX12_number 49 = .ok (.aload_n 0, 1) := by decide +kernel
theorem dX12_number_50 : decode cX12_number 50 = .ok (.getfield 269, 3) := by decide +kernel
theorem dX12_number_53 : decode cX12_number 53 = .ok (.aload_n 0, 1) := by decide +kernel
theorem dX12_number_54 : decode cX12_number 54 = .ok (.getfield 272, 3) := by decide +kernel
theorem dX12_number_57 : decode cX12_number 57 = .ok (.if_icmp .ge 72, 3) := by decide +kernel
theorem dX12_number_60 : decode cX12_number 60 = .ok (.aload_n 0, 1) := by decide +kernel
theorem dX12_number_61 : decode cX12_number 61 = .ok (.getfield 7, 3) := by decide +kernel
theorem dX12_number_64 : decode cX12_number 64 = .ok (.aload_n 0, 1) := by decide +kernel
theorem dX12_number_65 : decode cX12_number 65 = .ok (.getfield 269, 3) := by decide +kernel
theorem dX12_number_68 : decode cX12_number 68 = .ok (.iaload, 1) := by decide +kernel
theorem dX12_number_69 : decode cX12_number 69 = .ok (.invokestatic 300, 3) := by decide +kernel
theorem dX12_number_72 : decode cX12_number 72 = .ok (.ifCond .eq 57, 3) := by decide +kernel
theorem dX12_number_75 : decode cX12_number 75 = .ok (.aload_n 0, 1) := by decide +kernel
theorem dX12_number_76 : decode cX12_number 76 = .ok (.getfield 269, 3) := by decide +kernel
theorem dX12_number_79 : decode cX12_number 79 = .ok (.iload_n 3, 1) := by decide +kernel
theorem dX12_number_80 : decode cX12_number 80 = .ok (.isub, 1) := by decide +kernel
theorem dX12_number_81 : decode cX12_number 81 = .ok (.iconst 4, 1) := by decide +kernel
theorem dX12_number_82 : decode cX12_number 82 = .ok (.if_icmp .ne 14, 3) := by decide +kernel
theorem dX12_number_85 : decode cX12_number 85 = .ok (.aload_n 0, 1) := by decide +kernel
theorem dX12_number_86 : decode cX12_number 86 = .ok (.iconst 1, 1) := by decide +kernel
theorem dX12_number_87 : decode cX12_number 87 = .ok (.aload_n 0, 1) := by decide +kernel
theorem dX12_number_88 : decode cX12_number 88 = .ok (.getfield 269, 3) := by decide +kernel
theorem dX12_number_91 : decode cX12_number 91 = .ok (.invokevirtual 293, 3) := by decide +kernel
theorem dX12_number_94 : decode cX12_number 94 = .ok (.iconst 0, 1) := by decide +kernel
theorem dX12_number_95 : decode cX12_number 95 = .ok (.ireturn, 1) := by decide +kernel
theorem dX12_number_96 : decode cX12_number 96 = .ok (.bipush 10, 2) := by decide +kernel
theorem dX12_number_98 : decode cX12_number 98 = .ok (.iload 4, 2) := by decide +kernel
theorem dX12_number_100 : decode cX12_number 100 = .ok (.imul, 1) := by decide +kernel
theorem dX12_number_101 : decode cX12_number 101 = .ok (.aload_n 0, 1) := by decide +kernel
theorem dX12_number_102 : decode cX12_number 102 = .ok (.getfield 7, 3) := by decide +kernel
theorem dX12_number_105 : decode cX12_number 105 = .ok (.aload_n 0, 1) := by decide +kernel
theorem dX12_number_106 : decode cX12_number 106 = .ok (.getfield 269, 3) := by decide +kernel
theorem dX12_number_109 : decode cX12_number 109 = .ok (.iaload, 1) := by decide +kernel
theorem dX12_number_110 : decode cX12_number 110 = .ok (.iadd, 1) := by decide +kernel
theorem dX12_number_111 : decode cX12_number 111 = .ok (.bipush 48, 2) := by decide +kernel
theorem dX12_number_113 : decode cX12_number 113 = .ok (.isub, 1) := by decide +kernel
theorem dX12_number_114 : decode cX12_number 114 = .ok (.istore 4, 2) := by decide +kernel
theorem dX12_number_116 : decode cX12_number 116 = .ok (.aload_n 0, 1) := by decide +kernel
theorem dX12_number_117 : decode cX12_number 117 = .ok (.dup, 1) := by decide +kernel
theorem dX12_number_118 : decode cX12_number 118 = .ok (.getfield 269, 3) := by decide +kernel
theorem dX12_number_121 : decode cX12_number 121 = .ok (.iconst 1, 1) := by decide +kernel
theorem dX12_number_122 : decode cX12_number 122 = .ok (.iadd, 1) := by decide +kernel
theorem dX12_number_123 : decode cX12_number 123 = .ok (.putfield 269, 3) := by decide +kernel
theorem dX12_number_126 : decode cX12_number 126 = .ok (.goto (-77), 3) := by decide +kernel
theorem dX12_number_129 : decode cX12_number 129 = .ok (.aload_n 0, 1) := by decide +kernel
theorem dX12_number_130 : decode cX12_number 130 = .ok (.aload_n 0, 1) := by decide +kernel
theorem dX12_number_131 : decode cX12_number 131 = .ok (.getfield 269, 3) := by decide +kernel
theorem dX12_number_134 : decode cX12_number 134 = .ok (.putfield 283, 3) := by decide +kernel
theorem dX12_number_137 : decode cX12_number 137 = .ok (.iload 4, 2) := by decide +kernel
theorem dX12_number_139 : decode cX12_number 139 = .ok (.i2l, 1) := by decide +kernel
theorem dX12_number_140 : decode cX12_number 140 = .ok (.iload_n 1, 1) := by decide +kernel
theorem dX12_number_141 : decode cX12_number 141 = .ok (.i2l, 1) := by decide +kernel
theorem dX12_number_142 : decode cX12_number 142 = .ok (.iload_n 2, 1) := by decide +kernel
theorem dX12_number_143 : decode cX12_number 143 = .ok (.i2l, 1) := by decide +kernel
theorem dX12_number_144 : decode cX12_number 144 = .ok (.invokestatic 303, 3) := by decide +kernel
theorem dX12_number_147 : decode cX12_number 147 = .ok (.ifCond .ne 9, 3) := by decide +kernel
theorem dX12_number_150 : decode cX12_number 150 = .ok (.aload_n 0, 1) := by decide +kernel
theorem dX12_number_151 : decode cX12_number 151 = .ok (.iconst 2, 1) := by decide +kernel
theorem dX12_number_152 : decode cX12_number 152 = .ok (.iload_n 3, 1) := by decide +kernel
theorem dX12_number_153 : decode cX12_number 153 = .ok (.invokevirtual 293, 3) := by decide +kernel
theorem dX12_number_156 : decode cX12_number 156 = .ok (.iload 4, 2) := by decide +kernel
theorem dX12_number_158 : decode cX12_number 158 = .ok (.ireturn, 1) := by decide +kernel
theorem dX12_end_0 : decode cX12_end 0 = .ok (.iload_n 1, 1) := by decide +kernel
theorem dX12_end_1 : decode cX12_end 1 = .ok (.ifCond .lt 11, 3) := by decide +kernel
theorem dX12_end_4 : decode cX12_end 4 = .ok (.iload_n 1, 1) := by decide +kernel
theorem dX12_end_5 : decode cX12_end 5 = .ok (.aload_n 0, 1) := by decide +kernel
theorem dX12_end_6 : decode cX12_end 6 = .ok (.getfield 260, 3) := by decide +kernel
theorem dX12_end_9 : decode cX12_end 9 = .ok (.if_icmp .le 15, 3) := by decide +kernel
theorem dX12_end_12 : decode cX12_end 12 = .ok (.aload_n 0, 1) := by decide +kernel
theorem dX12_end_13 : decode cX12_end 13 = .ok (.getfield 17, 3) := by decide +kernel
theorem dX12_end_16 : decode cX12_end 16 = .ok (.iconst 0, 1) := by decide +kernel
theorem dX12_end_17 : decode cX12_end 17 = .ok (.dup2, 1) := by decide +kernel
theorem dX12_end_18 : decode cX12_end 18 = .ok (.iaload, 1) := by decide +kernel
theorem dX12_end_19 : decode cX12_end 19 = .ok (.iconst 1, 1) := by decide +kernel
theorem dX12_end_20 : decode cX12_end 20 = .ok (.iadd, 1) := by decide +kernel
theorem dX12_end_21 : decode cX12_end 21 = .ok (.iastore, 1) := by decide +kernel
theorem dX12_end_22 : decode cX12_end 22 = .ok (.iconst 0, 1) := by decide +kernel
theorem dX12_end_23 : decode cX12_end 23 = .ok (.ireturn, 1) := by decide +kernel
theorem dX12_end_24 : decode cX12_end 24 = .ok (.aload_n 0, 1) := by decide +kernel
theorem dX12_end_25 : decode cX12_end 25 = .ok (.iload_n 1, 1) := by decide +kernel
theorem dX12_end_26 : decode cX12_end 26 = .ok (.putfield 260, 3) := by decide +kernel
theorem dX12_end_29 : decode cX12_end 29 = .ok (.iconst 1, 1) := by decide +kernel
theorem dX12_end_30 : decode cX12_end 30 = .ok (.ireturn, 1) := by decide +kernel
theorem dX12_codesTell_0 : decode cX12_codesTell 0 = .ok (.aload_n 0, 1) := by decide +kernel
theorem dX12_codesTell_1 : decode cX12_codesTell 1 = .ok (.aload_n 0, 1) := by decide +kernel
theorem dX12_codesTell_2 : decode cX12_codesTell 2 = .ok (.getfield 127, 3) := by decide +kernel
theorem dX12_codesTell_5 : decode cX12_codesTell 5 = .ok (.bipush 10, 2) := by decide +kernel
theorem dX12_codesTell_7 : decode cX12_codesTell 7 = .ok (.iconst 3, 1) := by decide +kernel
theorem dX12_codesTell_8 : decode cX12_codesTell 8 = .ok (.iload_n 3, 1) := by decide +kernel
theorem dX12_codesTell_9 : decode cX12_codesTell 9 = .ok (.imul, 1) := by decide +kernel
theorem dX12_codesTell_10 : decode cX12_codesTell 10 = .ok (.iadd, 1) := by decide +kernel
theorem dX12_codesTell_11 : decode cX12_codesTell 11 = .ok (.iaload, 1) := by decide +kernel
theorem dX12_codesTell_12 : decode cX12_codesTell 12 = .ok (.putfield 428, 3) := by decide +kernel
theorem dX12_codesTell_15 : decode cX12_codesTell 15 = .ok (.aload_n 0, 1) := by decide +kernel
theorem dX12_codesTell_16 : decode cX12_codesTell 16 = .ok (.iconst 1, 1) := by decide +kernel
theorem dX12_codesTell_17 : decode cX12_codesTell 17 = .ok (.putfield 318, 3) := by decide +kernel
theorem dX12_codesTell_20 : decode cX12_codesTell 20 = .ok (.aload_n 0, 1) := by decide +kernel
theorem dX12_codesTell_21 : decode cX12_codesTell 21 = .ok (.iconst 0, 1) := by decide +kernel
theorem dX12_codesTell_22 : decode cX12_codesTell 22 = .ok (.putfield 431, 3) := by decide +kernel
theorem dX12_codesTell_25 : decode cX12_codesTell 25 = .ok (.aload_n 0, 1) := by decide +kernel
theorem dX12_codesTell_26 : decode cX12_codesTell 26 = .ok (.getfield 133, 3) := by decide +kernel
theorem dX12_codesTell_29 : decode cX12_codesTell 29 = .ok (.iconst 2, 1) := by decide +kernel
theorem dX12_codesTell_30 : decode cX12_codesTell 30 = .ok (.iload_n 1, 1) := by decide +kernel
theorem dX12_codesTell_31 : decode cX12_codesTell 31 = .ok (.iadd, 1) := by decide +kernel
theorem dX12_codesTell_32 : decode cX12_codesTell 32 = .ok (.iaload, 1) := by decide +kernel
theorem dX12_codesTell_33 : decode cX12_codesTell 33 = .ok (.istore 4, 2) := by decide +kernel
theorem dX12_codesTell_35 : decode cX12_codesTell 35 = .ok (.iload 4, 2) := by decide +kernel
theorem dX12_codesTell_37 : decode cX12_codesTell 37 = .ok (.aload_n 0, 1) := by decide +kernel
theorem dX12_codesTell_38 : decode cX12_codesTell 38 = .ok (.getfield 136, 3) := by decide +kernel
theorem dX12_codesTell_41 : decode cX12_codesTell 41 = .ok (.iconst 2, 1) := by decide +kernel
theorem dX12_codesTell_42 : decode cX12_codesTell 42 = .ok (.iload_n 1, 1) := by decide +kernel
theorem dX12_codesTell_43 : decode cX12_codesTell 43 = .ok (.iadd, 1) := by decide +kernel
theorem dX12_codesTell_44 : decode cX12_codesTell 44 = .ok (.iaload, 1) := by decide +kernel
theorem dX12_codesTell_45 : decode cX12_codesTell 45 = .ok (.if_icmp .ge 74, 3) := by decide +kernel
theorem dX12_codesTell_48 : decode cX12_codesTell 48 = .ok (.aload_n 0, 1) := by decide +kernel
theorem dX12_codesTell_49 : decode cX12_codesTell 49 = .ok (.getfield 139, 3) := by decide +kernel
theorem dX12_codesTell_52 : decode cX12_codesTell 52 = .ok (.sipush 1600, 3) := by decide +kernel
theorem dX12_codesTell_55 : decode cX12_codesTell 55 = .ok (.iload 4, 2) := by decide +kernel
theorem dX12_codesTell_57 : decode cX12_codesTell 57 = .ok (.iadd, 1) := by decide +kernel
theorem dX12_codesTell_58 : decode cX12_codesTell 58 = .ok (.iaload, 1) := by decide +kernel
theorem dX12_codesTell_59 : decode cX12_codesTell 59 = .ok (.istore 5, 2) := by decide +kernel
theorem dX12_codesTell_61 : decode cX12_codesTell 61 = .ok (.iload 5, 2) := by decide +kernel
theorem dX12_codesTell_63 : decode cX12_codesTell 63 = .ok (.sipush 1000, 3) := by decide +kernel
theorem dX12_codesTell_66 : decode cX12_codesTell 66 = .ok (.if_icmp .lt 17, 3) := by decide +kernel
theorem dX12_codesTell_69 : decode cX12_codesTell 69 = .ok (.aload_n 0, 1) := by decide +kernel
theorem dX12_codesTell_70 : decode cX12_codesTell 70 = .ok (.iload 5, 2) := by decide +kernel
theorem dX12_codesTell_72 : decode cX12_codesTell 72 = .ok (.sipush 1000, 3) := by decide +kernel
theorem dX12_codesTell_75 : decode cX12_codesTell 75 = .ok (.isub, 1) := by decide +kernel
theorem dX12_codesTell_76 : decode cX12_codesTell 76 = .ok (.i2l, 1) := by decide +kernel
theorem dX12_codesTell_77 : decode cX12_codesTell 77 = .ok (.invokevirtual 434, 3) := by decide +kernel
theorem dX12_codesTell_80 : decode cX12_codesTell 80 = .ok (.goto 33, 3) := by decide +kernel
theorem dX12_codesTell_83 : decode cX12_codesTell 83 = .ok (.iload 5, 2) := by decide +kernel
theorem dX12_codesTell_85 : decode cX12_codesTell 85 = .ok (.bipush 40, 2) := by decide +kernel
theorem dX12_codesTell_87 : decode cX12_codesTell 87 = .ok (.if_icmp .lt 20, 3) := by decide +kernel
theorem dX12_codesTell_90 : decode cX12_codesTell 90 = .ok (.aload_n 0, 1) := by decide +kernel
theorem dX12_codesTell_91 : decode cX12_codesTell 91 = .ok (.aload_n 0, 1) := by decide +kernel
theorem dX12_codesTell_92 : decode cX12_codesTell 92 = .ok (.iload 5, 2) := by decide +kernel
theorem dX12_codesTell_94 : decode cX12_codesTell 94 = .ok (.bipush 40, 2) := by decide +kernel
theorem dX12_codesTell_96 : decode cX12_codesTell 96 = .ok (.isub, 1) := by decide +kernel
theorem dX12_codesTell_97 : decode cX12_codesTell 97 = .ok (.iload_n 2, 1) := by decide +kernel
theorem dX12_codesTell_98 : decode cX12_codesTell 98 = .ok (.invokevirtual 438, 3) := by decide +kernel
theorem dX12_codesTell_101 : decode cX12_codesTell 101 = .ok (.invokevirtual 434, 3) := by decide +kernel
theorem dX12_codesTell_104 : decode cX12_codesTell 104 = .ok (.goto 9, 3) := by decide +kernel
theorem dX12_codesTell_107 : decode cX12_codesTell 107 = .ok (.aload_n 0, 1) := by decide +kernel
theorem dX12_codesTell_108 : decode cX12_codesTell 108 = .ok (.iload 5, 2) := by decide +kernel
theorem dX12_codesTell_110 : decode cX12_codesTell 110 = .ok (.invokevirtual 442, 3) := by decide +kernel
theorem dX12_codesTell_113 : decode cX12_codesTell 113 = .ok (.iinc 4 1, 3) := by decide +kernel
theorem dX12_codesTell_116 : decode cX12_codesTell 116 = .ok (.goto (-81), 3) := by decide +kernel
theorem dX12_codesTell_119 : decode cX12_codesTell 119 = .ok (.aload_n 0, 1) := by decide +kernel
theorem dX12_codesTell_120 : decode cX12_codesTell 120 = .ok (.getfield 254, 3) := by decide +kernel
theorem dX12_codesTell_123 : decode cX12_codesTell 123 = .ok (.iconst 0, 1) := by decide +kernel
theorem dX12_codesTell_124 : decode cX12_codesTell 124 = .ok (.laload, 1) := by decide +kernel
theorem dX12_codesTell_125 : decode cX12_codesTell 125 = .ok (.lreturn, 1) := by decide +kernel
theorem dX12_chance_0 : decode cX12_chance 0 = .ok (.aload_n 0, 1) := by decide +kernel
theorem dX12_chance_1 : decode cX12_chance 1 = .ok (.iload_n 1, 1) := by decide +kernel
theorem dX12_chance_2 : decode cX12_chance 2 = .ok (.iconst 1, 1) := by decide +kernel
theorem dX12_chance_3 : decode cX12_chance 3 = .ok (.bipush 50, 2) := by decide +kernel
theorem dX12_chance_5 : decode cX12_chance 5 = .ok (.invokevirtual 524, 3) := by decide +kernel
theorem dX12_chance_8 : decode cX12_chance 8 = .ok (.ifCond .ne 9, 3) := by decide +kernel
theorem dX12_chance_11 : decode cX12_chance 11 = .ok (.aload_n 0, 1) := by decide +kernel
theorem dX12_chance_12 : decode cX12_chance 12 = .ok (.iconst 3, 1) := by decide +kernel
theorem dX12_chance_13 : decode cX12_chance 13 = .ok (.invokevirtual 560, 3) := by decide +kernel
theorem dX12_chance_16 : decode cX12_chance 16 = .ok (.ireturn, 1) := by decide +kernel
theorem dX12_chance_17 : decode cX12_chance 17 = .ok (.aload_n 0, 1) := by decide +kernel
theorem dX12_chance_18 : decode cX12_chance 18 = .ok (.invokevirtual 575, 3) := by decide +kernel
theorem dX12_chance_21 : decode cX12_chance 21 = .ok (.iconst 0, 1) := by decide +kernel
theorem dX12_chance_22 : decode cX12_chance 22 = .ok (.istore_n 2, 1) := by decide +kernel
theorem dX12_chance_23 : decode cX12_chance 23 = .ok (.iconst 0, 1) := by decide +kernel
theorem dX12_chance_24 : decode cX12_chance 24 = .ok (.istore_n 3, 1) := by decide +kernel
theorem dX12_chance_25 : decode cX12_chance 25 = .ok (.iload_n 3, 1) := by decide +kernel
theorem dX12_chance_26 : decode cX12_chance 26 = .ok (.iload_n 1, 1) := by decide +kernel
theorem dX12_chance_27 : decode cX12_chance 27 = .ok (.if_icmp .ge 60, 3) := by decide +kernel
theorem dX12_chance_30 : decode cX12_chance 30 = .ok (.iconst 0, 1) := by decide +kernel
theorem dX12_chance_31 : decode cX12_chance 31 = .ok (.istore 4, 2) := by decide +kernel
theorem dX12_chance_33 : decode cX12_chance 33 = .ok (.iload 4, 2) := by decide +kernel
theorem dX12_chance_35 : decode cX12_chance 35 = .ok (.aload_n 0, 1) := by decide +kernel
theorem dX12_chance_36 : decode cX12_chance 36 = .ok (.invokevirtual 422, 3) := by decide +kernel
theorem dX12_chance_39 : decode cX12_chance 39 = .ok (.if_icmp .ge 37, 3) := by decide +kernel
theorem dX12_chance_42 : decode cX12_chance 42 = .ok (.aload_n 0, 1) := by decide +kernel
theorem dX12_chance_43 : decode cX12_chance 43 = .ok (.bipush 100, 2) := by decide +kernel
theorem dX12_chance_45 : decode cX12_chance 45 = .ok (.invokevirtual 591, 3) := by decide +kernel
theorem dX12_chance_48 : decode cX12_chance 48 = .ok (.aload_n 0, 1) := by decide +kernel
theorem dX12_chance_49 : decode cX12_chance 49 = .ok (.getfield 130, 3) := by decide +kernel
theorem dX12_chance_52 : decode cX12_chance 52 = .ok (.iconst 3, 1) := by decide +kernel
theorem dX12_chance_53 : decode cX12_chance 53 = .ok (.iaload, 1) := by decide +kernel
theorem dX12_chance_54 : decode cX12_chance 54 = .ok (.if_icmp .ge 16, 3) := by decide +kernel
theorem dX12_chance_57 : decode cX12_chance 57 = .ok (.aload_n 0, 1) := by decide +kernel
theorem dX12_chance_58 : decode cX12_chance 58 = .ok (.getfield 142, 3) := by decide +kernel
theorem dX12_chance_61 : decode cX12_chance 61 = .ok (.iconst 1, 1) := by decide +kernel
theorem dX12_chance_62 : decode cX12_chance 62 = .ok (.iload 4, 2) := by decide +kernel
theorem dX12_chance_64 : decode cX12_chance 64 = .ok (.iadd, 1) := by decide +kernel
theorem dX12_chance_65 : decode cX12_chance 65 = .ok (.iconst 0, 1) := by decide +kernel
theorem dX12_chance_66 : decode cX12_chance 66 = .ok (.iastore, 1) := by decide +kernel
theorem dX12_chance_67 : decode cX12_chance 67 = .ok (.iinc 2 1, 3) := by decide +kernel
theorem dX12_chance_70 : decode cX12_chance 70 = .ok (.iinc 4 1, 3) := by decide +kernel
theorem dX12_chance_73 : decode cX12_chance 73 = .ok (.goto (-40), 3) := by decide +kernel
theorem dX12_chance_76 : decode cX12_chance 76 = .ok (.aload_n 0, 1) := by decide +kernel
theorem dX12_chance_77 : decode cX12_chance 77 = .ok (.invokevirtual 530, 3) := by decide +kernel
theorem dX12_chance_80 : decode cX12_chance 80 = .ok (.pop, 1) := by decide +kernel
theorem dX12_chance_81 : decode cX12_chance 81 = .ok (.iinc 3 1, 3) := by decide +kernel
theorem dX12_chance_84 : decode cX12_chance 84 = .ok (.goto (-59), 3) := by decide +kernel
theorem dX12_chance_87 : decode cX12_chance 87 = .ok (.iload_n 2, 1) := by decide +kernel
theorem dX12_chance_88 : decode cX12_chance 88 = .ok (.ireturn, 1) := by decide +kernel
theorem dX12_likeTold_0 : decode cX12_likeTold 0 = .ok (.aload_n 0, 1) := by decide +kernel
theorem dX12_likeTold_1 : decode cX12_likeTold 1 = .ok (.iconst 4, 1) := by decide +kernel
theorem dX12_likeTold_2 : decode cX12_likeTold 2 = .ok (.bipush 10, 2) := by decide +kernel
theorem dX12_likeTold_4 : decode cX12_likeTold 4 = .ok (.iload_n 1, 1) := by decide +kernel
theorem dX12_likeTold_5 : decode cX12_likeTold 5 = .ok (.invokevirtual 330, 3) := by decide +kernel
theorem dX12_likeTold_8 : decode cX12_likeTold 8 = .ok (.ifCond .eq 4, 3) := by decide +kernel
theorem dX12_likeTold_11 : decode cX12_likeTold 11 = .ok (.return_, 1) := by decide +kernel
theorem dX12_likeTold_12 : decode cX12_likeTold 12 = .ok (.aload_n 0, 1) := by decide +kernel
theorem dX12_likeTold_13 : decode cX12_likeTold 13 = .ok (.iconst 0, 1) := by decide +kernel
theorem dX12_likeTold_14 : decode cX12_likeTold 14 = .ok (.invokevirtual 348, 3) := by decide +kernel
theorem dX12_likeTold_17 : decode cX12_likeTold 17 = .ok (.istore_n 2, 1) := by decide +kernel
theorem dX12_likeTold_18 : decode cX12_likeTold 18 = .ok (.aload_n 0, 1) := by decide +kernel
theorem dX12_likeTold_19 : decode cX12_likeTold 19 = .ok (.iconst 0, 1) := by decide +kernel
theorem dX12_likeTold_20 : decode cX12_likeTold 20 = .ok (.invokevirtual 348, 3) := by decide +kernel
theorem dX12_likeTold_23 : decode cX12_likeTold 23 = .ok (.istore_n 3, 1) := by decide +kernel
theorem dX12_likeTold_24 : decode cX12_likeTold 24 = .ok (.aload_n 0, 1) := by decide +kernel
theorem dX12_likeTold_25 : decode cX12_likeTold 25 = .ok (.getfield 263, 3) := by decide +kernel
theorem dX12_likeTold_28 : decode cX12_likeTold 28 = .ok (.ifCond .ne 31, 3) := by decide +kernel
theorem dX12_likeTold_31 : decode cX12_likeTold 31 = .ok (.iload_n 2, 1) := by decide +kernel
