theorem dX12_areLettersTold_30 : decode cX12_areLettersTold 30 = .ok (.getfield 7, 3) := by decide +kernel
theorem dX12_areLettersTold_33 : decode cX12_areLettersTold 33 = .ok (.iload_n 3, 1) := by decide +kernel
theorem dX12_areLettersTold_34 : decode cX12_areLettersTold 34 = .ok (.iconst 1, 1) := by decide +kernel
theorem dX12_areLettersTold_35 : decode cX12_areLettersTold 35 = .ok (.iadd, 1) := by decide +kernel
theorem dX12_areLettersTold_36 : decode cX12_areLettersTold 36 = .ok (.iaload, 1) := by decide +kernel
theorem dX12_areLettersTold_37 : decode cX12_areLettersTold 37 = .ok (.iconst 4, 1) := by decide +kernel
theorem dX12_areLettersTold_38 : decode cX12_areLettersTold 38 = .ok (.if_icmp .gt 18, 3) := by decide +kernel
theorem dX12_areLettersTold_41 : decode cX12_areLettersTold 41 = .ok (.aload_n 0, 1) := by decide +kernel
theorem dX12_areLettersTold_42 : decode cX12_areLettersTold 42 = .ok (.getfield 7, 3) := by decide +kernel
theorem dX12_areLettersTold_45 : decode cX12_areLettersTold 45 = .ok (.iload_n 3, 1) := by decide +kernel
theorem dX12_areLettersTold_46 : decode cX12_areLettersTold 46 = .ok (.iconst 2, 1) := by decide +kernel
theorem dX12_areLettersTold_47 : decode cX12_areLettersTold 47 = .ok (.iadd, 1) := by decide +kernel
theorem dX12_areLettersTold_48 : decode cX12_areLettersTold 48 = .ok (.iaload, 1) := by decide +kernel
theorem dX12_areLettersTold_49 : decode cX12_areLettersTold 49 = .ok (.aload_n 0, 1) := by decide +kernel
theorem dX12_areLettersTold_50 : decode cX12_areLettersTold 50 = .ok (.invokevirtual 410, 3) := by decide +kernel
theorem dX12_areLettersTold_53 : decode cX12_areLettersTold 53 = .ok (.if_icmp .le 5, 3) := by decide +kernel
theorem dX12_areLettersTold_56 : decode cX12_areLettersTold 56 = .ok (.iconst 0, 1) := by decide +kernel
theorem dX12_areLettersTold_57 : decode cX12_areLettersTold 57 = .ok (.ireturn, 1) := by decide +kernel
theorem dX12_areLettersTold_58 : decode cX12_areLettersTold 58 = .ok (.iconst 0, 1) := by decide +kernel
theorem dX12_areLettersTold_59 : decode cX12_areLettersTold 59 = .ok (.istore 4, 2) := by decide +kernel
theorem dX12_areLettersTold_61 : decode cX12_areLettersTold 61 = .ok (.iload 4, 2) := by decide +kernel
theorem dX12_areLettersTold_63 : decode cX12_areLettersTold 63 = .ok (.iload_n 2, 1) := by decide +kernel
theorem dX12_areLettersTold_64 : decode cX12_areLettersTold 64 = .ok (.if_icmp .ge 64, 3) := by decide +kernel
theorem dX12_areLettersTold_67 : decode cX12_areLettersTold 67 = .ok (.aload_n 0, 1) := by decide +kernel
theorem dX12_areLettersTold_68 : decode cX12_areLettersTold 68 = .ok (.getfield 7, 3) := by decide +kernel
theorem dX12_areLettersTold_71 : decode cX12_areLettersTold 71 = .ok (.iload_n 3, 1) := by decide +kernel
theorem dX12_areLettersTold_72 : decode cX12_areLettersTold 72 = .ok (.iconst 1, 1) := by decide +kernel
theorem dX12_areLettersTold_73 : decode cX12_areLettersTold 73 = .ok (.iadd, 1) := by decide +kernel
theorem dX12_areLettersTold_74 : decode cX12_areLettersTold 74 = .ok (.iaload, 1) := by decide +kernel
theorem dX12_areLettersTold_75 : decode cX12_areLettersTold 75 = .ok (.ifCond .le 47, 3) := by decide +kernel
theorem dX12_areLettersTold_78 : decode cX12_areLettersTold 78 = .ok (.aload_n 0, 1) := by decide +kernel
theorem dX12_areLettersTold_79 : decode cX12_areLettersTold 79 = .ok (.getfield 7, 3) := by decide +kernel
theorem dX12_areLettersTold_82 : decode cX12_areLettersTold 82 = .ok (.iload_n 3, 1) := by decide +kernel
theorem dX12_areLettersTold_83 : decode cX12_areLettersTold 83 = .ok (.iconst 1, 1) := by decide +kernel
theorem dX12_areLettersTold_84 : decode cX12_areLettersTold 84 = .ok (.iadd, 1) := by decide +kernel
theorem dX12_areLettersTold_85 : decode cX12_areLettersTold 85 = .ok (.iaload, 1) := by decide +kernel
theorem dX12_areLettersTold_86 : decode cX12_areLettersTold 86 = .ok (.aload_n 0, 1) := by decide +kernel
theorem dX12_areLettersTold_87 : decode cX12_areLettersTold 87 = .ok (.getfield 7, 3) := by decide +kernel
theorem dX12_areLettersTold_90 : decode cX12_areLettersTold 90 = .ok (.iload_n 1, 1) := by decide +kernel
theorem dX12_areLettersTold_91 : decode cX12_areLettersTold 91 = .ok (.iconst 3, 1) := by decide +kernel
theorem dX12_areLettersTold_92 : decode cX12_areLettersTold 92 = .ok (.iload 4, 2) := by decide +kernel
theorem dX12_areLettersTold_94 : decode cX12_areLettersTold 94 = .ok (.imul, 1) := by decide +kernel
theorem dX12_areLettersTold_95 : decode cX12_areLettersTold 95 = .ok (.iadd, 1) := by decide +kernel
theorem dX12_areLettersTold_96 : decode cX12_areLettersTold 96 = .ok (.iconst 1, 1) := by decide +kernel
theorem dX12_areLettersTold_97 : decode cX12_areLettersTold 97 = .ok (.iadd, 1) := by decide +kernel
theorem dX12_areLettersTold_98 : decode cX12_areLettersTold 98 = .ok (.iaload, 1) := by decide +kernel
theorem dX12_areLettersTold_99 : decode cX12_areLettersTold 99 = .ok (.if_icmp .ne 23, 3) := by decide +kernel
theorem dX12_areLettersTold_102 : decode cX12_areLettersTold 102 = .ok (.aload_n 0, 1) := by decide +kernel
theorem dX12_areLettersTold_103 : decode cX12_areLettersTold 103 = .ok (.getfield 121, 3) := by decide +kernel
theorem dX12_areLettersTold_106 : decode cX12_areLettersTold 106 = .ok (.bipush 8, 2) := by decide +kernel
theorem dX12_areLettersTold_108 : decode cX12_areLettersTold 108 = .ok (.iload_n 2, 1) := by decide +kernel
theorem dX12_areLettersTold_109 : decode cX12_areLettersTold 109 = .ok (.iadd, 1) := by decide +kernel
theorem dX12_areLettersTold_110 : decode cX12_areLettersTold 110 = .ok (.iaload, 1) := by decide +kernel
theorem dX12_areLettersTold_111 : decode cX12_areLettersTold 111 = .ok (.iload 4, 2) := by decide +kernel
theorem dX12_areLettersTold_113 : decode cX12_areLettersTold 113 = .ok (.ishr, 1) := by decide +kernel
theorem dX12_areLettersTold_114 : decode cX12_areLettersTold 114 = .ok (.iconst 1, 1) := by decide +kernel
theorem dX12_areLettersTold_115 : decode cX12_areLettersTold 115 = .ok (.iand, 1) := by decide +kernel
theorem dX12_areLettersTold_116 : decode cX12_areLettersTold 116 = .ok (.iconst 1, 1) := by decide +kernel
theorem dX12_areLettersTold_117 : decode cX12_areLettersTold 117 = .ok (.if_icmp .ne 5, 3) := by decide +kernel
theorem dX12_areLettersTold_120 : decode cX12_areLettersTold 120 = .ok (.iconst 0, 1) := by decide +kernel
theorem dX12_areLettersTold_121 : decode cX12_areLettersTold 121 = .ok (.ireturn, 1) := by decide +kernel
theorem dX12_areLettersTold_122 : decode cX12_areLettersTold 122 = .ok (.iinc 4 1, 3) := by decide +kernel
theorem dX12_areLettersTold_125 : decode cX12_areLettersTold 125 = .ok (.goto (-64), 3) := by decide +kernel
theorem dX12_areLettersTold_128 : decode cX12_areLettersTold 128 = .ok (.iinc 2 1, 3) := by decide +kernel
theorem dX12_areLettersTold_131 : decode cX12_areLettersTold 131 = .ok (.goto (-129), 3) := by decide +kernel
theorem dX12_areLettersTold_134 : decode cX12_areLettersTold 134 = .ok (.iconst 1, 1) := by decide +kernel
theorem dX12_areLettersTold_135 : decode cX12_areLettersTold 135 = .ok (.ireturn, 1) := by decide +kernel
theorem dX12_doesBear_0 : decode cX12_doesBear 0 = .ok (.aload_n 0, 1) := by decide +kernel
theorem dX12_doesBear_1 : decode cX12_doesBear 1 = .ok (.getfield 127, 3) := by decide +kernel
theorem dX12_doesBear_4 : decode cX12_doesBear 4 = .ok (.bipush 11, 2) := by decide +kernel
theorem dX12_doesBear_6 : decode cX12_doesBear 6 = .ok (.iconst 3, 1) := by decide +kernel
theorem dX12_doesBear_7 : decode cX12_doesBear 7 = .ok (.iload_n 2, 1) := by decide +kernel
theorem dX12_doesBear_8 : decode cX12_doesBear 8 = .ok (.imul, 1) := by decide +kernel
theorem dX12_doesBear_9 : decode cX12_doesBear 9 = .ok (.iadd, 1) := by decide +kernel
theorem dX12_doesBear_10 : decode cX12_doesBear 10 = .ok (.iaload, 1) := by decide +kernel
theorem dX12_doesBear_11 : decode cX12_doesBear 11 = .ok (.aload_n 0, 1) := by decide +kernel
theorem dX12_doesBear_12 : decode cX12_doesBear 12 = .ok (.getfield 112, 3) := by decide +kernel
theorem dX12_doesBear_15 : decode cX12_doesBear 15 = .ok (.bipush 26, 2) := by decide +kernel
theorem dX12_doesBear_17 : decode cX12_doesBear 17 = .ok (.iconst 3, 1) := by decide +kernel
theorem dX12_doesBear_18 : decode cX12_doesBear 18 = .ok (.iload_n 1, 1) := by decide +kernel
theorem dX12_doesBear_19 : decode cX12_doesBear 19 = .ok (.imul, 1) := by decide +kernel
theorem dX12_doesBear_20 : decode cX12_doesBear 20 = .ok (.iadd, 1) := by decide +kernel
theorem dX12_doesBear_21 : decode cX12_doesBear 21 = .ok (.iaload, 1) := by decide +kernel
theorem dX12_doesBear_22 : decode cX12_doesBear 22 = .ok (.if_icmp .lt 7, 3) := by decide +kernel
theorem dX12_doesBear_25 : decode cX12_doesBear 25 = .ok (.iconst 1, 1) := by decide +kernel
theorem dX12_doesBear_26 : decode cX12_doesBear 26 = .ok (.goto 4, 3) := by decide +kernel
theorem dX12_doesBear_29 : decode cX12_doesBear 29 = .ok (.iconst 0, 1) := by decide +kernel
theorem dX12_doesBear_30 : decode cX12_doesBear 30 = .ok (.ireturn, 1) := by decide +kernel
theorem dX12_sheet_0 : decode cX12_sheet 0 = .ok (.aload_n 0, 1) := by decide +kernel
theorem dX12_sheet_1 : decode cX12_sheet 1 = .ok (.iload_n 1, 1) := by decide +kernel
theorem dX12_sheet_2 : decode cX12_sheet 2 = .ok (.invokevirtual 501, 3) := by decide +kernel
theorem dX12_sheet_5 : decode cX12_sheet 5 = .ok (.ifCond .eq 33, 3) := by decide +kernel
theorem dX12_sheet_8 : decode cX12_sheet 8 = .ok (.iload_n 2, 1) := by decide +kernel
theorem dX12_sheet_9 : decode cX12_sheet 9 = .ok (.i2l, 1) := by decide +kernel
theorem dX12_sheet_10 : decode cX12_sheet 10 = .ok (.lconst 1, 1) := by decide +kernel
theorem dX12_sheet_11 : decode cX12_sheet 11 = .ok (.ldc2_w 578, 3) := by decide +kernel
theorem dX12_sheet_14 : decode cX12_sheet 14 = .ok (.invokestatic 303, 3) := by decide +kernel
theorem dX12_sheet_17 : decode cX12_sheet 17 = .ok (.ifCond .eq 21, 3) := by decide +kernel
theorem dX12_sheet_20 : decode cX12_sheet 20 = .ok (.aload_n 0, 1) := by decide +kernel
theorem dX12_sheet_21 : decode cX12_sheet 21 = .ok (.iload_n 1, 1) := by decide +kernel
theorem dX12_sheet_22 : decode cX12_sheet 22 = .ok (.invokevirtual 504, 3) := by decide +kernel
theorem dX12_sheet_25 : decode cX12_sheet 25 = .ok (.iload_n 2, 1) := by decide +kernel
theorem dX12_sheet_26 : decode cX12_sheet 26 = .ok (.if_icmp .eq 12, 3) := by decide +kernel
theorem dX12_sheet_29 : decode cX12_sheet 29 = .ok (.aload_n 0, 1) := by decide +kernel
theorem dX12_sheet_30 : decode cX12_sheet 30 = .ok (.iload_n 1, 1) := by decide +kernel
theorem dX12_sheet_31 : decode cX12_sheet 31 = .ok (.iload_n 2, 1) := by decide +kernel
theorem dX12_sheet_32 : decode cX12_sheet 32 = .ok (.invokevirtual 580, 3) := by decide +kernel
theorem dX12_sheet_35 : decode cX12_sheet 35 = .ok (.ifCond .eq 15, 3) := by decide +kernel
theorem dX12_sheet_38 : decode cX12_sheet 38 = .ok (.aload_n 0, 1) := by decide +kernel
theorem dX12_sheet_39 : decode cX12_sheet 39 = .ok (.getfield 17, 3) := by decide +kernel
theorem dX12_sheet_42 : decode cX12_sheet 42 = .ok (.iconst 2, 1) := by decide +kernel
theorem dX12_sheet_43 : decode cX12_sheet 43 = .ok (.dup2, 1) := by decide +kernel
theorem dX12_sheet_44 : decode cX12_sheet 44 = .ok (.iaload, 1) := by decide +kernel
theorem dX12_sheet_45 : decode cX12_sheet 45 = .ok (.iconst 1, 1) := by decide +kernel
theorem dX12_sheet_46 : decode cX12_sheet 46 = .ok (.iadd, 1) := by decide +kernel
theorem dX12_sheet_47 : decode cX12_sheet 47 = .ok (.iastore, 1) := by decide +kernel
theorem dX12_sheet_48 : decode cX12_sheet 48 = .ok (.iconst 0, 1) := by decide +kernel
theorem dX12_sheet_49 : decode cX12_sheet 49 = .ok (.ireturn, 1) := by decide +kernel
theorem dX12_sheet_50 : decode cX12_sheet 50 = .ok (.aload_n 0, 1) := by decide +kernel
theorem dX12_sheet_51 : decode cX12_sheet 51 = .ok (.invokevirtual 575, 3) := by decide +kernel
theorem dX12_sheet_54 : decode cX12_sheet 54 = .ok (.aload_n 0, 1) := by decide +kernel
theorem dX12_sheet_55 : decode cX12_sheet 55 = .ok (.getfield 142, 3) := by decide +kernel
theorem dX12_sheet_58 : decode cX12_sheet 58 = .ok (.bipush 8, 2) := by decide +kernel
theorem dX12_sheet_60 : decode cX12_sheet 60 = .ok (.iconst 3, 1) := by decide +kernel
theorem dX12_sheet_61 : decode cX12_sheet 61 = .ok (.iload_n 1, 1) := by decide +kernel
theorem dX12_sheet_62 : decode cX12_sheet 62 = .ok (.imul, 1) := by decide +kernel
theorem dX12_sheet_63 : decode cX12_sheet 63 = .ok (.iadd, 1) := by decide +kernel
theorem dX12_sheet_64 : decode cX12_sheet 64 = .ok (.iconst 1, 1) := by decide +kernel
theorem dX12_sheet_65 : decode cX12_sheet 65 = .ok (.iadd, 1) := by decide +kernel
theorem dX12_sheet_66 : decode cX12_sheet 66 = .ok (.iload_n 2, 1) := by decide +kernel
theorem dX12_sheet_67 : decode cX12_sheet 67 = .ok (.iastore, 1) := by decide +kernel
theorem dX12_sheet_68 : decode cX12_sheet 68 = .ok (.iconst 1, 1) := by decide +kernel
theorem dX12_sheet_69 : decode cX12_sheet 69 = .ok (.ireturn, 1) := by decide +kernel
theorem dX12_leftOf_0 : decode cX12_leftOf 0 = .ok (.aload_n 0, 1) := by decide +kernel
theorem dX12_leftOf_1 : decode cX12_leftOf 1 = .ok (.getfield 142, 3) := by decide +kernel
theorem dX12_leftOf_4 : decode cX12_leftOf 4 = .ok (.iconst 1, 1) := by decide +kernel
theorem dX12_leftOf_5 : decode cX12_leftOf 5 = .ok (.iload_n 1, 1) := by decide +kernel
theorem dX12_leftOf_6 : decode cX12_leftOf 6 = .ok (.iadd, 1) := by decide +kernel
theorem dX12_leftOf_7 : decode cX12_leftOf 7 = .ok (.iaload, 1) := by decide +kernel
theorem dX12_leftOf_8 : decode cX12_leftOf 8 = .ok (.ireturn, 1) := by decide +kernel
theorem dX12_qFact_0 : decode cX12_qFact 0 = .ok (.aload_n 0, 1) := by decide +kernel
theorem dX12_qFact_1 : decode cX12_qFact 1 = .ok (.aload_n 0, 1) := by decide +kernel
theorem dX12_qFact_2 : decode cX12_qFact 2 = .ok (.getfield 206, 3) := by decide +kernel
theorem dX12_qFact_5 : decode cX12_qFact 5 = .ok (.invokevirtual 290, 3) := by decide +kernel
theorem dX12_qFact_8 : decode cX12_qFact 8 = .ok (.ifCond .eq 10, 3) := by decide +kernel
theorem dX12_qFact_11 : decode cX12_qFact 11 = .ok (.aload_n 0, 1) := by decide +kernel
theorem dX12_qFact_12 : decode cX12_qFact 12 = .ok (.bipush 13, 2) := by decide +kernel
theorem dX12_qFact_14 : decode cX12_qFact 14 = .ok (.invokevirtual 594, 3) := by decide +kernel
theorem dX12_qFact_17 : decode cX12_qFact 17 = .ok (.return_, 1) := by decide +kernel
theorem dX12_qFact_18 : decode cX12_qFact 18 = .ok (.aload_n 0, 1) := by decide +kernel
theorem dX12_qFact_19 : decode cX12_qFact 19 = .ok (.invokevirtual 364, 3) := by decide +kernel
theorem dX12_qFact_22 : decode cX12_qFact 22 = .ok (.aload_n 0, 1) := by decide +kernel
theorem dX12_qFact_23 : decode cX12_qFact 23 = .ok (.getfield 263, 3) := by decide +kernel
theorem dX12_qFact_26 : decode cX12_qFact 26 = .ok (.ifCond .eq 4, 3) := by decide +kernel
theorem dX12_qFact_29 : decode cX12_qFact 29 = .ok (.return_, 1) := by decide +kernel
theorem dX12_qFact_30 : decode cX12_qFact 30 = .ok (.aload_n 0, 1) := by decide +kernel
theorem dX12_qFact_31 : decode cX12_qFact 31 = .ok (.invokevirtual 275, 3) := by decide +kernel
theorem dX12_qFact_34 : decode cX12_qFact 34 = .ok (.istore_n 1, 1) := by decide +kernel
theorem dX12_qFact_35 : decode cX12_qFact 35 = .ok (.iload_n 1, 1) := by decide +kernel
theorem dX12_qFact_36 : decode cX12_qFact 36 = .ok (.bipush 60, 2) := by decide +kernel
theorem dX12_qFact_38 : decode cX12_qFact 38 = .ok (.if_icmp .eq 25, 3) := by decide +kernel
theorem dX12_qFact_41 : decode cX12_qFact 41 = .ok (.iload_n 1, 1) := by decide +kernel
theorem dX12_qFact_42 : decode cX12_qFact 42 = .ok (.bipush 62, 2) := by decide +kernel
theorem dX12_qFact_44 : decode cX12_qFact 44 = .ok (.if_icmp .eq 19, 3) := by decide +kernel
theorem dX12_qFact_47 : decode cX12_qFact 47 = .ok (.iload_n 1, 1) := by decide +kernel
theorem dX12_qFact_48 : decode cX12_qFact 48 = .ok (.bipush 61, 2) := by decide +kernel
theorem dX12_qFact_50 : decode cX12_qFact 50 = .ok (.if_icmp .eq 13, 3) := by decide +kernel
theorem dX12_qFact_53 : decode cX12_qFact 53 = .ok (.aload_n 0, 1) := by decide +kernel
theorem dX12_qFact_54 : decode cX12_qFact 54 = .ok (.iconst 1, 1) := by decide +kernel
theorem dX12_qFact_55 : decode cX12_qFact 55 = .ok (.aload_n 0, 1) := by decide +kernel
theorem dX12_qFact_56 : decode cX12_qFact 56 = .ok (.getfield 269, 3) := by decide +kernel
theorem dX12_qFact_59 : decode cX12_qFact 59 = .ok (.invokevirtual 293, 3) := by decide +kernel
theorem dX12_qFact_62 : decode cX12_qFact 62 = .ok (.return_, 1) := by decide +kernel
theorem dX12_qFact_63 : decode cX12_qFact 63 = .ok (.aload_n 0, 1) := by decide +kernel
theorem dX12_qFact_64 : decode cX12_qFact 64 = .ok (.dup, 1) := by decide +kernel
theorem dX12_qFact_65 : decode cX12_qFact 65 = .ok (.getfield 269, 3) := by decide +kernel
theorem dX12_qFact_68 : decode cX12_qFact 68 = .ok (.iconst 1, 1) := by decide +kernel
theorem dX12_qFact_69 : decode cX12_qFact 69 = .ok (.iadd, 1) := by decide +kernel
theorem dX12_qFact_70 : decode cX12_qFact 70 = .ok (.putfield 269, 3) := by decide +kernel
theorem dX12_qFact_73 : decode cX12_qFact 73 = .ok (.aload_n 0, 1) := by decide +kernel
theorem dX12_qFact_74 : decode cX12_qFact 74 = .ok (.invokevirtual 364, 3) := by decide +kernel
theorem dX12_qFact_77 : decode cX12_qFact 77 = .ok (.aload_n 0, 1) := by decide +kernel
theorem dX12_qFact_78 : decode cX12_qFact 78 = .ok (.iload_n 1, 1) := by decide +kernel
theorem dX12_qFact_79 : decode cX12_qFact 79 = .ok (.bipush 60, 2) := by decide +kernel
theorem dX12_qFact_81 : decode cX12_qFact 81 = .ok (.if_icmp .ne 8, 3) := by decide +kernel
theorem dX12_qFact_84 : decode cX12_qFact 84 = .ok (.bipush 7, 2) := by decide +kernel
theorem dX12_qFact_86 : decode cX12_qFact 86 = .ok (.goto 16, 3) := by decide +kernel
theorem dX12_qFact_89 : decode cX12_qFact 89 = .ok (.iload_n 1, 1) := by decide +kernel
theorem dX12_qFact_90 : decode cX12_qFact 90 = .ok (.bipush 62, 2) := by decide +kernel
theorem dX12_qFact_92 : decode cX12_qFact 92 = .ok (.if_icmp .ne 8, 3) := by decide +kernel
theorem dX12_qFact_95 : decode cX12_qFact 95 = .ok (.bipush 8, 2) := by decide +kernel
theorem dX12_qFact_97 : decode cX12_qFact 97 = .ok (.goto 5, 3) := by decide +kernel
theorem dX12_qFact_100 : decode cX12_qFact 100 = .ok (.bipush 9, 2) := by decide +kernel
theorem dX12_qFact_102 : decode cX12_qFact 102 = .ok (.invokevirtual 594, 3) := by decide +kernel
theorem dX12_qFact_105 : decode cX12_qFact 105 = .ok (.return_, 1) := by decide +kernel
theorem dX12_qKind_0 : decode cX12_qKind 0 = .ok (.aload_n 0, 1) := by decide +kernel
theorem dX12_qKind_1 : decode cX12_qKind 1 = .ok (.aload_n 0, 1) := by decide +kernel
theorem dX12_qKind_2 : decode cX12_qKind 2 = .ok (.getfield 179, 3) := by decide +kernel
theorem dX12_qKind_5 : decode cX12_qKind 5 = .ok (.invokevirtual 290, 3) := by decide +kernel
theorem dX12_qKind_8 : decode cX12_qKind 8 = .ok (.ifCond .eq 7, 3) := by decide +kernel
theorem dX12_qKind_11 : decode cX12_qKind 11 = .ok (.iconst 0, 1) := by decide +kernel
theorem dX12_qKind_12 : decode cX12_qKind 12 = .ok (.goto 64, 3) := by decide +kernel
theorem dX12_qKind_15 : decode cX12_qKind 15 = .ok (.aload_n 0, 1) := by decide +kernel
theorem dX12_qKind_16 : decode cX12_qKind 16 = .ok (.aload_n 0, 1) := by decide +kernel
theorem dX12_qKind_17 : decode cX12_qKind 17 = .ok (.getfield 182, 3) := by decide +kernel
theorem dX12_qKind_20 : decode cX12_qKind 20 = .ok (.invokevirtual 290, 3) := by decide +kernel
theorem dX12_qKind_23 : decode cX12_qKind 23 = .ok (.ifCond .eq 7, 3) := by decide +kernel
theorem dX12_qKind_26 : decode cX12_qKind 26 = .ok (.iconst 1, 1) := by decide +kernel
theorem dX12_qKind_27 : decode cX12_qKind 27 = .ok (.goto 49, 3) := by decide +kernel
theorem dX12_qKind_30 : decode cX12_qKind 30 = .ok (.aload_n 0, 1) := by decide +kernel
theorem dX12_qKind_31 : decode cX12_qKind 31 = .ok (.aload_n 0, 1) := by decide +kernel
theorem dX12_qKind_32 : decode cX12_qKind 32 = .ok (.getfield 185, 3) := by decide +kernel
theorem dX12_qKind_35 : decode cX12_qKind 35 = .ok (.invokevirtual 290, 3) := by decide +kernel
theorem dX12_qKind_38 : decode cX12_qKind 38 = .ok (.ifCond .eq 7, 3) := by decide +kernel
theorem dX12_qKind_41 : decode cX12_qKind 41 = .ok (.iconst 2, 1) := by decide +kernel
theorem dX12_qKind_42 : decode cX12_qKind 42 = .ok (.goto 34, 3) := by decide +kernel
theorem dX12_qKind_45 : decode cX12_qKind 45 = .ok (.aload_n 0, 1) := by decide +kernel
theorem dX12_qKind_46 : decode cX12_qKind 46 = .ok (.aload_n 0, 1) := by decide +kernel
theorem dX12_qKind_47 : decode cX12_qKind 47 = .ok (.getfield 188, 3) := by decide +kernel
theorem dX12_qKind_50 : decode cX12_qKind 50 = .ok (.invokevirtual 290, 3) := by decide +kernel
theorem dX12_qKind_53 : decode cX12_qKind 53 = .ok (.ifCond .eq 7, 3) := by decide +kernel
theorem dX12_qKind_56 : decode cX12_qKind 56 = .ok (.iconst 3, 1) := by decide +kernel
theorem dX12_qKind_57 : decode cX12_qKind 57 = .ok (.goto 19, 3) := by decide +kernel
theorem dX12_qKind_60 : decode cX12_qKind 60 = .ok (.aload_n 0, 1) := by decide +kernel
theorem dX12_qKind_61 : decode cX12_qKind 61 = .ok (.aload_n 0, 1) := by decide +kernel
theorem dX12_qKind_62 : decode cX12_qKind 62 = .ok (.getfield 191, 3) := by decide +kernel
theorem dX12_qKind_65 : decode cX12_qKind 65 = .ok (.invokevirtual 290, 3) := by decide +kernel
theorem dX12_qKind_68 : decode cX12_qKind 68 = .ok (.ifCond .eq 7, 3) := by decide +kernel
theorem dX12_qKind_71 : decode cX12_qKind 71 = .ok (.iconst 4, 1) := by decide +kernel
theorem dX12_qKind_72 : decode cX12_qKind 72 = .ok (.goto 4, 3) := by decide +kernel
theorem dX12_qKind_75 : decode cX12_qKind 75 = .ok (.iconst 5, 1) := by decide +kernel
theorem dX12_qKind_76 : decode cX12_qKind 76 = .ok (.istore_n 1, 1) := by decide +kernel
theorem dX12_qKind_77 : decode cX12_qKind 77 = .ok (.iload_n 1, 1) := by decide +kernel
theorem dX12_qKind_78 : decode cX12_qKind 78 = .ok (.iconst 5, 1) := by decide +kernel
theorem dX12_qKind_79 : decode cX12_qKind 79 = .ok (.if_icmp .ne 11, 3) := by decide +kernel
theorem dX12_qKind_82 : decode cX12_qKind 82 = .ok (.aload_n 0, 1) := by decide +kernel
theorem dX12_qKind_83 : decode cX12_qKind 83 = .ok (.aload_n 0, 1) := by decide +kernel
theorem dX12_qKind_84 : decode cX12_qKind 84 = .ok (.getfield 194, 3) := by decide +kernel
theorem dX12_qKind_87 : decode cX12_qKind 87 = .ok (.invokevirtual 337, 3) := by decide +kernel
theorem dX12_qKind_90 : decode cX12_qKind 90 = .ok (.iload_n 1, 1) := by decide +kernel
theorem dX12_qKind_91 : decode cX12_qKind 91 = .ok (.ireturn, 1) := by decide +kernel
theorem dX12_qDropsToBracket_0 : decode cX12_qDropsToBracket 0 = .ok (.aload_n 0, 1) := by decide +kernel
theorem dX12_qDropsToBracket_1 : decode cX12_qDropsToBracket 1 = .ok (.getfield 355, 3) := by decide +kernel
theorem dX12_qDropsToBracket_4 : decode cX12_qDropsToBracket 4 = .ok (.aload_n 0, 1) := by decide +kernel
theorem dX12_qDropsToBracket_5 : decode cX12_qDropsToBracket 5 = .ok (.getfield 361, 3) := by decide +kernel
theorem dX12_qDropsToBracket_8 : decode cX12_qDropsToBracket 8 = .ok (.if_icmp .le 27, 3) := by decide +kernel
theorem dX12_qDropsToBracket_11 : decode cX12_qDropsToBracket 11 = .ok (.aload_n 0, 1) := by decide +kernel
theorem dX12_qDropsToBracket_12 : decode cX12_qDropsToBracket 12 = .ok (.getfield 251, 3) := by decide +kernel
theorem dX12_qDropsToBracket_15 : decode cX12_qDropsToBracket 15 = .ok (.aload_n 0, 1) := by decide +kernel
theorem dX12_qDropsToBracket_16 : decode cX12_qDropsToBracket 16 = .ok (.getfield 355, 3) := by decide +kernel
theorem dX12_qDropsToBracket_19 : decode cX12_qDropsToBracket 19 = .ok (.iconst 1, 1) := by decide +kernel
theorem dX12_qDropsToBracket_20 : decode cX12_qDropsToBracket 20 = .ok (.isub, 1) := by decide +kernel
theorem dX12_qDropsToBracket_21 : decode cX12_qDropsToBracket 21 = .ok (.iaload, 1) := by decide +kernel
theorem dX12_qDropsToBracket_22 : decode cX12_qDropsToBracket 22 = .ok (.invokestatic 597, 3) := by decide +kernel
theorem dX12_qDropsToBracket_25 : decode cX12_qDropsToBracket 25 = .ok (.ifCond .ne 10, 3) := by decide +kernel
theorem dX12_qDropsToBracket_28 : decode cX12_qDropsToBracket 28 = .ok (.aload_n 0, 1) := by decide +kernel
theorem dX12_qDropsToBracket_29 : decode cX12_qDropsToBracket 29 = .ok (.invokevirtual 600, 3) := by decide +kernel
theorem dX12_qDropsToBracket_32 : decode cX12_qDropsToBracket 32 = .ok (.goto (-32), 3) := by decide +kernel
theorem dX12_qDropsToBracket_35 : decode cX12_qDropsToBracket 35 = .ok (.return_, 1) := by decide +kernel
theorem dX12_isLetter_0 : decode cX12_isLetter 0 = .ok (.iload_n 0, 1) := by decide +kernel
theorem dX12_isLetter_1 : decode cX12_isLetter 1 = .ok (.bipush 97, 2) := by decide +kernel
theorem dX12_isLetter_3 : decode cX12_isLetter 3 = .ok (.if_icmp .lt 13, 3) := by decide +kernel
theorem dX12_isLetter_6 : decode cX12_isLetter 6 = .ok (.iload_n 0, 1) := by decide +kernel
theorem dX12_isLetter_7 : decode cX12_isLetter 7 = .ok (.bipush 122, 2) := by decide +kernel
theorem dX12_isLetter_9 : decode cX12_isLetter 9 = .ok (.if_icmp .gt 7, 3) := by decide +kernel
theorem dX12_isLetter_12 : decode cX12_isLetter 12 = .ok (.iconst 1, 1) := by decide +kernel
theorem dX12_isLetter_13 : decode cX12_isLetter 13 = .ok (.goto 4, 3) := by decide +kernel
theorem dX12_isLetter_16 : decode cX12_isLetter 16 = .ok (.iconst 0, 1) := by decide +kernel
theorem dX12_isLetter_17 : decode cX12_isLetter 17 = .ok (.ireturn, 1) := by decide +kernel
theorem dX12_on_0 : decode cX12_on 0 = .ok (.aload_n 0, 1) := by decide +kernel
theorem dX12_on_1 : decode cX12_on 1 = .ok (.getfield 260, 3) := by decide +kernel
theorem dX12_on_4 : decode cX12_on 4 = .ok (.istore_n 1, 1) := by decide +kernel
theorem dX12_on_5 : decode cX12_on 5 = .ok (.aload_n 0, 1) := by decide +kernel
theorem dX12_on_6 : decode cX12_on 6 = .ok (.iconst 0, 1) := by decide +kernel
theorem dX12_on_7 : decode cX12_on 7 = .ok (.putfield 260, 3) := by decide +kernel
theorem dX12_on_10 : decode cX12_on 10 = .ok (.aload_n 0, 1) := by decide +kernel
theorem dX12_on_11 : decode cX12_on 11 = .ok (.iload_n 1, 1) := by decide +kernel
theorem dX12_on_12 : decode cX12_on 12 = .ok (.invokevirtual 699, 3) := by decide +kernel
theorem dX12_on_15 : decode cX12_on 15 = .ok (.ifCond .ne 15, 3) := by decide +kernel
theorem dX12_on_18 : decode cX12_on 18 = .ok (.aload_n 0, 1) := by decide +kernel
theorem dX12_on_19 : decode cX12_on 19 = .ok (.getfield 17, 3) := by decide +kernel
theorem dX12_on_22 : decode cX12_on 22 = .ok (.iconst 5, 1) := by decide +kernel
theorem dX12_on_23 : decode cX12_on 23 = .ok (.dup2, 1) := by decide +kernel
theorem dX12_on_24 : decode cX12_on 24 = .ok (.iaload, 1) := by decide +kernel
theorem dX12_on_25 : decode cX12_on 25 = .ok (.iconst 1, 1) := by decide +kernel
theorem dX12_on_26 : decode cX12_on 26 = .ok (.iadd, 1) := by decide +kernel
theorem dX12_on_27 : decode cX12_on 27 = .ok (.iastore, 1) := by decide +kernel
theorem dX12_on_28 : decode cX12_on 28 = .ok (.iconst 0, 1) := by decide +kernel
theorem dX12_on_29 : decode cX12_on 29 = .ok (.ireturn, 1) := by decide +kernel
theorem dX12_on_30 : decode cX12_on 30 = .ok (.aload_n 0, 1) := by decide +kernel
theorem dX12_on_31 : decode cX12_on 31 = .ok (.getfield 142, 3) := by decide +kernel
theorem dX12_on_34 : decode cX12_on 34 = .ok (.iconst 0, 1) := by decide +kernel
theorem dX12_on_35 : decode cX12_on 35 = .ok (.sipush 256, 3) := by decide +kernel
theorem dX12_on_38 : decode cX12_on 38 = .ok (.aload_n 0, 1) := by decide +kernel
theorem dX12_on_39 : decode cX12_on 39 = .ok (.getfield 7, 3) := by decide +kernel
theorem dX12_on_42 : decode cX12_on 42 = .ok (.iconst 0, 1) := by decide +kernel
theorem dX12_on_43 : decode cX12_on 43 = .ok (.iaload, 1) := by decide +kernel
theorem dX12_on_44 : decode cX12_on 44 = .ok (.imul, 1) := by decide +kernel
theorem dX12_on_45 : decode cX12_on 45 = .ok (.aload_n 0, 1) := by decide +kernel
theorem dX12_on_46 : decode cX12_on 46 = .ok (.getfield 7, 3) := by decide +kernel
theorem dX12_on_49 : decode cX12_on 49 = .ok (.iconst 1, 1) := by decide +kernel
theorem dX12_on_50 : decode cX12_on 50 = .ok (.iaload, 1) := by decide +kernel
theorem dX12_on_51 : decode cX12_on 51 = .ok (.iadd, 1) := by decide +kernel
theorem dX12_on_52 : decode cX12_on 52 = .ok (.iastore, 1) := by decide +kernel
theorem dX12_on_53 : decode cX12_on 53 = .ok (.iconst 2, 1) := by decide +kernel
theorem dX12_on_54 : decode cX12_on 54 = .ok (.istore_n 2, 1) := by decide +kernel
theorem dX12_on_55 : decode cX12_on 55 = .ok (.iconst 0, 1) := by decide +kernel
theorem dX12_on_56 : decode cX12_on 56 = .ok (.istore_n 3, 1) := by decide +kernel
theorem dX12_on_57 : decode cX12_on 57 = .ok (.iload_n 3, 1) := by decide +kernel
theorem dX12_on_58 : decode cX12_on 58 = .ok (.aload_n 0, 1) := by decide +kernel
theorem dX12_on_59 : decode cX12_on 59 = .ok (.invokevirtual 422, 3) := by decide +kernel
theorem dX12_on_62 : decode cX12_on 62 = .ok (.if_icmp .ge 26, 3) := by decide +kernel
theorem dX12_on_65 : decode cX12_on 65 = .ok (.aload_n 0, 1) := by decide +kernel
theorem dX12_on_66 : decode cX12_on 66 = .ok (.getfield 142, 3) := by decide +kernel
theorem dX12_on_69 : decode cX12_on 69 = .ok (.iconst 1, 1) := by decide +kernel
theorem dX12_on_70 : decode cX12_on 70 = .ok (.iload_n 3, 1) := by decide +kernel
theorem dX12_on_71 : decode cX12_on 71 = .ok (.iadd, 1) := by decide +kernel
theorem dX12_on_72 : decode cX12_on 72 = .ok (.aload_n 0, 1) := by decide +kernel
theorem dX12_on_73 : decode cX12_on 73 = .ok (.getfield 7, 3) := by decide +kernel
theorem dX12_on_76 : decode cX12_on 76 = .ok (.iload_n 2, 1) := by decide +kernel
theorem dX12_on_77 : decode cX12_on 77 = .ok (.iaload, 1) := by decide +kernel
theorem dX12_on_78 : decode cX12_on 78 = .ok (.iastore, 1) := by decide +kernel
theorem dX12_on_79 : decode cX12_on 79 = .ok (.iinc 2 1, 3) := by decide +kernel
theorem dX12_on_82 : decode cX12_on 82 = .ok (.iinc 3 1, 3) := by decide +kernel
theorem dX12_on_85 : decode cX12_on 85 = .ok (.goto (-28), 3) := by decide +kernel
theorem dX12_on_88 : decode cX12_on 88 = .ok (.iconst 0, 1) := by decide +kernel
theorem dX12_on_89 : decode cX12_on 89 = .ok (.istore_n 3, 1) := by decide +kernel
theorem dX12_on_90 : decode cX12_on 90 = .ok (.iload_n 3, 1) := by decide +kernel
theorem dX12_on_91 : decode cX12_on 91 = .ok (.aload_n 0, 1) := by decide +kernel
theorem dX12_on_92 : decode cX12_on 92 = .ok (.invokevirtual 410, 3) := by decide +kernel
theorem dX12_on_95 : decode cX12_on 95 = .ok (.if_icmp .ge 26, 3) := by decide +kernel
theorem dX12_on_98 : decode cX12_on 98 = .ok (.aload_n 0, 1) := by decide +kernel
theorem dX12_on_99 : decode cX12_on 99 = .ok (.getfield 142, 3) := by decide +kernel
theorem dX12_on_102 : decode cX12_on 102 = .ok (.iconst 4, 1) := by decide +kernel
theorem dX12_on_103 : decode cX12_on 103 = .ok (.iload_n 3, 1) := by decide +kernel
theorem dX12_on_104 : decode cX12_on 104 = .ok (.iadd, 1) := by decide +kernel
theorem dX12_on_105 : decode cX12_on 105 = .ok (.aload_n 0, 1) := by decide +kernel
theorem dX12_on_106 : decode cX12_on 106 = .ok (.getfield 7, 3) := by decide +kernel
theorem dX12_on_109 : decode cX12_on 109 = .ok (.iload_n 2, 1) := by decide +kernel
theorem dX12_on_110 : decode cX12_on 110 = .ok (.iaload, 1) := by decide +kernel
theorem dX12_on_111 : decode cX12_on 111 = .ok (.iastore, 1) := by decide +kernel
theorem dX12_on_112 : decode cX12_on 112 = .ok (.iinc 2 1, 3) := by decide +kernel
theorem dX12_on_115 : decode cX12_on 115 = .ok (.iinc 3 1, 3) := by decide +kernel
theorem dX12_on_118 : decode cX12_on 118 = .ok (.goto (-28), 3) := by decide +kernel
theorem dX12_on_121 : decode cX12_on 121 = .ok (.iconst 0, 1) := by decide +kernel
theorem dX12_on_122 : decode cX12_on 122 = .ok (.istore_n 3, 1) := by decide +kernel
theorem dX12_on_123 : decode cX12_on 123 = .ok (.iload_n 3, 1) := by decide +kernel
theorem dX12_on_124 : decode cX12_on 124 = .ok (.iconst 3, 1) := by decide +kernel
theorem dX12_on_125 : decode cX12_on 125 = .ok (.aload_n 0, 1) := by decide +kernel
theorem dX12_on_126 : decode cX12_on 126 = .ok (.invokevirtual 419, 3) := by decide +kernel
theorem dX12_on_129 : decode cX12_on 129 = .ok (.imul, 1) := by decide +kernel
theorem dX12_on_130 : decode cX12_on 130 = .ok (.if_icmp .ge 26, 3) := by decide +kernel
theorem dX12_on_133 : decode cX12_on 133 = .ok (.aload_n 0, 1) := by decide +kernel
theorem dX12_on_134 : decode cX12_on 134 = .ok (.getfield 142, 3) := by decide +kernel
theorem dX12_on_137 : decode cX12_on 137 = .ok (.bipush 8, 2) := by decide +kernel
theorem dX12_on_139 : decode cX12_on 139 = .ok (.iload_n 3, 1) := by decide +kernel
theorem dX12_on_140 : decode cX12_on 140 = .ok (.iadd, 1) := by decide +kernel
theorem dX12_on_141 : decode cX12_on 141 = .ok (.aload_n 0, 1) := by decide +kernel
theorem dX12_on_142 : decode cX12_on 142 = .ok (.getfield 7, 3) := by decide +kernel
theorem dX12_on_145 : decode cX12_on 145 = .ok (.iload_n 2, 1) := by decide +kernel
theorem dX12_on_146 : decode cX12_on 146 = .ok (.iload_n 3, 1) := by decide +kernel
theorem dX12_on_147 : decode cX12_on 147 = .ok (.iadd, 1) := by decide +kernel
theorem dX12_on_148 : decode cX12_on 148 = .ok (.iaload, 1) := by decide +kernel
theorem dX12_on_149 : decode cX12_on 149 = .ok (.iastore, 1) := by decide +kernel
theorem dX12_on_150 : decode cX12_on 150 = .ok (.iinc 3 1, 3) := by decide +kernel
theorem dX12_on_153 : decode cX12_on 153 = .ok (.goto (-30), 3) := by decide +kernel
theorem dX12_on_156 : decode cX12_on 156 = .ok (.aload_n 0, 1) := by decide +kernel
theorem dX12_on_157 : decode cX12_on 157 = .ok (.iconst 0, 1) := by decide +kernel
theorem dX12_on_158 : decode cX12_on 158 = .ok (.putfield 413, 3) := by decide +kernel
theorem dX12_on_161 : decode cX12_on 161 = .ok (.iconst 1, 1) := by decide +kernel
theorem dX12_on_162 : decode cX12_on 162 = .ok (.ireturn, 1) := by decide +kernel
theorem dX12_mostAlike_0 : decode cX12_mostAlike 0 = .ok (.iconst 0, 1) := by decide +kernel
theorem dX12_mostAlike_1 : decode cX12_mostAlike 1 = .ok (.istore_n 3, 1) := by decide +kernel
theorem dX12_mostAlike_2 : decode cX12_mostAlike 2 = .ok (.iconst 0, 1) := by decide +kernel
theorem dX12_mostAlike_3 : decode cX12_mostAlike 3 = .ok (.istore 4, 2) := by decide +kernel
theorem dX12_mostAlike_5 : decode cX12_mostAlike 5 = .ok (.iload 4, 2) := by decide +kernel
theorem dX12_mostAlike_7 : decode cX12_mostAlike 7 = .ok (.aload_n 0, 1) := by decide +kernel
theorem dX12_mostAlike_8 : decode cX12_mostAlike 8 = .ok (.invokevirtual 422, 3) := by decide +kernel
theorem dX12_mostAlike_11 : decode cX12_mostAlike 11 = .ok (.if_icmp .ge 79, 3) := by decide +kernel
theorem dX12_mostAlike_14 : decode cX12_mostAlike 14 = .ok (.iconst 0, 1) := by decide +kernel
theorem dX12_mostAlike_15 : decode cX12_mostAlike 15 = .ok (.istore 5, 2) := by decide +kernel
theorem dX12_mostAlike_17 : decode cX12_mostAlike 17 = .ok (.iconst 0, 1) := by decide +kernel
theorem dX12_mostAlike_18 : decode cX12_mostAlike 18 = .ok (.istore 6, 2) := by decide +kernel
theorem dX12_mostAlike_20 : decode cX12_mostAlike 20 = .ok (.iload 6, 2) := by decide +kernel
theorem dX12_mostAlike_22 : decode cX12_mostAlike 22 = .ok (.aload_n 0, 1) := by decide +kernel
theorem dX12_mostAlike_23 : decode cX12_mostAlike 23 = .ok (.invokevirtual 422, 3) := by decide +kernel
theorem dX12_mostAlike_26 : decode cX12_mostAlike 26 = .ok (.if_icmp .ge 49, 3) := by decide +kernel
theorem dX12_mostAlike_29 : decode cX12_mostAlike 29 = .ok (.iload_n 2, 1) := by decide +kernel
theorem dX12_mostAlike_30 : decode cX12_mostAlike 30 = .ok (.iload 4, 2) := by decide +kernel
theorem dX12_mostAlike_32 : decode cX12_mostAlike 32 = .ok (.ishr, 1) := by decide +kernel
theorem dX12_mostAlike_33 : decode cX12_mostAlike 33 = .ok (.iconst 1, 1) := by decide +kernel
theorem dX12_mostAlike_34 : decode cX12_mostAlike 34 = .ok (.iand, 1) := by decide +kernel
theorem dX12_mostAlike_35 : decode cX12_mostAlike 35 = .ok (.iconst 1, 1) := by decide +kernel
theorem dX12_mostAlike_36 : decode cX12_mostAlike 36 = .ok (.if_icmp .ne 33, 3) := by decide +kernel
theorem dX12_mostAlike_39 : decode cX12_mostAlike 39 = .ok (.iload_n 2, 1) := by decide +kernel
theorem dX12_mostAlike_40 : decode cX12_mostAlike 40 = .ok (.iload 6, 2) := by decide +kernel
theorem dX12_mostAlike_42 : decode cX12_mostAlike 42 = .ok (.ishr, 1) := by decide +kernel
theorem dX12_mostAlike_43 : decode cX12_mostAlike 43 = .ok (.iconst 1, 1) := by decide +kernel
theorem dX12_mostAlike_44 : decode cX12_mostAlike 44 = .ok (.iand, 1) := by decide +kernel
theorem dX12_mostAlike_45 : decode cX12_mostAlike 45 = .ok (.iconst 1, 1) := by decide +kernel
theorem dX12_mostAlike_46 : decode cX12_mostAlike 46 = .ok (.if_icmp .ne 23, 3) := by decide +kernel
theorem dX12_mostAlike_49 : decode cX12_mostAlike 49 = .ok (.aload_n 0, 1) := by decide +kernel
theorem dX12_mostAlike_50 : decode cX12_mostAlike 50 = .ok (.iload_n 1, 1) := by decide +kernel
theorem dX12_mostAlike_51 : decode cX12_mostAlike 51 = .ok (.iload 6, 2) := by decide +kernel
theorem dX12_mostAlike_53 : decode cX12_mostAlike 53 = .ok (.invokevirtual 461, 3) := by decide +kernel
theorem dX12_mostAlike_56 : decode cX12_mostAlike 56 = .ok (.aload_n 0, 1) := by decide +kernel
theorem dX12_mostAlike_57 : decode cX12_mostAlike 57 = .ok (.iload_n 1, 1) := by decide +kernel
theorem dX12_mostAlike_58 : decode cX12_mostAlike 58 = .ok (.iload 4, 2) := by decide +kernel
theorem dX12_mostAlike_60 : decode cX12_mostAlike 60 = .ok (.invokevirtual 461, 3) := by decide +kernel
theorem dX12_mostAlike_63 : decode cX12_mostAlike 63 = .ok (.if_icmp .ne 6, 3) := by decide +kernel
theorem dX12_mostAlike_66 : decode cX12_mostAlike 66 = .ok (.iinc 5 1, 3) := by decide +kernel
theorem dX12_mostAlike_69 : decode cX12_mostAlike 69 = .ok (.iinc 6 1, 3) := by decide +kernel
theorem dX12_mostAlike_72 : decode cX12_mostAlike 72 = .ok (.goto (-52), 3) := by decide +kernel
theorem dX12_mostAlike_75 : decode cX12_mostAlike 75 = .ok (.iload 5, 2) := by decide +kernel
theorem dX12_mostAlike_77 : decode cX12_mostAlike 77 = .ok (.iload_n 3, 1) := by decide +kernel
theorem dX12_mostAlike_78 : decode cX12_mostAlike 78 = .ok (.if_icmp .le 6, 3) := by decide +kernel
theorem dX12_mostAlike_81 : decode cX12_mostAlike 81 = .ok (.iload 5, 2) := by decide +kernel
theorem dX12_mostAlike_83 : decode cX12_mostAlike 83 = .ok (.istore_n 3, 1) := by decide +kernel
theorem dX12_mostAlike_84 : decode cX12_mostAlike 84 = .ok (.iinc 4 1, 3) := by decide +kernel
theorem dX12_mostAlike_87 : decode cX12_mostAlike 87 = .ok (.goto (-82), 3) := by decide +kernel
theorem dX12_mostAlike_90 : decode cX12_mostAlike 90 = .ok (.iload_n 3, 1) := by decide +kernel
theorem dX12_mostAlike_91 : decode cX12_mostAlike 91 = .ok (.ireturn, 1) := by decide +kernel
theorem dX12_shared_0 : decode cX12_shared 0 = .ok (.iload_n 1, 1) := by decide +kernel
theorem dX12_shared_1 : decode cX12_shared 1 = .ok (.iconst (-1), 1) := by decide +kernel
theorem dX12_shared_2 : decode cX12_shared 2 = .ok (.if_icmp .eq 13, 3) := by decide +kernel
theorem dX12_shared_5 : decode cX12_shared 5 = .ok (.aload_n 0, 1) := by decide +kernel
theorem dX12_shared_6 : decode cX12_shared 6 = .ok (.iload_n 1, 1) := by decide +kernel
theorem dX12_shared_7 : decode cX12_shared 7 = .ok (.invokevirtual 501, 3) := by decide +kernel
theorem dX12_shared_10 : decode cX12_shared 10 = .ok (.ifCond .ne 5, 3) := by decide +kernel
theorem dX12_shared_13 : decode cX12_shared 13 = .ok (.iconst (-1), 1) := by decide +kernel
theorem dX12_shared_14 : decode cX12_shared 14 = .ok (.ireturn, 1) := by decide +kernel
theorem dX12_shared_15 : decode cX12_shared 15 = .ok (.iconst 0, 1) := by decide +kernel
theorem dX12_shared_16 : decode cX12_shared 16 = .ok (.istore_n 2, 1) := by decide +kernel
theorem dX12_shared_17 : decode cX12_shared 17 = .ok (.iload_n 2, 1) := by decide +kernel
theorem dX12_shared_18 : decode cX12_shared 18 = .ok (.bipush 8, 2) := by decide +kernel
theorem dX12_shared_20 : decode cX12_shared 20 = .ok (.if_icmp .ge 23, 3) := by decide +kernel
theorem dX12_shared_23 : decode cX12_shared 23 = .ok (.aload_n 0, 1) := by decide +kernel
theorem dX12_shared_24 : decode cX12_shared 24 = .ok (.getfield 148, 3) := by decide +kernel
theorem dX12_shared_27 : decode cX12_shared 27 = .ok (.iload_n 2, 1) := by decide +kernel
theorem dX12_shared_28 : decode cX12_shared 28 = .ok (.iconst 0, 1) := by decide +kernel
theorem dX12_shared_29 : decode cX12_shared 29 = .ok (.iastore, 1) := by decide +kernel
theorem dX12_shared_30 : decode cX12_shared 30 = .ok (.aload_n 0, 1) := by decide +kernel
theorem dX12_shared_31 : decode cX12_shared 31 = .ok (.getfield 154, 3) := by decide +kernel
theorem dX12_shared_34 : decode cX12_shared 34 = .ok (.iload_n 2, 1) := by decide +kernel
theorem dX12_shared_35 : decode cX12_shared 35 = .ok (.iconst 0, 1) := by decide +kernel
theorem dX12_shared_36 : decode cX12_shared 36 = .ok (.iastore, 1) := by decide +kernel
theorem dX12_shared_37 : decode cX12_shared 37 = .ok (.iinc 2 1, 3) := by decide +kernel
theorem dX12_shared_40 : decode cX12_shared 40 = .ok (.goto (-23), 3) := by decide +kernel
theorem dX12_shared_43 : decode cX12_shared 43 = .ok (.iconst 0, 1) := by decide +kernel
theorem dX12_shared_44 : decode cX12_shared 44 = .ok (.istore_n 2, 1) := by decide +kernel
theorem dX12_shared_45 : decode cX12_shared 45 = .ok (.iload_n 2, 1) := by decide +kernel
theorem dX12_shared_46 : decode cX12_shared 46 = .ok (.aload_n 0, 1) := by decide +kernel
theorem dX12_shared_47 : decode cX12_shared 47 = .ok (.invokevirtual 419, 3) := by decide +kernel
theorem dX12_shared_50 : decode cX12_shared 50 = .ok (.if_icmp .ge 31, 3) := by decide +kernel
theorem dX12_shared_53 : decode cX12_shared 53 = .ok (.aload_n 0, 1) := by decide +kernel
theorem dX12_shared_54 : decode cX12_shared 54 = .ok (.getfield 151, 3) := by decide +kernel
theorem dX12_shared_57 : decode cX12_shared 57 = .ok (.iload_n 2, 1) := by decide +kernel
theorem dX12_shared_58 : decode cX12_shared 58 = .ok (.aload_n 0, 1) := by decide +kernel
theorem dX12_shared_59 : decode cX12_shared 59 = .ok (.iload_n 2, 1) := by decide +kernel
theorem dX12_shared_60 : decode cX12_shared 60 = .ok (.invokevirtual 507, 3) := by decide +kernel
theorem dX12_shared_63 : decode cX12_shared 63 = .ok (.ifCond .ne 10, 3) := by decide +kernel
theorem dX12_shared_66 : decode cX12_shared 66 = .ok (.aload_n 0, 1) := by decide +kernel
theorem dX12_shared_67 : decode cX12_shared 67 = .ok (.invokevirtual 410, 3) := by decide +kernel
theorem dX12_shared_70 : decode cX12_shared 70 = .ok (.goto 4, 3) := by decide +kernel
theorem dX12_shared_73 : decode cX12_shared 73 = .ok (.iconst 0, 1) := by decide +kernel
theorem dX12_shared_74 : decode cX12_shared 74 = .ok (.iastore, 1) := by decide +kernel
theorem dX12_shared_75 : decode cX12_shared 75 = .ok (.iinc 2 1, 3) := by decide +kernel
theorem dX12_shared_78 : decode cX12_shared 78 = .ok (.goto (-33), 3) := by decide +kernel
theorem dX12_shared_81 : decode cX12_shared 81 = .ok (.iconst 0, 1) := by decide +kernel
theorem dX12_shared_82 : decode cX12_shared 82 = .ok (.istore_n 2, 1) := by decide +kernel
theorem dX12_shared_83 : decode cX12_shared 83 = .ok (.aload_n 0, 1) := by decide +kernel
theorem dX12_shared_84 : decode cX12_shared 84 = .ok (.invokevirtual 473, 3) := by decide +kernel
theorem dX12_shared_87 : decode cX12_shared 87 = .ok (.ifCond .eq 58, 3) := by decide +kernel
theorem dX12_shared_90 : decode cX12_shared 90 = .ok (.aload_n 0, 1) := by decide +kernel
theorem dX12_shared_91 : decode cX12_shared 91 = .ok (.invokevirtual 545, 3) := by decide +kernel
theorem dX12_shared_94 : decode cX12_shared 94 = .ok (.istore_n 3, 1) := by decide +kernel
theorem dX12_shared_95 : decode cX12_shared 95 = .ok (.iload_n 3, 1) := by decide +kernel
theorem dX12_shared_96 : decode cX12_shared 96 = .ok (.iload_n 2, 1) := by decide +kernel
theorem dX12_shared_97 : decode cX12_shared 97 = .ok (.if_icmp .le (-14), 3) := by decide +kernel
theorem dX12_shared_100 : decode cX12_shared 100 = .ok (.aload_n 0, 1) := by decide +kernel
theorem dX12_shared_101 : decode cX12_shared 101 = .ok (.invokevirtual 548, 3) := by decide +kernel
theorem dX12_shared_104 : decode cX12_shared 104 = .ok (.ifCond .ne 6, 3) := by decide +kernel
theorem dX12_shared_107 : decode cX12_shared 107 = .ok (.goto (-24), 3) := by decide +kernel
theorem dX12_shared_110 : decode cX12_shared 110 = .ok (.iload_n 3, 1) := by decide +kernel
theorem dX12_shared_111 : decode cX12_shared 111 = .ok (.istore_n 2, 1) := by decide +kernel
theorem dX12_shared_112 : decode cX12_shared 112 = .ok (.iconst 0, 1) := by decide +kernel
theorem dX12_shared_113 : decode cX12_shared 113 = .ok (.istore 4, 2) := by decide +kernel
theorem dX12_shared_115 : decode cX12_shared 115 = .ok (.iload 4, 2) := by decide +kernel
theorem dX12_shared_117 : decode cX12_shared 117 = .ok (.bipush 8, 2) := by decide +kernel
theorem dX12_shared_119 : decode cX12_shared 119 = .ok (.if_icmp .ge 23, 3) := by decide +kernel
theorem dX12_shared_122 : decode cX12_shared 122 = .ok (.aload_n 0, 1) := by decide +kernel
theorem dX12_shared_123 : decode cX12_shared 123 = .ok (.getfield 154, 3) := by decide +kernel
theorem dX12_shared_126 : decode cX12_shared 126 = .ok (.iload 4, 2) := by decide +kernel
theorem dX12_shared_128 : decode cX12_shared 128 = .ok (.aload_n 0, 1) := by decide +kernel
theorem dX12_shared_129 : decode cX12_shared 129 = .ok (.getfield 148, 3) := by decide +kernel
theorem dX12_shared_132 : decode cX12_shared 132 = .ok (.iload 4, 2) := by decide +kernel
theorem dX12_shared_134 : decode cX12_shared 134 = .ok (.iaload, 1) := by decide +kernel
theorem dX12_shared_135 : decode cX12_shared 135 = .ok (.iastore, 1) := by decide +kernel
theorem dX12_shared_136 : decode cX12_shared 136 = .ok (.iinc 4 1, 3) := by decide +kernel
theorem dX12_shared_139 : decode cX12_shared 139 = .ok (.goto (-24), 3) := by decide +kernel
theorem dX12_shared_142 : decode cX12_shared 142 = .ok (.goto (-59), 3) := by decide +kernel
theorem dX12_shared_145 : decode cX12_shared 145 = .ok (.iload_n 1, 1) := by decide +kernel
theorem dX12_shared_146 : decode cX12_shared 146 = .ok (.iconst (-1), 1) := by decide +kernel
theorem dX12_shared_147 : decode cX12_shared 147 = .ok (.if_icmp .ne 7, 3) := by decide +kernel
theorem dX12_shared_150 : decode cX12_shared 150 = .ok (.iload_n 2, 1) := by decide +kernel
theorem dX12_shared_151 : decode cX12_shared 151 = .ok (.goto 11, 3) := by decide +kernel
theorem dX12_shared_154 : decode cX12_shared 154 = .ok (.aload_n 0, 1) := by decide +kernel
theorem dX12_shared_155 : decode cX12_shared 155 = .ok (.getfield 154, 3) := by decide +kernel
theorem dX12_shared_158 : decode cX12_shared 158 = .ok (.iload_n 1, 1) := by decide +kernel
theorem dX12_shared_159 : decode cX12_shared 159 = .ok (.iaload, 1) := by decide +kernel
theorem dX12_shared_160 : decode cX12_shared 160 = .ok (.iconst 1, 1) := by decide +kernel
theorem dX12_shared_161 : decode cX12_shared 161 = .ok (.isub, 1) := by decide +kernel
theorem dX12_shared_162 : decode cX12_shared 162 = .ok (.ireturn, 1) := by decide +kernel
theorem dX12_qGoesOn_0 : decode cX12_qGoesOn 0 = .ok (.aload_n 0, 1) := by decide +kernel
theorem dX12_qGoesOn_1 : decode cX12_qGoesOn 1 = .ok (.getfield 263, 3) := by decide +kernel
theorem dX12_qGoesOn_4 : decode cX12_qGoesOn 4 = .ok (.ifCond .ne 118, 3) := by decide +kernel
theorem dX12_qGoesOn_7 : decode cX12_qGoesOn 7 = .ok (.aload_n 0, 1) := by decide +kernel
theorem dX12_qGoesOn_8 : decode cX12_qGoesOn 8 = .ok (.invokevirtual 275, 3) := by decide +kernel
theorem dX12_qGoesOn_11 : decode cX12_qGoesOn 11 = .ok (.bipush 41, 2) := by decide +kernel
theorem dX12_qGoesOn_13 : decode cX12_qGoesOn 13 = .ok (.if_icmp .ne 109, 3) := by decide +kernel
theorem dX12_qGoesOn_16 : decode cX12_qGoesOn 16 = .ok (.aload_n 0, 1) := by decide +kernel
theorem dX12_qGoesOn_17 : decode cX12_qGoesOn 17 = .ok (.invokevirtual 621, 3) := by decide +kernel
theorem dX12_qGoesOn_20 : decode cX12_qGoesOn 20 = .ok (.bipush 20, 2) := by decide +kernel
theorem dX12_qGoesOn_22 : decode cX12_qGoesOn 22 = .ok (.if_icmp .eq 21, 3) := by decide +kernel
theorem dX12_qGoesOn_25 : decode cX12_qGoesOn 25 = .ok (.aload_n 0, 1) := by decide +kernel
theorem dX12_qGoesOn_26 : decode cX12_qGoesOn 26 = .ok (.invokevirtual 621, 3) := by decide +kernel
theorem dX12_qGoesOn_29 : decode cX12_qGoesOn 29 = .ok (.bipush 23, 2) := by decide +kernel
theorem dX12_qGoesOn_31 : decode cX12_qGoesOn 31 = .ok (.if_icmp .eq 12, 3) := by decide +kernel
theorem dX12_qGoesOn_34 : decode cX12_qGoesOn 34 = .ok (.aload_n 0, 1) := by decide +kernel
theorem dX12_qGoesOn_35 : decode cX12_qGoesOn 35 = .ok (.invokevirtual 621, 3) := by decide +kernel
theorem dX12_qGoesOn_38 : decode cX12_qGoesOn 38 = .ok (.bipush 24, 2) := by decide +kernel
theorem dX12_qGoesOn_40 : decode cX12_qGoesOn 40 = .ok (.if_icmp .ne 82, 3) := by decide +kernel
theorem dX12_qGoesOn_43 : decode cX12_qGoesOn 43 = .ok (.aload_n 0, 1) := by decide +kernel
theorem dX12_qGoesOn_44 : decode cX12_qGoesOn 44 = .ok (.dup, 1) := by decide +kernel
theorem dX12_qGoesOn_45 : decode cX12_qGoesOn 45 = .ok (.getfield 269, 3) := by decide +kernel
theorem dX12_qGoesOn_48 : decode cX12_qGoesOn 48 = .ok (.iconst 1, 1) := by decide +kernel
theorem dX12_qGoesOn_49 : decode cX12_qGoesOn 49 = .ok (.iadd, 1) := by decide +kernel
theorem dX12_qGoesOn_50 : decode cX12_qGoesOn 50 = .ok (.putfield 269, 3) := by decide +kernel
theorem dX12_qGoesOn_53 : decode cX12_qGoesOn 53 = .ok (.aload_n 0, 1) := by decide +kernel
theorem dX12_qGoesOn_54 : decode cX12_qGoesOn 54 = .ok (.invokevirtual 624, 3) := by decide +kernel
theorem dX12_qGoesOn_57 : decode cX12_qGoesOn 57 = .ok (.aload_n 0, 1) := by decide +kernel
theorem dX12_qGoesOn_58 : decode cX12_qGoesOn 58 = .ok (.dup, 1) := by decide +kernel
theorem dX12_qGoesOn_59 : decode cX12_qGoesOn 59 = .ok (.getfield 355, 3) := by decide +kernel
theorem dX12_qGoesOn_62 : decode cX12_qGoesOn 62 = .ok (.iconst 1, 1) := by decide +kernel
theorem dX12_qGoesOn_63 : decode cX12_qGoesOn 63 = .ok (.isub, 1) := by decide +kernel
theorem dX12_qGoesOn_64 : decode cX12_qGoesOn 64 = .ok (.putfield 355, 3) := by decide +kernel
theorem dX12_qGoesOn_67 : decode cX12_qGoesOn 67 = .ok (.aload_n 0, 1) := by decide +kernel
theorem dX12_qGoesOn_68 : decode cX12_qGoesOn 68 = .ok (.dup, 1) := by decide +kernel
theorem dX12_qGoesOn_69 : decode cX12_qGoesOn 69 = .ok (.getfield 358, 3) := by decide +kernel
theorem dX12_qGoesOn_72 : decode cX12_qGoesOn 72 = .ok (.iconst 1, 1) := by decide +kernel
theorem dX12_qGoesOn_73 : decode cX12_qGoesOn 73 = .ok (.isub, 1) := by decide +kernel
theorem dX12_qGoesOn_74 : decode cX12_qGoesOn 74 = .ok (.putfield 358, 3) := by decide +kernel
theorem dX12_qGoesOn_77 : decode cX12_qGoesOn 77 = .ok (.aload_n 0, 1) := by decide +kernel
theorem dX12_qGoesOn_78 : decode cX12_qGoesOn 78 = .ok (.getfield 251, 3) := by decide +kernel
theorem dX12_qGoesOn_81 : decode cX12_qGoesOn 81 = .ok (.aload_n 0, 1) := by decide +kernel
theorem dX12_qGoesOn_82 : decode cX12_qGoesOn 82 = .ok (.getfield 355, 3) := by decide +kernel
theorem dX12_qGoesOn_85 : decode cX12_qGoesOn 85 = .ok (.iaload, 1) := by decide +kernel
theorem dX12_qGoesOn_86 : decode cX12_qGoesOn 86 = .ok (.bipush 20, 2) := by decide +kernel
theorem dX12_qGoesOn_88 : decode cX12_qGoesOn 88 = .ok (.if_icmp .eq 27, 3) := by decide +kernel
theorem dX12_qGoesOn_91 : decode cX12_qGoesOn 91 = .ok (.aload_n 0, 1) := by decide +kernel
theorem dX12_qGoesOn_92 : decode cX12_qGoesOn 92 = .ok (.aload_n 0, 1) := by decide +kernel
theorem dX12_qGoesOn_93 : decode cX12_qGoesOn 93 = .ok (.getfield 251, 3) := by decide +kernel
theorem dX12_qGoesOn_96 : decode cX12_qGoesOn 96 = .ok (.aload_n 0, 1) := by decide +kernel
theorem dX12_qGoesOn_97 : decode cX12_qGoesOn 97 = .ok (.getfield 355, 3) := by decide +kernel
theorem dX12_qGoesOn_100 : decode cX12_qGoesOn 100 = .ok (.iaload, 1) := by decide +kernel
theorem dX12_qGoesOn_101 : decode cX12_qGoesOn 101 = .ok (.bipush 23, 2) := by decide +kernel
theorem dX12_qGoesOn_103 : decode cX12_qGoesOn 103 = .ok (.if_icmp .ne 7, 3) := by decide +kernel
theorem dX12_qGoesOn_106 : decode cX12_qGoesOn 106 = .ok (.iconst 5, 1) := by decide +kernel
theorem dX12_qGoesOn_107 : decode cX12_qGoesOn 107 = .ok (.goto 5, 3) := by decide +kernel
theorem dX12_qGoesOn_110 : decode cX12_qGoesOn 110 = .ok (.bipush 6, 2) := by decide +kernel
theorem dX12_qGoesOn_112 : decode cX12_qGoesOn 112 = .ok (.invokevirtual 594, 3) := by decide +kernel
theorem dX12_qGoesOn_115 : decode cX12_qGoesOn 115 = .ok (.aload_n 0, 1) := by decide +kernel
theorem dX12_qGoesOn_116 : decode cX12_qGoesOn 116 = .ok (.invokevirtual 618, 3) := by decide +kernel
theorem dX12_qGoesOn_119 : decode cX12_qGoesOn 119 = .ok (.goto (-119), 3) := by decide +kernel
theorem dX12_qGoesOn_122 : decode cX12_qGoesOn 122 = .ok (.aload_n 0, 1) := by decide +kernel
theorem dX12_qGoesOn_123 : decode cX12_qGoesOn 123 = .ok (.bipush 42, 2) := by decide +kernel
theorem dX12_qGoesOn_125 : decode cX12_qGoesOn 125 = .ok (.invokevirtual 297, 3) := by decide +kernel
theorem dX12_qGoesOn_128 : decode cX12_qGoesOn 128 = .ok (.ifCond .ne 12, 3) := by decide +kernel
theorem dX12_qGoesOn_131 : decode cX12_qGoesOn 131 = .ok (.aload_n 0, 1) := by decide +kernel
theorem dX12_qGoesOn_132 : decode cX12_qGoesOn 132 = .ok (.bipush 47, 2) := by decide +kernel
theorem dX12_qGoesOn_134 : decode cX12_qGoesOn 134 = .ok (.invokevirtual 297, 3) := by decide +kernel
theorem dX12_qGoesOn_137 : decode cX12_qGoesOn 137 = .ok (.ifCond .eq 70, 3) := by decide +kernel
theorem dX12_qGoesOn_140 : decode cX12_qGoesOn 140 = .ok (.aload_n 0, 1) := by decide +kernel
theorem dX12_qGoesOn_141 : decode cX12_qGoesOn 141 = .ok (.getfield 7, 3) := by decide +kernel
theorem dX12_qGoesOn_144 : decode cX12_qGoesOn 144 = .ok (.aload_n 0, 1) := by decide +kernel
theorem dX12_qGoesOn_145 : decode cX12_qGoesOn 145 = .ok (.getfield 269, 3) := by decide +kernel
theorem dX12_qGoesOn_148 : decode cX12_qGoesOn 148 = .ok (.iconst 1, 1) := by decide +kernel
theorem dX12_qGoesOn_149 : decode cX12_qGoesOn 149 = .ok (.isub, 1) := by decide +kernel
theorem dX12_qGoesOn_150 : decode cX12_qGoesOn 150 = .ok (.iaload, 1) := by decide +kernel
theorem dX12_qGoesOn_151 : decode cX12_qGoesOn 151 = .ok (.bipush 42, 2) := by decide +kernel
theorem dX12_qGoesOn_153 : decode cX12_qGoesOn 153 = .ok (.if_icmp .ne 7, 3) := by decide +kernel
theorem dX12_qGoesOn_156 : decode cX12_qGoesOn 156 = .ok (.iconst 3, 1) := by decide +kernel
theorem dX12_qGoesOn_157 : decode cX12_qGoesOn 157 = .ok (.goto 4, 3) := by decide +kernel
theorem dX12_qGoesOn_160 : decode cX12_qGoesOn 160 = .ok (.iconst 4, 1) := by decide +kernel
theorem dX12_qGoesOn_161 : decode cX12_qGoesOn 161 = .ok (.istore_n 1, 1) := by decide +kernel
theorem dX12_qGoesOn_162 : decode cX12_qGoesOn 162 = .ok (.aload_n 0, 1) := by decide +kernel
theorem dX12_qGoesOn_163 : decode cX12_qGoesOn 163 = .ok (.iconst 3, 1) := by decide +kernel
theorem dX12_qGoesOn_164 : decode cX12_qGoesOn 164 = .ok (.invokevirtual 627, 3) := by decide +kernel
theorem dX12_qGoesOn_167 : decode cX12_qGoesOn 167 = .ok (.ifCond .ne 11, 3) := by decide +kernel
theorem dX12_qGoesOn_170 : decode cX12_qGoesOn 170 = .ok (.aload_n 0, 1) := by decide +kernel
theorem dX12_qGoesOn_171 : decode cX12_qGoesOn 171 = .ok (.iconst 4, 1) := by decide +kernel
theorem dX12_qGoesOn_172 : decode cX12_qGoesOn 172 = .ok (.invokevirtual 627, 3) := by decide +kernel
theorem dX12_qGoesOn_175 : decode cX12_qGoesOn 175 = .ok (.ifCond .eq 10, 3) := by decide +kernel
theorem dX12_qGoesOn_178 : decode cX12_qGoesOn 178 = .ok (.aload_n 0, 1) := by decide +kernel
theorem dX12_qGoesOn_179 : decode cX12_qGoesOn 179 = .ok (.invokevirtual 600, 3) := by decide +kernel
theorem dX12_qGoesOn_182 : decode cX12_qGoesOn 182 = .ok (.goto (-20), 3) := by decide +kernel
theorem dX12_qGoesOn_185 : decode cX12_qGoesOn 185 = .ok (.aload_n 0, 1) := by decide +kernel
theorem dX12_qGoesOn_186 : decode cX12_qGoesOn 186 = .ok (.getfield 251, 3) := by decide +kernel
theorem dX12_qGoesOn_189 : decode cX12_qGoesOn 189 = .ok (.aload_n 0, 1) := by decide +kernel
theorem dX12_qGoesOn_190 : decode cX12_qGoesOn 190 = .ok (.getfield 355, 3) := by decide +kernel
theorem dX12_qGoesOn_193 : decode cX12_qGoesOn 193 = .ok (.iload_n 1, 1) := by decide +kernel
theorem dX12_qGoesOn_194 : decode cX12_qGoesOn 194 = .ok (.iastore, 1) := by decide +kernel
theorem dX12_qGoesOn_195 : decode cX12_qGoesOn 195 = .ok (.aload_n 0, 1) := by decide +kernel
theorem dX12_qGoesOn_196 : decode cX12_qGoesOn 196 = .ok (.dup, 1) := by decide +kernel
theorem dX12_qGoesOn_197 : decode cX12_qGoesOn 197 = .ok (.getfield 355, 3) := by decide +kernel
theorem dX12_qGoesOn_200 : decode cX12_qGoesOn 200 = .ok (.iconst 1, 1) := by decide +kernel
theorem dX12_qGoesOn_201 : decode cX12_qGoesOn 201 = .ok (.iadd, 1) := by decide +kernel
theorem dX12_qGoesOn_202 : decode cX12_qGoesOn 202 = .ok (.putfield 355, 3) := by decide +kernel
theorem dX12_qGoesOn_205 : decode cX12_qGoesOn 205 = .ok (.iconst 1, 1) := by decide +kernel
theorem dX12_qGoesOn_206 : decode cX12_qGoesOn 206 = .ok (.ireturn, 1) := by decide +kernel
theorem dX12_qGoesOn_207 : decode cX12_qGoesOn 207 = .ok (.aload_n 0, 1) := by decide +kernel
theorem dX12_qGoesOn_208 : decode cX12_qGoesOn 208 = .ok (.bipush 43, 2) := by decide +kernel
theorem dX12_qGoesOn_210 : decode cX12_qGoesOn 210 = .ok (.invokevirtual 297, 3) := by decide +kernel
theorem dX12_qGoesOn_213 : decode cX12_qGoesOn 213 = .ok (.ifCond .ne 12, 3) := by decide +kernel
theorem dX12_qGoesOn_216 : decode cX12_qGoesOn 216 = .ok (.aload_n 0, 1) := by decide +kernel
theorem dX12_qGoesOn_217 : decode cX12_qGoesOn 217 = .ok (.bipush 45, 2) := by decide +kernel
theorem dX12_qGoesOn_219 : decode cX12_qGoesOn 219 = .ok (.invokevirtual 297, 3) := by decide +kernel
theorem dX12_qGoesOn_222 : decode cX12_qGoesOn 222 = .ok (.ifCond .eq 86, 3) := by decide +kernel
theorem dX12_qGoesOn_225 : decode cX12_qGoesOn 225 = .ok (.aload_n 0, 1) := by decide +kernel
theorem dX12_qGoesOn_226 : decode cX12_qGoesOn 226 = .ok (.getfield 7, 3) := by decide +kernel
theorem dX12_qGoesOn_229 : decode cX12_qGoesOn 229 = .ok (.aload_n 0, 1) := by decide +kernel
theorem dX12_qGoesOn_230 : decode cX12_qGoesOn 230 = .ok (.getfield 269, 3) := by decide +kernel
theorem dX12_qGoesOn_233 : decode cX12_qGoesOn 233 = .ok (.iconst 1, 1) := by decide +kernel
theorem dX12_qGoesOn_234 : decode cX12_qGoesOn 234 = .ok (.isub, 1) := by decide +kernel
theorem dX12_qGoesOn_235 : decode cX12_qGoesOn 235 = .ok (.iaload, 1) := by decide +kernel
theorem dX12_qGoesOn_236 : decode cX12_qGoesOn 236 = .ok (.bipush 43, 2) := by decide +kernel
theorem dX12_qGoesOn_238 : decode cX12_qGoesOn 238 = .ok (.if_icmp .ne 7, 3) := by decide +kernel
theorem dX12_qGoesOn_241 : decode cX12_qGoesOn 241 = .ok (.iconst 1, 1) := by decide +kernel
theorem dX12_qGoesOn_242 : decode cX12_qGoesOn 242 = .ok (.goto 4, 3) := by decide +kernel
theorem dX12_qGoesOn_245 : decode cX12_qGoesOn 245 = .ok (.iconst 2, 1) := by decide +kernel
theorem dX12_qGoesOn_246 : decode cX12_qGoesOn 246 = .ok (.istore_n 1, 1) := by decide +kernel
theorem dX12_qGoesOn_247 : decode cX12_qGoesOn 247 = .ok (.aload_n 0, 1) := by decide +kernel
theorem dX12_qGoesOn_248 : decode cX12_qGoesOn 248 = .ok (.iconst 3, 1) := by decide +kernel
theorem dX12_qGoesOn_249 : decode cX12_qGoesOn 249 = .ok (.invokevirtual 627, 3) := by decide +kernel
theorem dX12_qGoesOn_252 : decode cX12_qGoesOn 252 = .ok (.ifCond .ne 27, 3) := by decide +kernel
theorem dX12_qGoesOn_255 : decode cX12_qGoesOn 255 = .ok (.aload_n 0, 1) := by decide +kernel
theorem dX12_qGoesOn_256 : decode cX12_qGoesOn 256 = .ok (.iconst 4, 1) := by decide +kernel
theorem dX12_qGoesOn_257 : decode cX12_qGoesOn 257 = .ok (.invokevirtual 627, 3) := by decide +kernel
theorem dX12_qGoesOn_260 : decode cX12_qGoesOn 260 = .ok (.ifCond .ne 19, 3) := by decide +kernel
theorem dX12_qGoesOn_263 : decode cX12_qGoesOn 263 = .ok (.aload_n 0, 1) := by decide +kernel
theorem dX12_qGoesOn_264 : decode cX12_qGoesOn 264 = .ok (.iconst 1, 1) := by decide +kernel
theorem dX12_qGoesOn_265 : decode cX12_qGoesOn 265 = .ok (.invokevirtual 627, 3) := by decide +kernel
theorem dX12_qGoesOn_268 : decode cX12_qGoesOn 268 = .ok (.ifCond .ne 11, 3) := by decide +kernel
theorem dX12_qGoesOn_271 : decode cX12_qGoesOn 271 = .ok (.aload_n 0, 1) := by decide +kernel
theorem dX12_qGoesOn_272 : decode cX12_qGoesOn 272 = .ok (.iconst 2, 1) := by decide +kernel
theorem dX12_qGoesOn_273 : decode cX12_qGoesOn 273 = .ok (.invokevirtual 627, 3) := by decide +kernel
theorem dX12_qGoesOn_276 : decode cX12_qGoesOn 276 = .ok (.ifCond .eq 10, 3) := by decide +kernel
theorem dX12_qGoesOn_279 : decode cX12_qGoesOn 279 = .ok (.aload_n 0, 1) := by decide +kernel
theorem dX12_qGoesOn_280 : decode cX12_qGoesOn 280 = .ok (.invokevirtual 600, 3) := by decide +kernel
theorem dX12_qGoesOn_283 : decode cX12_qGoesOn 283 = .ok (.goto (-36), 3) := by decide +kernel
theorem dX12_qGoesOn_286 : decode cX12_qGoesOn 286 = .ok (.aload_n 0, 1) := by decide +kernel
theorem dX12_qGoesOn_287 : decode cX12_qGoesOn 287 = .ok (.getfield 251, 3) := by decide +kernel
theorem dX12_qGoesOn_290 : decode cX12_qGoesOn 290 = .ok (.aload_n 0, 1) := by decide +kernel
theorem dX12_qGoesOn_291 : decode cX12_qGoesOn 291 = .ok (.getfield 355, 3) := by decide +kernel
theorem dX12_qGoesOn_294 : decode cX12_qGoesOn 294 = .ok (.iload_n 1, 1) := by decide +kernel
theorem dX12_qGoesOn_295 : decode cX12_qGoesOn 295 = .ok (.iastore, 1) := by decide +kernel
theorem dX12_qGoesOn_296 : decode cX12_qGoesOn 296 = .ok (.aload_n 0, 1) := by decide +kernel
theorem dX12_qGoesOn_297 : decode cX12_qGoesOn 297 = .ok (.dup, 1) := by decide +kernel
theorem dX12_qGoesOn_298 : decode cX12_qGoesOn 298 = .ok (.getfield 355, 3) := by decide +kernel
theorem dX12_qGoesOn_301 : decode cX12_qGoesOn 301 = .ok (.iconst 1, 1) := by decide +kernel
theorem dX12_qGoesOn_302 : decode cX12_qGoesOn 302 = .ok (.iadd, 1) := by decide +kernel
theorem dX12_qGoesOn_303 : decode cX12_qGoesOn 303 = .ok (.putfield 355, 3) := by decide +kernel
theorem dX12_qGoesOn_306 : decode cX12_qGoesOn 306 = .ok (.iconst 1, 1) := by decide +kernel
theorem dX12_qGoesOn_307 : decode cX12_qGoesOn 307 = .ok (.ireturn, 1) := by decide +kernel
theorem dX12_qGoesOn_308 : decode cX12_qGoesOn 308 = .ok (.aload_n 0, 1) := by decide +kernel
theorem dX12_qGoesOn_309 : decode cX12_qGoesOn 309 = .ok (.invokevirtual 621, 3) := by decide +kernel
theorem dX12_qGoesOn_312 : decode cX12_qGoesOn 312 = .ok (.bipush 21, 2) := by decide +kernel
theorem dX12_qGoesOn_314 : decode cX12_qGoesOn 314 = .ok (.if_icmp .eq 12, 3) := by decide +kernel
theorem dX12_qGoesOn_317 : decode cX12_qGoesOn 317 = .ok (.aload_n 0, 1) := by decide +kernel
theorem dX12_qGoesOn_318 : decode cX12_qGoesOn 318 = .ok (.invokevirtual 621, 3) := by decide +kernel
theorem dX12_qGoesOn_321 : decode cX12_qGoesOn 321 = .ok (.bipush 22, 2) := by decide +kernel
theorem dX12_qGoesOn_323 : decode cX12_qGoesOn 323 = .ok (.if_icmp .ne 39, 3) := by decide +kernel
theorem dX12_qGoesOn_326 : decode cX12_qGoesOn 326 = .ok (.aload_n 0, 1) := by decide +kernel
theorem dX12_qGoesOn_327 : decode cX12_qGoesOn 327 = .ok (.bipush 44, 2) := by decide +kernel
theorem dX12_qGoesOn_329 : decode cX12_qGoesOn 329 = .ok (.invokevirtual 395, 3) := by decide +kernel
theorem dX12_qGoesOn_332 : decode cX12_qGoesOn 332 = .ok (.aload_n 0, 1) := by decide +kernel
theorem dX12_qGoesOn_333 : decode cX12_qGoesOn 333 = .ok (.getfield 263, 3) := by decide +kernel
theorem dX12_qGoesOn_336 : decode cX12_qGoesOn 336 = .ok (.ifCond .eq 5, 3) := by decide +kernel
theorem dX12_qGoesOn_339 : decode cX12_qGoesOn 339 = .ok (.iconst 0, 1) := by decide +kernel
theorem dX12_qGoesOn_340 : decode cX12_qGoesOn 340 = .ok (.ireturn, 1) := by decide +kernel
theorem dX12_qGoesOn_341 : decode cX12_qGoesOn 341 = .ok (.aload_n 0, 1) := by decide +kernel
theorem dX12_qGoesOn_342 : decode cX12_qGoesOn 342 = .ok (.invokevirtual 624, 3) := by decide +kernel
theorem dX12_qGoesOn_345 : decode cX12_qGoesOn 345 = .ok (.aload_n 0, 1) := by decide +kernel
theorem dX12_qGoesOn_346 : decode cX12_qGoesOn 346 = .ok (.getfield 251, 3) := by decide +kernel
theorem dX12_qGoesOn_349 : decode cX12_qGoesOn 349 = .ok (.aload_n 0, 1) := by decide +kernel
theorem dX12_qGoesOn_350 : decode cX12_qGoesOn 350 = .ok (.getfield 355, 3) := by decide +kernel
theorem dX12_qGoesOn_353 : decode cX12_qGoesOn 353 = .ok (.iconst 1, 1) := by decide +kernel
theorem dX12_qGoesOn_354 : decode cX12_qGoesOn 354 = .ok (.isub, 1) := by decide +kernel
theorem dX12_qGoesOn_355 : decode cX12_qGoesOn 355 = .ok (.dup2, 1) := by decide +kernel
theorem dX12_qGoesOn_356 : decode cX12_qGoesOn 356 = .ok (.iaload, 1) := by decide +kernel
theorem dX12_qGoesOn_357 : decode cX12_qGoesOn 357 = .ok (.iconst 2, 1) := by decide +kernel
theorem dX12_qGoesOn_358 : decode cX12_qGoesOn 358 = .ok (.iadd, 1) := by decide +kernel
theorem dX12_qGoesOn_359 : decode cX12_qGoesOn 359 = .ok (.iastore, 1) := by decide +kernel
theorem dX12_qGoesOn_360 : decode cX12_qGoesOn 360 = .ok (.iconst 1, 1) := by decide +kernel
theorem dX12_qGoesOn_361 : decode cX12_qGoesOn 361 = .ok (.ireturn, 1) := by decide +kernel
theorem dX12_qGoesOn_362 : decode cX12_qGoesOn 362 = .ok (.aload_n 0, 1) := by decide +kernel
theorem dX12_qGoesOn_363 : decode cX12_qGoesOn 363 = .ok (.invokevirtual 621, 3) := by decide +kernel
theorem dX12_qGoesOn_366 : decode cX12_qGoesOn 366 = .ok (.iconst (-1), 1) := by decide +kernel
theorem dX12_qGoesOn_367 : decode cX12_qGoesOn 367 = .ok (.if_icmp .eq 19, 3) := by decide +kernel
theorem dX12_qGoesOn_370 : decode cX12_qGoesOn 370 = .ok (.aload_n 0, 1) := by decide +kernel
theorem dX12_qGoesOn_371 : decode cX12_qGoesOn 371 = .ok (.getfield 263, 3) := by decide +kernel
theorem dX12_qGoesOn_374 : decode cX12_qGoesOn 374 = .ok (.ifCond .ne 12, 3) := by decide +kernel
theorem dX12_qGoesOn_377 : decode cX12_qGoesOn 377 = .ok (.aload_n 0, 1) := by decide +kernel
theorem dX12_qGoesOn_378 : decode cX12_qGoesOn 378 = .ok (.iconst 1, 1) := by decide +kernel
theorem dX12_qGoesOn_379 : decode cX12_qGoesOn 379 = .ok (.aload_n 0, 1) := by decide +kernel
theorem dX12_qGoesOn_380 : decode cX12_qGoesOn 380 = .ok (.getfield 269, 3) := by decide +kernel
theorem dX12_qGoesOn_383 : decode cX12_qGoesOn 383 = .ok (.invokevirtual 293, 3) := by decide +kernel
theorem dX12_qGoesOn_386 : decode cX12_qGoesOn 386 = .ok (.iconst 0, 1) := by decide +kernel
theorem dX12_qGoesOn_387 : decode cX12_qGoesOn 387 = .ok (.ireturn, 1) := by decide +kernel
theorem dX12_giftTold_0 : decode cX12_giftTold 0 = .ok (.aload_n 0, 1) := by decide +kernel
theorem dX12_giftTold_1 : decode cX12_giftTold 1 = .ok (.iconst 1, 1) := by decide +kernel
theorem dX12_giftTold_2 : decode cX12_giftTold 2 = .ok (.iconst 4, 1) := by decide +kernel
theorem dX12_giftTold_3 : decode cX12_giftTold 3 = .ok (.iload_n 1, 1) := by decide +kernel
theorem dX12_giftTold_4 : decode cX12_giftTold 4 = .ok (.invokevirtual 330, 3) := by decide +kernel
theorem dX12_giftTold_7 : decode cX12_giftTold 7 = .ok (.ifCond .eq 4, 3) := by decide +kernel
theorem dX12_giftTold_10 : decode cX12_giftTold 10 = .ok (.return_, 1) := by decide +kernel
theorem dX12_giftTold_11 : decode cX12_giftTold 11 = .ok (.aload_n 0, 1) := by decide +kernel
theorem dX12_giftTold_12 : decode cX12_giftTold 12 = .ok (.invokevirtual 334, 3) := by decide +kernel
theorem dX12_giftTold_15 : decode cX12_giftTold 15 = .ok (.lstore_n 2, 1) := by decide +kernel
theorem dX12_giftTold_16 : decode cX12_giftTold 16 = .ok (.aload_n 0, 1) := by decide +kernel
theorem dX12_giftTold_17 : decode cX12_giftTold 17 = .ok (.aload_n 0, 1) := by decide +kernel
theorem dX12_giftTold_18 : decode cX12_giftTold 18 = .ok (.getfield 36, 3) := by decide +kernel
theorem dX12_giftTold_21 : decode cX12_giftTold 21 = .ok (.invokevirtual 337, 3) := by decide +kernel
theorem dX12_giftTold_24 : decode cX12_giftTold 24 = .ok (.aload_n 0, 1) := by decide +kernel
theorem dX12_giftTold_25 : decode cX12_giftTold 25 = .ok (.iconst 0, 1) := by decide +kernel
theorem dX12_giftTold_26 : decode cX12_giftTold 26 = .ok (.iconst 3, 1) := by decide +kernel
theorem dX12_giftTold_27 : decode cX12_giftTold 27 = .ok (.invokevirtual 341, 3) := by decide +kernel
theorem dX12_giftTold_30 : decode cX12_giftTold 30 = .ok (.istore 4, 2) := by decide +kernel
theorem dX12_giftTold_32 : decode cX12_giftTold 32 = .ok (.aload_n 0, 1) := by decide +kernel
theorem dX12_giftTold_33 : decode cX12_giftTold 33 = .ok (.getfield 263, 3) := by decide +kernel
theorem dX12_giftTold_36 : decode cX12_giftTold 36 = .ok (.ifCond .ne 16, 3) := by decide +kernel
theorem dX12_giftTold_39 : decode cX12_giftTold 39 = .ok (.aload_n 0, 1) := by decide +kernel
theorem dX12_giftTold_40 : decode cX12_giftTold 40 = .ok (.getfield 115, 3) := by decide +kernel
theorem dX12_giftTold_43 : decode cX12_giftTold 43 = .ok (.aload_n 0, 1) := by decide +kernel
theorem dX12_giftTold_44 : decode cX12_giftTold 44 = .ok (.iconst 1, 1) := by decide +kernel
theorem dX12_giftTold_45 : decode cX12_giftTold 45 = .ok (.lload_n 2, 1) := by decide +kernel
theorem dX12_giftTold_46 : decode cX12_giftTold 46 = .ok (.invokevirtual 345, 3) := by decide +kernel
theorem dX12_giftTold_49 : decode cX12_giftTold 49 = .ok (.iload 4, 2) := by decide +kernel
theorem dX12_giftTold_51 : decode cX12_giftTold 51 = .ok (.iastore, 1) := by decide +kernel
theorem dX12_giftTold_52 : decode cX12_giftTold 52 = .ok (.return_, 1) := by decide +kernel
theorem dX12_give_0 : decode cX12_give 0 = .ok (.aload_n 0, 1) := by decide +kernel
theorem dX12_give_1 : decode cX12_give 1 = .ok (.iload_n 1, 1) := by decide +kernel
theorem dX12_give_2 : decode cX12_give 2 = .ok (.invokevirtual 501, 3) := by decide +kernel
theorem dX12_give_5 : decode cX12_give 5 = .ok (.ifCond .eq 30, 3) := by decide +kernel
theorem dX12_give_8 : decode cX12_give 8 = .ok (.aload_n 0, 1) := by decide +kernel
theorem dX12_give_9 : decode cX12_give 9 = .ok (.iload_n 2, 1) := by decide +kernel
theorem dX12_give_10 : decode cX12_give 10 = .ok (.invokevirtual 513, 3) := by decide +kernel
theorem dX12_give_13 : decode cX12_give 13 = .ok (.ifCond .eq 22, 3) := by decide +kernel
theorem dX12_give_16 : decode cX12_give 16 = .ok (.aload_n 0, 1) := by decide +kernel
theorem dX12_give_17 : decode cX12_give 17 = .ok (.iload_n 1, 1) := by decide +kernel
theorem dX12_give_18 : decode cX12_give 18 = .ok (.invokevirtual 507, 3) := by decide +kernel
theorem dX12_give_21 : decode cX12_give 21 = .ok (.ifCond .gt 14, 3) := by decide +kernel
theorem dX12_give_24 : decode cX12_give 24 = .ok (.aload_n 0, 1) := by decide +kernel
theorem dX12_give_25 : decode cX12_give 25 = .ok (.getfield 142, 3) := by decide +kernel
theorem dX12_give_28 : decode cX12_give 28 = .ok (.iconst 4, 1) := by decide +kernel
theorem dX12_give_29 : decode cX12_give 29 = .ok (.iload_n 2, 1) := by decide +kernel
theorem dX12_give_30 : decode cX12_give 30 = .ok (.iadd, 1) := by decide +kernel
theorem dX12_give_31 : decode cX12_give 31 = .ok (.iaload, 1) := by decide +kernel
theorem dX12_give_32 : decode cX12_give 32 = .ok (.ifCond .ne 9, 3) := by decide +kernel
theorem dX12_give_35 : decode cX12_give 35 = .ok (.aload_n 0, 1) := by decide +kernel
theorem dX12_give_36 : decode cX12_give 36 = .ok (.iconst 2, 1) := by decide +kernel
theorem dX12_give_37 : decode cX12_give 37 = .ok (.invokevirtual 560, 3) := by decide +kernel
theorem dX12_give_40 : decode cX12_give 40 = .ok (.ireturn, 1) := by decide +kernel
theorem dX12_give_41 : decode cX12_give 41 = .ok (.aload_n 0, 1) := by decide +kernel
theorem dX12_give_42 : decode cX12_give 42 = .ok (.invokevirtual 575, 3) := by decide +kernel
theorem dX12_give_45 : decode cX12_give 45 = .ok (.aload_n 0, 1) := by decide +kernel
theorem dX12_give_46 : decode cX12_give 46 = .ok (.getfield 142, 3) := by decide +kernel
theorem dX12_give_49 : decode cX12_give 49 = .ok (.iconst 4, 1) := by decide +kernel
theorem dX12_give_50 : decode cX12_give 50 = .ok (.iload_n 2, 1) := by decide +kernel
theorem dX12_give_51 : decode cX12_give 51 = .ok (.iadd, 1) := by decide +kernel
theorem dX12_give_52 : decode cX12_give 52 = .ok (.dup2, 1) := by decide +kernel
theorem dX12_give_53 : decode cX12_give 53 = .ok (.iaload, 1) := by decide +kernel
theorem dX12_give_54 : decode cX12_give 54 = .ok (.iconst 1, 1) := by decide +kernel
theorem dX12_give_55 : decode cX12_give 55 = .ok (.isub, 1) := by decide +kernel
theorem dX12_give_56 : decode cX12_give 56 = .ok (.iastore, 1) := by decide +kernel
theorem dX12_give_57 : decode cX12_give 57 = .ok (.aload_n 0, 1) := by decide +kernel
theorem dX12_give_58 : decode cX12_give 58 = .ok (.getfield 142, 3) := by decide +kernel
theorem dX12_give_61 : decode cX12_give 61 = .ok (.bipush 8, 2) := by decide +kernel
theorem dX12_give_63 : decode cX12_give 63 = .ok (.iconst 3, 1) := by decide +kernel
theorem dX12_give_64 : decode cX12_give 64 = .ok (.iload_n 1, 1) := by decide +kernel
theorem dX12_give_65 : decode cX12_give 65 = .ok (.imul, 1) := by decide +kernel
theorem dX12_give_66 : decode cX12_give 66 = .ok (.iadd, 1) := by decide +kernel
theorem dX12_give_67 : decode cX12_give 67 = .ok (.iconst 2, 1) := by decide +kernel
theorem dX12_give_68 : decode cX12_give 68 = .ok (.iadd, 1) := by decide +kernel
theorem dX12_give_69 : decode cX12_give 69 = .ok (.iload_n 2, 1) := by decide +kernel
theorem dX12_give_70 : decode cX12_give 70 = .ok (.iconst 1, 1) := by decide +kernel
theorem dX12_give_71 : decode cX12_give 71 = .ok (.iadd, 1) := by decide +kernel
theorem dX12_give_72 : decode cX12_give 72 = .ok (.iastore, 1) := by decide +kernel
theorem dX12_give_73 : decode cX12_give 73 = .ok (.aload_n 0, 1) := by decide +kernel
theorem dX12_give_74 : decode cX12_give 74 = .ok (.getfield 142, 3) := by decide +kernel
theorem dX12_give_77 : decode cX12_give 77 = .ok (.iconst 4, 1) := by decide +kernel
theorem dX12_give_78 : decode cX12_give 78 = .ok (.iload_n 2, 1) := by decide +kernel
theorem dX12_give_79 : decode cX12_give 79 = .ok (.iadd, 1) := by decide +kernel
theorem dX12_give_80 : decode cX12_give 80 = .ok (.iaload, 1) := by decide +kernel
theorem dX12_give_81 : decode cX12_give 81 = .ok (.ireturn, 1) := by decide +kernel
theorem dX12_adds_0 : decode cX12_adds 0 = .ok (.aload_n 0, 1) := by decide +kernel
theorem dX12_adds_1 : decode cX12_adds 1 = .ok (.getfield 108, 3) := by decide +kernel
theorem dX12_adds_4 : decode cX12_adds 4 = .ok (.bipush 8, 2) := by decide +kernel
theorem dX12_adds_6 : decode cX12_adds 6 = .ok (.iload_n 1, 1) := by decide +kernel
theorem dX12_adds_7 : decode cX12_adds 7 = .ok (.imul, 1) := by decide +kernel
theorem dX12_adds_8 : decode cX12_adds 8 = .ok (.aload_n 0, 1) := by decide +kernel
theorem dX12_adds_9 : decode cX12_adds 9 = .ok (.getfield 105, 3) := by decide +kernel
theorem dX12_adds_12 : decode cX12_adds 12 = .ok (.iload_n 1, 1) := by decide +kernel
theorem dX12_adds_13 : decode cX12_adds 13 = .ok (.iaload, 1) := by decide +kernel
theorem dX12_adds_14 : decode cX12_adds 14 = .ok (.iadd, 1) := by decide +kernel
theorem dX12_adds_15 : decode cX12_adds 15 = .ok (.lload_n 2, 1) := by decide +kernel
theorem dX12_adds_16 : decode cX12_adds 16 = .ok (.lastore, 1) := by decide +kernel
theorem dX12_adds_17 : decode cX12_adds 17 = .ok (.aload_n 0, 1) := by decide +kernel
theorem dX12_adds_18 : decode cX12_adds 18 = .ok (.getfield 105, 3) := by decide +kernel
theorem dX12_adds_21 : decode cX12_adds 21 = .ok (.iload_n 1, 1) := by decide +kernel
theorem dX12_adds_22 : decode cX12_adds 22 = .ok (.dup2, 1) := by decide +kernel
theorem dX12_adds_23 : decode cX12_adds 23 = .ok (.iaload, 1) := by decide +kernel
theorem dX12_adds_24 : decode cX12_adds 24 = .ok (.iconst 1, 1) := by decide +kernel
theorem dX12_adds_25 : decode cX12_adds 25 = .ok (.iadd, 1) := by decide +kernel
theorem dX12_adds_26 : decode cX12_adds 26 = .ok (.iastore, 1) := by decide +kernel
theorem dX12_adds_27 : decode cX12_adds 27 = .ok (.aload_n 0, 1) := by decide +kernel
theorem dX12_adds_28 : decode cX12_adds 28 = .ok (.getfield 105, 3) := by decide +kernel
theorem dX12_adds_31 : decode cX12_adds 31 = .ok (.iload_n 1, 1) := by decide +kernel
theorem dX12_adds_32 : decode cX12_adds 32 = .ok (.iaload, 1) := by decide +kernel
theorem dX12_adds_33 : decode cX12_adds 33 = .ok (.iconst 1, 1) := by decide +kernel
theorem dX12_adds_34 : decode cX12_adds 34 = .ok (.isub, 1) := by decide +kernel
theorem dX12_adds_35 : decode cX12_adds 35 = .ok (.ireturn, 1) := by decide +kernel
theorem dX12_checked_0 : decode cX12_checked 0 = .ok (.bipush 89, 2) := by decide +kernel
theorem dX12_checked_2 : decode cX12_checked 2 = .ok (.istore_n 2, 1) := by decide +kernel
theorem dX12_checked_3 : decode cX12_checked 3 = .ok (.iconst 0, 1) := by decide +kernel
theorem dX12_checked_4 : decode cX12_checked 4 = .ok (.istore_n 3, 1) := by decide +kernel
theorem dX12_checked_5 : decode cX12_checked 5 = .ok (.iload_n 3, 1) := by decide +kernel
theorem dX12_checked_6 : decode cX12_checked 6 = .ok (.iload_n 1, 1) := by decide +kernel
theorem dX12_checked_7 : decode cX12_checked 7 = .ok (.if_icmp .ge 21, 3) := by decide +kernel
theorem dX12_checked_10 : decode cX12_checked 10 = .ok (.iconst 3, 1) := by decide +kernel
theorem dX12_checked_11 : decode cX12_checked 11 = .ok (.iload_n 2, 1) := by decide +kernel
theorem dX12_checked_12 : decode cX12_checked 12 = .ok (.imul, 1) := by decide +kernel
theorem dX12_checked_13 : decode cX12_checked 13 = .ok (.aload_n 0, 1) := by decide +kernel
theorem dX12_checked_14 : decode cX12_checked 14 = .ok (.iload_n 3, 1) := by decide +kernel
theorem dX12_checked_15 : decode cX12_checked 15 = .ok (.iaload, 1) := by decide +kernel
theorem dX12_checked_16 : decode cX12_checked 16 = .ok (.iadd, 1) := by decide +kernel
theorem dX12_checked_17 : decode cX12_checked 17 = .ok (.sipush 251, 3) := by decide +kernel
theorem dX12_checked_20 : decode cX12_checked 20 = .ok (.irem, 1) := by decide +kernel
theorem dX12_checked_21 : decode cX12_checked 21 = .ok (.istore_n 2, 1) := by decide +kernel
theorem dX12_checked_22 : decode cX12_checked 22 = .ok (.iinc 3 1, 3) := by decide +kernel
theorem dX12_checked_25 : decode cX12_checked 25 = .ok (.goto (-20), 3) := by decide +kernel
theorem dX12_checked_28 : decode cX12_checked 28 = .ok (.iload_n 2, 1) := by decide +kernel
theorem dX12_checked_29 : decode cX12_checked 29 = .ok (.ireturn, 1) := by decide +kernel
theorem dX12_qOf_0 : decode cX12_qOf 0 = .ok (.iload_n 1, 1) := by decide +kernel
theorem dX12_qOf_1 : decode cX12_qOf 1 = .ok (.lookupswitch 11 #[], 11) := by decide +kernel
theorem dX12_qOf_12 : decode cX12_qOf 12 = .ok (.lload_n 2, 1) := by decide +kernel
theorem dX12_qOf_13 : decode cX12_qOf 13 = .ok (.lconst 0, 1) := by decide +kernel
theorem dX12_qOf_14 : decode cX12_qOf 14 = .ok (.aload_n 0, 1) := by decide +kernel
theorem dX12_qOf_15 : decode cX12_qOf 15 = .ok (.invokevirtual 410, 3) := by decide +kernel
theorem dX12_qOf_18 : decode cX12_qOf 18 = .ok (.iconst 1, 1) := by decide +kernel
theorem dX12_qOf_19 : decode cX12_qOf 19 = .ok (.isub, 1) := by decide +kernel
theorem dX12_qOf_20 : decode cX12_qOf 20 = .ok (.i2l, 1) := by decide +kernel
theorem dX12_qOf_21 : decode cX12_qOf 21 = .ok (.invokestatic 303, 3) := by decide +kernel
theorem dX12_qOf_24 : decode cX12_qOf 24 = .ok (.ifCond .eq 15, 3) := by decide +kernel
theorem dX12_qOf_27 : decode cX12_qOf 27 = .ok (.aload_n 0, 1) := by decide +kernel
theorem dX12_qOf_28 : decode cX12_qOf 28 = .ok (.iload 4, 2) := by decide +kernel
theorem dX12_qOf_30 : decode cX12_qOf 30 = .ok (.lload_n 2, 1) := by decide +kernel
theorem dX12_qOf_31 : decode cX12_qOf 31 = .ok (.l2i, 1) := by decide +kernel
theorem dX12_qOf_32 : decode cX12_qOf 32 = .ok (.invokevirtual 425, 3) := by decide +kernel
theorem dX12_qOf_35 : decode cX12_qOf 35 = .ok (.i2l, 1) := by decide +kernel
theorem dX12_qOf_36 : decode cX12_qOf 36 = .ok (.goto 4, 3) := by decide +kernel
theorem dX12_qOf_39 : decode cX12_qOf 39 = .ok (.lconst 0, 1) := by decide +kernel
theorem dX12_qOf_40 : decode cX12_qOf 40 = .ok (.lreturn, 1) := by decide +kernel
theorem dX12_warmIn_0 : decode cX12_warmIn 0 = .ok (.lconst 0, 1) := by decide +kernel
theorem dX12_warmIn_1 : decode cX12_warmIn 1 = .ok (.lstore_n 1, 1) := by decide +kernel
theorem dX12_warmIn_2 : decode cX12_warmIn 2 = .ok (.iconst 0, 1) := by decide +kernel
theorem dX12_warmIn_3 : decode cX12_warmIn 3 = .ok (.istore_n 3, 1) := by decide +kernel
theorem dX12_warmIn_4 : decode cX12_warmIn 4 = .ok (.iload_n 3, 1) := by decide +kernel
theorem dX12_warmIn_5 : decode cX12_warmIn 5 = .ok (.aload_n 0, 1) := by decide +kernel
theorem dX12_warmIn_6 : decode cX12_warmIn 6 = .ok (.invokevirtual 419, 3) := by decide +kernel
theorem dX12_warmIn_9 : decode cX12_warmIn 9 = .ok (.if_icmp .ge 38, 3) := by decide +kernel
theorem dX12_warmIn_12 : decode cX12_warmIn 12 = .ok (.aload_n 0, 1) := by decide +kernel
theorem dX12_warmIn_13 : decode cX12_warmIn 13 = .ok (.getfield 148, 3) := by decide +kernel
theorem dX12_warmIn_16 : decode cX12_warmIn 16 = .ok (.iload_n 3, 1) := by decide +kernel
theorem dX12_warmIn_17 : decode cX12_warmIn 17 = .ok (.iaload, 1) := by decide +kernel
theorem dX12_warmIn_18 : decode cX12_warmIn 18 = .ok (.ifCond .le 23, 3) := by decide +kernel
theorem dX12_warmIn_21 : decode cX12_warmIn 21 = .ok (.lload_n 1, 1) := by decide +kernel
theorem dX12_warmIn_22 : decode cX12_warmIn 22 = .ok (.aload_n 0, 1) := by decide +kernel
theorem dX12_warmIn_23 : decode cX12_warmIn 23 = .ok (.getfield 160, 3) := by decide +kernel
theorem dX12_warmIn_26 : decode cX12_warmIn 26 = .ok (.iconst 3, 1) := by decide +kernel
theorem dX12_warmIn_27 : decode cX12_warmIn 27 = .ok (.iload_n 3, 1) := by decide +kernel
theorem dX12_warmIn_28 : decode cX12_warmIn 28 = .ok (.imul, 1) := by decide +kernel
theorem dX12_warmIn_29 : decode cX12_warmIn 29 = .ok (.aload_n 0, 1) := by decide +kernel
theorem dX12_warmIn_30 : decode cX12_warmIn 30 = .ok (.getfield 148, 3) := by decide +kernel
theorem dX12_warmIn_33 : decode cX12_warmIn 33 = .ok (.iload_n 3, 1) := by decide +kernel
theorem dX12_warmIn_34 : decode cX12_warmIn 34 = .ok (.iaload, 1) := by decide +kernel
theorem dX12_warmIn_35 : decode cX12_warmIn 35 = .ok (.iadd, 1) := by decide +kernel
theorem dX12_warmIn_36 : decode cX12_warmIn 36 = .ok (.iconst 1, 1) := by decide +kernel
theorem dX12_warmIn_37 : decode cX12_warmIn 37 = .ok (.isub, 1) := by decide +kernel
theorem dX12_warmIn_38 : decode cX12_warmIn 38 = .ok (.laload, 1) := by decide +kernel
theorem dX12_warmIn_39 : decode cX12_warmIn 39 = .ok (.ladd, 1) := by decide +kernel
theorem dX12_warmIn_40 : decode cX12_warmIn 40 = .ok (.lstore_n 1, 1) := by decide +kernel
theorem dX12_warmIn_41 : decode cX12_warmIn 41 = .ok (.iinc 3 1, 3) := by decide +kernel
theorem dX12_warmIn_44 : decode cX12_warmIn 44 = .ok (.goto (-40), 3) := by decide +kernel
theorem dX12_warmIn_47 : decode cX12_warmIn 47 = .ok (.lload_n 1, 1) := by decide +kernel
theorem dX12_warmIn_48 : decode cX12_warmIn 48 = .ok (.lreturn, 1) := by decide +kernel
theorem dX12_watched_0 : decode cX12_watched 0 = .ok (.iload_n 1, 1) := by decide +kernel
theorem dX12_watched_1 : decode cX12_watched 1 = .ok (.i2l, 1) := by decide +kernel
theorem dX12_watched_2 : decode cX12_watched 2 = .ok (.lconst 0, 1) := by decide +kernel
theorem dX12_watched_3 : decode cX12_watched 3 = .ok (.lconst 1, 1) := by decide +kernel
theorem dX12_watched_4 : decode cX12_watched 4 = .ok (.invokestatic 303, 3) := by decide +kernel
theorem dX12_watched_7 : decode cX12_watched 7 = .ok (.ifCond .ne 5, 3) := by decide +kernel
theorem dX12_watched_10 : decode cX12_watched 10 = .ok (.iconst (-1), 1) := by decide +kernel
theorem dX12_watched_11 : decode cX12_watched 11 = .ok (.ireturn, 1) := by decide +kernel
theorem dX12_watched_12 : decode cX12_watched 12 = .ok (.aload_n 0, 1) := by decide +kernel
theorem dX12_watched_13 : decode cX12_watched 13 = .ok (.invokevirtual 566, 3) := by decide +kernel
theorem dX12_watched_16 : decode cX12_watched 16 = .ok (.istore_n 2, 1) := by decide +kernel
theorem dX12_watched_17 : decode cX12_watched 17 = .ok (.iconst (-1), 1) := by decide +kernel
theorem dX12_watched_18 : decode cX12_watched 18 = .ok (.istore_n 3, 1) := by decide +kernel
theorem dX12_watched_19 : decode cX12_watched 19 = .ok (.iconst 0, 1) := by decide +kernel
theorem dX12_watched_20 : decode cX12_watched 20 = .ok (.istore 4, 2) := by decide +kernel
theorem dX12_watched_22 : decode cX12_watched 22 = .ok (.iconst 0, 1) := by decide +kernel
theorem dX12_watched_23 : decode cX12_watched 23 = .ok (.istore 5, 2) := by decide +kernel
theorem dX12_watched_25 : decode cX12_watched 25 = .ok (.iload 5, 2) := by decide +kernel
theorem dX12_watched_27 : decode cX12_watched 27 = .ok (.aload_n 0, 1) := by decide +kernel
theorem dX12_watched_28 : decode cX12_watched 28 = .ok (.invokevirtual 419, 3) := by decide +kernel
theorem dX12_watched_31 : decode cX12_watched 31 = .ok (.if_icmp .ge 44, 3) := by decide +kernel
theorem dX12_watched_34 : decode cX12_watched 34 = .ok (.iload_n 2, 1) := by decide +kernel
theorem dX12_watched_35 : decode cX12_watched 35 = .ok (.ifCond .eq 40, 3) := by decide +kernel
theorem dX12_watched_38 : decode cX12_watched 38 = .ok (.aload_n 0, 1) := by decide +kernel
theorem dX12_watched_39 : decode cX12_watched 39 = .ok (.iload 5, 2) := by decide +kernel
theorem dX12_watched_41 : decode cX12_watched 41 = .ok (.iload_n 2, 1) := by decide +kernel
theorem dX12_watched_42 : decode cX12_watched 42 = .ok (.invokevirtual 569, 3) := by decide +kernel
theorem dX12_watched_45 : decode cX12_watched 45 = .ok (.istore 6, 2) := by decide +kernel
theorem dX12_watched_47 : decode cX12_watched 47 = .ok (.iload_n 3, 1) := by decide +kernel
theorem dX12_watched_48 : decode cX12_watched 48 = .ok (.iconst (-1), 1) := by decide +kernel
theorem dX12_watched_49 : decode cX12_watched 49 = .ok (.if_icmp .eq 13, 3) := by decide +kernel
theorem dX12_watched_52 : decode cX12_watched 52 = .ok (.iload 6, 2) := by decide +kernel
theorem dX12_watched_54 : decode cX12_watched 54 = .ok (.iload 4, 2) := by decide +kernel
theorem dX12_watched_56 : decode cX12_watched 56 = .ok (.if_icmp .lt 6, 3) := by decide +kernel
theorem dX12_watched_59 : decode cX12_watched 59 = .ok (.goto 10, 3) := by decide +kernel
theorem dX12_watched_62 : decode cX12_watched 62 = .ok (.iload 5, 2) := by decide +kernel
theorem dX12_watched_64 : decode cX12_watched 64 = .ok (.istore_n 3, 1) := by decide +kernel
theorem dX12_watched_65 : decode cX12_watched 65 = .ok (.iload 6, 2) := by decide +kernel
theorem dX12_watched_67 : decode cX12_watched 67 = .ok (.istore 4, 2) := by decide +kernel
theorem dX12_watched_69 : decode cX12_watched 69 = .ok (.iinc 5 1, 3) := by decide +kernel
theorem dX12_watched_72 : decode cX12_watched 72 = .ok (.goto (-47), 3) := by decide +kernel
theorem dX12_watched_75 : decode cX12_watched 75 = .ok (.iload_n 3, 1) := by decide +kernel
theorem dX12_watched_76 : decode cX12_watched 76 = .ok (.iconst (-1), 1) := by decide +kernel
theorem dX12_watched_77 : decode cX12_watched 77 = .ok (.if_icmp .ne 7, 3) := by decide +kernel
theorem dX12_watched_80 : decode cX12_watched 80 = .ok (.iconst (-1), 1) := by decide +kernel
theorem dX12_watched_81 : decode cX12_watched 81 = .ok (.goto 13, 3) := by decide +kernel
theorem dX12_watched_84 : decode cX12_watched 84 = .ok (.iload_n 1, 1) := by decide +kernel
theorem dX12_watched_85 : decode cX12_watched 85 = .ok (.ifCond .ne 7, 3) := by decide +kernel
theorem dX12_watched_88 : decode cX12_watched 88 = .ok (.iload_n 3, 1) := by decide +kernel
theorem dX12_watched_89 : decode cX12_watched 89 = .ok (.goto 5, 3) := by decide +kernel
theorem dX12_watched_92 : decode cX12_watched 92 = .ok (.iload 4, 2) := by decide +kernel
theorem dX12_watched_94 : decode cX12_watched 94 = .ok (.ireturn, 1) := by decide +kernel
theorem dX12_qTakes_0 : decode cX12_qTakes 0 = .ok (.iload_n 1, 1) := by decide +kernel
theorem dX12_qTakes_1 : decode cX12_qTakes 1 = .ok (.iconst 3, 1) := by decide +kernel
theorem dX12_qTakes_2 : decode cX12_qTakes 2 = .ok (.if_icmp .ge 13, 3) := by decide +kernel
theorem dX12_qTakes_5 : decode cX12_qTakes 5 = .ok (.lload_n 2, 1) := by decide +kernel
theorem dX12_qTakes_6 : decode cX12_qTakes 6 = .ok (.lconst 1, 1) := by decide +kernel
theorem dX12_qTakes_7 : decode cX12_qTakes 7 = .ok (.lcmp, 1) := by decide +kernel
theorem dX12_qTakes_8 : decode cX12_qTakes 8 = .ok (.ifCond .ne 7, 3) := by decide +kernel
theorem dX12_qTakes_11 : decode cX12_qTakes 11 = .ok (.iconst 1, 1) := by decide +kernel
theorem dX12_qTakes_12 : decode cX12_qTakes 12 = .ok (.goto 4, 3) := by decide +kernel
theorem dX12_qTakes_15 : decode cX12_qTakes 15 = .ok (.iconst 0, 1) := by decide +kernel
theorem dX12_qTakes_16 : decode cX12_qTakes 16 = .ok (.istore 5, 2) := by decide +kernel
theorem dX12_qTakes_18 : decode cX12_qTakes 18 = .ok (.iload_n 1, 1) := by decide +kernel
theorem dX12_qTakes_19 : decode cX12_qTakes 19 = .ok (.ifCond .ne 19, 3) := by decide +kernel
theorem dX12_qTakes_22 : decode cX12_qTakes 22 = .ok (.iload 5, 2) := by decide +kernel
theorem dX12_qTakes_24 : decode cX12_qTakes 24 = .ok (.ifCond .eq 14, 3) := by decide +kernel
theorem dX12_qTakes_27 : decode cX12_qTakes 27 = .ok (.aload_n 0, 1) := by decide +kernel
theorem dX12_qTakes_28 : decode cX12_qTakes 28 = .ok (.getfield 664, 3) := by decide +kernel
theorem dX12_qTakes_31 : decode cX12_qTakes 31 = .ok (.ldc2_w 667, 3) := by decide +kernel
theorem dX12_qTakes_34 : decode cX12_qTakes 34 = .ok (.lcmp, 1) := by decide +kernel
theorem dX12_qTakes_35 : decode cX12_qTakes 35 = .ok (.ifCond .eq 13, 3) := by decide +kernel
theorem dX12_qTakes_38 : decode cX12_qTakes 38 = .ok (.iload_n 1, 1) := by decide +kernel
theorem dX12_qTakes_39 : decode cX12_qTakes 39 = .ok (.iconst 1, 1) := by decide +kernel
theorem dX12_qTakes_40 : decode cX12_qTakes 40 = .ok (.if_icmp .ne 15, 3) := by decide +kernel
theorem dX12_qTakes_43 : decode cX12_qTakes 43 = .ok (.iload 5, 2) := by decide +kernel
theorem dX12_qTakes_45 : decode cX12_qTakes 45 = .ok (.ifCond .eq 10, 3) := by decide +kernel
theorem dX12_qTakes_48 : decode cX12_qTakes 48 = .ok (.aload_n 0, 1) := by decide +kernel
theorem dX12_qTakes_49 : decode cX12_qTakes 49 = .ok (.iload 4, 2) := by decide +kernel
theorem dX12_qTakes_51 : decode cX12_qTakes 51 = .ok (.i2l, 1) := by decide +kernel
theorem dX12_qTakes_52 : decode cX12_qTakes 52 = .ok (.putfield 664, 3) := by decide +kernel
theorem dX12_qTakes_55 : decode cX12_qTakes 55 = .ok (.iload_n 1, 1) := by decide +kernel
theorem dX12_qTakes_56 : decode cX12_qTakes 56 = .ok (.iconst 2, 1) := by decide +kernel
theorem dX12_qTakes_57 : decode cX12_qTakes 57 = .ok (.if_icmp .ne 18, 3) := by decide +kernel
theorem dX12_qTakes_60 : decode cX12_qTakes 60 = .ok (.iload 5, 2) := by decide +kernel
theorem dX12_qTakes_62 : decode cX12_qTakes 62 = .ok (.ifCond .eq 13, 3) := by decide +kernel
theorem dX12_qTakes_65 : decode cX12_qTakes 65 = .ok (.aload_n 0, 1) := by decide +kernel
theorem dX12_qTakes_66 : decode cX12_qTakes 66 = .ok (.dup, 1) := by decide +kernel
theorem dX12_qTakes_67 : decode cX12_qTakes 67 = .ok (.getfield 664, 3) := by decide +kernel
theorem dX12_qTakes_70 : decode cX12_qTakes 70 = .ok (.lconst 1, 1) := by decide +kernel
theorem dX12_qTakes_71 : decode cX12_qTakes 71 = .ok (.ladd, 1) := by decide +kernel
theorem dX12_qTakes_72 : decode cX12_qTakes 72 = .ok (.putfield 664, 3) := by decide +kernel
theorem dX12_qTakes_75 : decode cX12_qTakes 75 = .ok (.iload_n 1, 1) := by decide +kernel
theorem dX12_qTakes_76 : decode cX12_qTakes 76 = .ok (.iconst 3, 1) := by decide +kernel
theorem dX12_qTakes_77 : decode cX12_qTakes 77 = .ok (.if_icmp .ne 13, 3) := by decide +kernel
theorem dX12_qTakes_80 : decode cX12_qTakes 80 = .ok (.aload_n 0, 1) := by decide +kernel
theorem dX12_qTakes_81 : decode cX12_qTakes 81 = .ok (.dup, 1) := by decide +kernel
theorem dX12_qTakes_82 : decode cX12_qTakes 82 = .ok (.getfield 664, 3) := by decide +kernel
theorem dX12_qTakes_85 : decode cX12_qTakes 85 = .ok (.lload_n 2, 1) := by decide +kernel
theorem dX12_qTakes_86 : decode cX12_qTakes 86 = .ok (.ladd, 1) := by decide +kernel
theorem dX12_qTakes_87 : decode cX12_qTakes 87 = .ok (.putfield 664, 3) := by decide +kernel
theorem dX12_qTakes_90 : decode cX12_qTakes 90 = .ok (.iload_n 1, 1) := by decide +kernel
theorem dX12_qTakes_91 : decode cX12_qTakes 91 = .ok (.iconst 3, 1) := by decide +kernel
theorem dX12_qTakes_92 : decode cX12_qTakes 92 = .ok (.if_icmp .le 41, 3) := by decide +kernel
theorem dX12_qTakes_95 : decode cX12_qTakes 95 = .ok (.aload_n 0, 1) := by decide +kernel
theorem dX12_qTakes_96 : decode cX12_qTakes 96 = .ok (.getfield 669, 3) := by decide +kernel
theorem dX12_qTakes_99 : decode cX12_qTakes 99 = .ok (.ifCond .ne 29, 3) := by decide +kernel
theorem dX12_qTakes_102 : decode cX12_qTakes 102 = .ok (.iload_n 1, 1) := by decide +kernel
theorem dX12_qTakes_103 : decode cX12_qTakes 103 = .ok (.iconst 4, 1) := by decide +kernel
theorem dX12_qTakes_104 : decode cX12_qTakes 104 = .ok (.if_icmp .ne 15, 3) := by decide +kernel
theorem dX12_qTakes_107 : decode cX12_qTakes 107 = .ok (.lload_n 2, 1) := by decide +kernel
theorem dX12_qTakes_108 : decode cX12_qTakes 108 = .ok (.aload_n 0, 1) := by decide +kernel
theorem dX12_qTakes_109 : decode cX12_qTakes 109 = .ok (.getfield 664, 3) := by decide +kernel
theorem dX12_qTakes_112 : decode cX12_qTakes 112 = .ok (.lcmp, 1) := by decide +kernel
theorem dX12_qTakes_113 : decode cX12_qTakes 113 = .ok (.ifCond .le 20, 3) := by decide +kernel
theorem dX12_qTakes_116 : decode cX12_qTakes 116 = .ok (.goto 12, 3) := by decide +kernel
theorem dX12_qTakes_119 : decode cX12_qTakes 119 = .ok (.lload_n 2, 1) := by decide +kernel
theorem dX12_qTakes_120 : decode cX12_qTakes 120 = .ok (.aload_n 0, 1) := by decide +kernel
theorem dX12_qTakes_121 : decode cX12_qTakes 121 = .ok (.getfield 664, 3) := by decide +kernel
theorem dX12_qTakes_124 : decode cX12_qTakes 124 = .ok (.lcmp, 1) := by decide +kernel
theorem dX12_qTakes_125 : decode cX12_qTakes 125 = .ok (.ifCond .ge 8, 3) := by decide +kernel
theorem dX12_qTakes_128 : decode cX12_qTakes 128 = .ok (.aload_n 0, 1) := by decide +kernel
theorem dX12_qTakes_129 : decode cX12_qTakes 129 = .ok (.lload_n 2, 1) := by decide +kernel
theorem dX12_qTakes_130 : decode cX12_qTakes 130 = .ok (.putfield 664, 3) := by decide +kernel
theorem dX12_qTakes_133 : decode cX12_qTakes 133 = .ok (.aload_n 0, 1) := by decide +kernel
theorem dX12_qTakes_134 : decode cX12_qTakes 134 = .ok (.iconst 0, 1) := by decide +kernel
theorem dX12_qTakes_135 : decode cX12_qTakes 135 = .ok (.putfield 669, 3) := by decide +kernel
theorem dX12_qTakes_138 : decode cX12_qTakes 138 = .ok (.return_, 1) := by decide +kernel
theorem dX12_qPuts_0 : decode cX12_qPuts 0 = .ok (.aload_n 0, 1) := by decide +kernel
theorem dX12_qPuts_1 : decode cX12_qPuts 1 = .ok (.getfield 254, 3) := by decide +kernel
theorem dX12_qPuts_4 : decode cX12_qPuts 4 = .ok (.aload_n 0, 1) := by decide +kernel
theorem dX12_qPuts_5 : decode cX12_qPuts 5 = .ok (.getfield 431, 3) := by decide +kernel
theorem dX12_qPuts_8 : decode cX12_qPuts 8 = .ok (.lload_n 1, 1) := by decide +kernel
theorem dX12_qPuts_9 : decode cX12_qPuts 9 = .ok (.lastore, 1) := by decide +kernel
theorem dX12_qPuts_10 : decode cX12_qPuts 10 = .ok (.aload_n 0, 1) := by decide +kernel
theorem dX12_qPuts_11 : decode cX12_qPuts 11 = .ok (.dup, 1) := by decide +kernel
theorem dX12_qPuts_12 : decode cX12_qPuts 12 = .ok (.getfield 431, 3) := by decide +kernel
theorem dX12_qPuts_15 : decode cX12_qPuts 15 = .ok (.iconst 1, 1) := by decide +kernel
theorem dX12_qPuts_16 : decode cX12_qPuts 16 = .ok (.iadd, 1) := by decide +kernel
theorem dX12_qPuts_17 : decode cX12_qPuts 17 = .ok (.putfield 431, 3) := by decide +kernel
theorem dX12_qPuts_20 : decode cX12_qPuts 20 = .ok (.return_, 1) := by decide +kernel
theorem dX12_qSums_0 : decode cX12_qSums 0 = .ok (.aload_n 0, 1) := by decide +kernel
theorem dX12_qSums_1 : decode cX12_qSums 1 = .ok (.getfield 361, 3) := by decide +kernel
theorem dX12_qSums_4 : decode cX12_qSums 4 = .ok (.istore_n 1, 1) := by decide +kernel
theorem dX12_qSums_5 : decode cX12_qSums 5 = .ok (.aload_n 0, 1) := by decide +kernel
theorem dX12_qSums_6 : decode cX12_qSums 6 = .ok (.aload_n 0, 1) := by decide +kernel
theorem dX12_qSums_7 : decode cX12_qSums 7 = .ok (.getfield 355, 3) := by decide +kernel
theorem dX12_qSums_10 : decode cX12_qSums 10 = .ok (.putfield 361, 3) := by decide +kernel
theorem dX12_qSums_13 : decode cX12_qSums 13 = .ok (.iconst 1, 1) := by decide +kernel
theorem dX12_qSums_14 : decode cX12_qSums 14 = .ok (.istore_n 2, 1) := by decide +kernel
theorem dX12_qSums_15 : decode cX12_qSums 15 = .ok (.iload_n 2, 1) := by decide +kernel
theorem dX12_qSums_16 : decode cX12_qSums 16 = .ok (.ifCond .eq 37, 3) := by decide +kernel
theorem dX12_qSums_19 : decode cX12_qSums 19 = .ok (.aload_n 0, 1) := by decide +kernel
theorem dX12_qSums_20 : decode cX12_qSums 20 = .ok (.getfield 263, 3) := by decide +kernel
theorem dX12_qSums_23 : decode cX12_qSums 23 = .ok (.ifCond .ne 30, 3) := by decide +kernel
theorem dX12_qSums_26 : decode cX12_qSums 26 = .ok (.aload_n 0, 1) := by decide +kernel
theorem dX12_qSums_27 : decode cX12_qSums 27 = .ok (.invokevirtual 630, 3) := by decide +kernel
theorem dX12_qSums_30 : decode cX12_qSums 30 = .ok (.aload_n 0, 1) := by decide +kernel
theorem dX12_qSums_31 : decode cX12_qSums 31 = .ok (.getfield 263, 3) := by decide +kernel
theorem dX12_qSums_34 : decode cX12_qSums 34 = .ok (.ifCond .ne 14, 3) := by decide +kernel
theorem dX12_qSums_37 : decode cX12_qSums 37 = .ok (.aload_n 0, 1) := by decide +kernel
theorem dX12_qSums_38 : decode cX12_qSums 38 = .ok (.invokevirtual 633, 3) := by decide +kernel
theorem dX12_qSums_41 : decode cX12_qSums 41 = .ok (.ifCond .eq 7, 3) := by decide +kernel
theorem dX12_qSums_44 : decode cX12_qSums 44 = .ok (.iconst 1, 1) := by decide +kernel
theorem dX12_qSums_45 : decode cX12_qSums 45 = .ok (.goto 4, 3) := by decide +kernel
theorem dX12_qSums_48 : decode cX12_qSums 48 = .ok (.iconst 0, 1) := by decide +kernel
theorem dX12_qSums_49 : decode cX12_qSums 49 = .ok (.istore_n 2, 1) := by decide +kernel
theorem dX12_qSums_50 : decode cX12_qSums 50 = .ok (.goto (-35), 3) := by decide +kernel
theorem dX12_qSums_53 : decode cX12_qSums 53 = .ok (.aload_n 0, 1) := by decide +kernel
theorem dX12_qSums_54 : decode cX12_qSums 54 = .ok (.getfield 263, 3) := by decide +kernel
theorem dX12_qSums_57 : decode cX12_qSums 57 = .ok (.ifCond .ne 21, 3) := by decide +kernel
theorem dX12_qSums_60 : decode cX12_qSums 60 = .ok (.aload_n 0, 1) := by decide +kernel
theorem dX12_qSums_61 : decode cX12_qSums 61 = .ok (.getfield 355, 3) := by decide +kernel
theorem dX12_qSums_64 : decode cX12_qSums 64 = .ok (.aload_n 0, 1) := by decide +kernel
theorem dX12_qSums_65 : decode cX12_qSums 65 = .ok (.getfield 361, 3) := by decide +kernel
theorem dX12_qSums_68 : decode cX12_qSums 68 = .ok (.if_icmp .le 10, 3) := by decide +kernel
theorem dX12_qSums_71 : decode cX12_qSums 71 = .ok (.aload_n 0, 1) := by decide +kernel
theorem dX12_qSums_72 : decode cX12_qSums 72 = .ok (.invokevirtual 600, 3) := by decide +kernel
theorem dX12_qSums_75 : decode cX12_qSums 75 = .ok (.goto (-22), 3) := by decide +kernel
theorem dX12_qSums_78 : decode cX12_qSums 78 = .ok (.aload_n 0, 1) := by decide +kernel
theorem dX12_qSums_79 : decode cX12_qSums 79 = .ok (.iload_n 1, 1) := by decide +kernel
theorem dX12_qSums_80 : decode cX12_qSums 80 = .ok (.putfield 361, 3) := by decide +kernel
theorem dX12_qSums_83 : decode cX12_qSums 83 = .ok (.return_, 1) := by decide +kernel
theorem dX12_warms_0 : decode cX12_warms 0 = .ok (.aload_n 0, 1) := by decide +kernel
theorem dX12_warms_1 : decode cX12_warms 1 = .ok (.invokevirtual 485, 3) := by decide +kernel
theorem dX12_warms_4 : decode cX12_warms 4 = .ok (.pop, 1) := by decide +kernel
theorem dX12_warms_5 : decode cX12_warms 5 = .ok (.aload_n 0, 1) := by decide +kernel
theorem dX12_warms_6 : decode cX12_warms 6 = .ok (.getfield 470, 3) := by decide +kernel
theorem dX12_warms_9 : decode cX12_warms 9 = .ok (.lreturn, 1) := by decide +kernel
theorem dX12_later_0 : decode cX12_later 0 = .ok (.aload_n 0, 1) := by decide +kernel
theorem dX12_later_1 : decode cX12_later 1 = .ok (.iload_n 1, 1) := by decide +kernel
theorem dX12_later_2 : decode cX12_later 2 = .ok (.iconst 0, 1) := by decide +kernel
theorem dX12_later_3 : decode cX12_later 3 = .ok (.bipush 30, 2) := by decide +kernel
theorem dX12_later_5 : decode cX12_later 5 = .ok (.invokevirtual 524, 3) := by decide +kernel
theorem dX12_later_8 : decode cX12_later 8 = .ok (.ifCond .ne 5, 3) := by decide +kernel
theorem dX12_later_11 : decode cX12_later 11 = .ok (.iconst (-1), 1) := by decide +kernel
theorem dX12_later_12 : decode cX12_later 12 = .ok (.ireturn, 1) := by decide +kernel
theorem dX12_later_13 : decode cX12_later 13 = .ok (.aload_n 0, 1) := by decide +kernel
theorem dX12_later_14 : decode cX12_later 14 = .ok (.invokevirtual 527, 3) := by decide +kernel
theorem dX12_later_17 : decode cX12_later 17 = .ok (.iconst 0, 1) := by decide +kernel
theorem dX12_later_18 : decode cX12_later 18 = .ok (.istore_n 2, 1) := by decide +kernel
theorem dX12_later_19 : decode cX12_later 19 = .ok (.iload_n 2, 1) := by decide +kernel
theorem dX12_later_20 : decode cX12_later 20 = .ok (.iload_n 1, 1) := by decide +kernel
theorem dX12_later_21 : decode cX12_later 21 = .ok (.if_icmp .ge 14, 3) := by decide +kernel
theorem dX12_later_24 : decode cX12_later 24 = .ok (.aload_n 0, 1) := by decide +kernel
theorem dX12_later_25 : decode cX12_later 25 = .ok (.invokevirtual 530, 3) := by decide +kernel
theorem dX12_later_28 : decode cX12_later 28 = .ok (.pop, 1) := by decide +kernel
theorem dX12_later_29 : decode cX12_later 29 = .ok (.iinc 2 1, 3) := by decide +kernel
theorem dX12_later_32 : decode cX12_later 32 = .ok (.goto (-13), 3) := by decide +kernel
theorem dX12_later_35 : decode cX12_later 35 = .ok (.aload_n 0, 1) := by decide +kernel
theorem dX12_later_36 : decode cX12_later 36 = .ok (.invokevirtual 533, 3) := by decide +kernel
theorem dX12_later_39 : decode cX12_later 39 = .ok (.istore_n 2, 1) := by decide +kernel
theorem dX12_later_40 : decode cX12_later 40 = .ok (.aload_n 0, 1) := by decide +kernel
theorem dX12_later_41 : decode cX12_later 41 = .ok (.invokevirtual 536, 3) := by decide +kernel
theorem dX12_later_44 : decode cX12_later 44 = .ok (.iload_n 2, 1) := by decide +kernel
theorem dX12_later_45 : decode cX12_later 45 = .ok (.ireturn, 1) := by decide +kernel
theorem dX12_isSheetNear_0 : decode cX12_isSheetNear 0 = .ok (.iconst 0, 1) := by decide +kernel
theorem dX12_isSheetNear_1 : decode cX12_isSheetNear 1 = .ok (.istore_n 3, 1) := by decide +kernel
theorem dX12_isSheetNear_2 : decode cX12_isSheetNear 2 = .ok (.iload_n 3, 1) := by decide +kernel
theorem dX12_isSheetNear_3 : decode cX12_isSheetNear 3 = .ok (.aload_n 0, 1) := by decide +kernel
theorem dX12_isSheetNear_4 : decode cX12_isSheetNear 4 = .ok (.invokevirtual 419, 3) := by decide +kernel
theorem dX12_isSheetNear_7 : decode cX12_isSheetNear 7 = .ok (.if_icmp .ge 37, 3) := by decide +kernel
theorem dX12_isSheetNear_10 : decode cX12_isSheetNear 10 = .ok (.aload_n 0, 1) := by decide +kernel
theorem dX12_isSheetNear_11 : decode cX12_isSheetNear 11 = .ok (.getfield 121, 3) := by decide +kernel
theorem dX12_isSheetNear_14 : decode cX12_isSheetNear 14 = .ok (.bipush 8, 2) := by decide +kernel
theorem dX12_isSheetNear_16 : decode cX12_isSheetNear 16 = .ok (.iload_n 1, 1) := by decide +kernel
theorem dX12_isSheetNear_17 : decode cX12_isSheetNear 17 = .ok (.iadd, 1) := by decide +kernel
theorem dX12_isSheetNear_18 : decode cX12_isSheetNear 18 = .ok (.iaload, 1) := by decide +kernel
theorem dX12_isSheetNear_19 : decode cX12_isSheetNear 19 = .ok (.iload_n 3, 1) := by decide +kernel
theorem dX12_isSheetNear_20 : decode cX12_isSheetNear 20 = .ok (.ishr, 1) := by decide +kernel
theorem dX12_isSheetNear_21 : decode cX12_isSheetNear 21 = .ok (.iconst 1, 1) := by decide +kernel
theorem dX12_isSheetNear_22 : decode cX12_isSheetNear 22 = .ok (.iand, 1) := by decide +kernel
theorem dX12_isSheetNear_23 : decode cX12_isSheetNear 23 = .ok (.iconst 1, 1) := by decide +kernel
theorem dX12_isSheetNear_24 : decode cX12_isSheetNear 24 = .ok (.if_icmp .ne 14, 3) := by decide +kernel
theorem dX12_isSheetNear_27 : decode cX12_isSheetNear 27 = .ok (.aload_n 0, 1) := by decide +kernel
theorem dX12_isSheetNear_28 : decode cX12_isSheetNear 28 = .ok (.iload_n 3, 1) := by decide +kernel
theorem dX12_isSheetNear_29 : decode cX12_isSheetNear 29 = .ok (.invokevirtual 504, 3) := by decide +kernel
theorem dX12_isSheetNear_32 : decode cX12_isSheetNear 32 = .ok (.iload_n 2, 1) := by decide +kernel
theorem dX12_isSheetNear_33 : decode cX12_isSheetNear 33 = .ok (.if_icmp .ne 5, 3) := by decide +kernel
theorem dX12_isSheetNear_36 : decode cX12_isSheetNear 36 = .ok (.iconst 1, 1) := by decide +kernel
theorem dX12_isSheetNear_37 : decode cX12_isSheetNear 37 = .ok (.ireturn, 1) := by decide +kernel
theorem dX12_isSheetNear_38 : decode cX12_isSheetNear 38 = .ok (.iinc 3 1, 3) := by decide +kernel
theorem dX12_isSheetNear_41 : decode cX12_isSheetNear 41 = .ok (.goto (-39), 3) := by decide +kernel
theorem dX12_isSheetNear_44 : decode cX12_isSheetNear 44 = .ok (.iconst 0, 1) := by decide +kernel
theorem dX12_isSheetNear_45 : decode cX12_isSheetNear 45 = .ok (.ireturn, 1) := by decide +kernel
theorem dX12_isAhead_0 : decode cX12_isAhead 0 = .ok (.iload_n 1, 1) := by decide +kernel
theorem dX12_isAhead_1 : decode cX12_isAhead 1 = .ok (.i2l, 1) := by decide +kernel
theorem dX12_isAhead_2 : decode cX12_isAhead 2 = .ok (.iload_n 2, 1) := by decide +kernel
theorem dX12_isAhead_3 : decode cX12_isAhead 3 = .ok (.i2l, 1) := by decide +kernel
theorem dX12_isAhead_4 : decode cX12_isAhead 4 = .ok (.iload_n 3, 1) := by decide +kernel
theorem dX12_isAhead_5 : decode cX12_isAhead 5 = .ok (.i2l, 1) := by decide +kernel
theorem dX12_isAhead_6 : decode cX12_isAhead 6 = .ok (.invokestatic 303, 3) := by decide +kernel
theorem dX12_isAhead_9 : decode cX12_isAhead 9 = .ok (.ifCond .eq 21, 3) := by decide +kernel
theorem dX12_isAhead_12 : decode cX12_isAhead 12 = .ok (.aload_n 0, 1) := by decide +kernel
theorem dX12_isAhead_13 : decode cX12_isAhead 13 = .ok (.getfield 142, 3) := by decide +kernel
theorem dX12_isAhead_16 : decode cX12_isAhead 16 = .ok (.iconst 0, 1) := by decide +kernel
theorem dX12_isAhead_17 : decode cX12_isAhead 17 = .ok (.iaload, 1) := by decide +kernel
theorem dX12_isAhead_18 : decode cX12_isAhead 18 = .ok (.iload_n 1, 1) := by decide +kernel
theorem dX12_isAhead_19 : decode cX12_isAhead 19 = .ok (.iadd, 1) := by decide +kernel
theorem dX12_isAhead_20 : decode cX12_isAhead 20 = .ok (.sipush 999, 3) := by decide +kernel
theorem dX12_isAhead_23 : decode cX12_isAhead 23 = .ok (.if_icmp .gt 7, 3) := by decide +kernel
theorem dX12_isAhead_26 : decode cX12_isAhead 26 = .ok (.iconst 1, 1) := by decide +kernel
theorem dX12_isAhead_27 : decode cX12_isAhead 27 = .ok (.goto 4, 3) := by decide +kernel
theorem dX12_isAhead_30 : decode cX12_isAhead 30 = .ok (.iconst 0, 1) := by decide +kernel
theorem dX12_isAhead_31 : decode cX12_isAhead 31 = .ok (.ireturn, 1) := by decide +kernel
theorem dX12_qWordHere_0 : decode cX12_qWordHere 0 = .ok (.aload_n 0, 1) := by decide +kernel
theorem dX12_qWordHere_1 : decode cX12_qWordHere 1 = .ok (.aload_n 0, 1) := by decide +kernel
theorem dX12_qWordHere_2 : decode cX12_qWordHere 2 = .ok (.getfield 215, 3) := by decide +kernel
theorem dX12_qWordHere_5 : decode cX12_qWordHere 5 = .ok (.invokevirtual 286, 3) := by decide +kernel
theorem dX12_qWordHere_8 : decode cX12_qWordHere 8 = .ok (.ifCond .eq 5, 3) := by decide +kernel
theorem dX12_qWordHere_11 : decode cX12_qWordHere 11 = .ok (.iconst 0, 1) := by decide +kernel
theorem dX12_qWordHere_12 : decode cX12_qWordHere 12 = .ok (.ireturn, 1) := by decide +kernel
theorem dX12_qWordHere_13 : decode cX12_qWordHere 13 = .ok (.aload_n 0, 1) := by decide +kernel
theorem dX12_qWordHere_14 : decode cX12_qWordHere 14 = .ok (.aload_n 0, 1) := by decide +kernel
theorem dX12_qWordHere_15 : decode cX12_qWordHere 15 = .ok (.getfield 218, 3) := by decide +kernel
theorem dX12_qWordHere_18 : decode cX12_qWordHere 18 = .ok (.invokevirtual 286, 3) := by decide +kernel
theorem dX12_qWordHere_21 : decode cX12_qWordHere 21 = .ok (.ifCond .eq 5, 3) := by decide +kernel
theorem dX12_qWordHere_24 : decode cX12_qWordHere 24 = .ok (.iconst 1, 1) := by decide +kernel
theorem dX12_qWordHere_25 : decode cX12_qWordHere 25 = .ok (.ireturn, 1) := by decide +kernel
theorem dX12_qWordHere_26 : decode cX12_qWordHere 26 = .ok (.aload_n 0, 1) := by decide +kernel
theorem dX12_qWordHere_27 : decode cX12_qWordHere 27 = .ok (.aload_n 0, 1) := by decide +kernel
theorem dX12_qWordHere_28 : decode cX12_qWordHere 28 = .ok (.getfield 221, 3) := by decide +kernel
theorem dX12_qWordHere_31 : decode cX12_qWordHere 31 = .ok (.invokevirtual 286, 3) := by decide +kernel
theorem dX12_qWordHere_34 : decode cX12_qWordHere 34 = .ok (.ifCond .eq 5, 3) := by decide +kernel
theorem dX12_qWordHere_37 : decode cX12_qWordHere 37 = .ok (.iconst 2, 1) := by decide +kernel
theorem dX12_qWordHere_38 : decode cX12_qWordHere 38 = .ok (.ireturn, 1) := by decide +kernel
theorem dX12_qWordHere_39 : decode cX12_qWordHere 39 = .ok (.aload_n 0, 1) := by decide +kernel
theorem dX12_qWordHere_40 : decode cX12_qWordHere 40 = .ok (.aload_n 0, 1) := by decide +kernel
theorem dX12_qWordHere_41 : decode cX12_qWordHere 41 = .ok (.getfield 224, 3) := by decide +kernel
theorem dX12_qWordHere_44 : decode cX12_qWordHere 44 = .ok (.invokevirtual 286, 3) := by decide +kernel
theorem dX12_qWordHere_47 : decode cX12_qWordHere 47 = .ok (.ifCond .eq 5, 3) := by decide +kernel
theorem dX12_qWordHere_50 : decode cX12_qWordHere 50 = .ok (.iconst 3, 1) := by decide +kernel
theorem dX12_qWordHere_51 : decode cX12_qWordHere 51 = .ok (.ireturn, 1) := by decide +kernel
theorem dX12_qWordHere_52 : decode cX12_qWordHere 52 = .ok (.aload_n 0, 1) := by decide +kernel
theorem dX12_qWordHere_53 : decode cX12_qWordHere 53 = .ok (.aload_n 0, 1) := by decide +kernel
theorem dX12_qWordHere_54 : decode cX12_qWordHere 54 = .ok (.getfield 227, 3) := by decide +kernel
theorem dX12_qWordHere_57 : decode cX12_qWordHere 57 = .ok (.invokevirtual 286, 3) := by decide +kernel
theorem dX12_qWordHere_60 : decode cX12_qWordHere 60 = .ok (.ifCond .eq 5, 3) := by decide +kernel
theorem dX12_qWordHere_63 : decode cX12_qWordHere 63 = .ok (.iconst 4, 1) := by decide +kernel
theorem dX12_qWordHere_64 : decode cX12_qWordHere 64 = .ok (.ireturn, 1) := by decide +kernel
theorem dX12_qWordHere_65 : decode cX12_qWordHere 65 = .ok (.aload_n 0, 1) := by decide +kernel
theorem dX12_qWordHere_66 : decode cX12_qWordHere 66 = .ok (.aload_n 0, 1) := by decide +kernel
theorem dX12_qWordHere_67 : decode cX12_qWordHere 67 = .ok (.getfield 230, 3) := by decide +kernel
theorem dX12_qWordHere_70 : decode cX12_qWordHere 70 = .ok (.invokevirtual 286, 3) := by decide +kernel
theorem dX12_qWordHere_73 : decode cX12_qWordHere 73 = .ok (.ifCond .eq 5, 3) := by decide +kernel
theorem dX12_qWordHere_76 : decode cX12_qWordHere 76 = .ok (.iconst 5, 1) := by decide +kernel
theorem dX12_qWordHere_77 : decode cX12_qWordHere 77 = .ok (.ireturn, 1) := by decide +kernel
theorem dX12_qWordHere_78 : decode cX12_qWordHere 78 = .ok (.aload_n 0, 1) := by decide +kernel
theorem dX12_qWordHere_79 : decode cX12_qWordHere 79 = .ok (.aload_n 0, 1) := by decide +kernel
theorem dX12_qWordHere_80 : decode cX12_qWordHere 80 = .ok (.getfield 233, 3) := by decide +kernel
theorem dX12_qWordHere_83 : decode cX12_qWordHere 83 = .ok (.invokevirtual 286, 3) := by decide +kernel
theorem dX12_qWordHere_86 : decode cX12_qWordHere 86 = .ok (.ifCond .eq 6, 3) := by decide +kernel
theorem dX12_qWordHere_89 : decode cX12_qWordHere 89 = .ok (.bipush 6, 2) := by decide +kernel
theorem dX12_qWordHere_91 : decode cX12_qWordHere 91 = .ok (.ireturn, 1) := by decide +kernel
theorem dX12_qWordHere_92 : decode cX12_qWordHere 92 = .ok (.aload_n 0, 1) := by decide +kernel
theorem dX12_qWordHere_93 : decode cX12_qWordHere 93 = .ok (.aload_n 0, 1) := by decide +kernel
theorem dX12_qWordHere_94 : decode cX12_qWordHere 94 = .ok (.getfield 236, 3) := by decide +kernel
theorem dX12_qWordHere_97 : decode cX12_qWordHere 97 = .ok (.invokevirtual 286, 3) := by decide +kernel
theorem dX12_qWordHere_100 : decode cX12_qWordHere 100 = .ok (.ifCond .eq 6, 3) := by decide +kernel
theorem dX12_qWordHere_103 : decode cX12_qWordHere 103 = .ok (.bipush 7, 2) := by decide +kernel
theorem dX12_qWordHere_105 : decode cX12_qWordHere 105 = .ok (.ireturn, 1) := by decide +kernel
theorem dX12_qWordHere_106 : decode cX12_qWordHere 106 = .ok (.aload_n 0, 1) := by decide +kernel
theorem dX12_qWordHere_107 : decode cX12_qWordHere 107 = .ok (.aload_n 0, 1) := by decide +kernel
theorem dX12_qWordHere_108 : decode cX12_qWordHere 108 = .ok (.getfield 239, 3) := by decide +kernel
theorem dX12_qWordHere_111 : decode cX12_qWordHere 111 = .ok (.invokevirtual 286, 3) := by decide +kernel
theorem dX12_qWordHere_114 : decode cX12_qWordHere 114 = .ok (.ifCond .eq 6, 3) := by decide +kernel
theorem dX12_qWordHere_117 : decode cX12_qWordHere 117 = .ok (.bipush 8, 2) := by decide +kernel
theorem dX12_qWordHere_119 : decode cX12_qWordHere 119 = .ok (.ireturn, 1) := by decide +kernel
theorem dX12_qWordHere_120 : decode cX12_qWordHere 120 = .ok (.aload_n 0, 1) := by decide +kernel
theorem dX12_qWordHere_121 : decode cX12_qWordHere 121 = .ok (.aload_n 0, 1) := by decide +kernel
theorem dX12_qWordHere_122 : decode cX12_qWordHere 122 = .ok (.getfield 242, 3) := by decide +kernel
theorem dX12_qWordHere_125 : decode cX12_qWordHere 125 = .ok (.invokevirtual 286, 3) := by decide +kernel
theorem dX12_qWordHere_128 : decode cX12_qWordHere 128 = .ok (.ifCond .eq 6, 3) := by decide +kernel
theorem dX12_qWordHere_131 : decode cX12_qWordHere 131 = .ok (.bipush 9, 2) := by decide +kernel
theorem dX12_qWordHere_133 : decode cX12_qWordHere 133 = .ok (.ireturn, 1) := by decide +kernel
theorem dX12_qWordHere_134 : decode cX12_qWordHere 134 = .ok (.aload_n 0, 1) := by decide +kernel
theorem dX12_qWordHere_135 : decode cX12_qWordHere 135 = .ok (.aload_n 0, 1) := by decide +kernel
theorem dX12_qWordHere_136 : decode cX12_qWordHere 136 = .ok (.getfield 245, 3) := by decide +kernel
theorem dX12_qWordHere_139 : decode cX12_qWordHere 139 = .ok (.invokevirtual 286, 3) := by decide +kernel
theorem dX12_qWordHere_142 : decode cX12_qWordHere 142 = .ok (.ifCond .eq 6, 3) := by decide +kernel
theorem dX12_qWordHere_145 : decode cX12_qWordHere 145 = .ok (.bipush 10, 2) := by decide +kernel
theorem dX12_qWordHere_147 : decode cX12_qWordHere 147 = .ok (.ireturn, 1) := by decide +kernel
theorem dX12_qWordHere_148 : decode cX12_qWordHere 148 = .ok (.iconst (-1), 1) := by decide +kernel
theorem dX12_qWordHere_149 : decode cX12_qWordHere 149 = .ok (.ireturn, 1) := by decide +kernel
theorem dX12_children_0 : decode cX12_children 0 = .ok (.iload_n 1, 1) := by decide +kernel
theorem dX12_children_1 : decode cX12_children 1 = .ok (.iconst (-1), 1) := by decide +kernel
theorem dX12_children_2 : decode cX12_children 2 = .ok (.if_icmp .eq 13, 3) := by decide +kernel
theorem dX12_children_5 : decode cX12_children 5 = .ok (.aload_n 0, 1) := by decide +kernel
theorem dX12_children_6 : decode cX12_children 6 = .ok (.iload_n 1, 1) := by decide +kernel
theorem dX12_children_7 : decode cX12_children 7 = .ok (.invokevirtual 501, 3) := by decide +kernel
theorem dX12_children_10 : decode cX12_children 10 = .ok (.ifCond .ne 5, 3) := by decide +kernel
theorem dX12_children_13 : decode cX12_children 13 = .ok (.iconst (-1), 1) := by decide +kernel
theorem dX12_children_14 : decode cX12_children 14 = .ok (.ireturn, 1) := by decide +kernel
theorem dX12_children_15 : decode cX12_children 15 = .ok (.iconst 0, 1) := by decide +kernel
theorem dX12_children_16 : decode cX12_children 16 = .ok (.istore_n 2, 1) := by decide +kernel
theorem dX12_children_17 : decode cX12_children 17 = .ok (.iload_n 2, 1) := by decide +kernel
theorem dX12_children_18 : decode cX12_children 18 = .ok (.bipush 8, 2) := by decide +kernel
theorem dX12_children_20 : decode cX12_children 20 = .ok (.if_icmp .ge 23, 3) := by decide +kernel
theorem dX12_children_23 : decode cX12_children 23 = .ok (.aload_n 0, 1) := by decide +kernel
theorem dX12_children_24 : decode cX12_children 24 = .ok (.getfield 148, 3) := by decide +kernel
theorem dX12_children_27 : decode cX12_children 27 = .ok (.iload_n 2, 1) := by decide +kernel
theorem dX12_children_28 : decode cX12_children 28 = .ok (.iconst 0, 1) := by decide +kernel
theorem dX12_children_29 : decode cX12_children 29 = .ok (.iastore, 1) := by decide +kernel
theorem dX12_children_30 : decode cX12_children 30 = .ok (.aload_n 0, 1) := by decide +kernel
theorem dX12_children_31 : decode cX12_children 31 = .ok (.getfield 154, 3) := by decide +kernel
theorem dX12_children_34 : decode cX12_children 34 = .ok (.iload_n 2, 1) := by decide +kernel
theorem dX12_children_35 : decode cX12_children 35 = .ok (.iconst 0, 1) := by decide +kernel
theorem dX12_children_36 : decode cX12_children 36 = .ok (.iastore, 1) := by decide +kernel
theorem dX12_children_37 : decode cX12_children 37 = .ok (.iinc 2 1, 3) := by decide +kernel
theorem dX12_children_40 : decode cX12_children 40 = .ok (.goto (-23), 3) := by decide +kernel
theorem dX12_children_43 : decode cX12_children 43 = .ok (.aload_n 0, 1) := by decide +kernel
theorem dX12_children_44 : decode cX12_children 44 = .ok (.invokevirtual 554, 3) := by decide +kernel
theorem dX12_children_47 : decode cX12_children 47 = .ok (.lstore_n 2, 1) := by decide +kernel
theorem dX12_children_48 : decode cX12_children 48 = .ok (.aload_n 0, 1) := by decide +kernel
theorem dX12_children_49 : decode cX12_children 49 = .ok (.invokevirtual 557, 3) := by decide +kernel
theorem dX12_children_52 : decode cX12_children 52 = .ok (.ifCond .eq 55, 3) := by decide +kernel
theorem dX12_children_55 : decode cX12_children 55 = .ok (.aload_n 0, 1) := by decide +kernel
theorem dX12_children_56 : decode cX12_children 56 = .ok (.invokevirtual 554, 3) := by decide +kernel
theorem dX12_children_59 : decode cX12_children 59 = .ok (.lstore 4, 2) := by decide +kernel
theorem dX12_children_61 : decode cX12_children 61 = .ok (.lload 4, 2) := by decide +kernel
theorem dX12_children_63 : decode cX12_children 63 = .ok (.lload_n 2, 1) := by decide +kernel
theorem dX12_children_64 : decode cX12_children 64 = .ok (.lcmp, 1) := by decide +kernel
theorem dX12_children_65 : decode cX12_children 65 = .ok (.ifCond .gt 6, 3) := by decide +kernel
theorem dX12_children_68 : decode cX12_children 68 = .ok (.goto (-20), 3) := by decide +kernel
theorem dX12_children_71 : decode cX12_children 71 = .ok (.lload 4, 2) := by decide +kernel
theorem dX12_children_73 : decode cX12_children 73 = .ok (.lstore_n 2, 1) := by decide +kernel
theorem dX12_children_74 : decode cX12_children 74 = .ok (.iconst 0, 1) := by decide +kernel
theorem dX12_children_75 : decode cX12_children 75 = .ok (.istore 6, 2) := by decide +kernel
theorem dX12_children_77 : decode cX12_children 77 = .ok (.iload 6, 2) := by decide +kernel
theorem dX12_children_79 : decode cX12_children 79 = .ok (.bipush 8, 2) := by decide +kernel
theorem dX12_children_81 : decode cX12_children 81 = .ok (.if_icmp .ge 23, 3) := by decide +kernel
theorem dX12_children_84 : decode cX12_children 84 = .ok (.aload_n 0, 1) := by decide +kernel
theorem dX12_children_85 : decode cX12_children 85 = .ok (.getfield 154, 3) := by decide +kernel
theorem dX12_children_88 : decode cX12_children 88 = .ok (.iload 6, 2) := by decide +kernel
theorem dX12_children_90 : decode cX12_children 90 = .ok (.aload_n 0, 1) := by decide +kernel
theorem dX12_children_91 : decode cX12_children 91 = .ok (.getfield 148, 3) := by decide +kernel
theorem dX12_children_94 : decode cX12_children 94 = .ok (.iload 6, 2) := by decide +kernel
theorem dX12_children_96 : decode cX12_children 96 = .ok (.iaload, 1) := by decide +kernel
theorem dX12_children_97 : decode cX12_children 97 = .ok (.iastore, 1) := by decide +kernel
theorem dX12_children_98 : decode cX12_children 98 = .ok (.iinc 6 1, 3) := by decide +kernel
theorem dX12_children_101 : decode cX12_children 101 = .ok (.goto (-24), 3) := by decide +kernel
theorem dX12_children_104 : decode cX12_children 104 = .ok (.goto (-56), 3) := by decide +kernel
theorem dX12_children_107 : decode cX12_children 107 = .ok (.iconst 0, 1) := by decide +kernel
theorem dX12_children_108 : decode cX12_children 108 = .ok (.istore 4, 2) := by decide +kernel
theorem dX12_children_110 : decode cX12_children 110 = .ok (.iconst 0, 1) := by decide +kernel
theorem dX12_children_111 : decode cX12_children 111 = .ok (.istore 5, 2) := by decide +kernel
theorem dX12_children_113 : decode cX12_children 113 = .ok (.iload 5, 2) := by decide +kernel
theorem dX12_children_115 : decode cX12_children 115 = .ok (.aload_n 0, 1) := by decide +kernel
theorem dX12_children_116 : decode cX12_children 116 = .ok (.invokevirtual 419, 3) := by decide +kernel
theorem dX12_children_119 : decode cX12_children 119 = .ok (.if_icmp .ge 32, 3) := by decide +kernel
theorem dX12_children_122 : decode cX12_children 122 = .ok (.aload_n 0, 1) := by decide +kernel
theorem dX12_children_123 : decode cX12_children 123 = .ok (.getfield 154, 3) := by decide +kernel
theorem dX12_children_126 : decode cX12_children 126 = .ok (.iload 5, 2) := by decide +kernel
theorem dX12_children_128 : decode cX12_children 128 = .ok (.iaload, 1) := by decide +kernel
theorem dX12_children_129 : decode cX12_children 129 = .ok (.iload 4, 2) := by decide +kernel
theorem dX12_children_131 : decode cX12_children 131 = .ok (.if_icmp .lt 14, 3) := by decide +kernel
theorem dX12_children_134 : decode cX12_children 134 = .ok (.aload_n 0, 1) := by decide +kernel
theorem dX12_children_135 : decode cX12_children 135 = .ok (.getfield 154, 3) := by decide +kernel
theorem dX12_children_138 : decode cX12_children 138 = .ok (.iload 5, 2) := by decide +kernel
theorem dX12_children_140 : decode cX12_children 140 = .ok (.iaload, 1) := by decide +kernel
theorem dX12_children_141 : decode cX12_children 141 = .ok (.iconst 1, 1) := by decide +kernel
theorem dX12_children_142 : decode cX12_children 142 = .ok (.iadd, 1) := by decide +kernel
theorem dX12_children_143 : decode cX12_children 143 = .ok (.istore 4, 2) := by decide +kernel
theorem dX12_children_145 : decode cX12_children 145 = .ok (.iinc 5 1, 3) := by decide +kernel
theorem dX12_children_148 : decode cX12_children 148 = .ok (.goto (-35), 3) := by decide +kernel
theorem dX12_children_151 : decode cX12_children 151 = .ok (.iload_n 1, 1) := by decide +kernel
theorem dX12_children_152 : decode cX12_children 152 = .ok (.iconst (-1), 1) := by decide +kernel
theorem dX12_children_153 : decode cX12_children 153 = .ok (.if_icmp .ne 8, 3) := by decide +kernel
theorem dX12_children_156 : decode cX12_children 156 = .ok (.iload 4, 2) := by decide +kernel
theorem dX12_children_158 : decode cX12_children 158 = .ok (.goto 9, 3) := by decide +kernel
theorem dX12_children_161 : decode cX12_children 161 = .ok (.aload_n 0, 1) := by decide +kernel
theorem dX12_children_162 : decode cX12_children 162 = .ok (.getfield 154, 3) := by decide +kernel
theorem dX12_children_165 : decode cX12_children 165 = .ok (.iload_n 1, 1) := by decide +kernel
theorem dX12_children_166 : decode cX12_children 166 = .ok (.iaload, 1) := by decide +kernel
theorem dX12_children_167 : decode cX12_children 167 = .ok (.ireturn, 1) := by decide +kernel
theorem dX12_chance_0 : decode cX12_chance 0 = .ok (.aload_n 0, 1) := by decide +kernel
theorem dX12_chance_1 : decode cX12_chance 1 = .ok (.iload_n 1, 1) := by decide +kernel
theorem dX12_chance_2 : decode cX12_chance 2 = .ok (.iconst 1, 1) := by decide +kernel
theorem dX12_chance_3 : decode cX12_chance 3 = .ok (.bipush 50, 2) := by decide +kernel
theorem dX12_chance_5 : decode cX12_chance 5 = .ok (.invokevirtual 524, 3) := by decide +kernel
theorem dX12_chance_8 : decode cX12_chance 8 = .ok (.ifCond .ne 9, 3) := by decide +kernel
theorem dX12_chance_11 : decode cX12_chance 11 = .ok (.aload_n 0, 1) := by decide +kernel
theorem dX12_chance_12 : decode cX12_chance 12 = .ok (.iconst 3, 1) := by decide +kernel
theorem dX12_chance_13 : decode cX12_chance 13 = .ok (.invokevirtual 560, 3) := by decide +kernel
theorem dX12_chance_16 : decode cX12_chance 16 = .ok (.ireturn, 1) := by decide +kernel
theorem dX12_chance_17 : decode cX12_chance 17 = .ok (.aload_n 0, 1) := by decide +kernel
theorem dX12_chance_18 : decode cX12_chance 18 = .ok (.invokevirtual 575, 3) := by decide +kernel
theorem dX12_chance_21 : decode cX12_chance 21 = .ok (.iconst 0, 1) := by decide +kernel
theorem dX12_chance_22 : decode cX12_chance 22 = .ok (.istore_n 2, 1) := by decide +kernel
theorem dX12_chance_23 : decode cX12_chance 23 = .ok (.iconst 0, 1) := by decide +kernel
theorem dX12_chance_24 : decode cX12_chance 24 = .ok (.istore_n 3, 1) := by decide +kernel
theorem dX12_chance_25 : decode cX12_chance 25 = .ok (.iload_n 3, 1) := by decide +kernel
theorem dX12_chance_26 : decode cX12_chance 26 = .ok (.iload_n 1, 1) := by decide +kernel
theorem dX12_chance_27 : decode cX12_chance 27 = .ok (.if_icmp .ge 60, 3) := by decide +kernel
theorem dX12_chance_30 : decode cX12_chance 30 = .ok (.iconst 0, 1) := by decide +kernel
theorem dX12_chance_31 : decode cX12_chance 31 = .ok (.istore 4, 2) := by decide +kernel
theorem dX12_chance_33 : decode cX12_chance 33 = .ok (.iload 4, 2) := by decide +kernel
theorem dX12_chance_35 : decode cX12_chance 35 = .ok (.aload_n 0, 1) := by decide +kernel
theorem dX12_chance_36 : decode cX12_chance 36 = .ok (.invokevirtual 422, 3) := by decide +kernel
theorem dX12_chance_39 : decode cX12_chance 39 = .ok (.if_icmp .ge 37, 3) := by decide +kernel
theorem dX12_chance_42 : decode cX12_chance 42 = .ok (.aload_n 0, 1) := by decide +kernel
theorem dX12_chance_43 : decode cX12_chance 43 = .ok (.bipush 100, 2) := by decide +kernel
theorem dX12_chance_45 : decode cX12_chance 45 = .ok (.invokevirtual 591, 3) := by decide +kernel
theorem dX12_chance_48 : decode cX12_chance 48 = .ok (.aload_n 0, 1) := by decide +kernel
theorem dX12_chance_49 : decode cX12_chance 49 = .ok (.getfield 130, 3) := by decide +kernel
theorem dX12_chance_52 : decode cX12_chance 52 = .ok (.iconst 3, 1) := by decide +kernel
theorem dX12_chance_53 : decode cX12_chance 53 = .ok (.iaload, 1) := by decide +kernel
theorem dX12_chance_54 : decode cX12_chance 54 = .ok (.if_icmp .ge 16, 3) := by decide +kernel
theorem dX12_chance_57 : decode cX12_chance 57 = .ok (.aload_n 0, 1) := by decide +kernel
theorem dX12_chance_58 : decode cX12_chance 58 = .ok (.getfield 142, 3) := by decide +kernel
theorem dX12_chance_61 : decode cX12_chance 61 = .ok (.iconst 1, 1) := by decide +kernel
theorem dX12_chance_62 : decode cX12_chance 62 = .ok (.iload 4, 2) := by decide +kernel
theorem dX12_chance_64 : decode cX12_chance 64 = .ok (.iadd, 1) := by decide +kernel
theorem dX12_chance_65 : decode cX12_chance 65 = .ok (.iconst 0, 1) := by decide +kernel
theorem dX12_chance_66 : decode cX12_chance 66 = .ok (.iastore, 1) := by decide +kernel
theorem dX12_chance_67 : decode cX12_chance 67 = .ok (.iinc 2 1, 3) := by decide +kernel
theorem dX12_chance_70 : decode cX12_chance 70 = .ok (.iinc 4 1, 3) := by decide +kernel
theorem dX12_chance_73 : decode cX12_chance 73 = .ok (.goto (-40), 3) := by decide +kernel
theorem dX12_chance_76 : decode cX12_chance 76 = .ok (.aload_n 0, 1) := by decide +kernel
theorem dX12_chance_77 : decode cX12_chance 77 = .ok (.invokevirtual 530, 3) := by decide +kernel
theorem dX12_chance_80 : decode cX12_chance 80 = .ok (.pop, 1) := by decide +kernel
theorem dX12_chance_81 : decode cX12_chance 81 = .ok (.iinc 3 1, 3) := by decide +kernel
theorem dX12_chance_84 : decode cX12_chance 84 = .ok (.goto (-59), 3) := by decide +kernel
theorem dX12_chance_87 : decode cX12_chance 87 = .ok (.iload_n 2, 1) := by decide +kernel
theorem dX12_chance_88 : decode cX12_chance 88 = .ok (.ireturn, 1) := by decide +kernel
theorem dX12_fail_0 : decode cX12_fail 0 = .ok (.aload_n 0, 1) := by decide +kernel
theorem dX12_fail_1 : decode cX12_fail 1 = .ok (.getfield 263, 3) := by decide +kernel
theorem dX12_fail_4 : decode cX12_fail 4 = .ok (.ifCond .eq 4, 3) := by decide +kernel
theorem dX12_fail_7 : decode cX12_fail 7 = .ok (.return_, 1) := by decide +kernel
theorem dX12_fail_8 : decode cX12_fail 8 = .ok (.aload_n 0, 1) := by decide +kernel
theorem dX12_fail_9 : decode cX12_fail 9 = .ok (.iload_n 1, 1) := by decide +kernel
theorem dX12_fail_10 : decode cX12_fail 10 = .ok (.putfield 263, 3) := by decide +kernel
theorem dX12_fail_13 : decode cX12_fail 13 = .ok (.aload_n 0, 1) := by decide +kernel
theorem dX12_fail_14 : decode cX12_fail 14 = .ok (.iload_n 2, 1) := by decide +kernel
theorem dX12_fail_15 : decode cX12_fail 15 = .ok (.putfield 266, 3) := by decide +kernel
theorem dX12_fail_18 : decode cX12_fail 18 = .ok (.return_, 1) := by decide +kernel
theorem dX12_canGive_0 : decode cX12_canGive 0 = .ok (.iconst 0, 1) := by decide +kernel
theorem dX12_canGive_1 : decode cX12_canGive 1 = .ok (.istore_n 1, 1) := by decide +kernel
theorem dX12_canGive_2 : decode cX12_canGive 2 = .ok (.iload_n 1, 1) := by decide +kernel
theorem dX12_canGive_3 : decode cX12_canGive 3 = .ok (.aload_n 0, 1) := by decide +kernel
theorem dX12_canGive_4 : decode cX12_canGive 4 = .ok (.invokevirtual 410, 3) := by decide +kernel
theorem dX12_canGive_7 : decode cX12_canGive 7 = .ok (.if_icmp .ge 23, 3) := by decide +kernel
theorem dX12_canGive_10 : decode cX12_canGive 10 = .ok (.aload_n 0, 1) := by decide +kernel
theorem dX12_canGive_11 : decode cX12_canGive 11 = .ok (.getfield 166, 3) := by decide +kernel
theorem dX12_canGive_14 : decode cX12_canGive 14 = .ok (.iload_n 1, 1) := by decide +kernel
theorem dX12_canGive_15 : decode cX12_canGive 15 = .ok (.aload_n 0, 1) := by decide +kernel
theorem dX12_canGive_16 : decode cX12_canGive 16 = .ok (.getfield 142, 3) := by decide +kernel
theorem dX12_canGive_19 : decode cX12_canGive 19 = .ok (.iconst 4, 1) := by decide +kernel
theorem dX12_canGive_20 : decode cX12_canGive 20 = .ok (.iload_n 1, 1) := by decide +kernel
theorem dX12_canGive_21 : decode cX12_canGive 21 = .ok (.iadd, 1) := by decide +kernel
theorem dX12_canGive_22 : decode cX12_canGive 22 = .ok (.iaload, 1) := by decide +kernel
theorem dX12_canGive_23 : decode cX12_canGive 23 = .ok (.iastore, 1) := by decide +kernel
theorem dX12_canGive_24 : decode cX12_canGive 24 = .ok (.iinc 1 1, 3) := by decide +kernel
theorem dX12_canGive_27 : decode cX12_canGive 27 = .ok (.goto (-25), 3) := by decide +kernel
theorem dX12_canGive_30 : decode cX12_canGive 30 = .ok (.iconst 0, 1) := by decide +kernel
theorem dX12_canGive_31 : decode cX12_canGive 31 = .ok (.istore_n 1, 1) := by decide +kernel
theorem dX12_canGive_32 : decode cX12_canGive 32 = .ok (.iload_n 1, 1) := by decide +kernel
theorem dX12_canGive_33 : decode cX12_canGive 33 = .ok (.aload_n 0, 1) := by decide +kernel
theorem dX12_canGive_34 : decode cX12_canGive 34 = .ok (.invokevirtual 419, 3) := by decide +kernel
theorem dX12_canGive_37 : decode cX12_canGive 37 = .ok (.if_icmp .ge 56, 3) := by decide +kernel
theorem dX12_canGive_40 : decode cX12_canGive 40 = .ok (.aload_n 0, 1) := by decide +kernel
theorem dX12_canGive_41 : decode cX12_canGive 41 = .ok (.getfield 148, 3) := by decide +kernel
theorem dX12_canGive_44 : decode cX12_canGive 44 = .ok (.iload_n 1, 1) := by decide +kernel
theorem dX12_canGive_45 : decode cX12_canGive 45 = .ok (.iaload, 1) := by decide +kernel
theorem dX12_canGive_46 : decode cX12_canGive 46 = .ok (.ifCond .ne 6, 3) := by decide +kernel
theorem dX12_canGive_49 : decode cX12_canGive 49 = .ok (.goto 38, 3) := by decide +kernel
theorem dX12_canGive_52 : decode cX12_canGive 52 = .ok (.aload_n 0, 1) := by decide +kernel
theorem dX12_canGive_53 : decode cX12_canGive 53 = .ok (.getfield 166, 3) := by decide +kernel
theorem dX12_canGive_56 : decode cX12_canGive 56 = .ok (.aload_n 0, 1) := by decide +kernel
theorem dX12_canGive_57 : decode cX12_canGive 57 = .ok (.getfield 148, 3) := by decide +kernel
theorem dX12_canGive_60 : decode cX12_canGive 60 = .ok (.iload_n 1, 1) := by decide +kernel
theorem dX12_canGive_61 : decode cX12_canGive 61 = .ok (.iaload, 1) := by decide +kernel
theorem dX12_canGive_62 : decode cX12_canGive 62 = .ok (.iconst 1, 1) := by decide +kernel
theorem dX12_canGive_63 : decode cX12_canGive 63 = .ok (.isub, 1) := by decide +kernel
theorem dX12_canGive_64 : decode cX12_canGive 64 = .ok (.dup2, 1) := by decide +kernel
theorem dX12_canGive_65 : decode cX12_canGive 65 = .ok (.iaload, 1) := by decide +kernel
theorem dX12_canGive_66 : decode cX12_canGive 66 = .ok (.iconst 1, 1) := by decide +kernel
theorem dX12_canGive_67 : decode cX12_canGive 67 = .ok (.isub, 1) := by decide +kernel
theorem dX12_canGive_68 : decode cX12_canGive 68 = .ok (.iastore, 1) := by decide +kernel
theorem dX12_canGive_69 : decode cX12_canGive 69 = .ok (.aload_n 0, 1) := by decide +kernel
theorem dX12_canGive_70 : decode cX12_canGive 70 = .ok (.getfield 166, 3) := by decide +kernel
theorem dX12_canGive_73 : decode cX12_canGive 73 = .ok (.aload_n 0, 1) := by decide +kernel
theorem dX12_canGive_74 : decode cX12_canGive 74 = .ok (.getfield 148, 3) := by decide +kernel
theorem dX12_canGive_77 : decode cX12_canGive 77 = .ok (.iload_n 1, 1) := by decide +kernel
theorem dX12_canGive_78 : decode cX12_canGive 78 = .ok (.iaload, 1) := by decide +kernel
theorem dX12_canGive_79 : decode cX12_canGive 79 = .ok (.iconst 1, 1) := by decide +kernel
theorem dX12_canGive_80 : decode cX12_canGive 80 = .ok (.isub, 1) := by decide +kernel
theorem dX12_canGive_81 : decode cX12_canGive 81 = .ok (.iaload, 1) := by decide +kernel
theorem dX12_canGive_82 : decode cX12_canGive 82 = .ok (.ifCond .ge 5, 3) := by decide +kernel
theorem dX12_canGive_85 : decode cX12_canGive 85 = .ok (.iconst 0, 1) := by decide +kernel
theorem dX12_canGive_86 : decode cX12_canGive 86 = .ok (.ireturn, 1) := by decide +kernel
theorem dX12_canGive_87 : decode cX12_canGive 87 = .ok (.iinc 1 1, 3) := by decide +kernel
theorem dX12_canGive_90 : decode cX12_canGive 90 = .ok (.goto (-58), 3) := by decide +kernel
theorem dX12_canGive_93 : decode cX12_canGive 93 = .ok (.iconst 1, 1) := by decide +kernel
theorem dX12_canGive_94 : decode cX12_canGive 94 = .ok (.ireturn, 1) := by decide +kernel
theorem dX12_qGoesOnTest_0 : decode cX12_qGoesOnTest 0 = .ok (.aload_n 0, 1) := by decide +kernel
theorem dX12_qGoesOnTest_1 : decode cX12_qGoesOnTest 1 = .ok (.getfield 263, 3) := by decide +kernel
theorem dX12_qGoesOnTest_4 : decode cX12_qGoesOnTest 4 = .ok (.ifCond .ne 72, 3) := by decide +kernel
theorem dX12_qGoesOnTest_7 : decode cX12_qGoesOnTest 7 = .ok (.aload_n 0, 1) := by decide +kernel
theorem dX12_qGoesOnTest_8 : decode cX12_qGoesOnTest 8 = .ok (.invokevirtual 275, 3) := by decide +kernel
theorem dX12_qGoesOnTest_11 : decode cX12_qGoesOnTest 11 = .ok (.bipush 93, 2) := by decide +kernel
theorem dX12_qGoesOnTest_13 : decode cX12_qGoesOnTest 13 = .ok (.if_icmp .ne 63, 3) := by decide +kernel
theorem dX12_qGoesOnTest_16 : decode cX12_qGoesOnTest 16 = .ok (.aload_n 0, 1) := by decide +kernel
theorem dX12_qGoesOnTest_17 : decode cX12_qGoesOnTest 17 = .ok (.invokevirtual 645, 3) := by decide +kernel
theorem dX12_qGoesOnTest_20 : decode cX12_qGoesOnTest 20 = .ok (.ifCond .eq 56, 3) := by decide +kernel
theorem dX12_qGoesOnTest_23 : decode cX12_qGoesOnTest 23 = .ok (.aload_n 0, 1) := by decide +kernel
theorem dX12_qGoesOnTest_24 : decode cX12_qGoesOnTest 24 = .ok (.dup, 1) := by decide +kernel
theorem dX12_qGoesOnTest_25 : decode cX12_qGoesOnTest 25 = .ok (.getfield 269, 3) := by decide +kernel
theorem dX12_qGoesOnTest_28 : decode cX12_qGoesOnTest 28 = .ok (.iconst 1, 1) := by decide +kernel
theorem dX12_qGoesOnTest_29 : decode cX12_qGoesOnTest 29 = .ok (.iadd, 1) := by decide +kernel
theorem dX12_qGoesOnTest_30 : decode cX12_qGoesOnTest 30 = .ok (.putfield 269, 3) := by decide +kernel
theorem dX12_qGoesOnTest_33 : decode cX12_qGoesOnTest 33 = .ok (.aload_n 0, 1) := by decide +kernel
theorem dX12_qGoesOnTest_34 : decode cX12_qGoesOnTest 34 = .ok (.bipush 25, 2) := by decide +kernel
theorem dX12_qGoesOnTest_36 : decode cX12_qGoesOnTest 36 = .ok (.invokevirtual 627, 3) := by decide +kernel
theorem dX12_qGoesOnTest_39 : decode cX12_qGoesOnTest 39 = .ok (.ifCond .ne 10, 3) := by decide +kernel
theorem dX12_qGoesOnTest_42 : decode cX12_qGoesOnTest 42 = .ok (.aload_n 0, 1) := by decide +kernel
theorem dX12_qGoesOnTest_43 : decode cX12_qGoesOnTest 43 = .ok (.invokevirtual 600, 3) := by decide +kernel
theorem dX12_qGoesOnTest_46 : decode cX12_qGoesOnTest 46 = .ok (.goto (-13), 3) := by decide +kernel
theorem dX12_qGoesOnTest_49 : decode cX12_qGoesOnTest 49 = .ok (.aload_n 0, 1) := by decide +kernel
theorem dX12_qGoesOnTest_50 : decode cX12_qGoesOnTest 50 = .ok (.dup, 1) := by decide +kernel
theorem dX12_qGoesOnTest_51 : decode cX12_qGoesOnTest 51 = .ok (.getfield 355, 3) := by decide +kernel
theorem dX12_qGoesOnTest_54 : decode cX12_qGoesOnTest 54 = .ok (.iconst 1, 1) := by decide +kernel
theorem dX12_qGoesOnTest_55 : decode cX12_qGoesOnTest 55 = .ok (.isub, 1) := by decide +kernel
theorem dX12_qGoesOnTest_56 : decode cX12_qGoesOnTest 56 = .ok (.putfield 355, 3) := by decide +kernel
theorem dX12_qGoesOnTest_59 : decode cX12_qGoesOnTest 59 = .ok (.aload_n 0, 1) := by decide +kernel
theorem dX12_qGoesOnTest_60 : decode cX12_qGoesOnTest 60 = .ok (.dup, 1) := by decide +kernel
theorem dX12_qGoesOnTest_61 : decode cX12_qGoesOnTest 61 = .ok (.getfield 358, 3) := by decide +kernel
theorem dX12_qGoesOnTest_64 : decode cX12_qGoesOnTest 64 = .ok (.iconst 1, 1) := by decide +kernel
theorem dX12_qGoesOnTest_65 : decode cX12_qGoesOnTest 65 = .ok (.isub, 1) := by decide +kernel
theorem dX12_qGoesOnTest_66 : decode cX12_qGoesOnTest 66 = .ok (.putfield 358, 3) := by decide +kernel
theorem dX12_qGoesOnTest_69 : decode cX12_qGoesOnTest 69 = .ok (.aload_n 0, 1) := by decide +kernel
theorem dX12_qGoesOnTest_70 : decode cX12_qGoesOnTest 70 = .ok (.invokevirtual 639, 3) := by decide +kernel
theorem dX12_qGoesOnTest_73 : decode cX12_qGoesOnTest 73 = .ok (.goto (-73), 3) := by decide +kernel
theorem dX12_qGoesOnTest_76 : decode cX12_qGoesOnTest 76 = .ok (.aload_n 0, 1) := by decide +kernel
theorem dX12_qGoesOnTest_77 : decode cX12_qGoesOnTest 77 = .ok (.aload_n 0, 1) := by decide +kernel
theorem dX12_qGoesOnTest_78 : decode cX12_qGoesOnTest 78 = .ok (.getfield 200, 3) := by decide +kernel
theorem dX12_qGoesOnTest_81 : decode cX12_qGoesOnTest 81 = .ok (.invokevirtual 290, 3) := by decide +kernel
theorem dX12_qGoesOnTest_84 : decode cX12_qGoesOnTest 84 = .ok (.ifCond .eq 42, 3) := by decide +kernel
theorem dX12_qGoesOnTest_87 : decode cX12_qGoesOnTest 87 = .ok (.aload_n 0, 1) := by decide +kernel
theorem dX12_qGoesOnTest_88 : decode cX12_qGoesOnTest 88 = .ok (.bipush 10, 2) := by decide +kernel
theorem dX12_qGoesOnTest_90 : decode cX12_qGoesOnTest 90 = .ok (.invokevirtual 627, 3) := by decide +kernel
theorem dX12_qGoesOnTest_93 : decode cX12_qGoesOnTest 93 = .ok (.ifCond .eq 10, 3) := by decide +kernel
theorem dX12_qGoesOnTest_96 : decode cX12_qGoesOnTest 96 = .ok (.aload_n 0, 1) := by decide +kernel
theorem dX12_qGoesOnTest_97 : decode cX12_qGoesOnTest 97 = .ok (.invokevirtual 600, 3) := by decide +kernel
theorem dX12_qGoesOnTest_100 : decode cX12_qGoesOnTest 100 = .ok (.goto (-13), 3) := by decide +kernel
theorem dX12_qGoesOnTest_103 : decode cX12_qGoesOnTest 103 = .ok (.aload_n 0, 1) := by decide +kernel
theorem dX12_qGoesOnTest_104 : decode cX12_qGoesOnTest 104 = .ok (.getfield 251, 3) := by decide +kernel
theorem dX12_qGoesOnTest_107 : decode cX12_qGoesOnTest 107 = .ok (.aload_n 0, 1) := by decide +kernel
theorem dX12_qGoesOnTest_108 : decode cX12_qGoesOnTest 108 = .ok (.getfield 355, 3) := by decide +kernel
theorem dX12_qGoesOnTest_111 : decode cX12_qGoesOnTest 111 = .ok (.bipush 10, 2) := by decide +kernel
theorem dX12_qGoesOnTest_113 : decode cX12_qGoesOnTest 113 = .ok (.iastore, 1) := by decide +kernel
theorem dX12_qGoesOnTest_114 : decode cX12_qGoesOnTest 114 = .ok (.aload_n 0, 1) := by decide +kernel
theorem dX12_qGoesOnTest_115 : decode cX12_qGoesOnTest 115 = .ok (.dup, 1) := by decide +kernel
theorem dX12_qGoesOnTest_116 : decode cX12_qGoesOnTest 116 = .ok (.getfield 355, 3) := by decide +kernel
theorem dX12_qGoesOnTest_119 : decode cX12_qGoesOnTest 119 = .ok (.iconst 1, 1) := by decide +kernel
theorem dX12_qGoesOnTest_120 : decode cX12_qGoesOnTest 120 = .ok (.iadd, 1) := by decide +kernel
theorem dX12_qGoesOnTest_121 : decode cX12_qGoesOnTest 121 = .ok (.putfield 355, 3) := by decide +kernel
theorem dX12_qGoesOnTest_124 : decode cX12_qGoesOnTest 124 = .ok (.iconst 1, 1) := by decide +kernel
theorem dX12_qGoesOnTest_125 : decode cX12_qGoesOnTest 125 = .ok (.ireturn, 1) := by decide +kernel
theorem dX12_qGoesOnTest_126 : decode cX12_qGoesOnTest 126 = .ok (.aload_n 0, 1) := by decide +kernel
theorem dX12_qGoesOnTest_127 : decode cX12_qGoesOnTest 127 = .ok (.aload_n 0, 1) := by decide +kernel
theorem dX12_qGoesOnTest_128 : decode cX12_qGoesOnTest 128 = .ok (.getfield 203, 3) := by decide +kernel
theorem dX12_qGoesOnTest_131 : decode cX12_qGoesOnTest 131 = .ok (.invokevirtual 290, 3) := by decide +kernel
theorem dX12_qGoesOnTest_134 : decode cX12_qGoesOnTest 134 = .ok (.ifCond .eq 51, 3) := by decide +kernel
theorem dX12_qGoesOnTest_137 : decode cX12_qGoesOnTest 137 = .ok (.aload_n 0, 1) := by decide +kernel
theorem dX12_qGoesOnTest_138 : decode cX12_qGoesOnTest 138 = .ok (.bipush 10, 2) := by decide +kernel
theorem dX12_qGoesOnTest_140 : decode cX12_qGoesOnTest 140 = .ok (.invokevirtual 627, 3) := by decide +kernel
theorem dX12_qGoesOnTest_143 : decode cX12_qGoesOnTest 143 = .ok (.ifCond .ne 12, 3) := by decide +kernel
theorem dX12_qGoesOnTest_146 : decode cX12_qGoesOnTest 146 = .ok (.aload_n 0, 1) := by decide +kernel
theorem dX12_qGoesOnTest_147 : decode cX12_qGoesOnTest 147 = .ok (.bipush 11, 2) := by decide +kernel
theorem dX12_qGoesOnTest_149 : decode cX12_qGoesOnTest 149 = .ok (.invokevirtual 627, 3) := by decide +kernel
theorem dX12_qGoesOnTest_152 : decode cX12_qGoesOnTest 152 = .ok (.ifCond .eq 10, 3) := by decide +kernel
theorem dX12_qGoesOnTest_155 : decode cX12_qGoesOnTest 155 = .ok (.aload_n 0, 1) := by decide +kernel
theorem dX12_qGoesOnTest_156 : decode cX12_qGoesOnTest 156 = .ok (.invokevirtual 600, 3) := by decide +kernel
theorem dX12_qGoesOnTest_159 : decode cX12_qGoesOnTest 159 = .ok (.goto (-22), 3) := by decide +kernel
theorem dX12_qGoesOnTest_162 : decode cX12_qGoesOnTest 162 = .ok (.aload_n 0, 1) := by decide +kernel
theorem dX12_qGoesOnTest_163 : decode cX12_qGoesOnTest 163 = .ok (.getfield 251, 3) := by decide +kernel
theorem dX12_qGoesOnTest_166 : decode cX12_qGoesOnTest 166 = .ok (.aload_n 0, 1) := by decide +kernel
theorem dX12_qGoesOnTest_167 : decode cX12_qGoesOnTest 167 = .ok (.getfield 355, 3) := by decide +kernel
theorem dX12_qGoesOnTest_170 : decode cX12_qGoesOnTest 170 = .ok (.bipush 11, 2) := by decide +kernel
theorem dX12_qGoesOnTest_172 : decode cX12_qGoesOnTest 172 = .ok (.iastore, 1) := by decide +kernel
theorem dX12_qGoesOnTest_173 : decode cX12_qGoesOnTest 173 = .ok (.aload_n 0, 1) := by decide +kernel
theorem dX12_qGoesOnTest_174 : decode cX12_qGoesOnTest 174 = .ok (.dup, 1) := by decide +kernel
theorem dX12_qGoesOnTest_175 : decode cX12_qGoesOnTest 175 = .ok (.getfield 355, 3) := by decide +kernel
theorem dX12_qGoesOnTest_178 : decode cX12_qGoesOnTest 178 = .ok (.iconst 1, 1) := by decide +kernel
theorem dX12_qGoesOnTest_179 : decode cX12_qGoesOnTest 179 = .ok (.iadd, 1) := by decide +kernel
theorem dX12_qGoesOnTest_180 : decode cX12_qGoesOnTest 180 = .ok (.putfield 355, 3) := by decide +kernel
theorem dX12_qGoesOnTest_183 : decode cX12_qGoesOnTest 183 = .ok (.iconst 1, 1) := by decide +kernel
theorem dX12_qGoesOnTest_184 : decode cX12_qGoesOnTest 184 = .ok (.ireturn, 1) := by decide +kernel
theorem dX12_qGoesOnTest_185 : decode cX12_qGoesOnTest 185 = .ok (.aload_n 0, 1) := by decide +kernel
theorem dX12_qGoesOnTest_186 : decode cX12_qGoesOnTest 186 = .ok (.getfield 263, 3) := by decide +kernel
theorem dX12_qGoesOnTest_189 : decode cX12_qGoesOnTest 189 = .ok (.ifCond .ne 19, 3) := by decide +kernel
theorem dX12_qGoesOnTest_192 : decode cX12_qGoesOnTest 192 = .ok (.aload_n 0, 1) := by decide +kernel
theorem dX12_qGoesOnTest_193 : decode cX12_qGoesOnTest 193 = .ok (.invokevirtual 645, 3) := by decide +kernel
theorem dX12_qGoesOnTest_196 : decode cX12_qGoesOnTest 196 = .ok (.ifCond .eq 12, 3) := by decide +kernel
theorem dX12_qGoesOnTest_199 : decode cX12_qGoesOnTest 199 = .ok (.aload_n 0, 1) := by decide +kernel
theorem dX12_qGoesOnTest_200 : decode cX12_qGoesOnTest 200 = .ok (.iconst 1, 1) := by decide +kernel
theorem dX12_qGoesOnTest_201 : decode cX12_qGoesOnTest 201 = .ok (.aload_n 0, 1) := by decide +kernel
theorem dX12_qGoesOnTest_202 : decode cX12_qGoesOnTest 202 = .ok (.getfield 269, 3) := by decide +kernel
theorem dX12_qGoesOnTest_205 : decode cX12_qGoesOnTest 205 = .ok (.invokevirtual 293, 3) := by decide +kernel
theorem dX12_qGoesOnTest_208 : decode cX12_qGoesOnTest 208 = .ok (.iconst 0, 1) := by decide +kernel
theorem dX12_qGoesOnTest_209 : decode cX12_qGoesOnTest 209 = .ok (.ireturn, 1) := by decide +kernel
theorem dX12_qPartOf_0 : decode cX12_qPartOf 0 = .ok (.iload_n 1, 1) := by decide +kernel
theorem dX12_qPartOf_1 : decode cX12_qPartOf 1 = .ok (.tableswitch 128 0 8 #[51, 64, 77, 90, 96, 103, 111, 114, 121], 51) := by decide +kernel
theorem dX12_qPartOf_52 : decode cX12_qPartOf 52 = .ok (.aload_n 0, 1) := by decide +kernel
theorem dX12_qPartOf_53 : decode cX12_qPartOf 53 = .ok (.getfield 112, 3) := by decide +kernel
theorem dX12_qPartOf_56 : decode cX12_qPartOf 56 = .ok (.bipush 24, 2) := by decide +kernel
theorem dX12_qPartOf_58 : decode cX12_qPartOf 58 = .ok (.iconst 3, 1) := by decide +kernel
theorem dX12_qPartOf_59 : decode cX12_qPartOf 59 = .ok (.iload_n 2, 1) := by decide +kernel
theorem dX12_qPartOf_60 : decode cX12_qPartOf 60 = .ok (.imul, 1) := by decide +kernel
theorem dX12_qPartOf_61 : decode cX12_qPartOf 61 = .ok (.iadd, 1) := by decide +kernel
theorem dX12_qPartOf_62 : decode cX12_qPartOf 62 = .ok (.iaload, 1) := by decide +kernel
theorem dX12_qPartOf_63 : decode cX12_qPartOf 63 = .ok (.i2l, 1) := by decide +kernel
theorem dX12_qPartOf_64 : decode cX12_qPartOf 64 = .ok (.lreturn, 1) := by decide +kernel
theorem dX12_qPartOf_65 : decode cX12_qPartOf 65 = .ok (.aload_n 0, 1) := by decide +kernel
theorem dX12_qPartOf_66 : decode cX12_qPartOf 66 = .ok (.getfield 112, 3) := by decide +kernel
theorem dX12_qPartOf_69 : decode cX12_qPartOf 69 = .ok (.bipush 25, 2) := by decide +kernel
theorem dX12_qPartOf_71 : decode cX12_qPartOf 71 = .ok (.iconst 3, 1) := by decide +kernel
theorem dX12_qPartOf_72 : decode cX12_qPartOf 72 = .ok (.iload_n 2, 1) := by decide +kernel
theorem dX12_qPartOf_73 : decode cX12_qPartOf 73 = .ok (.imul, 1) := by decide +kernel
theorem dX12_qPartOf_74 : decode cX12_qPartOf 74 = .ok (.iadd, 1) := by decide +kernel
theorem dX12_qPartOf_75 : decode cX12_qPartOf 75 = .ok (.iaload, 1) := by decide +kernel
theorem dX12_qPartOf_76 : decode cX12_qPartOf 76 = .ok (.i2l, 1) := by decide +kernel
theorem dX12_qPartOf_77 : decode cX12_qPartOf 77 = .ok (.lreturn, 1) := by decide +kernel
theorem dX12_qPartOf_78 : decode cX12_qPartOf 78 = .ok (.aload_n 0, 1) := by decide +kernel
theorem dX12_qPartOf_79 : decode cX12_qPartOf 79 = .ok (.getfield 112, 3) := by decide +kernel
theorem dX12_qPartOf_82 : decode cX12_qPartOf 82 = .ok (.bipush 26, 2) := by decide +kernel
theorem dX12_qPartOf_84 : decode cX12_qPartOf 84 = .ok (.iconst 3, 1) := by decide +kernel
theorem dX12_qPartOf_85 : decode cX12_qPartOf 85 = .ok (.iload_n 2, 1) := by decide +kernel
theorem dX12_qPartOf_86 : decode cX12_qPartOf 86 = .ok (.imul, 1) := by decide +kernel
theorem dX12_qPartOf_87 : decode cX12_qPartOf 87 = .ok (.iadd, 1) := by decide +kernel
theorem dX12_qPartOf_88 : decode cX12_qPartOf 88 = .ok (.iaload, 1) := by decide +kernel
theorem dX12_qPartOf_89 : decode cX12_qPartOf 89 = .ok (.i2l, 1) := by decide +kernel
theorem dX12_qPartOf_90 : decode cX12_qPartOf 90 = .ok (.lreturn, 1) := by decide +kernel
