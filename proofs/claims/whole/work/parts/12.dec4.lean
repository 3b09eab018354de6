theorem dX12_stands_329 : decode cX12_stands 329 = .ok (.aload_n 0, 1) := by decide +kernel
theorem dX12_stands_330 : decode cX12_stands 330 = .ok (.invokevirtual 410, 3) := by decide +kernel
theorem dX12_stands_333 : decode cX12_stands 333 = .ok (.if_icmp .ge 25, 3) := by decide +kernel
theorem dX12_stands_336 : decode cX12_stands 336 = .ok (.aload_n 0, 1) := by decide +kernel
theorem dX12_stands_337 : decode cX12_stands 337 = .ok (.getfield 142, 3) := by decide +kernel
theorem dX12_stands_340 : decode cX12_stands 340 = .ok (.iconst 4, 1) := by decide +kernel
theorem dX12_stands_341 : decode cX12_stands 341 = .ok (.iload_n 1, 1) := by decide +kernel
theorem dX12_stands_342 : decode cX12_stands 342 = .ok (.iadd, 1) := by decide +kernel
theorem dX12_stands_343 : decode cX12_stands 343 = .ok (.aload_n 0, 1) := by decide +kernel
theorem dX12_stands_344 : decode cX12_stands 344 = .ok (.getfield 115, 3) := by decide +kernel
theorem dX12_stands_347 : decode cX12_stands 347 = .ok (.iconst 4, 1) := by decide +kernel
theorem dX12_stands_348 : decode cX12_stands 348 = .ok (.iload_n 1, 1) := by decide +kernel
theorem dX12_stands_349 : decode cX12_stands 349 = .ok (.iadd, 1) := by decide +kernel
theorem dX12_stands_350 : decode cX12_stands 350 = .ok (.iaload, 1) := by decide +kernel
theorem dX12_stands_351 : decode cX12_stands 351 = .ok (.iastore, 1) := by decide +kernel
theorem dX12_stands_352 : decode cX12_stands 352 = .ok (.iinc 1 1, 3) := by decide +kernel
theorem dX12_stands_355 : decode cX12_stands 355 = .ok (.goto (-27), 3) := by decide +kernel
theorem dX12_stands_358 : decode cX12_stands 358 = .ok (.aload_n 0, 1) := by decide +kernel
theorem dX12_stands_359 : decode cX12_stands 359 = .ok (.iconst 0, 1) := by decide +kernel
theorem dX12_stands_360 : decode cX12_stands 360 = .ok (.putfield 413, 3) := by decide +kernel
theorem dX12_stands_363 : decode cX12_stands 363 = .ok (.aload_n 0, 1) := by decide +kernel
theorem dX12_stands_364 : decode cX12_stands 364 = .ok (.iconst 0, 1) := by decide +kernel
theorem dX12_stands_365 : decode cX12_stands 365 = .ok (.putfield 416, 3) := by decide +kernel
theorem dX12_stands_368 : decode cX12_stands 368 = .ok (.return_, 1) := by decide +kernel
theorem dX12_letterMany_0 : decode cX12_letterMany 0 = .ok (.aload_n 0, 1) := by decide +kernel
theorem dX12_letterMany_1 : decode cX12_letterMany 1 = .ok (.getfield 105, 3) := by decide +kernel
theorem dX12_letterMany_4 : decode cX12_letterMany 4 = .ok (.iconst 5, 1) := by decide +kernel
theorem dX12_letterMany_5 : decode cX12_letterMany 5 = .ok (.iaload, 1) := by decide +kernel
theorem dX12_letterMany_6 : decode cX12_letterMany 6 = .ok (.ireturn, 1) := by decide +kernel
theorem dX12_qFloor_0 : decode cX12_qFloor 0 = .ok (.lload_n 2, 1) := by decide +kernel
theorem dX12_qFloor_1 : decode cX12_qFloor 1 = .ok (.lconst 0, 1) := by decide +kernel
theorem dX12_qFloor_2 : decode cX12_qFloor 2 = .ok (.lcmp, 1) := by decide +kernel
theorem dX12_qFloor_3 : decode cX12_qFloor 3 = .ok (.ifCond .ne 5, 3) := by decide +kernel
theorem dX12_qFloor_6 : decode cX12_qFloor 6 = .ok (.lconst 0, 1) := by decide +kernel
theorem dX12_qFloor_7 : decode cX12_qFloor 7 = .ok (.lreturn, 1) := by decide +kernel
theorem dX12_qFloor_8 : decode cX12_qFloor 8 = .ok (.lload_n 0, 1) := by decide +kernel
theorem dX12_qFloor_9 : decode cX12_qFloor 9 = .ok (.lload_n 2, 1) := by decide +kernel
theorem dX12_qFloor_10 : decode cX12_qFloor 10 = .ok (.ldiv, 1) := by decide +kernel
theorem dX12_qFloor_11 : decode cX12_qFloor 11 = .ok (.lstore 4, 2) := by decide +kernel
theorem dX12_qFloor_13 : decode cX12_qFloor 13 = .ok (.lload_n 0, 1) := by decide +kernel
theorem dX12_qFloor_14 : decode cX12_qFloor 14 = .ok (.lload_n 2, 1) := by decide +kernel
theorem dX12_qFloor_15 : decode cX12_qFloor 15 = .ok (.lrem, 1) := by decide +kernel
theorem dX12_qFloor_16 : decode cX12_qFloor 16 = .ok (.lconst 0, 1) := by decide +kernel
theorem dX12_qFloor_17 : decode cX12_qFloor 17 = .ok (.lcmp, 1) := by decide +kernel
theorem dX12_qFloor_18 : decode cX12_qFloor 18 = .ok (.ifCond .eq 35, 3) := by decide +kernel
theorem dX12_qFloor_21 : decode cX12_qFloor 21 = .ok (.lload_n 0, 1) := by decide +kernel
theorem dX12_qFloor_22 : decode cX12_qFloor 22 = .ok (.lconst 0, 1) := by decide +kernel
theorem dX12_qFloor_23 : decode cX12_qFloor 23 = .ok (.lcmp, 1) := by decide +kernel
theorem dX12_qFloor_24 : decode cX12_qFloor 24 = .ok (.ifCond .ge 7, 3) := by decide +kernel
theorem dX12_qFloor_27 : decode cX12_qFloor 27 = .ok (.iconst 1, 1) := by decide +kernel
theorem dX12_qFloor_28 : decode cX12_qFloor 28 = .ok (.goto 4, 3) := by decide +kernel
theorem dX12_qFloor_31 : decode cX12_qFloor 31 = .ok (.iconst 0, 1) := by decide +kernel
theorem dX12_qFloor_32 : decode cX12_qFloor 32 = .ok (.lload_n 2, 1) := by decide +kernel
theorem dX12_qFloor_33 : decode cX12_qFloor 33 = .ok (.lconst 0, 1) := by decide +kernel
theorem dX12_qFloor_34 : decode cX12_qFloor 34 = .ok (.lcmp, 1) := by decide +kernel
theorem dX12_qFloor_35 : decode cX12_qFloor 35 = .ok (.ifCond .ge 7, 3) := by decide +kernel
theorem dX12_qFloor_38 : decode cX12_qFloor 38 = .ok (.iconst 1, 1) := by decide +kernel
theorem dX12_qFloor_39 : decode cX12_qFloor 39 = .ok (.goto 4, 3) := by decide +kernel
theorem dX12_qFloor_42 : decode cX12_qFloor 42 = .ok (.iconst 0, 1) := by decide +kernel
theorem dX12_qFloor_43 : decode cX12_qFloor 43 = .ok (.if_icmp .eq 10, 3) := by decide +kernel
theorem dX12_qFloor_46 : decode cX12_qFloor 46 = .ok (.lload 4, 2) := by decide +kernel
theorem dX12_qFloor_48 : decode cX12_qFloor 48 = .ok (.lconst 1, 1) := by decide +kernel
theorem dX12_qFloor_49 : decode cX12_qFloor 49 = .ok (.lsub, 1) := by decide +kernel
theorem dX12_qFloor_50 : decode cX12_qFloor 50 = .ok (.goto 5, 3) := by decide +kernel
theorem dX12_qFloor_53 : decode cX12_qFloor 53 = .ok (.lload 4, 2) := by decide +kernel
theorem dX12_qFloor_55 : decode cX12_qFloor 55 = .ok (.lreturn, 1) := by decide +kernel
theorem dX12_number_0 : decode cX12_number 0 = .ok (.aload_n 0, 1) := by decide +kernel
theorem dX12_number_1 : decode cX12_number 1 = .ok (.getfield 263, 3) := by decide +kernel
theorem dX12_number_4 : decode cX12_number 4 = .ok (.ifCond .eq 5, 3) := by decide +kernel
theorem dX12_number_7 : decode cX12_number 7 = .ok (.iconst 0, 1) := by decide +kernel
theorem dX12_number_8 : decode cX12_number 8 = .ok (.ireturn, 1) := by decide +kernel
theorem dX12_number_9 : decode cX12_number 9 = .ok (.aload_n 0, 1) := by decide +kernel
theorem dX12_number_10 : decode cX12_number 10 = .ok (.invokevirtual 275, 3) := by decide +kernel
theorem dX12_number_13 : decode cX12_number 13 = .ok (.invokestatic 300, 3) := by decide +kernel
theorem dX12_number_16 : decode cX12_number 16 = .ok (.ifCond .eq 14, 3) := by decide +kernel
theorem dX12_number_19 : decode cX12_number 19 = .ok (.aload_n 0, 1) := by decide +kernel
theorem dX12_number_20 : decode cX12_number 20 = .ok (.getfield 269, 3) := by decide +kernel
theorem dX12_number_23 : decode cX12_number 23 = .ok (.aload_n 0, 1) := by decide +kernel
theorem dX12_number_24 : decode cX12_number 24 = .ok (.getfield 283, 3) := by decide +kernel
theorem dX12_number_27 : decode cX12_number 27 = .ok (.if_icmp .ne 14, 3) := by decide +kernel
theorem dX12_number_30 : decode cX12_number 30 = .ok (.aload_n 0, 1) := by decide +kernel
theorem dX12_number_31 : decode cX12_number 31 = .ok (.iconst 1, 1) := by decide +kernel
theorem dX12_number_32 : decode cX12_number 32 = .ok (.aload_n 0, 1) := by decide +kernel
theorem dX12_number_33 : decode cX12_number 33 = .ok (.getfield 269, 3) := by decide +kernel
theorem dX12_number_36 : decode cX12_number 36 = .ok (.invokevirtual 293, 3) := by decide +kernel
theorem dX12_number_39 : decode cX12_number 39 = .ok (.iconst 0, 1) := by decide +kernel
theorem dX12_number_40 : decode cX12_number 40 = .ok (.ireturn, 1) := by decide +kernel
theorem dX12_number_41 : decode cX12_number 41 = .ok (.aload_n 0, 1) := by decide +kernel
theorem dX12_number_42 : decode cX12_number 42 = .ok (.getfield 269, 3) := by decide +kernel
theorem dX12_number_45 : decode cX12_number 45 = .ok (.istore_n 3, 1) := by decide +kernel
theorem dX12_number_46 : decode cX12_number 46 = .ok (.iconst 0, 1) := by decide +kernel
theorem dX12_number_47 : decode cX12_number 47 = .ok (.istore 4, 2) := by decide +kernel
theorem dX12_number_49 : decode cX12_number 49 = .ok (.aload_n 0, 1) := by decide +kernel
theorem dX12_number_50 : decode cX12_number 50 = .ok (.getfield 269, 3) := by decide +kernel
theorem dX12_number_53 : decode cX12_number 53 = .ok (.aload_n 0, 1) := by decide +kernel
theorem dX12_number_54 : decode cX12_number 54 = .ok (.getfield 272, 3) := by decide +kernel
theorem dX12_number_57 : decode cX12_number 57 = .ok (.if_icmp .ge 72, 3) := by decide +kernel
theorem dX12_number_60 : decode cX12_number 60 = .ok (.aload_n 0, 1) := by decide +kernel
theorem dX12_number_61 : decode cX12_number 61 = .ok (.getfield 7, 3) := by decide +kernel
theorem dX12_number_64 : decode cX12_number 64 = .ok (.aload_n 0, 1) := by decide +kernel
theorem dX12_number_65 : decode cX12_number 65 = .ok (.getfield 269, 3) := by decide +kernel
theorem dX12_number_68 : decode cX12_number 68 = .ok (.iaload, 1) := by decide +kernel
theorem dX12_number_69 : decode cX12_number 69 = .ok (.invokestatic 300, 3) := by decide +kernel
theorem dX12_number_72 : decode cX12_number 72 = .ok (.ifCond .eq 57, 3) := by decide +kernel
theorem dX12_number_75 : decode cX12_number 75 = .ok (.aload_n 0, 1) := by decide +kernel
theorem dX12_number_76 : decode cX12_number 76 = .ok (.getfield 269, 3) := by decide +kernel
theorem dX12_number_79 : decode cX12_number 79 = .ok (.iload_n 3, 1) := by decide +kernel
theorem dX12_number_80 : decode cX12_number 80 = .ok (.isub, 1) := by decide +kernel
theorem dX12_number_81 : decode cX12_number 81 = .ok (.iconst 4, 1) := by decide +kernel
theorem dX12_number_82 : decode cX12_number 82 = .ok (.if_icmp .ne 14, 3) := by decide +kernel
theorem dX12_number_85 : decode cX12_number 85 = .ok (.aload_n 0, 1) := by decide +kernel
theorem dX12_number_86 : decode cX12_number 86 = .ok (.iconst 1, 1) := by decide +kernel
theorem dX12_number_87 : decode cX12_number 87 = .ok (.aload_n 0, 1) := by decide +kernel
theorem dX12_number_88 : decode cX12_number 88 = .ok (.getfield 269, 3) := by decide +kernel
theorem dX12_number_91 : decode cX12_number 91 = .ok (.invokevirtual 293, 3) := by decide +kernel
theorem dX12_number_94 : decode cX12_number 94 = .ok (.iconst 0, 1) := by decide +kernel
theorem dX12_number_95 : decode cX12_number 95 = .ok (.ireturn, 1) := by decide +kernel
theorem dX12_number_96 : decode cX12_number 96 = .ok (.bipush 10, 2) := by decide +kernel
theorem dX12_number_98 : decode cX12_number 98 = .ok (.iload 4, 2) := by decide +kernel
theorem dX12_number_100 : decode cX12_number 100 = .ok (.imul, 1) := by decide +kernel
theorem dX12_number_101 : decode cX12_number 101 = .ok (.aload_n 0, 1) := by decide +kernel
theorem dX12_number_102 : decode cX12_number 102 = .ok (.getfield 7, 3) := by decide +kernel
theorem dX12_number_105 : decode cX12_number 105 = .ok (.aload_n 0, 1) := by decide +kernel
theorem dX12_number_106 : decode cX12_number 106 = .ok (.getfield 269, 3) := by decide +kernel
theorem dX12_number_109 : decode cX12_number 109 = .ok (.iaload, 1) := by decide +kernel
theorem dX12_number_110 : decode cX12_number 110 = .ok (.iadd, 1) := by decide +kernel
theorem dX12_number_111 : decode cX12_number 111 = .ok (.bipush 48, 2) := by decide +kernel
theorem dX12_number_113 : decode cX12_number 113 = .ok (.isub, 1) := by decide +kernel
theorem dX12_number_114 : decode cX12_number 114 = .ok (.istore 4, 2) := by decide +kernel
theorem dX12_number_116 : decode cX12_number 116 = .ok (.aload_n 0, 1) := by decide +kernel
theorem dX12_number_117 : decode cX12_number 117 = .ok (.dup, 1) := by decide +kernel
theorem dX12_number_118 : decode cX12_number 118 = .ok (.getfield 269, 3) := by decide +kernel
theorem dX12_number_121 : decode cX12_number 121 = .ok (.iconst 1, 1) := by decide +kernel
theorem dX12_number_122 : decode cX12_number 122 = .ok (.iadd, 1) := by decide +kernel
theorem dX12_number_123 : decode cX12_number 123 = .ok (.putfield 269, 3) := by decide +kernel
theorem dX12_number_126 : decode cX12_number 126 = .ok (.goto (-77), 3) := by decide +kernel
theorem dX12_number_129 : decode cX12_number 129 = .ok (.aload_n 0, 1) := by decide +kernel
theorem dX12_number_130 : decode cX12_number 130 = .ok (.aload_n 0, 1) := by decide +kernel
theorem dX12_number_131 : decode cX12_number 131 = .ok (.getfield 269, 3) := by decide +kernel
theorem dX12_number_134 : decode cX12_number 134 = .ok (.putfield 283, 3) := by decide +kernel
theorem dX12_number_137 : decode cX12_number 137 = .ok (.iload 4, 2) := by decide +kernel
theorem dX12_number_139 : decode cX12_number 139 = .ok (.i2l, 1) := by decide +kernel
theorem dX12_number_140 : decode cX12_number 140 = .ok (.iload_n 1, 1) := by decide +kernel
theorem dX12_number_141 : decode cX12_number 141 = .ok (.i2l, 1) := by decide +kernel
theorem dX12_number_142 : decode cX12_number 142 = .ok (.iload_n 2, 1) := by decide +kernel
theorem dX12_number_143 : decode cX12_number 143 = .ok (.i2l, 1) := by decide +kernel
theorem dX12_number_144 : decode cX12_number 144 = .ok (.invokestatic 303, 3) := by decide +kernel
theorem dX12_number_147 : decode cX12_number 147 = .ok (.ifCond .ne 9, 3) := by decide +kernel
theorem dX12_number_150 : decode cX12_number 150 = .ok (.aload_n 0, 1) := by decide +kernel
theorem dX12_number_151 : decode cX12_number 151 = .ok (.iconst 2, 1) := by decide +kernel
theorem dX12_number_152 : decode cX12_number 152 = .ok (.iload_n 3, 1) := by decide +kernel
theorem dX12_number_153 : decode cX12_number 153 = .ok (.invokevirtual 293, 3) := by decide +kernel
theorem dX12_number_156 : decode cX12_number 156 = .ok (.iload 4, 2) := by decide +kernel
theorem dX12_number_158 : decode cX12_number 158 = .ok (.ireturn, 1) := by decide +kernel
theorem dX12_on_0 : decode cX12_on 0 = .ok (.aload_n 0, 1) := by decide +kernel
theorem dX12_on_1 : decode cX12_on 1 = .ok (.getfield 260, 3) := by decide +kernel
theorem dX12_on_4 : decode cX12_on 4 = .ok (.istore_n 1, 1) := by decide +kernel
theorem dX12_on_5 : decode cX12_on 5 = .ok (.aload_n 0, 1) := by decide +kernel
theorem dX12_on_6 : decode cX12_on 6 = .ok (.iconst 0, 1) := by decide +kernel
theorem dX12_on_7 : decode cX12_on 7 = .ok (.putfield 260, 3) := by decide +kernel
theorem dX12_on_10 : decode cX12_on 10 = .ok (.aload_n 0, 1) := by decide +kernel
theorem dX12_on_11 : decode cX12_on 11 = .ok (.iload_n 1, 1) := by decide +kernel
theorem dX12_on_12 : decode cX12_on 12 = .ok (.invokevirtual 699, 3) := by decide +kernel
theorem dX12_on_15 : decode cX12_on 15 = .ok (.ifCond .ne 15, 3) := by decide +kernel
theorem dX12_on_18 : decode cX12_on 18 = .ok (.aload_n 0, 1) := by decide +kernel
theorem dX12_on_19 : decode cX12_on 19 = .ok (.getfield 17, 3) := by decide +kernel
theorem dX12_on_22 : decode cX12_on 22 = .ok (.iconst 5, 1) := by decide +kernel
theorem dX12_on_23 : decode cX12_on 23 = .ok (.dup2, 1) := by decide +kernel
theorem dX12_on_24 : decode cX12_on 24 = .ok (.iaload, 1) := by decide +kernel
theorem dX12_on_25 : decode cX12_on 25 = .ok (.iconst 1, 1) := by decide +kernel
theorem dX12_on_26 : decode cX12_on 26 = .ok (.iadd, 1) := by decide +kernel
theorem dX12_on_27 : decode cX12_on 27 = .ok (.iastore, 1) := by decide +kernel
theorem dX12_on_28 : decode cX12_on 28 = .ok (.iconst 0, 1) := by decide +kernel
theorem dX12_on_29 : decode cX12_on 29 = .ok (.ireturn, 1) := by decide +kernel
theorem dX12_on_30 : decode cX12_on 30 = .ok (.aload_n 0, 1) := by decide +kernel
theorem dX12_on_31 : decode cX12_on 31 = .ok (.getfield 142, 3) := by decide +kernel
theorem dX12_on_34 : decode cX12_on 34 = .ok (.iconst 0, 1) := by decide +kernel
theorem dX12_on_35 : decode cX12_on 35 = .ok (.sipush 256, 3) := by decide +kernel
theorem dX12_on_38 : decode cX12_on 38 = .ok (.aload_n 0, 1) := by decide +kernel
theorem dX12_on_39 : decode cX12_on 39 = .ok (.getfield 7, 3) := by decide +kernel
theorem dX12_on_42 : decode cX12_on 42 = .ok (.iconst 0, 1) := by decide +kernel
theorem dX12_on_43 : decode cX12_on 43 = .ok (.iaload, 1) := by decide +kernel
theorem dX12_on_44 : decode cX12_on 44 = .ok (.imul, 1) := by decide +kernel
theorem dX12_on_45 : decode cX12_on 45 = .ok (.aload_n 0, 1) := by decide +kernel
theorem dX12_on_46 : decode cX12_on 46 = .ok (.getfield 7, 3) := by decide +kernel
theorem dX12_on_49 : decode cX12_on 49 = .ok (.iconst 1, 1) := by decide +kernel
theorem dX12_on_50 : decode cX12_on 50 = .ok (.iaload, 1) := by decide +kernel
theorem dX12_on_51 : decode cX12_on 51 = .ok (.iadd, 1) := by decide +kernel
theorem dX12_on_52 : decode cX12_on 52 = .ok (.iastore, 1) := by decide +kernel
theorem dX12_on_53 : decode cX12_on 53 = .ok (.iconst 2, 1) := by decide +kernel
theorem dX12_on_54 : decode cX12_on 54 = .ok (.istore_n 2, 1) := by decide +kernel
theorem dX12_on_55 : decode cX12_on 55 = .ok (.iconst 0, 1) := by decide +kernel
theorem dX12_on_56 : decode cX12_on 56 = .ok (.istore_n 3, 1) := by decide +kernel
theorem dX12_on_57 : decode cX12_on 57 = .ok (.iload_n 3, 1) := by decide +kernel
theorem dX12_on_58 : decode cX12_on 58 = .ok (.aload_n 0, 1) := by decide +kernel
theorem dX12_on_59 : decode cX12_on 59 = .ok (.invokevirtual 422, 3) := by decide +kernel
theorem dX12_on_62 : decode cX12_on 62 = .ok (.if_icmp .ge 26, 3) := by decide +kernel
theorem dX12_on_65 : decode cX12_on 65 = .ok (.aload_n 0, 1) := by decide +kernel
theorem dX12_on_66 : decode cX12_on 66 = .ok (.getfield 142, 3) := by decide +kernel
theorem dX12_on_69 : decode cX12_on 69 = .ok (.iconst 1, 1) := by decide +kernel
theorem dX12_on_70 : decode cX12_on 70 = .ok (.iload_n 3, 1) := by decide +kernel
theorem dX12_on_71 : decode cX12_on 71 = .ok (.iadd, 1) := by decide +kernel
theorem dX12_on_72 : decode cX12_on 72 = .ok (.aload_n 0, 1) := by decide +kernel
theorem dX12_on_73 : decode cX12_on 73 = .ok (.getfield 7, 3) := by decide +kernel
theorem dX12_on_76 : decode cX12_on 76 = .ok (.iload_n 2, 1) := by decide +kernel
theorem dX12_on_77 : decode cX12_on 77 = .ok (.iaload, 1) := by decide +kernel
theorem dX12_on_78 : decode cX12_on 78 = .ok (.iastore, 1) := by decide +kernel
theorem dX12_on_79 : decode cX12_on 79 = .ok (.iinc 2 1, 3) := by decide +kernel
theorem dX12_on_82 : decode cX12_on 82 = .ok (.iinc 3 1, 3) := by decide +kernel
theorem dX12_on_85 : decode cX12_on 85 = .ok (.goto (-28), 3) := by decide +kernel
theorem dX12_on_88 : decode cX12_on 88 = .ok (.iconst 0, 1) := by decide +kernel
theorem dX12_on_89 : decode cX12_on 89 = .ok (.istore_n 3, 1) := by decide +kernel
theorem dX12_on_90 : decode cX12_on 90 = .ok (.iload_n 3, 1) := by decide +kernel
theorem dX12_on_91 : decode cX12_on 91 = .ok (.aload_n 0, 1) := by decide +kernel
theorem dX12_on_92 : decode cX12_on 92 = .ok (.invokevirtual 410, 3) := by decide +kernel
theorem dX12_on_95 : decode cX12_on 95 = .ok (.if_icmp .ge 26, 3) := by decide +kernel
theorem dX12_on_98 : decode cX12_on 98 = .ok (.aload_n 0, 1) := by decide +kernel
theorem dX12_on_99 : decode cX12_on 99 = .ok (.getfield 142, 3) := by decide +kernel
theorem dX12_on_102 : decode cX12_on 102 = .ok (.iconst 4, 1) := by decide +kernel
theorem dX12_on_103 : decode cX12_on 103 = .ok (.iload_n 3, 1) := by decide +kernel
theorem dX12_on_104 : decode cX12_on 104 = .ok (.iadd, 1) := by decide +kernel
theorem dX12_on_105 : decode cX12_on 105 = .ok (.aload_n 0, 1) := by decide +kernel
theorem dX12_on_106 : decode cX12_on 106 = .ok (.getfield 7, 3) := by decide +kernel
theorem dX12_on_109 : decode cX12_on 109 = .ok (.iload_n 2, 1) := by decide +kernel
theorem dX12_on_110 : decode cX12_on 110 = .ok (.iaload, 1) := by decide +kernel
theorem dX12_on_111 : decode cX12_on 111 = .ok (.iastore, 1) := by decide +kernel
theorem dX12_on_112 : decode cX12_on 112 = .ok (.iinc 2 1, 3) := by decide +kernel
theorem dX12_on_115 : decode cX12_on 115 = .ok (.iinc 3 1, 3) := by decide +kernel
theorem dX12_on_118 : decode cX12_on 118 = .ok (.goto (-28), 3) := by decide +kernel
theorem dX12_on_121 : decode cX12_on 121 = .ok (.iconst 0, 1) := by decide +kernel
theorem dX12_on_122 : decode cX12_on 122 = .ok (.istore_n 3, 1) := by decide +kernel
theorem dX12_on_123 : decode cX12_on 123 = .ok (.iload_n 3, 1) := by decide +kernel
theorem dX12_on_124 : decode cX12_on 124 = .ok (.iconst 3, 1) := by decide +kernel
theorem dX12_on_125 : decode cX12_on 125 = .ok (.aload_n 0, 1) := by decide +kernel
theorem dX12_on_126 : decode cX12_on 126 = .ok (.invokevirtual 419, 3) := by decide +kernel
theorem dX12_on_129 : decode cX12_on 129 = .ok (.imul, 1) := by decide +kernel
theorem dX12_on_130 : decode cX12_on 130 = .ok (.if_icmp .ge 26, 3) := by decide +kernel
theorem dX12_on_133 : decode cX12_on 133 = .ok (.aload_n 0, 1) := by decide +kernel
theorem dX12_on_134 : decode cX12_on 134 = .ok (.getfield 142, 3) := by decide +kernel
theorem dX12_on_137 : decode cX12_on 137 = .ok (.bipush 8, 2) := by decide +kernel
theorem dX12_on_139 : decode cX12_on 139 = .ok (.iload_n 3, 1) := by decide +kernel
theorem dX12_on_140 : decode cX12_on 140 = .ok (.iadd, 1) := by decide +kernel
theorem dX12_on_141 : decode cX12_on 141 = .ok (.aload_n 0, 1) := by decide +kernel
theorem dX12_on_142 : decode cX12_on 142 = .ok (.getfield 7, 3) := by decide +kernel
theorem dX12_on_145 : decode cX12_on 145 = .ok (.iload_n 2, 1) := by decide +kernel
theorem dX12_on_146 : decode cX12_on 146 = .ok (.iload_n 3, 1) := by decide +kernel
theorem dX12_on_147 : decode cX12_on 147 = .ok (.iadd, 1) := by decide +kernel
theorem dX12_on_148 : decode cX12_on 148 = .ok (.iaload, 1) := by decide +kernel
theorem dX12_on_149 : decode cX12_on 149 = .ok (.iastore, 1) := by decide +kernel
theorem dX12_on_150 : decode cX12_on 150 = .ok (.iinc 3 1, 3) := by decide +kernel
theorem dX12_on_153 : decode cX12_on 153 = .ok (.goto (-30), 3) := by decide +kernel
theorem dX12_on_156 : decode cX12_on 156 = .ok (.aload_n 0, 1) := by decide +kernel
theorem dX12_on_157 : decode cX12_on 157 = .ok (.iconst 0, 1) := by decide +kernel
theorem dX12_on_158 : decode cX12_on 158 = .ok (.putfield 413, 3) := by decide +kernel
theorem dX12_on_161 : decode cX12_on 161 = .ok (.iconst 1, 1) := by decide +kernel
theorem dX12_on_162 : decode cX12_on 162 = .ok (.ireturn, 1) := by decide +kernel
theorem dX12_eveningGoes_0 : decode cX12_eveningGoes 0 = .ok (.aload_n 0, 1) := by decide +kernel
theorem dX12_eveningGoes_1 : decode cX12_eveningGoes 1 = .ok (.invokevirtual 485, 3) := by decide +kernel
theorem dX12_eveningGoes_4 : decode cX12_eveningGoes 4 = .ok (.istore_n 1, 1) := by decide +kernel
theorem dX12_eveningGoes_5 : decode cX12_eveningGoes 5 = .ok (.iconst 0, 1) := by decide +kernel
theorem dX12_eveningGoes_6 : decode cX12_eveningGoes 6 = .ok (.istore_n 2, 1) := by decide +kernel
theorem dX12_eveningGoes_7 : decode cX12_eveningGoes 7 = .ok (.iload_n 2, 1) := by decide +kernel
theorem dX12_eveningGoes_8 : decode cX12_eveningGoes 8 = .ok (.aload_n 0, 1) := by decide +kernel
theorem dX12_eveningGoes_9 : decode cX12_eveningGoes 9 = .ok (.invokevirtual 419, 3) := by decide +kernel
theorem dX12_eveningGoes_12 : decode cX12_eveningGoes 12 = .ok (.if_icmp .ge 31, 3) := by decide +kernel
theorem dX12_eveningGoes_15 : decode cX12_eveningGoes 15 = .ok (.aload_n 0, 1) := by decide +kernel
theorem dX12_eveningGoes_16 : decode cX12_eveningGoes 16 = .ok (.getfield 154, 3) := by decide +kernel
theorem dX12_eveningGoes_19 : decode cX12_eveningGoes 19 = .ok (.iload_n 2, 1) := by decide +kernel
theorem dX12_eveningGoes_20 : decode cX12_eveningGoes 20 = .ok (.iaload, 1) := by decide +kernel
theorem dX12_eveningGoes_21 : decode cX12_eveningGoes 21 = .ok (.ifCond .le 16, 3) := by decide +kernel
theorem dX12_eveningGoes_24 : decode cX12_eveningGoes 24 = .ok (.aload_n 0, 1) := by decide +kernel
theorem dX12_eveningGoes_25 : decode cX12_eveningGoes 25 = .ok (.iload_n 2, 1) := by decide +kernel
theorem dX12_eveningGoes_26 : decode cX12_eveningGoes 26 = .ok (.aload_n 0, 1) := by decide +kernel
theorem dX12_eveningGoes_27 : decode cX12_eveningGoes 27 = .ok (.getfield 154, 3) := by decide +kernel
theorem dX12_eveningGoes_30 : decode cX12_eveningGoes 30 = .ok (.iload_n 2, 1) := by decide +kernel
theorem dX12_eveningGoes_31 : decode cX12_eveningGoes 31 = .ok (.iaload, 1) := by decide +kernel
theorem dX12_eveningGoes_32 : decode cX12_eveningGoes 32 = .ok (.iconst 1, 1) := by decide +kernel
theorem dX12_eveningGoes_33 : decode cX12_eveningGoes 33 = .ok (.isub, 1) := by decide +kernel
theorem dX12_eveningGoes_34 : decode cX12_eveningGoes 34 = .ok (.invokevirtual 488, 3) := by decide +kernel
theorem dX12_eveningGoes_37 : decode cX12_eveningGoes 37 = .ok (.iinc 2 1, 3) := by decide +kernel
theorem dX12_eveningGoes_40 : decode cX12_eveningGoes 40 = .ok (.goto (-33), 3) := by decide +kernel
theorem dX12_eveningGoes_43 : decode cX12_eveningGoes 43 = .ok (.aload_n 0, 1) := by decide +kernel
theorem dX12_eveningGoes_44 : decode cX12_eveningGoes 44 = .ok (.getfield 142, 3) := by decide +kernel
theorem dX12_eveningGoes_47 : decode cX12_eveningGoes 47 = .ok (.iconst 0, 1) := by decide +kernel
theorem dX12_eveningGoes_48 : decode cX12_eveningGoes 48 = .ok (.dup2, 1) := by decide +kernel
theorem dX12_eveningGoes_49 : decode cX12_eveningGoes 49 = .ok (.iaload, 1) := by decide +kernel
theorem dX12_eveningGoes_50 : decode cX12_eveningGoes 50 = .ok (.iconst 1, 1) := by decide +kernel
theorem dX12_eveningGoes_51 : decode cX12_eveningGoes 51 = .ok (.iadd, 1) := by decide +kernel
theorem dX12_eveningGoes_52 : decode cX12_eveningGoes 52 = .ok (.iastore, 1) := by decide +kernel
theorem dX12_eveningGoes_53 : decode cX12_eveningGoes 53 = .ok (.aload_n 0, 1) := by decide +kernel
theorem dX12_eveningGoes_54 : decode cX12_eveningGoes 54 = .ok (.invokevirtual 407, 3) := by decide +kernel
theorem dX12_eveningGoes_57 : decode cX12_eveningGoes 57 = .ok (.iload_n 1, 1) := by decide +kernel
theorem dX12_eveningGoes_58 : decode cX12_eveningGoes 58 = .ok (.ireturn, 1) := by decide +kernel
theorem dX12_isSheetNear_0 : decode cX12_isSheetNear 0 = .ok (.iconst 0, 1) := by decide +kernel
theorem dX12_isSheetNear_1 : decode cX12_isSheetNear 1 = .ok (.istore_n 3, 1) := by decide +kernel
theorem dX12_isSheetNear_2 : decode cX12_isSheetNear 2 = .ok (.iload_n 3, 1) := by decide +kernel
theorem dX12_isSheetNear_3 : decode cX12_isSheetNear 3 = .ok (.aload_n 0, 1) := by decide +kernel
theorem dX12_isSheetNear_4 : decode cX12_isSheetNear 4 = .ok (.invokevirtual 419, 3) := by decide +kernel
theorem dX12_isSheetNear_7 : decode cX12_isSheetNear 7 = .ok (.if_icmp .ge 37, 3) := by decide +kernel
theorem dX12_isSheetNear_10 : decode cX12_isSheetNear 10 = .ok (.aload_n 0, 1) := by decide +kernel
theorem dX12_isSheetNear_11 : decode cX12_isSheetNear 11 = .ok (.getfield 121, 3) := by decide +kernel
theorem dX12_isSheetNear_14 : decode cX12_isSheetNear 14 = .ok (.bipush 8, 2) := by decide +kernel
theorem dX12_isSheetNear_16 : decode cX12_isSheetNear 16 = .ok (.iload_n 1, 1) := by decide +kernel
theorem dX12_isSheetNear_17 : decode cX12_isSheetNear 17 = .ok (.iadd, 1) := by decide +kernel
theorem dX12_isSheetNear_18 : decode cX12_isSheetNear 18 = .ok (.iaload, 1) := by decide +kernel
theorem dX12_isSheetNear_19 : decode cX12_isSheetNear 19 = .ok (.iload_n 3, 1) := by decide +kernel
theorem dX12_isSheetNear_20 : decode cX12_isSheetNear 20 = .ok (.ishr, 1) := by decide +kernel
theorem dX12_isSheetNear_21 : decode cX12_isSheetNear 21 = .ok (.iconst 1, 1) := by decide +kernel
theorem dX12_isSheetNear_22 : decode cX12_isSheetNear 22 = .ok (.iand, 1) := by decide +kernel
theorem dX12_isSheetNear_23 : decode cX12_isSheetNear 23 = .ok (.iconst 1, 1) := by decide +kernel
theorem dX12_isSheetNear_24 : decode cX12_isSheetNear 24 = .ok (.if_icmp .ne 14, 3) := by decide +kernel
theorem dX12_isSheetNear_27 : decode cX12_isSheetNear 27 = .ok (.aload_n 0, 1) := by decide +kernel
theorem dX12_isSheetNear_28 : decode cX12_isSheetNear 28 = .ok (.iload_n 3, 1) := by decide +kernel
theorem dX12_isSheetNear_29 : decode cX12_isSheetNear 29 = .ok (.invokevirtual 504, 3) := by decide +kernel
theorem dX12_isSheetNear_32 : decode cX12_isSheetNear 32 = .ok (.iload_n 2, 1) := by decide +kernel
theorem dX12_isSheetNear_33 : decode cX12_isSheetNear 33 = .ok (.if_icmp .ne 5, 3) := by decide +kernel
theorem dX12_isSheetNear_36 : decode cX12_isSheetNear 36 = .ok (.iconst 1, 1) := by decide +kernel
theorem dX12_isSheetNear_37 : decode cX12_isSheetNear 37 = .ok (.ireturn, 1) := by decide +kernel
theorem dX12_isSheetNear_38 : decode cX12_isSheetNear 38 = .ok (.iinc 3 1, 3) := by decide +kernel
theorem dX12_isSheetNear_41 : decode cX12_isSheetNear 41 = .ok (.goto (-39), 3) := by decide +kernel
theorem dX12_isSheetNear_44 : decode cX12_isSheetNear 44 = .ok (.iconst 0, 1) := by decide +kernel
theorem dX12_isSheetNear_45 : decode cX12_isSheetNear 45 = .ok (.ireturn, 1) := by decide +kernel
theorem dX12_takesBack_0 : decode cX12_takesBack 0 = .ok (.iconst 0, 1) := by decide +kernel
theorem dX12_takesBack_1 : decode cX12_takesBack 1 = .ok (.istore_n 1, 1) := by decide +kernel
theorem dX12_takesBack_2 : decode cX12_takesBack 2 = .ok (.iload_n 1, 1) := by decide +kernel
theorem dX12_takesBack_3 : decode cX12_takesBack 3 = .ok (.bipush 32, 2) := by decide +kernel
theorem dX12_takesBack_5 : decode cX12_takesBack 5 = .ok (.if_icmp .ge 21, 3) := by decide +kernel
theorem dX12_takesBack_8 : decode cX12_takesBack 8 = .ok (.aload_n 0, 1) := by decide +kernel
theorem dX12_takesBack_9 : decode cX12_takesBack 9 = .ok (.getfield 142, 3) := by decide +kernel
theorem dX12_takesBack_12 : decode cX12_takesBack 12 = .ok (.iload_n 1, 1) := by decide +kernel
theorem dX12_takesBack_13 : decode cX12_takesBack 13 = .ok (.aload_n 0, 1) := by decide +kernel
theorem dX12_takesBack_14 : decode cX12_takesBack 14 = .ok (.getfield 145, 3) := by decide +kernel
theorem dX12_takesBack_17 : decode cX12_takesBack 17 = .ok (.iload_n 1, 1) := by decide +kernel
theorem dX12_takesBack_18 : decode cX12_takesBack 18 = .ok (.iaload, 1) := by decide +kernel
theorem dX12_takesBack_19 : decode cX12_takesBack 19 = .ok (.iastore, 1) := by decide +kernel
theorem dX12_takesBack_20 : decode cX12_takesBack 20 = .ok (.iinc 1 1, 3) := by decide +kernel
theorem dX12_takesBack_23 : decode cX12_takesBack 23 = .ok (.goto (-21), 3) := by decide +kernel
theorem dX12_takesBack_26 : decode cX12_takesBack 26 = .ok (.return_, 1) := by decide +kernel
theorem dX12_codesTell_0 : decode cX12_codesTell 0 = .ok (.aload_n 0, 1) := by decide +kernel
theorem dX12_codesTell_1 : decode cX12_codesTell 1 = .ok (.aload_n 0, 1) := by decide +kernel
theorem dX12_codesTell_2 : decode cX12_codesTell 2 = .ok (.getfield 127, 3) := by decide +kernel
theorem dX12_codesTell_5 : decode cX12_codesTell 5 = .ok (.bipush 10, 2) := by decide +kernel
theorem dX12_codesTell_7 : decode cX12_codesTell 7 = .ok (.iconst 3, 1) := by decide +kernel
theorem dX12_codesTell_8 : decode cX12_codesTell 8 = .ok (.iload_n 3, 1) := by decide +kernel
theorem dX12_codesTell_9 : decode cX12_codesTell 9 = .ok (.imul, 1) := by decide +kernel
theorem dX12_codesTell_10 : decode cX12_codesTell 10 = .ok (.iadd, 1) := by decide +kernel
theorem dX12_codesTell_11 : decode cX12_codesTell 11 = .ok (.iaload, 1) := by decide +kernel
theorem dX12_codesTell_12 : decode cX12_codesTell 12 = .ok (.putfield 428, 3) := by decide +kernel
theorem dX12_codesTell_15 : decode cX12_codesTell 15 = .ok (.aload_n 0, 1) := by decide +kernel
theorem dX12_codesTell_16 : decode cX12_codesTell 16 = .ok (.iconst 1, 1) := by decide +kernel
theorem dX12_codesTell_17 : decode cX12_codesTell 17 = .ok (.putfield 318, 3) := by decide +kernel
theorem dX12_codesTell_20 : decode cX12_codesTell 20 = .ok (.aload_n 0, 1) := by decide +kernel
theorem dX12_codesTell_21 : decode cX12_codesTell 21 = .ok (.iconst 0, 1) := by decide +kernel
theorem dX12_codesTell_22 : decode cX12_codesTell 22 = .ok (.putfield 431, 3) := by decide +kernel
theorem dX12_codesTell_25 : decode cX12_codesTell 25 = .ok (.aload_n 0, 1) := by decide +kernel
theorem dX12_codesTell_26 : decode cX12_codesTell 26 = .ok (.getfield 133, 3) := by decide +kernel
theorem dX12_codesTell_29 : decode cX12_codesTell 29 = .ok (.iconst 2, 1) := by decide +kernel
theorem dX12_codesTell_30 : decode cX12_codesTell 30 = .ok (.iload_n 1, 1) := by decide +kernel
theorem dX12_codesTell_31 : decode cX12_codesTell 31 = .ok (.iadd, 1) := by decide +kernel
theorem dX12_codesTell_32 : decode cX12_codesTell 32 = .ok (.iaload, 1) := by decide +kernel
theorem dX12_codesTell_33 : decode cX12_codesTell 33 = .ok (.istore 4, 2) := by decide +kernel
theorem dX12_codesTell_35 : decode cX12_codesTell 35 = .ok (.iload 4, 2) := by decide +kernel
theorem dX12_codesTell_37 : decode cX12_codesTell 37 = .ok (.aload_n 0, 1) := by decide +kernel
theorem dX12_codesTell_38 : decode cX12_codesTell 38 = .ok (.getfield 136, 3) := by decide +kernel
theorem dX12_codesTell_41 : decode cX12_codesTell 41 = .ok (.iconst 2, 1) := by decide +kernel
theorem dX12_codesTell_42 : decode cX12_codesTell 42 = .ok (.iload_n 1, 1) := by decide +kernel
theorem dX12_codesTell_43 : decode cX12_codesTell 43 = .ok (.iadd, 1) := by decide +kernel
theorem dX12_codesTell_44 : decode cX12_codesTell 44 = .ok (.iaload, 1) := by decide +kernel
theorem dX12_codesTell_45 : decode cX12_codesTell 45 = .ok (.if_icmp .ge 74, 3) := by decide +kernel
theorem dX12_codesTell_48 : decode cX12_codesTell 48 = .ok (.aload_n 0, 1) := by decide +kernel
theorem dX12_codesTell_49 : decode cX12_codesTell 49 = .ok (.getfield 139, 3) := by decide +kernel
theorem dX12_codesTell_52 : decode cX12_codesTell 52 = .ok (.sipush 1600, 3) := by decide +kernel
theorem dX12_codesTell_55 : decode cX12_codesTell 55 = .ok (.iload 4, 2) := by decide +kernel
theorem dX12_codesTell_57 : decode cX12_codesTell 57 = .ok (.iadd, 1) := by decide +kernel
theorem dX12_codesTell_58 : decode cX12_codesTell 58 = .ok (.iaload, 1) := by decide +kernel
theorem dX12_codesTell_59 : decode cX12_codesTell 59 = .ok (.istore 5, 2) := by decide +kernel
theorem dX12_codesTell_61 : decode cX12_codesTell 61 = .ok (.iload 5, 2) := by decide +kernel
theorem dX12_codesTell_63 : decode cX12_codesTell 63 = .ok (.sipush 1000, 3) := by decide +kernel
theorem dX12_codesTell_66 : decode cX12_codesTell 66 = .ok (.if_icmp .lt 17, 3) := by decide +kernel
theorem dX12_codesTell_69 : decode cX12_codesTell 69 = .ok (.aload_n 0, 1) := by decide +kernel
theorem dX12_codesTell_70 : decode cX12_codesTell 70 = .ok (.iload 5, 2) := by decide +kernel
theorem dX12_codesTell_72 : decode cX12_codesTell 72 = .ok (.sipush 1000, 3) := by decide +kernel
theorem dX12_codesTell_75 : decode cX12_codesTell 75 = .ok (.isub, 1) := by decide +kernel
theorem dX12_codesTell_76 : decode cX12_codesTell 76 = .ok (.i2l, 1) := by decide +kernel
theorem dX12_codesTell_77 : decode cX12_codesTell 77 = .ok (.invokevirtual 434, 3) := by decide +kernel
theorem dX12_codesTell_80 : decode cX12_codesTell 80 = .ok (.goto 33, 3) := by decide +kernel
theorem dX12_codesTell_83 : decode cX12_codesTell 83 = .ok (.iload 5, 2) := by decide +kernel
theorem dX12_codesTell_85 : decode cX12_codesTell 85 = .ok (.bipush 40, 2) := by decide +kernel
theorem dX12_codesTell_87 : decode cX12_codesTell 87 = .ok (.if_icmp .lt 20, 3) := by decide +kernel
theorem dX12_codesTell_90 : decode cX12_codesTell 90 = .ok (.aload_n 0, 1) := by decide +kernel
theorem dX12_codesTell_91 : decode cX12_codesTell 91 = .ok (.aload_n 0, 1) := by decide +kernel
theorem dX12_codesTell_92 : decode cX12_codesTell 92 = .ok (.iload 5, 2) := by decide +kernel
theorem dX12_codesTell_94 : decode cX12_codesTell 94 = .ok (.bipush 40, 2) := by decide +kernel
theorem dX12_codesTell_96 : decode cX12_codesTell 96 = .ok (.isub, 1) := by decide +kernel
theorem dX12_codesTell_97 : decode cX12_codesTell 97 = .ok (.iload_n 2, 1) := by decide +kernel
theorem dX12_codesTell_98 : decode cX12_codesTell 98 = .ok (.invokevirtual 438, 3) := by decide +kernel
theorem dX12_codesTell_101 : decode cX12_codesTell 101 = .ok (.invokevirtual 434, 3) := by decide +kernel
theorem dX12_codesTell_104 : decode cX12_codesTell 104 = .ok (.goto 9, 3) := by decide +kernel
theorem dX12_codesTell_107 : decode cX12_codesTell 107 = .ok (.aload_n 0, 1) := by decide +kernel
theorem dX12_codesTell_108 : decode cX12_codesTell 108 = .ok (.iload 5, 2) := by decide +kernel
theorem dX12_codesTell_110 : decode cX12_codesTell 110 = .ok (.invokevirtual 442, 3) := by decide +kernel
theorem dX12_codesTell_113 : decode cX12_codesTell 113 = .ok (.iinc 4 1, 3) := by decide +kernel
theorem dX12_codesTell_116 : decode cX12_codesTell 116 = .ok (.goto (-81), 3) := by decide +kernel
theorem dX12_codesTell_119 : decode cX12_codesTell 119 = .ok (.aload_n 0, 1) := by decide +kernel
theorem dX12_codesTell_120 : decode cX12_codesTell 120 = .ok (.getfield 254, 3) := by decide +kernel
theorem dX12_codesTell_123 : decode cX12_codesTell 123 = .ok (.iconst 0, 1) := by decide +kernel
theorem dX12_codesTell_124 : decode cX12_codesTell 124 = .ok (.laload, 1) := by decide +kernel
theorem dX12_codesTell_125 : decode cX12_codesTell 125 = .ok (.lreturn, 1) := by decide +kernel
theorem dX12_isOwnHere_0 : decode cX12_isOwnHere 0 = .ok (.aload_n 0, 1) := by decide +kernel
theorem dX12_isOwnHere_1 : decode cX12_isOwnHere 1 = .ok (.aload_n 0, 1) := by decide +kernel
theorem dX12_isOwnHere_2 : decode cX12_isOwnHere 2 = .ok (.getfield 20, 3) := by decide +kernel
theorem dX12_isOwnHere_5 : decode cX12_isOwnHere 5 = .ok (.invokevirtual 286, 3) := by decide +kernel
theorem dX12_isOwnHere_8 : decode cX12_isOwnHere 8 = .ok (.ifCond .ne 58, 3) := by decide +kernel
theorem dX12_isOwnHere_11 : decode cX12_isOwnHere 11 = .ok (.aload_n 0, 1) := by decide +kernel
theorem dX12_isOwnHere_12 : decode cX12_isOwnHere 12 = .ok (.aload_n 0, 1) := by decide +kernel
theorem dX12_isOwnHere_13 : decode cX12_isOwnHere 13 = .ok (.getfield 24, 3) := by decide +kernel
theorem dX12_isOwnHere_16 : decode cX12_isOwnHere 16 = .ok (.invokevirtual 286, 3) := by decide +kernel
theorem dX12_isOwnHere_19 : decode cX12_isOwnHere 19 = .ok (.ifCond .ne 47, 3) := by decide +kernel
theorem dX12_isOwnHere_22 : decode cX12_isOwnHere 22 = .ok (.aload_n 0, 1) := by decide +kernel
theorem dX12_isOwnHere_23 : decode cX12_isOwnHere 23 = .ok (.aload_n 0, 1) := by decide +kernel
theorem dX12_isOwnHere_24 : decode cX12_isOwnHere 24 = .ok (.getfield 27, 3) := by decide +kernel
theorem dX12_isOwnHere_27 : decode cX12_isOwnHere 27 = .ok (.invokevirtual 286, 3) := by decide +kernel
theorem dX12_isOwnHere_30 : decode cX12_isOwnHere 30 = .ok (.ifCond .ne 36, 3) := by decide +kernel
theorem dX12_isOwnHere_33 : decode cX12_isOwnHere 33 = .ok (.aload_n 0, 1) := by decide +kernel
theorem dX12_isOwnHere_34 : decode cX12_isOwnHere 34 = .ok (.aload_n 0, 1) := by decide +kernel
theorem dX12_isOwnHere_35 : decode cX12_isOwnHere 35 = .ok (.getfield 30, 3) := by decide +kernel
theorem dX12_isOwnHere_38 : decode cX12_isOwnHere 38 = .ok (.invokevirtual 286, 3) := by decide +kernel
theorem dX12_isOwnHere_41 : decode cX12_isOwnHere 41 = .ok (.ifCond .ne 25, 3) := by decide +kernel
theorem dX12_isOwnHere_44 : decode cX12_isOwnHere 44 = .ok (.aload_n 0, 1) := by decide +kernel
theorem dX12_isOwnHere_45 : decode cX12_isOwnHere 45 = .ok (.aload_n 0, 1) := by decide +kernel
theorem dX12_isOwnHere_46 : decode cX12_isOwnHere 46 = .ok (.getfield 33, 3) := by decide +kernel
theorem dX12_isOwnHere_49 : decode cX12_isOwnHere 49 = .ok (.invokevirtual 286, 3) := by decide +kernel
theorem dX12_isOwnHere_52 : decode cX12_isOwnHere 52 = .ok (.ifCond .ne 14, 3) := by decide +kernel
theorem dX12_isOwnHere_55 : decode cX12_isOwnHere 55 = .ok (.aload_n 0, 1) := by decide +kernel
theorem dX12_isOwnHere_56 : decode cX12_isOwnHere 56 = .ok (.aload_n 0, 1) := by decide +kernel
theorem dX12_isOwnHere_57 : decode cX12_isOwnHere 57 = .ok (.getfield 36, 3) := by decide +kernel
theorem dX12_isOwnHere_60 : decode cX12_isOwnHere 60 = .ok (.invokevirtual 286, 3) := by decide +kernel
theorem dX12_isOwnHere_63 : decode cX12_isOwnHere 63 = .ok (.ifCond .eq 7, 3) := by decide +kernel
theorem dX12_isOwnHere_66 : decode cX12_isOwnHere 66 = .ok (.iconst 1, 1) := by decide +kernel
theorem dX12_isOwnHere_67 : decode cX12_isOwnHere 67 = .ok (.goto 4, 3) := by decide +kernel
theorem dX12_isOwnHere_70 : decode cX12_isOwnHere 70 = .ok (.iconst 0, 1) := by decide +kernel
theorem dX12_isOwnHere_71 : decode cX12_isOwnHere 71 = .ok (.istore_n 1, 1) := by decide +kernel
theorem dX12_isOwnHere_72 : decode cX12_isOwnHere 72 = .ok (.iload_n 1, 1) := by decide +kernel
theorem dX12_isOwnHere_73 : decode cX12_isOwnHere 73 = .ok (.ifCond .ne 69, 3) := by decide +kernel
theorem dX12_isOwnHere_76 : decode cX12_isOwnHere 76 = .ok (.aload_n 0, 1) := by decide +kernel
theorem dX12_isOwnHere_77 : decode cX12_isOwnHere 77 = .ok (.aload_n 0, 1) := by decide +kernel
theorem dX12_isOwnHere_78 : decode cX12_isOwnHere 78 = .ok (.getfield 39, 3) := by decide +kernel
theorem dX12_isOwnHere_81 : decode cX12_isOwnHere 81 = .ok (.invokevirtual 286, 3) := by decide +kernel
theorem dX12_isOwnHere_84 : decode cX12_isOwnHere 84 = .ok (.ifCond .ne 58, 3) := by decide +kernel
theorem dX12_isOwnHere_87 : decode cX12_isOwnHere 87 = .ok (.aload_n 0, 1) := by decide +kernel
theorem dX12_isOwnHere_88 : decode cX12_isOwnHere 88 = .ok (.aload_n 0, 1) := by decide +kernel
theorem dX12_isOwnHere_89 : decode cX12_isOwnHere 89 = .ok (.getfield 42, 3) := by decide +kernel
theorem dX12_isOwnHere_92 : decode cX12_isOwnHere 92 = .ok (.invokevirtual 286, 3) := by decide +kernel
theorem dX12_isOwnHere_95 : decode cX12_isOwnHere 95 = .ok (.ifCond .ne 47, 3) := by decide +kernel
theorem dX12_isOwnHere_98 : decode cX12_isOwnHere 98 = .ok (.aload_n 0, 1) := by decide +kernel
theorem dX12_isOwnHere_99 : decode cX12_isOwnHere 99 = .ok (.aload_n 0, 1) := by decide +kernel
theorem dX12_isOwnHere_100 : decode cX12_isOwnHere 100 = .ok (.getfield 45, 3) := by decide +kernel
theorem dX12_isOwnHere_103 : decode cX12_isOwnHere 103 = .ok (.invokevirtual 286, 3) := by decide +kernel
theorem dX12_isOwnHere_106 : decode cX12_isOwnHere 106 = .ok (.ifCond .ne 36, 3) := by decide +kernel
theorem dX12_isOwnHere_109 : decode cX12_isOwnHere 109 = .ok (.aload_n 0, 1) := by decide +kernel
theorem dX12_isOwnHere_110 : decode cX12_isOwnHere 110 = .ok (.aload_n 0, 1) := by decide +kernel
theorem dX12_isOwnHere_111 : decode cX12_isOwnHere 111 = .ok (.getfield 48, 3) := by decide +kernel
theorem dX12_isOwnHere_114 : decode cX12_isOwnHere 114 = .ok (.invokevirtual 286, 3) := by decide +kernel
theorem dX12_isOwnHere_117 : decode cX12_isOwnHere 117 = .ok (.ifCond .ne 25, 3) := by decide +kernel
theorem dX12_isOwnHere_120 : decode cX12_isOwnHere 120 = .ok (.aload_n 0, 1) := by decide +kernel
theorem dX12_isOwnHere_121 : decode cX12_isOwnHere 121 = .ok (.aload_n 0, 1) := by decide +kernel
theorem dX12_isOwnHere_122 : decode cX12_isOwnHere 122 = .ok (.getfield 51, 3) := by decide +kernel
theorem dX12_isOwnHere_125 : decode cX12_isOwnHere 125 = .ok (.invokevirtual 286, 3) := by decide +kernel
theorem dX12_isOwnHere_128 : decode cX12_isOwnHere 128 = .ok (.ifCond .ne 14, 3) := by decide +kernel
theorem dX12_isOwnHere_131 : decode cX12_isOwnHere 131 = .ok (.aload_n 0, 1) := by decide +kernel
theorem dX12_isOwnHere_132 : decode cX12_isOwnHere 132 = .ok (.aload_n 0, 1) := by decide +kernel
theorem dX12_isOwnHere_133 : decode cX12_isOwnHere 133 = .ok (.getfield 54, 3) := by decide +kernel
theorem dX12_isOwnHere_136 : decode cX12_isOwnHere 136 = .ok (.invokevirtual 286, 3) := by decide +kernel
theorem dX12_isOwnHere_139 : decode cX12_isOwnHere 139 = .ok (.ifCond .eq 7, 3) := by decide +kernel
theorem dX12_isOwnHere_142 : decode cX12_isOwnHere 142 = .ok (.iconst 1, 1) := by decide +kernel
theorem dX12_isOwnHere_143 : decode cX12_isOwnHere 143 = .ok (.goto 4, 3) := by decide +kernel
theorem dX12_isOwnHere_146 : decode cX12_isOwnHere 146 = .ok (.iconst 0, 1) := by decide +kernel
theorem dX12_isOwnHere_147 : decode cX12_isOwnHere 147 = .ok (.istore_n 1, 1) := by decide +kernel
theorem dX12_isOwnHere_148 : decode cX12_isOwnHere 148 = .ok (.iload_n 1, 1) := by decide +kernel
theorem dX12_isOwnHere_149 : decode cX12_isOwnHere 149 = .ok (.ifCond .ne 69, 3) := by decide +kernel
theorem dX12_isOwnHere_152 : decode cX12_isOwnHere 152 = .ok (.aload_n 0, 1) := by decide +kernel
theorem dX12_isOwnHere_153 : decode cX12_isOwnHere 153 = .ok (.aload_n 0, 1) := by decide +kernel
theorem dX12_isOwnHere_154 : decode cX12_isOwnHere 154 = .ok (.getfield 57, 3) := by decide +kernel
theorem dX12_isOwnHere_157 : decode cX12_isOwnHere 157 = .ok (.invokevirtual 286, 3) := by decide +kernel
theorem dX12_isOwnHere_160 : decode cX12_isOwnHere 160 = .ok (.ifCond .ne 58, 3) := by decide +kernel
theorem dX12_isOwnHere_163 : decode cX12_isOwnHere 163 = .ok (.aload_n 0, 1) := by decide +kernel
theorem dX12_isOwnHere_164 : decode cX12_isOwnHere 164 = .ok (.aload_n 0, 1) := by decide +kernel
theorem dX12_isOwnHere_165 : decode cX12_isOwnHere 165 = .ok (.getfield 60, 3) := by decide +kernel
theorem dX12_isOwnHere_168 : decode cX12_isOwnHere 168 = .ok (.invokevirtual 286, 3) := by decide +kernel
theorem dX12_isOwnHere_171 : decode cX12_isOwnHere 171 = .ok (.ifCond .ne 47, 3) := by decide +kernel
theorem dX12_isOwnHere_174 : decode cX12_isOwnHere 174 = .ok (.aload_n 0, 1) := by decide +kernel
theorem dX12_isOwnHere_175 : decode cX12_isOwnHere 175 = .ok (.aload_n 0, 1) := by decide +kernel
theorem dX12_isOwnHere_176 : decode cX12_isOwnHere 176 = .ok (.getfield 63, 3) := by decide +kernel
theorem dX12_isOwnHere_179 : decode cX12_isOwnHere 179 = .ok (.invokevirtual 286, 3) := by decide +kernel
theorem dX12_isOwnHere_182 : decode cX12_isOwnHere 182 = .ok (.ifCond .ne 36, 3) := by decide +kernel
theorem dX12_isOwnHere_185 : decode cX12_isOwnHere 185 = .ok (.aload_n 0, 1) := by decide +kernel
theorem dX12_isOwnHere_186 : decode cX12_isOwnHere 186 = .ok (.aload_n 0, 1) := by decide +kernel
theorem dX12_isOwnHere_187 : decode cX12_isOwnHere 187 = .ok (.getfield 66, 3) := by decide +kernel
theorem dX12_isOwnHere_190 : decode cX12_isOwnHere 190 = .ok (.invokevirtual 286, 3) := by decide +kernel
theorem dX12_isOwnHere_193 : decode cX12_isOwnHere 193 = .ok (.ifCond .ne 25, 3) := by decide +kernel
theorem dX12_isOwnHere_196 : decode cX12_isOwnHere 196 = .ok (.aload_n 0, 1) := by decide +kernel
theorem dX12_isOwnHere_197 : decode cX12_isOwnHere 197 = .ok (.aload_n 0, 1) := by decide +kernel
theorem dX12_isOwnHere_198 : decode cX12_isOwnHere 198 = .ok (.getfield 69, 3) := by decide +kernel
theorem dX12_isOwnHere_201 : decode cX12_isOwnHere 201 = .ok (.invokevirtual 286, 3) := by decide +kernel
theorem dX12_isOwnHere_204 : decode cX12_isOwnHere 204 = .ok (.ifCond .ne 14, 3) := by decide +kernel
theorem dX12_isOwnHere_207 : decode cX12_isOwnHere 207 = .ok (.aload_n 0, 1) := by decide +kernel
theorem dX12_isOwnHere_208 : decode cX12_isOwnHere 208 = .ok (.aload_n 0, 1) := by decide +kernel
theorem dX12_isOwnHere_209 : decode cX12_isOwnHere 209 = .ok (.getfield 72, 3) := by decide +kernel
theorem dX12_isOwnHere_212 : decode cX12_isOwnHere 212 = .ok (.invokevirtual 286, 3) := by decide +kernel
theorem dX12_isOwnHere_215 : decode cX12_isOwnHere 215 = .ok (.ifCond .eq 7, 3) := by decide +kernel
theorem dX12_isOwnHere_218 : decode cX12_isOwnHere 218 = .ok (.iconst 1, 1) := by decide +kernel
theorem dX12_isOwnHere_219 : decode cX12_isOwnHere 219 = .ok (.goto 4, 3) := by decide +kernel
theorem dX12_isOwnHere_222 : decode cX12_isOwnHere 222 = .ok (.iconst 0, 1) := by decide +kernel
theorem dX12_isOwnHere_223 : decode cX12_isOwnHere 223 = .ok (.istore_n 1, 1) := by decide +kernel
theorem dX12_isOwnHere_224 : decode cX12_isOwnHere 224 = .ok (.iload_n 1, 1) := by decide +kernel
theorem dX12_isOwnHere_225 : decode cX12_isOwnHere 225 = .ok (.ifCond .ne 69, 3) := by decide +kernel
theorem dX12_isOwnHere_228 : decode cX12_isOwnHere 228 = .ok (.aload_n 0, 1) := by decide +kernel
theorem dX12_isOwnHere_229 : decode cX12_isOwnHere 229 = .ok (.aload_n 0, 1) := by decide +kernel
theorem dX12_isOwnHere_230 : decode cX12_isOwnHere 230 = .ok (.getfield 75, 3) := by decide +kernel
theorem dX12_isOwnHere_233 : decode cX12_isOwnHere 233 = .ok (.invokevirtual 286, 3) := by decide +kernel
theorem dX12_isOwnHere_236 : decode cX12_isOwnHere 236 = .ok (.ifCond .ne 58, 3) := by decide +kernel
theorem dX12_isOwnHere_239 : decode cX12_isOwnHere 239 = .ok (.aload_n 0, 1) := by decide +kernel
theorem dX12_isOwnHere_240 : decode cX12_isOwnHere 240 = .ok (.aload_n 0, 1) := by decide +kernel
theorem dX12_isOwnHere_241 : decode cX12_isOwnHere 241 = .ok (.getfield 78, 3) := by decide +kernel
theorem dX12_isOwnHere_244 : decode cX12_isOwnHere 244 = .ok (.invokevirtual 286, 3) := by decide +kernel
theorem dX12_isOwnHere_247 : decode cX12_isOwnHere 247 = .ok (.ifCond .ne 47, 3) := by decide +kernel
theorem dX12_isOwnHere_250 : decode cX12_isOwnHere 250 = .ok (.aload_n 0, 1) := by decide +kernel
theorem dX12_isOwnHere_251 : decode cX12_isOwnHere 251 = .ok (.aload_n 0, 1) := by decide +kernel
theorem dX12_isOwnHere_252 : decode cX12_isOwnHere 252 = .ok (.getfield 81, 3) := by decide +kernel
theorem dX12_isOwnHere_255 : decode cX12_isOwnHere 255 = .ok (.invokevirtual 286, 3) := by decide +kernel
theorem dX12_isOwnHere_258 : decode cX12_isOwnHere 258 = .ok (.ifCond .ne 36, 3) := by decide +kernel
theorem dX12_isOwnHere_261 : decode cX12_isOwnHere 261 = .ok (.aload_n 0, 1) := by decide +kernel
theorem dX12_isOwnHere_262 : decode cX12_isOwnHere 262 = .ok (.aload_n 0, 1) := by decide +kernel
theorem dX12_isOwnHere_263 : decode cX12_isOwnHere 263 = .ok (.getfield 84, 3) := by decide +kernel
theorem dX12_isOwnHere_266 : decode cX12_isOwnHere 266 = .ok (.invokevirtual 286, 3) := by decide +kernel
theorem dX12_isOwnHere_269 : decode cX12_isOwnHere 269 = .ok (.ifCond .ne 25, 3) := by decide +kernel
theorem dX12_isOwnHere_272 : decode cX12_isOwnHere 272 = .ok (.aload_n 0, 1) := by decide +kernel
theorem dX12_isOwnHere_273 : decode cX12_isOwnHere 273 = .ok (.aload_n 0, 1) := by decide +kernel
theorem dX12_isOwnHere_274 : decode cX12_isOwnHere 274 = .ok (.getfield 87, 3) := by decide +kernel
theorem dX12_isOwnHere_277 : decode cX12_isOwnHere 277 = .ok (.invokevirtual 286, 3) := by decide +kernel
theorem dX12_isOwnHere_280 : decode cX12_isOwnHere 280 = .ok (.ifCond .ne 14, 3) := by decide +kernel
theorem dX12_isOwnHere_283 : decode cX12_isOwnHere 283 = .ok (.aload_n 0, 1) := by decide +kernel
theorem dX12_isOwnHere_284 : decode cX12_isOwnHere 284 = .ok (.aload_n 0, 1) := by decide +kernel
theorem dX12_isOwnHere_285 : decode cX12_isOwnHere 285 = .ok (.getfield 90, 3) := by decide +kernel
theorem dX12_isOwnHere_288 : decode cX12_isOwnHere 288 = .ok (.invokevirtual 286, 3) := by decide +kernel
theorem dX12_isOwnHere_291 : decode cX12_isOwnHere 291 = .ok (.ifCond .eq 7, 3) := by decide +kernel
theorem dX12_isOwnHere_294 : decode cX12_isOwnHere 294 = .ok (.iconst 1, 1) := by decide +kernel
theorem dX12_isOwnHere_295 : decode cX12_isOwnHere 295 = .ok (.goto 4, 3) := by decide +kernel
theorem dX12_isOwnHere_298 : decode cX12_isOwnHere 298 = .ok (.iconst 0, 1) := by decide +kernel
theorem dX12_isOwnHere_299 : decode cX12_isOwnHere 299 = .ok (.istore_n 1, 1) := by decide +kernel
theorem dX12_isOwnHere_300 : decode cX12_isOwnHere 300 = .ok (.iload_n 1, 1) := by decide +kernel
theorem dX12_isOwnHere_301 : decode cX12_isOwnHere 301 = .ok (.ifCond .ne 47, 3) := by decide +kernel
theorem dX12_isOwnHere_304 : decode cX12_isOwnHere 304 = .ok (.aload_n 0, 1) := by decide +kernel
theorem dX12_isOwnHere_305 : decode cX12_isOwnHere 305 = .ok (.aload_n 0, 1) := by decide +kernel
theorem dX12_isOwnHere_306 : decode cX12_isOwnHere 306 = .ok (.getfield 93, 3) := by decide +kernel
theorem dX12_isOwnHere_309 : decode cX12_isOwnHere 309 = .ok (.invokevirtual 286, 3) := by decide +kernel
theorem dX12_isOwnHere_312 : decode cX12_isOwnHere 312 = .ok (.ifCond .ne 36, 3) := by decide +kernel
theorem dX12_isOwnHere_315 : decode cX12_isOwnHere 315 = .ok (.aload_n 0, 1) := by decide +kernel
theorem dX12_isOwnHere_316 : decode cX12_isOwnHere 316 = .ok (.aload_n 0, 1) := by decide +kernel
theorem dX12_isOwnHere_317 : decode cX12_isOwnHere 317 = .ok (.getfield 96, 3) := by decide +kernel
theorem dX12_isOwnHere_320 : decode cX12_isOwnHere 320 = .ok (.invokevirtual 286, 3) := by decide +kernel
theorem dX12_isOwnHere_323 : decode cX12_isOwnHere 323 = .ok (.ifCond .ne 25, 3) := by decide +kernel
theorem dX12_isOwnHere_326 : decode cX12_isOwnHere 326 = .ok (.aload_n 0, 1) := by decide +kernel
theorem dX12_isOwnHere_327 : decode cX12_isOwnHere 327 = .ok (.aload_n 0, 1) := by decide +kernel
theorem dX12_isOwnHere_328 : decode cX12_isOwnHere 328 = .ok (.getfield 99, 3) := by decide +kernel
theorem dX12_isOwnHere_331 : decode cX12_isOwnHere 331 = .ok (.invokevirtual 286, 3) := by decide +kernel
theorem dX12_isOwnHere_334 : decode cX12_isOwnHere 334 = .ok (.ifCond .ne 14, 3) := by decide +kernel
theorem dX12_isOwnHere_337 : decode cX12_isOwnHere 337 = .ok (.aload_n 0, 1) := by decide +kernel
theorem dX12_isOwnHere_338 : decode cX12_isOwnHere 338 = .ok (.aload_n 0, 1) := by decide +kernel
theorem dX12_isOwnHere_339 : decode cX12_isOwnHere 339 = .ok (.getfield 102, 3) := by decide +kernel
theorem dX12_isOwnHere_342 : decode cX12_isOwnHere 342 = .ok (.invokevirtual 286, 3) := by decide +kernel
theorem dX12_isOwnHere_345 : decode cX12_isOwnHere 345 = .ok (.ifCond .eq 7, 3) := by decide +kernel
theorem dX12_isOwnHere_348 : decode cX12_isOwnHere 348 = .ok (.iconst 1, 1) := by decide +kernel
theorem dX12_isOwnHere_349 : decode cX12_isOwnHere 349 = .ok (.goto 4, 3) := by decide +kernel
theorem dX12_isOwnHere_352 : decode cX12_isOwnHere 352 = .ok (.iconst 0, 1) := by decide +kernel
theorem dX12_isOwnHere_353 : decode cX12_isOwnHere 353 = .ok (.istore_n 1, 1) := by decide +kernel
theorem dX12_isOwnHere_354 : decode cX12_isOwnHere 354 = .ok (.iload_n 1, 1) := by decide +kernel
theorem dX12_isOwnHere_355 : decode cX12_isOwnHere 355 = .ok (.ireturn, 1) := by decide +kernel
theorem dX12_qWordHere_0 : decode cX12_qWordHere 0 = .ok (.aload_n 0, 1) := by decide +kernel
theorem dX12_qWordHere_1 : decode cX12_qWordHere 1 = .ok (.aload_n 0, 1) := by decide +kernel
theorem dX12_qWordHere_2 : decode cX12_qWordHere 2 = .ok (.getfield 215, 3) := by decide +kernel
theorem dX12_qWordHere_5 : decode cX12_qWordHere 5 = .ok (.invokevirtual 286, 3) := by decide +kernel
theorem dX12_qWordHere_8 : decode cX12_qWordHere 8 = .ok (.ifCond .eq 5, 3) := by decide +kernel
theorem dX12_qWordHere_11 : decode cX12_qWordHere 11 = .ok (.iconst 0, 1) := by decide +kernel
theorem dX12_qWordHere_12 : decode cX12_qWordHere 12 = .ok (.ireturn, 1) := by decide +kernel
theorem dX12_qWordHere_13 : decode cX12_qWordHere 13 = .ok (.aload_n 0, 1) := by decide +kernel
theorem dX12_qWordHere_14 : decode cX12_qWordHere 14 = .ok (.aload_n 0, 1) := by decide +kernel
theorem dX12_qWordHere_15 : decode cX12_qWordHere 15 = .ok (.getfield 218, 3) := by decide +kernel
theorem dX12_qWordHere_18 : decode cX12_qWordHere 18 = .ok (.invokevirtual 286, 3) := by decide +kernel
theorem dX12_qWordHere_21 : decode cX12_qWordHere 21 = .ok (.ifCond .eq 5, 3) := by decide +kernel
theorem dX12_qWordHere_24 : decode cX12_qWordHere 24 = .ok (.iconst 1, 1) := by decide +kernel
theorem dX12_qWordHere_25 : decode cX12_qWordHere 25 = .ok (.ireturn, 1) := by decide +kernel
theorem dX12_qWordHere_26 : decode cX12_qWordHere 26 = .ok (.aload_n 0, 1) := by decide +kernel
theorem dX12_qWordHere_27 : decode cX12_qWordHere 27 = .ok (.aload_n 0, 1) := by decide +kernel
theorem dX12_qWordHere_28 : decode cX12_qWordHere 28 = .ok (.getfield 221, 3) := by decide +kernel
theorem dX12_qWordHere_31 : decode cX12_qWordHere 31 = .ok (.invokevirtual 286, 3) := by decide +kernel
theorem dX12_qWordHere_34 : decode cX12_qWordHere 34 = .ok (.ifCond .eq 5, 3) := by decide +kernel
theorem dX12_qWordHere_37 : decode cX12_qWordHere 37 = .ok (.iconst 2, 1) := by decide +kernel
theorem dX12_qWordHere_38 : decode cX12_qWordHere 38 = .ok (.ireturn, 1) := by decide +kernel
theorem dX12_qWordHere_39 : decode cX12_qWordHere 39 = .ok (.aload_n 0, 1) := by decide +kernel
theorem dX12_qWordHere_40 : decode cX12_qWordHere 40 = .ok (.aload_n 0, 1) := by decide +kernel
theorem dX12_qWordHere_41 : decode cX12_qWordHere 41 = .ok (.getfield 224, 3) := by decide +kernel
theorem dX12_qWordHere_44 : decode cX12_qWordHere 44 = .ok (.invokevirtual 286, 3) := by decide +kernel
theorem dX12_qWordHere_47 : decode cX12_qWordHere 47 = .ok (.ifCond .eq 5, 3) := by decide +kernel
theorem dX12_qWordHere_50 : decode cX12_qWordHere 50 = .ok (.iconst 3, 1) := by decide +kernel
theorem dX12_qWordHere_51 : decode cX12_qWordHere 51 = .ok (.ireturn, 1) := by decide +kernel
theorem dX12_qWordHere_52 : decode cX12_qWordHere 52 = .ok (.aload_n 0, 1) := by decide +kernel
theorem dX12_qWordHere_53 : decode cX12_qWordHere 53 = .ok (.aload_n 0, 1) := by decide +kernel
theorem dX12_qWordHere_54 : decode cX12_qWordHere 54 = .ok (.getfield 227, 3) := by decide +kernel
theorem dX12_qWordHere_57 : decode cX12_qWordHere 57 = .ok (.invokevirtual 286, 3) := by decide +kernel
theorem dX12_qWordHere_60 : decode cX12_qWordHere 60 = .ok (.ifCond .eq 5, 3) := by decide +kernel
theorem dX12_qWordHere_63 : decode cX12_qWordHere 63 = .ok (.iconst 4, 1) := by decide +kernel
theorem dX12_qWordHere_64 : decode cX12_qWordHere 64 = .ok (.ireturn, 1) := by decide +kernel
theorem dX12_qWordHere_65 : decode cX12_qWordHere 65 = .ok (.aload_n 0, 1) := by decide +kernel
theorem dX12_qWordHere_66 : decode cX12_qWordHere 66 = .ok (.aload_n 0, 1) := by decide +kernel
theorem dX12_qWordHere_67 : decode cX12_qWordHere 67 = .ok (.getfield 230, 3) := by decide +kernel
theorem dX12_qWordHere_70 : decode cX12_qWordHere 70 = .ok (.invokevirtual 286, 3) := by decide +kernel
theorem dX12_qWordHere_73 : decode cX12_qWordHere 73 = .ok (.ifCond .eq 5, 3) := by decide +kernel
theorem dX12_qWordHere_76 : decode cX12_qWordHere 76 = .ok (.iconst 5, 1) := by decide +kernel
theorem dX12_qWordHere_77 : decode cX12_qWordHere 77 = .ok (.ireturn, 1) := by decide +kernel
theorem dX12_qWordHere_78 : decode cX12_qWordHere 78 = .ok (.aload_n 0, 1) := by decide +kernel
theorem dX12_qWordHere_79 : decode cX12_qWordHere 79 = .ok (.aload_n 0, 1) := by decide +kernel
theorem dX12_qWordHere_80 : decode cX12_qWordHere 80 = .ok (.getfield 233, 3) := by decide +kernel
theorem dX12_qWordHere_83 : decode cX12_qWordHere 83 = .ok (.invokevirtual 286, 3) := by decide +kernel
theorem dX12_qWordHere_86 : decode cX12_qWordHere 86 = .ok (.ifCond .eq 6, 3) := by decide +kernel
theorem dX12_qWordHere_89 : decode cX12_qWordHere 89 = .ok (.bipush 6, 2) := by decide +kernel
theorem dX12_qWordHere_91 : decode cX12_qWordHere 91 = .ok (.ireturn, 1) := by decide +kernel
theorem dX12_qWordHere_92 : decode cX12_qWordHere 92 = .ok (.aload_n 0, 1) := by decide +kernel
theorem dX12_qWordHere_93 : decode cX12_qWordHere 93 = .ok (.aload_n 0, 1) := by decide +kernel
theorem dX12_qWordHere_94 : decode cX12_qWordHere 94 = .ok (.getfield 236, 3) := by decide +kernel
theorem dX12_qWordHere_97 : decode cX12_qWordHere 97 = .ok (.invokevirtual 286, 3) := by decide +kernel
theorem dX12_qWordHere_100 : decode cX12_qWordHere 100 = .ok (.ifCond .eq 6, 3) := by decide +kernel
theorem dX12_qWordHere_103 : decode cX12_qWordHere 103 = .ok (.bipush 7, 2) := by decide +kernel
theorem dX12_qWordHere_105 : decode cX12_qWordHere 105 = .ok (.ireturn, 1) := by decide +kernel
theorem dX12_qWordHere_106 : decode cX12_qWordHere 106 = .ok (.aload_n 0, 1) := by decide +kernel
theorem dX12_qWordHere_107 : decode cX12_qWordHere 107 = .ok (.aload_n 0, 1) := by decide +kernel
theorem dX12_qWordHere_108 : decode cX12_qWordHere 108 = .ok (.getfield 239, 3) := by decide +kernel
theorem dX12_qWordHere_111 : decode cX12_qWordHere 111 = .ok (.invokevirtual 286, 3) := by decide +kernel
theorem dX12_qWordHere_114 : decode cX12_qWordHere 114 = .ok (.ifCond .eq 6, 3) := by decide +kernel
theorem dX12_qWordHere_117 : decode cX12_qWordHere 117 = .ok (.bipush 8, 2) := by decide +kernel
theorem dX12_qWordHere_119 : decode cX12_qWordHere 119 = .ok (.ireturn, 1) := by decide +kernel
theorem dX12_qWordHere_120 : decode cX12_qWordHere 120 = .ok (.aload_n 0, 1) := by decide +kernel
theorem dX12_qWordHere_121 : decode cX12_qWordHere 121 = .ok (.aload_n 0, 1) := by decide +kernel
theorem dX12_qWordHere_122 : decode cX12_qWordHere 122 = .ok (.getfield 242, 3) := by decide +kernel
theorem dX12_qWordHere_125 : decode cX12_qWordHere 125 = .ok (.invokevirtual 286, 3) := by decide +kernel
theorem dX12_qWordHere_128 : decode cX12_qWordHere 128 = .ok (.ifCond .eq 6, 3) := by decide +kernel
theorem dX12_qWordHere_131 : decode cX12_qWordHere 131 = .ok (.bipush 9, 2) := by decide +kernel
theorem dX12_qWordHere_133 : decode cX12_qWordHere 133 = .ok (.ireturn, 1) := by decide +kernel
theorem dX12_qWordHere_134 : decode cX12_qWordHere 134 = .ok (.aload_n 0, 1) := by decide +kernel
theorem dX12_qWordHere_135 : decode cX12_qWordHere 135 = .ok (.aload_n 0, 1) := by decide +kernel
theorem dX12_qWordHere_136 : decode cX12_qWordHere 136 = .ok (.getfield 245, 3) := by decide +kernel
theorem dX12_qWordHere_139 : decode cX12_qWordHere 139 = .ok (.invokevirtual 286, 3) := by decide +kernel
theorem dX12_qWordHere_142 : decode cX12_qWordHere 142 = .ok (.ifCond .eq 6, 3) := by decide +kernel
theorem dX12_qWordHere_145 : decode cX12_qWordHere 145 = .ok (.bipush 10, 2) := by decide +kernel
theorem dX12_qWordHere_147 : decode cX12_qWordHere 147 = .ok (.ireturn, 1) := by decide +kernel
theorem dX12_qWordHere_148 : decode cX12_qWordHere 148 = .ok (.iconst (-1), 1) := by decide +kernel
theorem dX12_qWordHere_149 : decode cX12_qWordHere 149 = .ok (.ireturn, 1) := by decide +kernel
theorem dX12_feed_0 : decode cX12_feed 0 = .ok (.aload_n 0, 1) := by decide +kernel
theorem dX12_feed_1 : decode cX12_feed 1 = .ok (.getfield 260, 3) := by decide +kernel
theorem dX12_feed_4 : decode cX12_feed 4 = .ok (.bipush 20, 2) := by decide +kernel
theorem dX12_feed_6 : decode cX12_feed 6 = .ok (.iadd, 1) := by decide +kernel
theorem dX12_feed_7 : decode cX12_feed 7 = .ok (.sipush 1600, 3) := by decide +kernel
theorem dX12_feed_10 : decode cX12_feed 10 = .ok (.if_icmp .le 15, 3) := by decide +kernel
theorem dX12_feed_13 : decode cX12_feed 13 = .ok (.aload_n 0, 1) := by decide +kernel
theorem dX12_feed_14 : decode cX12_feed 14 = .ok (.getfield 17, 3) := by decide +kernel
theorem dX12_feed_17 : decode cX12_feed 17 = .ok (.iconst 0, 1) := by decide +kernel
theorem dX12_feed_18 : decode cX12_feed 18 = .ok (.dup2, 1) := by decide +kernel
theorem dX12_feed_19 : decode cX12_feed 19 = .ok (.iaload, 1) := by decide +kernel
theorem dX12_feed_20 : decode cX12_feed 20 = .ok (.iconst 1, 1) := by decide +kernel
theorem dX12_feed_21 : decode cX12_feed 21 = .ok (.iadd, 1) := by decide +kernel
theorem dX12_feed_22 : decode cX12_feed 22 = .ok (.iastore, 1) := by decide +kernel
theorem dX12_feed_23 : decode cX12_feed 23 = .ok (.iconst (-1), 1) := by decide +kernel
theorem dX12_feed_24 : decode cX12_feed 24 = .ok (.ireturn, 1) := by decide +kernel
theorem dX12_feed_25 : decode cX12_feed 25 = .ok (.iconst 0, 1) := by decide +kernel
theorem dX12_feed_26 : decode cX12_feed 26 = .ok (.istore 6, 2) := by decide +kernel
theorem dX12_feed_28 : decode cX12_feed 28 = .ok (.iload 6, 2) := by decide +kernel
theorem dX12_feed_30 : decode cX12_feed 30 = .ok (.bipush 20, 2) := by decide +kernel
theorem dX12_feed_32 : decode cX12_feed 32 = .ok (.if_icmp .ge 92, 3) := by decide +kernel
theorem dX12_feed_35 : decode cX12_feed 35 = .ok (.iload 6, 2) := by decide +kernel
theorem dX12_feed_37 : decode cX12_feed 37 = .ok (.iconst 4, 1) := by decide +kernel
theorem dX12_feed_38 : decode cX12_feed 38 = .ok (.if_icmp .ge 7, 3) := by decide +kernel
theorem dX12_feed_41 : decode cX12_feed 41 = .ok (.iload_n 1, 1) := by decide +kernel
theorem dX12_feed_42 : decode cX12_feed 42 = .ok (.goto 39, 3) := by decide +kernel
theorem dX12_feed_45 : decode cX12_feed 45 = .ok (.iload 6, 2) := by decide +kernel
theorem dX12_feed_47 : decode cX12_feed 47 = .ok (.bipush 8, 2) := by decide +kernel
theorem dX12_feed_49 : decode cX12_feed 49 = .ok (.if_icmp .ge 7, 3) := by decide +kernel
theorem dX12_feed_52 : decode cX12_feed 52 = .ok (.iload_n 2, 1) := by decide +kernel
theorem dX12_feed_53 : decode cX12_feed 53 = .ok (.goto 28, 3) := by decide +kernel
theorem dX12_feed_56 : decode cX12_feed 56 = .ok (.iload 6, 2) := by decide +kernel
theorem dX12_feed_58 : decode cX12_feed 58 = .ok (.bipush 12, 2) := by decide +kernel
theorem dX12_feed_60 : decode cX12_feed 60 = .ok (.if_icmp .ge 7, 3) := by decide +kernel
theorem dX12_feed_63 : decode cX12_feed 63 = .ok (.iload_n 3, 1) := by decide +kernel
theorem dX12_feed_64 : decode cX12_feed 64 = .ok (.goto 17, 3) := by decide +kernel
theorem dX12_feed_67 : decode cX12_feed 67 = .ok (.iload 6, 2) := by decide +kernel
theorem dX12_feed_69 : decode cX12_feed 69 = .ok (.bipush 16, 2) := by decide +kernel
theorem dX12_feed_71 : decode cX12_feed 71 = .ok (.if_icmp .ge 8, 3) := by decide +kernel
theorem dX12_feed_74 : decode cX12_feed 74 = .ok (.iload 4, 2) := by decide +kernel
theorem dX12_feed_76 : decode cX12_feed 76 = .ok (.goto 5, 3) := by decide +kernel
theorem dX12_feed_79 : decode cX12_feed 79 = .ok (.iload 5, 2) := by decide +kernel
theorem dX12_feed_81 : decode cX12_feed 81 = .ok (.istore 7, 2) := by decide +kernel
theorem dX12_feed_83 : decode cX12_feed 83 = .ok (.aload_n 0, 1) := by decide +kernel
theorem dX12_feed_84 : decode cX12_feed 84 = .ok (.getfield 7, 3) := by decide +kernel
theorem dX12_feed_87 : decode cX12_feed 87 = .ok (.aload_n 0, 1) := by decide +kernel
theorem dX12_feed_88 : decode cX12_feed 88 = .ok (.getfield 260, 3) := by decide +kernel
theorem dX12_feed_91 : decode cX12_feed 91 = .ok (.iload 7, 2) := by decide +kernel
theorem dX12_feed_93 : decode cX12_feed 93 = .ok (.bipush 8, 2) := by decide +kernel
theorem dX12_feed_95 : decode cX12_feed 95 = .ok (.iconst 3, 1) := by decide +kernel
theorem dX12_feed_96 : decode cX12_feed 96 = .ok (.iload 6, 2) := by decide +kernel
theorem dX12_feed_98 : decode cX12_feed 98 = .ok (.iconst 4, 1) := by decide +kernel
theorem dX12_feed_99 : decode cX12_feed 99 = .ok (.irem, 1) := by decide +kernel
theorem dX12_feed_100 : decode cX12_feed 100 = .ok (.isub, 1) := by decide +kernel
theorem dX12_feed_101 : decode cX12_feed 101 = .ok (.imul, 1) := by decide +kernel
theorem dX12_feed_102 : decode cX12_feed 102 = .ok (.ishr, 1) := by decide +kernel
theorem dX12_feed_103 : decode cX12_feed 103 = .ok (.sipush 255, 3) := by decide +kernel
theorem dX12_feed_106 : decode cX12_feed 106 = .ok (.iand, 1) := by decide +kernel
theorem dX12_feed_107 : decode cX12_feed 107 = .ok (.iastore, 1) := by decide +kernel
theorem dX12_feed_108 : decode cX12_feed 108 = .ok (.aload_n 0, 1) := by decide +kernel
theorem dX12_feed_109 : decode cX12_feed 109 = .ok (.dup, 1) := by decide +kernel
theorem dX12_feed_110 : decode cX12_feed 110 = .ok (.getfield 260, 3) := by decide +kernel
theorem dX12_feed_113 : decode cX12_feed 113 = .ok (.iconst 1, 1) := by decide +kernel
theorem dX12_feed_114 : decode cX12_feed 114 = .ok (.iadd, 1) := by decide +kernel
theorem dX12_feed_115 : decode cX12_feed 115 = .ok (.putfield 260, 3) := by decide +kernel
theorem dX12_feed_118 : decode cX12_feed 118 = .ok (.iinc 6 1, 3) := by decide +kernel
theorem dX12_feed_121 : decode cX12_feed 121 = .ok (.goto (-93), 3) := by decide +kernel
theorem dX12_feed_124 : decode cX12_feed 124 = .ok (.aload_n 0, 1) := by decide +kernel
theorem dX12_feed_125 : decode cX12_feed 125 = .ok (.getfield 260, 3) := by decide +kernel
theorem dX12_feed_128 : decode cX12_feed 128 = .ok (.ireturn, 1) := by decide +kernel
theorem dX12_canRow_0 : decode cX12_canRow 0 = .ok (.iconst 0, 1) := by decide +kernel
theorem dX12_canRow_1 : decode cX12_canRow 1 = .ok (.istore_n 1, 1) := by decide +kernel
theorem dX12_canRow_2 : decode cX12_canRow 2 = .ok (.iload_n 1, 1) := by decide +kernel
theorem dX12_canRow_3 : decode cX12_canRow 3 = .ok (.aload_n 0, 1) := by decide +kernel
theorem dX12_canRow_4 : decode cX12_canRow 4 = .ok (.invokevirtual 422, 3) := by decide +kernel
theorem dX12_canRow_7 : decode cX12_canRow 7 = .ok (.if_icmp .ge 20, 3) := by decide +kernel
theorem dX12_canRow_10 : decode cX12_canRow 10 = .ok (.aload_n 0, 1) := by decide +kernel
theorem dX12_canRow_11 : decode cX12_canRow 11 = .ok (.getfield 163, 3) := by decide +kernel
theorem dX12_canRow_14 : decode cX12_canRow 14 = .ok (.iload_n 1, 1) := by decide +kernel
theorem dX12_canRow_15 : decode cX12_canRow 15 = .ok (.aload_n 0, 1) := by decide +kernel
theorem dX12_canRow_16 : decode cX12_canRow 16 = .ok (.iload_n 1, 1) := by decide +kernel
theorem dX12_canRow_17 : decode cX12_canRow 17 = .ok (.invokevirtual 458, 3) := by decide +kernel
theorem dX12_canRow_20 : decode cX12_canRow 20 = .ok (.iastore, 1) := by decide +kernel
theorem dX12_canRow_21 : decode cX12_canRow 21 = .ok (.iinc 1 1, 3) := by decide +kernel
theorem dX12_canRow_24 : decode cX12_canRow 24 = .ok (.goto (-22), 3) := by decide +kernel
theorem dX12_canRow_27 : decode cX12_canRow 27 = .ok (.iconst 0, 1) := by decide +kernel
theorem dX12_canRow_28 : decode cX12_canRow 28 = .ok (.istore_n 1, 1) := by decide +kernel
theorem dX12_canRow_29 : decode cX12_canRow 29 = .ok (.iload_n 1, 1) := by decide +kernel
theorem dX12_canRow_30 : decode cX12_canRow 30 = .ok (.aload_n 0, 1) := by decide +kernel
theorem dX12_canRow_31 : decode cX12_canRow 31 = .ok (.invokevirtual 419, 3) := by decide +kernel
theorem dX12_canRow_34 : decode cX12_canRow 34 = .ok (.if_icmp .ge 69, 3) := by decide +kernel
theorem dX12_canRow_37 : decode cX12_canRow 37 = .ok (.aload_n 0, 1) := by decide +kernel
theorem dX12_canRow_38 : decode cX12_canRow 38 = .ok (.getfield 148, 3) := by decide +kernel
theorem dX12_canRow_41 : decode cX12_canRow 41 = .ok (.iload_n 1, 1) := by decide +kernel
theorem dX12_canRow_42 : decode cX12_canRow 42 = .ok (.iaload, 1) := by decide +kernel
theorem dX12_canRow_43 : decode cX12_canRow 43 = .ok (.ifCond .ne 6, 3) := by decide +kernel
theorem dX12_canRow_46 : decode cX12_canRow 46 = .ok (.goto 51, 3) := by decide +kernel
theorem dX12_canRow_49 : decode cX12_canRow 49 = .ok (.aload_n 0, 1) := by decide +kernel
theorem dX12_canRow_50 : decode cX12_canRow 50 = .ok (.getfield 148, 3) := by decide +kernel
theorem dX12_canRow_53 : decode cX12_canRow 53 = .ok (.iload_n 1, 1) := by decide +kernel
theorem dX12_canRow_54 : decode cX12_canRow 54 = .ok (.iaload, 1) := by decide +kernel
theorem dX12_canRow_55 : decode cX12_canRow 55 = .ok (.iconst 1, 1) := by decide +kernel
theorem dX12_canRow_56 : decode cX12_canRow 56 = .ok (.isub, 1) := by decide +kernel
theorem dX12_canRow_57 : decode cX12_canRow 57 = .ok (.istore_n 2, 1) := by decide +kernel
theorem dX12_canRow_58 : decode cX12_canRow 58 = .ok (.aload_n 0, 1) := by decide +kernel
theorem dX12_canRow_59 : decode cX12_canRow 59 = .ok (.getfield 163, 3) := by decide +kernel
theorem dX12_canRow_62 : decode cX12_canRow 62 = .ok (.iload_n 2, 1) := by decide +kernel
theorem dX12_canRow_63 : decode cX12_canRow 63 = .ok (.dup2, 1) := by decide +kernel
theorem dX12_canRow_64 : decode cX12_canRow 64 = .ok (.iaload, 1) := by decide +kernel
theorem dX12_canRow_65 : decode cX12_canRow 65 = .ok (.aload_n 0, 1) := by decide +kernel
theorem dX12_canRow_66 : decode cX12_canRow 66 = .ok (.getfield 157, 3) := by decide +kernel
theorem dX12_canRow_69 : decode cX12_canRow 69 = .ok (.iconst 3, 1) := by decide +kernel
theorem dX12_canRow_70 : decode cX12_canRow 70 = .ok (.iload_n 1, 1) := by decide +kernel
theorem dX12_canRow_71 : decode cX12_canRow 71 = .ok (.imul, 1) := by decide +kernel
theorem dX12_canRow_72 : decode cX12_canRow 72 = .ok (.iload_n 2, 1) := by decide +kernel
theorem dX12_canRow_73 : decode cX12_canRow 73 = .ok (.iadd, 1) := by decide +kernel
theorem dX12_canRow_74 : decode cX12_canRow 74 = .ok (.iaload, 1) := by decide +kernel
theorem dX12_canRow_75 : decode cX12_canRow 75 = .ok (.isub, 1) := by decide +kernel
theorem dX12_canRow_76 : decode cX12_canRow 76 = .ok (.iastore, 1) := by decide +kernel
theorem dX12_canRow_77 : decode cX12_canRow 77 = .ok (.aload_n 0, 1) := by decide +kernel
theorem dX12_canRow_78 : decode cX12_canRow 78 = .ok (.getfield 163, 3) := by decide +kernel
theorem dX12_canRow_81 : decode cX12_canRow 81 = .ok (.iload_n 2, 1) := by decide +kernel
theorem dX12_canRow_82 : decode cX12_canRow 82 = .ok (.iaload, 1) := by decide +kernel
theorem dX12_canRow_83 : decode cX12_canRow 83 = .ok (.ifCond .lt 12, 3) := by decide +kernel
theorem dX12_canRow_86 : decode cX12_canRow 86 = .ok (.aload_n 0, 1) := by decide +kernel
theorem dX12_canRow_87 : decode cX12_canRow 87 = .ok (.iload_n 1, 1) := by decide +kernel
theorem dX12_canRow_88 : decode cX12_canRow 88 = .ok (.iload_n 2, 1) := by decide +kernel
theorem dX12_canRow_89 : decode cX12_canRow 89 = .ok (.invokevirtual 454, 3) := by decide +kernel
theorem dX12_canRow_92 : decode cX12_canRow 92 = .ok (.ifCond .ne 5, 3) := by decide +kernel
theorem dX12_canRow_95 : decode cX12_canRow 95 = .ok (.iconst 0, 1) := by decide +kernel
theorem dX12_canRow_96 : decode cX12_canRow 96 = .ok (.ireturn, 1) := by decide +kernel
theorem dX12_canRow_97 : decode cX12_canRow 97 = .ok (.iinc 1 1, 3) := by decide +kernel
theorem dX12_canRow_100 : decode cX12_canRow 100 = .ok (.goto (-71), 3) := by decide +kernel
theorem dX12_canRow_103 : decode cX12_canRow 103 = .ok (.iconst 1, 1) := by decide +kernel
theorem dX12_canRow_104 : decode cX12_canRow 104 = .ok (.ireturn, 1) := by decide +kernel
theorem dX12_qWordOf_0 : decode cX12_qWordOf 0 = .ok (.aload_n 0, 1) := by decide +kernel
theorem dX12_qWordOf_1 : decode cX12_qWordOf 1 = .ok (.invokevirtual 603, 3) := by decide +kernel
theorem dX12_qWordOf_4 : decode cX12_qWordOf 4 = .ok (.istore_n 3, 1) := by decide +kernel
theorem dX12_qWordOf_5 : decode cX12_qWordOf 5 = .ok (.iload_n 3, 1) := by decide +kernel
theorem dX12_qWordOf_6 : decode cX12_qWordOf 6 = .ok (.iload_n 1, 1) := by decide +kernel
theorem dX12_qWordOf_7 : decode cX12_qWordOf 7 = .ok (.if_icmp .lt 20, 3) := by decide +kernel
theorem dX12_qWordOf_10 : decode cX12_qWordOf 10 = .ok (.iload_n 3, 1) := by decide +kernel
theorem dX12_qWordOf_11 : decode cX12_qWordOf 11 = .ok (.iload_n 2, 1) := by decide +kernel
theorem dX12_qWordOf_12 : decode cX12_qWordOf 12 = .ok (.if_icmp .ge 15, 3) := by decide +kernel
theorem dX12_qWordOf_15 : decode cX12_qWordOf 15 = .ok (.aload_n 0, 1) := by decide +kernel
theorem dX12_qWordOf_16 : decode cX12_qWordOf 16 = .ok (.iload_n 3, 1) := by decide +kernel
theorem dX12_qWordOf_17 : decode cX12_qWordOf 17 = .ok (.invokevirtual 606, 3) := by decide +kernel
theorem dX12_qWordOf_20 : decode cX12_qWordOf 20 = .ok (.ifCond .eq 7, 3) := by decide +kernel
theorem dX12_qWordOf_23 : decode cX12_qWordOf 23 = .ok (.iload_n 3, 1) := by decide +kernel
theorem dX12_qWordOf_24 : decode cX12_qWordOf 24 = .ok (.goto 4, 3) := by decide +kernel
theorem dX12_qWordOf_27 : decode cX12_qWordOf 27 = .ok (.iconst (-1), 1) := by decide +kernel
theorem dX12_qWordOf_28 : decode cX12_qWordOf 28 = .ok (.ireturn, 1) := by decide +kernel
theorem dX12_putsAside_0 : decode cX12_putsAside 0 = .ok (.iconst 0, 1) := by decide +kernel
theorem dX12_putsAside_1 : decode cX12_putsAside 1 = .ok (.istore_n 1, 1) := by decide +kernel
theorem dX12_putsAside_2 : decode cX12_putsAside 2 = .ok (.iload_n 1, 1) := by decide +kernel
theorem dX12_putsAside_3 : decode cX12_putsAside 3 = .ok (.bipush 32, 2) := by decide +kernel
theorem dX12_putsAside_5 : decode cX12_putsAside 5 = .ok (.if_icmp .ge 21, 3) := by decide +kernel
theorem dX12_putsAside_8 : decode cX12_putsAside 8 = .ok (.aload_n 0, 1) := by decide +kernel
theorem dX12_putsAside_9 : decode cX12_putsAside 9 = .ok (.getfield 145, 3) := by decide +kernel
theorem dX12_putsAside_12 : decode cX12_putsAside 12 = .ok (.iload_n 1, 1) := by decide +kernel
theorem dX12_putsAside_13 : decode cX12_putsAside 13 = .ok (.aload_n 0, 1) := by decide +kernel
theorem dX12_putsAside_14 : decode cX12_putsAside 14 = .ok (.getfield 142, 3) := by decide +kernel
theorem dX12_putsAside_17 : decode cX12_putsAside 17 = .ok (.iload_n 1, 1) := by decide +kernel
theorem dX12_putsAside_18 : decode cX12_putsAside 18 = .ok (.iaload, 1) := by decide +kernel
theorem dX12_putsAside_19 : decode cX12_putsAside 19 = .ok (.iastore, 1) := by decide +kernel
theorem dX12_putsAside_20 : decode cX12_putsAside 20 = .ok (.iinc 1 1, 3) := by decide +kernel
theorem dX12_putsAside_23 : decode cX12_putsAside 23 = .ok (.goto (-21), 3) := by decide +kernel
theorem dX12_putsAside_26 : decode cX12_putsAside 26 = .ok (.return_, 1) := by decide +kernel
theorem dX12_giftOf_0 : decode cX12_giftOf 0 = .ok (.aload_n 0, 1) := by decide +kernel
theorem dX12_giftOf_1 : decode cX12_giftOf 1 = .ok (.getfield 142, 3) := by decide +kernel
theorem dX12_giftOf_4 : decode cX12_giftOf 4 = .ok (.bipush 8, 2) := by decide +kernel
theorem dX12_giftOf_6 : decode cX12_giftOf 6 = .ok (.iconst 3, 1) := by decide +kernel
theorem dX12_giftOf_7 : decode cX12_giftOf 7 = .ok (.iload_n 1, 1) := by decide +kernel
theorem dX12_giftOf_8 : decode cX12_giftOf 8 = .ok (.imul, 1) := by decide +kernel
theorem dX12_giftOf_9 : decode cX12_giftOf 9 = .ok (.iadd, 1) := by decide +kernel
theorem dX12_giftOf_10 : decode cX12_giftOf 10 = .ok (.iconst 2, 1) := by decide +kernel
theorem dX12_giftOf_11 : decode cX12_giftOf 11 = .ok (.iadd, 1) := by decide +kernel
theorem dX12_giftOf_12 : decode cX12_giftOf 12 = .ok (.iaload, 1) := by decide +kernel
theorem dX12_giftOf_13 : decode cX12_giftOf 13 = .ok (.ireturn, 1) := by decide +kernel
theorem dX12_warms_0 : decode cX12_warms 0 = .ok (.aload_n 0, 1) := by decide +kernel
theorem dX12_warms_1 : decode cX12_warms 1 = .ok (.invokevirtual 485, 3) := by decide +kernel
theorem dX12_warms_4 : decode cX12_warms 4 = .ok (.pop, 1) := by decide +kernel
theorem dX12_warms_5 : decode cX12_warms 5 = .ok (.aload_n 0, 1) := by decide +kernel
theorem dX12_warms_6 : decode cX12_warms 6 = .ok (.getfield 470, 3) := by decide +kernel
theorem dX12_warms_9 : decode cX12_warms 9 = .ok (.lreturn, 1) := by decide +kernel
theorem dX12_writes_0 : decode cX12_writes 0 = .ok (.aload_n 0, 1) := by decide +kernel
theorem dX12_writes_1 : decode cX12_writes 1 = .ok (.getfield 257, 3) := by decide +kernel
theorem dX12_writes_4 : decode cX12_writes 4 = .ok (.aload_n 0, 1) := by decide +kernel
theorem dX12_writes_5 : decode cX12_writes 5 = .ok (.getfield 686, 3) := by decide +kernel
theorem dX12_writes_8 : decode cX12_writes 8 = .ok (.iload_n 1, 1) := by decide +kernel
theorem dX12_writes_9 : decode cX12_writes 9 = .ok (.iastore, 1) := by decide +kernel
theorem dX12_writes_10 : decode cX12_writes 10 = .ok (.aload_n 0, 1) := by decide +kernel
theorem dX12_writes_11 : decode cX12_writes 11 = .ok (.dup, 1) := by decide +kernel
theorem dX12_writes_12 : decode cX12_writes 12 = .ok (.getfield 686, 3) := by decide +kernel
theorem dX12_writes_15 : decode cX12_writes 15 = .ok (.iconst 1, 1) := by decide +kernel
theorem dX12_writes_16 : decode cX12_writes 16 = .ok (.iadd, 1) := by decide +kernel
theorem dX12_writes_17 : decode cX12_writes 17 = .ok (.putfield 686, 3) := by decide +kernel
theorem dX12_writes_20 : decode cX12_writes 20 = .ok (.return_, 1) := by decide +kernel
theorem dX12_qTest_0 : decode cX12_qTest 0 = .ok (.iconst 1, 1) := by decide +kernel
theorem dX12_qTest_1 : decode cX12_qTest 1 = .ok (.istore_n 1, 1) := by decide +kernel
theorem dX12_qTest_2 : decode cX12_qTest 2 = .ok (.iload_n 1, 1) := by decide +kernel
theorem dX12_qTest_3 : decode cX12_qTest 3 = .ok (.ifCond .eq 107, 3) := by decide +kernel
theorem dX12_qTest_6 : decode cX12_qTest 6 = .ok (.aload_n 0, 1) := by decide +kernel
theorem dX12_qTest_7 : decode cX12_qTest 7 = .ok (.getfield 263, 3) := by decide +kernel
theorem dX12_qTest_10 : decode cX12_qTest 10 = .ok (.ifCond .ne 100, 3) := by decide +kernel
theorem dX12_qTest_13 : decode cX12_qTest 13 = .ok (.aload_n 0, 1) := by decide +kernel
theorem dX12_qTest_14 : decode cX12_qTest 14 = .ok (.invokevirtual 275, 3) := by decide +kernel
theorem dX12_qTest_17 : decode cX12_qTest 17 = .ok (.istore_n 2, 1) := by decide +kernel
theorem dX12_qTest_18 : decode cX12_qTest 18 = .ok (.iload_n 2, 1) := by decide +kernel
theorem dX12_qTest_19 : decode cX12_qTest 19 = .ok (.bipush 91, 2) := by decide +kernel
theorem dX12_qTest_21 : decode cX12_qTest 21 = .ok (.if_icmp .ne 26, 3) := by decide +kernel
theorem dX12_qTest_24 : decode cX12_qTest 24 = .ok (.aload_n 0, 1) := by decide +kernel
theorem dX12_qTest_25 : decode cX12_qTest 25 = .ok (.bipush 25, 2) := by decide +kernel
theorem dX12_qTest_27 : decode cX12_qTest 27 = .ok (.aload_n 0, 1) := by decide +kernel
theorem dX12_qTest_28 : decode cX12_qTest 28 = .ok (.getfield 269, 3) := by decide +kernel
theorem dX12_qTest_31 : decode cX12_qTest 31 = .ok (.invokevirtual 612, 3) := by decide +kernel
theorem dX12_qTest_34 : decode cX12_qTest 34 = .ok (.aload_n 0, 1) := by decide +kernel
theorem dX12_qTest_35 : decode cX12_qTest 35 = .ok (.dup, 1) := by decide +kernel
theorem dX12_qTest_36 : decode cX12_qTest 36 = .ok (.getfield 269, 3) := by decide +kernel
theorem dX12_qTest_39 : decode cX12_qTest 39 = .ok (.iconst 1, 1) := by decide +kernel
theorem dX12_qTest_40 : decode cX12_qTest 40 = .ok (.iadd, 1) := by decide +kernel
theorem dX12_qTest_41 : decode cX12_qTest 41 = .ok (.putfield 269, 3) := by decide +kernel
theorem dX12_qTest_44 : decode cX12_qTest 44 = .ok (.goto (-42), 3) := by decide +kernel
theorem dX12_qTest_47 : decode cX12_qTest 47 = .ok (.aload_n 0, 1) := by decide +kernel
theorem dX12_qTest_48 : decode cX12_qTest 48 = .ok (.aload_n 0, 1) := by decide +kernel
theorem dX12_qTest_49 : decode cX12_qTest 49 = .ok (.getfield 197, 3) := by decide +kernel
theorem dX12_qTest_52 : decode cX12_qTest 52 = .ok (.invokevirtual 286, 3) := by decide +kernel
theorem dX12_qTest_55 : decode cX12_qTest 55 = .ok (.ifCond .eq 24, 3) := by decide +kernel
theorem dX12_qTest_58 : decode cX12_qTest 58 = .ok (.aload_n 0, 1) := by decide +kernel
theorem dX12_qTest_59 : decode cX12_qTest 59 = .ok (.bipush 12, 2) := by decide +kernel
theorem dX12_qTest_61 : decode cX12_qTest 61 = .ok (.aload_n 0, 1) := by decide +kernel
theorem dX12_qTest_62 : decode cX12_qTest 62 = .ok (.getfield 269, 3) := by decide +kernel
theorem dX12_qTest_65 : decode cX12_qTest 65 = .ok (.invokevirtual 612, 3) := by decide +kernel
theorem dX12_qTest_68 : decode cX12_qTest 68 = .ok (.aload_n 0, 1) := by decide +kernel
theorem dX12_qTest_69 : decode cX12_qTest 69 = .ok (.aload_n 0, 1) := by decide +kernel
theorem dX12_qTest_70 : decode cX12_qTest 70 = .ok (.getfield 197, 3) := by decide +kernel
theorem dX12_qTest_73 : decode cX12_qTest 73 = .ok (.invokevirtual 337, 3) := by decide +kernel
theorem dX12_qTest_76 : decode cX12_qTest 76 = .ok (.goto (-74), 3) := by decide +kernel
theorem dX12_qTest_79 : decode cX12_qTest 79 = .ok (.aload_n 0, 1) := by decide +kernel
theorem dX12_qTest_80 : decode cX12_qTest 80 = .ok (.invokevirtual 636, 3) := by decide +kernel
theorem dX12_qTest_83 : decode cX12_qTest 83 = .ok (.aload_n 0, 1) := by decide +kernel
theorem dX12_qTest_84 : decode cX12_qTest 84 = .ok (.invokevirtual 639, 3) := by decide +kernel
theorem dX12_qTest_87 : decode cX12_qTest 87 = .ok (.aload_n 0, 1) := by decide +kernel
theorem dX12_qTest_88 : decode cX12_qTest 88 = .ok (.getfield 263, 3) := by decide +kernel
theorem dX12_qTest_91 : decode cX12_qTest 91 = .ok (.ifCond .ne 14, 3) := by decide +kernel
theorem dX12_qTest_94 : decode cX12_qTest 94 = .ok (.aload_n 0, 1) := by decide +kernel
theorem dX12_qTest_95 : decode cX12_qTest 95 = .ok (.invokevirtual 642, 3) := by decide +kernel
theorem dX12_qTest_98 : decode cX12_qTest 98 = .ok (.ifCond .eq 7, 3) := by decide +kernel
theorem dX12_qTest_101 : decode cX12_qTest 101 = .ok (.iconst 1, 1) := by decide +kernel
theorem dX12_qTest_102 : decode cX12_qTest 102 = .ok (.goto 4, 3) := by decide +kernel
theorem dX12_qTest_105 : decode cX12_qTest 105 = .ok (.iconst 0, 1) := by decide +kernel
theorem dX12_qTest_106 : decode cX12_qTest 106 = .ok (.istore_n 1, 1) := by decide +kernel
theorem dX12_qTest_107 : decode cX12_qTest 107 = .ok (.goto (-105), 3) := by decide +kernel
theorem dX12_qTest_110 : decode cX12_qTest 110 = .ok (.aload_n 0, 1) := by decide +kernel
theorem dX12_qTest_111 : decode cX12_qTest 111 = .ok (.getfield 263, 3) := by decide +kernel
theorem dX12_qTest_114 : decode cX12_qTest 114 = .ok (.ifCond .ne 17, 3) := by decide +kernel
theorem dX12_qTest_117 : decode cX12_qTest 117 = .ok (.aload_n 0, 1) := by decide +kernel
theorem dX12_qTest_118 : decode cX12_qTest 118 = .ok (.getfield 355, 3) := by decide +kernel
theorem dX12_qTest_121 : decode cX12_qTest 121 = .ok (.ifCond .le 10, 3) := by decide +kernel
theorem dX12_qTest_124 : decode cX12_qTest 124 = .ok (.aload_n 0, 1) := by decide +kernel
theorem dX12_qTest_125 : decode cX12_qTest 125 = .ok (.invokevirtual 600, 3) := by decide +kernel
theorem dX12_qTest_128 : decode cX12_qTest 128 = .ok (.goto (-18), 3) := by decide +kernel
theorem dX12_qTest_131 : decode cX12_qTest 131 = .ok (.return_, 1) := by decide +kernel
theorem dX12_warmOf_0 : decode cX12_warmOf 0 = .ok (.aload_n 0, 1) := by decide +kernel
theorem dX12_warmOf_1 : decode cX12_warmOf 1 = .ok (.getfield 133, 3) := by decide +kernel
theorem dX12_warmOf_4 : decode cX12_warmOf 4 = .ok (.iconst 3, 1) := by decide +kernel
theorem dX12_warmOf_5 : decode cX12_warmOf 5 = .ok (.iaload, 1) := by decide +kernel
theorem dX12_warmOf_6 : decode cX12_warmOf 6 = .ok (.iconst (-1), 1) := by decide +kernel
theorem dX12_warmOf_7 : decode cX12_warmOf 7 = .ok (.if_icmp .ne 18, 3) := by decide +kernel
theorem dX12_warmOf_10 : decode cX12_warmOf 10 = .ok (.aload_n 0, 1) := by decide +kernel
theorem dX12_warmOf_11 : decode cX12_warmOf 11 = .ok (.getfield 127, 3) := by decide +kernel
theorem dX12_warmOf_14 : decode cX12_warmOf 14 = .ok (.bipush 10, 2) := by decide +kernel
theorem dX12_warmOf_16 : decode cX12_warmOf 16 = .ok (.iconst 3, 1) := by decide +kernel
theorem dX12_warmOf_17 : decode cX12_warmOf 17 = .ok (.iload_n 2, 1) := by decide +kernel
theorem dX12_warmOf_18 : decode cX12_warmOf 18 = .ok (.imul, 1) := by decide +kernel
theorem dX12_warmOf_19 : decode cX12_warmOf 19 = .ok (.iadd, 1) := by decide +kernel
theorem dX12_warmOf_20 : decode cX12_warmOf 20 = .ok (.iaload, 1) := by decide +kernel
theorem dX12_warmOf_21 : decode cX12_warmOf 21 = .ok (.i2l, 1) := by decide +kernel
theorem dX12_warmOf_22 : decode cX12_warmOf 22 = .ok (.goto 10, 3) := by decide +kernel
theorem dX12_warmOf_25 : decode cX12_warmOf 25 = .ok (.aload_n 0, 1) := by decide +kernel
theorem dX12_warmOf_26 : decode cX12_warmOf 26 = .ok (.iconst 1, 1) := by decide +kernel
theorem dX12_warmOf_27 : decode cX12_warmOf 27 = .ok (.iload_n 1, 1) := by decide +kernel
theorem dX12_warmOf_28 : decode cX12_warmOf 28 = .ok (.iload_n 2, 1) := by decide +kernel
theorem dX12_warmOf_29 : decode cX12_warmOf 29 = .ok (.invokevirtual 445, 3) := by decide +kernel
theorem dX12_warmOf_32 : decode cX12_warmOf 32 = .ok (.lreturn, 1) := by decide +kernel
theorem dX12_likeTold_0 : decode cX12_likeTold 0 = .ok (.aload_n 0, 1) := by decide +kernel
theorem dX12_likeTold_1 : decode cX12_likeTold 1 = .ok (.iconst 4, 1) := by decide +kernel
theorem dX12_likeTold_2 : decode cX12_likeTold 2 = .ok (.bipush 10, 2) := by decide +kernel
theorem dX12_likeTold_4 : decode cX12_likeTold 4 = .ok (.iload_n 1, 1) := by decide +kernel
theorem dX12_likeTold_5 : decode cX12_likeTold 5 = .ok (.invokevirtual 330, 3) := by decide +kernel
theorem dX12_likeTold_8 : decode cX12_likeTold 8 = .ok (.ifCond .eq 4, 3) := by decide +kernel
theorem dX12_likeTold_11 : decode cX12_likeTold 11 = .ok (.return_, 1) := by decide +kernel
theorem dX12_likeTold_12 : decode cX12_likeTold 12 = .ok (.aload_n 0, 1) := by decide +kernel
theorem dX12_likeTold_13 : decode cX12_likeTold 13 = .ok (.iconst 0, 1) := by decide +kernel
theorem dX12_likeTold_14 : decode cX12_likeTold 14 = .ok (.invokevirtual 348, 3) := by decide +kernel
theorem dX12_likeTold_17 : decode cX12_likeTold 17 = .ok (.istore_n 2, 1) := by decide +kernel
theorem dX12_likeTold_18 : decode cX12_likeTold 18 = .ok (.aload_n 0, 1) := by decide +kernel
theorem dX12_likeTold_19 : decode cX12_likeTold 19 = .ok (.iconst 0, 1) := by decide +kernel
theorem dX12_likeTold_20 : decode cX12_likeTold 20 = .ok (.invokevirtual 348, 3) := by decide +kernel
theorem dX12_likeTold_23 : decode cX12_likeTold 23 = .ok (.istore_n 3, 1) := by decide +kernel
theorem dX12_likeTold_24 : decode cX12_likeTold 24 = .ok (.aload_n 0, 1) := by decide +kernel
theorem dX12_likeTold_25 : decode cX12_likeTold 25 = .ok (.getfield 263, 3) := by decide +kernel
theorem dX12_likeTold_28 : decode cX12_likeTold 28 = .ok (.ifCond .ne 31, 3) := by decide +kernel
theorem dX12_likeTold_31 : decode cX12_likeTold 31 = .ok (.iload_n 2, 1) := by decide +kernel
theorem dX12_likeTold_32 : decode cX12_likeTold 32 = .ok (.iload_n 3, 1) := by decide +kernel
theorem dX12_likeTold_33 : decode cX12_likeTold 33 = .ok (.if_icmp .eq 17, 3) := by decide +kernel
theorem dX12_likeTold_36 : decode cX12_likeTold 36 = .ok (.aload_n 0, 1) := by decide +kernel
theorem dX12_likeTold_37 : decode cX12_likeTold 37 = .ok (.getfield 124, 3) := by decide +kernel
theorem dX12_likeTold_40 : decode cX12_likeTold 40 = .ok (.bipush 8, 2) := by decide +kernel
theorem dX12_likeTold_42 : decode cX12_likeTold 42 = .ok (.iload_n 2, 1) := by decide +kernel
theorem dX12_likeTold_43 : decode cX12_likeTold 43 = .ok (.imul, 1) := by decide +kernel
theorem dX12_likeTold_44 : decode cX12_likeTold 44 = .ok (.iload_n 3, 1) := by decide +kernel
theorem dX12_likeTold_45 : decode cX12_likeTold 45 = .ok (.iadd, 1) := by decide +kernel
theorem dX12_likeTold_46 : decode cX12_likeTold 46 = .ok (.iaload, 1) := by decide +kernel
theorem dX12_likeTold_47 : decode cX12_likeTold 47 = .ok (.ifCond .le 12, 3) := by decide +kernel
theorem dX12_likeTold_50 : decode cX12_likeTold 50 = .ok (.aload_n 0, 1) := by decide +kernel
theorem dX12_likeTold_51 : decode cX12_likeTold 51 = .ok (.iconst 3, 1) := by decide +kernel
theorem dX12_likeTold_52 : decode cX12_likeTold 52 = .ok (.aload_n 0, 1) := by decide +kernel
theorem dX12_likeTold_53 : decode cX12_likeTold 53 = .ok (.getfield 311, 3) := by decide +kernel
theorem dX12_likeTold_56 : decode cX12_likeTold 56 = .ok (.invokevirtual 293, 3) := by decide +kernel
theorem dX12_likeTold_59 : decode cX12_likeTold 59 = .ok (.aload_n 0, 1) := by decide +kernel
theorem dX12_likeTold_60 : decode cX12_likeTold 60 = .ok (.iconst 0, 1) := by decide +kernel
theorem dX12_likeTold_61 : decode cX12_likeTold 61 = .ok (.bipush 10, 2) := by decide +kernel
theorem dX12_likeTold_63 : decode cX12_likeTold 63 = .ok (.invokevirtual 341, 3) := by decide +kernel
theorem dX12_likeTold_66 : decode cX12_likeTold 66 = .ok (.istore 4, 2) := by decide +kernel
theorem dX12_likeTold_68 : decode cX12_likeTold 68 = .ok (.aload_n 0, 1) := by decide +kernel
theorem dX12_likeTold_69 : decode cX12_likeTold 69 = .ok (.getfield 263, 3) := by decide +kernel
theorem dX12_likeTold_72 : decode cX12_likeTold 72 = .ok (.ifCond .eq 4, 3) := by decide +kernel
theorem dX12_likeTold_75 : decode cX12_likeTold 75 = .ok (.return_, 1) := by decide +kernel
theorem dX12_likeTold_76 : decode cX12_likeTold 76 = .ok (.aload_n 0, 1) := by decide +kernel
theorem dX12_likeTold_77 : decode cX12_likeTold 77 = .ok (.getfield 124, 3) := by decide +kernel
theorem dX12_likeTold_80 : decode cX12_likeTold 80 = .ok (.bipush 8, 2) := by decide +kernel
theorem dX12_likeTold_82 : decode cX12_likeTold 82 = .ok (.iload_n 2, 1) := by decide +kernel
theorem dX12_likeTold_83 : decode cX12_likeTold 83 = .ok (.imul, 1) := by decide +kernel
theorem dX12_likeTold_84 : decode cX12_likeTold 84 = .ok (.iload_n 3, 1) := by decide +kernel
theorem dX12_likeTold_85 : decode cX12_likeTold 85 = .ok (.iadd, 1) := by decide +kernel
theorem dX12_likeTold_86 : decode cX12_likeTold 86 = .ok (.iload 4, 2) := by decide +kernel
theorem dX12_likeTold_88 : decode cX12_likeTold 88 = .ok (.iconst 1, 1) := by decide +kernel
theorem dX12_likeTold_89 : decode cX12_likeTold 89 = .ok (.iadd, 1) := by decide +kernel
theorem dX12_likeTold_90 : decode cX12_likeTold 90 = .ok (.iastore, 1) := by decide +kernel
theorem dX12_likeTold_91 : decode cX12_likeTold 91 = .ok (.aload_n 0, 1) := by decide +kernel
theorem dX12_likeTold_92 : decode cX12_likeTold 92 = .ok (.getfield 124, 3) := by decide +kernel
theorem dX12_likeTold_95 : decode cX12_likeTold 95 = .ok (.bipush 8, 2) := by decide +kernel
theorem dX12_likeTold_97 : decode cX12_likeTold 97 = .ok (.iload_n 3, 1) := by decide +kernel
theorem dX12_likeTold_98 : decode cX12_likeTold 98 = .ok (.imul, 1) := by decide +kernel
theorem dX12_likeTold_99 : decode cX12_likeTold 99 = .ok (.iload_n 2, 1) := by decide +kernel
theorem dX12_likeTold_100 : decode cX12_likeTold 100 = .ok (.iadd, 1) := by decide +kernel
theorem dX12_likeTold_101 : decode cX12_likeTold 101 = .ok (.iload 4, 2) := by decide +kernel
theorem dX12_likeTold_103 : decode cX12_likeTold 103 = .ok (.iconst 1, 1) := by decide +kernel
theorem dX12_likeTold_104 : decode cX12_likeTold 104 = .ok (.iadd, 1) := by decide +kernel
theorem dX12_likeTold_105 : decode cX12_likeTold 105 = .ok (.iastore, 1) := by decide +kernel
theorem dX12_likeTold_106 : decode cX12_likeTold 106 = .ok (.aload_n 0, 1) := by decide +kernel
theorem dX12_likeTold_107 : decode cX12_likeTold 107 = .ok (.getfield 105, 3) := by decide +kernel
theorem dX12_likeTold_110 : decode cX12_likeTold 110 = .ok (.iconst 4, 1) := by decide +kernel
theorem dX12_likeTold_111 : decode cX12_likeTold 111 = .ok (.dup2, 1) := by decide +kernel
theorem dX12_likeTold_112 : decode cX12_likeTold 112 = .ok (.iaload, 1) := by decide +kernel
theorem dX12_likeTold_113 : decode cX12_likeTold 113 = .ok (.iconst 1, 1) := by decide +kernel
theorem dX12_likeTold_114 : decode cX12_likeTold 114 = .ok (.iadd, 1) := by decide +kernel
theorem dX12_likeTold_115 : decode cX12_likeTold 115 = .ok (.iastore, 1) := by decide +kernel
theorem dX12_likeTold_116 : decode cX12_likeTold 116 = .ok (.return_, 1) := by decide +kernel
theorem dX12_areLettersTold_0 : decode cX12_areLettersTold 0 = .ok (.iconst 0, 1) := by decide +kernel
theorem dX12_areLettersTold_1 : decode cX12_areLettersTold 1 = .ok (.istore_n 2, 1) := by decide +kernel
theorem dX12_areLettersTold_2 : decode cX12_areLettersTold 2 = .ok (.iload_n 2, 1) := by decide +kernel
theorem dX12_areLettersTold_3 : decode cX12_areLettersTold 3 = .ok (.aload_n 0, 1) := by decide +kernel
theorem dX12_areLettersTold_4 : decode cX12_areLettersTold 4 = .ok (.invokevirtual 419, 3) := by decide +kernel
theorem dX12_areLettersTold_7 : decode cX12_areLettersTold 7 = .ok (.if_icmp .ge 127, 3) := by decide +kernel
theorem dX12_areLettersTold_10 : decode cX12_areLettersTold 10 = .ok (.iload_n 1, 1) := by decide +kernel
theorem dX12_areLettersTold_11 : decode cX12_areLettersTold 11 = .ok (.iconst 3, 1) := by decide +kernel
theorem dX12_areLettersTold_12 : decode cX12_areLettersTold 12 = .ok (.iload_n 2, 1) := by decide +kernel
theorem dX12_areLettersTold_13 : decode cX12_areLettersTold 13 = .ok (.imul, 1) := by decide +kernel
theorem dX12_areLettersTold_14 : decode cX12_areLettersTold 14 = .ok (.iadd, 1) := by decide +kernel
theorem dX12_areLettersTold_15 : decode cX12_areLettersTold 15 = .ok (.istore_n 3, 1) := by decide +kernel
theorem dX12_areLettersTold_16 : decode cX12_areLettersTold 16 = .ok (.aload_n 0, 1) := by decide +kernel
theorem dX12_areLettersTold_17 : decode cX12_areLettersTold 17 = .ok (.getfield 7, 3) := by decide +kernel
theorem dX12_areLettersTold_20 : decode cX12_areLettersTold 20 = .ok (.iload_n 3, 1) := by decide +kernel
theorem dX12_areLettersTold_21 : decode cX12_areLettersTold 21 = .ok (.iaload, 1) := by decide +kernel
theorem dX12_areLettersTold_22 : decode cX12_areLettersTold 22 = .ok (.aload_n 0, 1) := by decide +kernel
theorem dX12_areLettersTold_23 : decode cX12_areLettersTold 23 = .ok (.invokevirtual 422, 3) := by decide +kernel
theorem dX12_areLettersTold_26 : decode cX12_areLettersTold 26 = .ok (.if_icmp .gt 30, 3) := by decide +kernel
theorem dX12_areLettersTold_29 : decode cX12_areLettersTold 29 = .ok (.aload_n 0, 1) := by decide +kernel
theorem dX12_areLettersTold_30 : decode cX12_areLettersTold 30 = .ok (.getfield 7, 3) := by decide +kernel
theorem dX12_areLettersTold_33 : decode cX12_areLettersTold 33 = .ok (.iload_n 3, 1) := by decide +kernel
theorem dX12_areLettersTold_34 : decode cX12_areLettersTold 34 = .ok (.iconst 1, 1) := by decide +kernel
theorem dX12_areLettersTold_35 : decode cX12_areLettersTold 35 = .ok (.iadd, 1) := by decide +kernel
theorem dX12_areLettersTold_36 : decode cX12_areLettersTold 36 = .ok (.iaload, 1) := by decide +kernel
theorem dX12_areLettersTold_37 : decode cX12_areLettersTold 37 = .ok (.iconst 4, 1) := by decide +kernel
theorem dX12_areLettersTold_38 : decode cX12_areLettersTold 38 = .ok (.if_icmp .gt 18, 3) := by decide +kernel
theorem dX12_areLettersTold_41 : decode cX12_areLettersTold 41 = .ok (.aload_n 0, 1) := by decide +kernel
theorem dX12_areLettersTold_42 : decode cX12_areLettersTold 42 = .ok (.getfield 7, 3) := by decide +kernel
theorem dX12_areLettersTold_45 : decode cX12_areLettersTold 45 = .ok (.iload_n 3, 1) := by decide +kernel
theorem dX12_areLettersTold_46 : decode cX12_areLettersTold 46 = .ok (.iconst 2, 1) := by decide +kernel
theorem dX12_areLettersTold_47 : decode cX12_areLettersTold 47 = .ok (.iadd, 1) := by decide +kernel
theorem dX12_areLettersTold_48 : decode cX12_areLettersTold 48 = .ok (.iaload, 1) := by decide +kernel
theorem dX12_areLettersTold_49 : decode cX12_areLettersTold 49 = .ok (.aload_n 0, 1) := by decide +kernel
theorem dX12_areLettersTold_50 : decode cX12_areLettersTold 50 = .ok (.invokevirtual 410, 3) := by decide +kernel
theorem dX12_areLettersTold_53 : decode cX12_areLettersTold 53 = .ok (.if_icmp .le 5, 3) := by decide +kernel
theorem dX12_areLettersTold_56 : decode cX12_areLettersTold 56 = .ok (.iconst 0, 1) := by decide +kernel
theorem dX12_areLettersTold_57 : decode cX12_areLettersTold 57 = .ok (.ireturn, 1) := by decide +kernel
theorem dX12_areLettersTold_58 : decode cX12_areLettersTold 58 = .ok (.iconst 0, 1) := by decide +kernel
theorem dX12_areLettersTold_59 : decode cX12_areLettersTold 59 = .ok (.istore 4, 2) := by decide +kernel
theorem dX12_areLettersTold_61 : decode cX12_areLettersTold 61 = .ok (.iload 4, 2) := by decide +kernel
theorem dX12_areLettersTold_63 : decode cX12_areLettersTold 63 = .ok (.iload_n 2, 1) := by decide +kernel
theorem dX12_areLettersTold_64 : decode cX12_areLettersTold 64 = .ok (.if_icmp .ge 64, 3) := by decide +kernel
theorem dX12_areLettersTold_67 : decode cX12_areLettersTold 67 = .ok (.aload_n 0, 1) := by decide +kernel
theorem dX12_areLettersTold_68 : decode cX12_areLettersTold 68 = .ok (.getfield 7, 3) := by decide +kernel
theorem dX12_areLettersTold_71 : decode cX12_areLettersTold 71 = .ok (.iload_n 3, 1) := by decide +kernel
theorem dX12_areLettersTold_72 : decode cX12_areLettersTold 72 = .ok (.iconst 1, 1) := by decide +kernel
theorem dX12_areLettersTold_73 : decode cX12_areLettersTold 73 = .ok (.iadd, 1) := by decide +kernel
theorem dX12_areLettersTold_74 : decode cX12_areLettersTold 74 = .ok (.iaload, 1) := by decide +kernel
theorem dX12_areLettersTold_75 : decode cX12_areLettersTold 75 = .ok (.ifCond .le 47, 3) := by decide +kernel
theorem dX12_areLettersTold_78 : decode cX12_areLettersTold 78 = .ok (.aload_n 0, 1) := by decide +kernel
theorem dX12_areLettersTold_79 : decode cX12_areLettersTold 79 = .ok (.getfield 7, 3) := by decide +kernel
theorem dX12_areLettersTold_82 : decode cX12_areLettersTold 82 = .ok (.iload_n 3, 1) := by decide +kernel
theorem dX12_areLettersTold_83 : decode cX12_areLettersTold 83 = .ok (.iconst 1, 1) := by decide +kernel
theorem dX12_areLettersTold_84 : decode cX12_areLettersTold 84 = .ok (.iadd, 1) := by decide +kernel
theorem dX12_areLettersTold_85 : decode cX12_areLettersTold 85 = .ok (.iaload, 1) := by decide +kernel
theorem dX12_areLettersTold_86 : decode cX12_areLettersTold 86 = .ok (.aload_n 0, 1) := by decide +kernel
theorem dX12_areLettersTold_87 : decode cX12_areLettersTold 87 = .ok (.getfield 7, 3) := by decide +kernel
theorem dX12_areLettersTold_90 : decode cX12_areLettersTold 90 = .ok (.iload_n 1, 1) := by decide +kernel
theorem dX12_areLettersTold_91 : decode cX12_areLettersTold 91 = .ok (.iconst 3, 1) := by decide +kernel
theorem dX12_areLettersTold_92 : decode cX12_areLettersTold 92 = .ok (.iload 4, 2) := by decide +kernel
theorem dX12_areLettersTold_94 : decode cX12_areLettersTold 94 = .ok (.imul, 1) := by decide +kernel
theorem dX12_areLettersTold_95 : decode cX12_areLettersTold 95 = .ok (.iadd, 1) := by decide +kernel
theorem dX12_areLettersTold_96 : decode cX12_areLettersTold 96 = .ok (.iconst 1, 1) := by decide +kernel
theorem dX12_areLettersTold_97 : decode cX12_areLettersTold 97 = .ok (.iadd, 1) := by decide +kernel
theorem dX12_areLettersTold_98 : decode cX12_areLettersTold 98 = .ok (.iaload, 1) := by decide +kernel
theorem dX12_areLettersTold_99 : decode cX12_areLettersTold 99 = .ok (.if_icmp .ne 23, 3) := by decide +kernel
theorem dX12_areLettersTold_102 : decode cX12_areLettersTold 102 = .ok (.aload_n 0, 1) := by decide +kernel
theorem dX12_areLettersTold_103 : decode cX12_areLettersTold 103 = .ok (.getfield 121, 3) := by decide +kernel
theorem dX12_areLettersTold_106 : decode cX12_areLettersTold 106 = .ok (.bipush 8, 2) := by decide +kernel
theorem dX12_areLettersTold_108 : decode cX12_areLettersTold 108 = .ok (.iload_n 2, 1) := by decide +kernel
theorem dX12_areLettersTold_109 : decode cX12_areLettersTold 109 = .ok (.iadd, 1) := by decide +kernel
theorem dX12_areLettersTold_110 : decode cX12_areLettersTold 110 = .ok (.iaload, 1) := by decide +kernel
theorem dX12_areLettersTold_111 : decode cX12_areLettersTold 111 = .ok (.iload 4, 2) := by decide +kernel
theorem dX12_areLettersTold_113 : decode cX12_areLettersTold 113 = .ok (.ishr, 1) := by decide +kernel
theorem dX12_areLettersTold_114 : decode cX12_areLettersTold 114 = .ok (.iconst 1, 1) := by decide +kernel
theorem dX12_areLettersTold_115 : decode cX12_areLettersTold 115 = .ok (.iand, 1) := by decide +kernel
theorem dX12_areLettersTold_116 : decode cX12_areLettersTold 116 = .ok (.iconst 1, 1) := by decide +kernel
theorem dX12_areLettersTold_117 : decode cX12_areLettersTold 117 = .ok (.if_icmp .ne 5, 3) := by decide +kernel
theorem dX12_areLettersTold_120 : decode cX12_areLettersTold 120 = .ok (.iconst 0, 1) := by decide +kernel
theorem dX12_areLettersTold_121 : decode cX12_areLettersTold 121 = .ok (.ireturn, 1) := by decide +kernel
theorem dX12_areLettersTold_122 : decode cX12_areLettersTold 122 = .ok (.iinc 4 1, 3) := by decide +kernel
theorem dX12_areLettersTold_125 : decode cX12_areLettersTold 125 = .ok (.goto (-64), 3) := by decide +kernel
theorem dX12_areLettersTold_128 : decode cX12_areLettersTold 128 = .ok (.iinc 2 1, 3) := by decide +kernel
theorem dX12_areLettersTold_131 : decode cX12_areLettersTold 131 = .ok (.goto (-129), 3) := by decide +kernel
theorem dX12_areLettersTold_134 : decode cX12_areLettersTold 134 = .ok (.iconst 1, 1) := by decide +kernel
theorem dX12_areLettersTold_135 : decode cX12_areLettersTold 135 = .ok (.ireturn, 1) := by decide +kernel
theorem dX12_timeOf_0 : decode cX12_timeOf 0 = .ok (.aload_n 0, 1) := by decide +kernel
theorem dX12_timeOf_1 : decode cX12_timeOf 1 = .ok (.getfield 133, 3) := by decide +kernel
theorem dX12_timeOf_4 : decode cX12_timeOf 4 = .ok (.iconst 2, 1) := by decide +kernel
theorem dX12_timeOf_5 : decode cX12_timeOf 5 = .ok (.iaload, 1) := by decide +kernel
theorem dX12_timeOf_6 : decode cX12_timeOf 6 = .ok (.iconst (-1), 1) := by decide +kernel
theorem dX12_timeOf_7 : decode cX12_timeOf 7 = .ok (.if_icmp .ne 6, 3) := by decide +kernel
theorem dX12_timeOf_10 : decode cX12_timeOf 10 = .ok (.bipush 20, 2) := by decide +kernel
theorem dX12_timeOf_12 : decode cX12_timeOf 12 = .ok (.ireturn, 1) := by decide +kernel
theorem dX12_timeOf_13 : decode cX12_timeOf 13 = .ok (.aload_n 0, 1) := by decide +kernel
theorem dX12_timeOf_14 : decode cX12_timeOf 14 = .ok (.iconst 0, 1) := by decide +kernel
theorem dX12_timeOf_15 : decode cX12_timeOf 15 = .ok (.iload_n 1, 1) := by decide +kernel
theorem dX12_timeOf_16 : decode cX12_timeOf 16 = .ok (.iload_n 2, 1) := by decide +kernel
theorem dX12_timeOf_17 : decode cX12_timeOf 17 = .ok (.invokevirtual 445, 3) := by decide +kernel
theorem dX12_timeOf_20 : decode cX12_timeOf 20 = .ok (.lstore_n 3, 1) := by decide +kernel
theorem dX12_timeOf_21 : decode cX12_timeOf 21 = .ok (.lload_n 3, 1) := by decide +kernel
theorem dX12_timeOf_22 : decode cX12_timeOf 22 = .ok (.lconst 1, 1) := by decide +kernel
theorem dX12_timeOf_23 : decode cX12_timeOf 23 = .ok (.lcmp, 1) := by decide +kernel
theorem dX12_timeOf_24 : decode cX12_timeOf 24 = .ok (.ifCond .ge 7, 3) := by decide +kernel
theorem dX12_timeOf_27 : decode cX12_timeOf 27 = .ok (.iconst 1, 1) := by decide +kernel
theorem dX12_timeOf_28 : decode cX12_timeOf 28 = .ok (.goto 19, 3) := by decide +kernel
theorem dX12_timeOf_31 : decode cX12_timeOf 31 = .ok (.lload_n 3, 1) := by decide +kernel
theorem dX12_timeOf_32 : decode cX12_timeOf 32 = .ok (.ldc2_w 449, 3) := by decide +kernel
theorem dX12_timeOf_35 : decode cX12_timeOf 35 = .ok (.lcmp, 1) := by decide +kernel
theorem dX12_timeOf_36 : decode cX12_timeOf 36 = .ok (.ifCond .le 9, 3) := by decide +kernel
theorem dX12_timeOf_39 : decode cX12_timeOf 39 = .ok (.sipush 999, 3) := by decide +kernel
theorem dX12_timeOf_42 : decode cX12_timeOf 42 = .ok (.goto 5, 3) := by decide +kernel
theorem dX12_timeOf_45 : decode cX12_timeOf 45 = .ok (.lload_n 3, 1) := by decide +kernel
theorem dX12_timeOf_46 : decode cX12_timeOf 46 = .ok (.l2i, 1) := by decide +kernel
theorem dX12_timeOf_47 : decode cX12_timeOf 47 = .ok (.ireturn, 1) := by decide +kernel
theorem dX12_takesSign_0 : decode cX12_takesSign 0 = .ok (.aload_n 0, 1) := by decide +kernel
theorem dX12_takesSign_1 : decode cX12_takesSign 1 = .ok (.getfield 263, 3) := by decide +kernel
theorem dX12_takesSign_4 : decode cX12_takesSign 4 = .ok (.ifCond .ne 11, 3) := by decide +kernel
theorem dX12_takesSign_7 : decode cX12_takesSign 7 = .ok (.aload_n 0, 1) := by decide +kernel
theorem dX12_takesSign_8 : decode cX12_takesSign 8 = .ok (.invokevirtual 275, 3) := by decide +kernel
theorem dX12_takesSign_11 : decode cX12_takesSign 11 = .ok (.iload_n 1, 1) := by decide +kernel
theorem dX12_takesSign_12 : decode cX12_takesSign 12 = .ok (.if_icmp .eq 5, 3) := by decide +kernel
theorem dX12_takesSign_15 : decode cX12_takesSign 15 = .ok (.iconst 0, 1) := by decide +kernel
theorem dX12_takesSign_16 : decode cX12_takesSign 16 = .ok (.ireturn, 1) := by decide +kernel
theorem dX12_takesSign_17 : decode cX12_takesSign 17 = .ok (.aload_n 0, 1) := by decide +kernel
theorem dX12_takesSign_18 : decode cX12_takesSign 18 = .ok (.dup, 1) := by decide +kernel
theorem dX12_takesSign_19 : decode cX12_takesSign 19 = .ok (.getfield 269, 3) := by decide +kernel
theorem dX12_takesSign_22 : decode cX12_takesSign 22 = .ok (.iconst 1, 1) := by decide +kernel
theorem dX12_takesSign_23 : decode cX12_takesSign 23 = .ok (.iadd, 1) := by decide +kernel
theorem dX12_takesSign_24 : decode cX12_takesSign 24 = .ok (.putfield 269, 3) := by decide +kernel
theorem dX12_takesSign_27 : decode cX12_takesSign 27 = .ok (.iconst 1, 1) := by decide +kernel
theorem dX12_takesSign_28 : decode cX12_takesSign 28 = .ok (.ireturn, 1) := by decide +kernel
theorem dX12_lostBy_0 : decode cX12_lostBy 0 = .ok (.iconst 0, 1) := by decide +kernel
theorem dX12_lostBy_1 : decode cX12_lostBy 1 = .ok (.istore_n 2, 1) := by decide +kernel
theorem dX12_lostBy_2 : decode cX12_lostBy 2 = .ok (.iconst 0, 1) := by decide +kernel
theorem dX12_lostBy_3 : decode cX12_lostBy 3 = .ok (.istore_n 3, 1) := by decide +kernel
theorem dX12_lostBy_4 : decode cX12_lostBy 4 = .ok (.iload_n 3, 1) := by decide +kernel
theorem dX12_lostBy_5 : decode cX12_lostBy 5 = .ok (.aload_n 0, 1) := by decide +kernel
theorem dX12_lostBy_6 : decode cX12_lostBy 6 = .ok (.invokevirtual 419, 3) := by decide +kernel
theorem dX12_lostBy_9 : decode cX12_lostBy 9 = .ok (.if_icmp .ge 48, 3) := by decide +kernel
theorem dX12_lostBy_12 : decode cX12_lostBy 12 = .ok (.aload_n 0, 1) := by decide +kernel
theorem dX12_lostBy_13 : decode cX12_lostBy 13 = .ok (.getfield 112, 3) := by decide +kernel
theorem dX12_lostBy_16 : decode cX12_lostBy 16 = .ok (.bipush 26, 2) := by decide +kernel
theorem dX12_lostBy_18 : decode cX12_lostBy 18 = .ok (.iconst 3, 1) := by decide +kernel
theorem dX12_lostBy_19 : decode cX12_lostBy 19 = .ok (.iload_n 3, 1) := by decide +kernel
theorem dX12_lostBy_20 : decode cX12_lostBy 20 = .ok (.imul, 1) := by decide +kernel
theorem dX12_lostBy_21 : decode cX12_lostBy 21 = .ok (.iadd, 1) := by decide +kernel
theorem dX12_lostBy_22 : decode cX12_lostBy 22 = .ok (.iaload, 1) := by decide +kernel
theorem dX12_lostBy_23 : decode cX12_lostBy 23 = .ok (.istore 4, 2) := by decide +kernel
theorem dX12_lostBy_25 : decode cX12_lostBy 25 = .ok (.iload_n 2, 1) := by decide +kernel
theorem dX12_lostBy_26 : decode cX12_lostBy 26 = .ok (.iload 4, 2) := by decide +kernel
theorem dX12_lostBy_28 : decode cX12_lostBy 28 = .ok (.iload_n 1, 1) := by decide +kernel
theorem dX12_lostBy_29 : decode cX12_lostBy 29 = .ok (.if_icmp .lt 11, 3) := by decide +kernel
theorem dX12_lostBy_32 : decode cX12_lostBy 32 = .ok (.bipush 10, 2) := by decide +kernel
theorem dX12_lostBy_34 : decode cX12_lostBy 34 = .ok (.iload 4, 2) := by decide +kernel
theorem dX12_lostBy_36 : decode cX12_lostBy 36 = .ok (.isub, 1) := by decide +kernel
theorem dX12_lostBy_37 : decode cX12_lostBy 37 = .ok (.goto 12, 3) := by decide +kernel
theorem dX12_lostBy_40 : decode cX12_lostBy 40 = .ok (.aload_n 0, 1) := by decide +kernel
theorem dX12_lostBy_41 : decode cX12_lostBy 41 = .ok (.getfield 130, 3) := by decide +kernel
theorem dX12_lostBy_44 : decode cX12_lostBy 44 = .ok (.iconst 2, 1) := by decide +kernel
theorem dX12_lostBy_45 : decode cX12_lostBy 45 = .ok (.iaload, 1) := by decide +kernel
theorem dX12_lostBy_46 : decode cX12_lostBy 46 = .ok (.iload 4, 2) := by decide +kernel
theorem dX12_lostBy_48 : decode cX12_lostBy 48 = .ok (.imul, 1) := by decide +kernel
theorem dX12_lostBy_49 : decode cX12_lostBy 49 = .ok (.iadd, 1) := by decide +kernel
theorem dX12_lostBy_50 : decode cX12_lostBy 50 = .ok (.istore_n 2, 1) := by decide +kernel
theorem dX12_lostBy_51 : decode cX12_lostBy 51 = .ok (.iinc 3 1, 3) := by decide +kernel
theorem dX12_lostBy_54 : decode cX12_lostBy 54 = .ok (.goto (-50), 3) := by decide +kernel
theorem dX12_lostBy_57 : decode cX12_lostBy 57 = .ok (.iload_n 2, 1) := by decide +kernel
theorem dX12_lostBy_58 : decode cX12_lostBy 58 = .ok (.ireturn, 1) := by decide +kernel
theorem dX12_leftOf_0 : decode cX12_leftOf 0 = .ok (.aload_n 0, 1) := by decide +kernel
theorem dX12_leftOf_1 : decode cX12_leftOf 1 = .ok (.getfield 142, 3) := by decide +kernel
theorem dX12_leftOf_4 : decode cX12_leftOf 4 = .ok (.iconst 1, 1) := by decide +kernel
theorem dX12_leftOf_5 : decode cX12_leftOf 5 = .ok (.iload_n 1, 1) := by decide +kernel
theorem dX12_leftOf_6 : decode cX12_leftOf 6 = .ok (.iadd, 1) := by decide +kernel
theorem dX12_leftOf_7 : decode cX12_leftOf 7 = .ok (.iaload, 1) := by decide +kernel
theorem dX12_leftOf_8 : decode cX12_leftOf 8 = .ok (.ireturn, 1) := by decide +kernel
theorem dX12_sheet_0 : decode cX12_sheet 0 = .ok (.aload_n 0, 1) := by decide +kernel
theorem dX12_sheet_1 : decode cX12_sheet 1 = .ok (.iload_n 1, 1) := by decide +kernel
theorem dX12_sheet_2 : decode cX12_sheet 2 = .ok (.invokevirtual 501, 3) := by decide +kernel
theorem dX12_sheet_5 : decode cX12_sheet 5 = .ok (.ifCond .eq 33, 3) := by decide +kernel
theorem dX12_sheet_8 : decode cX12_sheet 8 = .ok (.iload_n 2, 1) := by decide +kernel
theorem dX12_sheet_9 : decode cX12_sheet 9 = .ok (.i2l, 1) := by decide +kernel
theorem dX12_sheet_10 : decode cX12_sheet 10 = .ok (.lconst 1, 1) := by decide +kernel
theorem dX12_sheet_11 : decode cX12_sheet 11 = .ok (.ldc2_w 578, 3) := by decide +kernel
theorem dX12_sheet_14 : decode cX12_sheet 14 = .ok (.invokestatic 303, 3) := by decide +kernel
theorem dX12_sheet_17 : decode cX12_sheet 17 = .ok (.ifCond .eq 21, 3) := by decide +kernel
theorem dX12_sheet_20 : decode cX12_sheet 20 = .ok (.aload_n 0, 1) := by decide +kernel
theorem dX12_sheet_21 : decode cX12_sheet 21 = .ok (.iload_n 1, 1) := by decide +kernel
theorem dX12_sheet_22 : decode cX12_sheet 22 = .ok (.invokevirtual 504, 3) := by decide +kernel
theorem dX12_sheet_25 : decode cX12_sheet 25 = .ok (.iload_n 2, 1) := by decide +kernel
theorem dX12_sheet_26 : decode cX12_sheet 26 = .ok (.if_icmp .eq 12, 3) := by decide +kernel
theorem dX12_sheet_29 : decode cX12_sheet 29 = .ok (.aload_n 0, 1) := by decide +kernel
theorem dX12_sheet_30 : decode cX12_sheet 30 = .ok (.iload_n 1, 1) := by decide +kernel
theorem dX12_sheet_31 : decode cX12_sheet 31 = .ok (.iload_n 2, 1) := by decide +kernel
theorem dX12_sheet_32 : decode cX12_sheet 32 = .ok (.invokevirtual 580, 3) := by decide +kernel
theorem dX12_sheet_35 : decode cX12_sheet 35 = .ok (.ifCond .eq 15, 3) := by decide +kernel
theorem dX12_sheet_38 : decode cX12_sheet 38 = .ok (.aload_n 0, 1) := by decide +kernel
theorem dX12_sheet_39 : decode cX12_sheet 39 = .ok (.getfield 17, 3) := by decide +kernel
theorem dX12_sheet_42 : decode cX12_sheet 42 = .ok (.iconst 2, 1) := by decide +kernel
theorem dX12_sheet_43 : decode cX12_sheet 43 = .ok (.dup2, 1) := by decide +kernel
theorem dX12_sheet_44 : decode cX12_sheet 44 = .ok (.iaload, 1) := by decide +kernel
theorem dX12_sheet_45 : decode cX12_sheet 45 = .ok (.iconst 1, 1) := by decide +kernel
theorem dX12_sheet_46 : decode cX12_sheet 46 = .ok (.iadd, 1) := by decide +kernel
theorem dX12_sheet_47 : decode cX12_sheet 47 = .ok (.iastore, 1) := by decide +kernel
theorem dX12_sheet_48 : decode cX12_sheet 48 = .ok (.iconst 0, 1) := by decide +kernel
theorem dX12_sheet_49 : decode cX12_sheet 49 = .ok (.ireturn, 1) := by decide +kernel
theorem dX12_sheet_50 : decode cX12_sheet 50 = .ok (.aload_n 0, 1) := by decide +kernel
theorem dX12_sheet_51 : decode cX12_sheet 51 = .ok (.invokevirtual 575, 3) := by decide +kernel
theorem dX12_sheet_54 : decode cX12_sheet 54 = .ok (.aload_n 0, 1) := by decide +kernel
theorem dX12_sheet_55 : decode cX12_sheet 55 = .ok (.getfield 142, 3) := by decide +kernel
theorem dX12_sheet_58 : decode cX12_sheet 58 = .ok (.bipush 8, 2) := by decide +kernel
theorem dX12_sheet_60 : decode cX12_sheet 60 = .ok (.iconst 3, 1) := by decide +kernel
theorem dX12_sheet_61 : decode cX12_sheet 61 = .ok (.iload_n 1, 1) := by decide +kernel
theorem dX12_sheet_62 : decode cX12_sheet 62 = .ok (.imul, 1) := by decide +kernel
theorem dX12_sheet_63 : decode cX12_sheet 63 = .ok (.iadd, 1) := by decide +kernel
theorem dX12_sheet_64 : decode cX12_sheet 64 = .ok (.iconst 1, 1) := by decide +kernel
theorem dX12_sheet_65 : decode cX12_sheet 65 = .ok (.iadd, 1) := by decide +kernel
theorem dX12_sheet_66 : decode cX12_sheet 66 = .ok (.iload_n 2, 1) := by decide +kernel
theorem dX12_sheet_67 : decode cX12_sheet 67 = .ok (.iastore, 1) := by decide +kernel
theorem dX12_sheet_68 : decode cX12_sheet 68 = .ok (.iconst 1, 1) := by decide +kernel
theorem dX12_sheet_69 : decode cX12_sheet 69 = .ok (.ireturn, 1) := by decide +kernel
theorem dX12_image_0 : decode cX12_image 0 = .ok (.aload_n 0, 1) := by decide +kernel
theorem dX12_image_1 : decode cX12_image 1 = .ok (.iconst 0, 1) := by decide +kernel
theorem dX12_image_2 : decode cX12_image 2 = .ok (.putfield 686, 3) := by decide +kernel
theorem dX12_image_5 : decode cX12_image 5 = .ok (.aload_n 0, 1) := by decide +kernel
theorem dX12_image_6 : decode cX12_image 6 = .ok (.aload_n 0, 1) := by decide +kernel
theorem dX12_image_7 : decode cX12_image 7 = .ok (.getfield 142, 3) := by decide +kernel
theorem dX12_image_10 : decode cX12_image 10 = .ok (.iconst 0, 1) := by decide +kernel
theorem dX12_image_11 : decode cX12_image 11 = .ok (.iaload, 1) := by decide +kernel
theorem dX12_image_12 : decode cX12_image 12 = .ok (.sipush 256, 3) := by decide +kernel
theorem dX12_image_15 : decode cX12_image 15 = .ok (.idiv, 1) := by decide +kernel
theorem dX12_image_16 : decode cX12_image 16 = .ok (.invokevirtual 689, 3) := by decide +kernel
theorem dX12_image_19 : decode cX12_image 19 = .ok (.aload_n 0, 1) := by decide +kernel
theorem dX12_image_20 : decode cX12_image 20 = .ok (.aload_n 0, 1) := by decide +kernel
theorem dX12_image_21 : decode cX12_image 21 = .ok (.getfield 142, 3) := by decide +kernel
theorem dX12_image_24 : decode cX12_image 24 = .ok (.iconst 0, 1) := by decide +kernel
theorem dX12_image_25 : decode cX12_image 25 = .ok (.iaload, 1) := by decide +kernel
theorem dX12_image_26 : decode cX12_image 26 = .ok (.sipush 256, 3) := by decide +kernel
theorem dX12_image_29 : decode cX12_image 29 = .ok (.irem, 1) := by decide +kernel
theorem dX12_image_30 : decode cX12_image 30 = .ok (.invokevirtual 689, 3) := by decide +kernel
theorem dX12_image_33 : decode cX12_image 33 = .ok (.iconst 0, 1) := by decide +kernel
theorem dX12_image_34 : decode cX12_image 34 = .ok (.istore_n 1, 1) := by decide +kernel
theorem dX12_image_35 : decode cX12_image 35 = .ok (.iload_n 1, 1) := by decide +kernel
theorem dX12_image_36 : decode cX12_image 36 = .ok (.aload_n 0, 1) := by decide +kernel
theorem dX12_image_37 : decode cX12_image 37 = .ok (.invokevirtual 422, 3) := by decide +kernel
theorem dX12_image_40 : decode cX12_image 40 = .ok (.if_icmp .ge 18, 3) := by decide +kernel
theorem dX12_image_43 : decode cX12_image 43 = .ok (.aload_n 0, 1) := by decide +kernel
theorem dX12_image_44 : decode cX12_image 44 = .ok (.aload_n 0, 1) := by decide +kernel
theorem dX12_image_45 : decode cX12_image 45 = .ok (.iload_n 1, 1) := by decide +kernel
theorem dX12_image_46 : decode cX12_image 46 = .ok (.invokevirtual 458, 3) := by decide +kernel
theorem dX12_image_49 : decode cX12_image 49 = .ok (.invokevirtual 689, 3) := by decide +kernel
theorem dX12_image_52 : decode cX12_image 52 = .ok (.iinc 1 1, 3) := by decide +kernel
theorem dX12_image_55 : decode cX12_image 55 = .ok (.goto (-20), 3) := by decide +kernel
theorem dX12_image_58 : decode cX12_image 58 = .ok (.iconst 0, 1) := by decide +kernel
theorem dX12_image_59 : decode cX12_image 59 = .ok (.istore_n 1, 1) := by decide +kernel
theorem dX12_image_60 : decode cX12_image 60 = .ok (.iload_n 1, 1) := by decide +kernel
theorem dX12_image_61 : decode cX12_image 61 = .ok (.aload_n 0, 1) := by decide +kernel
theorem dX12_image_62 : decode cX12_image 62 = .ok (.invokevirtual 410, 3) := by decide +kernel
theorem dX12_image_65 : decode cX12_image 65 = .ok (.if_icmp .ge 21, 3) := by decide +kernel
theorem dX12_image_68 : decode cX12_image 68 = .ok (.aload_n 0, 1) := by decide +kernel
theorem dX12_image_69 : decode cX12_image 69 = .ok (.aload_n 0, 1) := by decide +kernel
theorem dX12_image_70 : decode cX12_image 70 = .ok (.getfield 142, 3) := by decide +kernel
theorem dX12_image_73 : decode cX12_image 73 = .ok (.iconst 4, 1) := by decide +kernel
theorem dX12_image_74 : decode cX12_image 74 = .ok (.iload_n 1, 1) := by decide +kernel
theorem dX12_image_75 : decode cX12_image 75 = .ok (.iadd, 1) := by decide +kernel
theorem dX12_image_76 : decode cX12_image 76 = .ok (.iaload, 1) := by decide +kernel
theorem dX12_image_77 : decode cX12_image 77 = .ok (.invokevirtual 689, 3) := by decide +kernel
theorem dX12_image_80 : decode cX12_image 80 = .ok (.iinc 1 1, 3) := by decide +kernel
theorem dX12_image_83 : decode cX12_image 83 = .ok (.goto (-23), 3) := by decide +kernel
theorem dX12_image_86 : decode cX12_image 86 = .ok (.iconst 0, 1) := by decide +kernel
theorem dX12_image_87 : decode cX12_image 87 = .ok (.istore_n 1, 1) := by decide +kernel
theorem dX12_image_88 : decode cX12_image 88 = .ok (.iload_n 1, 1) := by decide +kernel
theorem dX12_image_89 : decode cX12_image 89 = .ok (.iconst 3, 1) := by decide +kernel
theorem dX12_image_90 : decode cX12_image 90 = .ok (.aload_n 0, 1) := by decide +kernel
theorem dX12_image_91 : decode cX12_image 91 = .ok (.invokevirtual 419, 3) := by decide +kernel
theorem dX12_image_94 : decode cX12_image 94 = .ok (.imul, 1) := by decide +kernel
theorem dX12_image_95 : decode cX12_image 95 = .ok (.if_icmp .ge 22, 3) := by decide +kernel
theorem dX12_image_98 : decode cX12_image 98 = .ok (.aload_n 0, 1) := by decide +kernel
theorem dX12_image_99 : decode cX12_image 99 = .ok (.aload_n 0, 1) := by decide +kernel
theorem dX12_image_100 : decode cX12_image 100 = .ok (.getfield 142, 3) := by decide +kernel
theorem dX12_image_103 : decode cX12_image 103 = .ok (.bipush 8, 2) := by decide +kernel
theorem dX12_image_105 : decode cX12_image 105 = .ok (.iload_n 1, 1) := by decide +kernel
theorem dX12_image_106 : decode cX12_image 106 = .ok (.iadd, 1) := by decide +kernel
theorem dX12_image_107 : decode cX12_image 107 = .ok (.iaload, 1) := by decide +kernel
theorem dX12_image_108 : decode cX12_image 108 = .ok (.invokevirtual 689, 3) := by decide +kernel
theorem dX12_image_111 : decode cX12_image 111 = .ok (.iinc 1 1, 3) := by decide +kernel
theorem dX12_image_114 : decode cX12_image 114 = .ok (.goto (-26), 3) := by decide +kernel
theorem dX12_image_117 : decode cX12_image 117 = .ok (.aload_n 0, 1) := by decide +kernel
theorem dX12_image_118 : decode cX12_image 118 = .ok (.aload_n 0, 1) := by decide +kernel
theorem dX12_image_119 : decode cX12_image 119 = .ok (.getfield 257, 3) := by decide +kernel
theorem dX12_image_122 : decode cX12_image 122 = .ok (.aload_n 0, 1) := by decide +kernel
theorem dX12_image_123 : decode cX12_image 123 = .ok (.getfield 686, 3) := by decide +kernel
theorem dX12_image_126 : decode cX12_image 126 = .ok (.invokestatic 692, 3) := by decide +kernel
theorem dX12_image_129 : decode cX12_image 129 = .ok (.invokevirtual 689, 3) := by decide +kernel
theorem dX12_image_132 : decode cX12_image 132 = .ok (.aload_n 0, 1) := by decide +kernel
theorem dX12_image_133 : decode cX12_image 133 = .ok (.getfield 686, 3) := by decide +kernel
theorem dX12_image_136 : decode cX12_image 136 = .ok (.ireturn, 1) := by decide +kernel
theorem dX12_qClip_0 : decode cX12_qClip 0 = .ok (.lload_n 0, 1) := by decide +kernel
theorem dX12_qClip_1 : decode cX12_qClip 1 = .ok (.ldc2_w 648, 3) := by decide +kernel
theorem dX12_qClip_4 : decode cX12_qClip 4 = .ok (.lcmp, 1) := by decide +kernel
theorem dX12_qClip_5 : decode cX12_qClip 5 = .ok (.ifCond .le 9, 3) := by decide +kernel
theorem dX12_qClip_8 : decode cX12_qClip 8 = .ok (.ldc2_w 648, 3) := by decide +kernel
theorem dX12_qClip_11 : decode cX12_qClip 11 = .ok (.goto 18, 3) := by decide +kernel
theorem dX12_qClip_14 : decode cX12_qClip 14 = .ok (.lload_n 0, 1) := by decide +kernel
theorem dX12_qClip_15 : decode cX12_qClip 15 = .ok (.ldc2_w 650, 3) := by decide +kernel
theorem dX12_qClip_18 : decode cX12_qClip 18 = .ok (.lcmp, 1) := by decide +kernel
theorem dX12_qClip_19 : decode cX12_qClip 19 = .ok (.ifCond .ge 9, 3) := by decide +kernel
theorem dX12_qClip_22 : decode cX12_qClip 22 = .ok (.ldc2_w 650, 3) := by decide +kernel
theorem dX12_qClip_25 : decode cX12_qClip 25 = .ok (.goto 4, 3) := by decide +kernel
theorem dX12_qClip_28 : decode cX12_qClip 28 = .ok (.lload_n 0, 1) := by decide +kernel
theorem dX12_qClip_29 : decode cX12_qClip 29 = .ok (.lreturn, 1) := by decide +kernel
theorem dX12_isFull_0 : decode cX12_isFull 0 = .ok (.aload_n 0, 1) := by decide +kernel
theorem dX12_isFull_1 : decode cX12_isFull 1 = .ok (.getfield 263, 3) := by decide +kernel
theorem dX12_isFull_4 : decode cX12_isFull 4 = .ok (.ifCond .ne 19, 3) := by decide +kernel
theorem dX12_isFull_7 : decode cX12_isFull 7 = .ok (.aload_n 0, 1) := by decide +kernel
theorem dX12_isFull_8 : decode cX12_isFull 8 = .ok (.getfield 105, 3) := by decide +kernel
theorem dX12_isFull_11 : decode cX12_isFull 11 = .ok (.iload_n 1, 1) := by decide +kernel
theorem dX12_isFull_12 : decode cX12_isFull 12 = .ok (.iaload, 1) := by decide +kernel
theorem dX12_isFull_13 : decode cX12_isFull 13 = .ok (.iload_n 2, 1) := by decide +kernel
theorem dX12_isFull_14 : decode cX12_isFull 14 = .ok (.if_icmp .ne 9, 3) := by decide +kernel
theorem dX12_isFull_17 : decode cX12_isFull 17 = .ok (.aload_n 0, 1) := by decide +kernel
theorem dX12_isFull_18 : decode cX12_isFull 18 = .ok (.iconst 5, 1) := by decide +kernel
theorem dX12_isFull_19 : decode cX12_isFull 19 = .ok (.iload_n 3, 1) := by decide +kernel
theorem dX12_isFull_20 : decode cX12_isFull 20 = .ok (.invokevirtual 293, 3) := by decide +kernel
theorem dX12_isFull_23 : decode cX12_isFull 23 = .ok (.aload_n 0, 1) := by decide +kernel
theorem dX12_isFull_24 : decode cX12_isFull 24 = .ok (.getfield 263, 3) := by decide +kernel
theorem dX12_isFull_27 : decode cX12_isFull 27 = .ok (.ifCond .eq 7, 3) := by decide +kernel
theorem dX12_isFull_30 : decode cX12_isFull 30 = .ok (.iconst 1, 1) := by decide +kernel
theorem dX12_isFull_31 : decode cX12_isFull 31 = .ok (.goto 4, 3) := by decide +kernel
theorem dX12_isFull_34 : decode cX12_isFull 34 = .ok (.iconst 0, 1) := by decide +kernel
theorem dX12_isFull_35 : decode cX12_isFull 35 = .ok (.ireturn, 1) := by decide +kernel
theorem dX12_qIsBracket_0 : decode cX12_qIsBracket 0 = .ok (.iload_n 0, 1) := by decide +kernel
theorem dX12_qIsBracket_1 : decode cX12_qIsBracket 1 = .ok (.bipush 20, 2) := by decide +kernel
theorem dX12_qIsBracket_3 : decode cX12_qIsBracket 3 = .ok (.if_icmp .lt 13, 3) := by decide +kernel
theorem dX12_qIsBracket_6 : decode cX12_qIsBracket 6 = .ok (.iload_n 0, 1) := by decide +kernel
theorem dX12_qIsBracket_7 : decode cX12_qIsBracket 7 = .ok (.bipush 24, 2) := by decide +kernel
theorem dX12_qIsBracket_9 : decode cX12_qIsBracket 9 = .ok (.if_icmp .gt 7, 3) := by decide +kernel
theorem dX12_qIsBracket_12 : decode cX12_qIsBracket 12 = .ok (.iconst 1, 1) := by decide +kernel
theorem dX12_qIsBracket_13 : decode cX12_qIsBracket 13 = .ok (.goto 4, 3) := by decide +kernel
theorem dX12_qIsBracket_16 : decode cX12_qIsBracket 16 = .ok (.iconst 0, 1) := by decide +kernel
theorem dX12_qIsBracket_17 : decode cX12_qIsBracket 17 = .ok (.ireturn, 1) := by decide +kernel
theorem dX12_asksSign_0 : decode cX12_asksSign 0 = .ok (.aload_n 0, 1) := by decide +kernel
theorem dX12_asksSign_1 : decode cX12_asksSign 1 = .ok (.getfield 263, 3) := by decide +kernel
theorem dX12_asksSign_4 : decode cX12_asksSign 4 = .ok (.ifCond .ne 20, 3) := by decide +kernel
theorem dX12_asksSign_7 : decode cX12_asksSign 7 = .ok (.aload_n 0, 1) := by decide +kernel
theorem dX12_asksSign_8 : decode cX12_asksSign 8 = .ok (.iload_n 1, 1) := by decide +kernel
theorem dX12_asksSign_9 : decode cX12_asksSign 9 = .ok (.invokevirtual 297, 3) := by decide +kernel
theorem dX12_asksSign_12 : decode cX12_asksSign 12 = .ok (.ifCond .ne 12, 3) := by decide +kernel
theorem dX12_asksSign_15 : decode cX12_asksSign 15 = .ok (.aload_n 0, 1) := by decide +kernel
theorem dX12_asksSign_16 : decode cX12_asksSign 16 = .ok (.iconst 1, 1) := by decide +kernel
theorem dX12_asksSign_17 : decode cX12_asksSign 17 = .ok (.aload_n 0, 1) := by decide +kernel
theorem dX12_asksSign_18 : decode cX12_asksSign 18 = .ok (.getfield 269, 3) := by decide +kernel
theorem dX12_asksSign_21 : decode cX12_asksSign 21 = .ok (.invokevirtual 293, 3) := by decide +kernel
theorem dX12_asksSign_24 : decode cX12_asksSign 24 = .ok (.return_, 1) := by decide +kernel
theorem dX12_letterTold_0 : decode cX12_letterTold 0 = .ok (.aload_n 0, 1) := by decide +kernel
theorem dX12_letterTold_1 : decode cX12_letterTold 1 = .ok (.iconst 0, 1) := by decide +kernel
theorem dX12_letterTold_2 : decode cX12_letterTold 2 = .ok (.bipush 8, 2) := by decide +kernel
theorem dX12_letterTold_4 : decode cX12_letterTold 4 = .ok (.iload_n 1, 1) := by decide +kernel
theorem dX12_letterTold_5 : decode cX12_letterTold 5 = .ok (.invokevirtual 330, 3) := by decide +kernel
theorem dX12_letterTold_8 : decode cX12_letterTold 8 = .ok (.ifCond .eq 4, 3) := by decide +kernel
theorem dX12_letterTold_11 : decode cX12_letterTold 11 = .ok (.return_, 1) := by decide +kernel
theorem dX12_letterTold_12 : decode cX12_letterTold 12 = .ok (.aload_n 0, 1) := by decide +kernel
theorem dX12_letterTold_13 : decode cX12_letterTold 13 = .ok (.invokevirtual 334, 3) := by decide +kernel
theorem dX12_letterTold_16 : decode cX12_letterTold 16 = .ok (.lstore_n 2, 1) := by decide +kernel
theorem dX12_letterTold_17 : decode cX12_letterTold 17 = .ok (.aload_n 0, 1) := by decide +kernel
theorem dX12_letterTold_18 : decode cX12_letterTold 18 = .ok (.aload_n 0, 1) := by decide +kernel
theorem dX12_letterTold_19 : decode cX12_letterTold 19 = .ok (.getfield 24, 3) := by decide +kernel
theorem dX12_letterTold_22 : decode cX12_letterTold 22 = .ok (.invokevirtual 337, 3) := by decide +kernel
theorem dX12_letterTold_25 : decode cX12_letterTold 25 = .ok (.aload_n 0, 1) := by decide +kernel
theorem dX12_letterTold_26 : decode cX12_letterTold 26 = .ok (.iconst 0, 1) := by decide +kernel
theorem dX12_letterTold_27 : decode cX12_letterTold 27 = .ok (.bipush 20, 2) := by decide +kernel
theorem dX12_letterTold_29 : decode cX12_letterTold 29 = .ok (.invokevirtual 341, 3) := by decide +kernel
theorem dX12_letterTold_32 : decode cX12_letterTold 32 = .ok (.istore 4, 2) := by decide +kernel
theorem dX12_letterTold_34 : decode cX12_letterTold 34 = .ok (.aload_n 0, 1) := by decide +kernel
theorem dX12_letterTold_35 : decode cX12_letterTold 35 = .ok (.aload_n 0, 1) := by decide +kernel
theorem dX12_letterTold_36 : decode cX12_letterTold 36 = .ok (.getfield 27, 3) := by decide +kernel
theorem dX12_letterTold_39 : decode cX12_letterTold 39 = .ok (.invokevirtual 337, 3) := by decide +kernel
theorem dX12_letterTold_42 : decode cX12_letterTold 42 = .ok (.aload_n 0, 1) := by decide +kernel
theorem dX12_letterTold_43 : decode cX12_letterTold 43 = .ok (.iconst 0, 1) := by decide +kernel
theorem dX12_letterTold_44 : decode cX12_letterTold 44 = .ok (.bipush 9, 2) := by decide +kernel
theorem dX12_letterTold_46 : decode cX12_letterTold 46 = .ok (.invokevirtual 341, 3) := by decide +kernel
theorem dX12_letterTold_49 : decode cX12_letterTold 49 = .ok (.istore 5, 2) := by decide +kernel
theorem dX12_letterTold_51 : decode cX12_letterTold 51 = .ok (.aload_n 0, 1) := by decide +kernel
theorem dX12_letterTold_52 : decode cX12_letterTold 52 = .ok (.aload_n 0, 1) := by decide +kernel
theorem dX12_letterTold_53 : decode cX12_letterTold 53 = .ok (.getfield 30, 3) := by decide +kernel
theorem dX12_letterTold_56 : decode cX12_letterTold 56 = .ok (.invokevirtual 337, 3) := by decide +kernel
theorem dX12_letterTold_59 : decode cX12_letterTold 59 = .ok (.aload_n 0, 1) := by decide +kernel
theorem dX12_letterTold_60 : decode cX12_letterTold 60 = .ok (.iconst 0, 1) := by decide +kernel
theorem dX12_letterTold_61 : decode cX12_letterTold 61 = .ok (.bipush 10, 2) := by decide +kernel
theorem dX12_letterTold_63 : decode cX12_letterTold 63 = .ok (.invokevirtual 341, 3) := by decide +kernel
theorem dX12_letterTold_66 : decode cX12_letterTold 66 = .ok (.istore 6, 2) := by decide +kernel
theorem dX12_letterTold_68 : decode cX12_letterTold 68 = .ok (.aload_n 0, 1) := by decide +kernel
theorem dX12_letterTold_69 : decode cX12_letterTold 69 = .ok (.getfield 263, 3) := by decide +kernel
theorem dX12_letterTold_72 : decode cX12_letterTold 72 = .ok (.ifCond .eq 4, 3) := by decide +kernel
theorem dX12_letterTold_75 : decode cX12_letterTold 75 = .ok (.return_, 1) := by decide +kernel
theorem dX12_letterTold_76 : decode cX12_letterTold 76 = .ok (.iconst 3, 1) := by decide +kernel
theorem dX12_letterTold_77 : decode cX12_letterTold 77 = .ok (.aload_n 0, 1) := by decide +kernel
theorem dX12_letterTold_78 : decode cX12_letterTold 78 = .ok (.iconst 0, 1) := by decide +kernel
theorem dX12_letterTold_79 : decode cX12_letterTold 79 = .ok (.lload_n 2, 1) := by decide +kernel
theorem dX12_letterTold_80 : decode cX12_letterTold 80 = .ok (.invokevirtual 345, 3) := by decide +kernel
theorem dX12_letterTold_83 : decode cX12_letterTold 83 = .ok (.imul, 1) := by decide +kernel
theorem dX12_letterTold_84 : decode cX12_letterTold 84 = .ok (.istore 7, 2) := by decide +kernel
theorem dX12_letterTold_86 : decode cX12_letterTold 86 = .ok (.aload_n 0, 1) := by decide +kernel
theorem dX12_letterTold_87 : decode cX12_letterTold 87 = .ok (.getfield 112, 3) := by decide +kernel
theorem dX12_letterTold_90 : decode cX12_letterTold 90 = .ok (.iload 7, 2) := by decide +kernel
theorem dX12_letterTold_92 : decode cX12_letterTold 92 = .ok (.iload 4, 2) := by decide +kernel
theorem dX12_letterTold_94 : decode cX12_letterTold 94 = .ok (.iastore, 1) := by decide +kernel
theorem dX12_letterTold_95 : decode cX12_letterTold 95 = .ok (.aload_n 0, 1) := by decide +kernel
theorem dX12_letterTold_96 : decode cX12_letterTold 96 = .ok (.getfield 112, 3) := by decide +kernel
theorem dX12_letterTold_99 : decode cX12_letterTold 99 = .ok (.iload 7, 2) := by decide +kernel
theorem dX12_letterTold_101 : decode cX12_letterTold 101 = .ok (.iconst 1, 1) := by decide +kernel
theorem dX12_letterTold_102 : decode cX12_letterTold 102 = .ok (.iadd, 1) := by decide +kernel
theorem dX12_letterTold_103 : decode cX12_letterTold 103 = .ok (.iload 5, 2) := by decide +kernel
theorem dX12_letterTold_105 : decode cX12_letterTold 105 = .ok (.iastore, 1) := by decide +kernel
theorem dX12_letterTold_106 : decode cX12_letterTold 106 = .ok (.aload_n 0, 1) := by decide +kernel
theorem dX12_letterTold_107 : decode cX12_letterTold 107 = .ok (.getfield 112, 3) := by decide +kernel
theorem dX12_letterTold_110 : decode cX12_letterTold 110 = .ok (.iload 7, 2) := by decide +kernel
theorem dX12_letterTold_112 : decode cX12_letterTold 112 = .ok (.iconst 2, 1) := by decide +kernel
theorem dX12_letterTold_113 : decode cX12_letterTold 113 = .ok (.iadd, 1) := by decide +kernel
theorem dX12_letterTold_114 : decode cX12_letterTold 114 = .ok (.iload 6, 2) := by decide +kernel
theorem dX12_letterTold_116 : decode cX12_letterTold 116 = .ok (.iastore, 1) := by decide +kernel
theorem dX12_letterTold_117 : decode cX12_letterTold 117 = .ok (.return_, 1) := by decide +kernel
theorem dX12_qBracket_0 : decode cX12_qBracket 0 = .ok (.aload_n 0, 1) := by decide +kernel
theorem dX12_qBracket_1 : decode cX12_qBracket 1 = .ok (.getfield 355, 3) := by decide +kernel
theorem dX12_qBracket_4 : decode cX12_qBracket 4 = .ok (.iconst 1, 1) := by decide +kernel
theorem dX12_qBracket_5 : decode cX12_qBracket 5 = .ok (.isub, 1) := by decide +kernel
theorem dX12_qBracket_6 : decode cX12_qBracket 6 = .ok (.istore_n 1, 1) := by decide +kernel
theorem dX12_qBracket_7 : decode cX12_qBracket 7 = .ok (.iload_n 1, 1) := by decide +kernel
theorem dX12_qBracket_8 : decode cX12_qBracket 8 = .ok (.aload_n 0, 1) := by decide +kernel
theorem dX12_qBracket_9 : decode cX12_qBracket 9 = .ok (.getfield 361, 3) := by decide +kernel
theorem dX12_qBracket_12 : decode cX12_qBracket 12 = .ok (.if_icmp .lt 21, 3) := by decide +kernel
theorem dX12_qBracket_15 : decode cX12_qBracket 15 = .ok (.aload_n 0, 1) := by decide +kernel
theorem dX12_qBracket_16 : decode cX12_qBracket 16 = .ok (.getfield 251, 3) := by decide +kernel
theorem dX12_qBracket_19 : decode cX12_qBracket 19 = .ok (.iload_n 1, 1) := by decide +kernel
theorem dX12_qBracket_20 : decode cX12_qBracket 20 = .ok (.iaload, 1) := by decide +kernel
theorem dX12_qBracket_21 : decode cX12_qBracket 21 = .ok (.invokestatic 597, 3) := by decide +kernel
theorem dX12_qBracket_24 : decode cX12_qBracket 24 = .ok (.ifCond .ne 9, 3) := by decide +kernel
theorem dX12_qBracket_27 : decode cX12_qBracket 27 = .ok (.iinc 1 (-1), 3) := by decide +kernel
theorem dX12_qBracket_30 : decode cX12_qBracket 30 = .ok (.goto (-23), 3) := by decide +kernel
theorem dX12_qBracket_33 : decode cX12_qBracket 33 = .ok (.iload_n 1, 1) := by decide +kernel
theorem dX12_qBracket_34 : decode cX12_qBracket 34 = .ok (.aload_n 0, 1) := by decide +kernel
theorem dX12_qBracket_35 : decode cX12_qBracket 35 = .ok (.getfield 361, 3) := by decide +kernel
theorem dX12_qBracket_38 : decode cX12_qBracket 38 = .ok (.if_icmp .lt 12, 3) := by decide +kernel
theorem dX12_qBracket_41 : decode cX12_qBracket 41 = .ok (.aload_n 0, 1) := by decide +kernel
theorem dX12_qBracket_42 : decode cX12_qBracket 42 = .ok (.getfield 251, 3) := by decide +kernel
theorem dX12_qBracket_45 : decode cX12_qBracket 45 = .ok (.iload_n 1, 1) := by decide +kernel
theorem dX12_qBracket_46 : decode cX12_qBracket 46 = .ok (.iaload, 1) := by decide +kernel
theorem dX12_qBracket_47 : decode cX12_qBracket 47 = .ok (.goto 4, 3) := by decide +kernel
theorem dX12_qBracket_50 : decode cX12_qBracket 50 = .ok (.iconst (-1), 1) := by decide +kernel
theorem dX12_qBracket_51 : decode cX12_qBracket 51 = .ok (.ireturn, 1) := by decide +kernel
theorem dX12_asks_0 : decode cX12_asks 0 = .ok (.aload_n 0, 1) := by decide +kernel
theorem dX12_asks_1 : decode cX12_asks 1 = .ok (.getfield 263, 3) := by decide +kernel
theorem dX12_asks_4 : decode cX12_asks 4 = .ok (.ifCond .ne 20, 3) := by decide +kernel
theorem dX12_asks_7 : decode cX12_asks 7 = .ok (.aload_n 0, 1) := by decide +kernel
theorem dX12_asks_8 : decode cX12_asks 8 = .ok (.aload_n 1, 1) := by decide +kernel
theorem dX12_asks_9 : decode cX12_asks 9 = .ok (.invokevirtual 290, 3) := by decide +kernel
theorem dX12_asks_12 : decode cX12_asks 12 = .ok (.ifCond .ne 12, 3) := by decide +kernel
theorem dX12_asks_15 : decode cX12_asks 15 = .ok (.aload_n 0, 1) := by decide +kernel
theorem dX12_asks_16 : decode cX12_asks 16 = .ok (.iconst 1, 1) := by decide +kernel
theorem dX12_asks_17 : decode cX12_asks 17 = .ok (.aload_n 0, 1) := by decide +kernel
theorem dX12_asks_18 : decode cX12_asks 18 = .ok (.getfield 269, 3) := by decide +kernel
theorem dX12_asks_21 : decode cX12_asks 21 = .ok (.invokevirtual 293, 3) := by decide +kernel
theorem dX12_asks_24 : decode cX12_asks 24 = .ok (.return_, 1) := by decide +kernel
theorem dX12_canGive_0 : decode cX12_canGive 0 = .ok (.iconst 0, 1) := by decide +kernel
theorem dX12_canGive_1 : decode cX12_canGive 1 = .ok (.istore_n 1, 1) := by decide +kernel
theorem dX12_canGive_2 : decode cX12_canGive 2 = .ok (.iload_n 1, 1) := by decide +kernel
theorem dX12_canGive_3 : decode cX12_canGive 3 = .ok (.aload_n 0, 1) := by decide +kernel
theorem dX12_canGive_4 : decode cX12_canGive 4 = .ok (.invokevirtual 410, 3) := by decide +kernel
theorem dX12_canGive_7 : decode cX12_canGive 7 = .ok (.if_icmp .ge 23, 3) := by decide +kernel
theorem dX12_canGive_10 : decode cX12_canGive 10 = .ok (.aload_n 0, 1) := by decide +kernel
theorem dX12_canGive_11 : decode cX12_canGive 11 = .ok (.getfield 166, 3) := by decide +kernel
theorem dX12_canGive_14 : decode cX12_canGive 14 = .ok (.iload_n 1, 1) := by decide +kernel
theorem dX12_canGive_15 : decode cX12_canGive 15 = .ok (.aload_n 0, 1) := by decide +kernel
theorem dX12_canGive_16 : decode cX12_canGive 16 = .ok (.getfield 142, 3) := by decide +kernel
theorem dX12_canGive_19 : decode cX12_canGive 19 = .ok (.iconst 4, 1) := by decide +kernel
theorem dX12_canGive_20 : decode cX12_canGive 20 = .ok (.iload_n 1, 1) := by decide +kernel
theorem dX12_canGive_21 : decode cX12_canGive 21 = .ok (.iadd, 1) := by decide +kernel
theorem dX12_canGive_22 : decode cX12_canGive 22 = .ok (.iaload, 1) := by decide +kernel
theorem dX12_canGive_23 : decode cX12_canGive 23 = .ok (.iastore, 1) := by decide +kernel
theorem dX12_canGive_24 : decode cX12_canGive 24 = .ok (.iinc 1 1, 3) := by decide +kernel
theorem dX12_canGive_27 : decode cX12_canGive 27 = .ok (.goto (-25), 3) := by decide +kernel
theorem dX12_canGive_30 : decode cX12_canGive 30 = .ok (.iconst 0, 1) := by decide +kernel
theorem dX12_canGive_31 : decode cX12_canGive 31 = .ok (.istore_n 1, 1) := by decide +kernel
theorem dX12_canGive_32 : decode cX12_canGive 32 = .ok (.iload_n 1, 1) := by decide +kernel
theorem dX12_canGive_33 : decode cX12_canGive 33 = .ok (.aload_n 0, 1) := by decide +kernel
theorem dX12_canGive_34 : decode cX12_canGive 34 = .ok (.invokevirtual 419, 3) := by decide +kernel
theorem dX12_canGive_37 : decode cX12_canGive 37 = .ok (.if_icmp .ge 56, 3) := by decide +kernel
theorem dX12_canGive_40 : decode cX12_canGive 40 = .ok (.aload_n 0, 1) := by decide +kernel
theorem dX12_canGive_41 : decode cX12_canGive 41 = .ok (.getfield 148, 3) := by decide +kernel
theorem dX12_canGive_44 : decode cX12_canGive 44 = .ok (.iload_n 1, 1) := by decide +kernel
theorem dX12_canGive_45 : decode cX12_canGive 45 = .ok (.iaload, 1) := by decide +kernel
theorem dX12_canGive_46 : decode cX12_canGive 46 = .ok (.ifCond .ne 6, 3) := by decide +kernel
theorem dX12_canGive_49 : decode cX12_canGive 49 = .ok (.goto 38, 3) := by decide +kernel
theorem dX12_canGive_52 : decode cX12_canGive 52 = .ok (.aload_n 0, 1) := by decide +kernel
theorem dX12_canGive_53 : decode cX12_canGive 53 = .ok (.getfield 166, 3) := by decide +kernel
theorem dX12_canGive_56 : decode cX12_canGive 56 = .ok (.aload_n 0, 1) := by decide +kernel
theorem dX12_canGive_57 : decode cX12_canGive 57 = .ok (.getfield 148, 3) := by decide +kernel
theorem dX12_canGive_60 : decode cX12_canGive 60 = .ok (.iload_n 1, 1) := by decide +kernel
theorem dX12_canGive_61 : decode cX12_canGive 61 = .ok (.iaload, 1) := by decide +kernel
theorem dX12_canGive_62 : decode cX12_canGive 62 = .ok (.iconst 1, 1) := by decide +kernel
theorem dX12_canGive_63 : decode cX12_canGive 63 = .ok (.isub, 1) := by decide +kernel
theorem dX12_canGive_64 : decode cX12_canGive 64 = .ok (.dup2, 1) := by decide +kernel
theorem dX12_canGive_65 : decode cX12_canGive 65 = .ok (.iaload, 1) := by decide +kernel
theorem dX12_canGive_66 : decode cX12_canGive 66 = .ok (.iconst 1, 1) := by decide +kernel
theorem dX12_canGive_67 : decode cX12_canGive 67 = .ok (.isub, 1) := by decide +kernel
theorem dX12_canGive_68 : decode cX12_canGive 68 = .ok (.iastore, 1) := by decide +kernel
theorem dX12_canGive_69 : decode cX12_canGive 69 = .ok (.aload_n 0, 1) := by decide +kernel
theorem dX12_canGive_70 : decode cX12_canGive 70 = .ok (.getfield 166, 3) := by decide +kernel
theorem dX12_canGive_73 : decode cX12_canGive 73 = .ok (.aload_n 0, 1) := by decide +kernel
theorem dX12_canGive_74 : decode cX12_canGive 74 = .ok (.getfield 148, 3) := by decide +kernel
theorem dX12_canGive_77 : decode cX12_canGive 77 = .ok (.iload_n 1, 1) := by decide +kernel
theorem dX12_canGive_78 : decode cX12_canGive 78 = .ok (.iaload, 1) := by decide +kernel
theorem dX12_canGive_79 : decode cX12_canGive 79 = .ok (.iconst 1, 1) := by decide +kernel
theorem dX12_canGive_80 : decode cX12_canGive 80 = .ok (.isub, 1) := by decide +kernel
theorem dX12_canGive_81 : decode cX12_canGive 81 = .ok (.iaload, 1) := by decide +kernel
theorem dX12_canGive_82 : decode cX12_canGive 82 = .ok (.ifCond .ge 5, 3) := by decide +kernel
theorem dX12_canGive_85 : decode cX12_canGive 85 = .ok (.iconst 0, 1) := by decide +kernel
theorem dX12_canGive_86 : decode cX12_canGive 86 = .ok (.ireturn, 1) := by decide +kernel
theorem dX12_canGive_87 : decode cX12_canGive 87 = .ok (.iinc 1 1, 3) := by decide +kernel
theorem dX12_canGive_90 : decode cX12_canGive 90 = .ok (.goto (-58), 3) := by decide +kernel
theorem dX12_canGive_93 : decode cX12_canGive 93 = .ok (.iconst 1, 1) := by decide +kernel
theorem dX12_canGive_94 : decode cX12_canGive 94 = .ok (.ireturn, 1) := by decide +kernel
theorem dX12_answeredIn_0 : decode cX12_answeredIn 0 = .ok (.iconst 0, 1) := by decide +kernel
theorem dX12_answeredIn_1 : decode cX12_answeredIn 1 = .ok (.istore_n 1, 1) := by decide +kernel
theorem dX12_answeredIn_2 : decode cX12_answeredIn 2 = .ok (.iconst 0, 1) := by decide +kernel
theorem dX12_answeredIn_3 : decode cX12_answeredIn 3 = .ok (.istore_n 2, 1) := by decide +kernel
theorem dX12_answeredIn_4 : decode cX12_answeredIn 4 = .ok (.iload_n 2, 1) := by decide +kernel
theorem dX12_answeredIn_5 : decode cX12_answeredIn 5 = .ok (.aload_n 0, 1) := by decide +kernel
theorem dX12_answeredIn_6 : decode cX12_answeredIn 6 = .ok (.invokevirtual 419, 3) := by decide +kernel
theorem dX12_answeredIn_9 : decode cX12_answeredIn 9 = .ok (.if_icmp .ge 21, 3) := by decide +kernel
theorem dX12_answeredIn_12 : decode cX12_answeredIn 12 = .ok (.aload_n 0, 1) := by decide +kernel
theorem dX12_answeredIn_13 : decode cX12_answeredIn 13 = .ok (.getfield 148, 3) := by decide +kernel
theorem dX12_answeredIn_16 : decode cX12_answeredIn 16 = .ok (.iload_n 2, 1) := by decide +kernel
theorem dX12_answeredIn_17 : decode cX12_answeredIn 17 = .ok (.iaload, 1) := by decide +kernel
theorem dX12_answeredIn_18 : decode cX12_answeredIn 18 = .ok (.ifCond .le 6, 3) := by decide +kernel
theorem dX12_answeredIn_21 : decode cX12_answeredIn 21 = .ok (.iinc 1 1, 3) := by decide +kernel
theorem dX12_answeredIn_24 : decode cX12_answeredIn 24 = .ok (.iinc 2 1, 3) := by decide +kernel
theorem dX12_answeredIn_27 : decode cX12_answeredIn 27 = .ok (.goto (-23), 3) := by decide +kernel
theorem dX12_answeredIn_30 : decode cX12_answeredIn 30 = .ok (.iload_n 1, 1) := by decide +kernel
theorem dX12_answeredIn_31 : decode cX12_answeredIn 31 = .ok (.ireturn, 1) := by decide +kernel
theorem dX12_tell_0 : decode cX12_tell 0 = .ok (.iconst 0, 1) := by decide +kernel
theorem dX12_tell_1 : decode cX12_tell 1 = .ok (.istore_n 2, 1) := by decide +kernel
theorem dX12_tell_2 : decode cX12_tell 2 = .ok (.iconst 1, 1) := by decide +kernel
theorem dX12_tell_3 : decode cX12_tell 3 = .ok (.istore_n 3, 1) := by decide +kernel
theorem dX12_tell_4 : decode cX12_tell 4 = .ok (.iload_n 3, 1) := by decide +kernel
theorem dX12_tell_5 : decode cX12_tell 5 = .ok (.bipush 12, 2) := by decide +kernel
theorem dX12_tell_7 : decode cX12_tell 7 = .ok (.if_icmp .ge 24, 3) := by decide +kernel
theorem dX12_tell_10 : decode cX12_tell 10 = .ok (.aload_n 0, 1) := by decide +kernel
theorem dX12_tell_11 : decode cX12_tell 11 = .ok (.iload_n 3, 1) := by decide +kernel
theorem dX12_tell_12 : decode cX12_tell 12 = .ok (.invokevirtual 551, 3) := by decide +kernel
theorem dX12_tell_15 : decode cX12_tell 15 = .ok (.aload_n 0, 1) := by decide +kernel
theorem dX12_tell_16 : decode cX12_tell 16 = .ok (.iload_n 2, 1) := by decide +kernel
theorem dX12_tell_17 : decode cX12_tell 17 = .ok (.invokevirtual 551, 3) := by decide +kernel
theorem dX12_tell_20 : decode cX12_tell 20 = .ok (.if_icmp .ge 5, 3) := by decide +kernel
theorem dX12_tell_23 : decode cX12_tell 23 = .ok (.iload_n 3, 1) := by decide +kernel
theorem dX12_tell_24 : decode cX12_tell 24 = .ok (.istore_n 2, 1) := by decide +kernel
theorem dX12_tell_25 : decode cX12_tell 25 = .ok (.iinc 3 1, 3) := by decide +kernel
theorem dX12_tell_28 : decode cX12_tell 28 = .ok (.goto (-24), 3) := by decide +kernel
theorem dX12_tell_31 : decode cX12_tell 31 = .ok (.iload_n 1, 1) := by decide +kernel
theorem dX12_tell_32 : decode cX12_tell 32 = .ok (.ifCond .ne 7, 3) := by decide +kernel
theorem dX12_tell_35 : decode cX12_tell 35 = .ok (.iload_n 2, 1) := by decide +kernel
theorem dX12_tell_36 : decode cX12_tell 36 = .ok (.goto 17, 3) := by decide +kernel
theorem dX12_tell_39 : decode cX12_tell 39 = .ok (.iload_n 1, 1) := by decide +kernel
theorem dX12_tell_40 : decode cX12_tell 40 = .ok (.iconst 1, 1) := by decide +kernel
theorem dX12_tell_41 : decode cX12_tell 41 = .ok (.if_icmp .ne 11, 3) := by decide +kernel
theorem dX12_tell_44 : decode cX12_tell 44 = .ok (.aload_n 0, 1) := by decide +kernel
theorem dX12_tell_45 : decode cX12_tell 45 = .ok (.iload_n 2, 1) := by decide +kernel
theorem dX12_tell_46 : decode cX12_tell 46 = .ok (.invokevirtual 551, 3) := by decide +kernel
theorem dX12_tell_49 : decode cX12_tell 49 = .ok (.goto 4, 3) := by decide +kernel
theorem dX12_tell_52 : decode cX12_tell 52 = .ok (.iconst (-1), 1) := by decide +kernel
theorem dX12_tell_53 : decode cX12_tell 53 = .ok (.ireturn, 1) := by decide +kernel
theorem dX12_helper_0 : decode cX12_helper 0 = .ok (.aload_n 0, 1) := by decide +kernel
theorem dX12_helper_1 : decode cX12_helper 1 = .ok (.iload_n 1, 1) := by decide +kernel
theorem dX12_helper_2 : decode cX12_helper 2 = .ok (.invokevirtual 516, 3) := by decide +kernel
theorem dX12_helper_5 : decode cX12_helper 5 = .ok (.ifCond .ne 5, 3) := by decide +kernel
theorem dX12_helper_8 : decode cX12_helper 8 = .ok (.iconst (-1), 1) := by decide +kernel
theorem dX12_helper_9 : decode cX12_helper 9 = .ok (.ireturn, 1) := by decide +kernel
theorem dX12_helper_10 : decode cX12_helper 10 = .ok (.iconst 0, 1) := by decide +kernel
theorem dX12_helper_11 : decode cX12_helper 11 = .ok (.istore_n 3, 1) := by decide +kernel
theorem dX12_helper_12 : decode cX12_helper 12 = .ok (.iconst 0, 1) := by decide +kernel
theorem dX12_helper_13 : decode cX12_helper 13 = .ok (.istore 4, 2) := by decide +kernel
theorem dX12_helper_15 : decode cX12_helper 15 = .ok (.iload 4, 2) := by decide +kernel
