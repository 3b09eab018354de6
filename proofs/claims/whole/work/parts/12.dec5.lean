theorem dX12_helper_17 : decode cX12_helper 17 = .ok (.aload_n 0, 1) := by decide +kernel
theorem dX12_helper_18 : decode cX12_helper 18 = .ok (.invokevirtual 419, 3) := by decide +kernel
theorem dX12_helper_21 : decode cX12_helper 21 = .ok (.if_icmp .ge 28, 3) := by decide +kernel
theorem dX12_helper_24 : decode cX12_helper 24 = .ok (.aload_n 0, 1) := by decide +kernel
theorem dX12_helper_25 : decode cX12_helper 25 = .ok (.iload 4, 2) := by decide +kernel
theorem dX12_helper_27 : decode cX12_helper 27 = .ok (.invokevirtual 451, 3) := by decide +kernel
theorem dX12_helper_30 : decode cX12_helper 30 = .ok (.iload_n 1, 1) := by decide +kernel
theorem dX12_helper_31 : decode cX12_helper 31 = .ok (.iconst 1, 1) := by decide +kernel
theorem dX12_helper_32 : decode cX12_helper 32 = .ok (.iadd, 1) := by decide +kernel
theorem dX12_helper_33 : decode cX12_helper 33 = .ok (.if_icmp .ne 10, 3) := by decide +kernel
theorem dX12_helper_36 : decode cX12_helper 36 = .ok (.iload_n 3, 1) := by decide +kernel
theorem dX12_helper_37 : decode cX12_helper 37 = .ok (.iconst 1, 1) := by decide +kernel
theorem dX12_helper_38 : decode cX12_helper 38 = .ok (.iload 4, 2) := by decide +kernel
theorem dX12_helper_40 : decode cX12_helper 40 = .ok (.ishl, 1) := by decide +kernel
theorem dX12_helper_41 : decode cX12_helper 41 = .ok (.ior, 1) := by decide +kernel
theorem dX12_helper_42 : decode cX12_helper 42 = .ok (.istore_n 3, 1) := by decide +kernel
theorem dX12_helper_43 : decode cX12_helper 43 = .ok (.iinc 4 1, 3) := by decide +kernel
theorem dX12_helper_46 : decode cX12_helper 46 = .ok (.goto (-31), 3) := by decide +kernel
theorem dX12_helper_49 : decode cX12_helper 49 = .ok (.iload_n 2, 1) := by decide +kernel
theorem dX12_helper_50 : decode cX12_helper 50 = .ok (.i2l, 1) := by decide +kernel
theorem dX12_helper_51 : decode cX12_helper 51 = .ok (.lconst 0, 1) := by decide +kernel
theorem dX12_helper_52 : decode cX12_helper 52 = .ok (.ldc2_w 497, 3) := by decide +kernel
theorem dX12_helper_55 : decode cX12_helper 55 = .ok (.invokestatic 303, 3) := by decide +kernel
theorem dX12_helper_58 : decode cX12_helper 58 = .ok (.ifCond .eq 19, 3) := by decide +kernel
theorem dX12_helper_61 : decode cX12_helper 61 = .ok (.aload_n 0, 1) := by decide +kernel
theorem dX12_helper_62 : decode cX12_helper 62 = .ok (.getfield 127, 3) := by decide +kernel
theorem dX12_helper_65 : decode cX12_helper 65 = .ok (.bipush 9, 2) := by decide +kernel
theorem dX12_helper_67 : decode cX12_helper 67 = .ok (.iconst 3, 1) := by decide +kernel
theorem dX12_helper_68 : decode cX12_helper 68 = .ok (.iload_n 1, 1) := by decide +kernel
theorem dX12_helper_69 : decode cX12_helper 69 = .ok (.imul, 1) := by decide +kernel
theorem dX12_helper_70 : decode cX12_helper 70 = .ok (.iadd, 1) := by decide +kernel
theorem dX12_helper_71 : decode cX12_helper 71 = .ok (.iload_n 2, 1) := by decide +kernel
theorem dX12_helper_72 : decode cX12_helper 72 = .ok (.iadd, 1) := by decide +kernel
theorem dX12_helper_73 : decode cX12_helper 73 = .ok (.iaload, 1) := by decide +kernel
theorem dX12_helper_74 : decode cX12_helper 74 = .ok (.goto 26, 3) := by decide +kernel
theorem dX12_helper_77 : decode cX12_helper 77 = .ok (.iload_n 2, 1) := by decide +kernel
theorem dX12_helper_78 : decode cX12_helper 78 = .ok (.iconst 3, 1) := by decide +kernel
theorem dX12_helper_79 : decode cX12_helper 79 = .ok (.if_icmp .ne 11, 3) := by decide +kernel
theorem dX12_helper_82 : decode cX12_helper 82 = .ok (.aload_n 0, 1) := by decide +kernel
theorem dX12_helper_83 : decode cX12_helper 83 = .ok (.iload_n 1, 1) := by decide +kernel
theorem dX12_helper_84 : decode cX12_helper 84 = .ok (.invokevirtual 458, 3) := by decide +kernel
theorem dX12_helper_87 : decode cX12_helper 87 = .ok (.goto 13, 3) := by decide +kernel
theorem dX12_helper_90 : decode cX12_helper 90 = .ok (.iload_n 2, 1) := by decide +kernel
theorem dX12_helper_91 : decode cX12_helper 91 = .ok (.iconst 4, 1) := by decide +kernel
theorem dX12_helper_92 : decode cX12_helper 92 = .ok (.if_icmp .ne 7, 3) := by decide +kernel
theorem dX12_helper_95 : decode cX12_helper 95 = .ok (.iload_n 3, 1) := by decide +kernel
theorem dX12_helper_96 : decode cX12_helper 96 = .ok (.goto 4, 3) := by decide +kernel
theorem dX12_helper_99 : decode cX12_helper 99 = .ok (.iconst (-1), 1) := by decide +kernel
theorem dX12_helper_100 : decode cX12_helper 100 = .ok (.ireturn, 1) := by decide +kernel
theorem dX12_chance_0 : decode cX12_chance 0 = .ok (.aload_n 0, 1) := by decide +kernel
theorem dX12_chance_1 : decode cX12_chance 1 = .ok (.iload_n 1, 1) := by decide +kernel
theorem dX12_chance_2 : decode cX12_chance 2 = .ok (.iconst 1, 1) := by decide +kernel
theorem dX12_chance_3 : decode cX12_chance 3 = .ok (.bipush 50, 2) := by decide +kernel
theorem dX12_chance_5 : decode cX12_chance 5 = .ok (.invokevirtual 524, 3) := by decide +kernel
theorem dX12_chance_8 : decode cX12_chance 8 = .ok (.ifCond .ne 9, 3) := by decide +kernel
theorem dX12_chance_11 : decode cX12_chance 11 = .ok (.aload_n 0, 1) := by decide +kernel
theorem dX12_chance_12 : decode cX12_chance 12 = .ok (.iconst 3, 1) := by decide +kernel
theorem dX12_chance_13 : decode cX12_chance 13 = .ok (.invokevirtual 560, 3) := by decide +kernel
theorem dX12_chance_16 : decode cX12_chance 16 = .ok (.ireturn, 1) := by decide +kernel
theorem dX12_chance_17 : decode cX12_chance 17 = .ok (.aload_n 0, 1) := by decide +kernel
theorem dX12_chance_18 : decode cX12_chance 18 = .ok (.invokevirtual 575, 3) := by decide +kernel
theorem dX12_chance_21 : decode cX12_chance 21 = .ok (.iconst 0, 1) := by decide +kernel
theorem dX12_chance_22 : decode cX12_chance 22 = .ok (.istore_n 2, 1) := by decide +kernel
theorem dX12_chance_23 : decode cX12_chance 23 = .ok (.iconst 0, 1) := by decide +kernel
theorem dX12_chance_24 : decode cX12_chance 24 = .ok (.istore_n 3, 1) := by decide +kernel
theorem dX12_chance_25 : decode cX12_chance 25 = .ok (.iload_n 3, 1) := by decide +kernel
theorem dX12_chance_26 : decode cX12_chance 26 = .ok (.iload_n 1, 1) := by decide +kernel
theorem dX12_chance_27 : decode cX12_chance 27 = .ok (.if_icmp .ge 60, 3) := by decide +kernel
theorem dX12_chance_30 : decode cX12_chance 30 = .ok (.iconst 0, 1) := by decide +kernel
theorem dX12_chance_31 : decode cX12_chance 31 = .ok (.istore 4, 2) := by decide +kernel
theorem dX12_chance_33 : decode cX12_chance 33 = .ok (.iload 4, 2) := by decide +kernel
theorem dX12_chance_35 : decode cX12_chance 35 = .ok (.aload_n 0, 1) := by decide +kernel
theorem dX12_chance_36 : decode cX12_chance 36 = .ok (.invokevirtual 422, 3) := by decide +kernel
theorem dX12_chance_39 : decode cX12_chance 39 = .ok (.if_icmp .ge 37, 3) := by decide +kernel
theorem dX12_chance_42 : decode cX12_chance 42 = .ok (.aload_n 0, 1) := by decide +kernel
theorem dX12_chance_43 : decode cX12_chance 43 = .ok (.bipush 100, 2) := by decide +kernel
theorem dX12_chance_45 : decode cX12_chance 45 = .ok (.invokevirtual 591, 3) := by decide +kernel
theorem dX12_chance_48 : decode cX12_chance 48 = .ok (.aload_n 0, 1) := by decide +kernel
theorem dX12_chance_49 : decode cX12_chance 49 = .ok (.getfield 130, 3) := by decide +kernel
theorem dX12_chance_52 : decode cX12_chance 52 = .ok (.iconst 3, 1) := by decide +kernel
theorem dX12_chance_53 : decode cX12_chance 53 = .ok (.iaload, 1) := by decide +kernel
theorem dX12_chance_54 : decode cX12_chance 54 = .ok (.if_icmp .ge 16, 3) := by decide +kernel
theorem dX12_chance_57 : decode cX12_chance 57 = .ok (.aload_n 0, 1) := by decide +kernel
theorem dX12_chance_58 : decode cX12_chance 58 = .ok (.getfield 142, 3) := by decide +kernel
theorem dX12_chance_61 : decode cX12_chance 61 = .ok (.iconst 1, 1) := by decide +kernel
theorem dX12_chance_62 : decode cX12_chance 62 = .ok (.iload 4, 2) := by decide +kernel
theorem dX12_chance_64 : decode cX12_chance 64 = .ok (.iadd, 1) := by decide +kernel
theorem dX12_chance_65 : decode cX12_chance 65 = .ok (.iconst 0, 1) := by decide +kernel
theorem dX12_chance_66 : decode cX12_chance 66 = .ok (.iastore, 1) := by decide +kernel
theorem dX12_chance_67 : decode cX12_chance 67 = .ok (.iinc 2 1, 3) := by decide +kernel
theorem dX12_chance_70 : decode cX12_chance 70 = .ok (.iinc 4 1, 3) := by decide +kernel
theorem dX12_chance_73 : decode cX12_chance 73 = .ok (.goto (-40), 3) := by decide +kernel
theorem dX12_chance_76 : decode cX12_chance 76 = .ok (.aload_n 0, 1) := by decide +kernel
theorem dX12_chance_77 : decode cX12_chance 77 = .ok (.invokevirtual 530, 3) := by decide +kernel
theorem dX12_chance_80 : decode cX12_chance 80 = .ok (.pop, 1) := by decide +kernel
theorem dX12_chance_81 : decode cX12_chance 81 = .ok (.iinc 3 1, 3) := by decide +kernel
theorem dX12_chance_84 : decode cX12_chance 84 = .ok (.goto (-59), 3) := by decide +kernel
theorem dX12_chance_87 : decode cX12_chance 87 = .ok (.iload_n 2, 1) := by decide +kernel
theorem dX12_chance_88 : decode cX12_chance 88 = .ok (.ireturn, 1) := by decide +kernel
theorem dX12_isHelper_0 : decode cX12_isHelper 0 = .ok (.iload_n 1, 1) := by decide +kernel
theorem dX12_isHelper_1 : decode cX12_isHelper 1 = .ok (.i2l, 1) := by decide +kernel
theorem dX12_isHelper_2 : decode cX12_isHelper 2 = .ok (.lconst 0, 1) := by decide +kernel
theorem dX12_isHelper_3 : decode cX12_isHelper 3 = .ok (.aload_n 0, 1) := by decide +kernel
theorem dX12_isHelper_4 : decode cX12_isHelper 4 = .ok (.invokevirtual 422, 3) := by decide +kernel
theorem dX12_isHelper_7 : decode cX12_isHelper 7 = .ok (.iconst 1, 1) := by decide +kernel
theorem dX12_isHelper_8 : decode cX12_isHelper 8 = .ok (.isub, 1) := by decide +kernel
theorem dX12_isHelper_9 : decode cX12_isHelper 9 = .ok (.i2l, 1) := by decide +kernel
theorem dX12_isHelper_10 : decode cX12_isHelper 10 = .ok (.invokestatic 303, 3) := by decide +kernel
theorem dX12_isHelper_13 : decode cX12_isHelper 13 = .ok (.ireturn, 1) := by decide +kernel
theorem dX12_isHere_0 : decode cX12_isHere 0 = .ok (.aload_n 0, 1) := by decide +kernel
theorem dX12_isHere_1 : decode cX12_isHere 1 = .ok (.getfield 263, 3) := by decide +kernel
theorem dX12_isHere_4 : decode cX12_isHere 4 = .ok (.ifCond .ne 24, 3) := by decide +kernel
theorem dX12_isHere_7 : decode cX12_isHere 7 = .ok (.aload_n 0, 1) := by decide +kernel
theorem dX12_isHere_8 : decode cX12_isHere 8 = .ok (.invokevirtual 275, 3) := by decide +kernel
theorem dX12_isHere_11 : decode cX12_isHere 11 = .ok (.invokestatic 279, 3) := by decide +kernel
theorem dX12_isHere_14 : decode cX12_isHere 14 = .ok (.ifCond .eq 14, 3) := by decide +kernel
theorem dX12_isHere_17 : decode cX12_isHere 17 = .ok (.aload_n 0, 1) := by decide +kernel
theorem dX12_isHere_18 : decode cX12_isHere 18 = .ok (.getfield 269, 3) := by decide +kernel
theorem dX12_isHere_21 : decode cX12_isHere 21 = .ok (.aload_n 0, 1) := by decide +kernel
theorem dX12_isHere_22 : decode cX12_isHere 22 = .ok (.getfield 283, 3) := by decide +kernel
theorem dX12_isHere_25 : decode cX12_isHere 25 = .ok (.if_icmp .ne 5, 3) := by decide +kernel
theorem dX12_isHere_28 : decode cX12_isHere 28 = .ok (.iconst 0, 1) := by decide +kernel
theorem dX12_isHere_29 : decode cX12_isHere 29 = .ok (.ireturn, 1) := by decide +kernel
theorem dX12_isHere_30 : decode cX12_isHere 30 = .ok (.aload_n 0, 1) := by decide +kernel
theorem dX12_isHere_31 : decode cX12_isHere 31 = .ok (.getfield 269, 3) := by decide +kernel
theorem dX12_isHere_34 : decode cX12_isHere 34 = .ok (.istore_n 2, 1) := by decide +kernel
theorem dX12_isHere_35 : decode cX12_isHere 35 = .ok (.iload_n 2, 1) := by decide +kernel
theorem dX12_isHere_36 : decode cX12_isHere 36 = .ok (.aload_n 0, 1) := by decide +kernel
theorem dX12_isHere_37 : decode cX12_isHere 37 = .ok (.getfield 272, 3) := by decide +kernel
theorem dX12_isHere_40 : decode cX12_isHere 40 = .ok (.if_icmp .ge 21, 3) := by decide +kernel
theorem dX12_isHere_43 : decode cX12_isHere 43 = .ok (.aload_n 0, 1) := by decide +kernel
theorem dX12_isHere_44 : decode cX12_isHere 44 = .ok (.getfield 7, 3) := by decide +kernel
theorem dX12_isHere_47 : decode cX12_isHere 47 = .ok (.iload_n 2, 1) := by decide +kernel
theorem dX12_isHere_48 : decode cX12_isHere 48 = .ok (.iaload, 1) := by decide +kernel
theorem dX12_isHere_49 : decode cX12_isHere 49 = .ok (.invokestatic 279, 3) := by decide +kernel
theorem dX12_isHere_52 : decode cX12_isHere 52 = .ok (.ifCond .eq 9, 3) := by decide +kernel
theorem dX12_isHere_55 : decode cX12_isHere 55 = .ok (.iinc 2 1, 3) := by decide +kernel
theorem dX12_isHere_58 : decode cX12_isHere 58 = .ok (.goto (-23), 3) := by decide +kernel
theorem dX12_isHere_61 : decode cX12_isHere 61 = .ok (.iload_n 2, 1) := by decide +kernel
theorem dX12_isHere_62 : decode cX12_isHere 62 = .ok (.aload_n 0, 1) := by decide +kernel
theorem dX12_isHere_63 : decode cX12_isHere 63 = .ok (.getfield 269, 3) := by decide +kernel
theorem dX12_isHere_66 : decode cX12_isHere 66 = .ok (.isub, 1) := by decide +kernel
theorem dX12_isHere_67 : decode cX12_isHere 67 = .ok (.aload_n 1, 1) := by decide +kernel
theorem dX12_isHere_68 : decode cX12_isHere 68 = .ok (.arraylength, 1) := by decide +kernel
theorem dX12_isHere_69 : decode cX12_isHere 69 = .ok (.if_icmp .eq 5, 3) := by decide +kernel
theorem dX12_isHere_72 : decode cX12_isHere 72 = .ok (.iconst 0, 1) := by decide +kernel
theorem dX12_isHere_73 : decode cX12_isHere 73 = .ok (.ireturn, 1) := by decide +kernel
theorem dX12_isHere_74 : decode cX12_isHere 74 = .ok (.iconst 0, 1) := by decide +kernel
theorem dX12_isHere_75 : decode cX12_isHere 75 = .ok (.istore_n 3, 1) := by decide +kernel
theorem dX12_isHere_76 : decode cX12_isHere 76 = .ok (.iload_n 3, 1) := by decide +kernel
theorem dX12_isHere_77 : decode cX12_isHere 77 = .ok (.aload_n 1, 1) := by decide +kernel
theorem dX12_isHere_78 : decode cX12_isHere 78 = .ok (.arraylength, 1) := by decide +kernel
theorem dX12_isHere_79 : decode cX12_isHere 79 = .ok (.if_icmp .ge 28, 3) := by decide +kernel
theorem dX12_isHere_82 : decode cX12_isHere 82 = .ok (.aload_n 0, 1) := by decide +kernel
theorem dX12_isHere_83 : decode cX12_isHere 83 = .ok (.getfield 7, 3) := by decide +kernel
theorem dX12_isHere_86 : decode cX12_isHere 86 = .ok (.aload_n 0, 1) := by decide +kernel
theorem dX12_isHere_87 : decode cX12_isHere 87 = .ok (.getfield 269, 3) := by decide +kernel
theorem dX12_isHere_90 : decode cX12_isHere 90 = .ok (.iload_n 3, 1) := by decide +kernel
theorem dX12_isHere_91 : decode cX12_isHere 91 = .ok (.iadd, 1) := by decide +kernel
theorem dX12_isHere_92 : decode cX12_isHere 92 = .ok (.iaload, 1) := by decide +kernel
theorem dX12_isHere_93 : decode cX12_isHere 93 = .ok (.aload_n 1, 1) := by decide +kernel
theorem dX12_isHere_94 : decode cX12_isHere 94 = .ok (.iload_n 3, 1) := by decide +kernel
theorem dX12_isHere_95 : decode cX12_isHere 95 = .ok (.caload, 1) := by decide +kernel
theorem dX12_isHere_96 : decode cX12_isHere 96 = .ok (.if_icmp .eq 5, 3) := by decide +kernel
theorem dX12_isHere_99 : decode cX12_isHere 99 = .ok (.iconst 0, 1) := by decide +kernel
theorem dX12_isHere_100 : decode cX12_isHere 100 = .ok (.ireturn, 1) := by decide +kernel
theorem dX12_isHere_101 : decode cX12_isHere 101 = .ok (.iinc 3 1, 3) := by decide +kernel
theorem dX12_isHere_104 : decode cX12_isHere 104 = .ok (.goto (-28), 3) := by decide +kernel
theorem dX12_isHere_107 : decode cX12_isHere 107 = .ok (.iconst 1, 1) := by decide +kernel
theorem dX12_isHere_108 : decode cX12_isHere 108 = .ok (.ireturn, 1) := by decide +kernel
theorem dX12_sharedIn_0 : decode cX12_sharedIn 0 = .ok (.iconst 0, 1) := by decide +kernel
theorem dX12_sharedIn_1 : decode cX12_sharedIn 1 = .ok (.istore_n 1, 1) := by decide +kernel
theorem dX12_sharedIn_2 : decode cX12_sharedIn 2 = .ok (.iconst 0, 1) := by decide +kernel
theorem dX12_sharedIn_3 : decode cX12_sharedIn 3 = .ok (.istore_n 2, 1) := by decide +kernel
theorem dX12_sharedIn_4 : decode cX12_sharedIn 4 = .ok (.iload_n 2, 1) := by decide +kernel
theorem dX12_sharedIn_5 : decode cX12_sharedIn 5 = .ok (.aload_n 0, 1) := by decide +kernel
theorem dX12_sharedIn_6 : decode cX12_sharedIn 6 = .ok (.invokevirtual 419, 3) := by decide +kernel
theorem dX12_sharedIn_9 : decode cX12_sharedIn 9 = .ok (.if_icmp .ge 46, 3) := by decide +kernel
theorem dX12_sharedIn_12 : decode cX12_sharedIn 12 = .ok (.aload_n 0, 1) := by decide +kernel
theorem dX12_sharedIn_13 : decode cX12_sharedIn 13 = .ok (.getfield 148, 3) := by decide +kernel
theorem dX12_sharedIn_16 : decode cX12_sharedIn 16 = .ok (.iload_n 2, 1) := by decide +kernel
theorem dX12_sharedIn_17 : decode cX12_sharedIn 17 = .ok (.iaload, 1) := by decide +kernel
theorem dX12_sharedIn_18 : decode cX12_sharedIn 18 = .ok (.ifCond .le 31, 3) := by decide +kernel
theorem dX12_sharedIn_21 : decode cX12_sharedIn 21 = .ok (.iload_n 1, 1) := by decide +kernel
theorem dX12_sharedIn_22 : decode cX12_sharedIn 22 = .ok (.aload_n 0, 1) := by decide +kernel
theorem dX12_sharedIn_23 : decode cX12_sharedIn 23 = .ok (.getfield 112, 3) := by decide +kernel
theorem dX12_sharedIn_26 : decode cX12_sharedIn 26 = .ok (.bipush 25, 2) := by decide +kernel
theorem dX12_sharedIn_28 : decode cX12_sharedIn 28 = .ok (.iconst 3, 1) := by decide +kernel
theorem dX12_sharedIn_29 : decode cX12_sharedIn 29 = .ok (.iload_n 2, 1) := by decide +kernel
theorem dX12_sharedIn_30 : decode cX12_sharedIn 30 = .ok (.imul, 1) := by decide +kernel
theorem dX12_sharedIn_31 : decode cX12_sharedIn 31 = .ok (.iadd, 1) := by decide +kernel
theorem dX12_sharedIn_32 : decode cX12_sharedIn 32 = .ok (.iaload, 1) := by decide +kernel
theorem dX12_sharedIn_33 : decode cX12_sharedIn 33 = .ok (.aload_n 0, 1) := by decide +kernel
theorem dX12_sharedIn_34 : decode cX12_sharedIn 34 = .ok (.iload_n 2, 1) := by decide +kernel
theorem dX12_sharedIn_35 : decode cX12_sharedIn 35 = .ok (.aload_n 0, 1) := by decide +kernel
theorem dX12_sharedIn_36 : decode cX12_sharedIn 36 = .ok (.getfield 148, 3) := by decide +kernel
theorem dX12_sharedIn_39 : decode cX12_sharedIn 39 = .ok (.iload_n 2, 1) := by decide +kernel
theorem dX12_sharedIn_40 : decode cX12_sharedIn 40 = .ok (.iaload, 1) := by decide +kernel
theorem dX12_sharedIn_41 : decode cX12_sharedIn 41 = .ok (.iconst 1, 1) := by decide +kernel
theorem dX12_sharedIn_42 : decode cX12_sharedIn 42 = .ok (.isub, 1) := by decide +kernel
theorem dX12_sharedIn_43 : decode cX12_sharedIn 43 = .ok (.invokevirtual 425, 3) := by decide +kernel
theorem dX12_sharedIn_46 : decode cX12_sharedIn 46 = .ok (.imul, 1) := by decide +kernel
theorem dX12_sharedIn_47 : decode cX12_sharedIn 47 = .ok (.iadd, 1) := by decide +kernel
theorem dX12_sharedIn_48 : decode cX12_sharedIn 48 = .ok (.istore_n 1, 1) := by decide +kernel
theorem dX12_sharedIn_49 : decode cX12_sharedIn 49 = .ok (.iinc 2 1, 3) := by decide +kernel
theorem dX12_sharedIn_52 : decode cX12_sharedIn 52 = .ok (.goto (-48), 3) := by decide +kernel
theorem dX12_sharedIn_55 : decode cX12_sharedIn 55 = .ok (.iload_n 1, 1) := by decide +kernel
theorem dX12_sharedIn_56 : decode cX12_sharedIn 56 = .ok (.ireturn, 1) := by decide +kernel
theorem dX12_look_0 : decode cX12_look 0 = .ok (.aload_n 0, 1) := by decide +kernel
theorem dX12_look_1 : decode cX12_look 1 = .ok (.getfield 269, 3) := by decide +kernel
theorem dX12_look_4 : decode cX12_look 4 = .ok (.aload_n 0, 1) := by decide +kernel
theorem dX12_look_5 : decode cX12_look 5 = .ok (.getfield 272, 3) := by decide +kernel
theorem dX12_look_8 : decode cX12_look 8 = .ok (.if_icmp .ge 44, 3) := by decide +kernel
theorem dX12_look_11 : decode cX12_look 11 = .ok (.aload_n 0, 1) := by decide +kernel
theorem dX12_look_12 : decode cX12_look 12 = .ok (.getfield 7, 3) := by decide +kernel
theorem dX12_look_15 : decode cX12_look 15 = .ok (.aload_n 0, 1) := by decide +kernel
theorem dX12_look_16 : decode cX12_look 16 = .ok (.getfield 269, 3) := by decide +kernel
theorem dX12_look_19 : decode cX12_look 19 = .ok (.iaload, 1) := by decide +kernel
theorem dX12_look_20 : decode cX12_look 20 = .ok (.bipush 10, 2) := by decide +kernel
theorem dX12_look_22 : decode cX12_look 22 = .ok (.if_icmp .eq 17, 3) := by decide +kernel
theorem dX12_look_25 : decode cX12_look 25 = .ok (.aload_n 0, 1) := by decide +kernel
theorem dX12_look_26 : decode cX12_look 26 = .ok (.getfield 7, 3) := by decide +kernel
theorem dX12_look_29 : decode cX12_look 29 = .ok (.aload_n 0, 1) := by decide +kernel
theorem dX12_look_30 : decode cX12_look 30 = .ok (.getfield 269, 3) := by decide +kernel
theorem dX12_look_33 : decode cX12_look 33 = .ok (.iaload, 1) := by decide +kernel
theorem dX12_look_34 : decode cX12_look 34 = .ok (.bipush 32, 2) := by decide +kernel
theorem dX12_look_36 : decode cX12_look 36 = .ok (.if_icmp .ne 16, 3) := by decide +kernel
theorem dX12_look_39 : decode cX12_look 39 = .ok (.aload_n 0, 1) := by decide +kernel
theorem dX12_look_40 : decode cX12_look 40 = .ok (.dup, 1) := by decide +kernel
theorem dX12_look_41 : decode cX12_look 41 = .ok (.getfield 269, 3) := by decide +kernel
theorem dX12_look_44 : decode cX12_look 44 = .ok (.iconst 1, 1) := by decide +kernel
theorem dX12_look_45 : decode cX12_look 45 = .ok (.iadd, 1) := by decide +kernel
theorem dX12_look_46 : decode cX12_look 46 = .ok (.putfield 269, 3) := by decide +kernel
theorem dX12_look_49 : decode cX12_look 49 = .ok (.goto (-49), 3) := by decide +kernel
theorem dX12_look_52 : decode cX12_look 52 = .ok (.aload_n 0, 1) := by decide +kernel
theorem dX12_look_53 : decode cX12_look 53 = .ok (.getfield 269, 3) := by decide +kernel
theorem dX12_look_56 : decode cX12_look 56 = .ok (.aload_n 0, 1) := by decide +kernel
theorem dX12_look_57 : decode cX12_look 57 = .ok (.getfield 272, 3) := by decide +kernel
theorem dX12_look_60 : decode cX12_look 60 = .ok (.if_icmp .ge 15, 3) := by decide +kernel
theorem dX12_look_63 : decode cX12_look 63 = .ok (.aload_n 0, 1) := by decide +kernel
theorem dX12_look_64 : decode cX12_look 64 = .ok (.getfield 7, 3) := by decide +kernel
theorem dX12_look_67 : decode cX12_look 67 = .ok (.aload_n 0, 1) := by decide +kernel
theorem dX12_look_68 : decode cX12_look 68 = .ok (.getfield 269, 3) := by decide +kernel
theorem dX12_look_71 : decode cX12_look 71 = .ok (.iaload, 1) := by decide +kernel
theorem dX12_look_72 : decode cX12_look 72 = .ok (.goto 4, 3) := by decide +kernel
theorem dX12_look_75 : decode cX12_look 75 = .ok (.iconst (-1), 1) := by decide +kernel
theorem dX12_look_76 : decode cX12_look 76 = .ok (.ireturn, 1) := by decide +kernel
theorem dX12_refuses_0 : decode cX12_refuses 0 = .ok (.aload_n 0, 1) := by decide +kernel
theorem dX12_refuses_1 : decode cX12_refuses 1 = .ok (.getfield 17, 3) := by decide +kernel
theorem dX12_refuses_4 : decode cX12_refuses 4 = .ok (.iload_n 1, 1) := by decide +kernel
theorem dX12_refuses_5 : decode cX12_refuses 5 = .ok (.dup2, 1) := by decide +kernel
theorem dX12_refuses_6 : decode cX12_refuses 6 = .ok (.iaload, 1) := by decide +kernel
theorem dX12_refuses_7 : decode cX12_refuses 7 = .ok (.iconst 1, 1) := by decide +kernel
theorem dX12_refuses_8 : decode cX12_refuses 8 = .ok (.iadd, 1) := by decide +kernel
theorem dX12_refuses_9 : decode cX12_refuses 9 = .ok (.iastore, 1) := by decide +kernel
theorem dX12_refuses_10 : decode cX12_refuses 10 = .ok (.iconst (-1), 1) := by decide +kernel
theorem dX12_refuses_11 : decode cX12_refuses 11 = .ok (.ireturn, 1) := by decide +kernel
theorem dX12_helperTold_0 : decode cX12_helperTold 0 = .ok (.aload_n 0, 1) := by decide +kernel
theorem dX12_helperTold_1 : decode cX12_helperTold 1 = .ok (.iconst 2, 1) := by decide +kernel
theorem dX12_helperTold_2 : decode cX12_helperTold 2 = .ok (.iconst 3, 1) := by decide +kernel
theorem dX12_helperTold_3 : decode cX12_helperTold 3 = .ok (.iload_n 1, 1) := by decide +kernel
theorem dX12_helperTold_4 : decode cX12_helperTold 4 = .ok (.invokevirtual 330, 3) := by decide +kernel
theorem dX12_helperTold_7 : decode cX12_helperTold 7 = .ok (.ifCond .eq 4, 3) := by decide +kernel
theorem dX12_helperTold_10 : decode cX12_helperTold 10 = .ok (.return_, 1) := by decide +kernel
theorem dX12_helperTold_11 : decode cX12_helperTold 11 = .ok (.aload_n 0, 1) := by decide +kernel
theorem dX12_helperTold_12 : decode cX12_helperTold 12 = .ok (.invokevirtual 334, 3) := by decide +kernel
theorem dX12_helperTold_15 : decode cX12_helperTold 15 = .ok (.lstore_n 2, 1) := by decide +kernel
theorem dX12_helperTold_16 : decode cX12_helperTold 16 = .ok (.aload_n 0, 1) := by decide +kernel
theorem dX12_helperTold_17 : decode cX12_helperTold 17 = .ok (.aload_n 0, 1) := by decide +kernel
theorem dX12_helperTold_18 : decode cX12_helperTold 18 = .ok (.getfield 51, 3) := by decide +kernel
theorem dX12_helperTold_21 : decode cX12_helperTold 21 = .ok (.invokevirtual 337, 3) := by decide +kernel
theorem dX12_helperTold_24 : decode cX12_helperTold 24 = .ok (.aload_n 0, 1) := by decide +kernel
theorem dX12_helperTold_25 : decode cX12_helperTold 25 = .ok (.iconst 1, 1) := by decide +kernel
theorem dX12_helperTold_26 : decode cX12_helperTold 26 = .ok (.sipush 240, 3) := by decide +kernel
theorem dX12_helperTold_29 : decode cX12_helperTold 29 = .ok (.invokevirtual 341, 3) := by decide +kernel
theorem dX12_helperTold_32 : decode cX12_helperTold 32 = .ok (.istore 4, 2) := by decide +kernel
theorem dX12_helperTold_34 : decode cX12_helperTold 34 = .ok (.aload_n 0, 1) := by decide +kernel
theorem dX12_helperTold_35 : decode cX12_helperTold 35 = .ok (.aload_n 0, 1) := by decide +kernel
theorem dX12_helperTold_36 : decode cX12_helperTold 36 = .ok (.getfield 54, 3) := by decide +kernel
theorem dX12_helperTold_39 : decode cX12_helperTold 39 = .ok (.invokevirtual 337, 3) := by decide +kernel
theorem dX12_helperTold_42 : decode cX12_helperTold 42 = .ok (.aload_n 0, 1) := by decide +kernel
theorem dX12_helperTold_43 : decode cX12_helperTold 43 = .ok (.iconst 0, 1) := by decide +kernel
theorem dX12_helperTold_44 : decode cX12_helperTold 44 = .ok (.bipush 9, 2) := by decide +kernel
theorem dX12_helperTold_46 : decode cX12_helperTold 46 = .ok (.invokevirtual 341, 3) := by decide +kernel
theorem dX12_helperTold_49 : decode cX12_helperTold 49 = .ok (.istore 5, 2) := by decide +kernel
theorem dX12_helperTold_51 : decode cX12_helperTold 51 = .ok (.aload_n 0, 1) := by decide +kernel
theorem dX12_helperTold_52 : decode cX12_helperTold 52 = .ok (.aload_n 0, 1) := by decide +kernel
theorem dX12_helperTold_53 : decode cX12_helperTold 53 = .ok (.getfield 57, 3) := by decide +kernel
theorem dX12_helperTold_56 : decode cX12_helperTold 56 = .ok (.invokevirtual 337, 3) := by decide +kernel
theorem dX12_helperTold_59 : decode cX12_helperTold 59 = .ok (.aload_n 0, 1) := by decide +kernel
theorem dX12_helperTold_60 : decode cX12_helperTold 60 = .ok (.iconst 0, 1) := by decide +kernel
theorem dX12_helperTold_61 : decode cX12_helperTold 61 = .ok (.bipush 10, 2) := by decide +kernel
theorem dX12_helperTold_63 : decode cX12_helperTold 63 = .ok (.invokevirtual 341, 3) := by decide +kernel
theorem dX12_helperTold_66 : decode cX12_helperTold 66 = .ok (.istore 6, 2) := by decide +kernel
theorem dX12_helperTold_68 : decode cX12_helperTold 68 = .ok (.aload_n 0, 1) := by decide +kernel
theorem dX12_helperTold_69 : decode cX12_helperTold 69 = .ok (.getfield 263, 3) := by decide +kernel
theorem dX12_helperTold_72 : decode cX12_helperTold 72 = .ok (.ifCond .eq 4, 3) := by decide +kernel
theorem dX12_helperTold_75 : decode cX12_helperTold 75 = .ok (.return_, 1) := by decide +kernel
theorem dX12_helperTold_76 : decode cX12_helperTold 76 = .ok (.iconst 3, 1) := by decide +kernel
theorem dX12_helperTold_77 : decode cX12_helperTold 77 = .ok (.aload_n 0, 1) := by decide +kernel
theorem dX12_helperTold_78 : decode cX12_helperTold 78 = .ok (.iconst 2, 1) := by decide +kernel
theorem dX12_helperTold_79 : decode cX12_helperTold 79 = .ok (.lload_n 2, 1) := by decide +kernel
theorem dX12_helperTold_80 : decode cX12_helperTold 80 = .ok (.invokevirtual 345, 3) := by decide +kernel
theorem dX12_helperTold_83 : decode cX12_helperTold 83 = .ok (.imul, 1) := by decide +kernel
theorem dX12_helperTold_84 : decode cX12_helperTold 84 = .ok (.istore 7, 2) := by decide +kernel
theorem dX12_helperTold_86 : decode cX12_helperTold 86 = .ok (.aload_n 0, 1) := by decide +kernel
theorem dX12_helperTold_87 : decode cX12_helperTold 87 = .ok (.getfield 127, 3) := by decide +kernel
theorem dX12_helperTold_90 : decode cX12_helperTold 90 = .ok (.iload 7, 2) := by decide +kernel
theorem dX12_helperTold_92 : decode cX12_helperTold 92 = .ok (.iload 4, 2) := by decide +kernel
theorem dX12_helperTold_94 : decode cX12_helperTold 94 = .ok (.iastore, 1) := by decide +kernel
theorem dX12_helperTold_95 : decode cX12_helperTold 95 = .ok (.aload_n 0, 1) := by decide +kernel
theorem dX12_helperTold_96 : decode cX12_helperTold 96 = .ok (.getfield 127, 3) := by decide +kernel
theorem dX12_helperTold_99 : decode cX12_helperTold 99 = .ok (.iload 7, 2) := by decide +kernel
theorem dX12_helperTold_101 : decode cX12_helperTold 101 = .ok (.iconst 1, 1) := by decide +kernel
theorem dX12_helperTold_102 : decode cX12_helperTold 102 = .ok (.iadd, 1) := by decide +kernel
theorem dX12_helperTold_103 : decode cX12_helperTold 103 = .ok (.iload 5, 2) := by decide +kernel
theorem dX12_helperTold_105 : decode cX12_helperTold 105 = .ok (.iastore, 1) := by decide +kernel
theorem dX12_helperTold_106 : decode cX12_helperTold 106 = .ok (.aload_n 0, 1) := by decide +kernel
theorem dX12_helperTold_107 : decode cX12_helperTold 107 = .ok (.getfield 127, 3) := by decide +kernel
theorem dX12_helperTold_110 : decode cX12_helperTold 110 = .ok (.iload 7, 2) := by decide +kernel
theorem dX12_helperTold_112 : decode cX12_helperTold 112 = .ok (.iconst 2, 1) := by decide +kernel
theorem dX12_helperTold_113 : decode cX12_helperTold 113 = .ok (.iadd, 1) := by decide +kernel
theorem dX12_helperTold_114 : decode cX12_helperTold 114 = .ok (.iload 6, 2) := by decide +kernel
theorem dX12_helperTold_116 : decode cX12_helperTold 116 = .ok (.iastore, 1) := by decide +kernel
theorem dX12_helperTold_117 : decode cX12_helperTold 117 = .ok (.return_, 1) := by decide +kernel
theorem dX12_isMail_0 : decode cX12_isMail 0 = .ok (.iload_n 1, 1) := by decide +kernel
theorem dX12_isMail_1 : decode cX12_isMail 1 = .ok (.i2l, 1) := by decide +kernel
theorem dX12_isMail_2 : decode cX12_isMail 2 = .ok (.lconst 0, 1) := by decide +kernel
theorem dX12_isMail_3 : decode cX12_isMail 3 = .ok (.aload_n 0, 1) := by decide +kernel
theorem dX12_isMail_4 : decode cX12_isMail 4 = .ok (.invokevirtual 419, 3) := by decide +kernel
theorem dX12_isMail_7 : decode cX12_isMail 7 = .ok (.iconst 1, 1) := by decide +kernel
theorem dX12_isMail_8 : decode cX12_isMail 8 = .ok (.isub, 1) := by decide +kernel
theorem dX12_isMail_9 : decode cX12_isMail 9 = .ok (.i2l, 1) := by decide +kernel
theorem dX12_isMail_10 : decode cX12_isMail 10 = .ok (.invokestatic 303, 3) := by decide +kernel
theorem dX12_isMail_13 : decode cX12_isMail 13 = .ok (.ireturn, 1) := by decide +kernel
theorem dX12_oneOf_0 : decode cX12_oneOf 0 = .ok (.aload_n 0, 1) := by decide +kernel
theorem dX12_oneOf_1 : decode cX12_oneOf 1 = .ok (.invokevirtual 322, 3) := by decide +kernel
theorem dX12_oneOf_4 : decode cX12_oneOf 4 = .ok (.lstore_n 2, 1) := by decide +kernel
theorem dX12_oneOf_5 : decode cX12_oneOf 5 = .ok (.aload_n 0, 1) := by decide +kernel
theorem dX12_oneOf_6 : decode cX12_oneOf 6 = .ok (.iload_n 1, 1) := by decide +kernel
theorem dX12_oneOf_7 : decode cX12_oneOf 7 = .ok (.lload_n 2, 1) := by decide +kernel
theorem dX12_oneOf_8 : decode cX12_oneOf 8 = .ok (.invokevirtual 326, 3) := by decide +kernel
theorem dX12_oneOf_11 : decode cX12_oneOf 11 = .ok (.istore 4, 2) := by decide +kernel
theorem dX12_oneOf_13 : decode cX12_oneOf 13 = .ok (.aload_n 0, 1) := by decide +kernel
theorem dX12_oneOf_14 : decode cX12_oneOf 14 = .ok (.getfield 263, 3) := by decide +kernel
theorem dX12_oneOf_17 : decode cX12_oneOf 17 = .ok (.ifCond .ne 18, 3) := by decide +kernel
theorem dX12_oneOf_20 : decode cX12_oneOf 20 = .ok (.iload 4, 2) := by decide +kernel
theorem dX12_oneOf_22 : decode cX12_oneOf 22 = .ok (.iconst (-1), 1) := by decide +kernel
theorem dX12_oneOf_23 : decode cX12_oneOf 23 = .ok (.if_icmp .ne 12, 3) := by decide +kernel
theorem dX12_oneOf_26 : decode cX12_oneOf 26 = .ok (.aload_n 0, 1) := by decide +kernel
theorem dX12_oneOf_27 : decode cX12_oneOf 27 = .ok (.iconst 3, 1) := by decide +kernel
theorem dX12_oneOf_28 : decode cX12_oneOf 28 = .ok (.aload_n 0, 1) := by decide +kernel
theorem dX12_oneOf_29 : decode cX12_oneOf 29 = .ok (.getfield 311, 3) := by decide +kernel
theorem dX12_oneOf_32 : decode cX12_oneOf 32 = .ok (.invokevirtual 293, 3) := by decide +kernel
theorem dX12_oneOf_35 : decode cX12_oneOf 35 = .ok (.aload_n 0, 1) := by decide +kernel
theorem dX12_oneOf_36 : decode cX12_oneOf 36 = .ok (.getfield 263, 3) := by decide +kernel
theorem dX12_oneOf_39 : decode cX12_oneOf 39 = .ok (.ifCond .ne 8, 3) := by decide +kernel
theorem dX12_oneOf_42 : decode cX12_oneOf 42 = .ok (.iload 4, 2) := by decide +kernel
theorem dX12_oneOf_44 : decode cX12_oneOf 44 = .ok (.goto 4, 3) := by decide +kernel
theorem dX12_oneOf_47 : decode cX12_oneOf 47 = .ok (.iconst 0, 1) := by decide +kernel
theorem dX12_oneOf_48 : decode cX12_oneOf 48 = .ok (.ireturn, 1) := by decide +kernel
theorem dX12_qPuts_0 : decode cX12_qPuts 0 = .ok (.aload_n 0, 1) := by decide +kernel
theorem dX12_qPuts_1 : decode cX12_qPuts 1 = .ok (.getfield 254, 3) := by decide +kernel
theorem dX12_qPuts_4 : decode cX12_qPuts 4 = .ok (.aload_n 0, 1) := by decide +kernel
theorem dX12_qPuts_5 : decode cX12_qPuts 5 = .ok (.getfield 431, 3) := by decide +kernel
theorem dX12_qPuts_8 : decode cX12_qPuts 8 = .ok (.lload_n 1, 1) := by decide +kernel
theorem dX12_qPuts_9 : decode cX12_qPuts 9 = .ok (.lastore, 1) := by decide +kernel
theorem dX12_qPuts_10 : decode cX12_qPuts 10 = .ok (.aload_n 0, 1) := by decide +kernel
theorem dX12_qPuts_11 : decode cX12_qPuts 11 = .ok (.dup, 1) := by decide +kernel
theorem dX12_qPuts_12 : decode cX12_qPuts 12 = .ok (.getfield 431, 3) := by decide +kernel
theorem dX12_qPuts_15 : decode cX12_qPuts 15 = .ok (.iconst 1, 1) := by decide +kernel
theorem dX12_qPuts_16 : decode cX12_qPuts 16 = .ok (.iadd, 1) := by decide +kernel
theorem dX12_qPuts_17 : decode cX12_qPuts 17 = .ok (.putfield 431, 3) := by decide +kernel
theorem dX12_qPuts_20 : decode cX12_qPuts 20 = .ok (.return_, 1) := by decide +kernel
theorem dX12_later_0 : decode cX12_later 0 = .ok (.aload_n 0, 1) := by decide +kernel
theorem dX12_later_1 : decode cX12_later 1 = .ok (.iload_n 1, 1) := by decide +kernel
theorem dX12_later_2 : decode cX12_later 2 = .ok (.iconst 0, 1) := by decide +kernel
theorem dX12_later_3 : decode cX12_later 3 = .ok (.bipush 30, 2) := by decide +kernel
theorem dX12_later_5 : decode cX12_later 5 = .ok (.invokevirtual 524, 3) := by decide +kernel
theorem dX12_later_8 : decode cX12_later 8 = .ok (.ifCond .ne 5, 3) := by decide +kernel
theorem dX12_later_11 : decode cX12_later 11 = .ok (.iconst (-1), 1) := by decide +kernel
theorem dX12_later_12 : decode cX12_later 12 = .ok (.ireturn, 1) := by decide +kernel
theorem dX12_later_13 : decode cX12_later 13 = .ok (.aload_n 0, 1) := by decide +kernel
theorem dX12_later_14 : decode cX12_later 14 = .ok (.invokevirtual 527, 3) := by decide +kernel
theorem dX12_later_17 : decode cX12_later 17 = .ok (.iconst 0, 1) := by decide +kernel
theorem dX12_later_18 : decode cX12_later 18 = .ok (.istore_n 2, 1) := by decide +kernel
theorem dX12_later_19 : decode cX12_later 19 = .ok (.iload_n 2, 1) := by decide +kernel
theorem dX12_later_20 : decode cX12_later 20 = .ok (.iload_n 1, 1) := by decide +kernel
theorem dX12_later_21 : decode cX12_later 21 = .ok (.if_icmp .ge 14, 3) := by decide +kernel
theorem dX12_later_24 : decode cX12_later 24 = .ok (.aload_n 0, 1) := by decide +kernel
theorem dX12_later_25 : decode cX12_later 25 = .ok (.invokevirtual 530, 3) := by decide +kernel
theorem dX12_later_28 : decode cX12_later 28 = .ok (.pop, 1) := by decide +kernel
theorem dX12_later_29 : decode cX12_later 29 = .ok (.iinc 2 1, 3) := by decide +kernel
theorem dX12_later_32 : decode cX12_later 32 = .ok (.goto (-13), 3) := by decide +kernel
theorem dX12_later_35 : decode cX12_later 35 = .ok (.aload_n 0, 1) := by decide +kernel
theorem dX12_later_36 : decode cX12_later 36 = .ok (.invokevirtual 533, 3) := by decide +kernel
theorem dX12_later_39 : decode cX12_later 39 = .ok (.istore_n 2, 1) := by decide +kernel
theorem dX12_later_40 : decode cX12_later 40 = .ok (.aload_n 0, 1) := by decide +kernel
theorem dX12_later_41 : decode cX12_later 41 = .ok (.invokevirtual 536, 3) := by decide +kernel
theorem dX12_later_44 : decode cX12_later 44 = .ok (.iload_n 2, 1) := by decide +kernel
theorem dX12_later_45 : decode cX12_later 45 = .ok (.ireturn, 1) := by decide +kernel
theorem dX12_isAhead_0 : decode cX12_isAhead 0 = .ok (.iload_n 1, 1) := by decide +kernel
theorem dX12_isAhead_1 : decode cX12_isAhead 1 = .ok (.i2l, 1) := by decide +kernel
theorem dX12_isAhead_2 : decode cX12_isAhead 2 = .ok (.iload_n 2, 1) := by decide +kernel
theorem dX12_isAhead_3 : decode cX12_isAhead 3 = .ok (.i2l, 1) := by decide +kernel
theorem dX12_isAhead_4 : decode cX12_isAhead 4 = .ok (.iload_n 3, 1) := by decide +kernel
theorem dX12_isAhead_5 : decode cX12_isAhead 5 = .ok (.i2l, 1) := by decide +kernel
theorem dX12_isAhead_6 : decode cX12_isAhead 6 = .ok (.invokestatic 303, 3) := by decide +kernel
theorem dX12_isAhead_9 : decode cX12_isAhead 9 = .ok (.ifCond .eq 21, 3) := by decide +kernel
theorem dX12_isAhead_12 : decode cX12_isAhead 12 = .ok (.aload_n 0, 1) := by decide +kernel
theorem dX12_isAhead_13 : decode cX12_isAhead 13 = .ok (.getfield 142, 3) := by decide +kernel
theorem dX12_isAhead_16 : decode cX12_isAhead 16 = .ok (.iconst 0, 1) := by decide +kernel
theorem dX12_isAhead_17 : decode cX12_isAhead 17 = .ok (.iaload, 1) := by decide +kernel
theorem dX12_isAhead_18 : decode cX12_isAhead 18 = .ok (.iload_n 1, 1) := by decide +kernel
theorem dX12_isAhead_19 : decode cX12_isAhead 19 = .ok (.iadd, 1) := by decide +kernel
theorem dX12_isAhead_20 : decode cX12_isAhead 20 = .ok (.sipush 999, 3) := by decide +kernel
theorem dX12_isAhead_23 : decode cX12_isAhead 23 = .ok (.if_icmp .gt 7, 3) := by decide +kernel
theorem dX12_isAhead_26 : decode cX12_isAhead 26 = .ok (.iconst 1, 1) := by decide +kernel
theorem dX12_isAhead_27 : decode cX12_isAhead 27 = .ok (.goto 4, 3) := by decide +kernel
theorem dX12_isAhead_30 : decode cX12_isAhead 30 = .ok (.iconst 0, 1) := by decide +kernel
theorem dX12_isAhead_31 : decode cX12_isAhead 31 = .ok (.ireturn, 1) := by decide +kernel
theorem dX12_qGoesOnTest_0 : decode cX12_qGoesOnTest 0 = .ok (.aload_n 0, 1) := by decide +kernel
theorem dX12_qGoesOnTest_1 : decode cX12_qGoesOnTest 1 = .ok (.getfield 263, 3) := by decide +kernel
theorem dX12_qGoesOnTest_4 : decode cX12_qGoesOnTest 4 = .ok (.ifCond .ne 72, 3) := by decide +kernel
theorem dX12_qGoesOnTest_7 : decode cX12_qGoesOnTest 7 = .ok (.aload_n 0, 1) := by decide +kernel
theorem dX12_qGoesOnTest_8 : decode cX12_qGoesOnTest 8 = .ok (.invokevirtual 275, 3) := by decide +kernel
theorem dX12_qGoesOnTest_11 : decode cX12_qGoesOnTest 11 = .ok (.bipush 93, 2) := by decide +kernel
theorem dX12_qGoesOnTest_13 : decode cX12_qGoesOnTest 13 = .ok (.if_icmp .ne 63, 3) := by decide +kernel
theorem dX12_qGoesOnTest_16 : decode cX12_qGoesOnTest 16 = .ok (.aload_n 0, 1) := by decide +kernel
theorem dX12_qGoesOnTest_17 : decode cX12_qGoesOnTest 17 = .ok (.invokevirtual 645, 3) := by decide +kernel
theorem dX12_qGoesOnTest_20 : decode cX12_qGoesOnTest 20 = .ok (.ifCond .eq 56, 3) := by decide +kernel
theorem dX12_qGoesOnTest_23 : decode cX12_qGoesOnTest 23 = .ok (.aload_n 0, 1) := by decide +kernel
theorem dX12_qGoesOnTest_24 : decode cX12_qGoesOnTest 24 = .ok (.dup, 1) := by decide +kernel
theorem dX12_qGoesOnTest_25 : decode cX12_qGoesOnTest 25 = .ok (.getfield 269, 3) := by decide +kernel
theorem dX12_qGoesOnTest_28 : decode cX12_qGoesOnTest 28 = .ok (.iconst 1, 1) := by decide +kernel
theorem dX12_qGoesOnTest_29 : decode cX12_qGoesOnTest 29 = .ok (.iadd, 1) := by decide +kernel
theorem dX12_qGoesOnTest_30 : decode cX12_qGoesOnTest 30 = .ok (.putfield 269, 3) := by decide +kernel
theorem dX12_qGoesOnTest_33 : decode cX12_qGoesOnTest 33 = .ok (.aload_n 0, 1) := by decide +kernel
theorem dX12_qGoesOnTest_34 : decode cX12_qGoesOnTest 34 = .ok (.bipush 25, 2) := by decide +kernel
theorem dX12_qGoesOnTest_36 : decode cX12_qGoesOnTest 36 = .ok (.invokevirtual 627, 3) := by decide +kernel
theorem dX12_qGoesOnTest_39 : decode cX12_qGoesOnTest 39 = .ok (.ifCond .ne 10, 3) := by decide +kernel
theorem dX12_qGoesOnTest_42 : decode cX12_qGoesOnTest 42 = .ok (.aload_n 0, 1) := by decide +kernel
theorem dX12_qGoesOnTest_43 : decode cX12_qGoesOnTest 43 = .ok (.invokevirtual 600, 3) := by decide +kernel
theorem dX12_qGoesOnTest_46 : decode cX12_qGoesOnTest 46 = .ok (.goto (-13), 3) := by decide +kernel
theorem dX12_qGoesOnTest_49 : decode cX12_qGoesOnTest 49 = .ok (.aload_n 0, 1) := by decide +kernel
theorem dX12_qGoesOnTest_50 : decode cX12_qGoesOnTest 50 = .ok (.dup, 1) := by decide +kernel
theorem dX12_qGoesOnTest_51 : decode cX12_qGoesOnTest 51 = .ok (.getfield 355, 3) := by decide +kernel
theorem dX12_qGoesOnTest_54 : decode cX12_qGoesOnTest 54 = .ok (.iconst 1, 1) := by decide +kernel
theorem dX12_qGoesOnTest_55 : decode cX12_qGoesOnTest 55 = .ok (.isub, 1) := by decide +kernel
theorem dX12_qGoesOnTest_56 : decode cX12_qGoesOnTest 56 = .ok (.putfield 355, 3) := by decide +kernel
theorem dX12_qGoesOnTest_59 : decode cX12_qGoesOnTest 59 = .ok (.aload_n 0, 1) := by decide +kernel
theorem dX12_qGoesOnTest_60 : decode cX12_qGoesOnTest 60 = .ok (.dup, 1) := by decide +kernel
theorem dX12_qGoesOnTest_61 : decode cX12_qGoesOnTest 61 = .ok (.getfield 358, 3) := by decide +kernel
theorem dX12_qGoesOnTest_64 : decode cX12_qGoesOnTest 64 = .ok (.iconst 1, 1) := by decide +kernel
theorem dX12_qGoesOnTest_65 : decode cX12_qGoesOnTest 65 = .ok (.isub, 1) := by decide +kernel
theorem dX12_qGoesOnTest_66 : decode cX12_qGoesOnTest 66 = .ok (.putfield 358, 3) := by decide +kernel
theorem dX12_qGoesOnTest_69 : decode cX12_qGoesOnTest 69 = .ok (.aload_n 0, 1) := by decide +kernel
theorem dX12_qGoesOnTest_70 : decode cX12_qGoesOnTest 70 = .ok (.invokevirtual 639, 3) := by decide +kernel
theorem dX12_qGoesOnTest_73 : decode cX12_qGoesOnTest 73 = .ok (.goto (-73), 3) := by decide +kernel
theorem dX12_qGoesOnTest_76 : decode cX12_qGoesOnTest 76 = .ok (.aload_n 0, 1) := by decide +kernel
theorem dX12_qGoesOnTest_77 : decode cX12_qGoesOnTest 77 = .ok (.aload_n 0, 1) := by decide +kernel
theorem dX12_qGoesOnTest_78 : decode cX12_qGoesOnTest 78 = .ok (.getfield 200, 3) := by decide +kernel
theorem dX12_qGoesOnTest_81 : decode cX12_qGoesOnTest 81 = .ok (.invokevirtual 290, 3) := by decide +kernel
theorem dX12_qGoesOnTest_84 : decode cX12_qGoesOnTest 84 = .ok (.ifCond .eq 42, 3) := by decide +kernel
theorem dX12_qGoesOnTest_87 : decode cX12_qGoesOnTest 87 = .ok (.aload_n 0, 1) := by decide +kernel
theorem dX12_qGoesOnTest_88 : decode cX12_qGoesOnTest 88 = .ok (.bipush 10, 2) := by decide +kernel
theorem dX12_qGoesOnTest_90 : decode cX12_qGoesOnTest 90 = .ok (.invokevirtual 627, 3) := by decide +kernel
theorem dX12_qGoesOnTest_93 : decode cX12_qGoesOnTest 93 = .ok (.ifCond .eq 10, 3) := by decide +kernel
theorem dX12_qGoesOnTest_96 : decode cX12_qGoesOnTest 96 = .ok (.aload_n 0, 1) := by decide +kernel
theorem dX12_qGoesOnTest_97 : decode cX12_qGoesOnTest 97 = .ok (.invokevirtual 600, 3) := by decide +kernel
theorem dX12_qGoesOnTest_100 : decode cX12_qGoesOnTest 100 = .ok (.goto (-13), 3) := by decide +kernel
theorem dX12_qGoesOnTest_103 : decode cX12_qGoesOnTest 103 = .ok (.aload_n 0, 1) := by decide +kernel
theorem dX12_qGoesOnTest_104 : decode cX12_qGoesOnTest 104 = .ok (.getfield 251, 3) := by decide +kernel
theorem dX12_qGoesOnTest_107 : decode cX12_qGoesOnTest 107 = .ok (.aload_n 0, 1) := by decide +kernel
theorem dX12_qGoesOnTest_108 : decode cX12_qGoesOnTest 108 = .ok (.getfield 355, 3) := by decide +kernel
theorem dX12_qGoesOnTest_111 : decode cX12_qGoesOnTest 111 = .ok (.bipush 10, 2) := by decide +kernel
theorem dX12_qGoesOnTest_113 : decode cX12_qGoesOnTest 113 = .ok (.iastore, 1) := by decide +kernel
theorem dX12_qGoesOnTest_114 : decode cX12_qGoesOnTest 114 = .ok (.aload_n 0, 1) := by decide +kernel
theorem dX12_qGoesOnTest_115 : decode cX12_qGoesOnTest 115 = .ok (.dup, 1) := by decide +kernel
theorem dX12_qGoesOnTest_116 : decode cX12_qGoesOnTest 116 = .ok (.getfield 355, 3) := by decide +kernel
theorem dX12_qGoesOnTest_119 : decode cX12_qGoesOnTest 119 = .ok (.iconst 1, 1) := by decide +kernel
theorem dX12_qGoesOnTest_120 : decode cX12_qGoesOnTest 120 = .ok (.iadd, 1) := by decide +kernel
theorem dX12_qGoesOnTest_121 : decode cX12_qGoesOnTest 121 = .ok (.putfield 355, 3) := by decide +kernel
theorem dX12_qGoesOnTest_124 : decode cX12_qGoesOnTest 124 = .ok (.iconst 1, 1) := by decide +kernel
theorem dX12_qGoesOnTest_125 : decode cX12_qGoesOnTest 125 = .ok (.ireturn, 1) := by decide +kernel
theorem dX12_qGoesOnTest_126 : decode cX12_qGoesOnTest 126 = .ok (.aload_n 0, 1) := by decide +kernel
theorem dX12_qGoesOnTest_127 : decode cX12_qGoesOnTest 127 = .ok (.aload_n 0, 1) := by decide +kernel
theorem dX12_qGoesOnTest_128 : decode cX12_qGoesOnTest 128 = .ok (.getfield 203, 3) := by decide +kernel
theorem dX12_qGoesOnTest_131 : decode cX12_qGoesOnTest 131 = .ok (.invokevirtual 290, 3) := by decide +kernel
theorem dX12_qGoesOnTest_134 : decode cX12_qGoesOnTest 134 = .ok (.ifCond .eq 51, 3) := by decide +kernel
theorem dX12_qGoesOnTest_137 : decode cX12_qGoesOnTest 137 = .ok (.aload_n 0, 1) := by decide +kernel
theorem dX12_qGoesOnTest_138 : decode cX12_qGoesOnTest 138 = .ok (.bipush 10, 2) := by decide +kernel
theorem dX12_qGoesOnTest_140 : decode cX12_qGoesOnTest 140 = .ok (.invokevirtual 627, 3) := by decide +kernel
theorem dX12_qGoesOnTest_143 : decode cX12_qGoesOnTest 143 = .ok (.ifCond .ne 12, 3) := by decide +kernel
theorem dX12_qGoesOnTest_146 : decode cX12_qGoesOnTest 146 = .ok (.aload_n 0, 1) := by decide +kernel
theorem dX12_qGoesOnTest_147 : decode cX12_qGoesOnTest 147 = .ok (.bipush 11, 2) := by decide +kernel
theorem dX12_qGoesOnTest_149 : decode cX12_qGoesOnTest 149 = .ok (.invokevirtual 627, 3) := by decide +kernel
theorem dX12_qGoesOnTest_152 : decode cX12_qGoesOnTest 152 = .ok (.ifCond .eq 10, 3) := by decide +kernel
theorem dX12_qGoesOnTest_155 : decode cX12_qGoesOnTest 155 = .ok (.aload_n 0, 1) := by decide +kernel
theorem dX12_qGoesOnTest_156 : decode cX12_qGoesOnTest 156 = .ok (.invokevirtual 600, 3) := by decide +kernel
theorem dX12_qGoesOnTest_159 : decode cX12_qGoesOnTest 159 = .ok (.goto (-22), 3) := by decide +kernel
theorem dX12_qGoesOnTest_162 : decode cX12_qGoesOnTest 162 = .ok (.aload_n 0, 1) := by decide +kernel
theorem dX12_qGoesOnTest_163 : decode cX12_qGoesOnTest 163 = .ok (.getfield 251, 3) := by decide +kernel
theorem dX12_qGoesOnTest_166 : decode cX12_qGoesOnTest 166 = .ok (.aload_n 0, 1) := by decide +kernel
theorem dX12_qGoesOnTest_167 : decode cX12_qGoesOnTest 167 = .ok (.getfield 355, 3) := by decide +kernel
theorem dX12_qGoesOnTest_170 : decode cX12_qGoesOnTest 170 = .ok (.bipush 11, 2) := by decide +kernel
theorem dX12_qGoesOnTest_172 : decode cX12_qGoesOnTest 172 = .ok (.iastore, 1) := by decide +kernel
theorem dX12_qGoesOnTest_173 : decode cX12_qGoesOnTest 173 = .ok (.aload_n 0, 1) := by decide +kernel
theorem dX12_qGoesOnTest_174 : decode cX12_qGoesOnTest 174 = .ok (.dup, 1) := by decide +kernel
theorem dX12_qGoesOnTest_175 : decode cX12_qGoesOnTest 175 = .ok (.getfield 355, 3) := by decide +kernel
theorem dX12_qGoesOnTest_178 : decode cX12_qGoesOnTest 178 = .ok (.iconst 1, 1) := by decide +kernel
theorem dX12_qGoesOnTest_179 : decode cX12_qGoesOnTest 179 = .ok (.iadd, 1) := by decide +kernel
theorem dX12_qGoesOnTest_180 : decode cX12_qGoesOnTest 180 = .ok (.putfield 355, 3) := by decide +kernel
theorem dX12_qGoesOnTest_183 : decode cX12_qGoesOnTest 183 = .ok (.iconst 1, 1) := by decide +kernel
theorem dX12_qGoesOnTest_184 : decode cX12_qGoesOnTest 184 = .ok (.ireturn, 1) := by decide +kernel
theorem dX12_qGoesOnTest_185 : decode cX12_qGoesOnTest 185 = .ok (.aload_n 0, 1) := by decide +kernel
theorem dX12_qGoesOnTest_186 : decode cX12_qGoesOnTest 186 = .ok (.getfield 263, 3) := by decide +kernel
theorem dX12_qGoesOnTest_189 : decode cX12_qGoesOnTest 189 = .ok (.ifCond .ne 19, 3) := by decide +kernel
theorem dX12_qGoesOnTest_192 : decode cX12_qGoesOnTest 192 = .ok (.aload_n 0, 1) := by decide +kernel
theorem dX12_qGoesOnTest_193 : decode cX12_qGoesOnTest 193 = .ok (.invokevirtual 645, 3) := by decide +kernel
theorem dX12_qGoesOnTest_196 : decode cX12_qGoesOnTest 196 = .ok (.ifCond .eq 12, 3) := by decide +kernel
theorem dX12_qGoesOnTest_199 : decode cX12_qGoesOnTest 199 = .ok (.aload_n 0, 1) := by decide +kernel
theorem dX12_qGoesOnTest_200 : decode cX12_qGoesOnTest 200 = .ok (.iconst 1, 1) := by decide +kernel
theorem dX12_qGoesOnTest_201 : decode cX12_qGoesOnTest 201 = .ok (.aload_n 0, 1) := by decide +kernel
theorem dX12_qGoesOnTest_202 : decode cX12_qGoesOnTest 202 = .ok (.getfield 269, 3) := by decide +kernel
theorem dX12_qGoesOnTest_205 : decode cX12_qGoesOnTest 205 = .ok (.invokevirtual 293, 3) := by decide +kernel
theorem dX12_qGoesOnTest_208 : decode cX12_qGoesOnTest 208 = .ok (.iconst 0, 1) := by decide +kernel
theorem dX12_qGoesOnTest_209 : decode cX12_qGoesOnTest 209 = .ok (.ireturn, 1) := by decide +kernel
theorem dX12_drawOf_0 : decode cX12_drawOf 0 = .ok (.aload_n 0, 1) := by decide +kernel
theorem dX12_drawOf_1 : decode cX12_drawOf 1 = .ok (.ldc2_w 583, 3) := by decide +kernel
theorem dX12_drawOf_4 : decode cX12_drawOf 4 = .ok (.aload_n 0, 1) := by decide +kernel
theorem dX12_drawOf_5 : decode cX12_drawOf 5 = .ok (.getfield 175, 3) := by decide +kernel
theorem dX12_drawOf_8 : decode cX12_drawOf 8 = .ok (.lmul, 1) := by decide +kernel
theorem dX12_drawOf_9 : decode cX12_drawOf 9 = .ok (.ldc2_w 585, 3) := by decide +kernel
theorem dX12_drawOf_12 : decode cX12_drawOf 12 = .ok (.ladd, 1) := by decide +kernel
theorem dX12_drawOf_13 : decode cX12_drawOf 13 = .ok (.ldc2_w 587, 3) := by decide +kernel
theorem dX12_drawOf_16 : decode cX12_drawOf 16 = .ok (.lrem, 1) := by decide +kernel
theorem dX12_drawOf_17 : decode cX12_drawOf 17 = .ok (.putfield 175, 3) := by decide +kernel
theorem dX12_drawOf_20 : decode cX12_drawOf 20 = .ok (.aload_n 0, 1) := by decide +kernel
theorem dX12_drawOf_21 : decode cX12_drawOf 21 = .ok (.getfield 175, 3) := by decide +kernel
theorem dX12_drawOf_24 : decode cX12_drawOf 24 = .ok (.ldc2_w 589, 3) := by decide +kernel
theorem dX12_drawOf_27 : decode cX12_drawOf 27 = .ok (.ldiv, 1) := by decide +kernel
theorem dX12_drawOf_28 : decode cX12_drawOf 28 = .ok (.iload_n 1, 1) := by decide +kernel
theorem dX12_drawOf_29 : decode cX12_drawOf 29 = .ok (.i2l, 1) := by decide +kernel
theorem dX12_drawOf_30 : decode cX12_drawOf 30 = .ok (.lrem, 1) := by decide +kernel
theorem dX12_drawOf_31 : decode cX12_drawOf 31 = .ok (.l2i, 1) := by decide +kernel
theorem dX12_drawOf_32 : decode cX12_drawOf 32 = .ok (.ireturn, 1) := by decide +kernel
theorem dX12_mostAlike_0 : decode cX12_mostAlike 0 = .ok (.iconst 0, 1) := by decide +kernel
theorem dX12_mostAlike_1 : decode cX12_mostAlike 1 = .ok (.istore_n 3, 1) := by decide +kernel
theorem dX12_mostAlike_2 : decode cX12_mostAlike 2 = .ok (.iconst 0, 1) := by decide +kernel
theorem dX12_mostAlike_3 : decode cX12_mostAlike 3 = .ok (.istore 4, 2) := by decide +kernel
theorem dX12_mostAlike_5 : decode cX12_mostAlike 5 = .ok (.iload 4, 2) := by decide +kernel
theorem dX12_mostAlike_7 : decode cX12_mostAlike 7 = .ok (.aload_n 0, 1) := by decide +kernel
theorem dX12_mostAlike_8 : decode cX12_mostAlike 8 = .ok (.invokevirtual 422, 3) := by decide +kernel
theorem dX12_mostAlike_11 : decode cX12_mostAlike 11 = .ok (.if_icmp .ge 79, 3) := by decide +kernel
theorem dX12_mostAlike_14 : decode cX12_mostAlike 14 = .ok (.iconst 0, 1) := by decide +kernel
theorem dX12_mostAlike_15 : decode cX12_mostAlike 15 = .ok (.istore 5, 2) := by decide +kernel
theorem dX12_mostAlike_17 : decode cX12_mostAlike 17 = .ok (.iconst 0, 1) := by decide +kernel
theorem dX12_mostAlike_18 : decode cX12_mostAlike 18 = .ok (.istore 6, 2) := by decide +kernel
theorem dX12_mostAlike_20 : decode cX12_mostAlike 20 = .ok (.iload 6, 2) := by decide +kernel
theorem dX12_mostAlike_22 : decode cX12_mostAlike 22 = .ok (.aload_n 0, 1) := by decide +kernel
theorem dX12_mostAlike_23 : decode cX12_mostAlike 23 = .ok (.invokevirtual 422, 3) := by decide +kernel
theorem dX12_mostAlike_26 : decode cX12_mostAlike 26 = .ok (.if_icmp .ge 49, 3) := by decide +kernel
theorem dX12_mostAlike_29 : decode cX12_mostAlike 29 = .ok (.iload_n 2, 1) := by decide +kernel
theorem dX12_mostAlike_30 : decode cX12_mostAlike 30 = .ok (.iload 4, 2) := by decide +kernel
theorem dX12_mostAlike_32 : decode cX12_mostAlike 32 = .ok (.ishr, 1) := by decide +kernel
theorem dX12_mostAlike_33 : decode cX12_mostAlike 33 = .ok (.iconst 1, 1) := by decide +kernel
theorem dX12_mostAlike_34 : decode cX12_mostAlike 34 = .ok (.iand, 1) := by decide +kernel
theorem dX12_mostAlike_35 : decode cX12_mostAlike 35 = .ok (.iconst 1, 1) := by decide +kernel
theorem dX12_mostAlike_36 : decode cX12_mostAlike 36 = .ok (.if_icmp .ne 33, 3) := by decide +kernel
theorem dX12_mostAlike_39 : decode cX12_mostAlike 39 = .ok (.iload_n 2, 1) := by decide +kernel
theorem dX12_mostAlike_40 : decode cX12_mostAlike 40 = .ok (.iload 6, 2) := by decide +kernel
theorem dX12_mostAlike_42 : decode cX12_mostAlike 42 = .ok (.ishr, 1) := by decide +kernel
theorem dX12_mostAlike_43 : decode cX12_mostAlike 43 = .ok (.iconst 1, 1) := by decide +kernel
theorem dX12_mostAlike_44 : decode cX12_mostAlike 44 = .ok (.iand, 1) := by decide +kernel
theorem dX12_mostAlike_45 : decode cX12_mostAlike 45 = .ok (.iconst 1, 1) := by decide +kernel
theorem dX12_mostAlike_46 : decode cX12_mostAlike 46 = .ok (.if_icmp .ne 23, 3) := by decide +kernel
theorem dX12_mostAlike_49 : decode cX12_mostAlike 49 = .ok (.aload_n 0, 1) := by decide +kernel
theorem dX12_mostAlike_50 : decode cX12_mostAlike 50 = .ok (.iload_n 1, 1) := by decide +kernel
theorem dX12_mostAlike_51 : decode cX12_mostAlike 51 = .ok (.iload 6, 2) := by decide +kernel
theorem dX12_mostAlike_53 : decode cX12_mostAlike 53 = .ok (.invokevirtual 461, 3) := by decide +kernel
theorem dX12_mostAlike_56 : decode cX12_mostAlike 56 = .ok (.aload_n 0, 1) := by decide +kernel
theorem dX12_mostAlike_57 : decode cX12_mostAlike 57 = .ok (.iload_n 1, 1) := by decide +kernel
theorem dX12_mostAlike_58 : decode cX12_mostAlike 58 = .ok (.iload 4, 2) := by decide +kernel
theorem dX12_mostAlike_60 : decode cX12_mostAlike 60 = .ok (.invokevirtual 461, 3) := by decide +kernel
theorem dX12_mostAlike_63 : decode cX12_mostAlike 63 = .ok (.if_icmp .ne 6, 3) := by decide +kernel
theorem dX12_mostAlike_66 : decode cX12_mostAlike 66 = .ok (.iinc 5 1, 3) := by decide +kernel
theorem dX12_mostAlike_69 : decode cX12_mostAlike 69 = .ok (.iinc 6 1, 3) := by decide +kernel
theorem dX12_mostAlike_72 : decode cX12_mostAlike 72 = .ok (.goto (-52), 3) := by decide +kernel
theorem dX12_mostAlike_75 : decode cX12_mostAlike 75 = .ok (.iload 5, 2) := by decide +kernel
theorem dX12_mostAlike_77 : decode cX12_mostAlike 77 = .ok (.iload_n 3, 1) := by decide +kernel
theorem dX12_mostAlike_78 : decode cX12_mostAlike 78 = .ok (.if_icmp .le 6, 3) := by decide +kernel
theorem dX12_mostAlike_81 : decode cX12_mostAlike 81 = .ok (.iload 5, 2) := by decide +kernel
theorem dX12_mostAlike_83 : decode cX12_mostAlike 83 = .ok (.istore_n 3, 1) := by decide +kernel
theorem dX12_mostAlike_84 : decode cX12_mostAlike 84 = .ok (.iinc 4 1, 3) := by decide +kernel
theorem dX12_mostAlike_87 : decode cX12_mostAlike 87 = .ok (.goto (-82), 3) := by decide +kernel
theorem dX12_mostAlike_90 : decode cX12_mostAlike 90 = .ok (.iload_n 3, 1) := by decide +kernel
theorem dX12_mostAlike_91 : decode cX12_mostAlike 91 = .ok (.ireturn, 1) := by decide +kernel
theorem dX12_ask_0 : decode cX12_ask 0 = .ok (.aload_n 0, 1) := by decide +kernel
theorem dX12_ask_1 : decode cX12_ask 1 = .ok (.aload_n 0, 1) := by decide +kernel
theorem dX12_ask_2 : decode cX12_ask 2 = .ok (.getfield 260, 3) := by decide +kernel
theorem dX12_ask_5 : decode cX12_ask 5 = .ok (.putfield 272, 3) := by decide +kernel
theorem dX12_ask_8 : decode cX12_ask 8 = .ok (.aload_n 0, 1) := by decide +kernel
theorem dX12_ask_9 : decode cX12_ask 9 = .ok (.iconst 0, 1) := by decide +kernel
theorem dX12_ask_10 : decode cX12_ask 10 = .ok (.putfield 260, 3) := by decide +kernel
theorem dX12_ask_13 : decode cX12_ask 13 = .ok (.aload_n 0, 1) := by decide +kernel
theorem dX12_ask_14 : decode cX12_ask 14 = .ok (.iconst 0, 1) := by decide +kernel
theorem dX12_ask_15 : decode cX12_ask 15 = .ok (.putfield 269, 3) := by decide +kernel
theorem dX12_ask_18 : decode cX12_ask 18 = .ok (.aload_n 0, 1) := by decide +kernel
theorem dX12_ask_19 : decode cX12_ask 19 = .ok (.iconst (-1), 1) := by decide +kernel
theorem dX12_ask_20 : decode cX12_ask 20 = .ok (.putfield 283, 3) := by decide +kernel
theorem dX12_ask_23 : decode cX12_ask 23 = .ok (.aload_n 0, 1) := by decide +kernel
theorem dX12_ask_24 : decode cX12_ask 24 = .ok (.iconst 0, 1) := by decide +kernel
theorem dX12_ask_25 : decode cX12_ask 25 = .ok (.putfield 263, 3) := by decide +kernel
theorem dX12_ask_28 : decode cX12_ask 28 = .ok (.aload_n 0, 1) := by decide +kernel
theorem dX12_ask_29 : decode cX12_ask 29 = .ok (.iconst (-1), 1) := by decide +kernel
theorem dX12_ask_30 : decode cX12_ask 30 = .ok (.putfield 266, 3) := by decide +kernel
theorem dX12_ask_33 : decode cX12_ask 33 = .ok (.aload_n 0, 1) := by decide +kernel
theorem dX12_ask_34 : decode cX12_ask 34 = .ok (.iconst 0, 1) := by decide +kernel
theorem dX12_ask_35 : decode cX12_ask 35 = .ok (.putfield 318, 3) := by decide +kernel
theorem dX12_ask_38 : decode cX12_ask 38 = .ok (.aload_n 0, 1) := by decide +kernel
theorem dX12_ask_39 : decode cX12_ask 39 = .ok (.iconst 0, 1) := by decide +kernel
theorem dX12_ask_40 : decode cX12_ask 40 = .ok (.putfield 352, 3) := by decide +kernel
theorem dX12_ask_43 : decode cX12_ask 43 = .ok (.aload_n 0, 1) := by decide +kernel
theorem dX12_ask_44 : decode cX12_ask 44 = .ok (.iconst 0, 1) := by decide +kernel
theorem dX12_ask_45 : decode cX12_ask 45 = .ok (.putfield 355, 3) := by decide +kernel
theorem dX12_ask_48 : decode cX12_ask 48 = .ok (.aload_n 0, 1) := by decide +kernel
theorem dX12_ask_49 : decode cX12_ask 49 = .ok (.iconst 0, 1) := by decide +kernel
theorem dX12_ask_50 : decode cX12_ask 50 = .ok (.putfield 358, 3) := by decide +kernel
theorem dX12_ask_53 : decode cX12_ask 53 = .ok (.aload_n 0, 1) := by decide +kernel
theorem dX12_ask_54 : decode cX12_ask 54 = .ok (.iconst 0, 1) := by decide +kernel
theorem dX12_ask_55 : decode cX12_ask 55 = .ok (.putfield 361, 3) := by decide +kernel
theorem dX12_ask_58 : decode cX12_ask 58 = .ok (.aload_n 0, 1) := by decide +kernel
theorem dX12_ask_59 : decode cX12_ask 59 = .ok (.invokevirtual 672, 3) := by decide +kernel
theorem dX12_ask_62 : decode cX12_ask 62 = .ok (.istore_n 1, 1) := by decide +kernel
theorem dX12_ask_63 : decode cX12_ask 63 = .ok (.aload_n 0, 1) := by decide +kernel
theorem dX12_ask_64 : decode cX12_ask 64 = .ok (.getfield 263, 3) := by decide +kernel
theorem dX12_ask_67 : decode cX12_ask 67 = .ok (.ifCond .ne 15, 3) := by decide +kernel
theorem dX12_ask_70 : decode cX12_ask 70 = .ok (.iload_n 1, 1) := by decide +kernel
theorem dX12_ask_71 : decode cX12_ask 71 = .ok (.iconst 3, 1) := by decide +kernel
theorem dX12_ask_72 : decode cX12_ask 72 = .ok (.if_icmp .ge 10, 3) := by decide +kernel
theorem dX12_ask_75 : decode cX12_ask 75 = .ok (.aload_n 0, 1) := by decide +kernel
theorem dX12_ask_76 : decode cX12_ask 76 = .ok (.invokevirtual 675, 3) := by decide +kernel
theorem dX12_ask_79 : decode cX12_ask 79 = .ok (.goto 14, 3) := by decide +kernel
theorem dX12_ask_82 : decode cX12_ask 82 = .ok (.aload_n 0, 1) := by decide +kernel
theorem dX12_ask_83 : decode cX12_ask 83 = .ok (.getfield 263, 3) := by decide +kernel
theorem dX12_ask_86 : decode cX12_ask 86 = .ok (.ifCond .ne 7, 3) := by decide +kernel
theorem dX12_ask_89 : decode cX12_ask 89 = .ok (.aload_n 0, 1) := by decide +kernel
theorem dX12_ask_90 : decode cX12_ask 90 = .ok (.invokevirtual 364, 3) := by decide +kernel
theorem dX12_ask_93 : decode cX12_ask 93 = .ok (.aload_n 0, 1) := by decide +kernel
theorem dX12_ask_94 : decode cX12_ask 94 = .ok (.getfield 263, 3) := by decide +kernel
theorem dX12_ask_97 : decode cX12_ask 97 = .ok (.ifCond .ne 20, 3) := by decide +kernel
theorem dX12_ask_100 : decode cX12_ask 100 = .ok (.aload_n 0, 1) := by decide +kernel
theorem dX12_ask_101 : decode cX12_ask 101 = .ok (.invokevirtual 275, 3) := by decide +kernel
theorem dX12_ask_104 : decode cX12_ask 104 = .ok (.iconst (-1), 1) := by decide +kernel
theorem dX12_ask_105 : decode cX12_ask 105 = .ok (.if_icmp .eq 12, 3) := by decide +kernel
theorem dX12_ask_108 : decode cX12_ask 108 = .ok (.aload_n 0, 1) := by decide +kernel
theorem dX12_ask_109 : decode cX12_ask 109 = .ok (.iconst 1, 1) := by decide +kernel
theorem dX12_ask_110 : decode cX12_ask 110 = .ok (.aload_n 0, 1) := by decide +kernel
theorem dX12_ask_111 : decode cX12_ask 111 = .ok (.getfield 269, 3) := by decide +kernel
theorem dX12_ask_114 : decode cX12_ask 114 = .ok (.invokevirtual 293, 3) := by decide +kernel
theorem dX12_ask_117 : decode cX12_ask 117 = .ok (.aload_n 0, 1) := by decide +kernel
theorem dX12_ask_118 : decode cX12_ask 118 = .ok (.aload_n 0, 1) := by decide +kernel
theorem dX12_ask_119 : decode cX12_ask 119 = .ok (.getfield 263, 3) := by decide +kernel
theorem dX12_ask_122 : decode cX12_ask 122 = .ok (.putfield 401, 3) := by decide +kernel
theorem dX12_ask_125 : decode cX12_ask 125 = .ok (.aload_n 0, 1) := by decide +kernel
theorem dX12_ask_126 : decode cX12_ask 126 = .ok (.aload_n 0, 1) := by decide +kernel
theorem dX12_ask_127 : decode cX12_ask 127 = .ok (.getfield 266, 3) := by decide +kernel
theorem dX12_ask_130 : decode cX12_ask 130 = .ok (.putfield 13, 3) := by decide +kernel
theorem dX12_ask_133 : decode cX12_ask 133 = .ok (.aload_n 0, 1) := by decide +kernel
theorem dX12_ask_134 : decode cX12_ask 134 = .ok (.getfield 263, 3) := by decide +kernel
theorem dX12_ask_137 : decode cX12_ask 137 = .ok (.ifCond .eq 7, 3) := by decide +kernel
theorem dX12_ask_140 : decode cX12_ask 140 = .ok (.ldc2_w 519, 3) := by decide +kernel
theorem dX12_ask_143 : decode cX12_ask 143 = .ok (.lreturn, 1) := by decide +kernel
theorem dX12_ask_144 : decode cX12_ask 144 = .ok (.aload_n 0, 1) := by decide +kernel
theorem dX12_ask_145 : decode cX12_ask 145 = .ok (.iload_n 1, 1) := by decide +kernel
theorem dX12_ask_146 : decode cX12_ask 146 = .ok (.iconst 2, 1) := by decide +kernel
theorem dX12_ask_147 : decode cX12_ask 147 = .ok (.if_icmp .ge 9, 3) := by decide +kernel
theorem dX12_ask_150 : decode cX12_ask 150 = .ok (.ldc2_w 667, 3) := by decide +kernel
theorem dX12_ask_153 : decode cX12_ask 153 = .ok (.goto 4, 3) := by decide +kernel
theorem dX12_ask_156 : decode cX12_ask 156 = .ok (.lconst 0, 1) := by decide +kernel
theorem dX12_ask_157 : decode cX12_ask 157 = .ok (.putfield 664, 3) := by decide +kernel
theorem dX12_ask_160 : decode cX12_ask 160 = .ok (.aload_n 0, 1) := by decide +kernel
theorem dX12_ask_161 : decode cX12_ask 161 = .ok (.iconst 1, 1) := by decide +kernel
theorem dX12_ask_162 : decode cX12_ask 162 = .ok (.putfield 669, 3) := by decide +kernel
theorem dX12_ask_165 : decode cX12_ask 165 = .ok (.aload_n 0, 1) := by decide +kernel
theorem dX12_ask_166 : decode cX12_ask 166 = .ok (.iconst 0, 1) := by decide +kernel
theorem dX12_ask_167 : decode cX12_ask 167 = .ok (.putfield 318, 3) := by decide +kernel
theorem dX12_ask_170 : decode cX12_ask 170 = .ok (.iconst 0, 1) := by decide +kernel
theorem dX12_ask_171 : decode cX12_ask 171 = .ok (.istore_n 2, 1) := by decide +kernel
theorem dX12_ask_172 : decode cX12_ask 172 = .ok (.iload_n 2, 1) := by decide +kernel
theorem dX12_ask_173 : decode cX12_ask 173 = .ok (.aload_n 0, 1) := by decide +kernel
theorem dX12_ask_174 : decode cX12_ask 174 = .ok (.invokevirtual 419, 3) := by decide +kernel
theorem dX12_ask_177 : decode cX12_ask 177 = .ok (.if_icmp .ge 20, 3) := by decide +kernel
theorem dX12_ask_180 : decode cX12_ask 180 = .ok (.aload_n 0, 1) := by decide +kernel
theorem dX12_ask_181 : decode cX12_ask 181 = .ok (.iload_n 1, 1) := by decide +kernel
theorem dX12_ask_182 : decode cX12_ask 182 = .ok (.aload_n 0, 1) := by decide +kernel
theorem dX12_ask_183 : decode cX12_ask 183 = .ok (.iload_n 2, 1) := by decide +kernel
theorem dX12_ask_184 : decode cX12_ask 184 = .ok (.invokevirtual 678, 3) := by decide +kernel
theorem dX12_ask_187 : decode cX12_ask 187 = .ok (.iload_n 2, 1) := by decide +kernel
theorem dX12_ask_188 : decode cX12_ask 188 = .ok (.invokevirtual 682, 3) := by decide +kernel
theorem dX12_ask_191 : decode cX12_ask 191 = .ok (.iinc 2 1, 3) := by decide +kernel
theorem dX12_ask_194 : decode cX12_ask 194 = .ok (.goto (-22), 3) := by decide +kernel
theorem dX12_ask_197 : decode cX12_ask 197 = .ok (.aload_n 0, 1) := by decide +kernel
theorem dX12_ask_198 : decode cX12_ask 198 = .ok (.getfield 664, 3) := by decide +kernel
theorem dX12_ask_201 : decode cX12_ask 201 = .ok (.lreturn, 1) := by decide +kernel
theorem dX12_qJoins_0 : decode cX12_qJoins 0 = .ok (.aload_n 0, 1) := by decide +kernel
theorem dX12_qJoins_1 : decode cX12_qJoins 1 = .ok (.getfield 254, 3) := by decide +kernel
theorem dX12_qJoins_4 : decode cX12_qJoins 4 = .ok (.aload_n 0, 1) := by decide +kernel
theorem dX12_qJoins_5 : decode cX12_qJoins 5 = .ok (.getfield 431, 3) := by decide +kernel
theorem dX12_qJoins_8 : decode cX12_qJoins 8 = .ok (.iconst 1, 1) := by decide +kernel
theorem dX12_qJoins_9 : decode cX12_qJoins 9 = .ok (.isub, 1) := by decide +kernel
theorem dX12_qJoins_10 : decode cX12_qJoins 10 = .ok (.laload, 1) := by decide +kernel
theorem dX12_qJoins_11 : decode cX12_qJoins 11 = .ok (.lstore_n 2, 1) := by decide +kernel
theorem dX12_qJoins_12 : decode cX12_qJoins 12 = .ok (.aload_n 0, 1) := by decide +kernel
theorem dX12_qJoins_13 : decode cX12_qJoins 13 = .ok (.getfield 254, 3) := by decide +kernel
theorem dX12_qJoins_16 : decode cX12_qJoins 16 = .ok (.aload_n 0, 1) := by decide +kernel
theorem dX12_qJoins_17 : decode cX12_qJoins 17 = .ok (.getfield 431, 3) := by decide +kernel
theorem dX12_qJoins_20 : decode cX12_qJoins 20 = .ok (.iconst 2, 1) := by decide +kernel
theorem dX12_qJoins_21 : decode cX12_qJoins 21 = .ok (.isub, 1) := by decide +kernel
theorem dX12_qJoins_22 : decode cX12_qJoins 22 = .ok (.laload, 1) := by decide +kernel
theorem dX12_qJoins_23 : decode cX12_qJoins 23 = .ok (.lstore 4, 2) := by decide +kernel
theorem dX12_qJoins_25 : decode cX12_qJoins 25 = .ok (.aload_n 0, 1) := by decide +kernel
theorem dX12_qJoins_26 : decode cX12_qJoins 26 = .ok (.dup, 1) := by decide +kernel
theorem dX12_qJoins_27 : decode cX12_qJoins 27 = .ok (.getfield 431, 3) := by decide +kernel
theorem dX12_qJoins_30 : decode cX12_qJoins 30 = .ok (.iconst 2, 1) := by decide +kernel
theorem dX12_qJoins_31 : decode cX12_qJoins 31 = .ok (.isub, 1) := by decide +kernel
theorem dX12_qJoins_32 : decode cX12_qJoins 32 = .ok (.putfield 431, 3) := by decide +kernel
theorem dX12_qJoins_35 : decode cX12_qJoins 35 = .ok (.iload_n 1, 1) := by decide +kernel
theorem dX12_qJoins_36 : decode cX12_qJoins 36 = .ok (.tableswitch 219 1 10 #[56, 70, 84, 98, 111, 131, 151, 170, 189, 208], 56) := by decide +kernel
theorem dX12_qJoins_92 : decode cX12_qJoins 92 = .ok (.aload_n 0, 1) := by decide +kernel
theorem dX12_qJoins_93 : decode cX12_qJoins 93 = .ok (.lload 4, 2) := by decide +kernel
theorem dX12_qJoins_95 : decode cX12_qJoins 95 = .ok (.lload_n 2, 1) := by decide +kernel
theorem dX12_qJoins_96 : decode cX12_qJoins 96 = .ok (.ladd, 1) := by decide +kernel
theorem dX12_qJoins_97 : decode cX12_qJoins 97 = .ok (.invokestatic 652, 3) := by decide +kernel
theorem dX12_qJoins_100 : decode cX12_qJoins 100 = .ok (.invokevirtual 434, 3) := by decide +kernel
theorem dX12_qJoins_103 : decode cX12_qJoins 103 = .ok (.goto 170, 3) := by decide +kernel
theorem dX12_qJoins_106 : decode cX12_qJoins 106 = .ok (.aload_n 0, 1) := by decide +kernel
theorem dX12_qJoins_107 : decode cX12_qJoins 107 = .ok (.lload 4, 2) := by decide +kernel
theorem dX12_qJoins_109 : decode cX12_qJoins 109 = .ok (.lload_n 2, 1) := by decide +kernel
theorem dX12_qJoins_110 : decode cX12_qJoins 110 = .ok (.lsub, 1) := by decide +kernel
theorem dX12_qJoins_111 : decode cX12_qJoins 111 = .ok (.invokestatic 652, 3) := by decide +kernel
theorem dX12_qJoins_114 : decode cX12_qJoins 114 = .ok (.invokevirtual 434, 3) := by decide +kernel
theorem dX12_qJoins_117 : decode cX12_qJoins 117 = .ok (.goto 156, 3) := by decide +kernel
theorem dX12_qJoins_120 : decode cX12_qJoins 120 = .ok (.aload_n 0, 1) := by decide +kernel
theorem dX12_qJoins_121 : decode cX12_qJoins 121 = .ok (.lload 4, 2) := by decide +kernel
theorem dX12_qJoins_123 : decode cX12_qJoins 123 = .ok (.lload_n 2, 1) := by decide +kernel
theorem dX12_qJoins_124 : decode cX12_qJoins 124 = .ok (.lmul, 1) := by decide +kernel
theorem dX12_qJoins_125 : decode cX12_qJoins 125 = .ok (.invokestatic 652, 3) := by decide +kernel
theorem dX12_qJoins_128 : decode cX12_qJoins 128 = .ok (.invokevirtual 434, 3) := by decide +kernel
theorem dX12_qJoins_131 : decode cX12_qJoins 131 = .ok (.goto 142, 3) := by decide +kernel
theorem dX12_qJoins_134 : decode cX12_qJoins 134 = .ok (.aload_n 0, 1) := by decide +kernel
theorem dX12_qJoins_135 : decode cX12_qJoins 135 = .ok (.lload 4, 2) := by decide +kernel
theorem dX12_qJoins_137 : decode cX12_qJoins 137 = .ok (.lload_n 2, 1) := by decide +kernel
theorem dX12_qJoins_138 : decode cX12_qJoins 138 = .ok (.invokestatic 656, 3) := by decide +kernel
theorem dX12_qJoins_141 : decode cX12_qJoins 141 = .ok (.invokevirtual 434, 3) := by decide +kernel
theorem dX12_qJoins_144 : decode cX12_qJoins 144 = .ok (.goto 129, 3) := by decide +kernel
theorem dX12_qJoins_147 : decode cX12_qJoins 147 = .ok (.aload_n 0, 1) := by decide +kernel
theorem dX12_qJoins_148 : decode cX12_qJoins 148 = .ok (.lload 4, 2) := by decide +kernel
theorem dX12_qJoins_150 : decode cX12_qJoins 150 = .ok (.lload_n 2, 1) := by decide +kernel
theorem dX12_qJoins_151 : decode cX12_qJoins 151 = .ok (.lcmp, 1) := by decide +kernel
theorem dX12_qJoins_152 : decode cX12_qJoins 152 = .ok (.ifCond .ge 8, 3) := by decide +kernel
theorem dX12_qJoins_155 : decode cX12_qJoins 155 = .ok (.lload 4, 2) := by decide +kernel
theorem dX12_qJoins_157 : decode cX12_qJoins 157 = .ok (.goto 4, 3) := by decide +kernel
theorem dX12_qJoins_160 : decode cX12_qJoins 160 = .ok (.lload_n 2, 1) := by decide +kernel
theorem dX12_qJoins_161 : decode cX12_qJoins 161 = .ok (.invokevirtual 434, 3) := by decide +kernel
theorem dX12_qJoins_164 : decode cX12_qJoins 164 = .ok (.goto 109, 3) := by decide +kernel
theorem dX12_qJoins_167 : decode cX12_qJoins 167 = .ok (.aload_n 0, 1) := by decide +kernel
theorem dX12_qJoins_168 : decode cX12_qJoins 168 = .ok (.lload 4, 2) := by decide +kernel
theorem dX12_qJoins_170 : decode cX12_qJoins 170 = .ok (.lload_n 2, 1) := by decide +kernel
theorem dX12_qJoins_171 : decode cX12_qJoins 171 = .ok (.lcmp, 1) := by decide +kernel
theorem dX12_qJoins_172 : decode cX12_qJoins 172 = .ok (.ifCond .le 8, 3) := by decide +kernel
theorem dX12_qJoins_175 : decode cX12_qJoins 175 = .ok (.lload 4, 2) := by decide +kernel
theorem dX12_qJoins_177 : decode cX12_qJoins 177 = .ok (.goto 4, 3) := by decide +kernel
theorem dX12_qJoins_180 : decode cX12_qJoins 180 = .ok (.lload_n 2, 1) := by decide +kernel
theorem dX12_qJoins_181 : decode cX12_qJoins 181 = .ok (.invokevirtual 434, 3) := by decide +kernel
theorem dX12_qJoins_184 : decode cX12_qJoins 184 = .ok (.goto 89, 3) := by decide +kernel
theorem dX12_qJoins_187 : decode cX12_qJoins 187 = .ok (.aload_n 0, 1) := by decide +kernel
theorem dX12_qJoins_188 : decode cX12_qJoins 188 = .ok (.lload 4, 2) := by decide +kernel
theorem dX12_qJoins_190 : decode cX12_qJoins 190 = .ok (.lload_n 2, 1) := by decide +kernel
theorem dX12_qJoins_191 : decode cX12_qJoins 191 = .ok (.lcmp, 1) := by decide +kernel
theorem dX12_qJoins_192 : decode cX12_qJoins 192 = .ok (.ifCond .ge 7, 3) := by decide +kernel
theorem dX12_qJoins_195 : decode cX12_qJoins 195 = .ok (.lconst 1, 1) := by decide +kernel
theorem dX12_qJoins_196 : decode cX12_qJoins 196 = .ok (.goto 4, 3) := by decide +kernel
theorem dX12_qJoins_199 : decode cX12_qJoins 199 = .ok (.lconst 0, 1) := by decide +kernel
theorem dX12_qJoins_200 : decode cX12_qJoins 200 = .ok (.invokevirtual 434, 3) := by decide +kernel
theorem dX12_qJoins_203 : decode cX12_qJoins 203 = .ok (.goto 70, 3) := by decide +kernel
theorem dX12_qJoins_206 : decode cX12_qJoins 206 = .ok (.aload_n 0, 1) := by decide +kernel
theorem dX12_qJoins_207 : decode cX12_qJoins 207 = .ok (.lload 4, 2) := by decide +kernel
theorem dX12_qJoins_209 : decode cX12_qJoins 209 = .ok (.lload_n 2, 1) := by decide +kernel
theorem dX12_qJoins_210 : decode cX12_qJoins 210 = .ok (.lcmp, 1) := by decide +kernel
theorem dX12_qJoins_211 : decode cX12_qJoins 211 = .ok (.ifCond .le 7, 3) := by decide +kernel
theorem dX12_qJoins_214 : decode cX12_qJoins 214 = .ok (.lconst 1, 1) := by decide +kernel
theorem dX12_qJoins_215 : decode cX12_qJoins 215 = .ok (.goto 4, 3) := by decide +kernel
theorem dX12_qJoins_218 : decode cX12_qJoins 218 = .ok (.lconst 0, 1) := by decide +kernel
theorem dX12_qJoins_219 : decode cX12_qJoins 219 = .ok (.invokevirtual 434, 3) := by decide +kernel
theorem dX12_qJoins_222 : decode cX12_qJoins 222 = .ok (.goto 51, 3) := by decide +kernel
theorem dX12_qJoins_225 : decode cX12_qJoins 225 = .ok (.aload_n 0, 1) := by decide +kernel
theorem dX12_qJoins_226 : decode cX12_qJoins 226 = .ok (.lload 4, 2) := by decide +kernel
theorem dX12_qJoins_228 : decode cX12_qJoins 228 = .ok (.lload_n 2, 1) := by decide +kernel
theorem dX12_qJoins_229 : decode cX12_qJoins 229 = .ok (.lcmp, 1) := by decide +kernel
theorem dX12_qJoins_230 : decode cX12_qJoins 230 = .ok (.ifCond .ne 7, 3) := by decide +kernel
theorem dX12_qJoins_233 : decode cX12_qJoins 233 = .ok (.lconst 1, 1) := by decide +kernel
theorem dX12_qJoins_234 : decode cX12_qJoins 234 = .ok (.goto 4, 3) := by decide +kernel
theorem dX12_qJoins_237 : decode cX12_qJoins 237 = .ok (.lconst 0, 1) := by decide +kernel
theorem dX12_qJoins_238 : decode cX12_qJoins 238 = .ok (.invokevirtual 434, 3) := by decide +kernel
theorem dX12_qJoins_241 : decode cX12_qJoins 241 = .ok (.goto 32, 3) := by decide +kernel
theorem dX12_qJoins_244 : decode cX12_qJoins 244 = .ok (.aload_n 0, 1) := by decide +kernel
theorem dX12_qJoins_245 : decode cX12_qJoins 245 = .ok (.lload 4, 2) := by decide +kernel
theorem dX12_qJoins_247 : decode cX12_qJoins 247 = .ok (.lload_n 2, 1) := by decide +kernel
theorem dX12_qJoins_248 : decode cX12_qJoins 248 = .ok (.lmul, 1) := by decide +kernel
theorem dX12_qJoins_249 : decode cX12_qJoins 249 = .ok (.invokevirtual 434, 3) := by decide +kernel
theorem dX12_qJoins_252 : decode cX12_qJoins 252 = .ok (.goto 21, 3) := by decide +kernel
theorem dX12_qJoins_255 : decode cX12_qJoins 255 = .ok (.aload_n 0, 1) := by decide +kernel
theorem dX12_qJoins_256 : decode cX12_qJoins 256 = .ok (.lload 4, 2) := by decide +kernel
theorem dX12_qJoins_258 : decode cX12_qJoins 258 = .ok (.lload_n 2, 1) := by decide +kernel
theorem dX12_qJoins_259 : decode cX12_qJoins 259 = .ok (.ladd, 1) := by decide +kernel
theorem dX12_qJoins_260 : decode cX12_qJoins 260 = .ok (.lconst 0, 1) := by decide +kernel
theorem dX12_qJoins_261 : decode cX12_qJoins 261 = .ok (.lcmp, 1) := by decide +kernel
theorem dX12_qJoins_262 : decode cX12_qJoins 262 = .ok (.ifCond .le 7, 3) := by decide +kernel
theorem dX12_qJoins_265 : decode cX12_qJoins 265 = .ok (.lconst 1, 1) := by decide +kernel
theorem dX12_qJoins_266 : decode cX12_qJoins 266 = .ok (.goto 4, 3) := by decide +kernel
theorem dX12_qJoins_269 : decode cX12_qJoins 269 = .ok (.lconst 0, 1) := by decide +kernel
theorem dX12_qJoins_270 : decode cX12_qJoins 270 = .ok (.invokevirtual 434, 3) := by decide +kernel
theorem dX12_qJoins_273 : decode cX12_qJoins 273 = .ok (.return_, 1) := by decide +kernel
theorem dX12_qTakes_0 : decode cX12_qTakes 0 = .ok (.iload_n 1, 1) := by decide +kernel
theorem dX12_qTakes_1 : decode cX12_qTakes 1 = .ok (.iconst 3, 1) := by decide +kernel
theorem dX12_qTakes_2 : decode cX12_qTakes 2 = .ok (.if_icmp .ge 13, 3) := by decide +kernel
theorem dX12_qTakes_5 : decode cX12_qTakes 5 = .ok (.lload_n 2, 1) := by decide +kernel
theorem dX12_qTakes_6 : decode cX12_qTakes 6 = .ok (.lconst 1, 1) := by decide +kernel
theorem dX12_qTakes_7 : decode cX12_qTakes 7 = .ok (.lcmp, 1) := by decide +kernel
theorem dX12_qTakes_8 : decode cX12_qTakes 8 = .ok (.ifCond .ne 7, 3) := by decide +kernel
theorem dX12_qTakes_11 : decode cX12_qTakes 11 = .ok (.iconst 1, 1) := by decide +kernel
theorem dX12_qTakes_12 : decode cX12_qTakes 12 = .ok (.goto 4, 3) := by decide +kernel
theorem dX12_qTakes_15 : decode cX12_qTakes 15 = .ok (.iconst 0, 1) := by decide +kernel
theorem dX12_qTakes_16 : decode cX12_qTakes 16 = .ok (.istore 5, 2) := by decide +kernel
theorem dX12_qTakes_18 : decode cX12_qTakes 18 = .ok (.iload_n 1, 1) := by decide +kernel
theorem dX12_qTakes_19 : decode cX12_qTakes 19 = .ok (.ifCond .ne 19, 3) := by decide +kernel
theorem dX12_qTakes_22 : decode cX12_qTakes 22 = .ok (.iload 5, 2) := by decide +kernel
theorem dX12_qTakes_24 : decode cX12_qTakes 24 = .ok (.ifCond .eq 14, 3) := by decide +kernel
theorem dX12_qTakes_27 : decode cX12_qTakes 27 = .ok (.aload_n 0, 1) := by decide +kernel
theorem dX12_qTakes_28 : decode cX12_qTakes 28 = .ok (.getfield 664, 3) := by decide +kernel
theorem dX12_qTakes_31 : decode cX12_qTakes 31 = .ok (.ldc2_w 667, 3) := by decide +kernel
theorem dX12_qTakes_34 : decode cX12_qTakes 34 = .ok (.lcmp, 1) := by decide +kernel
theorem dX12_qTakes_35 : decode cX12_qTakes 35 = .ok (.ifCond .eq 13, 3) := by decide +kernel
theorem dX12_qTakes_38 : decode cX12_qTakes 38 = .ok (.iload_n 1, 1) := by decide +kernel
theorem dX12_qTakes_39 : decode cX12_qTakes 39 = .ok (.iconst 1, 1) := by decide +kernel
theorem dX12_qTakes_40 : decode cX12_qTakes 40 = .ok (.if_icmp .ne 15, 3) := by decide +kernel
theorem dX12_qTakes_43 : decode cX12_qTakes 43 = .ok (.iload 5, 2) := by decide +kernel
theorem dX12_qTakes_45 : decode cX12_qTakes 45 = .ok (.ifCond .eq 10, 3) := by decide +kernel
theorem dX12_qTakes_48 : decode cX12_qTakes 48 = .ok (.aload_n 0, 1) := by decide +kernel
theorem dX12_qTakes_49 : decode cX12_qTakes 49 = .ok (.iload 4, 2) := by decide +kernel
theorem dX12_qTakes_51 : decode cX12_qTakes 51 = .ok (.i2l, 1) := by decide +kernel
theorem dX12_qTakes_52 : decode cX12_qTakes 52 = .ok (.putfield 664, 3) := by decide +kernel
theorem dX12_qTakes_55 : decode cX12_qTakes 55 = .ok (.iload_n 1, 1) := by decide +kernel
theorem dX12_qTakes_56 : decode cX12_qTakes 56 = .ok (.iconst 2, 1) := by decide +kernel
theorem dX12_qTakes_57 : decode cX12_qTakes 57 = .ok (.if_icmp .ne 18, 3) := by decide +kernel
theorem dX12_qTakes_60 : decode cX12_qTakes 60 = .ok (.iload 5, 2) := by decide +kernel
theorem dX12_qTakes_62 : decode cX12_qTakes 62 = .ok (.ifCond .eq 13, 3) := by decide +kernel
theorem dX12_qTakes_65 : decode cX12_qTakes 65 = .ok (.aload_n 0, 1) := by decide +kernel
theorem dX12_qTakes_66 : decode cX12_qTakes 66 = .ok (.dup, 1) := by decide +kernel
theorem dX12_qTakes_67 : decode cX12_qTakes 67 = .ok (.getfield 664, 3) := by decide +kernel
theorem dX12_qTakes_70 : decode cX12_qTakes 70 = .ok (.lconst 1, 1) := by decide +kernel
theorem dX12_qTakes_71 : decode cX12_qTakes 71 = .ok (.ladd, 1) := by decide +kernel
theorem dX12_qTakes_72 : decode cX12_qTakes 72 = .ok (.putfield 664, 3) := by decide +kernel
theorem dX12_qTakes_75 : decode cX12_qTakes 75 = .ok (.iload_n 1, 1) := by decide +kernel
theorem dX12_qTakes_76 : decode cX12_qTakes 76 = .ok (.iconst 3, 1) := by decide +kernel
theorem dX12_qTakes_77 : decode cX12_qTakes 77 = .ok (.if_icmp .ne 13, 3) := by decide +kernel
theorem dX12_qTakes_80 : decode cX12_qTakes 80 = .ok (.aload_n 0, 1) := by decide +kernel
theorem dX12_qTakes_81 : decode cX12_qTakes 81 = .ok (.dup, 1) := by decide +kernel
theorem dX12_qTakes_82 : decode cX12_qTakes 82 = .ok (.getfield 664, 3) := by decide +kernel
theorem dX12_qTakes_85 : decode cX12_qTakes 85 = .ok (.lload_n 2, 1) := by decide +kernel
theorem dX12_qTakes_86 : decode cX12_qTakes 86 = .ok (.ladd, 1) := by decide +kernel
theorem dX12_qTakes_87 : decode cX12_qTakes 87 = .ok (.putfield 664, 3) := by decide +kernel
theorem dX12_qTakes_90 : decode cX12_qTakes 90 = .ok (.iload_n 1, 1) := by decide +kernel
theorem dX12_qTakes_91 : decode cX12_qTakes 91 = .ok (.iconst 3, 1) := by decide +kernel
theorem dX12_qTakes_92 : decode cX12_qTakes 92 = .ok (.if_icmp .le 41, 3) := by decide +kernel
theorem dX12_qTakes_95 : decode cX12_qTakes 95 = .ok (.aload_n 0, 1) := by decide +kernel
theorem dX12_qTakes_96 : decode cX12_qTakes 96 = .ok (.getfield 669, 3) := by decide +kernel
theorem dX12_qTakes_99 : decode cX12_qTakes 99 = .ok (.ifCond .ne 29, 3) := by decide +kernel
theorem dX12_qTakes_102 : decode cX12_qTakes 102 = .ok (.iload_n 1, 1) := by decide +kernel
theorem dX12_qTakes_103 : decode cX12_qTakes 103 = .ok (.iconst 4, 1) := by decide +kernel
theorem dX12_qTakes_104 : decode cX12_qTakes 104 = .ok (.if_icmp .ne 15, 3) := by decide +kernel
theorem dX12_qTakes_107 : decode cX12_qTakes 107 = .ok (.lload_n 2, 1) := by decide +kernel
theorem dX12_qTakes_108 : decode cX12_qTakes 108 = .ok (.aload_n 0, 1) := by decide +kernel
theorem dX12_qTakes_109 : decode cX12_qTakes 109 = .ok (.getfield 664, 3) := by decide +kernel
theorem dX12_qTakes_112 : decode cX12_qTakes 112 = .ok (.lcmp, 1) := by decide +kernel
theorem dX12_qTakes_113 : decode cX12_qTakes 113 = .ok (.ifCond .le 20, 3) := by decide +kernel
theorem dX12_qTakes_116 : decode cX12_qTakes 116 = .ok (.goto 12, 3) := by decide +kernel
theorem dX12_qTakes_119 : decode cX12_qTakes 119 = .ok (.lload_n 2, 1) := by decide +kernel
theorem dX12_qTakes_120 : decode cX12_qTakes 120 = .ok (.aload_n 0, 1) := by decide +kernel
theorem dX12_qTakes_121 : decode cX12_qTakes 121 = .ok (.getfield 664, 3) := by decide +kernel
theorem dX12_qTakes_124 : decode cX12_qTakes 124 = .ok (.lcmp, 1) := by decide +kernel
theorem dX12_qTakes_125 : decode cX12_qTakes 125 = .ok (.ifCond .ge 8, 3) := by decide +kernel
theorem dX12_qTakes_128 : decode cX12_qTakes 128 = .ok (.aload_n 0, 1) := by decide +kernel
theorem dX12_qTakes_129 : decode cX12_qTakes 129 = .ok (.lload_n 2, 1) := by decide +kernel
theorem dX12_qTakes_130 : decode cX12_qTakes 130 = .ok (.putfield 664, 3) := by decide +kernel
theorem dX12_qTakes_133 : decode cX12_qTakes 133 = .ok (.aload_n 0, 1) := by decide +kernel
theorem dX12_qTakes_134 : decode cX12_qTakes 134 = .ok (.iconst 0, 1) := by decide +kernel
theorem dX12_qTakes_135 : decode cX12_qTakes 135 = .ok (.putfield 669, 3) := by decide +kernel
theorem dX12_qTakes_138 : decode cX12_qTakes 138 = .ok (.return_, 1) := by decide +kernel
theorem dX12_isIn_0 : decode cX12_isIn 0 = .ok (.lload_n 0, 1) := by decide +kernel
theorem dX12_isIn_1 : decode cX12_isIn 1 = .ok (.lload_n 2, 1) := by decide +kernel
theorem dX12_isIn_2 : decode cX12_isIn 2 = .ok (.lcmp, 1) := by decide +kernel
theorem dX12_isIn_3 : decode cX12_isIn 3 = .ok (.ifCond .lt 14, 3) := by decide +kernel
theorem dX12_isIn_6 : decode cX12_isIn 6 = .ok (.lload_n 0, 1) := by decide +kernel
theorem dX12_isIn_7 : decode cX12_isIn 7 = .ok (.lload 4, 2) := by decide +kernel
theorem dX12_isIn_9 : decode cX12_isIn 9 = .ok (.lcmp, 1) := by decide +kernel
theorem dX12_isIn_10 : decode cX12_isIn 10 = .ok (.ifCond .gt 7, 3) := by decide +kernel
theorem dX12_isIn_13 : decode cX12_isIn 13 = .ok (.iconst 1, 1) := by decide +kernel
theorem dX12_isIn_14 : decode cX12_isIn 14 = .ok (.goto 4, 3) := by decide +kernel
theorem dX12_isIn_17 : decode cX12_isIn 17 = .ok (.iconst 0, 1) := by decide +kernel
theorem dX12_isIn_18 : decode cX12_isIn 18 = .ok (.ireturn, 1) := by decide +kernel
theorem dX12_mail_0 : decode cX12_mail 0 = .ok (.aload_n 0, 1) := by decide +kernel
theorem dX12_mail_1 : decode cX12_mail 1 = .ok (.iload_n 1, 1) := by decide +kernel
theorem dX12_mail_2 : decode cX12_mail 2 = .ok (.invokevirtual 501, 3) := by decide +kernel
theorem dX12_mail_5 : decode cX12_mail 5 = .ok (.ifCond .ne 5, 3) := by decide +kernel
theorem dX12_mail_8 : decode cX12_mail 8 = .ok (.iconst (-1), 1) := by decide +kernel
theorem dX12_mail_9 : decode cX12_mail 9 = .ok (.ireturn, 1) := by decide +kernel
theorem dX12_mail_10 : decode cX12_mail 10 = .ok (.iload_n 2, 1) := by decide +kernel
theorem dX12_mail_11 : decode cX12_mail 11 = .ok (.tableswitch 97 0 7 #[45, 45, 45, 59, 67, 73, 81, 87], 45) := by decide +kernel
theorem dX12_mail_56 : decode cX12_mail 56 = .ok (.aload_n 0, 1) := by decide +kernel
theorem dX12_mail_57 : decode cX12_mail 57 = .ok (.getfield 112, 3) := by decide +kernel
theorem dX12_mail_60 : decode cX12_mail 60 = .ok (.bipush 24, 2) := by decide +kernel
theorem dX12_mail_62 : decode cX12_mail 62 = .ok (.iconst 3, 1) := by decide +kernel
theorem dX12_mail_63 : decode cX12_mail 63 = .ok (.iload_n 1, 1) := by decide +kernel
theorem dX12_mail_64 : decode cX12_mail 64 = .ok (.imul, 1) := by decide +kernel
theorem dX12_mail_65 : decode cX12_mail 65 = .ok (.iadd, 1) := by decide +kernel
theorem dX12_mail_66 : decode cX12_mail 66 = .ok (.iload_n 2, 1) := by decide +kernel
theorem dX12_mail_67 : decode cX12_mail 67 = .ok (.iadd, 1) := by decide +kernel
theorem dX12_mail_68 : decode cX12_mail 68 = .ok (.iaload, 1) := by decide +kernel
theorem dX12_mail_69 : decode cX12_mail 69 = .ok (.ireturn, 1) := by decide +kernel
theorem dX12_mail_70 : decode cX12_mail 70 = .ok (.aload_n 0, 1) := by decide +kernel
theorem dX12_mail_71 : decode cX12_mail 71 = .ok (.iload_n 1, 1) := by decide +kernel
theorem dX12_mail_72 : decode cX12_mail 72 = .ok (.invokevirtual 451, 3) := by decide +kernel
theorem dX12_mail_75 : decode cX12_mail 75 = .ok (.iconst 1, 1) := by decide +kernel
theorem dX12_mail_76 : decode cX12_mail 76 = .ok (.isub, 1) := by decide +kernel
theorem dX12_mail_77 : decode cX12_mail 77 = .ok (.ireturn, 1) := by decide +kernel
theorem dX12_mail_78 : decode cX12_mail 78 = .ok (.aload_n 0, 1) := by decide +kernel
theorem dX12_mail_79 : decode cX12_mail 79 = .ok (.iload_n 1, 1) := by decide +kernel
theorem dX12_mail_80 : decode cX12_mail 80 = .ok (.invokevirtual 504, 3) := by decide +kernel
theorem dX12_mail_83 : decode cX12_mail 83 = .ok (.ireturn, 1) := by decide +kernel
theorem dX12_mail_84 : decode cX12_mail 84 = .ok (.aload_n 0, 1) := by decide +kernel
theorem dX12_mail_85 : decode cX12_mail 85 = .ok (.iload_n 1, 1) := by decide +kernel
theorem dX12_mail_86 : decode cX12_mail 86 = .ok (.invokevirtual 507, 3) := by decide +kernel
theorem dX12_mail_89 : decode cX12_mail 89 = .ok (.iconst 1, 1) := by decide +kernel
theorem dX12_mail_90 : decode cX12_mail 90 = .ok (.isub, 1) := by decide +kernel
theorem dX12_mail_91 : decode cX12_mail 91 = .ok (.ireturn, 1) := by decide +kernel
theorem dX12_mail_92 : decode cX12_mail 92 = .ok (.aload_n 0, 1) := by decide +kernel
theorem dX12_mail_93 : decode cX12_mail 93 = .ok (.iload_n 1, 1) := by decide +kernel
theorem dX12_mail_94 : decode cX12_mail 94 = .ok (.invokevirtual 510, 3) := by decide +kernel
theorem dX12_mail_97 : decode cX12_mail 97 = .ok (.ireturn, 1) := by decide +kernel
theorem dX12_mail_98 : decode cX12_mail 98 = .ok (.aload_n 0, 1) := by decide +kernel
theorem dX12_mail_99 : decode cX12_mail 99 = .ok (.getfield 121, 3) := by decide +kernel
theorem dX12_mail_102 : decode cX12_mail 102 = .ok (.bipush 8, 2) := by decide +kernel
theorem dX12_mail_104 : decode cX12_mail 104 = .ok (.iload_n 1, 1) := by decide +kernel
theorem dX12_mail_105 : decode cX12_mail 105 = .ok (.iadd, 1) := by decide +kernel
theorem dX12_mail_106 : decode cX12_mail 106 = .ok (.iaload, 1) := by decide +kernel
theorem dX12_mail_107 : decode cX12_mail 107 = .ok (.ireturn, 1) := by decide +kernel
theorem dX12_mail_108 : decode cX12_mail 108 = .ok (.iconst (-1), 1) := by decide +kernel
theorem dX12_mail_109 : decode cX12_mail 109 = .ok (.ireturn, 1) := by decide +kernel
theorem dX12_give_0 : decode cX12_give 0 = .ok (.aload_n 0, 1) := by decide +kernel
theorem dX12_give_1 : decode cX12_give 1 = .ok (.iload_n 1, 1) := by decide +kernel
theorem dX12_give_2 : decode cX12_give 2 = .ok (.invokevirtual 501, 3) := by decide +kernel
theorem dX12_give_5 : decode cX12_give 5 = .ok (.ifCond .eq 30, 3) := by decide +kernel
theorem dX12_give_8 : decode cX12_give 8 = .ok (.aload_n 0, 1) := by decide +kernel
theorem dX12_give_9 : decode cX12_give 9 = .ok (.iload_n 2, 1) := by decide +kernel
theorem dX12_give_10 : decode cX12_give 10 = .ok (.invokevirtual 513, 3) := by decide +kernel
theorem dX12_give_13 : decode cX12_give 13 = .ok (.ifCond .eq 22, 3) := by decide +kernel
theorem dX12_give_16 : decode cX12_give 16 = .ok (.aload_n 0, 1) := by decide +kernel
theorem dX12_give_17 : decode cX12_give 17 = .ok (.iload_n 1, 1) := by decide +kernel
theorem dX12_give_18 : decode cX12_give 18 = .ok (.invokevirtual 507, 3) := by decide +kernel
theorem dX12_give_21 : decode cX12_give 21 = .ok (.ifCond .gt 14, 3) := by decide +kernel
theorem dX12_give_24 : decode cX12_give 24 = .ok (.aload_n 0, 1) := by decide +kernel
theorem dX12_give_25 : decode cX12_give 25 = .ok (.getfield 142, 3) := by decide +kernel
theorem dX12_give_28 : decode cX12_give 28 = .ok (.iconst 4, 1) := by decide +kernel
theorem dX12_give_29 : decode cX12_give 29 = .ok (.iload_n 2, 1) := by decide +kernel
theorem dX12_give_30 : decode cX12_give 30 = .ok (.iadd, 1) := by decide +kernel
theorem dX12_give_31 : decode cX12_give 31 = .ok (.iaload, 1) := by decide +kernel
theorem dX12_give_32 : decode cX12_give 32 = .ok (.ifCond .ne 9, 3) := by decide +kernel
theorem dX12_give_35 : decode cX12_give 35 = .ok (.aload_n 0, 1) := by decide +kernel
theorem dX12_give_36 : decode cX12_give 36 = .ok (.iconst 2, 1) := by decide +kernel
theorem dX12_give_37 : decode cX12_give 37 = .ok (.invokevirtual 560, 3) := by decide +kernel
theorem dX12_give_40 : decode cX12_give 40 = .ok (.ireturn, 1) := by decide +kernel
theorem dX12_give_41 : decode cX12_give 41 = .ok (.aload_n 0, 1) := by decide +kernel
theorem dX12_give_42 : decode cX12_give 42 = .ok (.invokevirtual 575, 3) := by decide +kernel
theorem dX12_give_45 : decode cX12_give 45 = .ok (.aload_n 0, 1) := by decide +kernel
theorem dX12_give_46 : decode cX12_give 46 = .ok (.getfield 142, 3) := by decide +kernel
theorem dX12_give_49 : decode cX12_give 49 = .ok (.iconst 4, 1) := by decide +kernel
theorem dX12_give_50 : decode cX12_give 50 = .ok (.iload_n 2, 1) := by decide +kernel
theorem dX12_give_51 : decode cX12_give 51 = .ok (.iadd, 1) := by decide +kernel
theorem dX12_give_52 : decode cX12_give 52 = .ok (.dup2, 1) := by decide +kernel
theorem dX12_give_53 : decode cX12_give 53 = .ok (.iaload, 1) := by decide +kernel
theorem dX12_give_54 : decode cX12_give 54 = .ok (.iconst 1, 1) := by decide +kernel
theorem dX12_give_55 : decode cX12_give 55 = .ok (.isub, 1) := by decide +kernel
theorem dX12_give_56 : decode cX12_give 56 = .ok (.iastore, 1) := by decide +kernel
theorem dX12_give_57 : decode cX12_give 57 = .ok (.aload_n 0, 1) := by decide +kernel
theorem dX12_give_58 : decode cX12_give 58 = .ok (.getfield 142, 3) := by decide +kernel
theorem dX12_give_61 : decode cX12_give 61 = .ok (.bipush 8, 2) := by decide +kernel
theorem dX12_give_63 : decode cX12_give 63 = .ok (.iconst 3, 1) := by decide +kernel
theorem dX12_give_64 : decode cX12_give 64 = .ok (.iload_n 1, 1) := by decide +kernel
theorem dX12_give_65 : decode cX12_give 65 = .ok (.imul, 1) := by decide +kernel
theorem dX12_give_66 : decode cX12_give 66 = .ok (.iadd, 1) := by decide +kernel
theorem dX12_give_67 : decode cX12_give 67 = .ok (.iconst 2, 1) := by decide +kernel
theorem dX12_give_68 : decode cX12_give 68 = .ok (.iadd, 1) := by decide +kernel
theorem dX12_give_69 : decode cX12_give 69 = .ok (.iload_n 2, 1) := by decide +kernel
theorem dX12_give_70 : decode cX12_give 70 = .ok (.iconst 1, 1) := by decide +kernel
theorem dX12_give_71 : decode cX12_give 71 = .ok (.iadd, 1) := by decide +kernel
theorem dX12_give_72 : decode cX12_give 72 = .ok (.iastore, 1) := by decide +kernel
theorem dX12_give_73 : decode cX12_give 73 = .ok (.aload_n 0, 1) := by decide +kernel
theorem dX12_give_74 : decode cX12_give 74 = .ok (.getfield 142, 3) := by decide +kernel
theorem dX12_give_77 : decode cX12_give 77 = .ok (.iconst 4, 1) := by decide +kernel
theorem dX12_give_78 : decode cX12_give 78 = .ok (.iload_n 2, 1) := by decide +kernel
theorem dX12_give_79 : decode cX12_give 79 = .ok (.iadd, 1) := by decide +kernel
theorem dX12_give_80 : decode cX12_give 80 = .ok (.iaload, 1) := by decide +kernel
theorem dX12_give_81 : decode cX12_give 81 = .ok (.ireturn, 1) := by decide +kernel
theorem dX12_finished_0 : decode cX12_finished 0 = .ok (.iconst 0, 1) := by decide +kernel
theorem dX12_finished_1 : decode cX12_finished 1 = .ok (.istore_n 1, 1) := by decide +kernel
theorem dX12_finished_2 : decode cX12_finished 2 = .ok (.aload_n 0, 1) := by decide +kernel
theorem dX12_finished_3 : decode cX12_finished 3 = .ok (.invokevirtual 527, 3) := by decide +kernel
theorem dX12_finished_6 : decode cX12_finished 6 = .ok (.aload_n 0, 1) := by decide +kernel
theorem dX12_finished_7 : decode cX12_finished 7 = .ok (.invokevirtual 533, 3) := by decide +kernel
theorem dX12_finished_10 : decode cX12_finished 10 = .ok (.aload_n 0, 1) := by decide +kernel
theorem dX12_finished_11 : decode cX12_finished 11 = .ok (.invokevirtual 419, 3) := by decide +kernel
theorem dX12_finished_14 : decode cX12_finished 14 = .ok (.if_icmp .ge 32, 3) := by decide +kernel
theorem dX12_finished_17 : decode cX12_finished 17 = .ok (.iload_n 1, 1) := by decide +kernel
theorem dX12_finished_18 : decode cX12_finished 18 = .ok (.bipush 30, 2) := by decide +kernel
theorem dX12_finished_20 : decode cX12_finished 20 = .ok (.if_icmp .ge 26, 3) := by decide +kernel
theorem dX12_finished_23 : decode cX12_finished 23 = .ok (.aload_n 0, 1) := by decide +kernel
theorem dX12_finished_24 : decode cX12_finished 24 = .ok (.getfield 142, 3) := by decide +kernel
theorem dX12_finished_27 : decode cX12_finished 27 = .ok (.iconst 0, 1) := by decide +kernel
theorem dX12_finished_28 : decode cX12_finished 28 = .ok (.iaload, 1) := by decide +kernel
theorem dX12_finished_29 : decode cX12_finished 29 = .ok (.sipush 999, 3) := by decide +kernel
theorem dX12_finished_32 : decode cX12_finished 32 = .ok (.if_icmp .ge 14, 3) := by decide +kernel
theorem dX12_finished_35 : decode cX12_finished 35 = .ok (.aload_n 0, 1) := by decide +kernel
theorem dX12_finished_36 : decode cX12_finished 36 = .ok (.invokevirtual 530, 3) := by decide +kernel
theorem dX12_finished_39 : decode cX12_finished 39 = .ok (.pop, 1) := by decide +kernel
theorem dX12_finished_40 : decode cX12_finished 40 = .ok (.iinc 1 1, 3) := by decide +kernel
theorem dX12_finished_43 : decode cX12_finished 43 = .ok (.goto (-37), 3) := by decide +kernel
theorem dX12_finished_46 : decode cX12_finished 46 = .ok (.aload_n 0, 1) := by decide +kernel
theorem dX12_finished_47 : decode cX12_finished 47 = .ok (.invokevirtual 533, 3) := by decide +kernel
theorem dX12_finished_50 : decode cX12_finished 50 = .ok (.aload_n 0, 1) := by decide +kernel
theorem dX12_finished_51 : decode cX12_finished 51 = .ok (.invokevirtual 419, 3) := by decide +kernel
theorem dX12_finished_54 : decode cX12_finished 54 = .ok (.if_icmp .ne 7, 3) := by decide +kernel
theorem dX12_finished_57 : decode cX12_finished 57 = .ok (.iconst 1, 1) := by decide +kernel
theorem dX12_finished_58 : decode cX12_finished 58 = .ok (.goto 4, 3) := by decide +kernel
theorem dX12_finished_61 : decode cX12_finished 61 = .ok (.iconst 0, 1) := by decide +kernel
theorem dX12_finished_62 : decode cX12_finished 62 = .ok (.istore_n 2, 1) := by decide +kernel
theorem dX12_finished_63 : decode cX12_finished 63 = .ok (.aload_n 0, 1) := by decide +kernel
theorem dX12_finished_64 : decode cX12_finished 64 = .ok (.invokevirtual 536, 3) := by decide +kernel
theorem dX12_finished_67 : decode cX12_finished 67 = .ok (.iload_n 2, 1) := by decide +kernel
theorem dX12_finished_68 : decode cX12_finished 68 = .ok (.ifCond .eq 7, 3) := by decide +kernel
theorem dX12_finished_71 : decode cX12_finished 71 = .ok (.iload_n 1, 1) := by decide +kernel
theorem dX12_finished_72 : decode cX12_finished 72 = .ok (.goto 4, 3) := by decide +kernel
theorem dX12_finished_75 : decode cX12_finished 75 = .ok (.iconst (-1), 1) := by decide +kernel
theorem dX12_finished_76 : decode cX12_finished 76 = .ok (.ireturn, 1) := by decide +kernel
theorem dX12_manyWith_0 : decode cX12_manyWith 0 = .ok (.iconst 0, 1) := by decide +kernel
theorem dX12_manyWith_1 : decode cX12_manyWith 1 = .ok (.istore_n 2, 1) := by decide +kernel
theorem dX12_manyWith_2 : decode cX12_manyWith 2 = .ok (.iconst 0, 1) := by decide +kernel
theorem dX12_manyWith_3 : decode cX12_manyWith 3 = .ok (.istore_n 3, 1) := by decide +kernel
theorem dX12_manyWith_4 : decode cX12_manyWith 4 = .ok (.iload_n 3, 1) := by decide +kernel
theorem dX12_manyWith_5 : decode cX12_manyWith 5 = .ok (.aload_n 0, 1) := by decide +kernel
theorem dX12_manyWith_6 : decode cX12_manyWith 6 = .ok (.invokevirtual 419, 3) := by decide +kernel
theorem dX12_manyWith_9 : decode cX12_manyWith 9 = .ok (.if_icmp .ge 28, 3) := by decide +kernel
theorem dX12_manyWith_12 : decode cX12_manyWith 12 = .ok (.aload_n 0, 1) := by decide +kernel
theorem dX12_manyWith_13 : decode cX12_manyWith 13 = .ok (.getfield 142, 3) := by decide +kernel
theorem dX12_manyWith_16 : decode cX12_manyWith 16 = .ok (.bipush 8, 2) := by decide +kernel
theorem dX12_manyWith_18 : decode cX12_manyWith 18 = .ok (.iconst 3, 1) := by decide +kernel
theorem dX12_manyWith_19 : decode cX12_manyWith 19 = .ok (.iload_n 3, 1) := by decide +kernel
theorem dX12_manyWith_20 : decode cX12_manyWith 20 = .ok (.imul, 1) := by decide +kernel
theorem dX12_manyWith_21 : decode cX12_manyWith 21 = .ok (.iadd, 1) := by decide +kernel
theorem dX12_manyWith_22 : decode cX12_manyWith 22 = .ok (.iload_n 1, 1) := by decide +kernel
theorem dX12_manyWith_23 : decode cX12_manyWith 23 = .ok (.iadd, 1) := by decide +kernel
theorem dX12_manyWith_24 : decode cX12_manyWith 24 = .ok (.iaload, 1) := by decide +kernel
theorem dX12_manyWith_25 : decode cX12_manyWith 25 = .ok (.ifCond .le 6, 3) := by decide +kernel
theorem dX12_manyWith_28 : decode cX12_manyWith 28 = .ok (.iinc 2 1, 3) := by decide +kernel
theorem dX12_manyWith_31 : decode cX12_manyWith 31 = .ok (.iinc 3 1, 3) := by decide +kernel
theorem dX12_manyWith_34 : decode cX12_manyWith 34 = .ok (.goto (-30), 3) := by decide +kernel
theorem dX12_manyWith_37 : decode cX12_manyWith 37 = .ok (.iload_n 2, 1) := by decide +kernel
theorem dX12_manyWith_38 : decode cX12_manyWith 38 = .ok (.ireturn, 1) := by decide +kernel
theorem dX12_oddsIn_0 : decode cX12_oddsIn 0 = .ok (.lconst 1, 1) := by decide +kernel
theorem dX12_oddsIn_1 : decode cX12_oddsIn 1 = .ok (.lstore_n 1, 1) := by decide +kernel
theorem dX12_oddsIn_2 : decode cX12_oddsIn 2 = .ok (.iconst 0, 1) := by decide +kernel
theorem dX12_oddsIn_3 : decode cX12_oddsIn 3 = .ok (.istore_n 3, 1) := by decide +kernel
theorem dX12_oddsIn_4 : decode cX12_oddsIn 4 = .ok (.iload_n 3, 1) := by decide +kernel
theorem dX12_oddsIn_5 : decode cX12_oddsIn 5 = .ok (.aload_n 0, 1) := by decide +kernel
theorem dX12_oddsIn_6 : decode cX12_oddsIn 6 = .ok (.invokevirtual 419, 3) := by decide +kernel
theorem dX12_oddsIn_9 : decode cX12_oddsIn 9 = .ok (.if_icmp .ge 85, 3) := by decide +kernel
theorem dX12_oddsIn_12 : decode cX12_oddsIn 12 = .ok (.iload_n 3, 1) := by decide +kernel
theorem dX12_oddsIn_13 : decode cX12_oddsIn 13 = .ok (.iconst 1, 1) := by decide +kernel
theorem dX12_oddsIn_14 : decode cX12_oddsIn 14 = .ok (.iadd, 1) := by decide +kernel
theorem dX12_oddsIn_15 : decode cX12_oddsIn 15 = .ok (.istore 4, 2) := by decide +kernel
theorem dX12_oddsIn_17 : decode cX12_oddsIn 17 = .ok (.iload 4, 2) := by decide +kernel
theorem dX12_oddsIn_19 : decode cX12_oddsIn 19 = .ok (.aload_n 0, 1) := by decide +kernel
theorem dX12_oddsIn_20 : decode cX12_oddsIn 20 = .ok (.invokevirtual 419, 3) := by decide +kernel
theorem dX12_oddsIn_23 : decode cX12_oddsIn 23 = .ok (.if_icmp .ge 65, 3) := by decide +kernel
theorem dX12_oddsIn_26 : decode cX12_oddsIn 26 = .ok (.aload_n 0, 1) := by decide +kernel
theorem dX12_oddsIn_27 : decode cX12_oddsIn 27 = .ok (.getfield 124, 3) := by decide +kernel
theorem dX12_oddsIn_30 : decode cX12_oddsIn 30 = .ok (.bipush 64, 2) := by decide +kernel
theorem dX12_oddsIn_32 : decode cX12_oddsIn 32 = .ok (.bipush 8, 2) := by decide +kernel
theorem dX12_oddsIn_34 : decode cX12_oddsIn 34 = .ok (.iload_n 3, 1) := by decide +kernel
theorem dX12_oddsIn_35 : decode cX12_oddsIn 35 = .ok (.imul, 1) := by decide +kernel
theorem dX12_oddsIn_36 : decode cX12_oddsIn 36 = .ok (.iadd, 1) := by decide +kernel
theorem dX12_oddsIn_37 : decode cX12_oddsIn 37 = .ok (.iload 4, 2) := by decide +kernel
theorem dX12_oddsIn_39 : decode cX12_oddsIn 39 = .ok (.iadd, 1) := by decide +kernel
theorem dX12_oddsIn_40 : decode cX12_oddsIn 40 = .ok (.iaload, 1) := by decide +kernel
theorem dX12_oddsIn_41 : decode cX12_oddsIn 41 = .ok (.iconst 1, 1) := by decide +kernel
theorem dX12_oddsIn_42 : decode cX12_oddsIn 42 = .ok (.isub, 1) := by decide +kernel
theorem dX12_oddsIn_43 : decode cX12_oddsIn 43 = .ok (.istore 5, 2) := by decide +kernel
theorem dX12_oddsIn_45 : decode cX12_oddsIn 45 = .ok (.iload 5, 2) := by decide +kernel
theorem dX12_oddsIn_47 : decode cX12_oddsIn 47 = .ok (.iconst (-1), 1) := by decide +kernel
theorem dX12_oddsIn_48 : decode cX12_oddsIn 48 = .ok (.if_icmp .eq 34, 3) := by decide +kernel
theorem dX12_oddsIn_51 : decode cX12_oddsIn 51 = .ok (.lload_n 1, 1) := by decide +kernel
theorem dX12_oddsIn_52 : decode cX12_oddsIn 52 = .ok (.aload_n 0, 1) := by decide +kernel
theorem dX12_oddsIn_53 : decode cX12_oddsIn 53 = .ok (.getfield 148, 3) := by decide +kernel
theorem dX12_oddsIn_56 : decode cX12_oddsIn 56 = .ok (.iload_n 3, 1) := by decide +kernel
theorem dX12_oddsIn_57 : decode cX12_oddsIn 57 = .ok (.iaload, 1) := by decide +kernel
theorem dX12_oddsIn_58 : decode cX12_oddsIn 58 = .ok (.aload_n 0, 1) := by decide +kernel
theorem dX12_oddsIn_59 : decode cX12_oddsIn 59 = .ok (.getfield 148, 3) := by decide +kernel
theorem dX12_oddsIn_62 : decode cX12_oddsIn 62 = .ok (.iload 4, 2) := by decide +kernel
theorem dX12_oddsIn_64 : decode cX12_oddsIn 64 = .ok (.iaload, 1) := by decide +kernel
theorem dX12_oddsIn_65 : decode cX12_oddsIn 65 = .ok (.if_icmp .ne 9, 3) := by decide +kernel
theorem dX12_oddsIn_68 : decode cX12_oddsIn 68 = .ok (.iload 5, 2) := by decide +kernel
theorem dX12_oddsIn_70 : decode cX12_oddsIn 70 = .ok (.i2l, 1) := by decide +kernel
theorem dX12_oddsIn_71 : decode cX12_oddsIn 71 = .ok (.goto 9, 3) := by decide +kernel
theorem dX12_oddsIn_74 : decode cX12_oddsIn 74 = .ok (.bipush 10, 2) := by decide +kernel
theorem dX12_oddsIn_76 : decode cX12_oddsIn 76 = .ok (.iload 5, 2) := by decide +kernel
theorem dX12_oddsIn_78 : decode cX12_oddsIn 78 = .ok (.isub, 1) := by decide +kernel
theorem dX12_oddsIn_79 : decode cX12_oddsIn 79 = .ok (.i2l, 1) := by decide +kernel
theorem dX12_oddsIn_80 : decode cX12_oddsIn 80 = .ok (.lmul, 1) := by decide +kernel
theorem dX12_oddsIn_81 : decode cX12_oddsIn 81 = .ok (.lstore_n 1, 1) := by decide +kernel
theorem dX12_oddsIn_82 : decode cX12_oddsIn 82 = .ok (.iinc 4 1, 3) := by decide +kernel
theorem dX12_oddsIn_85 : decode cX12_oddsIn 85 = .ok (.goto (-68), 3) := by decide +kernel
theorem dX12_oddsIn_88 : decode cX12_oddsIn 88 = .ok (.iinc 3 1, 3) := by decide +kernel
theorem dX12_oddsIn_91 : decode cX12_oddsIn 91 = .ok (.goto (-87), 3) := by decide +kernel
theorem dX12_oddsIn_94 : decode cX12_oddsIn 94 = .ok (.lload_n 1, 1) := by decide +kernel
theorem dX12_oddsIn_95 : decode cX12_oddsIn 95 = .ok (.lreturn, 1) := by decide +kernel
theorem dX12_isAllowed_0 : decode cX12_isAllowed 0 = .ok (.aload_n 0, 1) := by decide +kernel
theorem dX12_isAllowed_1 : decode cX12_isAllowed 1 = .ok (.getfield 318, 3) := by decide +kernel
theorem dX12_isAllowed_4 : decode cX12_isAllowed 4 = .ok (.ifCond .eq 17, 3) := by decide +kernel
theorem dX12_isAllowed_7 : decode cX12_isAllowed 7 = .ok (.iload_n 1, 1) := by decide +kernel
theorem dX12_isAllowed_8 : decode cX12_isAllowed 8 = .ok (.bipush 6, 2) := by decide +kernel
theorem dX12_isAllowed_10 : decode cX12_isAllowed 10 = .ok (.if_icmp .ge 7, 3) := by decide +kernel
theorem dX12_isAllowed_13 : decode cX12_isAllowed 13 = .ok (.iconst 1, 1) := by decide +kernel
theorem dX12_isAllowed_14 : decode cX12_isAllowed 14 = .ok (.goto 17, 3) := by decide +kernel
theorem dX12_isAllowed_17 : decode cX12_isAllowed 17 = .ok (.iconst 0, 1) := by decide +kernel
theorem dX12_isAllowed_18 : decode cX12_isAllowed 18 = .ok (.goto 13, 3) := by decide +kernel
theorem dX12_isAllowed_21 : decode cX12_isAllowed 21 = .ok (.iload_n 1, 1) := by decide +kernel
theorem dX12_isAllowed_22 : decode cX12_isAllowed 22 = .ok (.iconst 3, 1) := by decide +kernel
theorem dX12_isAllowed_23 : decode cX12_isAllowed 23 = .ok (.if_icmp .eq 7, 3) := by decide +kernel
theorem dX12_isAllowed_26 : decode cX12_isAllowed 26 = .ok (.iconst 1, 1) := by decide +kernel
theorem dX12_isAllowed_27 : decode cX12_isAllowed 27 = .ok (.goto 4, 3) := by decide +kernel
theorem dX12_isAllowed_30 : decode cX12_isAllowed 30 = .ok (.iconst 0, 1) := by decide +kernel
theorem dX12_isAllowed_31 : decode cX12_isAllowed 31 = .ok (.ireturn, 1) := by decide +kernel
theorem dX12_qTold_0 : decode cX12_qTold 0 = .ok (.aload_n 0, 1) := by decide +kernel
theorem dX12_qTold_1 : decode cX12_qTold 1 = .ok (.iconst 0, 1) := by decide +kernel
theorem dX12_qTold_2 : decode cX12_qTold 2 = .ok (.putfield 431, 3) := by decide +kernel
theorem dX12_qTold_5 : decode cX12_qTold 5 = .ok (.iconst 0, 1) := by decide +kernel
theorem dX12_qTold_6 : decode cX12_qTold 6 = .ok (.istore_n 2, 1) := by decide +kernel
theorem dX12_qTold_7 : decode cX12_qTold 7 = .ok (.iload_n 2, 1) := by decide +kernel
theorem dX12_qTold_8 : decode cX12_qTold 8 = .ok (.aload_n 0, 1) := by decide +kernel
theorem dX12_qTold_9 : decode cX12_qTold 9 = .ok (.getfield 352, 3) := by decide +kernel
theorem dX12_qTold_12 : decode cX12_qTold 12 = .ok (.if_icmp .ge 156, 3) := by decide +kernel
theorem dX12_qTold_15 : decode cX12_qTold 15 = .ok (.aload_n 0, 1) := by decide +kernel
theorem dX12_qTold_16 : decode cX12_qTold 16 = .ok (.getfield 248, 3) := by decide +kernel
theorem dX12_qTold_19 : decode cX12_qTold 19 = .ok (.iload_n 2, 1) := by decide +kernel
theorem dX12_qTold_20 : decode cX12_qTold 20 = .ok (.iaload, 1) := by decide +kernel
theorem dX12_qTold_21 : decode cX12_qTold 21 = .ok (.istore_n 3, 1) := by decide +kernel
theorem dX12_qTold_22 : decode cX12_qTold 22 = .ok (.iload_n 3, 1) := by decide +kernel
theorem dX12_qTold_23 : decode cX12_qTold 23 = .ok (.sipush 1000, 3) := by decide +kernel
theorem dX12_qTold_26 : decode cX12_qTold 26 = .ok (.if_icmp .lt 16, 3) := by decide +kernel
theorem dX12_qTold_29 : decode cX12_qTold 29 = .ok (.aload_n 0, 1) := by decide +kernel
theorem dX12_qTold_30 : decode cX12_qTold 30 = .ok (.iload_n 3, 1) := by decide +kernel
theorem dX12_qTold_31 : decode cX12_qTold 31 = .ok (.sipush 1000, 3) := by decide +kernel
theorem dX12_qTold_34 : decode cX12_qTold 34 = .ok (.isub, 1) := by decide +kernel
theorem dX12_qTold_35 : decode cX12_qTold 35 = .ok (.i2l, 1) := by decide +kernel
theorem dX12_qTold_36 : decode cX12_qTold 36 = .ok (.invokevirtual 434, 3) := by decide +kernel
theorem dX12_qTold_39 : decode cX12_qTold 39 = .ok (.goto 123, 3) := by decide +kernel
theorem dX12_qTold_42 : decode cX12_qTold 42 = .ok (.iload_n 3, 1) := by decide +kernel
theorem dX12_qTold_43 : decode cX12_qTold 43 = .ok (.bipush 60, 2) := by decide +kernel
theorem dX12_qTold_45 : decode cX12_qTold 45 = .ok (.if_icmp .lt 40, 3) := by decide +kernel
theorem dX12_qTold_48 : decode cX12_qTold 48 = .ok (.aload_n 0, 1) := by decide +kernel
theorem dX12_qTold_49 : decode cX12_qTold 49 = .ok (.getfield 254, 3) := by decide +kernel
theorem dX12_qTold_52 : decode cX12_qTold 52 = .ok (.aload_n 0, 1) := by decide +kernel
theorem dX12_qTold_53 : decode cX12_qTold 53 = .ok (.getfield 431, 3) := by decide +kernel
theorem dX12_qTold_56 : decode cX12_qTold 56 = .ok (.iconst 1, 1) := by decide +kernel
theorem dX12_qTold_57 : decode cX12_qTold 57 = .ok (.isub, 1) := by decide +kernel
theorem dX12_qTold_58 : decode cX12_qTold 58 = .ok (.aload_n 0, 1) := by decide +kernel
theorem dX12_qTold_59 : decode cX12_qTold 59 = .ok (.iload_n 3, 1) := by decide +kernel
theorem dX12_qTold_60 : decode cX12_qTold 60 = .ok (.bipush 60, 2) := by decide +kernel
theorem dX12_qTold_62 : decode cX12_qTold 62 = .ok (.isub, 1) := by decide +kernel
theorem dX12_qTold_63 : decode cX12_qTold 63 = .ok (.aload_n 0, 1) := by decide +kernel
theorem dX12_qTold_64 : decode cX12_qTold 64 = .ok (.getfield 254, 3) := by decide +kernel
theorem dX12_qTold_67 : decode cX12_qTold 67 = .ok (.aload_n 0, 1) := by decide +kernel
theorem dX12_qTold_68 : decode cX12_qTold 68 = .ok (.getfield 431, 3) := by decide +kernel
theorem dX12_qTold_71 : decode cX12_qTold 71 = .ok (.iconst 1, 1) := by decide +kernel
theorem dX12_qTold_72 : decode cX12_qTold 72 = .ok (.isub, 1) := by decide +kernel
theorem dX12_qTold_73 : decode cX12_qTold 73 = .ok (.laload, 1) := by decide +kernel
theorem dX12_qTold_74 : decode cX12_qTold 74 = .ok (.iload_n 1, 1) := by decide +kernel
theorem dX12_qTold_75 : decode cX12_qTold 75 = .ok (.invokevirtual 660, 3) := by decide +kernel
theorem dX12_qTold_78 : decode cX12_qTold 78 = .ok (.invokestatic 652, 3) := by decide +kernel
theorem dX12_qTold_81 : decode cX12_qTold 81 = .ok (.lastore, 1) := by decide +kernel
theorem dX12_qTold_82 : decode cX12_qTold 82 = .ok (.goto 80, 3) := by decide +kernel
theorem dX12_qTold_85 : decode cX12_qTold 85 = .ok (.iload_n 3, 1) := by decide +kernel
theorem dX12_qTold_86 : decode cX12_qTold 86 = .ok (.bipush 40, 2) := by decide +kernel
theorem dX12_qTold_88 : decode cX12_qTold 88 = .ok (.if_icmp .lt 22, 3) := by decide +kernel
theorem dX12_qTold_91 : decode cX12_qTold 91 = .ok (.aload_n 0, 1) := by decide +kernel
theorem dX12_qTold_92 : decode cX12_qTold 92 = .ok (.aload_n 0, 1) := by decide +kernel
theorem dX12_qTold_93 : decode cX12_qTold 93 = .ok (.iload_n 3, 1) := by decide +kernel
theorem dX12_qTold_94 : decode cX12_qTold 94 = .ok (.bipush 40, 2) := by decide +kernel
theorem dX12_qTold_96 : decode cX12_qTold 96 = .ok (.isub, 1) := by decide +kernel
theorem dX12_qTold_97 : decode cX12_qTold 97 = .ok (.iload_n 1, 1) := by decide +kernel
theorem dX12_qTold_98 : decode cX12_qTold 98 = .ok (.invokevirtual 438, 3) := by decide +kernel
theorem dX12_qTold_101 : decode cX12_qTold 101 = .ok (.invokestatic 652, 3) := by decide +kernel
theorem dX12_qTold_104 : decode cX12_qTold 104 = .ok (.invokevirtual 434, 3) := by decide +kernel
theorem dX12_qTold_107 : decode cX12_qTold 107 = .ok (.goto 55, 3) := by decide +kernel
theorem dX12_qTold_110 : decode cX12_qTold 110 = .ok (.iload_n 3, 1) := by decide +kernel
theorem dX12_qTold_111 : decode cX12_qTold 111 = .ok (.bipush 13, 2) := by decide +kernel
theorem dX12_qTold_113 : decode cX12_qTold 113 = .ok (.if_icmp .ne 11, 3) := by decide +kernel
theorem dX12_qTold_116 : decode cX12_qTold 116 = .ok (.aload_n 0, 1) := by decide +kernel
theorem dX12_qTold_117 : decode cX12_qTold 117 = .ok (.lconst 1, 1) := by decide +kernel
theorem dX12_qTold_118 : decode cX12_qTold 118 = .ok (.invokevirtual 434, 3) := by decide +kernel
theorem dX12_qTold_121 : decode cX12_qTold 121 = .ok (.goto 41, 3) := by decide +kernel
theorem dX12_qTold_124 : decode cX12_qTold 124 = .ok (.iload_n 3, 1) := by decide +kernel
theorem dX12_qTold_125 : decode cX12_qTold 125 = .ok (.bipush 12, 2) := by decide +kernel
theorem dX12_qTold_127 : decode cX12_qTold 127 = .ok (.if_icmp .ne 30, 3) := by decide +kernel
theorem dX12_qTold_130 : decode cX12_qTold 130 = .ok (.aload_n 0, 1) := by decide +kernel
theorem dX12_qTold_131 : decode cX12_qTold 131 = .ok (.getfield 254, 3) := by decide +kernel
theorem dX12_qTold_134 : decode cX12_qTold 134 = .ok (.aload_n 0, 1) := by decide +kernel
theorem dX12_qTold_135 : decode cX12_qTold 135 = .ok (.getfield 431, 3) := by decide +kernel
theorem dX12_qTold_138 : decode cX12_qTold 138 = .ok (.iconst 1, 1) := by decide +kernel
theorem dX12_qTold_139 : decode cX12_qTold 139 = .ok (.isub, 1) := by decide +kernel
theorem dX12_qTold_140 : decode cX12_qTold 140 = .ok (.lconst 1, 1) := by decide +kernel
theorem dX12_qTold_141 : decode cX12_qTold 141 = .ok (.aload_n 0, 1) := by decide +kernel
theorem dX12_qTold_142 : decode cX12_qTold 142 = .ok (.getfield 254, 3) := by decide +kernel
theorem dX12_qTold_145 : decode cX12_qTold 145 = .ok (.aload_n 0, 1) := by decide +kernel
theorem dX12_qTold_146 : decode cX12_qTold 146 = .ok (.getfield 431, 3) := by decide +kernel
theorem dX12_qTold_149 : decode cX12_qTold 149 = .ok (.iconst 1, 1) := by decide +kernel
theorem dX12_qTold_150 : decode cX12_qTold 150 = .ok (.isub, 1) := by decide +kernel
theorem dX12_qTold_151 : decode cX12_qTold 151 = .ok (.laload, 1) := by decide +kernel
theorem dX12_qTold_152 : decode cX12_qTold 152 = .ok (.lsub, 1) := by decide +kernel
theorem dX12_qTold_153 : decode cX12_qTold 153 = .ok (.lastore, 1) := by decide +kernel
theorem dX12_qTold_154 : decode cX12_qTold 154 = .ok (.goto 8, 3) := by decide +kernel
theorem dX12_qTold_157 : decode cX12_qTold 157 = .ok (.aload_n 0, 1) := by decide +kernel
theorem dX12_qTold_158 : decode cX12_qTold 158 = .ok (.iload_n 3, 1) := by decide +kernel
theorem dX12_qTold_159 : decode cX12_qTold 159 = .ok (.invokevirtual 442, 3) := by decide +kernel
theorem dX12_qTold_162 : decode cX12_qTold 162 = .ok (.iinc 2 1, 3) := by decide +kernel
theorem dX12_qTold_165 : decode cX12_qTold 165 = .ok (.goto (-158), 3) := by decide +kernel
theorem dX12_qTold_168 : decode cX12_qTold 168 = .ok (.aload_n 0, 1) := by decide +kernel
theorem dX12_qTold_169 : decode cX12_qTold 169 = .ok (.getfield 254, 3) := by decide +kernel
theorem dX12_qTold_172 : decode cX12_qTold 172 = .ok (.iconst 0, 1) := by decide +kernel
theorem dX12_qTold_173 : decode cX12_qTold 173 = .ok (.laload, 1) := by decide +kernel
theorem dX12_qTold_174 : decode cX12_qTold 174 = .ok (.lreturn, 1) := by decide +kernel
theorem dX12_heap_0 : decode cX12_heap 0 = .ok (.aload_n 0, 1) := by decide +kernel
theorem dX12_heap_1 : decode cX12_heap 1 = .ok (.aload_n 0, 1) := by decide +kernel
theorem dX12_heap_2 : decode cX12_heap 2 = .ok (.getfield 260, 3) := by decide +kernel
theorem dX12_heap_5 : decode cX12_heap 5 = .ok (.putfield 272, 3) := by decide +kernel
theorem dX12_heap_8 : decode cX12_heap 8 = .ok (.aload_n 0, 1) := by decide +kernel
theorem dX12_heap_9 : decode cX12_heap 9 = .ok (.iconst 0, 1) := by decide +kernel
theorem dX12_heap_10 : decode cX12_heap 10 = .ok (.putfield 260, 3) := by decide +kernel
theorem dX12_heap_13 : decode cX12_heap 13 = .ok (.aload_n 0, 1) := by decide +kernel
theorem dX12_heap_14 : decode cX12_heap 14 = .ok (.iconst 0, 1) := by decide +kernel
theorem dX12_heap_15 : decode cX12_heap 15 = .ok (.putfield 269, 3) := by decide +kernel
theorem dX12_heap_18 : decode cX12_heap 18 = .ok (.aload_n 0, 1) := by decide +kernel
theorem dX12_heap_19 : decode cX12_heap 19 = .ok (.iconst (-1), 1) := by decide +kernel
theorem dX12_heap_20 : decode cX12_heap 20 = .ok (.putfield 283, 3) := by decide +kernel
theorem dX12_heap_23 : decode cX12_heap 23 = .ok (.aload_n 0, 1) := by decide +kernel
theorem dX12_heap_24 : decode cX12_heap 24 = .ok (.iconst 0, 1) := by decide +kernel
theorem dX12_heap_25 : decode cX12_heap 25 = .ok (.putfield 263, 3) := by decide +kernel
theorem dX12_heap_28 : decode cX12_heap 28 = .ok (.aload_n 0, 1) := by decide +kernel
theorem dX12_heap_29 : decode cX12_heap 29 = .ok (.iconst (-1), 1) := by decide +kernel
theorem dX12_heap_30 : decode cX12_heap 30 = .ok (.putfield 266, 3) := by decide +kernel
theorem dX12_heap_33 : decode cX12_heap 33 = .ok (.aload_n 0, 1) := by decide +kernel
theorem dX12_heap_34 : decode cX12_heap 34 = .ok (.iconst 0, 1) := by decide +kernel
theorem dX12_heap_35 : decode cX12_heap 35 = .ok (.putfield 370, 3) := by decide +kernel
theorem dX12_heap_38 : decode cX12_heap 38 = .ok (.aload_n 0, 1) := by decide +kernel
theorem dX12_heap_39 : decode cX12_heap 39 = .ok (.iconst 0, 1) := by decide +kernel
theorem dX12_heap_40 : decode cX12_heap 40 = .ok (.putfield 367, 3) := by decide +kernel
theorem dX12_heap_43 : decode cX12_heap 43 = .ok (.iconst 0, 1) := by decide +kernel
theorem dX12_heap_44 : decode cX12_heap 44 = .ok (.istore_n 1, 1) := by decide +kernel
theorem dX12_heap_45 : decode cX12_heap 45 = .ok (.iload_n 1, 1) := by decide +kernel
theorem dX12_heap_46 : decode cX12_heap 46 = .ok (.iconst 5, 1) := by decide +kernel
theorem dX12_heap_47 : decode cX12_heap 47 = .ok (.if_icmp .ge 16, 3) := by decide +kernel
theorem dX12_heap_50 : decode cX12_heap 50 = .ok (.aload_n 0, 1) := by decide +kernel
theorem dX12_heap_51 : decode cX12_heap 51 = .ok (.getfield 105, 3) := by decide +kernel
theorem dX12_heap_54 : decode cX12_heap 54 = .ok (.iload_n 1, 1) := by decide +kernel
theorem dX12_heap_55 : decode cX12_heap 55 = .ok (.iconst 0, 1) := by decide +kernel
theorem dX12_heap_56 : decode cX12_heap 56 = .ok (.iastore, 1) := by decide +kernel
theorem dX12_heap_57 : decode cX12_heap 57 = .ok (.iinc 1 1, 3) := by decide +kernel
theorem dX12_heap_60 : decode cX12_heap 60 = .ok (.goto (-15), 3) := by decide +kernel
theorem dX12_heap_63 : decode cX12_heap 63 = .ok (.iconst 0, 1) := by decide +kernel
theorem dX12_heap_64 : decode cX12_heap 64 = .ok (.istore_n 1, 1) := by decide +kernel
theorem dX12_heap_65 : decode cX12_heap 65 = .ok (.iload_n 1, 1) := by decide +kernel
theorem dX12_heap_66 : decode cX12_heap 66 = .ok (.bipush 32, 2) := by decide +kernel
theorem dX12_heap_68 : decode cX12_heap 68 = .ok (.if_icmp .ge 16, 3) := by decide +kernel
theorem dX12_heap_71 : decode cX12_heap 71 = .ok (.aload_n 0, 1) := by decide +kernel
theorem dX12_heap_72 : decode cX12_heap 72 = .ok (.getfield 118, 3) := by decide +kernel
theorem dX12_heap_75 : decode cX12_heap 75 = .ok (.iload_n 1, 1) := by decide +kernel
theorem dX12_heap_76 : decode cX12_heap 76 = .ok (.iconst 0, 1) := by decide +kernel
theorem dX12_heap_77 : decode cX12_heap 77 = .ok (.iastore, 1) := by decide +kernel
theorem dX12_heap_78 : decode cX12_heap 78 = .ok (.iinc 1 1, 3) := by decide +kernel
theorem dX12_heap_81 : decode cX12_heap 81 = .ok (.goto (-16), 3) := by decide +kernel
theorem dX12_heap_84 : decode cX12_heap 84 = .ok (.iconst 0, 1) := by decide +kernel
theorem dX12_heap_85 : decode cX12_heap 85 = .ok (.istore_n 1, 1) := by decide +kernel
theorem dX12_heap_86 : decode cX12_heap 86 = .ok (.iload_n 1, 1) := by decide +kernel
theorem dX12_heap_87 : decode cX12_heap 87 = .ok (.bipush 8, 2) := by decide +kernel
theorem dX12_heap_89 : decode cX12_heap 89 = .ok (.if_icmp .ge 16, 3) := by decide +kernel
theorem dX12_heap_92 : decode cX12_heap 92 = .ok (.aload_n 0, 1) := by decide +kernel
theorem dX12_heap_93 : decode cX12_heap 93 = .ok (.getfield 121, 3) := by decide +kernel
theorem dX12_heap_96 : decode cX12_heap 96 = .ok (.iload_n 1, 1) := by decide +kernel
theorem dX12_heap_97 : decode cX12_heap 97 = .ok (.iconst 0, 1) := by decide +kernel
theorem dX12_heap_98 : decode cX12_heap 98 = .ok (.iastore, 1) := by decide +kernel
theorem dX12_heap_99 : decode cX12_heap 99 = .ok (.iinc 1 1, 3) := by decide +kernel
theorem dX12_heap_102 : decode cX12_heap 102 = .ok (.goto (-16), 3) := by decide +kernel
theorem dX12_heap_105 : decode cX12_heap 105 = .ok (.iconst 0, 1) := by decide +kernel
theorem dX12_heap_106 : decode cX12_heap 106 = .ok (.istore_n 1, 1) := by decide +kernel
theorem dX12_heap_107 : decode cX12_heap 107 = .ok (.iload_n 1, 1) := by decide +kernel
theorem dX12_heap_108 : decode cX12_heap 108 = .ok (.bipush 64, 2) := by decide +kernel
theorem dX12_heap_110 : decode cX12_heap 110 = .ok (.if_icmp .ge 16, 3) := by decide +kernel
theorem dX12_heap_113 : decode cX12_heap 113 = .ok (.aload_n 0, 1) := by decide +kernel
theorem dX12_heap_114 : decode cX12_heap 114 = .ok (.getfield 124, 3) := by decide +kernel
theorem dX12_heap_117 : decode cX12_heap 117 = .ok (.iload_n 1, 1) := by decide +kernel
theorem dX12_heap_118 : decode cX12_heap 118 = .ok (.iconst 0, 1) := by decide +kernel
theorem dX12_heap_119 : decode cX12_heap 119 = .ok (.iastore, 1) := by decide +kernel
theorem dX12_heap_120 : decode cX12_heap 120 = .ok (.iinc 1 1, 3) := by decide +kernel
theorem dX12_heap_123 : decode cX12_heap 123 = .ok (.goto (-16), 3) := by decide +kernel
theorem dX12_heap_126 : decode cX12_heap 126 = .ok (.aload_n 0, 1) := by decide +kernel
theorem dX12_heap_127 : decode cX12_heap 127 = .ok (.getfield 133, 3) := by decide +kernel
theorem dX12_heap_130 : decode cX12_heap 130 = .ok (.iconst 0, 1) := by decide +kernel
theorem dX12_heap_131 : decode cX12_heap 131 = .ok (.iconst (-1), 1) := by decide +kernel
theorem dX12_heap_132 : decode cX12_heap 132 = .ok (.iastore, 1) := by decide +kernel
theorem dX12_heap_133 : decode cX12_heap 133 = .ok (.aload_n 0, 1) := by decide +kernel
theorem dX12_heap_134 : decode cX12_heap 134 = .ok (.getfield 133, 3) := by decide +kernel
theorem dX12_heap_137 : decode cX12_heap 137 = .ok (.iconst 1, 1) := by decide +kernel
theorem dX12_heap_138 : decode cX12_heap 138 = .ok (.iconst (-1), 1) := by decide +kernel
theorem dX12_heap_139 : decode cX12_heap 139 = .ok (.iastore, 1) := by decide +kernel
theorem dX12_heap_140 : decode cX12_heap 140 = .ok (.aload_n 0, 1) := by decide +kernel
theorem dX12_heap_141 : decode cX12_heap 141 = .ok (.getfield 130, 3) := by decide +kernel
theorem dX12_heap_144 : decode cX12_heap 144 = .ok (.iconst 0, 1) := by decide +kernel
theorem dX12_heap_145 : decode cX12_heap 145 = .ok (.iconst 3, 1) := by decide +kernel
theorem dX12_heap_146 : decode cX12_heap 146 = .ok (.iastore, 1) := by decide +kernel
theorem dX12_heap_147 : decode cX12_heap 147 = .ok (.aload_n 0, 1) := by decide +kernel
theorem dX12_heap_148 : decode cX12_heap 148 = .ok (.getfield 130, 3) := by decide +kernel
theorem dX12_heap_151 : decode cX12_heap 151 = .ok (.iconst 1, 1) := by decide +kernel
theorem dX12_heap_152 : decode cX12_heap 152 = .ok (.iconst 0, 1) := by decide +kernel
theorem dX12_heap_153 : decode cX12_heap 153 = .ok (.iastore, 1) := by decide +kernel
theorem dX12_heap_154 : decode cX12_heap 154 = .ok (.aload_n 0, 1) := by decide +kernel
theorem dX12_heap_155 : decode cX12_heap 155 = .ok (.getfield 263, 3) := by decide +kernel
theorem dX12_heap_158 : decode cX12_heap 158 = .ok (.ifCond .ne 18, 3) := by decide +kernel
theorem dX12_heap_161 : decode cX12_heap 161 = .ok (.aload_n 0, 1) := by decide +kernel
theorem dX12_heap_162 : decode cX12_heap 162 = .ok (.invokevirtual 275, 3) := by decide +kernel
theorem dX12_heap_165 : decode cX12_heap 165 = .ok (.iconst (-1), 1) := by decide +kernel
theorem dX12_heap_166 : decode cX12_heap 166 = .ok (.if_icmp .eq 10, 3) := by decide +kernel
theorem dX12_heap_169 : decode cX12_heap 169 = .ok (.aload_n 0, 1) := by decide +kernel
theorem dX12_heap_170 : decode cX12_heap 170 = .ok (.invokevirtual 398, 3) := by decide +kernel
theorem dX12_heap_173 : decode cX12_heap 173 = .ok (.goto (-19), 3) := by decide +kernel
theorem dX12_heap_176 : decode cX12_heap 176 = .ok (.aload_n 0, 1) := by decide +kernel
theorem dX12_heap_177 : decode cX12_heap 177 = .ok (.aload_n 0, 1) := by decide +kernel
theorem dX12_heap_178 : decode cX12_heap 178 = .ok (.getfield 263, 3) := by decide +kernel
theorem dX12_heap_181 : decode cX12_heap 181 = .ok (.putfield 401, 3) := by decide +kernel
theorem dX12_heap_184 : decode cX12_heap 184 = .ok (.aload_n 0, 1) := by decide +kernel
theorem dX12_heap_185 : decode cX12_heap 185 = .ok (.aload_n 0, 1) := by decide +kernel
theorem dX12_heap_186 : decode cX12_heap 186 = .ok (.getfield 266, 3) := by decide +kernel
theorem dX12_heap_189 : decode cX12_heap 189 = .ok (.putfield 13, 3) := by decide +kernel
theorem dX12_heap_192 : decode cX12_heap 192 = .ok (.aload_n 0, 1) := by decide +kernel
theorem dX12_heap_193 : decode cX12_heap 193 = .ok (.getfield 263, 3) := by decide +kernel
theorem dX12_heap_196 : decode cX12_heap 196 = .ok (.ifCond .eq 15, 3) := by decide +kernel
theorem dX12_heap_199 : decode cX12_heap 199 = .ok (.aload_n 0, 1) := by decide +kernel
theorem dX12_heap_200 : decode cX12_heap 200 = .ok (.getfield 17, 3) := by decide +kernel
theorem dX12_heap_203 : decode cX12_heap 203 = .ok (.iconst 1, 1) := by decide +kernel
theorem dX12_heap_204 : decode cX12_heap 204 = .ok (.dup2, 1) := by decide +kernel
theorem dX12_heap_205 : decode cX12_heap 205 = .ok (.iaload, 1) := by decide +kernel
theorem dX12_heap_206 : decode cX12_heap 206 = .ok (.iconst 1, 1) := by decide +kernel
theorem dX12_heap_207 : decode cX12_heap 207 = .ok (.iadd, 1) := by decide +kernel
theorem dX12_heap_208 : decode cX12_heap 208 = .ok (.iastore, 1) := by decide +kernel
theorem dX12_heap_209 : decode cX12_heap 209 = .ok (.iconst (-1), 1) := by decide +kernel
theorem dX12_heap_210 : decode cX12_heap 210 = .ok (.ireturn, 1) := by decide +kernel
theorem dX12_heap_211 : decode cX12_heap 211 = .ok (.aload_n 0, 1) := by decide +kernel
theorem dX12_heap_212 : decode cX12_heap 212 = .ok (.invokevirtual 404, 3) := by decide +kernel
theorem dX12_heap_215 : decode cX12_heap 215 = .ok (.aload_n 0, 1) := by decide +kernel
theorem dX12_heap_216 : decode cX12_heap 216 = .ok (.getfield 370, 3) := by decide +kernel
theorem dX12_heap_219 : decode cX12_heap 219 = .ok (.ireturn, 1) := by decide +kernel
theorem dX12_isNextGroups_0 : decode cX12_isNextGroups 0 = .ok (.aload_n 0, 1) := by decide +kernel
theorem dX12_isNextGroups_1 : decode cX12_isNextGroups 1 = .ok (.invokevirtual 419, 3) := by decide +kernel
theorem dX12_isNextGroups_4 : decode cX12_isNextGroups 4 = .ok (.iconst 1, 1) := by decide +kernel
theorem dX12_isNextGroups_5 : decode cX12_isNextGroups 5 = .ok (.isub, 1) := by decide +kernel
theorem dX12_isNextGroups_6 : decode cX12_isNextGroups 6 = .ok (.istore_n 1, 1) := by decide +kernel
theorem dX12_isNextGroups_7 : decode cX12_isNextGroups 7 = .ok (.iload_n 1, 1) := by decide +kernel
theorem dX12_isNextGroups_8 : decode cX12_isNextGroups 8 = .ok (.ifCond .le 88, 3) := by decide +kernel
theorem dX12_isNextGroups_11 : decode cX12_isNextGroups 11 = .ok (.iconst 0, 1) := by decide +kernel
theorem dX12_isNextGroups_12 : decode cX12_isNextGroups 12 = .ok (.istore_n 2, 1) := by decide +kernel
theorem dX12_isNextGroups_13 : decode cX12_isNextGroups 13 = .ok (.iconst 0, 1) := by decide +kernel
theorem dX12_isNextGroups_14 : decode cX12_isNextGroups 14 = .ok (.istore_n 3, 1) := by decide +kernel
theorem dX12_isNextGroups_15 : decode cX12_isNextGroups 15 = .ok (.iload_n 3, 1) := by decide +kernel
theorem dX12_isNextGroups_16 : decode cX12_isNextGroups 16 = .ok (.iload_n 1, 1) := by decide +kernel
theorem dX12_isNextGroups_17 : decode cX12_isNextGroups 17 = .ok (.if_icmp .ge 26, 3) := by decide +kernel
theorem dX12_isNextGroups_20 : decode cX12_isNextGroups 20 = .ok (.aload_n 0, 1) := by decide +kernel
theorem dX12_isNextGroups_21 : decode cX12_isNextGroups 21 = .ok (.getfield 148, 3) := by decide +kernel
theorem dX12_isNextGroups_24 : decode cX12_isNextGroups 24 = .ok (.iload_n 3, 1) := by decide +kernel
theorem dX12_isNextGroups_25 : decode cX12_isNextGroups 25 = .ok (.iaload, 1) := by decide +kernel
theorem dX12_isNextGroups_26 : decode cX12_isNextGroups 26 = .ok (.iload_n 2, 1) := by decide +kernel
theorem dX12_isNextGroups_27 : decode cX12_isNextGroups 27 = .ok (.if_icmp .le 10, 3) := by decide +kernel
theorem dX12_isNextGroups_30 : decode cX12_isNextGroups 30 = .ok (.aload_n 0, 1) := by decide +kernel
theorem dX12_isNextGroups_31 : decode cX12_isNextGroups 31 = .ok (.getfield 148, 3) := by decide +kernel
theorem dX12_isNextGroups_34 : decode cX12_isNextGroups 34 = .ok (.iload_n 3, 1) := by decide +kernel
theorem dX12_isNextGroups_35 : decode cX12_isNextGroups 35 = .ok (.iaload, 1) := by decide +kernel
theorem dX12_isNextGroups_36 : decode cX12_isNextGroups 36 = .ok (.istore_n 2, 1) := by decide +kernel
theorem dX12_isNextGroups_37 : decode cX12_isNextGroups 37 = .ok (.iinc 3 1, 3) := by decide +kernel
theorem dX12_isNextGroups_40 : decode cX12_isNextGroups 40 = .ok (.goto (-25), 3) := by decide +kernel
theorem dX12_isNextGroups_43 : decode cX12_isNextGroups 43 = .ok (.aload_n 0, 1) := by decide +kernel
theorem dX12_isNextGroups_44 : decode cX12_isNextGroups 44 = .ok (.getfield 148, 3) := by decide +kernel
theorem dX12_isNextGroups_47 : decode cX12_isNextGroups 47 = .ok (.iload_n 1, 1) := by decide +kernel
theorem dX12_isNextGroups_48 : decode cX12_isNextGroups 48 = .ok (.iaload, 1) := by decide +kernel
theorem dX12_isNextGroups_49 : decode cX12_isNextGroups 49 = .ok (.iload_n 2, 1) := by decide +kernel
theorem dX12_isNextGroups_50 : decode cX12_isNextGroups 50 = .ok (.if_icmp .gt 40, 3) := by decide +kernel
theorem dX12_isNextGroups_53 : decode cX12_isNextGroups 53 = .ok (.aload_n 0, 1) := by decide +kernel
theorem dX12_isNextGroups_54 : decode cX12_isNextGroups 54 = .ok (.getfield 148, 3) := by decide +kernel
theorem dX12_isNextGroups_57 : decode cX12_isNextGroups 57 = .ok (.iload_n 1, 1) := by decide +kernel
theorem dX12_isNextGroups_58 : decode cX12_isNextGroups 58 = .ok (.dup2, 1) := by decide +kernel
theorem dX12_isNextGroups_59 : decode cX12_isNextGroups 59 = .ok (.iaload, 1) := by decide +kernel
theorem dX12_isNextGroups_60 : decode cX12_isNextGroups 60 = .ok (.iconst 1, 1) := by decide +kernel
theorem dX12_isNextGroups_61 : decode cX12_isNextGroups 61 = .ok (.iadd, 1) := by decide +kernel
theorem dX12_isNextGroups_62 : decode cX12_isNextGroups 62 = .ok (.iastore, 1) := by decide +kernel
theorem dX12_isNextGroups_63 : decode cX12_isNextGroups 63 = .ok (.iload_n 1, 1) := by decide +kernel
theorem dX12_isNextGroups_64 : decode cX12_isNextGroups 64 = .ok (.iconst 1, 1) := by decide +kernel
theorem dX12_isNextGroups_65 : decode cX12_isNextGroups 65 = .ok (.iadd, 1) := by decide +kernel
theorem dX12_isNextGroups_66 : decode cX12_isNextGroups 66 = .ok (.istore_n 3, 1) := by decide +kernel
theorem dX12_isNextGroups_67 : decode cX12_isNextGroups 67 = .ok (.iload_n 3, 1) := by decide +kernel
theorem dX12_isNextGroups_68 : decode cX12_isNextGroups 68 = .ok (.aload_n 0, 1) := by decide +kernel
theorem dX12_isNextGroups_69 : decode cX12_isNextGroups 69 = .ok (.invokevirtual 419, 3) := by decide +kernel
theorem dX12_isNextGroups_72 : decode cX12_isNextGroups 72 = .ok (.if_icmp .ge 16, 3) := by decide +kernel
theorem dX12_isNextGroups_75 : decode cX12_isNextGroups 75 = .ok (.aload_n 0, 1) := by decide +kernel
theorem dX12_isNextGroups_76 : decode cX12_isNextGroups 76 = .ok (.getfield 148, 3) := by decide +kernel
theorem dX12_isNextGroups_79 : decode cX12_isNextGroups 79 = .ok (.iload_n 3, 1) := by decide +kernel
theorem dX12_isNextGroups_80 : decode cX12_isNextGroups 80 = .ok (.iconst 0, 1) := by decide +kernel
theorem dX12_isNextGroups_81 : decode cX12_isNextGroups 81 = .ok (.iastore, 1) := by decide +kernel
theorem dX12_isNextGroups_82 : decode cX12_isNextGroups 82 = .ok (.iinc 3 1, 3) := by decide +kernel
theorem dX12_isNextGroups_85 : decode cX12_isNextGroups 85 = .ok (.goto (-18), 3) := by decide +kernel
theorem dX12_isNextGroups_88 : decode cX12_isNextGroups 88 = .ok (.iconst 1, 1) := by decide +kernel
theorem dX12_isNextGroups_89 : decode cX12_isNextGroups 89 = .ok (.ireturn, 1) := by decide +kernel
theorem dX12_isNextGroups_90 : decode cX12_isNextGroups 90 = .ok (.iinc 1 (-1), 3) := by decide +kernel
theorem dX12_isNextGroups_93 : decode cX12_isNextGroups 93 = .ok (.goto (-86), 3) := by decide +kernel
theorem dX12_isNextGroups_96 : decode cX12_isNextGroups 96 = .ok (.iconst 0, 1) := by decide +kernel
theorem dX12_isNextGroups_97 : decode cX12_isNextGroups 97 = .ok (.ireturn, 1) := by decide +kernel
theorem dX12_answer_0 : decode cX12_answer 0 = .ok (.aload_n 0, 1) := by decide +kernel
theorem dX12_answer_1 : decode cX12_answer 1 = .ok (.iload_n 1, 1) := by decide +kernel
theorem dX12_answer_2 : decode cX12_answer 2 = .ok (.invokevirtual 501, 3) := by decide +kernel
theorem dX12_answer_5 : decode cX12_answer 5 = .ok (.ifCond .eq 20, 3) := by decide +kernel
theorem dX12_answer_8 : decode cX12_answer 8 = .ok (.aload_n 0, 1) := by decide +kernel
theorem dX12_answer_9 : decode cX12_answer 9 = .ok (.iload_n 2, 1) := by decide +kernel
theorem dX12_answer_10 : decode cX12_answer 10 = .ok (.invokevirtual 516, 3) := by decide +kernel
theorem dX12_answer_13 : decode cX12_answer 13 = .ok (.ifCond .eq 12, 3) := by decide +kernel
theorem dX12_answer_16 : decode cX12_answer 16 = .ok (.aload_n 0, 1) := by decide +kernel
theorem dX12_answer_17 : decode cX12_answer 17 = .ok (.iload_n 1, 1) := by decide +kernel
theorem dX12_answer_18 : decode cX12_answer 18 = .ok (.iload_n 2, 1) := by decide +kernel
theorem dX12_answer_19 : decode cX12_answer 19 = .ok (.invokevirtual 521, 3) := by decide +kernel
theorem dX12_answer_22 : decode cX12_answer 22 = .ok (.ifCond .ne 9, 3) := by decide +kernel
theorem dX12_answer_25 : decode cX12_answer 25 = .ok (.aload_n 0, 1) := by decide +kernel
theorem dX12_answer_26 : decode cX12_answer 26 = .ok (.iconst 2, 1) := by decide +kernel
theorem dX12_answer_27 : decode cX12_answer 27 = .ok (.invokevirtual 560, 3) := by decide +kernel
theorem dX12_answer_30 : decode cX12_answer 30 = .ok (.ireturn, 1) := by decide +kernel
theorem dX12_answer_31 : decode cX12_answer 31 = .ok (.aload_n 0, 1) := by decide +kernel
theorem dX12_answer_32 : decode cX12_answer 32 = .ok (.invokevirtual 575, 3) := by decide +kernel
theorem dX12_answer_35 : decode cX12_answer 35 = .ok (.aload_n 0, 1) := by decide +kernel
theorem dX12_answer_36 : decode cX12_answer 36 = .ok (.iload_n 1, 1) := by decide +kernel
theorem dX12_answer_37 : decode cX12_answer 37 = .ok (.iload_n 2, 1) := by decide +kernel
theorem dX12_answer_38 : decode cX12_answer 38 = .ok (.invokevirtual 461, 3) := by decide +kernel
theorem dX12_answer_41 : decode cX12_answer 41 = .ok (.istore_n 3, 1) := by decide +kernel
theorem dX12_answer_42 : decode cX12_answer 42 = .ok (.aload_n 0, 1) := by decide +kernel
theorem dX12_answer_43 : decode cX12_answer 43 = .ok (.iload_n 1, 1) := by decide +kernel
theorem dX12_answer_44 : decode cX12_answer 44 = .ok (.iload_n 2, 1) := by decide +kernel
theorem dX12_answer_45 : decode cX12_answer 45 = .ok (.invokevirtual 488, 3) := by decide +kernel
theorem dX12_answer_48 : decode cX12_answer 48 = .ok (.iload_n 3, 1) := by decide +kernel
theorem dX12_answer_49 : decode cX12_answer 49 = .ok (.ireturn, 1) := by decide +kernel
theorem dX12_checked_0 : decode cX12_checked 0 = .ok (.bipush 89, 2) := by decide +kernel
theorem dX12_checked_2 : decode cX12_checked 2 = .ok (.istore_n 2, 1) := by decide +kernel
theorem dX12_checked_3 : decode cX12_checked 3 = .ok (.iconst 0, 1) := by decide +kernel
theorem dX12_checked_4 : decode cX12_checked 4 = .ok (.istore_n 3, 1) := by decide +kernel
theorem dX12_checked_5 : decode cX12_checked 5 = .ok (.iload_n 3, 1) := by decide +kernel
theorem dX12_checked_6 : decode cX12_checked 6 = .ok (.iload_n 1, 1) := by decide +kernel
theorem dX12_checked_7 : decode cX12_checked 7 = .ok (.if_icmp .ge 21, 3) := by decide +kernel
theorem dX12_checked_10 : decode cX12_checked 10 = .ok (.iconst 3, 1) := by decide +kernel
theorem dX12_checked_11 : decode cX12_checked 11 = .ok (.iload_n 2, 1) := by decide +kernel
theorem dX12_checked_12 : decode cX12_checked 12 = .ok (.imul, 1) := by decide +kernel
theorem dX12_checked_13 : decode cX12_checked 13 = .ok (.aload_n 0, 1) := by decide +kernel
theorem dX12_checked_14 : decode cX12_checked 14 = .ok (.iload_n 3, 1) := by decide +kernel
theorem dX12_checked_15 : decode cX12_checked 15 = .ok (.iaload, 1) := by decide +kernel
theorem dX12_checked_16 : decode cX12_checked 16 = .ok (.iadd, 1) := by decide +kernel
theorem dX12_checked_17 : decode cX12_checked 17 = .ok (.sipush 251, 3) := by decide +kernel
theorem dX12_checked_20 : decode cX12_checked 20 = .ok (.irem, 1) := by decide +kernel
theorem dX12_checked_21 : decode cX12_checked 21 = .ok (.istore_n 2, 1) := by decide +kernel
theorem dX12_checked_22 : decode cX12_checked 22 = .ok (.iinc 3 1, 3) := by decide +kernel
theorem dX12_checked_25 : decode cX12_checked 25 = .ok (.goto (-20), 3) := by decide +kernel
theorem dX12_checked_28 : decode cX12_checked 28 = .ok (.iload_n 2, 1) := by decide +kernel
theorem dX12_checked_29 : decode cX12_checked 29 = .ok (.ireturn, 1) := by decide +kernel
theorem dX12_canAnswer_0 : decode cX12_canAnswer 0 = .ok (.aload_n 0, 1) := by decide +kernel
theorem dX12_canAnswer_1 : decode cX12_canAnswer 1 = .ok (.iload_n 1, 1) := by decide +kernel
theorem dX12_canAnswer_2 : decode cX12_canAnswer 2 = .ok (.invokevirtual 451, 3) := by decide +kernel
theorem dX12_canAnswer_5 : decode cX12_canAnswer 5 = .ok (.ifCond .ne 30, 3) := by decide +kernel
theorem dX12_canAnswer_8 : decode cX12_canAnswer 8 = .ok (.aload_n 0, 1) := by decide +kernel
theorem dX12_canAnswer_9 : decode cX12_canAnswer 9 = .ok (.iload_n 1, 1) := by decide +kernel
theorem dX12_canAnswer_10 : decode cX12_canAnswer 10 = .ok (.iload_n 2, 1) := by decide +kernel
theorem dX12_canAnswer_11 : decode cX12_canAnswer 11 = .ok (.invokevirtual 454, 3) := by decide +kernel
theorem dX12_canAnswer_14 : decode cX12_canAnswer 14 = .ok (.ifCond .eq 21, 3) := by decide +kernel
theorem dX12_canAnswer_17 : decode cX12_canAnswer 17 = .ok (.aload_n 0, 1) := by decide +kernel
theorem dX12_canAnswer_18 : decode cX12_canAnswer 18 = .ok (.iload_n 2, 1) := by decide +kernel
theorem dX12_canAnswer_19 : decode cX12_canAnswer 19 = .ok (.invokevirtual 458, 3) := by decide +kernel
theorem dX12_canAnswer_22 : decode cX12_canAnswer 22 = .ok (.aload_n 0, 1) := by decide +kernel
theorem dX12_canAnswer_23 : decode cX12_canAnswer 23 = .ok (.iload_n 1, 1) := by decide +kernel
theorem dX12_canAnswer_24 : decode cX12_canAnswer 24 = .ok (.iload_n 2, 1) := by decide +kernel
theorem dX12_canAnswer_25 : decode cX12_canAnswer 25 = .ok (.invokevirtual 461, 3) := by decide +kernel
theorem dX12_canAnswer_28 : decode cX12_canAnswer 28 = .ok (.if_icmp .lt 7, 3) := by decide +kernel
theorem dX12_canAnswer_31 : decode cX12_canAnswer 31 = .ok (.iconst 1, 1) := by decide +kernel
theorem dX12_canAnswer_32 : decode cX12_canAnswer 32 = .ok (.goto 4, 3) := by decide +kernel
theorem dX12_canAnswer_35 : decode cX12_canAnswer 35 = .ok (.iconst 0, 1) := by decide +kernel
theorem dX12_canAnswer_36 : decode cX12_canAnswer 36 = .ok (.ireturn, 1) := by decide +kernel
theorem dX12_giftMany_0 : decode cX12_giftMany 0 = .ok (.aload_n 0, 1) := by decide +kernel
theorem dX12_giftMany_1 : decode cX12_giftMany 1 = .ok (.getfield 105, 3) := by decide +kernel
theorem dX12_giftMany_4 : decode cX12_giftMany 4 = .ok (.bipush 6, 2) := by decide +kernel
theorem dX12_giftMany_6 : decode cX12_giftMany 6 = .ok (.iaload, 1) := by decide +kernel
theorem dX12_giftMany_7 : decode cX12_giftMany 7 = .ok (.ireturn, 1) := by decide +kernel
theorem dX12_leftAll_0 : decode cX12_leftAll 0 = .ok (.iconst 0, 1) := by decide +kernel
theorem dX12_leftAll_1 : decode cX12_leftAll 1 = .ok (.istore_n 1, 1) := by decide +kernel
theorem dX12_leftAll_2 : decode cX12_leftAll 2 = .ok (.iconst 0, 1) := by decide +kernel
theorem dX12_leftAll_3 : decode cX12_leftAll 3 = .ok (.istore_n 2, 1) := by decide +kernel
theorem dX12_leftAll_4 : decode cX12_leftAll 4 = .ok (.iload_n 2, 1) := by decide +kernel
theorem dX12_leftAll_5 : decode cX12_leftAll 5 = .ok (.aload_n 0, 1) := by decide +kernel
theorem dX12_leftAll_6 : decode cX12_leftAll 6 = .ok (.invokevirtual 422, 3) := by decide +kernel
theorem dX12_leftAll_9 : decode cX12_leftAll 9 = .ok (.if_icmp .ge 17, 3) := by decide +kernel
theorem dX12_leftAll_12 : decode cX12_leftAll 12 = .ok (.iload_n 1, 1) := by decide +kernel
theorem dX12_leftAll_13 : decode cX12_leftAll 13 = .ok (.aload_n 0, 1) := by decide +kernel
theorem dX12_leftAll_14 : decode cX12_leftAll 14 = .ok (.iload_n 2, 1) := by decide +kernel
theorem dX12_leftAll_15 : decode cX12_leftAll 15 = .ok (.invokevirtual 458, 3) := by decide +kernel
theorem dX12_leftAll_18 : decode cX12_leftAll 18 = .ok (.iadd, 1) := by decide +kernel
theorem dX12_leftAll_19 : decode cX12_leftAll 19 = .ok (.istore_n 1, 1) := by decide +kernel
theorem dX12_leftAll_20 : decode cX12_leftAll 20 = .ok (.iinc 2 1, 3) := by decide +kernel
theorem dX12_leftAll_23 : decode cX12_leftAll 23 = .ok (.goto (-19), 3) := by decide +kernel
theorem dX12_leftAll_26 : decode cX12_leftAll 26 = .ok (.iload_n 1, 1) := by decide +kernel
theorem dX12_leftAll_27 : decode cX12_leftAll 27 = .ok (.ireturn, 1) := by decide +kernel
theorem dX12_qPartOf_0 : decode cX12_qPartOf 0 = .ok (.iload_n 1, 1) := by decide +kernel
theorem dX12_qPartOf_1 : decode cX12_qPartOf 1 = .ok (.tableswitch 128 0 8 #[51, 64, 77, 90, 96, 103, 111, 114, 121], 51) := by decide +kernel
theorem dX12_qPartOf_52 : decode cX12_qPartOf 52 = .ok (.aload_n 0, 1) := by decide +kernel
theorem dX12_qPartOf_53 : decode cX12_qPartOf 53 = .ok (.getfield 112, 3) := by decide +kernel
theorem dX12_qPartOf_56 : decode cX12_qPartOf 56 = .ok (.bipush 24, 2) := by decide +kernel
theorem dX12_qPartOf_58 : decode cX12_qPartOf 58 = .ok (.iconst 3, 1) := by decide +kernel
theorem dX12_qPartOf_59 : decode cX12_qPartOf 59 = .ok (.iload_n 2, 1) := by decide +kernel
theorem dX12_qPartOf_60 : decode cX12_qPartOf 60 = .ok (.imul, 1) := by decide +kernel
theorem dX12_qPartOf_61 : decode cX12_qPartOf 61 = .ok (.iadd, 1) := by decide +kernel
theorem dX12_qPartOf_62 : decode cX12_qPartOf 62 = .ok (.iaload, 1) := by decide +kernel
theorem dX12_qPartOf_63 : decode cX12_qPartOf 63 = .ok (.i2l, 1) := by decide +kernel
theorem dX12_qPartOf_64 : decode cX12_qPartOf 64 = .ok (.lreturn, 1) := by decide +kernel
theorem dX12_qPartOf_65 : decode cX12_qPartOf 65 = .ok (.aload_n 0, 1) := by decide +kernel
theorem dX12_qPartOf_66 : decode cX12_qPartOf 66 = .ok (.getfield 112, 3) := by decide +kernel
theorem dX12_qPartOf_69 : decode cX12_qPartOf 69 = .ok (.bipush 25, 2) := by decide +kernel
theorem dX12_qPartOf_71 : decode cX12_qPartOf 71 = .ok (.iconst 3, 1) := by decide +kernel
theorem dX12_qPartOf_72 : decode cX12_qPartOf 72 = .ok (.iload_n 2, 1) := by decide +kernel
theorem dX12_qPartOf_73 : decode cX12_qPartOf 73 = .ok (.imul, 1) := by decide +kernel
theorem dX12_qPartOf_74 : decode cX12_qPartOf 74 = .ok (.iadd, 1) := by decide +kernel
theorem dX12_qPartOf_75 : decode cX12_qPartOf 75 = .ok (.iaload, 1) := by decide +kernel
theorem dX12_qPartOf_76 : decode cX12_qPartOf 76 = .ok (.i2l, 1) := by decide +kernel
theorem dX12_qPartOf_77 : decode cX12_qPartOf 77 = .ok (.lreturn, 1) := by decide +kernel
theorem dX12_qPartOf_78 : decode cX12_qPartOf 78 = .ok (.aload_n 0, 1) := by decide +kernel
theorem dX12_qPartOf_79 : decode cX12_qPartOf 79 = .ok (.getfield 112, 3) := by decide +kernel
theorem dX12_qPartOf_82 : decode cX12_qPartOf 82 = .ok (.bipush 26, 2) := by decide +kernel
theorem dX12_qPartOf_84 : decode cX12_qPartOf 84 = .ok (.iconst 3, 1) := by decide +kernel
theorem dX12_qPartOf_85 : decode cX12_qPartOf 85 = .ok (.iload_n 2, 1) := by decide +kernel
theorem dX12_qPartOf_86 : decode cX12_qPartOf 86 = .ok (.imul, 1) := by decide +kernel
theorem dX12_qPartOf_87 : decode cX12_qPartOf 87 = .ok (.iadd, 1) := by decide +kernel
theorem dX12_qPartOf_88 : decode cX12_qPartOf 88 = .ok (.iaload, 1) := by decide +kernel
theorem dX12_qPartOf_89 : decode cX12_qPartOf 89 = .ok (.i2l, 1) := by decide +kernel
theorem dX12_qPartOf_90 : decode cX12_qPartOf 90 = .ok (.lreturn, 1) := by decide +kernel
theorem dX12_qPartOf_91 : decode cX12_qPartOf 91 = .ok (.aload_n 0, 1) := by decide +kernel
theorem dX12_qPartOf_92 : decode cX12_qPartOf 92 = .ok (.getfield 428, 3) := by decide +kernel
theorem dX12_qPartOf_95 : decode cX12_qPartOf 95 = .ok (.i2l, 1) := by decide +kernel
theorem dX12_qPartOf_96 : decode cX12_qPartOf 96 = .ok (.lreturn, 1) := by decide +kernel
theorem dX12_qPartOf_97 : decode cX12_qPartOf 97 = .ok (.aload_n 0, 1) := by decide +kernel
theorem dX12_qPartOf_98 : decode cX12_qPartOf 98 = .ok (.iload_n 2, 1) := by decide +kernel
theorem dX12_qPartOf_99 : decode cX12_qPartOf 99 = .ok (.invokevirtual 510, 3) := by decide +kernel
theorem dX12_qPartOf_102 : decode cX12_qPartOf 102 = .ok (.i2l, 1) := by decide +kernel
theorem dX12_qPartOf_103 : decode cX12_qPartOf 103 = .ok (.lreturn, 1) := by decide +kernel
theorem dX12_qPartOf_104 : decode cX12_qPartOf 104 = .ok (.aload_n 0, 1) := by decide +kernel
theorem dX12_qPartOf_105 : decode cX12_qPartOf 105 = .ok (.getfield 142, 3) := by decide +kernel
theorem dX12_qPartOf_108 : decode cX12_qPartOf 108 = .ok (.iconst 0, 1) := by decide +kernel
theorem dX12_qPartOf_109 : decode cX12_qPartOf 109 = .ok (.iaload, 1) := by decide +kernel
theorem dX12_qPartOf_110 : decode cX12_qPartOf 110 = .ok (.i2l, 1) := by decide +kernel
theorem dX12_qPartOf_111 : decode cX12_qPartOf 111 = .ok (.lreturn, 1) := by decide +kernel
theorem dX12_qPartOf_112 : decode cX12_qPartOf 112 = .ok (.iload_n 2, 1) := by decide +kernel
theorem dX12_qPartOf_113 : decode cX12_qPartOf 113 = .ok (.i2l, 1) := by decide +kernel
theorem dX12_qPartOf_114 : decode cX12_qPartOf 114 = .ok (.lreturn, 1) := by decide +kernel
theorem dX12_qPartOf_115 : decode cX12_qPartOf 115 = .ok (.aload_n 0, 1) := by decide +kernel
theorem dX12_qPartOf_116 : decode cX12_qPartOf 116 = .ok (.iload_n 2, 1) := by decide +kernel
theorem dX12_qPartOf_117 : decode cX12_qPartOf 117 = .ok (.invokevirtual 504, 3) := by decide +kernel
theorem dX12_qPartOf_120 : decode cX12_qPartOf 120 = .ok (.i2l, 1) := by decide +kernel
theorem dX12_qPartOf_121 : decode cX12_qPartOf 121 = .ok (.lreturn, 1) := by decide +kernel
theorem dX12_qPartOf_122 : decode cX12_qPartOf 122 = .ok (.aload_n 0, 1) := by decide +kernel
theorem dX12_qPartOf_123 : decode cX12_qPartOf 123 = .ok (.iload_n 2, 1) := by decide +kernel
theorem dX12_qPartOf_124 : decode cX12_qPartOf 124 = .ok (.invokevirtual 451, 3) := by decide +kernel
theorem dX12_qPartOf_127 : decode cX12_qPartOf 127 = .ok (.i2l, 1) := by decide +kernel
theorem dX12_qPartOf_128 : decode cX12_qPartOf 128 = .ok (.lreturn, 1) := by decide +kernel
theorem dX12_qPartOf_129 : decode cX12_qPartOf 129 = .ok (.aload_n 0, 1) := by decide +kernel
