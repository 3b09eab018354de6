theorem dX12_newName_0 : decode cX12_newName 0 = .ok (.aload_n 0, 1) := by decide +kernel
theorem dX12_newName_1 : decode cX12_newName 1 = .ok (.invokevirtual 322, 3) := by decide +kernel
theorem dX12_newName_4 : decode cX12_newName 4 = .ok (.lstore_n 1, 1) := by decide +kernel
theorem dX12_newName_5 : decode cX12_newName 5 = .ok (.iconst 0, 1) := by decide +kernel
theorem dX12_newName_6 : decode cX12_newName 6 = .ok (.istore_n 3, 1) := by decide +kernel
theorem dX12_newName_7 : decode cX12_newName 7 = .ok (.iload_n 3, 1) := by decide +kernel
theorem dX12_newName_8 : decode cX12_newName 8 = .ok (.iconst 3, 1) := by decide +kernel
theorem dX12_newName_9 : decode cX12_newName 9 = .ok (.if_icmp .ge 35, 3) := by decide +kernel
theorem dX12_newName_12 : decode cX12_newName 12 = .ok (.aload_n 0, 1) := by decide +kernel
theorem dX12_newName_13 : decode cX12_newName 13 = .ok (.getfield 263, 3) := by decide +kernel
theorem dX12_newName_16 : decode cX12_newName 16 = .ok (.ifCond .ne 22, 3) := by decide +kernel
theorem dX12_newName_19 : decode cX12_newName 19 = .ok (.aload_n 0, 1) := by decide +kernel
theorem dX12_newName_20 : decode cX12_newName 20 = .ok (.iload_n 3, 1) := by decide +kernel
theorem dX12_newName_21 : decode cX12_newName 21 = .ok (.lload_n 1, 1) := by decide +kernel
theorem dX12_newName_22 : decode cX12_newName 22 = .ok (.invokevirtual 326, 3) := by decide +kernel
theorem dX12_newName_25 : decode cX12_newName 25 = .ok (.iconst (-1), 1) := by decide +kernel
theorem dX12_newName_26 : decode cX12_newName 26 = .ok (.if_icmp .eq 12, 3) := by decide +kernel
theorem dX12_newName_29 : decode cX12_newName 29 = .ok (.aload_n 0, 1) := by decide +kernel
theorem dX12_newName_30 : decode cX12_newName 30 = .ok (.iconst 3, 1) := by decide +kernel
theorem dX12_newName_31 : decode cX12_newName 31 = .ok (.aload_n 0, 1) := by decide +kernel
theorem dX12_newName_32 : decode cX12_newName 32 = .ok (.getfield 311, 3) := by decide +kernel
theorem dX12_newName_35 : decode cX12_newName 35 = .ok (.invokevirtual 293, 3) := by decide +kernel
theorem dX12_newName_38 : decode cX12_newName 38 = .ok (.iinc 3 1, 3) := by decide +kernel
theorem dX12_newName_41 : decode cX12_newName 41 = .ok (.goto (-34), 3) := by decide +kernel
theorem dX12_newName_44 : decode cX12_newName 44 = .ok (.lload_n 1, 1) := by decide +kernel
theorem dX12_newName_45 : decode cX12_newName 45 = .ok (.lreturn, 1) := by decide +kernel
theorem dX12_likeTold_0 : decode cX12_likeTold 0 = .ok (.aload_n 0, 1) := by decide +kernel
theorem dX12_likeTold_1 : decode cX12_likeTold 1 = .ok (.iconst 4, 1) := by decide +kernel
theorem dX12_likeTold_2 : decode cX12_likeTold 2 = .ok (.bipush 10, 2) := by decide +kernel
theorem dX12_likeTold_4 : decode cX12_likeTold 4 = .ok (.iload_n 1, 1) := by decide +kernel
theorem dX12_likeTold_5 : decode cX12_likeTold 5 = .ok (.invokevirtual 330, 3) := by decide +kernel
theorem dX12_likeTold_8 : decode cX12_likeTold 8 = .ok (.ifCond .eq 4, 3) := by decide +kernel
theorem dX12_likeTold_11 : decode cX12_likeTold 11 = .ok (.return_, 1) := by decide +kernel
theorem dX12_likeTold_12 : decode cX12_likeTold 12 = .ok (.aload_n 0, 1) := by decide +kernel
theorem dX12_likeTold_13 : decode cX12_likeTold 13 = .ok (.iconst 0, 1) := by decide +kernel
theorem dX12_likeTold_14 : decode cX12_likeTold 14 = .ok (.invokevirtual 348, 3) := by decide +kernel
theorem dX12_likeTold_17 : decode cX12_likeTold 17 = .ok (.istore_n 2, 1) := by decide +kernel
theorem dX12_likeTold_18 : decode cX12_likeTold 18 = .ok (.aload_n 0, 1) := by decide +kernel
theorem dX12_likeTold_19 : decode cX12_likeTold 19 = .ok (.iconst 0, 1) := by decide +kernel
theorem dX12_likeTold_20 : decode cX12_likeTold 20 = .ok (.invokevirtual 348, 3) := by decide +kernel
theorem dX12_likeTold_23 : decode cX12_likeTold 23 = .ok (.istore_n 3, 1) := by decide +kernel
theorem dX12_likeTold_24 : decode cX12_likeTold 24 = .ok (.aload_n 0, 1) := by decide +kernel
theorem dX12_likeTold_25 : decode cX12_likeTold 25 = .ok (.getfield 263, 3) := by decide +kernel
theorem dX12_likeTold_28 : decode cX12_likeTold 28 = .ok (.ifCond .ne 31, 3) := by decide +kernel
theorem dX12_likeTold_31 : decode cX12_likeTold 31 = .ok (.iload_n 2, 1) := by decide +kernel
theorem dX12_likeTold_32 : decode cX12_likeTold 32 = .ok (.iload_n 3, 1) := by decide +kernel
theorem dX12_likeTold_33 : decode cX12_likeTold 33 = .ok (.if_icmp .eq 17, 3) := by decide +kernel
theorem dX12_likeTold_36 : decode cX12_likeTold 36 = .ok (.aload_n 0, 1) := by decide +kernel
theorem dX12_likeTold_37 : decode cX12_likeTold 37 = .ok (.getfield 124, 3) := by decide +kernel
theorem dX12_likeTold_40 : decode cX12_likeTold 40 = .ok (.bipush 8, 2) := by decide +kernel
theorem dX12_likeTold_42 : decode cX12_likeTold 42 = .ok (.iload_n 2, 1) := by decide +kernel
theorem dX12_likeTold_43 : decode cX12_likeTold 43 = .ok (.imul, 1) := by decide +kernel
theorem dX12_likeTold_44 : decode cX12_likeTold 44 = .ok (.iload_n 3, 1) := by decide +kernel
theorem dX12_likeTold_45 : decode cX12_likeTold 45 = .ok (.iadd, 1) := by decide +kernel
theorem dX12_likeTold_46 : decode cX12_likeTold 46 = .ok (.iaload, 1) := by decide +kernel
theorem dX12_likeTold_47 : decode cX12_likeTold 47 = .ok (.ifCond .le 12, 3) := by decide +kernel
theorem dX12_likeTold_50 : decode cX12_likeTold 50 = .ok (.aload_n 0, 1) := by decide +kernel
theorem dX12_likeTold_51 : decode cX12_likeTold 51 = .ok (.iconst 3, 1) := by decide +kernel
theorem dX12_likeTold_52 : decode cX12_likeTold 52 = .ok (.aload_n 0, 1) := by decide +kernel
theorem dX12_likeTold_53 : decode cX12_likeTold 53 = .ok (.getfield 311, 3) := by decide +kernel
theorem dX12_likeTold_56 : decode cX12_likeTold 56 = .ok (.invokevirtual 293, 3) := by decide +kernel
theorem dX12_likeTold_59 : decode cX12_likeTold 59 = .ok (.aload_n 0, 1) := by decide +kernel
theorem dX12_likeTold_60 : decode cX12_likeTold 60 = .ok (.iconst 0, 1) := by decide +kernel
theorem dX12_likeTold_61 : decode cX12_likeTold 61 = .ok (.bipush 10, 2) := by decide +kernel
theorem dX12_likeTold_63 : decode cX12_likeTold 63 = .ok (.invokevirtual 341, 3) := by decide +kernel
theorem dX12_likeTold_66 : decode cX12_likeTold 66 = .ok (.istore 4, 2) := by decide +kernel
theorem dX12_likeTold_68 : decode cX12_likeTold 68 = .ok (.aload_n 0, 1) := by decide +kernel
theorem dX12_likeTold_69 : decode cX12_likeTold 69 = .ok (.getfield 263, 3) := by decide +kernel
theorem dX12_likeTold_72 : decode cX12_likeTold 72 = .ok (.ifCond .eq 4, 3) := by decide +kernel
theorem dX12_likeTold_75 : decode cX12_likeTold 75 = .ok (.return_, 1) := by decide +kernel
theorem dX12_likeTold_76 : decode cX12_likeTold 76 = .ok (.aload_n 0, 1) := by decide +kernel
theorem dX12_likeTold_77 : decode cX12_likeTold 77 = .ok (.getfield 124, 3) := by decide +kernel
theorem dX12_likeTold_80 : decode cX12_likeTold 80 = .ok (.bipush 8, 2) := by decide +kernel
theorem dX12_likeTold_82 : decode cX12_likeTold 82 = .ok (.iload_n 2, 1) := by decide +kernel
theorem dX12_likeTold_83 : decode cX12_likeTold 83 = .ok (.imul, 1) := by decide +kernel
theorem dX12_likeTold_84 : decode cX12_likeTold 84 = .ok (.iload_n 3, 1) := by decide +kernel
theorem dX12_likeTold_85 : decode cX12_likeTold 85 = .ok (.iadd, 1) := by decide +kernel
theorem dX12_likeTold_86 : decode cX12_likeTold 86 = .ok (.iload 4, 2) := by decide +kernel
theorem dX12_likeTold_88 : decode cX12_likeTold 88 = .ok (.iconst 1, 1) := by decide +kernel
theorem dX12_likeTold_89 : decode cX12_likeTold 89 = .ok (.iadd, 1) := by decide +kernel
theorem dX12_likeTold_90 : decode cX12_likeTold 90 = .ok (.iastore, 1) := by decide +kernel
theorem dX12_likeTold_91 : decode cX12_likeTold 91 = .ok (.aload_n 0, 1) := by decide +kernel
theorem dX12_likeTold_92 : decode cX12_likeTold 92 = .ok (.getfield 124, 3) := by decide +kernel
theorem dX12_likeTold_95 : decode cX12_likeTold 95 = .ok (.bipush 8, 2) := by decide +kernel
theorem dX12_likeTold_97 : decode cX12_likeTold 97 = .ok (.iload_n 3, 1) := by decide +kernel
theorem dX12_likeTold_98 : decode cX12_likeTold 98 = .ok (.imul, 1) := by decide +kernel
theorem dX12_likeTold_99 : decode cX12_likeTold 99 = .ok (.iload_n 2, 1) := by decide +kernel
theorem dX12_likeTold_100 : decode cX12_likeTold 100 = .ok (.iadd, 1) := by decide +kernel
theorem dX12_likeTold_101 : decode cX12_likeTold 101 = .ok (.iload 4, 2) := by decide +kernel
theorem dX12_likeTold_103 : decode cX12_likeTold 103 = .ok (.iconst 1, 1) := by decide +kernel
theorem dX12_likeTold_104 : decode cX12_likeTold 104 = .ok (.iadd, 1) := by decide +kernel
theorem dX12_likeTold_105 : decode cX12_likeTold 105 = .ok (.iastore, 1) := by decide +kernel
theorem dX12_likeTold_106 : decode cX12_likeTold 106 = .ok (.aload_n 0, 1) := by decide +kernel
theorem dX12_likeTold_107 : decode cX12_likeTold 107 = .ok (.getfield 105, 3) := by decide +kernel
theorem dX12_likeTold_110 : decode cX12_likeTold 110 = .ok (.iconst 4, 1) := by decide +kernel
theorem dX12_likeTold_111 : decode cX12_likeTold 111 = .ok (.dup2, 1) := by decide +kernel
theorem dX12_likeTold_112 : decode cX12_likeTold 112 = .ok (.iaload, 1) := by decide +kernel
theorem dX12_likeTold_113 : decode cX12_likeTold 113 = .ok (.iconst 1, 1) := by decide +kernel
theorem dX12_likeTold_114 : decode cX12_likeTold 114 = .ok (.iadd, 1) := by decide +kernel
theorem dX12_likeTold_115 : decode cX12_likeTold 115 = .ok (.iastore, 1) := by decide +kernel
theorem dX12_likeTold_116 : decode cX12_likeTold 116 = .ok (.return_, 1) := by decide +kernel
theorem dX12_qDropsToBracket_0 : decode cX12_qDropsToBracket 0 = .ok (.aload_n 0, 1) := by decide +kernel
theorem dX12_qDropsToBracket_1 : decode cX12_qDropsToBracket 1 = .ok (.getfield 355, 3) := by decide +kernel
theorem dX12_qDropsToBracket_4 : decode cX12_qDropsToBracket 4 = .ok (.aload_n 0, 1) := by decide +kernel
theorem dX12_qDropsToBracket_5 : decode cX12_qDropsToBracket 5 = .ok (.getfield 361, 3) := by decide +kernel
theorem dX12_qDropsToBracket_8 : decode cX12_qDropsToBracket 8 = .ok (.if_icmp .le 27, 3) := by decide +kernel
theorem dX12_qDropsToBracket_11 : decode cX12_qDropsToBracket 11 = .ok (.aload_n 0, 1) := by decide +kernel
theorem dX12_qDropsToBracket_12 : decode cX12_qDropsToBracket 12 = .ok (.getfield 251, 3) := by decide +kernel
theorem dX12_qDropsToBracket_15 : decode cX12_qDropsToBracket 15 = .ok (.aload_n 0, 1) := by decide +kernel
theorem dX12_qDropsToBracket_16 : decode cX12_qDropsToBracket 16 = .ok (.getfield 355, 3) := by decide +kernel
theorem dX12_qDropsToBracket_19 : decode cX12_qDropsToBracket 19 = .ok (.iconst 1, 1) := by decide +kernel
theorem dX12_qDropsToBracket_20 : decode cX12_qDropsToBracket 20 = .ok (.isub, 1) := by decide +kernel
theorem dX12_qDropsToBracket_21 : decode cX12_qDropsToBracket 21 = .ok (.iaload, 1) := by decide +kernel
theorem dX12_qDropsToBracket_22 : decode cX12_qDropsToBracket 22 = .ok (.invokestatic 597, 3) := by decide +kernel
theorem dX12_qDropsToBracket_25 : decode cX12_qDropsToBracket 25 = .ok (.ifCond .ne 10, 3) := by decide +kernel
theorem dX12_qDropsToBracket_28 : decode cX12_qDropsToBracket 28 = .ok (.aload_n 0, 1) := by decide +kernel
theorem dX12_qDropsToBracket_29 : decode cX12_qDropsToBracket 29 = .ok (.invokevirtual 600, 3) := by decide +kernel
theorem dX12_qDropsToBracket_32 : decode cX12_qDropsToBracket 32 = .ok (.goto (-32), 3) := by decide +kernel
theorem dX12_qDropsToBracket_35 : decode cX12_qDropsToBracket 35 = .ok (.return_, 1) := by decide +kernel
theorem dX12_helperMany_0 : decode cX12_helperMany 0 = .ok (.aload_n 0, 1) := by decide +kernel
theorem dX12_helperMany_1 : decode cX12_helperMany 1 = .ok (.getfield 105, 3) := by decide +kernel
theorem dX12_helperMany_4 : decode cX12_helperMany 4 = .ok (.bipush 7, 2) := by decide +kernel
theorem dX12_helperMany_6 : decode cX12_helperMany 6 = .ok (.iaload, 1) := by decide +kernel
theorem dX12_helperMany_7 : decode cX12_helperMany 7 = .ok (.ireturn, 1) := by decide +kernel
theorem dX12_qWordHere_0 : decode cX12_qWordHere 0 = .ok (.aload_n 0, 1) := by decide +kernel
theorem dX12_qWordHere_1 : decode cX12_qWordHere 1 = .ok (.aload_n 0, 1) := by decide +kernel
theorem dX12_qWordHere_2 : decode cX12_qWordHere 2 = .ok (.getfield 215, 3) := by decide +kernel
theorem dX12_qWordHere_5 : decode cX12_qWordHere 5 = .ok (.invokevirtual 286, 3) := by decide +kernel
theorem dX12_qWordHere_8 : decode cX12_qWordHere 8 = .ok (.ifCond .eq 5, 3) := by decide +kernel
theorem dX12_qWordHere_11 : decode cX12_qWordHere 11 = .ok (.iconst 0, 1) := by decide +kernel
theorem dX12_qWordHere_12 : decode cX12_qWordHere 12 = .ok (.ireturn, 1) := by decide +kernel
theorem dX12_qWordHere_13 : decode cX12_qWordHere 13 = .ok (.aload_n 0, 1) := by decide +kernel
theorem dX12_qWordHere_14 : decode cX12_qWordHere 14 = .ok (.aload_n 0, 1) := by decide +kernel
theorem dX12_qWordHere_15 : decode cX12_qWordHere 15 = .ok (.getfield 218, 3) := by decide +kernel
theorem dX12_qWordHere_18 : decode cX12_qWordHere 18 = .ok (.invokevirtual 286, 3) := by decide +kernel
theorem dX12_qWordHere_21 : decode cX12_qWordHere 21 = .ok (.ifCond .eq 5, 3) := by decide +kernel
theorem dX12_qWordHere_24 : decode cX12_qWordHere 24 = .ok (.iconst 1, 1) := by decide +kernel
theorem dX12_qWordHere_25 : decode cX12_qWordHere 25 = .ok (.ireturn, 1) := by decide +kernel
theorem dX12_qWordHere_26 : decode cX12_qWordHere 26 = .ok (.aload_n 0, 1) := by decide +kernel
theorem dX12_qWordHere_27 : decode cX12_qWordHere 27 = .ok (.aload_n 0, 1) := by decide +kernel
theorem dX12_qWordHere_28 : decode cX12_qWordHere 28 = .ok (.getfield 221, 3) := by decide +kernel
theorem dX12_qWordHere_31 : decode cX12_qWordHere 31 = .ok (.invokevirtual 286, 3) := by decide +kernel
theorem dX12_qWordHere_34 : decode cX12_qWordHere 34 = .ok (.ifCond .eq 5, 3) := by decide +kernel
theorem dX12_qWordHere_37 : decode cX12_qWordHere 37 = .ok (.iconst 2, 1) := by decide +kernel
theorem dX12_qWordHere_38 : decode cX12_qWordHere 38 = .ok (.ireturn, 1) := by decide +kernel
theorem dX12_qWordHere_39 : decode cX12_qWordHere 39 = .ok (.aload_n 0, 1) := by decide +kernel
theorem dX12_qWordHere_40 : decode cX12_qWordHere 40 = .ok (.aload_n 0, 1) := by decide +kernel
theorem dX12_qWordHere_41 : decode cX12_qWordHere 41 = .ok (.getfield 224, 3) := by decide +kernel
theorem dX12_qWordHere_44 : decode cX12_qWordHere 44 = .ok (.invokevirtual 286, 3) := by decide +kernel
theorem dX12_qWordHere_47 : decode cX12_qWordHere 47 = .ok (.ifCond .eq 5, 3) := by decide +kernel
theorem dX12_qWordHere_50 : decode cX12_qWordHere 50 = .ok (.iconst 3, 1) := by decide +kernel
theorem dX12_qWordHere_51 : decode cX12_qWordHere 51 = .ok (.ireturn, 1) := by decide +kernel
theorem dX12_qWordHere_52 : decode cX12_qWordHere 52 = .ok (.aload_n 0, 1) := by decide +kernel
theorem dX12_qWordHere_53 : decode cX12_qWordHere 53 = .ok (.aload_n 0, 1) := by decide +kernel
theorem dX12_qWordHere_54 : decode cX12_qWordHere 54 = .ok (.getfield 227, 3) := by decide +kernel
theorem dX12_qWordHere_57 : decode cX12_qWordHere 57 = .ok (.invokevirtual 286, 3) := by decide +kernel
theorem dX12_qWordHere_60 : decode cX12_qWordHere 60 = .ok (.ifCond .eq 5, 3) := by decide +kernel
theorem dX12_qWordHere_63 : decode cX12_qWordHere 63 = .ok (.iconst 4, 1) := by decide +kernel
theorem dX12_qWordHere_64 : decode cX12_qWordHere 64 = .ok (.ireturn, 1) := by decide +kernel
theorem dX12_qWordHere_65 : decode cX12_qWordHere 65 = .ok (.aload_n 0, 1) := by decide +kernel
theorem dX12_qWordHere_66 : decode cX12_qWordHere 66 = .ok (.aload_n 0, 1) := by decide +kernel
theorem dX12_qWordHere_67 : decode cX12_qWordHere 67 = .ok (.getfield 230, 3) := by decide +kernel
theorem dX12_qWordHere_70 : decode cX12_qWordHere 70 = .ok (.invokevirtual 286, 3) := by decide +kernel
theorem dX12_qWordHere_73 : decode cX12_qWordHere 73 = .ok (.ifCond .eq 5, 3) := by decide +kernel
theorem dX12_qWordHere_76 : decode cX12_qWordHere 76 = .ok (.iconst 5, 1) := by decide +kernel
theorem dX12_qWordHere_77 : decode cX12_qWordHere 77 = .ok (.ireturn, 1) := by decide +kernel
theorem dX12_qWordHere_78 : decode cX12_qWordHere 78 = .ok (.aload_n 0, 1) := by decide +kernel
theorem dX12_qWordHere_79 : decode cX12_qWordHere 79 = .ok (.aload_n 0, 1) := by decide +kernel
theorem dX12_qWordHere_80 : decode cX12_qWordHere 80 = .ok (.getfield 233, 3) := by decide +kernel
theorem dX12_qWordHere_83 : decode cX12_qWordHere 83 = .ok (.invokevirtual 286, 3) := by decide +kernel
theorem dX12_qWordHere_86 : decode cX12_qWordHere 86 = .ok (.ifCond .eq 6, 3) := by decide +kernel
theorem dX12_qWordHere_89 : decode cX12_qWordHere 89 = .ok (.bipush 6, 2) := by decide +kernel
theorem dX12_qWordHere_91 : decode cX12_qWordHere 91 = .ok (.ireturn, 1) := by decide +kernel
theorem dX12_qWordHere_92 : decode cX12_qWordHere 92 = .ok (.aload_n 0, 1) := by decide +kernel
theorem dX12_qWordHere_93 : decode cX12_qWordHere 93 = .ok (.aload_n 0, 1) := by decide +kernel
theorem dX12_qWordHere_94 : decode cX12_qWordHere 94 = .ok (.getfield 236, 3) := by decide +kernel
theorem dX12_qWordHere_97 : decode cX12_qWordHere 97 = .ok (.invokevirtual 286, 3) := by decide +kernel
theorem dX12_qWordHere_100 : decode cX12_qWordHere 100 = .ok (.ifCond .eq 6, 3) := by decide +kernel
theorem dX12_qWordHere_103 : decode cX12_qWordHere 103 = .ok (.bipush 7, 2) := by decide +kernel
theorem dX12_qWordHere_105 : decode cX12_qWordHere 105 = .ok (.ireturn, 1) := by decide +kernel
theorem dX12_qWordHere_106 : decode cX12_qWordHere 106 = .ok (.aload_n 0, 1) := by decide +kernel
theorem dX12_qWordHere_107 : decode cX12_qWordHere 107 = .ok (.aload_n 0, 1) := by decide +kernel
theorem dX12_qWordHere_108 : decode cX12_qWordHere 108 = .ok (.getfield 239, 3) := by decide +kernel
theorem dX12_qWordHere_111 : decode cX12_qWordHere 111 = .ok (.invokevirtual 286, 3) := by decide +kernel
theorem dX12_qWordHere_114 : decode cX12_qWordHere 114 = .ok (.ifCond .eq 6, 3) := by decide +kernel
theorem dX12_qWordHere_117 : decode cX12_qWordHere 117 = .ok (.bipush 8, 2) := by decide +kernel
theorem dX12_qWordHere_119 : decode cX12_qWordHere 119 = .ok (.ireturn, 1) := by decide +kernel
theorem dX12_qWordHere_120 : decode cX12_qWordHere 120 = .ok (.aload_n 0, 1) := by decide +kernel
theorem dX12_qWordHere_121 : decode cX12_qWordHere 121 = .ok (.aload_n 0, 1) := by decide +kernel
theorem dX12_qWordHere_122 : decode cX12_qWordHere 122 = .ok (.getfield 242, 3) := by decide +kernel
theorem dX12_qWordHere_125 : decode cX12_qWordHere 125 = .ok (.invokevirtual 286, 3) := by decide +kernel
theorem dX12_qWordHere_128 : decode cX12_qWordHere 128 = .ok (.ifCond .eq 6, 3) := by decide +kernel
theorem dX12_qWordHere_131 : decode cX12_qWordHere 131 = .ok (.bipush 9, 2) := by decide +kernel
theorem dX12_qWordHere_133 : decode cX12_qWordHere 133 = .ok (.ireturn, 1) := by decide +kernel
theorem dX12_qWordHere_134 : decode cX12_qWordHere 134 = .ok (.aload_n 0, 1) := by decide +kernel
theorem dX12_qWordHere_135 : decode cX12_qWordHere 135 = .ok (.aload_n 0, 1) := by decide +kernel
theorem dX12_qWordHere_136 : decode cX12_qWordHere 136 = .ok (.getfield 245, 3) := by decide +kernel
theorem dX12_qWordHere_139 : decode cX12_qWordHere 139 = .ok (.invokevirtual 286, 3) := by decide +kernel
theorem dX12_qWordHere_142 : decode cX12_qWordHere 142 = .ok (.ifCond .eq 6, 3) := by decide +kernel
theorem dX12_qWordHere_145 : decode cX12_qWordHere 145 = .ok (.bipush 10, 2) := by decide +kernel
theorem dX12_qWordHere_147 : decode cX12_qWordHere 147 = .ok (.ireturn, 1) := by decide +kernel
theorem dX12_qWordHere_148 : decode cX12_qWordHere 148 = .ok (.iconst (-1), 1) := by decide +kernel
theorem dX12_qWordHere_149 : decode cX12_qWordHere 149 = .ok (.ireturn, 1) := by decide +kernel
theorem dX12_octet_0 : decode cX12_octet 0 = .ok (.iload_n 1, 1) := by decide +kernel
theorem dX12_octet_1 : decode cX12_octet 1 = .ok (.ifCond .lt 20, 3) := by decide +kernel
theorem dX12_octet_4 : decode cX12_octet 4 = .ok (.iload_n 1, 1) := by decide +kernel
theorem dX12_octet_5 : decode cX12_octet 5 = .ok (.aload_n 0, 1) := by decide +kernel
theorem dX12_octet_6 : decode cX12_octet 6 = .ok (.getfield 686, 3) := by decide +kernel
theorem dX12_octet_9 : decode cX12_octet 9 = .ok (.if_icmp .ge 12, 3) := by decide +kernel
theorem dX12_octet_12 : decode cX12_octet 12 = .ok (.aload_n 0, 1) := by decide +kernel
theorem dX12_octet_13 : decode cX12_octet 13 = .ok (.getfield 257, 3) := by decide +kernel
theorem dX12_octet_16 : decode cX12_octet 16 = .ok (.iload_n 1, 1) := by decide +kernel
theorem dX12_octet_17 : decode cX12_octet 17 = .ok (.iaload, 1) := by decide +kernel
theorem dX12_octet_18 : decode cX12_octet 18 = .ok (.goto 4, 3) := by decide +kernel
theorem dX12_octet_21 : decode cX12_octet 21 = .ok (.iconst (-1), 1) := by decide +kernel
theorem dX12_octet_22 : decode cX12_octet 22 = .ok (.ireturn, 1) := by decide +kernel
theorem dX12_qTakes_0 : decode cX12_qTakes 0 = .ok (.iload_n 1, 1) := by decide +kernel
theorem dX12_qTakes_1 : decode cX12_qTakes 1 = .ok (.iconst 3, 1) := by decide +kernel
theorem dX12_qTakes_2 : decode cX12_qTakes 2 = .ok (.if_icmp .ge 13, 3) := by decide +kernel
theorem dX12_qTakes_5 : decode cX12_qTakes 5 = .ok (.lload_n 2, 1) := by decide +kernel
theorem dX12_qTakes_6 : decode cX12_qTakes 6 = .ok (.lconst 1, 1) := by decide +kernel
theorem dX12_qTakes_7 : decode cX12_qTakes 7 = .ok (.lcmp, 1) := by decide +kernel
theorem dX12_qTakes_8 : decode cX12_qTakes 8 = .ok (.ifCond .ne 7, 3) := by decide +kernel
theorem dX12_qTakes_11 : decode cX12_qTakes 11 = .ok (.iconst 1, 1) := by decide +kernel
theorem dX12_qTakes_12 : decode cX12_qTakes 12 = .ok (.goto 4, 3) := by decide +kernel
theorem dX12_qTakes_15 : decode cX12_qTakes 15 = .ok (.iconst 0, 1) := by decide +kernel
theorem dX12_qTakes_16 : decode cX12_qTakes 16 = .ok (.istore 5, 2) := by decide +kernel
theorem dX12_qTakes_18 : decode cX12_qTakes 18 = .ok (.iload_n 1, 1) := by decide +kernel
theorem dX12_qTakes_19 : decode cX12_qTakes 19 = .ok (.ifCond .ne 19, 3) := by decide +kernel
theorem dX12_qTakes_22 : decode cX12_qTakes 22 = .ok (.iload 5, 2) := by decide +kernel
theorem dX12_qTakes_24 : decode cX12_qTakes 24 = .ok (.ifCond .eq 14, 3) := by decide +kernel
theorem dX12_qTakes_27 : decode cX12_qTakes 27 = .ok (.aload_n 0, 1) := by decide +kernel
theorem dX12_qTakes_28 : decode cX12_qTakes 28 = .ok (.getfield 664, 3) := by decide +kernel
theorem dX12_qTakes_31 : decode cX12_qTakes 31 = .ok (.ldc2_w 667, 3) := by decide +kernel
theorem dX12_qTakes_34 : decode cX12_qTakes 34 = .ok (.lcmp, 1) := by decide +kernel
theorem dX12_qTakes_35 : decode cX12_qTakes 35 = .ok (.ifCond .eq 13, 3) := by decide +kernel
theorem dX12_qTakes_38 : decode cX12_qTakes 38 = .ok (.iload_n 1, 1) := by decide +kernel
theorem dX12_qTakes_39 : decode cX12_qTakes 39 = .ok (.iconst 1, 1) := by decide +kernel
theorem dX12_qTakes_40 : decode cX12_qTakes 40 = .ok (.if_icmp .ne 15, 3) := by decide +kernel
theorem dX12_qTakes_43 : decode cX12_qTakes 43 = .ok (.iload 5, 2) := by decide +kernel
theorem dX12_qTakes_45 : decode cX12_qTakes 45 = .ok (.ifCond .eq 10, 3) := by decide +kernel
theorem dX12_qTakes_48 : decode cX12_qTakes 48 = .ok (.aload_n 0, 1) := by decide +kernel
theorem dX12_qTakes_49 : decode cX12_qTakes 49 = .ok (.iload 4, 2) := by decide +kernel
theorem dX12_qTakes_51 : decode cX12_qTakes 51 = .ok (.i2l, 1) := by decide +kernel
theorem dX12_qTakes_52 : decode cX12_qTakes 52 = .ok (.putfield 664, 3) := by decide +kernel
theorem dX12_qTakes_55 : decode cX12_qTakes 55 = .ok (.iload_n 1, 1) := by decide +kernel
theorem dX12_qTakes_56 : decode cX12_qTakes 56 = .ok (.iconst 2, 1) := by decide +kernel
theorem dX12_qTakes_57 : decode cX12_qTakes 57 = .ok (.if_icmp .ne 18, 3) := by decide +kernel
theorem dX12_qTakes_60 : decode cX12_qTakes 60 = .ok (.iload 5, 2) := by decide +kernel
theorem dX12_qTakes_62 : decode cX12_qTakes 62 = .ok (.ifCond .eq 13, 3) := by decide +kernel
theorem dX12_qTakes_65 : decode cX12_qTakes 65 = .ok (.aload_n 0, 1) := by decide +kernel
theorem dX12_qTakes_66 : decode cX12_qTakes 66 = .ok (.dup, 1) := by decide +kernel
theorem dX12_qTakes_67 : decode cX12_qTakes 67 = .ok (.getfield 664, 3) := by decide +kernel
theorem dX12_qTakes_70 : decode cX12_qTakes 70 = .ok (.lconst 1, 1) := by decide +kernel
theorem dX12_qTakes_71 : decode cX12_qTakes 71 = .ok (.ladd, 1) := by decide +kernel
theorem dX12_qTakes_72 : decode cX12_qTakes 72 = .ok (.putfield 664, 3) := by decide +kernel
theorem dX12_qTakes_75 : decode cX12_qTakes 75 = .ok (.iload_n 1, 1) := by decide +kernel
theorem dX12_qTakes_76 : decode cX12_qTakes 76 = .ok (.iconst 3, 1) := by decide +kernel
theorem dX12_qTakes_77 : decode cX12_qTakes 77 = .ok (.if_icmp .ne 13, 3) := by decide +kernel
theorem dX12_qTakes_80 : decode cX12_qTakes 80 = .ok (.aload_n 0, 1) := by decide +kernel
theorem dX12_qTakes_81 : decode cX12_qTakes 81 = .ok (.dup, 1) := by decide +kernel
theorem dX12_qTakes_82 : decode cX12_qTakes 82 = .ok (.getfield 664, 3) := by decide +kernel
theorem dX12_qTakes_85 : decode cX12_qTakes 85 = .ok (.lload_n 2, 1) := by decide +kernel
theorem dX12_qTakes_86 : decode cX12_qTakes 86 = .ok (.ladd, 1) := by decide +kernel
theorem dX12_qTakes_87 : decode cX12_qTakes 87 = .ok (.putfield 664, 3) := by decide +kernel
theorem dX12_qTakes_90 : decode cX12_qTakes 90 = .ok (.iload_n 1, 1) := by decide +kernel
theorem dX12_qTakes_91 : decode cX12_qTakes 91 = .ok (.iconst 3, 1) := by decide +kernel
theorem dX12_qTakes_92 : decode cX12_qTakes 92 = .ok (.if_icmp .le 41, 3) := by decide +kernel
theorem dX12_qTakes_95 : decode cX12_qTakes 95 = .ok (.aload_n 0, 1) := by decide +kernel
theorem dX12_qTakes_96 : decode cX12_qTakes 96 = .ok (.getfield 669, 3) := by decide +kernel
theorem dX12_qTakes_99 : decode cX12_qTakes 99 = .ok (.ifCond .ne 29, 3) := by decide +kernel
theorem dX12_qTakes_102 : decode cX12_qTakes 102 = .ok (.iload_n 1, 1) := by decide +kernel
theorem dX12_qTakes_103 : decode cX12_qTakes 103 = .ok (.iconst 4, 1) := by decide +kernel
theorem dX12_qTakes_104 : decode cX12_qTakes 104 = .ok (.if_icmp .ne 15, 3) := by decide +kernel
theorem dX12_qTakes_107 : decode cX12_qTakes 107 = .ok (.lload_n 2, 1) := by decide +kernel
theorem dX12_qTakes_108 : decode cX12_qTakes 108 = .ok (.aload_n 0, 1) := by decide +kernel
theorem dX12_qTakes_109 : decode cX12_qTakes 109 = .ok (.getfield 664, 3) := by decide +kernel
theorem dX12_qTakes_112 : decode cX12_qTakes 112 = .ok (.lcmp, 1) := by decide +kernel
theorem dX12_qTakes_113 : decode cX12_qTakes 113 = .ok (.ifCond .le 20, 3) := by decide +kernel
theorem dX12_qTakes_116 : decode cX12_qTakes 116 = .ok (.goto 12, 3) := by decide +kernel
theorem dX12_qTakes_119 : decode cX12_qTakes 119 = .ok (.lload_n 2, 1) := by decide +kernel
theorem dX12_qTakes_120 : decode cX12_qTakes 120 = .ok (.aload_n 0, 1) := by decide +kernel
theorem dX12_qTakes_121 : decode cX12_qTakes 121 = .ok (.getfield 664, 3) := by decide +kernel
theorem dX12_qTakes_124 : decode cX12_qTakes 124 = .ok (.lcmp, 1) := by decide +kernel
theorem dX12_qTakes_125 : decode cX12_qTakes 125 = .ok (.ifCond .ge 8, 3) := by decide +kernel
theorem dX12_qTakes_128 : decode cX12_qTakes 128 = .ok (.aload_n 0, 1) := by decide +kernel
theorem dX12_qTakes_129 : decode cX12_qTakes 129 = .ok (.lload_n 2, 1) := by decide +kernel
theorem dX12_qTakes_130 : decode cX12_qTakes 130 = .ok (.putfield 664, 3) := by decide +kernel
theorem dX12_qTakes_133 : decode cX12_qTakes 133 = .ok (.aload_n 0, 1) := by decide +kernel
theorem dX12_qTakes_134 : decode cX12_qTakes 134 = .ok (.iconst 0, 1) := by decide +kernel
theorem dX12_qTakes_135 : decode cX12_qTakes 135 = .ok (.putfield 669, 3) := by decide +kernel
theorem dX12_qTakes_138 : decode cX12_qTakes 138 = .ok (.return_, 1) := by decide +kernel
theorem dX12_stands_0 : decode cX12_stands 0 = .ok (.iconst 0, 1) := by decide +kernel
theorem dX12_stands_1 : decode cX12_stands 1 = .ok (.istore_n 1, 1) := by decide +kernel
theorem dX12_stands_2 : decode cX12_stands 2 = .ok (.iload_n 1, 1) := by decide +kernel
theorem dX12_stands_3 : decode cX12_stands 3 = .ok (.iconst 5, 1) := by decide +kernel
theorem dX12_stands_4 : decode cX12_stands 4 = .ok (.if_icmp .ge 23, 3) := by decide +kernel
theorem dX12_stands_7 : decode cX12_stands 7 = .ok (.aload_n 0, 1) := by decide +kernel
theorem dX12_stands_8 : decode cX12_stands 8 = .ok (.getfield 105, 3) := by decide +kernel
theorem dX12_stands_11 : decode cX12_stands 11 = .ok (.iconst 5, 1) := by decide +kernel
theorem dX12_stands_12 : decode cX12_stands 12 = .ok (.iload_n 1, 1) := by decide +kernel
theorem dX12_stands_13 : decode cX12_stands 13 = .ok (.iadd, 1) := by decide +kernel
theorem dX12_stands_14 : decode cX12_stands 14 = .ok (.aload_n 0, 1) := by decide +kernel
theorem dX12_stands_15 : decode cX12_stands 15 = .ok (.getfield 105, 3) := by decide +kernel
theorem dX12_stands_18 : decode cX12_stands 18 = .ok (.iload_n 1, 1) := by decide +kernel
theorem dX12_stands_19 : decode cX12_stands 19 = .ok (.iaload, 1) := by decide +kernel
theorem dX12_stands_20 : decode cX12_stands 20 = .ok (.iastore, 1) := by decide +kernel
theorem dX12_stands_21 : decode cX12_stands 21 = .ok (.iinc 1 1, 3) := by decide +kernel
theorem dX12_stands_24 : decode cX12_stands 24 = .ok (.goto (-22), 3) := by decide +kernel
theorem dX12_stands_27 : decode cX12_stands 27 = .ok (.iconst 0, 1) := by decide +kernel
theorem dX12_stands_28 : decode cX12_stands 28 = .ok (.istore_n 1, 1) := by decide +kernel
theorem dX12_stands_29 : decode cX12_stands 29 = .ok (.iload_n 1, 1) := by decide +kernel
theorem dX12_stands_30 : decode cX12_stands 30 = .ok (.bipush 24, 2) := by decide +kernel
theorem dX12_stands_32 : decode cX12_stands 32 = .ok (.if_icmp .ge 39, 3) := by decide +kernel
theorem dX12_stands_35 : decode cX12_stands 35 = .ok (.aload_n 0, 1) := by decide +kernel
theorem dX12_stands_36 : decode cX12_stands 36 = .ok (.getfield 108, 3) := by decide +kernel
theorem dX12_stands_39 : decode cX12_stands 39 = .ok (.bipush 24, 2) := by decide +kernel
theorem dX12_stands_41 : decode cX12_stands 41 = .ok (.iload_n 1, 1) := by decide +kernel
theorem dX12_stands_42 : decode cX12_stands 42 = .ok (.iadd, 1) := by decide +kernel
theorem dX12_stands_43 : decode cX12_stands 43 = .ok (.aload_n 0, 1) := by decide +kernel
theorem dX12_stands_44 : decode cX12_stands 44 = .ok (.getfield 108, 3) := by decide +kernel
theorem dX12_stands_47 : decode cX12_stands 47 = .ok (.iload_n 1, 1) := by decide +kernel
theorem dX12_stands_48 : decode cX12_stands 48 = .ok (.laload, 1) := by decide +kernel
theorem dX12_stands_49 : decode cX12_stands 49 = .ok (.lastore, 1) := by decide +kernel
theorem dX12_stands_50 : decode cX12_stands 50 = .ok (.aload_n 0, 1) := by decide +kernel
theorem dX12_stands_51 : decode cX12_stands 51 = .ok (.getfield 112, 3) := by decide +kernel
theorem dX12_stands_54 : decode cX12_stands 54 = .ok (.bipush 24, 2) := by decide +kernel
theorem dX12_stands_56 : decode cX12_stands 56 = .ok (.iload_n 1, 1) := by decide +kernel
theorem dX12_stands_57 : decode cX12_stands 57 = .ok (.iadd, 1) := by decide +kernel
theorem dX12_stands_58 : decode cX12_stands 58 = .ok (.aload_n 0, 1) := by decide +kernel
theorem dX12_stands_59 : decode cX12_stands 59 = .ok (.getfield 112, 3) := by decide +kernel
theorem dX12_stands_62 : decode cX12_stands 62 = .ok (.iload_n 1, 1) := by decide +kernel
theorem dX12_stands_63 : decode cX12_stands 63 = .ok (.iaload, 1) := by decide +kernel
theorem dX12_stands_64 : decode cX12_stands 64 = .ok (.iastore, 1) := by decide +kernel
theorem dX12_stands_65 : decode cX12_stands 65 = .ok (.iinc 1 1, 3) := by decide +kernel
theorem dX12_stands_68 : decode cX12_stands 68 = .ok (.goto (-39), 3) := by decide +kernel
theorem dX12_stands_71 : decode cX12_stands 71 = .ok (.iconst 0, 1) := by decide +kernel
theorem dX12_stands_72 : decode cX12_stands 72 = .ok (.istore_n 1, 1) := by decide +kernel
theorem dX12_stands_73 : decode cX12_stands 73 = .ok (.iload_n 1, 1) := by decide +kernel
theorem dX12_stands_74 : decode cX12_stands 74 = .ok (.iconst 4, 1) := by decide +kernel
theorem dX12_stands_75 : decode cX12_stands 75 = .ok (.if_icmp .ge 23, 3) := by decide +kernel
theorem dX12_stands_78 : decode cX12_stands 78 = .ok (.aload_n 0, 1) := by decide +kernel
theorem dX12_stands_79 : decode cX12_stands 79 = .ok (.getfield 115, 3) := by decide +kernel
theorem dX12_stands_82 : decode cX12_stands 82 = .ok (.iconst 4, 1) := by decide +kernel
theorem dX12_stands_83 : decode cX12_stands 83 = .ok (.iload_n 1, 1) := by decide +kernel
theorem dX12_stands_84 : decode cX12_stands 84 = .ok (.iadd, 1) := by decide +kernel
theorem dX12_stands_85 : decode cX12_stands 85 = .ok (.aload_n 0, 1) := by decide +kernel
theorem dX12_stands_86 : decode cX12_stands 86 = .ok (.getfield 115, 3) := by decide +kernel
theorem dX12_stands_89 : decode cX12_stands 89 = .ok (.iload_n 1, 1) := by decide +kernel
theorem dX12_stands_90 : decode cX12_stands 90 = .ok (.iaload, 1) := by decide +kernel
theorem dX12_stands_91 : decode cX12_stands 91 = .ok (.iastore, 1) := by decide +kernel
theorem dX12_stands_92 : decode cX12_stands 92 = .ok (.iinc 1 1, 3) := by decide +kernel
theorem dX12_stands_95 : decode cX12_stands 95 = .ok (.goto (-22), 3) := by decide +kernel
theorem dX12_stands_98 : decode cX12_stands 98 = .ok (.iconst 0, 1) := by decide +kernel
theorem dX12_stands_99 : decode cX12_stands 99 = .ok (.istore_n 1, 1) := by decide +kernel
theorem dX12_stands_100 : decode cX12_stands 100 = .ok (.iload_n 1, 1) := by decide +kernel
theorem dX12_stands_101 : decode cX12_stands 101 = .ok (.bipush 32, 2) := by decide +kernel
theorem dX12_stands_103 : decode cX12_stands 103 = .ok (.if_icmp .ge 24, 3) := by decide +kernel
theorem dX12_stands_106 : decode cX12_stands 106 = .ok (.aload_n 0, 1) := by decide +kernel
theorem dX12_stands_107 : decode cX12_stands 107 = .ok (.getfield 118, 3) := by decide +kernel
theorem dX12_stands_110 : decode cX12_stands 110 = .ok (.bipush 32, 2) := by decide +kernel
theorem dX12_stands_112 : decode cX12_stands 112 = .ok (.iload_n 1, 1) := by decide +kernel
theorem dX12_stands_113 : decode cX12_stands 113 = .ok (.iadd, 1) := by decide +kernel
theorem dX12_stands_114 : decode cX12_stands 114 = .ok (.aload_n 0, 1) := by decide +kernel
theorem dX12_stands_115 : decode cX12_stands 115 = .ok (.getfield 118, 3) := by decide +kernel
theorem dX12_stands_118 : decode cX12_stands 118 = .ok (.iload_n 1, 1) := by decide +kernel
theorem dX12_stands_119 : decode cX12_stands 119 = .ok (.iaload, 1) := by decide +kernel
theorem dX12_stands_120 : decode cX12_stands 120 = .ok (.iastore, 1) := by decide +kernel
theorem dX12_stands_121 : decode cX12_stands 121 = .ok (.iinc 1 1, 3) := by decide +kernel
theorem dX12_stands_124 : decode cX12_stands 124 = .ok (.goto (-24), 3) := by decide +kernel
theorem dX12_stands_127 : decode cX12_stands 127 = .ok (.iconst 0, 1) := by decide +kernel
theorem dX12_stands_128 : decode cX12_stands 128 = .ok (.istore_n 1, 1) := by decide +kernel
theorem dX12_stands_129 : decode cX12_stands 129 = .ok (.iload_n 1, 1) := by decide +kernel
theorem dX12_stands_130 : decode cX12_stands 130 = .ok (.bipush 8, 2) := by decide +kernel
theorem dX12_stands_132 : decode cX12_stands 132 = .ok (.if_icmp .ge 24, 3) := by decide +kernel
theorem dX12_stands_135 : decode cX12_stands 135 = .ok (.aload_n 0, 1) := by decide +kernel
theorem dX12_stands_136 : decode cX12_stands 136 = .ok (.getfield 121, 3) := by decide +kernel
theorem dX12_stands_139 : decode cX12_stands 139 = .ok (.bipush 8, 2) := by decide +kernel
theorem dX12_stands_141 : decode cX12_stands 141 = .ok (.iload_n 1, 1) := by decide +kernel
theorem dX12_stands_142 : decode cX12_stands 142 = .ok (.iadd, 1) := by decide +kernel
theorem dX12_stands_143 : decode cX12_stands 143 = .ok (.aload_n 0, 1) := by decide +kernel
theorem dX12_stands_144 : decode cX12_stands 144 = .ok (.getfield 121, 3) := by decide +kernel
theorem dX12_stands_147 : decode cX12_stands 147 = .ok (.iload_n 1, 1) := by decide +kernel
theorem dX12_stands_148 : decode cX12_stands 148 = .ok (.iaload, 1) := by decide +kernel
theorem dX12_stands_149 : decode cX12_stands 149 = .ok (.iastore, 1) := by decide +kernel
theorem dX12_stands_150 : decode cX12_stands 150 = .ok (.iinc 1 1, 3) := by decide +kernel
theorem dX12_stands_153 : decode cX12_stands 153 = .ok (.goto (-24), 3) := by decide +kernel
theorem dX12_stands_156 : decode cX12_stands 156 = .ok (.iconst 0, 1) := by decide +kernel
theorem dX12_stands_157 : decode cX12_stands 157 = .ok (.istore_n 1, 1) := by decide +kernel
theorem dX12_stands_158 : decode cX12_stands 158 = .ok (.iload_n 1, 1) := by decide +kernel
theorem dX12_stands_159 : decode cX12_stands 159 = .ok (.bipush 64, 2) := by decide +kernel
theorem dX12_stands_161 : decode cX12_stands 161 = .ok (.if_icmp .ge 24, 3) := by decide +kernel
theorem dX12_stands_164 : decode cX12_stands 164 = .ok (.aload_n 0, 1) := by decide +kernel
theorem dX12_stands_165 : decode cX12_stands 165 = .ok (.getfield 124, 3) := by decide +kernel
theorem dX12_stands_168 : decode cX12_stands 168 = .ok (.bipush 64, 2) := by decide +kernel
theorem dX12_stands_170 : decode cX12_stands 170 = .ok (.iload_n 1, 1) := by decide +kernel
theorem dX12_stands_171 : decode cX12_stands 171 = .ok (.iadd, 1) := by decide +kernel
theorem dX12_stands_172 : decode cX12_stands 172 = .ok (.aload_n 0, 1) := by decide +kernel
theorem dX12_stands_173 : decode cX12_stands 173 = .ok (.getfield 124, 3) := by decide +kernel
theorem dX12_stands_176 : decode cX12_stands 176 = .ok (.iload_n 1, 1) := by decide +kernel
theorem dX12_stands_177 : decode cX12_stands 177 = .ok (.iaload, 1) := by decide +kernel
theorem dX12_stands_178 : decode cX12_stands 178 = .ok (.iastore, 1) := by decide +kernel
theorem dX12_stands_179 : decode cX12_stands 179 = .ok (.iinc 1 1, 3) := by decide +kernel
theorem dX12_stands_182 : decode cX12_stands 182 = .ok (.goto (-24), 3) := by decide +kernel
theorem dX12_stands_185 : decode cX12_stands 185 = .ok (.iconst 0, 1) := by decide +kernel
theorem dX12_stands_186 : decode cX12_stands 186 = .ok (.istore_n 1, 1) := by decide +kernel
theorem dX12_stands_187 : decode cX12_stands 187 = .ok (.iload_n 1, 1) := by decide +kernel
theorem dX12_stands_188 : decode cX12_stands 188 = .ok (.bipush 9, 2) := by decide +kernel
theorem dX12_stands_190 : decode cX12_stands 190 = .ok (.if_icmp .ge 24, 3) := by decide +kernel
theorem dX12_stands_193 : decode cX12_stands 193 = .ok (.aload_n 0, 1) := by decide +kernel
theorem dX12_stands_194 : decode cX12_stands 194 = .ok (.getfield 127, 3) := by decide +kernel
theorem dX12_stands_197 : decode cX12_stands 197 = .ok (.bipush 9, 2) := by decide +kernel
theorem dX12_stands_199 : decode cX12_stands 199 = .ok (.iload_n 1, 1) := by decide +kernel
theorem dX12_stands_200 : decode cX12_stands 200 = .ok (.iadd, 1) := by decide +kernel
theorem dX12_stands_201 : decode cX12_stands 201 = .ok (.aload_n 0, 1) := by decide +kernel
theorem dX12_stands_202 : decode cX12_stands 202 = .ok (.getfield 127, 3) := by decide +kernel
theorem dX12_stands_205 : decode cX12_stands 205 = .ok (.iload_n 1, 1) := by decide +kernel
theorem dX12_stands_206 : decode cX12_stands 206 = .ok (.iaload, 1) := by decide +kernel
theorem dX12_stands_207 : decode cX12_stands 207 = .ok (.iastore, 1) := by decide +kernel
theorem dX12_stands_208 : decode cX12_stands 208 = .ok (.iinc 1 1, 3) := by decide +kernel
theorem dX12_stands_211 : decode cX12_stands 211 = .ok (.goto (-24), 3) := by decide +kernel
theorem dX12_stands_214 : decode cX12_stands 214 = .ok (.iconst 0, 1) := by decide +kernel
theorem dX12_stands_215 : decode cX12_stands 215 = .ok (.istore_n 1, 1) := by decide +kernel
theorem dX12_stands_216 : decode cX12_stands 216 = .ok (.iload_n 1, 1) := by decide +kernel
theorem dX12_stands_217 : decode cX12_stands 217 = .ok (.iconst 2, 1) := by decide +kernel
theorem dX12_stands_218 : decode cX12_stands 218 = .ok (.if_icmp .ge 51, 3) := by decide +kernel
theorem dX12_stands_221 : decode cX12_stands 221 = .ok (.aload_n 0, 1) := by decide +kernel
theorem dX12_stands_222 : decode cX12_stands 222 = .ok (.getfield 130, 3) := by decide +kernel
theorem dX12_stands_225 : decode cX12_stands 225 = .ok (.iconst 2, 1) := by decide +kernel
theorem dX12_stands_226 : decode cX12_stands 226 = .ok (.iload_n 1, 1) := by decide +kernel
theorem dX12_stands_227 : decode cX12_stands 227 = .ok (.iadd, 1) := by decide +kernel
theorem dX12_stands_228 : decode cX12_stands 228 = .ok (.aload_n 0, 1) := by decide +kernel
theorem dX12_stands_229 : decode cX12_stands 229 = .ok (.getfield 130, 3) := by decide +kernel
theorem dX12_stands_232 : decode cX12_stands 232 = .ok (.iload_n 1, 1) := by decide +kernel
theorem dX12_stands_233 : decode cX12_stands 233 = .ok (.iaload, 1) := by decide +kernel
theorem dX12_stands_234 : decode cX12_stands 234 = .ok (.iastore, 1) := by decide +kernel
theorem dX12_stands_235 : decode cX12_stands 235 = .ok (.aload_n 0, 1) := by decide +kernel
theorem dX12_stands_236 : decode cX12_stands 236 = .ok (.getfield 133, 3) := by decide +kernel
theorem dX12_stands_239 : decode cX12_stands 239 = .ok (.iconst 2, 1) := by decide +kernel
theorem dX12_stands_240 : decode cX12_stands 240 = .ok (.iload_n 1, 1) := by decide +kernel
theorem dX12_stands_241 : decode cX12_stands 241 = .ok (.iadd, 1) := by decide +kernel
theorem dX12_stands_242 : decode cX12_stands 242 = .ok (.aload_n 0, 1) := by decide +kernel
theorem dX12_stands_243 : decode cX12_stands 243 = .ok (.getfield 133, 3) := by decide +kernel
theorem dX12_stands_246 : decode cX12_stands 246 = .ok (.iload_n 1, 1) := by decide +kernel
theorem dX12_stands_247 : decode cX12_stands 247 = .ok (.iaload, 1) := by decide +kernel
theorem dX12_stands_248 : decode cX12_stands 248 = .ok (.iastore, 1) := by decide +kernel
theorem dX12_stands_249 : decode cX12_stands 249 = .ok (.aload_n 0, 1) := by decide +kernel
theorem dX12_stands_250 : decode cX12_stands 250 = .ok (.getfield 136, 3) := by decide +kernel
theorem dX12_stands_253 : decode cX12_stands 253 = .ok (.iconst 2, 1) := by decide +kernel
theorem dX12_stands_254 : decode cX12_stands 254 = .ok (.iload_n 1, 1) := by decide +kernel
theorem dX12_stands_255 : decode cX12_stands 255 = .ok (.iadd, 1) := by decide +kernel
theorem dX12_stands_256 : decode cX12_stands 256 = .ok (.aload_n 0, 1) := by decide +kernel
theorem dX12_stands_257 : decode cX12_stands 257 = .ok (.getfield 136, 3) := by decide +kernel
theorem dX12_stands_260 : decode cX12_stands 260 = .ok (.iload_n 1, 1) := by decide +kernel
theorem dX12_stands_261 : decode cX12_stands 261 = .ok (.iaload, 1) := by decide +kernel
theorem dX12_stands_262 : decode cX12_stands 262 = .ok (.iastore, 1) := by decide +kernel
theorem dX12_stands_263 : decode cX12_stands 263 = .ok (.iinc 1 1, 3) := by decide +kernel
theorem dX12_stands_266 : decode cX12_stands 266 = .ok (.goto (-50), 3) := by decide +kernel
theorem dX12_stands_269 : decode cX12_stands 269 = .ok (.iconst 0, 1) := by decide +kernel
theorem dX12_stands_270 : decode cX12_stands 270 = .ok (.istore_n 1, 1) := by decide +kernel
theorem dX12_stands_271 : decode cX12_stands 271 = .ok (.iload_n 1, 1) := by decide +kernel
theorem dX12_stands_272 : decode cX12_stands 272 = .ok (.aload_n 0, 1) := by decide +kernel
theorem dX12_stands_273 : decode cX12_stands 273 = .ok (.getfield 367, 3) := by decide +kernel
theorem dX12_stands_276 : decode cX12_stands 276 = .ok (.if_icmp .ge 25, 3) := by decide +kernel
theorem dX12_stands_279 : decode cX12_stands 279 = .ok (.aload_n 0, 1) := by decide +kernel
theorem dX12_stands_280 : decode cX12_stands 280 = .ok (.getfield 139, 3) := by decide +kernel
theorem dX12_stands_283 : decode cX12_stands 283 = .ok (.sipush 1600, 3) := by decide +kernel
theorem dX12_stands_286 : decode cX12_stands 286 = .ok (.iload_n 1, 1) := by decide +kernel
theorem dX12_stands_287 : decode cX12_stands 287 = .ok (.iadd, 1) := by decide +kernel
theorem dX12_stands_288 : decode cX12_stands 288 = .ok (.aload_n 0, 1) := by decide +kernel
theorem dX12_stands_289 : decode cX12_stands 289 = .ok (.getfield 139, 3) := by decide +kernel
theorem dX12_stands_292 : decode cX12_stands 292 = .ok (.iload_n 1, 1) := by decide +kernel
theorem dX12_stands_293 : decode cX12_stands 293 = .ok (.iaload, 1) := by decide +kernel
theorem dX12_stands_294 : decode cX12_stands 294 = .ok (.iastore, 1) := by decide +kernel
theorem dX12_stands_295 : decode cX12_stands 295 = .ok (.iinc 1 1, 3) := by decide +kernel
theorem dX12_stands_298 : decode cX12_stands 298 = .ok (.goto (-27), 3) := by decide +kernel
theorem dX12_stands_301 : decode cX12_stands 301 = .ok (.iconst 0, 1) := by decide +kernel
theorem dX12_stands_302 : decode cX12_stands 302 = .ok (.istore_n 1, 1) := by decide +kernel
theorem dX12_stands_303 : decode cX12_stands 303 = .ok (.iload_n 1, 1) := by decide +kernel
theorem dX12_stands_304 : decode cX12_stands 304 = .ok (.bipush 32, 2) := by decide +kernel
theorem dX12_stands_306 : decode cX12_stands 306 = .ok (.if_icmp .ge 16, 3) := by decide +kernel
theorem dX12_stands_309 : decode cX12_stands 309 = .ok (.aload_n 0, 1) := by decide +kernel
theorem dX12_stands_310 : decode cX12_stands 310 = .ok (.getfield 142, 3) := by decide +kernel
theorem dX12_stands_313 : decode cX12_stands 313 = .ok (.iload_n 1, 1) := by decide +kernel
theorem dX12_stands_314 : decode cX12_stands 314 = .ok (.iconst 0, 1) := by decide +kernel
theorem dX12_stands_315 : decode cX12_stands 315 = .ok (.iastore, 1) := by decide +kernel
theorem dX12_stands_316 : decode cX12_stands 316 = .ok (.iinc 1 1, 3) := by decide +kernel
theorem dX12_stands_319 : decode cX12_stands 319 = .ok (.goto (-16), 3) := by decide +kernel
theorem dX12_stands_322 : decode cX12_stands 322 = .ok (.aload_n 0, 1) := by decide +kernel
theorem dX12_stands_323 : decode cX12_stands 323 = .ok (.invokevirtual 407, 3) := by decide +kernel
theorem dX12_stands_326 : decode cX12_stands 326 = .ok (.iconst 0, 1) := by decide +kernel
theorem dX12_stands_327 : decode cX12_stands 327 = .ok (.istore_n 1, 1) := by decide +kernel
theorem dX12_stands_328 : decode cX12_stands 328 = .ok (.iload_n 1, 1) := by decide +kernel
theorem dX12_stands_329 : decode cX12_stands 329 = .ok (.aload_n 0, 1) := by decide +kernel
theorem dX12_stands_330 : decode cX12_stands 330 = .ok (.invokevirtual 410, 3) := by decide +kernel
theorem dX12_stands_333 : decode cX12_stands 333 = .ok (.if_icmp .ge 25, 3) := by decide +kernel
theorem dX12_stands_336 : decode cX12_stands 336 = .ok (.aload_n 0, 1) := by decide +kernel
theorem dX12_stands_337 : decode cX12_stands 337 = .ok (.getfield 142, 3) := by decide +kernel
theorem dX12_stands_340 : decode cX12_stands 340 = .ok (.iconst 4, 1) := by decide +kernel
theorem dX12_stands_341 : decode cX12_stands 341 = .ok (.iload_n 1, 1) := by decide +kernel
theorem dX12_stands_342 : decode cX12_stands 342 = .ok (.iadd, 1) := by decide +kernel
theorem dX12_stands_343 : decode cX12_stands 343 = .ok (.aload_n 0, 1) := by decide +kernel
theorem dX12_stands_344 : decode cX12_stands 344 = .ok (.getfield 115, 3) := by decide +kernel
theorem dX12_stands_347 : decode cX12_stands 347 = .ok (.iconst 4, 1) := by decide +kernel
theorem dX12_stands_348 : decode cX12_stands 348 = .ok (.iload_n 1, 1) := by decide +kernel
theorem dX12_stands_349 : decode cX12_stands 349 = .ok (.iadd, 1) := by decide +kernel
theorem dX12_stands_350 : decode cX12_stands 350 = .ok (.iaload, 1) := by decide +kernel
theorem dX12_stands_351 : decode cX12_stands 351 = .ok (.iastore, 1) := by decide +kernel
theorem dX12_stands_352 : decode cX12_stands 352 = .ok (.iinc 1 1, 3) := by decide +kernel
theorem dX12_stands_355 : decode cX12_stands 355 = .ok (.goto (-27), 3) := by decide +kernel
theorem dX12_stands_358 : decode cX12_stands 358 = .ok (.aload_n 0, 1) := by decide +kernel
theorem dX12_stands_359 : decode cX12_stands 359 = .ok (.iconst 0, 1) := by decide +kernel
theorem dX12_stands_360 : decode cX12_stands 360 = .ok (.putfield 413, 3) := by decide +kernel
theorem dX12_stands_363 : decode cX12_stands 363 = .ok (.aload_n 0, 1) := by decide +kernel
theorem dX12_stands_364 : decode cX12_stands 364 = .ok (.iconst 0, 1) := by decide +kernel
theorem dX12_stands_365 : decode cX12_stands 365 = .ok (.putfield 416, 3) := by decide +kernel
theorem dX12_stands_368 : decode cX12_stands 368 = .ok (.return_, 1) := by decide +kernel
theorem dX12_statementTold_0 : decode cX12_statementTold 0 = .ok (.aload_n 0, 1) := by decide +kernel
theorem dX12_statementTold_1 : decode cX12_statementTold 1 = .ok (.getfield 269, 3) := by decide +kernel
theorem dX12_statementTold_4 : decode cX12_statementTold 4 = .ok (.istore_n 1, 1) := by decide +kernel
theorem dX12_statementTold_5 : decode cX12_statementTold 5 = .ok (.aload_n 0, 1) := by decide +kernel
theorem dX12_statementTold_6 : decode cX12_statementTold 6 = .ok (.getfield 370, 3) := by decide +kernel
theorem dX12_statementTold_9 : decode cX12_statementTold 9 = .ok (.bipush 80, 2) := by decide +kernel
theorem dX12_statementTold_11 : decode cX12_statementTold 11 = .ok (.if_icmp .ne 10, 3) := by decide +kernel
theorem dX12_statementTold_14 : decode cX12_statementTold 14 = .ok (.aload_n 0, 1) := by decide +kernel
theorem dX12_statementTold_15 : decode cX12_statementTold 15 = .ok (.iconst 5, 1) := by decide +kernel
theorem dX12_statementTold_16 : decode cX12_statementTold 16 = .ok (.iload_n 1, 1) := by decide +kernel
theorem dX12_statementTold_17 : decode cX12_statementTold 17 = .ok (.invokevirtual 293, 3) := by decide +kernel
theorem dX12_statementTold_20 : decode cX12_statementTold 20 = .ok (.return_, 1) := by decide +kernel
theorem dX12_statementTold_21 : decode cX12_statementTold 21 = .ok (.aload_n 0, 1) := by decide +kernel
theorem dX12_statementTold_22 : decode cX12_statementTold 22 = .ok (.aload_n 0, 1) := by decide +kernel
theorem dX12_statementTold_23 : decode cX12_statementTold 23 = .ok (.getfield 20, 3) := by decide +kernel
theorem dX12_statementTold_26 : decode cX12_statementTold 26 = .ok (.invokevirtual 290, 3) := by decide +kernel
theorem dX12_statementTold_29 : decode cX12_statementTold 29 = .ok (.ifCond .eq 11, 3) := by decide +kernel
theorem dX12_statementTold_32 : decode cX12_statementTold 32 = .ok (.aload_n 0, 1) := by decide +kernel
theorem dX12_statementTold_33 : decode cX12_statementTold 33 = .ok (.iload_n 1, 1) := by decide +kernel
theorem dX12_statementTold_34 : decode cX12_statementTold 34 = .ok (.invokevirtual 373, 3) := by decide +kernel
theorem dX12_statementTold_37 : decode cX12_statementTold 37 = .ok (.goto 185, 3) := by decide +kernel
theorem dX12_statementTold_40 : decode cX12_statementTold 40 = .ok (.aload_n 0, 1) := by decide +kernel
theorem dX12_statementTold_41 : decode cX12_statementTold 41 = .ok (.aload_n 0, 1) := by decide +kernel
theorem dX12_statementTold_42 : decode cX12_statementTold 42 = .ok (.getfield 33, 3) := by decide +kernel
theorem dX12_statementTold_45 : decode cX12_statementTold 45 = .ok (.invokevirtual 290, 3) := by decide +kernel
theorem dX12_statementTold_48 : decode cX12_statementTold 48 = .ok (.ifCond .eq 11, 3) := by decide +kernel
theorem dX12_statementTold_51 : decode cX12_statementTold 51 = .ok (.aload_n 0, 1) := by decide +kernel
theorem dX12_statementTold_52 : decode cX12_statementTold 52 = .ok (.iload_n 1, 1) := by decide +kernel
theorem dX12_statementTold_53 : decode cX12_statementTold 53 = .ok (.invokevirtual 377, 3) := by decide +kernel
theorem dX12_statementTold_56 : decode cX12_statementTold 56 = .ok (.goto 166, 3) := by decide +kernel
theorem dX12_statementTold_59 : decode cX12_statementTold 59 = .ok (.aload_n 0, 1) := by decide +kernel
theorem dX12_statementTold_60 : decode cX12_statementTold 60 = .ok (.aload_n 0, 1) := by decide +kernel
theorem dX12_statementTold_61 : decode cX12_statementTold 61 = .ok (.getfield 39, 3) := by decide +kernel
theorem dX12_statementTold_64 : decode cX12_statementTold 64 = .ok (.invokevirtual 290, 3) := by decide +kernel
theorem dX12_statementTold_67 : decode cX12_statementTold 67 = .ok (.ifCond .eq 10, 3) := by decide +kernel
theorem dX12_statementTold_70 : decode cX12_statementTold 70 = .ok (.aload_n 0, 1) := by decide +kernel
theorem dX12_statementTold_71 : decode cX12_statementTold 71 = .ok (.invokevirtual 380, 3) := by decide +kernel
theorem dX12_statementTold_74 : decode cX12_statementTold 74 = .ok (.goto 148, 3) := by decide +kernel
theorem dX12_statementTold_77 : decode cX12_statementTold 77 = .ok (.aload_n 0, 1) := by decide +kernel
theorem dX12_statementTold_78 : decode cX12_statementTold 78 = .ok (.aload_n 0, 1) := by decide +kernel
theorem dX12_statementTold_79 : decode cX12_statementTold 79 = .ok (.getfield 42, 3) := by decide +kernel
theorem dX12_statementTold_82 : decode cX12_statementTold 82 = .ok (.invokevirtual 290, 3) := by decide +kernel
theorem dX12_statementTold_85 : decode cX12_statementTold 85 = .ok (.ifCond .eq 11, 3) := by decide +kernel
theorem dX12_statementTold_88 : decode cX12_statementTold 88 = .ok (.aload_n 0, 1) := by decide +kernel
theorem dX12_statementTold_89 : decode cX12_statementTold 89 = .ok (.iload_n 1, 1) := by decide +kernel
theorem dX12_statementTold_90 : decode cX12_statementTold 90 = .ok (.invokevirtual 383, 3) := by decide +kernel
theorem dX12_statementTold_93 : decode cX12_statementTold 93 = .ok (.goto 129, 3) := by decide +kernel
theorem dX12_statementTold_96 : decode cX12_statementTold 96 = .ok (.aload_n 0, 1) := by decide +kernel
theorem dX12_statementTold_97 : decode cX12_statementTold 97 = .ok (.aload_n 0, 1) := by decide +kernel
theorem dX12_statementTold_98 : decode cX12_statementTold 98 = .ok (.getfield 45, 3) := by decide +kernel
theorem dX12_statementTold_101 : decode cX12_statementTold 101 = .ok (.invokevirtual 290, 3) := by decide +kernel
theorem dX12_statementTold_104 : decode cX12_statementTold 104 = .ok (.ifCond .eq 11, 3) := by decide +kernel
theorem dX12_statementTold_107 : decode cX12_statementTold 107 = .ok (.aload_n 0, 1) := by decide +kernel
theorem dX12_statementTold_108 : decode cX12_statementTold 108 = .ok (.iload_n 1, 1) := by decide +kernel
theorem dX12_statementTold_109 : decode cX12_statementTold 109 = .ok (.invokevirtual 386, 3) := by decide +kernel
theorem dX12_statementTold_112 : decode cX12_statementTold 112 = .ok (.goto 110, 3) := by decide +kernel
theorem dX12_statementTold_115 : decode cX12_statementTold 115 = .ok (.aload_n 0, 1) := by decide +kernel
theorem dX12_statementTold_116 : decode cX12_statementTold 116 = .ok (.aload_n 0, 1) := by decide +kernel
theorem dX12_statementTold_117 : decode cX12_statementTold 117 = .ok (.getfield 48, 3) := by decide +kernel
theorem dX12_statementTold_120 : decode cX12_statementTold 120 = .ok (.invokevirtual 290, 3) := by decide +kernel
theorem dX12_statementTold_123 : decode cX12_statementTold 123 = .ok (.ifCond .eq 11, 3) := by decide +kernel
theorem dX12_statementTold_126 : decode cX12_statementTold 126 = .ok (.aload_n 0, 1) := by decide +kernel
theorem dX12_statementTold_127 : decode cX12_statementTold 127 = .ok (.iload_n 1, 1) := by decide +kernel
theorem dX12_statementTold_128 : decode cX12_statementTold 128 = .ok (.invokevirtual 389, 3) := by decide +kernel
theorem dX12_statementTold_131 : decode cX12_statementTold 131 = .ok (.goto 91, 3) := by decide +kernel
theorem dX12_statementTold_134 : decode cX12_statementTold 134 = .ok (.aload_n 0, 1) := by decide +kernel
theorem dX12_statementTold_135 : decode cX12_statementTold 135 = .ok (.aload_n 0, 1) := by decide +kernel
theorem dX12_statementTold_136 : decode cX12_statementTold 136 = .ok (.getfield 60, 3) := by decide +kernel
theorem dX12_statementTold_139 : decode cX12_statementTold 139 = .ok (.invokevirtual 290, 3) := by decide +kernel
theorem dX12_statementTold_142 : decode cX12_statementTold 142 = .ok (.ifCond .eq 12, 3) := by decide +kernel
theorem dX12_statementTold_145 : decode cX12_statementTold 145 = .ok (.aload_n 0, 1) := by decide +kernel
theorem dX12_statementTold_146 : decode cX12_statementTold 146 = .ok (.iconst 0, 1) := by decide +kernel
theorem dX12_statementTold_147 : decode cX12_statementTold 147 = .ok (.iload_n 1, 1) := by decide +kernel
theorem dX12_statementTold_148 : decode cX12_statementTold 148 = .ok (.invokevirtual 392, 3) := by decide +kernel
theorem dX12_statementTold_151 : decode cX12_statementTold 151 = .ok (.goto 71, 3) := by decide +kernel
theorem dX12_statementTold_154 : decode cX12_statementTold 154 = .ok (.aload_n 0, 1) := by decide +kernel
theorem dX12_statementTold_155 : decode cX12_statementTold 155 = .ok (.aload_n 0, 1) := by decide +kernel
theorem dX12_statementTold_156 : decode cX12_statementTold 156 = .ok (.getfield 63, 3) := by decide +kernel
theorem dX12_statementTold_159 : decode cX12_statementTold 159 = .ok (.invokevirtual 290, 3) := by decide +kernel
theorem dX12_statementTold_162 : decode cX12_statementTold 162 = .ok (.ifCond .eq 12, 3) := by decide +kernel
theorem dX12_statementTold_165 : decode cX12_statementTold 165 = .ok (.aload_n 0, 1) := by decide +kernel
theorem dX12_statementTold_166 : decode cX12_statementTold 166 = .ok (.iconst 1, 1) := by decide +kernel
theorem dX12_statementTold_167 : decode cX12_statementTold 167 = .ok (.iload_n 1, 1) := by decide +kernel
theorem dX12_statementTold_168 : decode cX12_statementTold 168 = .ok (.invokevirtual 392, 3) := by decide +kernel
theorem dX12_statementTold_171 : decode cX12_statementTold 171 = .ok (.goto 51, 3) := by decide +kernel
theorem dX12_statementTold_174 : decode cX12_statementTold 174 = .ok (.aload_n 0, 1) := by decide +kernel
theorem dX12_statementTold_175 : decode cX12_statementTold 175 = .ok (.aload_n 0, 1) := by decide +kernel
theorem dX12_statementTold_176 : decode cX12_statementTold 176 = .ok (.getfield 66, 3) := by decide +kernel
theorem dX12_statementTold_179 : decode cX12_statementTold 179 = .ok (.invokevirtual 290, 3) := by decide +kernel
theorem dX12_statementTold_182 : decode cX12_statementTold 182 = .ok (.ifCond .eq 19, 3) := by decide +kernel
theorem dX12_statementTold_185 : decode cX12_statementTold 185 = .ok (.aload_n 0, 1) := by decide +kernel
theorem dX12_statementTold_186 : decode cX12_statementTold 186 = .ok (.getfield 130, 3) := by decide +kernel
theorem dX12_statementTold_189 : decode cX12_statementTold 189 = .ok (.iconst 0, 1) := by decide +kernel
theorem dX12_statementTold_190 : decode cX12_statementTold 190 = .ok (.aload_n 0, 1) := by decide +kernel
theorem dX12_statementTold_191 : decode cX12_statementTold 191 = .ok (.iconst 0, 1) := by decide +kernel
theorem dX12_statementTold_192 : decode cX12_statementTold 192 = .ok (.bipush 99, 2) := by decide +kernel
theorem dX12_statementTold_194 : decode cX12_statementTold 194 = .ok (.invokevirtual 341, 3) := by decide +kernel
theorem dX12_statementTold_197 : decode cX12_statementTold 197 = .ok (.iastore, 1) := by decide +kernel
theorem dX12_statementTold_198 : decode cX12_statementTold 198 = .ok (.goto 24, 3) := by decide +kernel
theorem dX12_statementTold_201 : decode cX12_statementTold 201 = .ok (.aload_n 0, 1) := by decide +kernel
theorem dX12_statementTold_202 : decode cX12_statementTold 202 = .ok (.aload_n 0, 1) := by decide +kernel
theorem dX12_statementTold_203 : decode cX12_statementTold 203 = .ok (.getfield 69, 3) := by decide +kernel
theorem dX12_statementTold_206 : decode cX12_statementTold 206 = .ok (.invokevirtual 337, 3) := by decide +kernel
theorem dX12_statementTold_209 : decode cX12_statementTold 209 = .ok (.aload_n 0, 1) := by decide +kernel
theorem dX12_statementTold_210 : decode cX12_statementTold 210 = .ok (.getfield 130, 3) := by decide +kernel
theorem dX12_statementTold_213 : decode cX12_statementTold 213 = .ok (.iconst 1, 1) := by decide +kernel
theorem dX12_statementTold_214 : decode cX12_statementTold 214 = .ok (.aload_n 0, 1) := by decide +kernel
theorem dX12_statementTold_215 : decode cX12_statementTold 215 = .ok (.iconst 0, 1) := by decide +kernel
theorem dX12_statementTold_216 : decode cX12_statementTold 216 = .ok (.bipush 100, 2) := by decide +kernel
theorem dX12_statementTold_218 : decode cX12_statementTold 218 = .ok (.invokevirtual 341, 3) := by decide +kernel
theorem dX12_statementTold_221 : decode cX12_statementTold 221 = .ok (.iastore, 1) := by decide +kernel
theorem dX12_statementTold_222 : decode cX12_statementTold 222 = .ok (.aload_n 0, 1) := by decide +kernel
theorem dX12_statementTold_223 : decode cX12_statementTold 223 = .ok (.bipush 59, 2) := by decide +kernel
theorem dX12_statementTold_225 : decode cX12_statementTold 225 = .ok (.invokevirtual 395, 3) := by decide +kernel
theorem dX12_statementTold_228 : decode cX12_statementTold 228 = .ok (.aload_n 0, 1) := by decide +kernel
theorem dX12_statementTold_229 : decode cX12_statementTold 229 = .ok (.dup, 1) := by decide +kernel
theorem dX12_statementTold_230 : decode cX12_statementTold 230 = .ok (.getfield 370, 3) := by decide +kernel
theorem dX12_statementTold_233 : decode cX12_statementTold 233 = .ok (.iconst 1, 1) := by decide +kernel
theorem dX12_statementTold_234 : decode cX12_statementTold 234 = .ok (.iadd, 1) := by decide +kernel
theorem dX12_statementTold_235 : decode cX12_statementTold 235 = .ok (.putfield 370, 3) := by decide +kernel
theorem dX12_statementTold_238 : decode cX12_statementTold 238 = .ok (.return_, 1) := by decide +kernel
theorem dX12_isSheetNear_0 : decode cX12_isSheetNear 0 = .ok (.iconst 0, 1) := by decide +kernel
theorem dX12_isSheetNear_1 : decode cX12_isSheetNear 1 = .ok (.istore_n 3, 1) := by decide +kernel
theorem dX12_isSheetNear_2 : decode cX12_isSheetNear 2 = .ok (.iload_n 3, 1) := by decide +kernel
theorem dX12_isSheetNear_3 : decode cX12_isSheetNear 3 = .ok (.aload_n 0, 1) := by decide +kernel
theorem dX12_isSheetNear_4 : decode cX12_isSheetNear 4 = .ok (.invokevirtual 419, 3) := by decide +kernel
theorem dX12_isSheetNear_7 : decode cX12_isSheetNear 7 = .ok (.if_icmp .ge 37, 3) := by decide +kernel
theorem dX12_isSheetNear_10 : decode cX12_isSheetNear 10 = .ok (.aload_n 0, 1) := by decide +kernel
theorem dX12_isSheetNear_11 : decode cX12_isSheetNear 11 = .ok (.getfield 121, 3) := by decide +kernel
theorem dX12_isSheetNear_14 : decode cX12_isSheetNear 14 = .ok (.bipush 8, 2) := by decide +kernel
theorem dX12_isSheetNear_16 : decode cX12_isSheetNear 16 = .ok (.iload_n 1, 1) := by decide +kernel
theorem dX12_isSheetNear_17 : decode cX12_isSheetNear 17 = .ok (.iadd, 1) := by decide +kernel
theorem dX12_isSheetNear_18 : decode cX12_isSheetNear 18 = .ok (.iaload, 1) := by decide +kernel
theorem dX12_isSheetNear_19 : decode cX12_isSheetNear 19 = .ok (.iload_n 3, 1) := by decide +kernel
theorem dX12_isSheetNear_20 : decode cX12_isSheetNear 20 = .ok (.ishr, 1) := by decide +kernel
theorem dX12_isSheetNear_21 : decode cX12_isSheetNear 21 = .ok (.iconst 1, 1) := by decide +kernel
theorem dX12_isSheetNear_22 : decode cX12_isSheetNear 22 = .ok (.iand, 1) := by decide +kernel
theorem dX12_isSheetNear_23 : decode cX12_isSheetNear 23 = .ok (.iconst 1, 1) := by decide +kernel
theorem dX12_isSheetNear_24 : decode cX12_isSheetNear 24 = .ok (.if_icmp .ne 14, 3) := by decide +kernel
theorem dX12_isSheetNear_27 : decode cX12_isSheetNear 27 = .ok (.aload_n 0, 1) := by decide +kernel
theorem dX12_isSheetNear_28 : decode cX12_isSheetNear 28 = .ok (.iload_n 3, 1) := by decide +kernel
theorem dX12_isSheetNear_29 : decode cX12_isSheetNear 29 = .ok (.invokevirtual 504, 3) := by decide +kernel
theorem dX12_isSheetNear_32 : decode cX12_isSheetNear 32 = .ok (.iload_n 2, 1) := by decide +kernel
theorem dX12_isSheetNear_33 : decode cX12_isSheetNear 33 = .ok (.if_icmp .ne 5, 3) := by decide +kernel
theorem dX12_isSheetNear_36 : decode cX12_isSheetNear 36 = .ok (.iconst 1, 1) := by decide +kernel
theorem dX12_isSheetNear_37 : decode cX12_isSheetNear 37 = .ok (.ireturn, 1) := by decide +kernel
theorem dX12_isSheetNear_38 : decode cX12_isSheetNear 38 = .ok (.iinc 3 1, 3) := by decide +kernel
theorem dX12_isSheetNear_41 : decode cX12_isSheetNear 41 = .ok (.goto (-39), 3) := by decide +kernel
theorem dX12_isSheetNear_44 : decode cX12_isSheetNear 44 = .ok (.iconst 0, 1) := by decide +kernel
theorem dX12_isSheetNear_45 : decode cX12_isSheetNear 45 = .ok (.ireturn, 1) := by decide +kernel
theorem dX12_helperTold_0 : decode cX12_helperTold 0 = .ok (.aload_n 0, 1) := by decide +kernel
theorem dX12_helperTold_1 : decode cX12_helperTold 1 = .ok (.iconst 2, 1) := by decide +kernel
theorem dX12_helperTold_2 : decode cX12_helperTold 2 = .ok (.iconst 3, 1) := by decide +kernel
theorem dX12_helperTold_3 : decode cX12_helperTold 3 = .ok (.iload_n 1, 1) := by decide +kernel
theorem dX12_helperTold_4 : decode cX12_helperTold 4 = .ok (.invokevirtual 330, 3) := by decide +kernel
theorem dX12_helperTold_7 : decode cX12_helperTold 7 = .ok (.ifCond .eq 4, 3) := by decide +kernel
theorem dX12_helperTold_10 : decode cX12_helperTold 10 = .ok (.return_, 1) := by decide +kernel
theorem dX12_helperTold_11 : decode cX12_helperTold 11 = .ok (.aload_n 0, 1) := by decide +kernel
theorem dX12_helperTold_12 : decode cX12_helperTold 12 = .ok (.invokevirtual 334, 3) := by decide +kernel
theorem dX12_helperTold_15 : decode cX12_helperTold 15 = .ok (.lstore_n 2, 1) := by decide +kernel
theorem dX12_helperTold_16 : decode cX12_helperTold 16 = .ok (.aload_n 0, 1) := by decide +kernel
theorem dX12_helperTold_17 : decode cX12_helperTold 17 = .ok (.aload_n 0, 1) := by decide +kernel
theorem dX12_helperTold_18 : decode cX12_helperTold 18 = .ok (.getfield 51, 3) := by decide +kernel
theorem dX12_helperTold_21 : decode cX12_helperTold 21 = .ok (.invokevirtual 337, 3) := by decide +kernel
theorem dX12_helperTold_24 : decode cX12_helperTold 24 = .ok (.aload_n 0, 1) := by decide +kernel
theorem dX12_helperTold_25 : decode cX12_helperTold 25 = .ok (.iconst 1, 1) := by decide +kernel
theorem dX12_helperTold_26 : decode cX12_helperTold 26 = .ok (.sipush 240, 3) := by decide +kernel
theorem dX12_helperTold_29 : decode cX12_helperTold 29 = .ok (.invokevirtual 341, 3) := by decide +kernel
theorem dX12_helperTold_32 : decode cX12_helperTold 32 = .ok (.istore 4, 2) := by decide +kernel
theorem dX12_helperTold_34 : decode cX12_helperTold 34 = .ok (.aload_n 0, 1) := by decide +kernel
theorem dX12_helperTold_35 : decode cX12_helperTold 35 = .ok (.aload_n 0, 1) := by decide +kernel
theorem dX12_helperTold_36 : decode cX12_helperTold 36 = .ok (.getfield 54, 3) := by decide +kernel
theorem dX12_helperTold_39 : decode cX12_helperTold 39 = .ok (.invokevirtual 337, 3) := by decide +kernel
theorem dX12_helperTold_42 : decode cX12_helperTold 42 = .ok (.aload_n 0, 1) := by decide +kernel
theorem dX12_helperTold_43 : decode cX12_helperTold 43 = .ok (.iconst 0, 1) := by decide +kernel
theorem dX12_helperTold_44 : decode cX12_helperTold 44 = .ok (.bipush 9, 2) := by decide +kernel
theorem dX12_helperTold_46 : decode cX12_helperTold 46 = .ok (.invokevirtual 341, 3) := by decide +kernel
theorem dX12_helperTold_49 : decode cX12_helperTold 49 = .ok (.istore 5, 2) := by decide +kernel
theorem dX12_helperTold_51 : decode cX12_helperTold 51 = .ok (.aload_n 0, 1) := by decide +kernel
theorem dX12_helperTold_52 : decode cX12_helperTold 52 = .ok (.aload_n 0, 1) := by decide +kernel
theorem dX12_helperTold_53 : decode cX12_helperTold 53 = .ok (.getfield 57, 3) := by decide +kernel
theorem dX12_helperTold_56 : decode cX12_helperTold 56 = .ok (.invokevirtual 337, 3) := by decide +kernel
theorem dX12_helperTold_59 : decode cX12_helperTold 59 = .ok (.aload_n 0, 1) := by decide +kernel
theorem dX12_helperTold_60 : decode cX12_helperTold 60 = .ok (.iconst 0, 1) := by decide +kernel
theorem dX12_helperTold_61 : decode cX12_helperTold 61 = .ok (.bipush 10, 2) := by decide +kernel
theorem dX12_helperTold_63 : decode cX12_helperTold 63 = .ok (.invokevirtual 341, 3) := by decide +kernel
theorem dX12_helperTold_66 : decode cX12_helperTold 66 = .ok (.istore 6, 2) := by decide +kernel
theorem dX12_helperTold_68 : decode cX12_helperTold 68 = .ok (.aload_n 0, 1) := by decide +kernel
theorem dX12_helperTold_69 : decode cX12_helperTold 69 = .ok (.getfield 263, 3) := by decide +kernel
theorem dX12_helperTold_72 : decode cX12_helperTold 72 = .ok (.ifCond .eq 4, 3) := by decide +kernel
theorem dX12_helperTold_75 : decode cX12_helperTold 75 = .ok (.return_, 1) := by decide +kernel
theorem dX12_helperTold_76 : decode cX12_helperTold 76 = .ok (.iconst 3, 1) := by decide +kernel
theorem dX12_helperTold_77 : decode cX12_helperTold 77 = .ok (.aload_n 0, 1) := by decide +kernel
theorem dX12_helperTold_78 : decode cX12_helperTold 78 = .ok (.iconst 2, 1) := by decide +kernel
theorem dX12_helperTold_79 : decode cX12_helperTold 79 = .ok (.lload_n 2, 1) := by decide +kernel
theorem dX12_helperTold_80 : decode cX12_helperTold 80 = .ok (.invokevirtual 345, 3) := by decide +kernel
theorem dX12_helperTold_83 : decode cX12_helperTold 83 = .ok (.imul, 1) := by decide +kernel
theorem dX12_helperTold_84 : decode cX12_helperTold 84 = .ok (.istore 7, 2) := by decide +kernel
theorem dX12_helperTold_86 : decode cX12_helperTold 86 = .ok (.aload_n 0, 1) := by decide +kernel
theorem dX12_helperTold_87 : decode cX12_helperTold 87 = .ok (.getfield 127, 3) := by decide +kernel
theorem dX12_helperTold_90 : decode cX12_helperTold 90 = .ok (.iload 7, 2) := by decide +kernel
theorem dX12_helperTold_92 : decode cX12_helperTold 92 = .ok (.iload 4, 2) := by decide +kernel
theorem dX12_helperTold_94 : decode cX12_helperTold 94 = .ok (.iastore, 1) := by decide +kernel
theorem dX12_helperTold_95 : decode cX12_helperTold 95 = .ok (.aload_n 0, 1) := by decide +kernel
theorem dX12_helperTold_96 : decode cX12_helperTold 96 = .ok (.getfield 127, 3) := by decide +kernel
theorem dX12_helperTold_99 : decode cX12_helperTold 99 = .ok (.iload 7, 2) := by decide +kernel
theorem dX12_helperTold_101 : decode cX12_helperTold 101 = .ok (.iconst 1, 1) := by decide +kernel
theorem dX12_helperTold_102 : decode cX12_helperTold 102 = .ok (.iadd, 1) := by decide +kernel
theorem dX12_helperTold_103 : decode cX12_helperTold 103 = .ok (.iload 5, 2) := by decide +kernel
theorem dX12_helperTold_105 : decode cX12_helperTold 105 = .ok (.iastore, 1) := by decide +kernel
theorem dX12_helperTold_106 : decode cX12_helperTold 106 = .ok (.aload_n 0, 1) := by decide +kernel
theorem dX12_helperTold_107 : decode cX12_helperTold 107 = .ok (.getfield 127, 3) := by decide +kernel
theorem dX12_helperTold_110 : decode cX12_helperTold 110 = .ok (.iload 7, 2) := by decide +kernel
theorem dX12_helperTold_112 : decode cX12_helperTold 112 = .ok (.iconst 2, 1) := by decide +kernel
theorem dX12_helperTold_113 : decode cX12_helperTold 113 = .ok (.iadd, 1) := by decide +kernel
theorem dX12_helperTold_114 : decode cX12_helperTold 114 = .ok (.iload 6, 2) := by decide +kernel
theorem dX12_helperTold_116 : decode cX12_helperTold 116 = .ok (.iastore, 1) := by decide +kernel
theorem dX12_helperTold_117 : decode cX12_helperTold 117 = .ok (.return_, 1) := by decide +kernel
theorem dX12_isNextRow_0 : decode cX12_isNextRow 0 = .ok (.aload_n 0, 1) := by decide +kernel
theorem dX12_isNextRow_1 : decode cX12_isNextRow 1 = .ok (.invokevirtual 419, 3) := by decide +kernel
theorem dX12_isNextRow_4 : decode cX12_isNextRow 4 = .ok (.iconst 1, 1) := by decide +kernel
theorem dX12_isNextRow_5 : decode cX12_isNextRow 5 = .ok (.isub, 1) := by decide +kernel
theorem dX12_isNextRow_6 : decode cX12_isNextRow 6 = .ok (.istore_n 1, 1) := by decide +kernel
theorem dX12_isNextRow_7 : decode cX12_isNextRow 7 = .ok (.iload_n 1, 1) := by decide +kernel
theorem dX12_isNextRow_8 : decode cX12_isNextRow 8 = .ok (.ifCond .lt 31, 3) := by decide +kernel
theorem dX12_isNextRow_11 : decode cX12_isNextRow 11 = .ok (.aload_n 0, 1) := by decide +kernel
theorem dX12_isNextRow_12 : decode cX12_isNextRow 12 = .ok (.getfield 148, 3) := by decide +kernel
theorem dX12_isNextRow_15 : decode cX12_isNextRow 15 = .ok (.iload_n 1, 1) := by decide +kernel
theorem dX12_isNextRow_16 : decode cX12_isNextRow 16 = .ok (.iaload, 1) := by decide +kernel
theorem dX12_isNextRow_17 : decode cX12_isNextRow 17 = .ok (.aload_n 0, 1) := by decide +kernel
theorem dX12_isNextRow_18 : decode cX12_isNextRow 18 = .ok (.getfield 151, 3) := by decide +kernel
theorem dX12_isNextRow_21 : decode cX12_isNextRow 21 = .ok (.iload_n 1, 1) := by decide +kernel
theorem dX12_isNextRow_22 : decode cX12_isNextRow 22 = .ok (.iaload, 1) := by decide +kernel
theorem dX12_isNextRow_23 : decode cX12_isNextRow 23 = .ok (.if_icmp .ne 16, 3) := by decide +kernel
theorem dX12_isNextRow_26 : decode cX12_isNextRow 26 = .ok (.aload_n 0, 1) := by decide +kernel
theorem dX12_isNextRow_27 : decode cX12_isNextRow 27 = .ok (.getfield 148, 3) := by decide +kernel
theorem dX12_isNextRow_30 : decode cX12_isNextRow 30 = .ok (.iload_n 1, 1) := by decide +kernel
theorem dX12_isNextRow_31 : decode cX12_isNextRow 31 = .ok (.iconst 0, 1) := by decide +kernel
theorem dX12_isNextRow_32 : decode cX12_isNextRow 32 = .ok (.iastore, 1) := by decide +kernel
theorem dX12_isNextRow_33 : decode cX12_isNextRow 33 = .ok (.iinc 1 (-1), 3) := by decide +kernel
theorem dX12_isNextRow_36 : decode cX12_isNextRow 36 = .ok (.goto (-29), 3) := by decide +kernel
theorem dX12_isNextRow_39 : decode cX12_isNextRow 39 = .ok (.iload_n 1, 1) := by decide +kernel
theorem dX12_isNextRow_40 : decode cX12_isNextRow 40 = .ok (.ifCond .ge 5, 3) := by decide +kernel
theorem dX12_isNextRow_43 : decode cX12_isNextRow 43 = .ok (.iconst 0, 1) := by decide +kernel
theorem dX12_isNextRow_44 : decode cX12_isNextRow 44 = .ok (.ireturn, 1) := by decide +kernel
theorem dX12_isNextRow_45 : decode cX12_isNextRow 45 = .ok (.aload_n 0, 1) := by decide +kernel
theorem dX12_isNextRow_46 : decode cX12_isNextRow 46 = .ok (.getfield 148, 3) := by decide +kernel
theorem dX12_isNextRow_49 : decode cX12_isNextRow 49 = .ok (.iload_n 1, 1) := by decide +kernel
theorem dX12_isNextRow_50 : decode cX12_isNextRow 50 = .ok (.dup2, 1) := by decide +kernel
theorem dX12_isNextRow_51 : decode cX12_isNextRow 51 = .ok (.iaload, 1) := by decide +kernel
theorem dX12_isNextRow_52 : decode cX12_isNextRow 52 = .ok (.iconst 1, 1) := by decide +kernel
theorem dX12_isNextRow_53 : decode cX12_isNextRow 53 = .ok (.iadd, 1) := by decide +kernel
theorem dX12_isNextRow_54 : decode cX12_isNextRow 54 = .ok (.iastore, 1) := by decide +kernel
theorem dX12_isNextRow_55 : decode cX12_isNextRow 55 = .ok (.iconst 1, 1) := by decide +kernel
theorem dX12_isNextRow_56 : decode cX12_isNextRow 56 = .ok (.ireturn, 1) := by decide +kernel
theorem dX12_qDropsNots_0 : decode cX12_qDropsNots 0 = .ok (.aload_n 0, 1) := by decide +kernel
theorem dX12_qDropsNots_1 : decode cX12_qDropsNots 1 = .ok (.getfield 263, 3) := by decide +kernel
theorem dX12_qDropsNots_4 : decode cX12_qDropsNots 4 = .ok (.ifCond .ne 29, 3) := by decide +kernel
theorem dX12_qDropsNots_7 : decode cX12_qDropsNots 7 = .ok (.aload_n 0, 1) := by decide +kernel
theorem dX12_qDropsNots_8 : decode cX12_qDropsNots 8 = .ok (.bipush 12, 2) := by decide +kernel
theorem dX12_qDropsNots_10 : decode cX12_qDropsNots 10 = .ok (.invokevirtual 627, 3) := by decide +kernel
theorem dX12_qDropsNots_13 : decode cX12_qDropsNots 13 = .ok (.ifCond .eq 20, 3) := by decide +kernel
theorem dX12_qDropsNots_16 : decode cX12_qDropsNots 16 = .ok (.aload_n 0, 1) := by decide +kernel
theorem dX12_qDropsNots_17 : decode cX12_qDropsNots 17 = .ok (.dup, 1) := by decide +kernel
theorem dX12_qDropsNots_18 : decode cX12_qDropsNots 18 = .ok (.getfield 358, 3) := by decide +kernel
theorem dX12_qDropsNots_21 : decode cX12_qDropsNots 21 = .ok (.iconst 1, 1) := by decide +kernel
theorem dX12_qDropsNots_22 : decode cX12_qDropsNots 22 = .ok (.isub, 1) := by decide +kernel
theorem dX12_qDropsNots_23 : decode cX12_qDropsNots 23 = .ok (.putfield 358, 3) := by decide +kernel
theorem dX12_qDropsNots_26 : decode cX12_qDropsNots 26 = .ok (.aload_n 0, 1) := by decide +kernel
theorem dX12_qDropsNots_27 : decode cX12_qDropsNots 27 = .ok (.invokevirtual 600, 3) := by decide +kernel
theorem dX12_qDropsNots_30 : decode cX12_qDropsNots 30 = .ok (.goto (-30), 3) := by decide +kernel
theorem dX12_qDropsNots_33 : decode cX12_qDropsNots 33 = .ok (.return_, 1) := by decide +kernel
theorem dX12_isDigit_0 : decode cX12_isDigit 0 = .ok (.iload_n 0, 1) := by decide +kernel
theorem dX12_isDigit_1 : decode cX12_isDigit 1 = .ok (.bipush 48, 2) := by decide +kernel
theorem dX12_isDigit_3 : decode cX12_isDigit 3 = .ok (.if_icmp .lt 13, 3) := by decide +kernel
theorem dX12_isDigit_6 : decode cX12_isDigit 6 = .ok (.iload_n 0, 1) := by decide +kernel
theorem dX12_isDigit_7 : decode cX12_isDigit 7 = .ok (.bipush 57, 2) := by decide +kernel
theorem dX12_isDigit_9 : decode cX12_isDigit 9 = .ok (.if_icmp .gt 7, 3) := by decide +kernel
theorem dX12_isDigit_12 : decode cX12_isDigit 12 = .ok (.iconst 1, 1) := by decide +kernel
theorem dX12_isDigit_13 : decode cX12_isDigit 13 = .ok (.goto 4, 3) := by decide +kernel
theorem dX12_isDigit_16 : decode cX12_isDigit 16 = .ok (.iconst 0, 1) := by decide +kernel
theorem dX12_isDigit_17 : decode cX12_isDigit 17 = .ok (.ireturn, 1) := by decide +kernel
theorem dX12_isAllowed_0 : decode cX12_isAllowed 0 = .ok (.aload_n 0, 1) := by decide +kernel
theorem dX12_isAllowed_1 : decode cX12_isAllowed 1 = .ok (.getfield 318, 3) := by decide +kernel
theorem dX12_isAllowed_4 : decode cX12_isAllowed 4 = .ok (.ifCond .eq 17, 3) := by decide +kernel
theorem dX12_isAllowed_7 : decode cX12_isAllowed 7 = .ok (.iload_n 1, 1) := by decide +kernel
theorem dX12_isAllowed_8 : decode cX12_isAllowed 8 = .ok (.bipush 6, 2) := by decide +kernel
theorem dX12_isAllowed_10 : decode cX12_isAllowed 10 = .ok (.if_icmp .ge 7, 3) := by decide +kernel
theorem dX12_isAllowed_13 : decode cX12_isAllowed 13 = .ok (.iconst 1, 1) := by decide +kernel
theorem dX12_isAllowed_14 : decode cX12_isAllowed 14 = .ok (.goto 17, 3) := by decide +kernel
theorem dX12_isAllowed_17 : decode cX12_isAllowed 17 = .ok (.iconst 0, 1) := by decide +kernel
theorem dX12_isAllowed_18 : decode cX12_isAllowed 18 = .ok (.goto 13, 3) := by decide +kernel
theorem dX12_isAllowed_21 : decode cX12_isAllowed 21 = .ok (.iload_n 1, 1) := by decide +kernel
theorem dX12_isAllowed_22 : decode cX12_isAllowed 22 = .ok (.iconst 3, 1) := by decide +kernel
theorem dX12_isAllowed_23 : decode cX12_isAllowed 23 = .ok (.if_icmp .eq 7, 3) := by decide +kernel
theorem dX12_isAllowed_26 : decode cX12_isAllowed 26 = .ok (.iconst 1, 1) := by decide +kernel
theorem dX12_isAllowed_27 : decode cX12_isAllowed 27 = .ok (.goto 4, 3) := by decide +kernel
theorem dX12_isAllowed_30 : decode cX12_isAllowed 30 = .ok (.iconst 0, 1) := by decide +kernel
theorem dX12_isAllowed_31 : decode cX12_isAllowed 31 = .ok (.ireturn, 1) := by decide +kernel
theorem dX12_qBracket_0 : decode cX12_qBracket 0 = .ok (.aload_n 0, 1) := by decide +kernel
theorem dX12_qBracket_1 : decode cX12_qBracket 1 = .ok (.getfield 355, 3) := by decide +kernel
theorem dX12_qBracket_4 : decode cX12_qBracket 4 = .ok (.iconst 1, 1) := by decide +kernel
theorem dX12_qBracket_5 : decode cX12_qBracket 5 = .ok (.isub, 1) := by decide +kernel
theorem dX12_qBracket_6 : decode cX12_qBracket 6 = .ok (.istore_n 1, 1) := by decide +kernel
theorem dX12_qBracket_7 : decode cX12_qBracket 7 = .ok (.iload_n 1, 1) := by decide +kernel
theorem dX12_qBracket_8 : decode cX12_qBracket 8 = .ok (.aload_n 0, 1) := by decide +kernel
theorem dX12_qBracket_9 : decode cX12_qBracket 9 = .ok (.getfield 361, 3) := by decide +kernel
theorem dX12_qBracket_12 : decode cX12_qBracket 12 = .ok (.if_icmp .lt 21, 3) := by decide +kernel
theorem dX12_qBracket_15 : decode cX12_qBracket 15 = .ok (.aload_n 0, 1) := by decide +kernel
theorem dX12_qBracket_16 : decode cX12_qBracket 16 = .ok (.getfield 251, 3) := by decide +kernel
theorem dX12_qBracket_19 : decode cX12_qBracket 19 = .ok (.iload_n 1, 1) := by decide +kernel
theorem dX12_qBracket_20 : decode cX12_qBracket 20 = .ok (.iaload, 1) := by decide +kernel
theorem dX12_qBracket_21 : decode cX12_qBracket 21 = .ok (.invokestatic 597, 3) := by decide +kernel
theorem dX12_qBracket_24 : decode cX12_qBracket 24 = .ok (.ifCond .ne 9, 3) := by decide +kernel
theorem dX12_qBracket_27 : decode cX12_qBracket 27 = .ok (.iinc 1 (-1), 3) := by decide +kernel
theorem dX12_qBracket_30 : decode cX12_qBracket 30 = .ok (.goto (-23), 3) := by decide +kernel
theorem dX12_qBracket_33 : decode cX12_qBracket 33 = .ok (.iload_n 1, 1) := by decide +kernel
theorem dX12_qBracket_34 : decode cX12_qBracket 34 = .ok (.aload_n 0, 1) := by decide +kernel
theorem dX12_qBracket_35 : decode cX12_qBracket 35 = .ok (.getfield 361, 3) := by decide +kernel
theorem dX12_qBracket_38 : decode cX12_qBracket 38 = .ok (.if_icmp .lt 12, 3) := by decide +kernel
theorem dX12_qBracket_41 : decode cX12_qBracket 41 = .ok (.aload_n 0, 1) := by decide +kernel
theorem dX12_qBracket_42 : decode cX12_qBracket 42 = .ok (.getfield 251, 3) := by decide +kernel
theorem dX12_qBracket_45 : decode cX12_qBracket 45 = .ok (.iload_n 1, 1) := by decide +kernel
theorem dX12_qBracket_46 : decode cX12_qBracket 46 = .ok (.iaload, 1) := by decide +kernel
theorem dX12_qBracket_47 : decode cX12_qBracket 47 = .ok (.goto 4, 3) := by decide +kernel
theorem dX12_qBracket_50 : decode cX12_qBracket 50 = .ok (.iconst (-1), 1) := by decide +kernel
theorem dX12_qBracket_51 : decode cX12_qBracket 51 = .ok (.ireturn, 1) := by decide +kernel
theorem dX12_leftOf_0 : decode cX12_leftOf 0 = .ok (.aload_n 0, 1) := by decide +kernel
theorem dX12_leftOf_1 : decode cX12_leftOf 1 = .ok (.getfield 142, 3) := by decide +kernel
theorem dX12_leftOf_4 : decode cX12_leftOf 4 = .ok (.iconst 1, 1) := by decide +kernel
theorem dX12_leftOf_5 : decode cX12_leftOf 5 = .ok (.iload_n 1, 1) := by decide +kernel
theorem dX12_leftOf_6 : decode cX12_leftOf 6 = .ok (.iadd, 1) := by decide +kernel
theorem dX12_leftOf_7 : decode cX12_leftOf 7 = .ok (.iaload, 1) := by decide +kernel
theorem dX12_leftOf_8 : decode cX12_leftOf 8 = .ok (.ireturn, 1) := by decide +kernel
theorem dX12_isApart_0 : decode cX12_isApart 0 = .ok (.iconst 0, 1) := by decide +kernel
theorem dX12_isApart_1 : decode cX12_isApart 1 = .ok (.istore_n 2, 1) := by decide +kernel
theorem dX12_isApart_2 : decode cX12_isApart 2 = .ok (.iload_n 2, 1) := by decide +kernel
theorem dX12_isApart_3 : decode cX12_isApart 3 = .ok (.iload_n 1, 1) := by decide +kernel
theorem dX12_isApart_4 : decode cX12_isApart 4 = .ok (.if_icmp .ge 43, 3) := by decide +kernel
theorem dX12_isApart_7 : decode cX12_isApart 7 = .ok (.aload_n 0, 1) := by decide +kernel
theorem dX12_isApart_8 : decode cX12_isApart 8 = .ok (.getfield 121, 3) := by decide +kernel
theorem dX12_isApart_11 : decode cX12_isApart 11 = .ok (.bipush 8, 2) := by decide +kernel
theorem dX12_isApart_13 : decode cX12_isApart 13 = .ok (.iload_n 1, 1) := by decide +kernel
theorem dX12_isApart_14 : decode cX12_isApart 14 = .ok (.iadd, 1) := by decide +kernel
theorem dX12_isApart_15 : decode cX12_isApart 15 = .ok (.iaload, 1) := by decide +kernel
theorem dX12_isApart_16 : decode cX12_isApart 16 = .ok (.iload_n 2, 1) := by decide +kernel
theorem dX12_isApart_17 : decode cX12_isApart 17 = .ok (.ishr, 1) := by decide +kernel
theorem dX12_isApart_18 : decode cX12_isApart 18 = .ok (.iconst 1, 1) := by decide +kernel
theorem dX12_isApart_19 : decode cX12_isApart 19 = .ok (.iand, 1) := by decide +kernel
theorem dX12_isApart_20 : decode cX12_isApart 20 = .ok (.iconst 1, 1) := by decide +kernel
theorem dX12_isApart_21 : decode cX12_isApart 21 = .ok (.if_icmp .ne 20, 3) := by decide +kernel
theorem dX12_isApart_24 : decode cX12_isApart 24 = .ok (.aload_n 0, 1) := by decide +kernel
theorem dX12_isApart_25 : decode cX12_isApart 25 = .ok (.getfield 148, 3) := by decide +kernel
theorem dX12_isApart_28 : decode cX12_isApart 28 = .ok (.iload_n 2, 1) := by decide +kernel
theorem dX12_isApart_29 : decode cX12_isApart 29 = .ok (.iaload, 1) := by decide +kernel
theorem dX12_isApart_30 : decode cX12_isApart 30 = .ok (.aload_n 0, 1) := by decide +kernel
theorem dX12_isApart_31 : decode cX12_isApart 31 = .ok (.getfield 148, 3) := by decide +kernel
theorem dX12_isApart_34 : decode cX12_isApart 34 = .ok (.iload_n 1, 1) := by decide +kernel
theorem dX12_isApart_35 : decode cX12_isApart 35 = .ok (.iaload, 1) := by decide +kernel
theorem dX12_isApart_36 : decode cX12_isApart 36 = .ok (.if_icmp .ne 5, 3) := by decide +kernel
theorem dX12_isApart_39 : decode cX12_isApart 39 = .ok (.iconst 0, 1) := by decide +kernel
theorem dX12_isApart_40 : decode cX12_isApart 40 = .ok (.ireturn, 1) := by decide +kernel
theorem dX12_isApart_41 : decode cX12_isApart 41 = .ok (.iinc 2 1, 3) := by decide +kernel
theorem dX12_isApart_44 : decode cX12_isApart 44 = .ok (.goto (-42), 3) := by decide +kernel
theorem dX12_isApart_47 : decode cX12_isApart 47 = .ok (.iconst 1, 1) := by decide +kernel
theorem dX12_isApart_48 : decode cX12_isApart 48 = .ok (.ireturn, 1) := by decide +kernel
theorem dX12_isImage_0 : decode cX12_isImage 0 = .ok (.iconst 2, 1) := by decide +kernel
theorem dX12_isImage_1 : decode cX12_isImage 1 = .ok (.aload_n 0, 1) := by decide +kernel
theorem dX12_isImage_2 : decode cX12_isImage 2 = .ok (.invokevirtual 422, 3) := by decide +kernel
theorem dX12_isImage_5 : decode cX12_isImage 5 = .ok (.iadd, 1) := by decide +kernel
theorem dX12_isImage_6 : decode cX12_isImage 6 = .ok (.istore_n 2, 1) := by decide +kernel
theorem dX12_isImage_7 : decode cX12_isImage 7 = .ok (.iload_n 2, 1) := by decide +kernel
theorem dX12_isImage_8 : decode cX12_isImage 8 = .ok (.aload_n 0, 1) := by decide +kernel
theorem dX12_isImage_9 : decode cX12_isImage 9 = .ok (.invokevirtual 410, 3) := by decide +kernel
theorem dX12_isImage_12 : decode cX12_isImage 12 = .ok (.iadd, 1) := by decide +kernel
theorem dX12_isImage_13 : decode cX12_isImage 13 = .ok (.istore_n 3, 1) := by decide +kernel
theorem dX12_isImage_14 : decode cX12_isImage 14 = .ok (.iload_n 1, 1) := by decide +kernel
theorem dX12_isImage_15 : decode cX12_isImage 15 = .ok (.iload_n 3, 1) := by decide +kernel
theorem dX12_isImage_16 : decode cX12_isImage 16 = .ok (.iconst 3, 1) := by decide +kernel
theorem dX12_isImage_17 : decode cX12_isImage 17 = .ok (.aload_n 0, 1) := by decide +kernel
theorem dX12_isImage_18 : decode cX12_isImage 18 = .ok (.invokevirtual 419, 3) := by decide +kernel
theorem dX12_isImage_21 : decode cX12_isImage 21 = .ok (.imul, 1) := by decide +kernel
theorem dX12_isImage_22 : decode cX12_isImage 22 = .ok (.iadd, 1) := by decide +kernel
theorem dX12_isImage_23 : decode cX12_isImage 23 = .ok (.iconst 1, 1) := by decide +kernel
theorem dX12_isImage_24 : decode cX12_isImage 24 = .ok (.iadd, 1) := by decide +kernel
theorem dX12_isImage_25 : decode cX12_isImage 25 = .ok (.if_icmp .ne 47, 3) := by decide +kernel
theorem dX12_isImage_28 : decode cX12_isImage 28 = .ok (.aload_n 0, 1) := by decide +kernel
theorem dX12_isImage_29 : decode cX12_isImage 29 = .ok (.getfield 7, 3) := by decide +kernel
theorem dX12_isImage_32 : decode cX12_isImage 32 = .ok (.iload_n 1, 1) := by decide +kernel
theorem dX12_isImage_33 : decode cX12_isImage 33 = .ok (.iconst 1, 1) := by decide +kernel
theorem dX12_isImage_34 : decode cX12_isImage 34 = .ok (.isub, 1) := by decide +kernel
theorem dX12_isImage_35 : decode cX12_isImage 35 = .ok (.iaload, 1) := by decide +kernel
theorem dX12_isImage_36 : decode cX12_isImage 36 = .ok (.aload_n 0, 1) := by decide +kernel
theorem dX12_isImage_37 : decode cX12_isImage 37 = .ok (.getfield 7, 3) := by decide +kernel
theorem dX12_isImage_40 : decode cX12_isImage 40 = .ok (.iload_n 1, 1) := by decide +kernel
theorem dX12_isImage_41 : decode cX12_isImage 41 = .ok (.iconst 1, 1) := by decide +kernel
theorem dX12_isImage_42 : decode cX12_isImage 42 = .ok (.isub, 1) := by decide +kernel
theorem dX12_isImage_43 : decode cX12_isImage 43 = .ok (.invokestatic 692, 3) := by decide +kernel
theorem dX12_isImage_46 : decode cX12_isImage 46 = .ok (.if_icmp .ne 26, 3) := by decide +kernel
theorem dX12_isImage_49 : decode cX12_isImage 49 = .ok (.sipush 256, 3) := by decide +kernel
theorem dX12_isImage_52 : decode cX12_isImage 52 = .ok (.aload_n 0, 1) := by decide +kernel
theorem dX12_isImage_53 : decode cX12_isImage 53 = .ok (.getfield 7, 3) := by decide +kernel
theorem dX12_isImage_56 : decode cX12_isImage 56 = .ok (.iconst 0, 1) := by decide +kernel
theorem dX12_isImage_57 : decode cX12_isImage 57 = .ok (.iaload, 1) := by decide +kernel
theorem dX12_isImage_58 : decode cX12_isImage 58 = .ok (.imul, 1) := by decide +kernel
theorem dX12_isImage_59 : decode cX12_isImage 59 = .ok (.aload_n 0, 1) := by decide +kernel
theorem dX12_isImage_60 : decode cX12_isImage 60 = .ok (.getfield 7, 3) := by decide +kernel
theorem dX12_isImage_63 : decode cX12_isImage 63 = .ok (.iconst 1, 1) := by decide +kernel
theorem dX12_isImage_64 : decode cX12_isImage 64 = .ok (.iaload, 1) := by decide +kernel
theorem dX12_isImage_65 : decode cX12_isImage 65 = .ok (.iadd, 1) := by decide +kernel
theorem dX12_isImage_66 : decode cX12_isImage 66 = .ok (.sipush 999, 3) := by decide +kernel
theorem dX12_isImage_69 : decode cX12_isImage 69 = .ok (.if_icmp .le 5, 3) := by decide +kernel
theorem dX12_isImage_72 : decode cX12_isImage 72 = .ok (.iconst 0, 1) := by decide +kernel
theorem dX12_isImage_73 : decode cX12_isImage 73 = .ok (.ireturn, 1) := by decide +kernel
theorem dX12_isImage_74 : decode cX12_isImage 74 = .ok (.iconst 0, 1) := by decide +kernel
theorem dX12_isImage_75 : decode cX12_isImage 75 = .ok (.istore 4, 2) := by decide +kernel
theorem dX12_isImage_77 : decode cX12_isImage 77 = .ok (.iload 4, 2) := by decide +kernel
theorem dX12_isImage_79 : decode cX12_isImage 79 = .ok (.aload_n 0, 1) := by decide +kernel
theorem dX12_isImage_80 : decode cX12_isImage 80 = .ok (.invokevirtual 422, 3) := by decide +kernel
theorem dX12_isImage_83 : decode cX12_isImage 83 = .ok (.if_icmp .ge 35, 3) := by decide +kernel
theorem dX12_isImage_86 : decode cX12_isImage 86 = .ok (.aload_n 0, 1) := by decide +kernel
theorem dX12_isImage_87 : decode cX12_isImage 87 = .ok (.getfield 7, 3) := by decide +kernel
theorem dX12_isImage_90 : decode cX12_isImage 90 = .ok (.iconst 2, 1) := by decide +kernel
theorem dX12_isImage_91 : decode cX12_isImage 91 = .ok (.iload 4, 2) := by decide +kernel
theorem dX12_isImage_93 : decode cX12_isImage 93 = .ok (.iadd, 1) := by decide +kernel
theorem dX12_isImage_94 : decode cX12_isImage 94 = .ok (.iaload, 1) := by decide +kernel
theorem dX12_isImage_95 : decode cX12_isImage 95 = .ok (.aload_n 0, 1) := by decide +kernel
theorem dX12_isImage_96 : decode cX12_isImage 96 = .ok (.getfield 127, 3) := by decide +kernel
theorem dX12_isImage_99 : decode cX12_isImage 99 = .ok (.bipush 9, 2) := by decide +kernel
theorem dX12_isImage_101 : decode cX12_isImage 101 = .ok (.iconst 3, 1) := by decide +kernel
theorem dX12_isImage_102 : decode cX12_isImage 102 = .ok (.iload 4, 2) := by decide +kernel
theorem dX12_isImage_104 : decode cX12_isImage 104 = .ok (.imul, 1) := by decide +kernel
theorem dX12_isImage_105 : decode cX12_isImage 105 = .ok (.iadd, 1) := by decide +kernel
theorem dX12_isImage_106 : decode cX12_isImage 106 = .ok (.iaload, 1) := by decide +kernel
theorem dX12_isImage_107 : decode cX12_isImage 107 = .ok (.if_icmp .le 5, 3) := by decide +kernel
theorem dX12_isImage_110 : decode cX12_isImage 110 = .ok (.iconst 0, 1) := by decide +kernel
theorem dX12_isImage_111 : decode cX12_isImage 111 = .ok (.ireturn, 1) := by decide +kernel
theorem dX12_isImage_112 : decode cX12_isImage 112 = .ok (.iinc 4 1, 3) := by decide +kernel
theorem dX12_isImage_115 : decode cX12_isImage 115 = .ok (.goto (-38), 3) := by decide +kernel
theorem dX12_isImage_118 : decode cX12_isImage 118 = .ok (.iconst 0, 1) := by decide +kernel
theorem dX12_isImage_119 : decode cX12_isImage 119 = .ok (.istore 4, 2) := by decide +kernel
theorem dX12_isImage_121 : decode cX12_isImage 121 = .ok (.iload 4, 2) := by decide +kernel
theorem dX12_isImage_123 : decode cX12_isImage 123 = .ok (.aload_n 0, 1) := by decide +kernel
theorem dX12_isImage_124 : decode cX12_isImage 124 = .ok (.invokevirtual 410, 3) := by decide +kernel
theorem dX12_isImage_127 : decode cX12_isImage 127 = .ok (.if_icmp .ge 32, 3) := by decide +kernel
theorem dX12_isImage_130 : decode cX12_isImage 130 = .ok (.aload_n 0, 1) := by decide +kernel
theorem dX12_isImage_131 : decode cX12_isImage 131 = .ok (.getfield 7, 3) := by decide +kernel
theorem dX12_isImage_134 : decode cX12_isImage 134 = .ok (.iload_n 2, 1) := by decide +kernel
theorem dX12_isImage_135 : decode cX12_isImage 135 = .ok (.iload 4, 2) := by decide +kernel
theorem dX12_isImage_137 : decode cX12_isImage 137 = .ok (.iadd, 1) := by decide +kernel
theorem dX12_isImage_138 : decode cX12_isImage 138 = .ok (.iaload, 1) := by decide +kernel
theorem dX12_isImage_139 : decode cX12_isImage 139 = .ok (.aload_n 0, 1) := by decide +kernel
theorem dX12_isImage_140 : decode cX12_isImage 140 = .ok (.getfield 115, 3) := by decide +kernel
theorem dX12_isImage_143 : decode cX12_isImage 143 = .ok (.iconst 4, 1) := by decide +kernel
theorem dX12_isImage_144 : decode cX12_isImage 144 = .ok (.iload 4, 2) := by decide +kernel
theorem dX12_isImage_146 : decode cX12_isImage 146 = .ok (.iadd, 1) := by decide +kernel
theorem dX12_isImage_147 : decode cX12_isImage 147 = .ok (.iaload, 1) := by decide +kernel
theorem dX12_isImage_148 : decode cX12_isImage 148 = .ok (.if_icmp .le 5, 3) := by decide +kernel
theorem dX12_isImage_151 : decode cX12_isImage 151 = .ok (.iconst 0, 1) := by decide +kernel
theorem dX12_isImage_152 : decode cX12_isImage 152 = .ok (.ireturn, 1) := by decide +kernel
theorem dX12_isImage_153 : decode cX12_isImage 153 = .ok (.iinc 4 1, 3) := by decide +kernel
theorem dX12_isImage_156 : decode cX12_isImage 156 = .ok (.goto (-35), 3) := by decide +kernel
theorem dX12_isImage_159 : decode cX12_isImage 159 = .ok (.aload_n 0, 1) := by decide +kernel
theorem dX12_isImage_160 : decode cX12_isImage 160 = .ok (.iload_n 3, 1) := by decide +kernel
theorem dX12_isImage_161 : decode cX12_isImage 161 = .ok (.invokevirtual 696, 3) := by decide +kernel
theorem dX12_isImage_164 : decode cX12_isImage 164 = .ok (.ireturn, 1) := by decide +kernel
theorem dX12_fault_0 : decode cX12_fault 0 = .ok (.iload_n 1, 1) := by decide +kernel
theorem dX12_fault_1 : decode cX12_fault 1 = .ok (.ifCond .ne 10, 3) := by decide +kernel
theorem dX12_fault_4 : decode cX12_fault 4 = .ok (.aload_n 0, 1) := by decide +kernel
theorem dX12_fault_5 : decode cX12_fault 5 = .ok (.getfield 401, 3) := by decide +kernel
theorem dX12_fault_8 : decode cX12_fault 8 = .ok (.goto 16, 3) := by decide +kernel
theorem dX12_fault_11 : decode cX12_fault 11 = .ok (.iload_n 1, 1) := by decide +kernel
theorem dX12_fault_12 : decode cX12_fault 12 = .ok (.iconst 1, 1) := by decide +kernel
theorem dX12_fault_13 : decode cX12_fault 13 = .ok (.if_icmp .ne 10, 3) := by decide +kernel
theorem dX12_fault_16 : decode cX12_fault 16 = .ok (.aload_n 0, 1) := by decide +kernel
theorem dX12_fault_17 : decode cX12_fault 17 = .ok (.getfield 13, 3) := by decide +kernel
theorem dX12_fault_20 : decode cX12_fault 20 = .ok (.goto 4, 3) := by decide +kernel
theorem dX12_fault_23 : decode cX12_fault 23 = .ok (.iconst (-1), 1) := by decide +kernel
theorem dX12_fault_24 : decode cX12_fault 24 = .ok (.ireturn, 1) := by decide +kernel
theorem dX12_qIsOn_0 : decode cX12_qIsOn 0 = .ok (.aload_n 0, 1) := by decide +kernel
theorem dX12_qIsOn_1 : decode cX12_qIsOn 1 = .ok (.getfield 355, 3) := by decide +kernel
theorem dX12_qIsOn_4 : decode cX12_qIsOn 4 = .ok (.ifCond .le 22, 3) := by decide +kernel
theorem dX12_qIsOn_7 : decode cX12_qIsOn 7 = .ok (.aload_n 0, 1) := by decide +kernel
theorem dX12_qIsOn_8 : decode cX12_qIsOn 8 = .ok (.getfield 251, 3) := by decide +kernel
theorem dX12_qIsOn_11 : decode cX12_qIsOn 11 = .ok (.aload_n 0, 1) := by decide +kernel
theorem dX12_qIsOn_12 : decode cX12_qIsOn 12 = .ok (.getfield 355, 3) := by decide +kernel
theorem dX12_qIsOn_15 : decode cX12_qIsOn 15 = .ok (.iconst 1, 1) := by decide +kernel
theorem dX12_qIsOn_16 : decode cX12_qIsOn 16 = .ok (.isub, 1) := by decide +kernel
theorem dX12_qIsOn_17 : decode cX12_qIsOn 17 = .ok (.iaload, 1) := by decide +kernel
theorem dX12_qIsOn_18 : decode cX12_qIsOn 18 = .ok (.iload_n 1, 1) := by decide +kernel
theorem dX12_qIsOn_19 : decode cX12_qIsOn 19 = .ok (.if_icmp .ne 7, 3) := by decide +kernel
theorem dX12_qIsOn_22 : decode cX12_qIsOn 22 = .ok (.iconst 1, 1) := by decide +kernel
theorem dX12_qIsOn_23 : decode cX12_qIsOn 23 = .ok (.goto 4, 3) := by decide +kernel
theorem dX12_qIsOn_26 : decode cX12_qIsOn 26 = .ok (.iconst 0, 1) := by decide +kernel
theorem dX12_qIsOn_27 : decode cX12_qIsOn 27 = .ok (.ireturn, 1) := by decide +kernel
theorem dX12_see_0 : decode cX12_see 0 = .ok (.aload_n 0, 1) := by decide +kernel
theorem dX12_see_1 : decode cX12_see 1 = .ok (.getfield 260, 3) := by decide +kernel
theorem dX12_see_4 : decode cX12_see 4 = .ok (.istore_n 1, 1) := by decide +kernel
theorem dX12_see_5 : decode cX12_see 5 = .ok (.aload_n 0, 1) := by decide +kernel
theorem dX12_see_6 : decode cX12_see 6 = .ok (.iconst 0, 1) := by decide +kernel
theorem dX12_see_7 : decode cX12_see 7 = .ok (.putfield 260, 3) := by decide +kernel
theorem dX12_see_10 : decode cX12_see 10 = .ok (.iload_n 1, 1) := by decide +kernel
theorem dX12_see_11 : decode cX12_see 11 = .ok (.ifCond .le 21, 3) := by decide +kernel
theorem dX12_see_14 : decode cX12_see 14 = .ok (.iload_n 1, 1) := by decide +kernel
theorem dX12_see_15 : decode cX12_see 15 = .ok (.iconst 3, 1) := by decide +kernel
theorem dX12_see_16 : decode cX12_see 16 = .ok (.irem, 1) := by decide +kernel
theorem dX12_see_17 : decode cX12_see 17 = .ok (.ifCond .ne 15, 3) := by decide +kernel
theorem dX12_see_20 : decode cX12_see 20 = .ok (.iload_n 1, 1) := by decide +kernel
theorem dX12_see_21 : decode cX12_see 21 = .ok (.iconst 3, 1) := by decide +kernel
theorem dX12_see_22 : decode cX12_see 22 = .ok (.idiv, 1) := by decide +kernel
theorem dX12_see_23 : decode cX12_see 23 = .ok (.bipush 16, 2) := by decide +kernel
theorem dX12_see_25 : decode cX12_see 25 = .ok (.if_icmp .gt 7, 3) := by decide +kernel
theorem dX12_see_28 : decode cX12_see 28 = .ok (.iconst 1, 1) := by decide +kernel
theorem dX12_see_29 : decode cX12_see 29 = .ok (.goto 4, 3) := by decide +kernel
theorem dX12_see_32 : decode cX12_see 32 = .ok (.iconst 0, 1) := by decide +kernel
theorem dX12_see_33 : decode cX12_see 33 = .ok (.istore_n 2, 1) := by decide +kernel
theorem dX12_see_34 : decode cX12_see 34 = .ok (.iconst 0, 1) := by decide +kernel
theorem dX12_see_35 : decode cX12_see 35 = .ok (.istore_n 3, 1) := by decide +kernel
theorem dX12_see_36 : decode cX12_see 36 = .ok (.iload_n 3, 1) := by decide +kernel
theorem dX12_see_37 : decode cX12_see 37 = .ok (.iload_n 1, 1) := by decide +kernel
theorem dX12_see_38 : decode cX12_see 38 = .ok (.if_icmp .ge 24, 3) := by decide +kernel
theorem dX12_see_41 : decode cX12_see 41 = .ok (.iload_n 2, 1) := by decide +kernel
theorem dX12_see_42 : decode cX12_see 42 = .ok (.ifCond .eq 20, 3) := by decide +kernel
theorem dX12_see_45 : decode cX12_see 45 = .ok (.aload_n 0, 1) := by decide +kernel
theorem dX12_see_46 : decode cX12_see 46 = .ok (.aload_n 0, 1) := by decide +kernel
theorem dX12_see_47 : decode cX12_see 47 = .ok (.getfield 7, 3) := by decide +kernel
theorem dX12_see_50 : decode cX12_see 50 = .ok (.iload_n 3, 1) := by decide +kernel
theorem dX12_see_51 : decode cX12_see 51 = .ok (.iaload, 1) := by decide +kernel
theorem dX12_see_52 : decode cX12_see 52 = .ok (.invokevirtual 501, 3) := by decide +kernel
theorem dX12_see_55 : decode cX12_see 55 = .ok (.istore_n 2, 1) := by decide +kernel
theorem dX12_see_56 : decode cX12_see 56 = .ok (.iinc 3 3, 3) := by decide +kernel
theorem dX12_see_59 : decode cX12_see 59 = .ok (.goto (-23), 3) := by decide +kernel
theorem dX12_see_62 : decode cX12_see 62 = .ok (.iload_n 2, 1) := by decide +kernel
theorem dX12_see_63 : decode cX12_see 63 = .ok (.ifCond .ne 9, 3) := by decide +kernel
theorem dX12_see_66 : decode cX12_see 66 = .ok (.aload_n 0, 1) := by decide +kernel
theorem dX12_see_67 : decode cX12_see 67 = .ok (.iconst 1, 1) := by decide +kernel
theorem dX12_see_68 : decode cX12_see 68 = .ok (.invokevirtual 560, 3) := by decide +kernel
theorem dX12_see_71 : decode cX12_see 71 = .ok (.ireturn, 1) := by decide +kernel
theorem dX12_see_72 : decode cX12_see 72 = .ok (.iconst 0, 1) := by decide +kernel
theorem dX12_see_73 : decode cX12_see 73 = .ok (.istore_n 3, 1) := by decide +kernel
theorem dX12_see_74 : decode cX12_see 74 = .ok (.iload_n 3, 1) := by decide +kernel
theorem dX12_see_75 : decode cX12_see 75 = .ok (.iload_n 1, 1) := by decide +kernel
theorem dX12_see_76 : decode cX12_see 76 = .ok (.if_icmp .ge 21, 3) := by decide +kernel
theorem dX12_see_79 : decode cX12_see 79 = .ok (.aload_n 0, 1) := by decide +kernel
theorem dX12_see_80 : decode cX12_see 80 = .ok (.getfield 169, 3) := by decide +kernel
theorem dX12_see_83 : decode cX12_see 83 = .ok (.iload_n 3, 1) := by decide +kernel
theorem dX12_see_84 : decode cX12_see 84 = .ok (.aload_n 0, 1) := by decide +kernel
theorem dX12_see_85 : decode cX12_see 85 = .ok (.getfield 7, 3) := by decide +kernel
theorem dX12_see_88 : decode cX12_see 88 = .ok (.iload_n 3, 1) := by decide +kernel
theorem dX12_see_89 : decode cX12_see 89 = .ok (.iaload, 1) := by decide +kernel
theorem dX12_see_90 : decode cX12_see 90 = .ok (.iastore, 1) := by decide +kernel
theorem dX12_see_91 : decode cX12_see 91 = .ok (.iinc 3 1, 3) := by decide +kernel
theorem dX12_see_94 : decode cX12_see 94 = .ok (.goto (-20), 3) := by decide +kernel
theorem dX12_see_97 : decode cX12_see 97 = .ok (.aload_n 0, 1) := by decide +kernel
theorem dX12_see_98 : decode cX12_see 98 = .ok (.iload_n 1, 1) := by decide +kernel
theorem dX12_see_99 : decode cX12_see 99 = .ok (.iconst 3, 1) := by decide +kernel
theorem dX12_see_100 : decode cX12_see 100 = .ok (.idiv, 1) := by decide +kernel
theorem dX12_see_101 : decode cX12_see 101 = .ok (.putfield 416, 3) := by decide +kernel
theorem dX12_see_104 : decode cX12_see 104 = .ok (.aload_n 0, 1) := by decide +kernel
theorem dX12_see_105 : decode cX12_see 105 = .ok (.getfield 416, 3) := by decide +kernel
theorem dX12_see_108 : decode cX12_see 108 = .ok (.ireturn, 1) := by decide +kernel
theorem dX12_laysTimes_0 : decode cX12_laysTimes 0 = .ok (.iconst 0, 1) := by decide +kernel
theorem dX12_laysTimes_1 : decode cX12_laysTimes 1 = .ok (.istore_n 1, 1) := by decide +kernel
theorem dX12_laysTimes_2 : decode cX12_laysTimes 2 = .ok (.iload_n 1, 1) := by decide +kernel
theorem dX12_laysTimes_3 : decode cX12_laysTimes 3 = .ok (.aload_n 0, 1) := by decide +kernel
theorem dX12_laysTimes_4 : decode cX12_laysTimes 4 = .ok (.invokevirtual 419, 3) := by decide +kernel
theorem dX12_laysTimes_7 : decode cX12_laysTimes 7 = .ok (.if_icmp .ge 57, 3) := by decide +kernel
theorem dX12_laysTimes_10 : decode cX12_laysTimes 10 = .ok (.iconst 0, 1) := by decide +kernel
theorem dX12_laysTimes_11 : decode cX12_laysTimes 11 = .ok (.istore_n 2, 1) := by decide +kernel
theorem dX12_laysTimes_12 : decode cX12_laysTimes 12 = .ok (.iload_n 2, 1) := by decide +kernel
theorem dX12_laysTimes_13 : decode cX12_laysTimes 13 = .ok (.aload_n 0, 1) := by decide +kernel
theorem dX12_laysTimes_14 : decode cX12_laysTimes 14 = .ok (.invokevirtual 422, 3) := by decide +kernel
theorem dX12_laysTimes_17 : decode cX12_laysTimes 17 = .ok (.if_icmp .ge 41, 3) := by decide +kernel
theorem dX12_laysTimes_20 : decode cX12_laysTimes 20 = .ok (.aload_n 0, 1) := by decide +kernel
theorem dX12_laysTimes_21 : decode cX12_laysTimes 21 = .ok (.getfield 157, 3) := by decide +kernel
theorem dX12_laysTimes_24 : decode cX12_laysTimes 24 = .ok (.iconst 3, 1) := by decide +kernel
theorem dX12_laysTimes_25 : decode cX12_laysTimes 25 = .ok (.iload_n 1, 1) := by decide +kernel
theorem dX12_laysTimes_26 : decode cX12_laysTimes 26 = .ok (.imul, 1) := by decide +kernel
theorem dX12_laysTimes_27 : decode cX12_laysTimes 27 = .ok (.iload_n 2, 1) := by decide +kernel
theorem dX12_laysTimes_28 : decode cX12_laysTimes 28 = .ok (.iadd, 1) := by decide +kernel
theorem dX12_laysTimes_29 : decode cX12_laysTimes 29 = .ok (.aload_n 0, 1) := by decide +kernel
theorem dX12_laysTimes_30 : decode cX12_laysTimes 30 = .ok (.iload_n 1, 1) := by decide +kernel
theorem dX12_laysTimes_31 : decode cX12_laysTimes 31 = .ok (.iload_n 2, 1) := by decide +kernel
theorem dX12_laysTimes_32 : decode cX12_laysTimes 32 = .ok (.invokevirtual 461, 3) := by decide +kernel
theorem dX12_laysTimes_35 : decode cX12_laysTimes 35 = .ok (.iastore, 1) := by decide +kernel
theorem dX12_laysTimes_36 : decode cX12_laysTimes 36 = .ok (.aload_n 0, 1) := by decide +kernel
theorem dX12_laysTimes_37 : decode cX12_laysTimes 37 = .ok (.getfield 160, 3) := by decide +kernel
theorem dX12_laysTimes_40 : decode cX12_laysTimes 40 = .ok (.iconst 3, 1) := by decide +kernel
theorem dX12_laysTimes_41 : decode cX12_laysTimes 41 = .ok (.iload_n 1, 1) := by decide +kernel
theorem dX12_laysTimes_42 : decode cX12_laysTimes 42 = .ok (.imul, 1) := by decide +kernel
theorem dX12_laysTimes_43 : decode cX12_laysTimes 43 = .ok (.iload_n 2, 1) := by decide +kernel
theorem dX12_laysTimes_44 : decode cX12_laysTimes 44 = .ok (.iadd, 1) := by decide +kernel
theorem dX12_laysTimes_45 : decode cX12_laysTimes 45 = .ok (.aload_n 0, 1) := by decide +kernel
theorem dX12_laysTimes_46 : decode cX12_laysTimes 46 = .ok (.iload_n 1, 1) := by decide +kernel
theorem dX12_laysTimes_47 : decode cX12_laysTimes 47 = .ok (.iload_n 2, 1) := by decide +kernel
theorem dX12_laysTimes_48 : decode cX12_laysTimes 48 = .ok (.invokevirtual 464, 3) := by decide +kernel
theorem dX12_laysTimes_51 : decode cX12_laysTimes 51 = .ok (.lastore, 1) := by decide +kernel
theorem dX12_laysTimes_52 : decode cX12_laysTimes 52 = .ok (.iinc 2 1, 3) := by decide +kernel
theorem dX12_laysTimes_55 : decode cX12_laysTimes 55 = .ok (.goto (-43), 3) := by decide +kernel
theorem dX12_laysTimes_58 : decode cX12_laysTimes 58 = .ok (.iinc 1 1, 3) := by decide +kernel
theorem dX12_laysTimes_61 : decode cX12_laysTimes 61 = .ok (.goto (-59), 3) := by decide +kernel
theorem dX12_laysTimes_64 : decode cX12_laysTimes 64 = .ok (.return_, 1) := by decide +kernel
theorem dX12_qJoins_0 : decode cX12_qJoins 0 = .ok (.aload_n 0, 1) := by decide +kernel
theorem dX12_qJoins_1 : decode cX12_qJoins 1 = .ok (.getfield 254, 3) := by decide +kernel
theorem dX12_qJoins_4 : decode cX12_qJoins 4 = .ok (.aload_n 0, 1) := by decide +kernel
theorem dX12_qJoins_5 : decode cX12_qJoins 5 = .ok (.getfield 431, 3) := by decide +kernel
theorem dX12_qJoins_8 : decode cX12_qJoins 8 = .ok (.iconst 1, 1) := by decide +kernel
theorem dX12_qJoins_9 : decode cX12_qJoins 9 = .ok (.isub, 1) := by decide +kernel
theorem dX12_qJoins_10 : decode cX12_qJoins 10 = .ok (.laload, 1) := by decide +kernel
theorem dX12_qJoins_11 : decode cX12_qJoins 11 = .ok (.lstore_n 2, 1) := by decide +kernel
theorem dX12_qJoins_12 : decode cX12_qJoins 12 = .ok (.aload_n 0, 1) := by decide +kernel
theorem dX12_qJoins_13 : decode cX12_qJoins 13 = .ok (.getfield 254, 3) := by decide +kernel
theorem dX12_qJoins_16 : decode cX12_qJoins 16 = .ok (.aload_n 0, 1) := by decide +kernel
theorem dX12_qJoins_17 : decode cX12_qJoins 17 = .ok (.getfield 431, 3) := by decide +kernel
theorem dX12_qJoins_20 : decode cX12_qJoins 20 = .ok (.iconst 2, 1) := by decide +kernel
theorem dX12_qJoins_21 : decode cX12_qJoins 21 = .ok (.isub, 1) := by decide +kernel
theorem dX12_qJoins_22 : decode cX12_qJoins 22 = .ok (.laload, 1) := by decide +kernel
theorem dX12_qJoins_23 : decode cX12_qJoins 23 = .ok (.lstore 4, 2) := by decide +kernel
theorem dX12_qJoins_25 : decode cX12_qJoins 25 = .ok (.aload_n 0, 1) := by decide +kernel
theorem dX12_qJoins_26 : decode cX12_qJoins 26 = .ok (.dup, 1) := by decide +kernel
theorem dX12_qJoins_27 : decode cX12_qJoins 27 = .ok (.getfield 431, 3) := by decide +kernel
theorem dX12_qJoins_30 : decode cX12_qJoins 30 = .ok (.iconst 2, 1) := by decide +kernel
theorem dX12_qJoins_31 : decode cX12_qJoins 31 = .ok (.isub, 1) := by decide +kernel
theorem dX12_qJoins_32 : decode cX12_qJoins 32 = .ok (.putfield 431, 3) := by decide +kernel
theorem dX12_qJoins_35 : decode cX12_qJoins 35 = .ok (.iload_n 1, 1) := by decide +kernel
theorem dX12_qJoins_36 : decode cX12_qJoins 36 = .ok (.tableswitch 219 1 10 #[56, 70, 84, 98, 111, 131, 151, 170, 189, 208], 56) := by decide +kernel
theorem dX12_qJoins_92 : decode cX12_qJoins 92 = .ok (.aload_n 0, 1) := by decide +kernel
theorem dX12_qJoins_93 : decode cX12_qJoins 93 = .ok (.lload 4, 2) := by decide +kernel
theorem dX12_qJoins_95 : decode cX12_qJoins 95 = .ok (.lload_n 2, 1) := by decide +kernel
theorem dX12_qJoins_96 : decode cX12_qJoins 96 = .ok (.ladd, 1) := by decide +kernel
theorem dX12_qJoins_97 : decode cX12_qJoins 97 = .ok (.invokestatic 652, 3) := by decide +kernel
theorem dX12_qJoins_100 : decode cX12_qJoins 100 = .ok (.invokevirtual 434, 3) := by decide +kernel
theorem dX12_qJoins_103 : decode cX12_qJoins 103 = .ok (.goto 170, 3) := by decide +kernel
theorem dX12_qJoins_106 : decode cX12_qJoins 106 = .ok (.aload_n 0, 1) := by decide +kernel
theorem dX12_qJoins_107 : decode cX12_qJoins 107 = .ok (.lload 4, 2) := by decide +kernel
theorem dX12_qJoins_109 : decode cX12_qJoins 109 = .ok (.lload_n 2, 1) := by decide +kernel
theorem dX12_qJoins_110 : decode cX12_qJoins 110 = .ok (.lsub, 1) := by decide +kernel
theorem dX12_qJoins_111 : decode cX12_qJoins 111 = .ok (.invokestatic 652, 3) := by decide +kernel
theorem dX12_qJoins_114 : decode cX12_qJoins 114 = .ok (.invokevirtual 434, 3) := by decide +kernel
theorem dX12_qJoins_117 : decode cX12_qJoins 117 = .ok (.goto 156, 3) := by decide +kernel
theorem dX12_qJoins_120 : decode cX12_qJoins 120 = .ok (.aload_n 0, 1) := by decide +kernel
theorem dX12_qJoins_121 : decode cX12_qJoins 121 = .ok (.lload 4, 2) := by decide +kernel
theorem dX12_qJoins_123 : decode cX12_qJoins 123 = .ok (.lload_n 2, 1) := by decide +kernel
theorem dX12_qJoins_124 : decode cX12_qJoins 124 = .ok (.lmul, 1) := by decide +kernel
theorem dX12_qJoins_125 : decode cX12_qJoins 125 = .ok (.invokestatic 652, 3) := by decide +kernel
theorem dX12_qJoins_128 : decode cX12_qJoins 128 = .ok (.invokevirtual 434, 3) := by decide +kernel
theorem dX12_qJoins_131 : decode cX12_qJoins 131 = .ok (.goto 142, 3) := by decide +kernel
theorem dX12_qJoins_134 : decode cX12_qJoins 134 = .ok (.aload_n 0, 1) := by decide +kernel
theorem dX12_qJoins_135 : decode cX12_qJoins 135 = .ok (.lload 4, 2) := by decide +kernel
theorem dX12_qJoins_137 : decode cX12_qJoins 137 = .ok (.lload_n 2, 1) := by decide +kernel
theorem dX12_qJoins_138 : decode cX12_qJoins 138 = .ok (.invokestatic 656, 3) := by decide +kernel
theorem dX12_qJoins_141 : decode cX12_qJoins 141 = .ok (.invokevirtual 434, 3) := by decide +kernel
theorem dX12_qJoins_144 : decode cX12_qJoins 144 = .ok (.goto 129, 3) := by decide +kernel
theorem dX12_qJoins_147 : decode cX12_qJoins 147 = .ok (.aload_n 0, 1) := by decide +kernel
theorem dX12_qJoins_148 : decode cX12_qJoins 148 = .ok (.lload 4, 2) := by decide +kernel
theorem dX12_qJoins_150 : decode cX12_qJoins 150 = .ok (.lload_n 2, 1) := by decide +kernel
theorem dX12_qJoins_151 : decode cX12_qJoins 151 = .ok (.lcmp, 1) := by decide +kernel
theorem dX12_qJoins_152 : decode cX12_qJoins 152 = .ok (.ifCond .ge 8, 3) := by decide +kernel
theorem dX12_qJoins_155 : decode cX12_qJoins 155 = .ok (.lload 4, 2) := by decide +kernel
theorem dX12_qJoins_157 : decode cX12_qJoins 157 = .ok (.goto 4, 3) := by decide +kernel
theorem dX12_qJoins_160 : decode cX12_qJoins 160 = .ok (.lload_n 2, 1) := by decide +kernel
theorem dX12_qJoins_161 : decode cX12_qJoins 161 = .ok (.invokevirtual 434, 3) := by decide +kernel
theorem dX12_qJoins_164 : decode cX12_qJoins 164 = .ok (.goto 109, 3) := by decide +kernel
theorem dX12_qJoins_167 : decode cX12_qJoins 167 = .ok (.aload_n 0, 1) := by decide +kernel
theorem dX12_qJoins_168 : decode cX12_qJoins 168 = .ok (.lload 4, 2) := by decide +kernel
theorem dX12_qJoins_170 : decode cX12_qJoins 170 = .ok (.lload_n 2, 1) := by decide +kernel
theorem dX12_qJoins_171 : decode cX12_qJoins 171 = .ok (.lcmp, 1) := by decide +kernel
theorem dX12_qJoins_172 : decode cX12_qJoins 172 = .ok (.ifCond .le 8, 3) := by decide +kernel
theorem dX12_qJoins_175 : decode cX12_qJoins 175 = .ok (.lload 4, 2) := by decide +kernel
theorem dX12_qJoins_177 : decode cX12_qJoins 177 = .ok (.goto 4, 3) := by decide +kernel
theorem dX12_qJoins_180 : decode cX12_qJoins 180 = .ok (.lload_n 2, 1) := by decide +kernel
theorem dX12_qJoins_181 : decode cX12_qJoins 181 = .ok (.invokevirtual 434, 3) := by decide +kernel
theorem dX12_qJoins_184 : decode cX12_qJoins 184 = .ok (.goto 89, 3) := by decide +kernel
theorem dX12_qJoins_187 : decode cX12_qJoins 187 = .ok (.aload_n 0, 1) := by decide +kernel
theorem dX12_qJoins_188 : decode cX12_qJoins 188 = .ok (.lload 4, 2) := by decide +kernel
theorem dX12_qJoins_190 : decode cX12_qJoins 190 = .ok (.lload_n 2, 1) := by decide +kernel
theorem dX12_qJoins_191 : decode cX12_qJoins 191 = .ok (.lcmp, 1) := by decide +kernel
theorem dX12_qJoins_192 : decode cX12_qJoins 192 = .ok (.ifCond .ge 7, 3) := by decide +kernel
theorem dX12_qJoins_195 : decode cX12_qJoins 195 = .ok (.lconst 1, 1) := by decide +kernel
theorem dX12_qJoins_196 : decode cX12_qJoins 196 = .ok (.goto 4, 3) := by decide +kernel
theorem dX12_qJoins_199 : decode cX12_qJoins 199 = .ok (.lconst 0, 1) := by decide +kernel
theorem dX12_qJoins_200 : decode cX12_qJoins 200 = .ok (.invokevirtual 434, 3) := by decide +kernel
theorem dX12_qJoins_203 : decode cX12_qJoins 203 = .ok (.goto 70, 3) := by decide +kernel
theorem dX12_qJoins_206 : decode cX12_qJoins 206 = .ok (.aload_n 0, 1) := by decide +kernel
theorem dX12_qJoins_207 : decode cX12_qJoins 207 = .ok (.lload 4, 2) := by decide +kernel
theorem dX12_qJoins_209 : decode cX12_qJoins 209 = .ok (.lload_n 2, 1) := by decide +kernel
theorem dX12_qJoins_210 : decode cX12_qJoins 210 = .ok (.lcmp, 1) := by decide +kernel
theorem dX12_qJoins_211 : decode cX12_qJoins 211 = .ok (.ifCond .le 7, 3) := by decide +kernel
theorem dX12_qJoins_214 : decode cX12_qJoins 214 = .ok (.lconst 1, 1) := by decide +kernel
theorem dX12_qJoins_215 : decode cX12_qJoins 215 = .ok (.goto 4, 3) := by decide +kernel
theorem dX12_qJoins_218 : decode cX12_qJoins 218 = .ok (.lconst 0, 1) := by decide +kernel
theorem dX12_qJoins_219 : decode cX12_qJoins 219 = .ok (.invokevirtual 434, 3) := by decide +kernel
theorem dX12_qJoins_222 : decode cX12_qJoins 222 = .ok (.goto 51, 3) := by decide +kernel
theorem dX12_qJoins_225 : decode cX12_qJoins 225 = .ok (.aload_n 0, 1) := by decide +kernel
theorem dX12_qJoins_226 : decode cX12_qJoins 226 = .ok (.lload 4, 2) := by decide +kernel
theorem dX12_qJoins_228 : decode cX12_qJoins 228 = .ok (.lload_n 2, 1) := by decide +kernel
theorem dX12_qJoins_229 : decode cX12_qJoins 229 = .ok (.lcmp, 1) := by decide +kernel
theorem dX12_qJoins_230 : decode cX12_qJoins 230 = .ok (.ifCond .ne 7, 3) := by decide +kernel
theorem dX12_qJoins_233 : decode cX12_qJoins 233 = .ok (.lconst 1, 1) := by decide +kernel
theorem dX12_qJoins_234 : decode cX12_qJoins 234 = .ok (.goto 4, 3) := by decide +kernel
theorem dX12_qJoins_237 : decode cX12_qJoins 237 = .ok (.lconst 0, 1) := by decide +kernel
theorem dX12_qJoins_238 : decode cX12_qJoins 238 = .ok (.invokevirtual 434, 3) := by decide +kernel
theorem dX12_qJoins_241 : decode cX12_qJoins 241 = .ok (.goto 32, 3) := by decide +kernel
theorem dX12_qJoins_244 : decode cX12_qJoins 244 = .ok (.aload_n 0, 1) := by decide +kernel
theorem dX12_qJoins_245 : decode cX12_qJoins 245 = .ok (.lload 4, 2) := by decide +kernel
theorem dX12_qJoins_247 : decode cX12_qJoins 247 = .ok (.lload_n 2, 1) := by decide +kernel
theorem dX12_qJoins_248 : decode cX12_qJoins 248 = .ok (.lmul, 1) := by decide +kernel
theorem dX12_qJoins_249 : decode cX12_qJoins 249 = .ok (.invokevirtual 434, 3) := by decide +kernel
theorem dX12_qJoins_252 : decode cX12_qJoins 252 = .ok (.goto 21, 3) := by decide +kernel
theorem dX12_qJoins_255 : decode cX12_qJoins 255 = .ok (.aload_n 0, 1) := by decide +kernel
theorem dX12_qJoins_256 : decode cX12_qJoins 256 = .ok (.lload 4, 2) := by decide +kernel
theorem dX12_qJoins_258 : decode cX12_qJoins 258 = .ok (.lload_n 2, 1) := by decide +kernel
theorem dX12_qJoins_259 : decode cX12_qJoins 259 = .ok (.ladd, 1) := by decide +kernel
theorem dX12_qJoins_260 : decode cX12_qJoins 260 = .ok (.lconst 0, 1) := by decide +kernel
theorem dX12_qJoins_261 : decode cX12_qJoins 261 = .ok (.lcmp, 1) := by decide +kernel
theorem dX12_qJoins_262 : decode cX12_qJoins 262 = .ok (.ifCond .le 7, 3) := by decide +kernel
theorem dX12_qJoins_265 : decode cX12_qJoins 265 = .ok (.lconst 1, 1) := by decide +kernel
theorem dX12_qJoins_266 : decode cX12_qJoins 266 = .ok (.goto 4, 3) := by decide +kernel
theorem dX12_qJoins_269 : decode cX12_qJoins 269 = .ok (.lconst 0, 1) := by decide +kernel
theorem dX12_qJoins_270 : decode cX12_qJoins 270 = .ok (.invokevirtual 434, 3) := by decide +kernel
theorem dX12_qJoins_273 : decode cX12_qJoins 273 = .ok (.return_, 1) := by decide +kernel
theorem dX12_can_0 : decode cX12_can 0 = .ok (.aload_n 0, 1) := by decide +kernel
theorem dX12_can_1 : decode cX12_can 1 = .ok (.iload_n 1, 1) := by decide +kernel
theorem dX12_can_2 : decode cX12_can 2 = .ok (.invokevirtual 501, 3) := by decide +kernel
theorem dX12_can_5 : decode cX12_can 5 = .ok (.ifCond .eq 28, 3) := by decide +kernel
theorem dX12_can_8 : decode cX12_can 8 = .ok (.aload_n 0, 1) := by decide +kernel
theorem dX12_can_9 : decode cX12_can 9 = .ok (.iload_n 2, 1) := by decide +kernel
theorem dX12_can_10 : decode cX12_can 10 = .ok (.invokevirtual 516, 3) := by decide +kernel
theorem dX12_can_13 : decode cX12_can 13 = .ok (.ifCond .eq 20, 3) := by decide +kernel
theorem dX12_can_16 : decode cX12_can 16 = .ok (.aload_n 0, 1) := by decide +kernel
theorem dX12_can_17 : decode cX12_can 17 = .ok (.iload_n 1, 1) := by decide +kernel
theorem dX12_can_18 : decode cX12_can 18 = .ok (.iload_n 2, 1) := by decide +kernel
theorem dX12_can_19 : decode cX12_can 19 = .ok (.invokevirtual 521, 3) := by decide +kernel
theorem dX12_can_22 : decode cX12_can 22 = .ok (.ifCond .eq 7, 3) := by decide +kernel
theorem dX12_can_25 : decode cX12_can 25 = .ok (.iconst 1, 1) := by decide +kernel
theorem dX12_can_26 : decode cX12_can 26 = .ok (.goto 8, 3) := by decide +kernel
theorem dX12_can_29 : decode cX12_can 29 = .ok (.iconst 0, 1) := by decide +kernel
theorem dX12_can_30 : decode cX12_can 30 = .ok (.goto 4, 3) := by decide +kernel
theorem dX12_can_33 : decode cX12_can 33 = .ok (.iconst (-1), 1) := by decide +kernel
theorem dX12_can_34 : decode cX12_can 34 = .ok (.ireturn, 1) := by decide +kernel
theorem dX12_qPartTold_0 : decode cX12_qPartTold 0 = .ok (.iconst 1, 1) := by decide +kernel
theorem dX12_qPartTold_1 : decode cX12_qPartTold 1 = .ok (.istore_n 1, 1) := by decide +kernel
theorem dX12_qPartTold_2 : decode cX12_qPartTold 2 = .ok (.iload_n 1, 1) := by decide +kernel
theorem dX12_qPartTold_3 : decode cX12_qPartTold 3 = .ok (.ifCond .eq 183, 3) := by decide +kernel
theorem dX12_qPartTold_6 : decode cX12_qPartTold 6 = .ok (.aload_n 0, 1) := by decide +kernel
theorem dX12_qPartTold_7 : decode cX12_qPartTold 7 = .ok (.getfield 263, 3) := by decide +kernel
theorem dX12_qPartTold_10 : decode cX12_qPartTold 10 = .ok (.ifCond .ne 176, 3) := by decide +kernel
theorem dX12_qPartTold_13 : decode cX12_qPartTold 13 = .ok (.aload_n 0, 1) := by decide +kernel
theorem dX12_qPartTold_14 : decode cX12_qPartTold 14 = .ok (.invokevirtual 275, 3) := by decide +kernel
theorem dX12_qPartTold_17 : decode cX12_qPartTold 17 = .ok (.istore_n 2, 1) := by decide +kernel
theorem dX12_qPartTold_18 : decode cX12_qPartTold 18 = .ok (.aload_n 0, 1) := by decide +kernel
theorem dX12_qPartTold_19 : decode cX12_qPartTold 19 = .ok (.bipush 10, 2) := by decide +kernel
theorem dX12_qPartTold_21 : decode cX12_qPartTold 21 = .ok (.bipush 11, 2) := by decide +kernel
theorem dX12_qPartTold_23 : decode cX12_qPartTold 23 = .ok (.invokevirtual 609, 3) := by decide +kernel
theorem dX12_qPartTold_26 : decode cX12_qPartTold 26 = .ok (.istore_n 3, 1) := by decide +kernel
theorem dX12_qPartTold_27 : decode cX12_qPartTold 27 = .ok (.iload_n 2, 1) := by decide +kernel
theorem dX12_qPartTold_28 : decode cX12_qPartTold 28 = .ok (.bipush 40, 2) := by decide +kernel
theorem dX12_qPartTold_30 : decode cX12_qPartTold 30 = .ok (.if_icmp .ne 26, 3) := by decide +kernel
theorem dX12_qPartTold_33 : decode cX12_qPartTold 33 = .ok (.aload_n 0, 1) := by decide +kernel
theorem dX12_qPartTold_34 : decode cX12_qPartTold 34 = .ok (.bipush 20, 2) := by decide +kernel
theorem dX12_qPartTold_36 : decode cX12_qPartTold 36 = .ok (.aload_n 0, 1) := by decide +kernel
theorem dX12_qPartTold_37 : decode cX12_qPartTold 37 = .ok (.getfield 269, 3) := by decide +kernel
theorem dX12_qPartTold_40 : decode cX12_qPartTold 40 = .ok (.invokevirtual 612, 3) := by decide +kernel
theorem dX12_qPartTold_43 : decode cX12_qPartTold 43 = .ok (.aload_n 0, 1) := by decide +kernel
theorem dX12_qPartTold_44 : decode cX12_qPartTold 44 = .ok (.dup, 1) := by decide +kernel
theorem dX12_qPartTold_45 : decode cX12_qPartTold 45 = .ok (.getfield 269, 3) := by decide +kernel
theorem dX12_qPartTold_48 : decode cX12_qPartTold 48 = .ok (.iconst 1, 1) := by decide +kernel
theorem dX12_qPartTold_49 : decode cX12_qPartTold 49 = .ok (.iadd, 1) := by decide +kernel
theorem dX12_qPartTold_50 : decode cX12_qPartTold 50 = .ok (.putfield 269, 3) := by decide +kernel
theorem dX12_qPartTold_53 : decode cX12_qPartTold 53 = .ok (.goto 130, 3) := by decide +kernel
theorem dX12_qPartTold_56 : decode cX12_qPartTold 56 = .ok (.aload_n 0, 1) := by decide +kernel
theorem dX12_qPartTold_57 : decode cX12_qPartTold 57 = .ok (.aload_n 0, 1) := by decide +kernel
theorem dX12_qPartTold_58 : decode cX12_qPartTold 58 = .ok (.getfield 209, 3) := by decide +kernel
theorem dX12_qPartTold_61 : decode cX12_qPartTold 61 = .ok (.invokevirtual 286, 3) := by decide +kernel
theorem dX12_qPartTold_64 : decode cX12_qPartTold 64 = .ok (.ifCond .ne 14, 3) := by decide +kernel
theorem dX12_qPartTold_67 : decode cX12_qPartTold 67 = .ok (.aload_n 0, 1) := by decide +kernel
theorem dX12_qPartTold_68 : decode cX12_qPartTold 68 = .ok (.aload_n 0, 1) := by decide +kernel
theorem dX12_qPartTold_69 : decode cX12_qPartTold 69 = .ok (.getfield 212, 3) := by decide +kernel
theorem dX12_qPartTold_72 : decode cX12_qPartTold 72 = .ok (.invokevirtual 286, 3) := by decide +kernel
theorem dX12_qPartTold_75 : decode cX12_qPartTold 75 = .ok (.ifCond .eq 78, 3) := by decide +kernel
theorem dX12_qPartTold_78 : decode cX12_qPartTold 78 = .ok (.aload_n 0, 1) := by decide +kernel
theorem dX12_qPartTold_79 : decode cX12_qPartTold 79 = .ok (.aload_n 0, 1) := by decide +kernel
theorem dX12_qPartTold_80 : decode cX12_qPartTold 80 = .ok (.getfield 209, 3) := by decide +kernel
theorem dX12_qPartTold_83 : decode cX12_qPartTold 83 = .ok (.invokevirtual 290, 3) := by decide +kernel
theorem dX12_qPartTold_86 : decode cX12_qPartTold 86 = .ok (.istore 4, 2) := by decide +kernel
theorem dX12_qPartTold_88 : decode cX12_qPartTold 88 = .ok (.iload 4, 2) := by decide +kernel
theorem dX12_qPartTold_90 : decode cX12_qPartTold 90 = .ok (.ifCond .ne 11, 3) := by decide +kernel
theorem dX12_qPartTold_93 : decode cX12_qPartTold 93 = .ok (.aload_n 0, 1) := by decide +kernel
theorem dX12_qPartTold_94 : decode cX12_qPartTold 94 = .ok (.aload_n 0, 1) := by decide +kernel
theorem dX12_qPartTold_95 : decode cX12_qPartTold 95 = .ok (.getfield 212, 3) := by decide +kernel
theorem dX12_qPartTold_98 : decode cX12_qPartTold 98 = .ok (.invokevirtual 337, 3) := by decide +kernel
theorem dX12_qPartTold_101 : decode cX12_qPartTold 101 = .ok (.aload_n 0, 1) := by decide +kernel
theorem dX12_qPartTold_102 : decode cX12_qPartTold 102 = .ok (.invokevirtual 275, 3) := by decide +kernel
theorem dX12_qPartTold_105 : decode cX12_qPartTold 105 = .ok (.bipush 40, 2) := by decide +kernel
theorem dX12_qPartTold_107 : decode cX12_qPartTold 107 = .ok (.if_icmp .ne 10, 3) := by decide +kernel
theorem dX12_qPartTold_110 : decode cX12_qPartTold 110 = .ok (.aload_n 0, 1) := by decide +kernel
theorem dX12_qPartTold_111 : decode cX12_qPartTold 111 = .ok (.getfield 269, 3) := by decide +kernel
theorem dX12_qPartTold_114 : decode cX12_qPartTold 114 = .ok (.goto 4, 3) := by decide +kernel
theorem dX12_qPartTold_117 : decode cX12_qPartTold 117 = .ok (.iconst (-1), 1) := by decide +kernel
theorem dX12_qPartTold_118 : decode cX12_qPartTold 118 = .ok (.istore 5, 2) := by decide +kernel
theorem dX12_qPartTold_120 : decode cX12_qPartTold 120 = .ok (.iload 5, 2) := by decide +kernel
theorem dX12_qPartTold_122 : decode cX12_qPartTold 122 = .ok (.iconst (-1), 1) := by decide +kernel
theorem dX12_qPartTold_123 : decode cX12_qPartTold 123 = .ok (.if_icmp .eq 21, 3) := by decide +kernel
theorem dX12_qPartTold_126 : decode cX12_qPartTold 126 = .ok (.aload_n 0, 1) := by decide +kernel
theorem dX12_qPartTold_127 : decode cX12_qPartTold 127 = .ok (.iload 4, 2) := by decide +kernel
theorem dX12_qPartTold_129 : decode cX12_qPartTold 129 = .ok (.ifCond .eq 8, 3) := by decide +kernel
theorem dX12_qPartTold_132 : decode cX12_qPartTold 132 = .ok (.bipush 21, 2) := by decide +kernel
theorem dX12_qPartTold_134 : decode cX12_qPartTold 134 = .ok (.goto 5, 3) := by decide +kernel
theorem dX12_qPartTold_137 : decode cX12_qPartTold 137 = .ok (.bipush 22, 2) := by decide +kernel
theorem dX12_qPartTold_139 : decode cX12_qPartTold 139 = .ok (.iload 5, 2) := by decide +kernel
theorem dX12_qPartTold_141 : decode cX12_qPartTold 141 = .ok (.invokevirtual 612, 3) := by decide +kernel
theorem dX12_qPartTold_144 : decode cX12_qPartTold 144 = .ok (.aload_n 0, 1) := by decide +kernel
theorem dX12_qPartTold_145 : decode cX12_qPartTold 145 = .ok (.bipush 40, 2) := by decide +kernel
theorem dX12_qPartTold_147 : decode cX12_qPartTold 147 = .ok (.invokevirtual 395, 3) := by decide +kernel
theorem dX12_qPartTold_150 : decode cX12_qPartTold 150 = .ok (.goto 33, 3) := by decide +kernel
theorem dX12_qPartTold_153 : decode cX12_qPartTold 153 = .ok (.iload_n 3, 1) := by decide +kernel
theorem dX12_qPartTold_154 : decode cX12_qPartTold 154 = .ok (.iconst (-1), 1) := by decide +kernel
theorem dX12_qPartTold_155 : decode cX12_qPartTold 155 = .ok (.if_icmp .eq 26, 3) := by decide +kernel
theorem dX12_qPartTold_158 : decode cX12_qPartTold 158 = .ok (.aload_n 0, 1) := by decide +kernel
theorem dX12_qPartTold_159 : decode cX12_qPartTold 159 = .ok (.bipush 60, 2) := by decide +kernel
theorem dX12_qPartTold_161 : decode cX12_qPartTold 161 = .ok (.iload_n 3, 1) := by decide +kernel
theorem dX12_qPartTold_162 : decode cX12_qPartTold 162 = .ok (.iadd, 1) := by decide +kernel
theorem dX12_qPartTold_163 : decode cX12_qPartTold 163 = .ok (.bipush 10, 2) := by decide +kernel
theorem dX12_qPartTold_165 : decode cX12_qPartTold 165 = .ok (.isub, 1) := by decide +kernel
theorem dX12_qPartTold_166 : decode cX12_qPartTold 166 = .ok (.aload_n 0, 1) := by decide +kernel
theorem dX12_qPartTold_167 : decode cX12_qPartTold 167 = .ok (.getfield 269, 3) := by decide +kernel
theorem dX12_qPartTold_170 : decode cX12_qPartTold 170 = .ok (.invokevirtual 612, 3) := by decide +kernel
theorem dX12_qPartTold_173 : decode cX12_qPartTold 173 = .ok (.aload_n 0, 1) := by decide +kernel
theorem dX12_qPartTold_174 : decode cX12_qPartTold 174 = .ok (.iload_n 3, 1) := by decide +kernel
theorem dX12_qPartTold_175 : decode cX12_qPartTold 175 = .ok (.invokevirtual 615, 3) := by decide +kernel
theorem dX12_qPartTold_178 : decode cX12_qPartTold 178 = .ok (.goto 5, 3) := by decide +kernel
theorem dX12_qPartTold_181 : decode cX12_qPartTold 181 = .ok (.iconst 0, 1) := by decide +kernel
theorem dX12_qPartTold_182 : decode cX12_qPartTold 182 = .ok (.istore_n 1, 1) := by decide +kernel
theorem dX12_qPartTold_183 : decode cX12_qPartTold 183 = .ok (.goto (-181), 3) := by decide +kernel
theorem dX12_qPartTold_186 : decode cX12_qPartTold 186 = .ok (.aload_n 0, 1) := by decide +kernel
theorem dX12_qPartTold_187 : decode cX12_qPartTold 187 = .ok (.getfield 263, 3) := by decide +kernel
theorem dX12_qPartTold_190 : decode cX12_qPartTold 190 = .ok (.ifCond .eq 4, 3) := by decide +kernel
theorem dX12_qPartTold_193 : decode cX12_qPartTold 193 = .ok (.return_, 1) := by decide +kernel
theorem dX12_qPartTold_194 : decode cX12_qPartTold 194 = .ok (.aload_n 0, 1) := by decide +kernel
theorem dX12_qPartTold_195 : decode cX12_qPartTold 195 = .ok (.iconst 0, 1) := by decide +kernel
theorem dX12_qPartTold_196 : decode cX12_qPartTold 196 = .ok (.bipush 10, 2) := by decide +kernel
theorem dX12_qPartTold_198 : decode cX12_qPartTold 198 = .ok (.invokevirtual 609, 3) := by decide +kernel
theorem dX12_qPartTold_201 : decode cX12_qPartTold 201 = .ok (.istore_n 2, 1) := by decide +kernel
theorem dX12_qPartTold_202 : decode cX12_qPartTold 202 = .ok (.iload_n 2, 1) := by decide +kernel
theorem dX12_qPartTold_203 : decode cX12_qPartTold 203 = .ok (.iconst (-1), 1) := by decide +kernel
theorem dX12_qPartTold_204 : decode cX12_qPartTold 204 = .ok (.if_icmp .eq 8, 3) := by decide +kernel
theorem dX12_qPartTold_207 : decode cX12_qPartTold 207 = .ok (.aload_n 0, 1) := by decide +kernel
theorem dX12_qPartTold_208 : decode cX12_qPartTold 208 = .ok (.iload_n 2, 1) := by decide +kernel
theorem dX12_qPartTold_209 : decode cX12_qPartTold 209 = .ok (.invokevirtual 615, 3) := by decide +kernel
theorem dX12_qPartTold_212 : decode cX12_qPartTold 212 = .ok (.aload_n 0, 1) := by decide +kernel
theorem dX12_qPartTold_213 : decode cX12_qPartTold 213 = .ok (.iload_n 2, 1) := by decide +kernel
theorem dX12_qPartTold_214 : decode cX12_qPartTold 214 = .ok (.iconst (-1), 1) := by decide +kernel
theorem dX12_qPartTold_215 : decode cX12_qPartTold 215 = .ok (.if_icmp .eq 10, 3) := by decide +kernel
theorem dX12_qPartTold_218 : decode cX12_qPartTold 218 = .ok (.bipush 40, 2) := by decide +kernel
theorem dX12_qPartTold_220 : decode cX12_qPartTold 220 = .ok (.iload_n 2, 1) := by decide +kernel
theorem dX12_qPartTold_221 : decode cX12_qPartTold 221 = .ok (.iadd, 1) := by decide +kernel
theorem dX12_qPartTold_222 : decode cX12_qPartTold 222 = .ok (.goto 15, 3) := by decide +kernel
theorem dX12_qPartTold_225 : decode cX12_qPartTold 225 = .ok (.sipush 1000, 3) := by decide +kernel
theorem dX12_qPartTold_228 : decode cX12_qPartTold 228 = .ok (.aload_n 0, 1) := by decide +kernel
theorem dX12_qPartTold_229 : decode cX12_qPartTold 229 = .ok (.iconst 0, 1) := by decide +kernel
theorem dX12_qPartTold_230 : decode cX12_qPartTold 230 = .ok (.sipush 9999, 3) := by decide +kernel
theorem dX12_qPartTold_233 : decode cX12_qPartTold 233 = .ok (.invokevirtual 341, 3) := by decide +kernel
theorem dX12_qPartTold_236 : decode cX12_qPartTold 236 = .ok (.iadd, 1) := by decide +kernel
theorem dX12_qPartTold_237 : decode cX12_qPartTold 237 = .ok (.invokevirtual 594, 3) := by decide +kernel
theorem dX12_qPartTold_240 : decode cX12_qPartTold 240 = .ok (.aload_n 0, 1) := by decide +kernel
theorem dX12_qPartTold_241 : decode cX12_qPartTold 241 = .ok (.invokevirtual 618, 3) := by decide +kernel
theorem dX12_qPartTold_244 : decode cX12_qPartTold 244 = .ok (.return_, 1) := by decide +kernel
theorem dX12_leftAll_0 : decode cX12_leftAll 0 = .ok (.iconst 0, 1) := by decide +kernel
theorem dX12_leftAll_1 : decode cX12_leftAll 1 = .ok (.istore_n 1, 1) := by decide +kernel
theorem dX12_leftAll_2 : decode cX12_leftAll 2 = .ok (.iconst 0, 1) := by decide +kernel
theorem dX12_leftAll_3 : decode cX12_leftAll 3 = .ok (.istore_n 2, 1) := by decide +kernel
theorem dX12_leftAll_4 : decode cX12_leftAll 4 = .ok (.iload_n 2, 1) := by decide +kernel
theorem dX12_leftAll_5 : decode cX12_leftAll 5 = .ok (.aload_n 0, 1) := by decide +kernel
theorem dX12_leftAll_6 : decode cX12_leftAll 6 = .ok (.invokevirtual 422, 3) := by decide +kernel
theorem dX12_leftAll_9 : decode cX12_leftAll 9 = .ok (.if_icmp .ge 17, 3) := by decide +kernel
theorem dX12_leftAll_12 : decode cX12_leftAll 12 = .ok (.iload_n 1, 1) := by decide +kernel
theorem dX12_leftAll_13 : decode cX12_leftAll 13 = .ok (.aload_n 0, 1) := by decide +kernel
theorem dX12_leftAll_14 : decode cX12_leftAll 14 = .ok (.iload_n 2, 1) := by decide +kernel
theorem dX12_leftAll_15 : decode cX12_leftAll 15 = .ok (.invokevirtual 458, 3) := by decide +kernel
theorem dX12_leftAll_18 : decode cX12_leftAll 18 = .ok (.iadd, 1) := by decide +kernel
theorem dX12_leftAll_19 : decode cX12_leftAll 19 = .ok (.istore_n 1, 1) := by decide +kernel
theorem dX12_leftAll_20 : decode cX12_leftAll 20 = .ok (.iinc 2 1, 3) := by decide +kernel
theorem dX12_leftAll_23 : decode cX12_leftAll 23 = .ok (.goto (-19), 3) := by decide +kernel
theorem dX12_leftAll_26 : decode cX12_leftAll 26 = .ok (.iload_n 1, 1) := by decide +kernel
theorem dX12_leftAll_27 : decode cX12_leftAll 27 = .ok (.ireturn, 1) := by decide +kernel
theorem dX12_qSums_0 : decode cX12_qSums 0 = .ok (.aload_n 0, 1) := by decide +kernel
theorem dX12_qSums_1 : decode cX12_qSums 1 = .ok (.getfield 361, 3) := by decide +kernel
theorem dX12_qSums_4 : decode cX12_qSums 4 = .ok (.istore_n 1, 1) := by decide +kernel
theorem dX12_qSums_5 : decode cX12_qSums 5 = .ok (.aload_n 0, 1) := by decide +kernel
theorem dX12_qSums_6 : decode cX12_qSums 6 = .ok (.aload_n 0, 1) := by decide +kernel
theorem dX12_qSums_7 : decode cX12_qSums 7 = .ok (.getfield 355, 3) := by decide +kernel
theorem dX12_qSums_10 : decode cX12_qSums 10 = .ok (.putfield 361, 3) := by decide +kernel
theorem dX12_qSums_13 : decode cX12_qSums 13 = .ok (.iconst 1, 1) := by decide +kernel
theorem dX12_qSums_14 : decode cX12_qSums 14 = .ok (.istore_n 2, 1) := by decide +kernel
theorem dX12_qSums_15 : decode cX12_qSums 15 = .ok (.iload_n 2, 1) := by decide +kernel
theorem dX12_qSums_16 : decode cX12_qSums 16 = .ok (.ifCond .eq 37, 3) := by decide +kernel
theorem dX12_qSums_19 : decode cX12_qSums 19 = .ok (.aload_n 0, 1) := by decide +kernel
theorem dX12_qSums_20 : decode cX12_qSums 20 = .ok (.getfield 263, 3) := by decide +kernel
theorem dX12_qSums_23 : decode cX12_qSums 23 = .ok (.ifCond .ne 30, 3) := by decide +kernel
theorem dX12_qSums_26 : decode cX12_qSums 26 = .ok (.aload_n 0, 1) := by decide +kernel
theorem dX12_qSums_27 : decode cX12_qSums 27 = .ok (.invokevirtual 630, 3) := by decide +kernel
theorem dX12_qSums_30 : decode cX12_qSums 30 = .ok (.aload_n 0, 1) := by decide +kernel
theorem dX12_qSums_31 : decode cX12_qSums 31 = .ok (.getfield 263, 3) := by decide +kernel
theorem dX12_qSums_34 : decode cX12_qSums 34 = .ok (.ifCond .ne 14, 3) := by decide +kernel
theorem dX12_qSums_37 : decode cX12_qSums 37 = .ok (.aload_n 0, 1) := by decide +kernel
theorem dX12_qSums_38 : decode cX12_qSums 38 = .ok (.invokevirtual 633, 3) := by decide +kernel
theorem dX12_qSums_41 : decode cX12_qSums 41 = .ok (.ifCond .eq 7, 3) := by decide +kernel
theorem dX12_qSums_44 : decode cX12_qSums 44 = .ok (.iconst 1, 1) := by decide +kernel
theorem dX12_qSums_45 : decode cX12_qSums 45 = .ok (.goto 4, 3) := by decide +kernel
theorem dX12_qSums_48 : decode cX12_qSums 48 = .ok (.iconst 0, 1) := by decide +kernel
theorem dX12_qSums_49 : decode cX12_qSums 49 = .ok (.istore_n 2, 1) := by decide +kernel
theorem dX12_qSums_50 : decode cX12_qSums 50 = .ok (.goto (-35), 3) := by decide +kernel
theorem dX12_qSums_53 : decode cX12_qSums 53 = .ok (.aload_n 0, 1) := by decide +kernel
theorem dX12_qSums_54 : decode cX12_qSums 54 = .ok (.getfield 263, 3) := by decide +kernel
theorem dX12_qSums_57 : decode cX12_qSums 57 = .ok (.ifCond .ne 21, 3) := by decide +kernel
theorem dX12_qSums_60 : decode cX12_qSums 60 = .ok (.aload_n 0, 1) := by decide +kernel
theorem dX12_qSums_61 : decode cX12_qSums 61 = .ok (.getfield 355, 3) := by decide +kernel
theorem dX12_qSums_64 : decode cX12_qSums 64 = .ok (.aload_n 0, 1) := by decide +kernel
theorem dX12_qSums_65 : decode cX12_qSums 65 = .ok (.getfield 361, 3) := by decide +kernel
theorem dX12_qSums_68 : decode cX12_qSums 68 = .ok (.if_icmp .le 10, 3) := by decide +kernel
theorem dX12_qSums_71 : decode cX12_qSums 71 = .ok (.aload_n 0, 1) := by decide +kernel
theorem dX12_qSums_72 : decode cX12_qSums 72 = .ok (.invokevirtual 600, 3) := by decide +kernel
theorem dX12_qSums_75 : decode cX12_qSums 75 = .ok (.goto (-22), 3) := by decide +kernel
theorem dX12_qSums_78 : decode cX12_qSums 78 = .ok (.aload_n 0, 1) := by decide +kernel
theorem dX12_qSums_79 : decode cX12_qSums 79 = .ok (.iload_n 1, 1) := by decide +kernel
theorem dX12_qSums_80 : decode cX12_qSums 80 = .ok (.putfield 361, 3) := by decide +kernel
theorem dX12_qSums_83 : decode cX12_qSums 83 = .ok (.return_, 1) := by decide +kernel
theorem dX12_wishesOf_0 : decode cX12_wishesOf 0 = .ok (.iconst 0, 1) := by decide +kernel
theorem dX12_wishesOf_1 : decode cX12_wishesOf 1 = .ok (.istore_n 2, 1) := by decide +kernel
theorem dX12_wishesOf_2 : decode cX12_wishesOf 2 = .ok (.iconst 0, 1) := by decide +kernel
theorem dX12_wishesOf_3 : decode cX12_wishesOf 3 = .ok (.istore_n 3, 1) := by decide +kernel
theorem dX12_wishesOf_4 : decode cX12_wishesOf 4 = .ok (.iload_n 3, 1) := by decide +kernel
theorem dX12_wishesOf_5 : decode cX12_wishesOf 5 = .ok (.aload_n 0, 1) := by decide +kernel
theorem dX12_wishesOf_6 : decode cX12_wishesOf 6 = .ok (.invokevirtual 410, 3) := by decide +kernel
theorem dX12_wishesOf_9 : decode cX12_wishesOf 9 = .ok (.if_icmp .ge 18, 3) := by decide +kernel
theorem dX12_wishesOf_12 : decode cX12_wishesOf 12 = .ok (.iload_n 2, 1) := by decide +kernel
theorem dX12_wishesOf_13 : decode cX12_wishesOf 13 = .ok (.aload_n 0, 1) := by decide +kernel
theorem dX12_wishesOf_14 : decode cX12_wishesOf 14 = .ok (.iload_n 1, 1) := by decide +kernel
theorem dX12_wishesOf_15 : decode cX12_wishesOf 15 = .ok (.iload_n 3, 1) := by decide +kernel
theorem dX12_wishesOf_16 : decode cX12_wishesOf 16 = .ok (.invokevirtual 425, 3) := by decide +kernel
theorem dX12_wishesOf_19 : decode cX12_wishesOf 19 = .ok (.iadd, 1) := by decide +kernel
theorem dX12_wishesOf_20 : decode cX12_wishesOf 20 = .ok (.istore_n 2, 1) := by decide +kernel
theorem dX12_wishesOf_21 : decode cX12_wishesOf 21 = .ok (.iinc 3 1, 3) := by decide +kernel
theorem dX12_wishesOf_24 : decode cX12_wishesOf 24 = .ok (.goto (-20), 3) := by decide +kernel
theorem dX12_wishesOf_27 : decode cX12_wishesOf 27 = .ok (.iload_n 2, 1) := by decide +kernel
theorem dX12_wishesOf_28 : decode cX12_wishesOf 28 = .ok (.ireturn, 1) := by decide +kernel
theorem dX12_qAsksWord_0 : decode cX12_qAsksWord 0 = .ok (.iload_n 1, 1) := by decide +kernel
theorem dX12_qAsksWord_1 : decode cX12_qAsksWord 1 = .ok (.tableswitch 165 0 9 #[55, 66, 77, 88, 99, 110, 121, 132, 143, 154], 55) := by decide +kernel
theorem dX12_qAsksWord_56 : decode cX12_qAsksWord 56 = .ok (.aload_n 0, 1) := by decide +kernel
theorem dX12_qAsksWord_57 : decode cX12_qAsksWord 57 = .ok (.aload_n 0, 1) := by decide +kernel
theorem dX12_qAsksWord_58 : decode cX12_qAsksWord 58 = .ok (.getfield 215, 3) := by decide +kernel
theorem dX12_qAsksWord_61 : decode cX12_qAsksWord 61 = .ok (.invokevirtual 337, 3) := by decide +kernel
theorem dX12_qAsksWord_64 : decode cX12_qAsksWord 64 = .ok (.goto 110, 3) := by decide +kernel
theorem dX12_qAsksWord_67 : decode cX12_qAsksWord 67 = .ok (.aload_n 0, 1) := by decide +kernel
theorem dX12_qAsksWord_68 : decode cX12_qAsksWord 68 = .ok (.aload_n 0, 1) := by decide +kernel
theorem dX12_qAsksWord_69 : decode cX12_qAsksWord 69 = .ok (.getfield 218, 3) := by decide +kernel
theorem dX12_qAsksWord_72 : decode cX12_qAsksWord 72 = .ok (.invokevirtual 337, 3) := by decide +kernel
theorem dX12_qAsksWord_75 : decode cX12_qAsksWord 75 = .ok (.goto 99, 3) := by decide +kernel
theorem dX12_qAsksWord_78 : decode cX12_qAsksWord 78 = .ok (.aload_n 0, 1) := by decide +kernel
theorem dX12_qAsksWord_79 : decode cX12_qAsksWord 79 = .ok (.aload_n 0, 1) := by decide +kernel
theorem dX12_qAsksWord_80 : decode cX12_qAsksWord 80 = .ok (.getfield 221, 3) := by decide +kernel
theorem dX12_qAsksWord_83 : decode cX12_qAsksWord 83 = .ok (.invokevirtual 337, 3) := by decide +kernel
theorem dX12_qAsksWord_86 : decode cX12_qAsksWord 86 = .ok (.goto 88, 3) := by decide +kernel
theorem dX12_qAsksWord_89 : decode cX12_qAsksWord 89 = .ok (.aload_n 0, 1) := by decide +kernel
theorem dX12_qAsksWord_90 : decode cX12_qAsksWord 90 = .ok (.aload_n 0, 1) := by decide +kernel
theorem dX12_qAsksWord_91 : decode cX12_qAsksWord 91 = .ok (.getfield 224, 3) := by decide +kernel
theorem dX12_qAsksWord_94 : decode cX12_qAsksWord 94 = .ok (.invokevirtual 337, 3) := by decide +kernel
theorem dX12_qAsksWord_97 : decode cX12_qAsksWord 97 = .ok (.goto 77, 3) := by decide +kernel
theorem dX12_qAsksWord_100 : decode cX12_qAsksWord 100 = .ok (.aload_n 0, 1) := by decide +kernel
theorem dX12_qAsksWord_101 : decode cX12_qAsksWord 101 = .ok (.aload_n 0, 1) := by decide +kernel
theorem dX12_qAsksWord_102 : decode cX12_qAsksWord 102 = .ok (.getfield 227, 3) := by decide +kernel
theorem dX12_qAsksWord_105 : decode cX12_qAsksWord 105 = .ok (.invokevirtual 337, 3) := by decide +kernel
theorem dX12_qAsksWord_108 : decode cX12_qAsksWord 108 = .ok (.goto 66, 3) := by decide +kernel
theorem dX12_qAsksWord_111 : decode cX12_qAsksWord 111 = .ok (.aload_n 0, 1) := by decide +kernel
theorem dX12_qAsksWord_112 : decode cX12_qAsksWord 112 = .ok (.aload_n 0, 1) := by decide +kernel
theorem dX12_qAsksWord_113 : decode cX12_qAsksWord 113 = .ok (.getfield 230, 3) := by decide +kernel
theorem dX12_qAsksWord_116 : decode cX12_qAsksWord 116 = .ok (.invokevirtual 337, 3) := by decide +kernel
theorem dX12_qAsksWord_119 : decode cX12_qAsksWord 119 = .ok (.goto 55, 3) := by decide +kernel
theorem dX12_qAsksWord_122 : decode cX12_qAsksWord 122 = .ok (.aload_n 0, 1) := by decide +kernel
theorem dX12_qAsksWord_123 : decode cX12_qAsksWord 123 = .ok (.aload_n 0, 1) := by decide +kernel
theorem dX12_qAsksWord_124 : decode cX12_qAsksWord 124 = .ok (.getfield 233, 3) := by decide +kernel
theorem dX12_qAsksWord_127 : decode cX12_qAsksWord 127 = .ok (.invokevirtual 337, 3) := by decide +kernel
theorem dX12_qAsksWord_130 : decode cX12_qAsksWord 130 = .ok (.goto 44, 3) := by decide +kernel
theorem dX12_qAsksWord_133 : decode cX12_qAsksWord 133 = .ok (.aload_n 0, 1) := by decide +kernel
theorem dX12_qAsksWord_134 : decode cX12_qAsksWord 134 = .ok (.aload_n 0, 1) := by decide +kernel
theorem dX12_qAsksWord_135 : decode cX12_qAsksWord 135 = .ok (.getfield 236, 3) := by decide +kernel
theorem dX12_qAsksWord_138 : decode cX12_qAsksWord 138 = .ok (.invokevirtual 337, 3) := by decide +kernel
theorem dX12_qAsksWord_141 : decode cX12_qAsksWord 141 = .ok (.goto 33, 3) := by decide +kernel
theorem dX12_qAsksWord_144 : decode cX12_qAsksWord 144 = .ok (.aload_n 0, 1) := by decide +kernel
theorem dX12_qAsksWord_145 : decode cX12_qAsksWord 145 = .ok (.aload_n 0, 1) := by decide +kernel
theorem dX12_qAsksWord_146 : decode cX12_qAsksWord 146 = .ok (.getfield 239, 3) := by decide +kernel
theorem dX12_qAsksWord_149 : decode cX12_qAsksWord 149 = .ok (.invokevirtual 337, 3) := by decide +kernel
theorem dX12_qAsksWord_152 : decode cX12_qAsksWord 152 = .ok (.goto 22, 3) := by decide +kernel
theorem dX12_qAsksWord_155 : decode cX12_qAsksWord 155 = .ok (.aload_n 0, 1) := by decide +kernel
theorem dX12_qAsksWord_156 : decode cX12_qAsksWord 156 = .ok (.aload_n 0, 1) := by decide +kernel
theorem dX12_qAsksWord_157 : decode cX12_qAsksWord 157 = .ok (.getfield 242, 3) := by decide +kernel
theorem dX12_qAsksWord_160 : decode cX12_qAsksWord 160 = .ok (.invokevirtual 337, 3) := by decide +kernel
theorem dX12_qAsksWord_163 : decode cX12_qAsksWord 163 = .ok (.goto 11, 3) := by decide +kernel
theorem dX12_qAsksWord_166 : decode cX12_qAsksWord 166 = .ok (.aload_n 0, 1) := by decide +kernel
theorem dX12_qAsksWord_167 : decode cX12_qAsksWord 167 = .ok (.aload_n 0, 1) := by decide +kernel
theorem dX12_qAsksWord_168 : decode cX12_qAsksWord 168 = .ok (.getfield 245, 3) := by decide +kernel
theorem dX12_qAsksWord_171 : decode cX12_qAsksWord 171 = .ok (.invokevirtual 337, 3) := by decide +kernel
theorem dX12_qAsksWord_174 : decode cX12_qAsksWord 174 = .ok (.return_, 1) := by decide +kernel
theorem dX12_lostBy_0 : decode cX12_lostBy 0 = .ok (.iconst 0, 1) := by decide +kernel
theorem dX12_lostBy_1 : decode cX12_lostBy 1 = .ok (.istore_n 2, 1) := by decide +kernel
theorem dX12_lostBy_2 : decode cX12_lostBy 2 = .ok (.iconst 0, 1) := by decide +kernel
theorem dX12_lostBy_3 : decode cX12_lostBy 3 = .ok (.istore_n 3, 1) := by decide +kernel
theorem dX12_lostBy_4 : decode cX12_lostBy 4 = .ok (.iload_n 3, 1) := by decide +kernel
theorem dX12_lostBy_5 : decode cX12_lostBy 5 = .ok (.aload_n 0, 1) := by decide +kernel
theorem dX12_lostBy_6 : decode cX12_lostBy 6 = .ok (.invokevirtual 419, 3) := by decide +kernel
theorem dX12_lostBy_9 : decode cX12_lostBy 9 = .ok (.if_icmp .ge 48, 3) := by decide +kernel
theorem dX12_lostBy_12 : decode cX12_lostBy 12 = .ok (.aload_n 0, 1) := by decide +kernel
theorem dX12_lostBy_13 : decode cX12_lostBy 13 = .ok (.getfield 112, 3) := by decide +kernel
theorem dX12_lostBy_16 : decode cX12_lostBy 16 = .ok (.bipush 26, 2) := by decide +kernel
theorem dX12_lostBy_18 : decode cX12_lostBy 18 = .ok (.iconst 3, 1) := by decide +kernel
theorem dX12_lostBy_19 : decode cX12_lostBy 19 = .ok (.iload_n 3, 1) := by decide +kernel
theorem dX12_lostBy_20 : decode cX12_lostBy 20 = .ok (.imul, 1) := by decide +kernel
theorem dX12_lostBy_21 : decode cX12_lostBy 21 = .ok (.iadd, 1) := by decide +kernel
theorem dX12_lostBy_22 : decode cX12_lostBy 22 = .ok (.iaload, 1) := by decide +kernel
theorem dX12_lostBy_23 : decode cX12_lostBy 23 = .ok (.istore 4, 2) := by decide +kernel
theorem dX12_lostBy_25 : decode cX12_lostBy 25 = .ok (.iload_n 2, 1) := by decide +kernel
theorem dX12_lostBy_26 : decode cX12_lostBy 26 = .ok (.iload 4, 2) := by decide +kernel
theorem dX12_lostBy_28 : decode cX12_lostBy 28 = .ok (.iload_n 1, 1) := by decide +kernel
theorem dX12_lostBy_29 : decode cX12_lostBy 29 = .ok (.if_icmp .lt 11, 3) := by decide +kernel
theorem dX12_lostBy_32 : decode cX12_lostBy 32 = .ok (.bipush 10, 2) := by decide +kernel
theorem dX12_lostBy_34 : decode cX12_lostBy 34 = .ok (.iload 4, 2) := by decide +kernel
theorem dX12_lostBy_36 : decode cX12_lostBy 36 = .ok (.isub, 1) := by decide +kernel
theorem dX12_lostBy_37 : decode cX12_lostBy 37 = .ok (.goto 12, 3) := by decide +kernel
theorem dX12_lostBy_40 : decode cX12_lostBy 40 = .ok (.aload_n 0, 1) := by decide +kernel
theorem dX12_lostBy_41 : decode cX12_lostBy 41 = .ok (.getfield 130, 3) := by decide +kernel
theorem dX12_lostBy_44 : decode cX12_lostBy 44 = .ok (.iconst 2, 1) := by decide +kernel
theorem dX12_lostBy_45 : decode cX12_lostBy 45 = .ok (.iaload, 1) := by decide +kernel
theorem dX12_lostBy_46 : decode cX12_lostBy 46 = .ok (.iload 4, 2) := by decide +kernel
theorem dX12_lostBy_48 : decode cX12_lostBy 48 = .ok (.imul, 1) := by decide +kernel
theorem dX12_lostBy_49 : decode cX12_lostBy 49 = .ok (.iadd, 1) := by decide +kernel
theorem dX12_lostBy_50 : decode cX12_lostBy 50 = .ok (.istore_n 2, 1) := by decide +kernel
theorem dX12_lostBy_51 : decode cX12_lostBy 51 = .ok (.iinc 3 1, 3) := by decide +kernel
theorem dX12_lostBy_54 : decode cX12_lostBy 54 = .ok (.goto (-50), 3) := by decide +kernel
theorem dX12_lostBy_57 : decode cX12_lostBy 57 = .ok (.iload_n 2, 1) := by decide +kernel
theorem dX12_lostBy_58 : decode cX12_lostBy 58 = .ok (.ireturn, 1) := by decide +kernel
theorem dX12_qClip_0 : decode cX12_qClip 0 = .ok (.lload_n 0, 1) := by decide +kernel
theorem dX12_qClip_1 : decode cX12_qClip 1 = .ok (.ldc2_w 648, 3) := by decide +kernel
theorem dX12_qClip_4 : decode cX12_qClip 4 = .ok (.lcmp, 1) := by decide +kernel
theorem dX12_qClip_5 : decode cX12_qClip 5 = .ok (.ifCond .le 9, 3) := by decide +kernel
theorem dX12_qClip_8 : decode cX12_qClip 8 = .ok (.ldc2_w 648, 3) := by decide +kernel
theorem dX12_qClip_11 : decode cX12_qClip 11 = .ok (.goto 18, 3) := by decide +kernel
theorem dX12_qClip_14 : decode cX12_qClip 14 = .ok (.lload_n 0, 1) := by decide +kernel
theorem dX12_qClip_15 : decode cX12_qClip 15 = .ok (.ldc2_w 650, 3) := by decide +kernel
theorem dX12_qClip_18 : decode cX12_qClip 18 = .ok (.lcmp, 1) := by decide +kernel
theorem dX12_qClip_19 : decode cX12_qClip 19 = .ok (.ifCond .ge 9, 3) := by decide +kernel
theorem dX12_qClip_22 : decode cX12_qClip 22 = .ok (.ldc2_w 650, 3) := by decide +kernel
theorem dX12_qClip_25 : decode cX12_qClip 25 = .ok (.goto 4, 3) := by decide +kernel
theorem dX12_qClip_28 : decode cX12_qClip 28 = .ok (.lload_n 0, 1) := by decide +kernel
theorem dX12_qClip_29 : decode cX12_qClip 29 = .ok (.lreturn, 1) := by decide +kernel
theorem dX12_isNextGroups_0 : decode cX12_isNextGroups 0 = .ok (.aload_n 0, 1) := by decide +kernel
theorem dX12_isNextGroups_1 : decode cX12_isNextGroups 1 = .ok (.invokevirtual 419, 3) := by decide +kernel
theorem dX12_isNextGroups_4 : decode cX12_isNextGroups 4 = .ok (.iconst 1, 1) := by decide +kernel
theorem dX12_isNextGroups_5 : decode cX12_isNextGroups 5 = .ok (.isub, 1) := by decide +kernel
theorem dX12_isNextGroups_6 : decode cX12_isNextGroups 6 = .ok (.istore_n 1, 1) := by decide +kernel
theorem dX12_isNextGroups_7 : decode cX12_isNextGroups 7 = .ok (.iload_n 1, 1) := by decide +kernel
theorem dX12_isNextGroups_8 : decode cX12_isNextGroups 8 = .ok (.ifCond .le 88, 3) := by decide +kernel
theorem dX12_isNextGroups_11 : decode cX12_isNextGroups 11 = .ok (.iconst 0, 1) := by decide +kernel
theorem dX12_isNextGroups_12 : decode cX12_isNextGroups 12 = .ok (.istore_n 2, 1) := by decide +kernel
theorem dX12_isNextGroups_13 : decode cX12_isNextGroups 13 = .ok (.iconst 0, 1) := by decide +kernel
theorem dX12_isNextGroups_14 : decode cX12_isNextGroups 14 = .ok (.istore_n 3, 1) := by decide +kernel
theorem dX12_isNextGroups_15 : decode cX12_isNextGroups 15 = .ok (.iload_n 3, 1) := by decide +kernel
theorem dX12_isNextGroups_16 : decode cX12_isNextGroups 16 = .ok (.iload_n 1, 1) := by decide +kernel
theorem dX12_isNextGroups_17 : decode cX12_isNextGroups 17 = .ok (.if_icmp .ge 26, 3) := by decide +kernel
theorem dX12_isNextGroups_20 : decode cX12_isNextGroups 20 = .ok (.aload_n 0, 1) := by decide +kernel
theorem dX12_isNextGroups_21 : decode cX12_isNextGroups 21 = .ok (.getfield 148, 3) := by decide +kernel
theorem dX12_isNextGroups_24 : decode cX12_isNextGroups 24 = .ok (.iload_n 3, 1) := by decide +kernel
theorem dX12_isNextGroups_25 : decode cX12_isNextGroups 25 = .ok (.iaload, 1) := by decide +kernel
theorem dX12_isNextGroups_26 : decode cX12_isNextGroups 26 = .ok (.iload_n 2, 1) := by decide +kernel
theorem dX12_isNextGroups_27 : decode cX12_isNextGroups 27 = .ok (.if_icmp .le 10, 3) := by decide +kernel
theorem dX12_isNextGroups_30 : decode cX12_isNextGroups 30 = .ok (.aload_n 0, 1) := by decide +kernel
theorem dX12_isNextGroups_31 : decode cX12_isNextGroups 31 = .ok (.getfield 148, 3) := by decide +kernel
theorem dX12_isNextGroups_34 : decode cX12_isNextGroups 34 = .ok (.iload_n 3, 1) := by decide +kernel
theorem dX12_isNextGroups_35 : decode cX12_isNextGroups 35 = .ok (.iaload, 1) := by decide +kernel
theorem dX12_isNextGroups_36 : decode cX12_isNextGroups 36 = .ok (.istore_n 2, 1) := by decide +kernel
theorem dX12_isNextGroups_37 : decode cX12_isNextGroups 37 = .ok (.iinc 3 1, 3) := by decide +kernel
theorem dX12_isNextGroups_40 : decode cX12_isNextGroups 40 = .ok (.goto (-25), 3) := by decide +kernel
theorem dX12_isNextGroups_43 : decode cX12_isNextGroups 43 = .ok (.aload_n 0, 1) := by decide +kernel
theorem dX12_isNextGroups_44 : decode cX12_isNextGroups 44 = .ok (.getfield 148, 3) := by decide +kernel
