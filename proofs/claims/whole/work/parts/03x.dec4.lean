theorem dX12_nearTold_59 : decode cX12_nearTold 59 = .ok (.aload_n 0, 1) := by decide +kernel
theorem dX12_nearTold_60 : decode cX12_nearTold 60 = .ok (.getfield 263, 3) := by decide +kernel
theorem dX12_nearTold_63 : decode cX12_nearTold 63 = .ok (.ifCond .eq 4, 3) := by decide +kernel
theorem dX12_nearTold_66 : decode cX12_nearTold 66 = .ok (.return_, 1) := by decide +kernel
theorem dX12_nearTold_67 : decode cX12_nearTold 67 = .ok (.aload_n 0, 1) := by decide +kernel
theorem dX12_nearTold_68 : decode cX12_nearTold 68 = .ok (.getfield 121, 3) := by decide +kernel
theorem dX12_nearTold_71 : decode cX12_nearTold 71 = .ok (.iload_n 2, 1) := by decide +kernel
theorem dX12_nearTold_72 : decode cX12_nearTold 72 = .ok (.dup2, 1) := by decide +kernel
theorem dX12_nearTold_73 : decode cX12_nearTold 73 = .ok (.iaload, 1) := by decide +kernel
theorem dX12_nearTold_74 : decode cX12_nearTold 74 = .ok (.iconst 1, 1) := by decide +kernel
theorem dX12_nearTold_75 : decode cX12_nearTold 75 = .ok (.iload_n 3, 1) := by decide +kernel
theorem dX12_nearTold_76 : decode cX12_nearTold 76 = .ok (.ishl, 1) := by decide +kernel
theorem dX12_nearTold_77 : decode cX12_nearTold 77 = .ok (.ior, 1) := by decide +kernel
theorem dX12_nearTold_78 : decode cX12_nearTold 78 = .ok (.iastore, 1) := by decide +kernel
theorem dX12_nearTold_79 : decode cX12_nearTold 79 = .ok (.aload_n 0, 1) := by decide +kernel
theorem dX12_nearTold_80 : decode cX12_nearTold 80 = .ok (.getfield 121, 3) := by decide +kernel
theorem dX12_nearTold_83 : decode cX12_nearTold 83 = .ok (.iload_n 3, 1) := by decide +kernel
theorem dX12_nearTold_84 : decode cX12_nearTold 84 = .ok (.dup2, 1) := by decide +kernel
theorem dX12_nearTold_85 : decode cX12_nearTold 85 = .ok (.iaload, 1) := by decide +kernel
theorem dX12_nearTold_86 : decode cX12_nearTold 86 = .ok (.iconst 1, 1) := by decide +kernel
theorem dX12_nearTold_87 : decode cX12_nearTold 87 = .ok (.iload_n 2, 1) := by decide +kernel
theorem dX12_nearTold_88 : decode cX12_nearTold 88 = .ok (.ishl, 1) := by decide +kernel
theorem dX12_nearTold_89 : decode cX12_nearTold 89 = .ok (.ior, 1) := by decide +kernel
theorem dX12_nearTold_90 : decode cX12_nearTold 90 = .ok (.iastore, 1) := by decide +kernel
theorem dX12_nearTold_91 : decode cX12_nearTold 91 = .ok (.aload_n 0, 1) := by decide +kernel
theorem dX12_nearTold_92 : decode cX12_nearTold 92 = .ok (.getfield 105, 3) := by decide +kernel
theorem dX12_nearTold_95 : decode cX12_nearTold 95 = .ok (.iconst 3, 1) := by decide +kernel
theorem dX12_nearTold_96 : decode cX12_nearTold 96 = .ok (.dup2, 1) := by decide +kernel
theorem dX12_nearTold_97 : decode cX12_nearTold 97 = .ok (.iaload, 1) := by decide +kernel
theorem dX12_nearTold_98 : decode cX12_nearTold 98 = .ok (.iconst 1, 1) := by decide +kernel
theorem dX12_nearTold_99 : decode cX12_nearTold 99 = .ok (.iadd, 1) := by decide +kernel
theorem dX12_nearTold_100 : decode cX12_nearTold 100 = .ok (.iastore, 1) := by decide +kernel
theorem dX12_nearTold_101 : decode cX12_nearTold 101 = .ok (.return_, 1) := by decide +kernel
theorem dX12_qBracket_0 : decode cX12_qBracket 0 = .ok (.aload_n 0, 1) := by decide +kernel
theorem dX12_qBracket_1 : decode cX12_qBracket 1 = .ok (.getfield 355, 3) := by decide +kernel
theorem dX12_qBracket_4 : decode cX12_qBracket 4 = .ok (.iconst 1, 1) := by decide +kernel
theorem dX12_qBracket_5 : decode cX12_qBracket 5 = .ok (.isub, 1) := by decide +kernel
theorem dX12_qBracket_6 : decode cX12_qBracket 6 = .ok (.istore_n 1, 1) := by decide +kernel
theorem dX12_qBracket_7 : decode cX12_qBracket 7 = .ok (.iload_n 1, 1) := by decide +kernel
theorem dX12_qBracket_8 : decode cX12_qBracket 8 = .ok (.aload_n 0, 1) := by decide +kernel
theorem dX12_qBracket_9 : decode cX12_qBracket 9 = .ok (.getfield 361, 3) := by decide +kernel
theorem dX12_qBracket_12 : decode cX12_qBracket 12 = .ok (.if_icmp .lt 21, 3) := by decide +kernel
theorem dX12_qBracket_15 : decode cX12_qBracket 15 = .ok (.aload_n 0, 1) := by decide +kernel
theorem dX12_qBracket_16 : decode cX12_qBracket 16 = .ok (.getfield 251, 3) := by decide +kernel
theorem dX12_qBracket_19 : decode cX12_qBracket 19 = .ok (.iload_n 1, 1) := by decide +kernel
theorem dX12_qBracket_20 : decode cX12_qBracket 20 = .ok (.iaload, 1) := by decide +kernel
theorem dX12_qBracket_21 : decode cX12_qBracket 21 = .ok (.invokestatic 597, 3) := by decide +kernel
theorem dX12_qBracket_24 : decode cX12_qBracket 24 = .ok (.ifCond .ne 9, 3) := by decide +kernel
theorem dX12_qBracket_27 : decode cX12_qBracket 27 = .ok (.iinc 1 (-1), 3) := by decide +kernel
theorem dX12_qBracket_30 : decode cX12_qBracket 30 = .ok (.goto (-23), 3) := by decide +kernel
theorem dX12_qBracket_33 : decode cX12_qBracket 33 = .ok (.iload_n 1, 1) := by decide +kernel
theorem dX12_qBracket_34 : decode cX12_qBracket 34 = .ok (.aload_n 0, 1) := by decide +kernel
theorem dX12_qBracket_35 : decode cX12_qBracket 35 = .ok (.getfield 361, 3) := by decide +kernel
theorem dX12_qBracket_38 : decode cX12_qBracket 38 = .ok (.if_icmp .lt 12, 3) := by decide +kernel
theorem dX12_qBracket_41 : decode cX12_qBracket 41 = .ok (.aload_n 0, 1) := by decide +kernel
theorem dX12_qBracket_42 : decode cX12_qBracket 42 = .ok (.getfield 251, 3) := by decide +kernel
theorem dX12_qBracket_45 : decode cX12_qBracket 45 = .ok (.iload_n 1, 1) := by decide +kernel
theorem dX12_qBracket_46 : decode cX12_qBracket 46 = .ok (.iaload, 1) := by decide +kernel
theorem dX12_qBracket_47 : decode cX12_qBracket 47 = .ok (.goto 4, 3) := by decide +kernel
theorem dX12_qBracket_50 : decode cX12_qBracket 50 = .ok (.iconst (-1), 1) := by decide +kernel
theorem dX12_qBracket_51 : decode cX12_qBracket 51 = .ok (.ireturn, 1) := by decide +kernel
theorem dX12_refuses_0 : decode cX12_refuses 0 = .ok (.aload_n 0, 1) := by decide +kernel
theorem dX12_refuses_1 : decode cX12_refuses 1 = .ok (.getfield 17, 3) := by decide +kernel
theorem dX12_refuses_4 : decode cX12_refuses 4 = .ok (.iload_n 1, 1) := by decide +kernel
theorem dX12_refuses_5 : decode cX12_refuses 5 = .ok (.dup2, 1) := by decide +kernel
theorem dX12_refuses_6 : decode cX12_refuses 6 = .ok (.iaload, 1) := by decide +kernel
theorem dX12_refuses_7 : decode cX12_refuses 7 = .ok (.iconst 1, 1) := by decide +kernel
theorem dX12_refuses_8 : decode cX12_refuses 8 = .ok (.iadd, 1) := by decide +kernel
theorem dX12_refuses_9 : decode cX12_refuses 9 = .ok (.iastore, 1) := by decide +kernel
theorem dX12_refuses_10 : decode cX12_refuses 10 = .ok (.iconst (-1), 1) := by decide +kernel
theorem dX12_refuses_11 : decode cX12_refuses 11 = .ok (.ireturn, 1) := by decide +kernel
theorem dX12_end_0 : decode cX12_end 0 = .ok (.iload_n 1, 1) := by decide +kernel
theorem dX12_end_1 : decode cX12_end 1 = .ok (.ifCond .lt 11, 3) := by decide +kernel
theorem dX12_end_4 : decode cX12_end 4 = .ok (.iload_n 1, 1) := by decide +kernel
theorem dX12_end_5 : decode cX12_end 5 = .ok (.aload_n 0, 1) := by decide +kernel
theorem dX12_end_6 : decode cX12_end 6 = .ok (.getfield 260, 3) := by decide +kernel
theorem dX12_end_9 : decode cX12_end 9 = .ok (.if_icmp .le 15, 3) := by decide +kernel
theorem dX12_end_12 : decode cX12_end 12 = .ok (.aload_n 0, 1) := by decide +kernel
theorem dX12_end_13 : decode cX12_end 13 = .ok (.getfield 17, 3) := by decide +kernel
theorem dX12_end_16 : decode cX12_end 16 = .ok (.iconst 0, 1) := by decide +kernel
theorem dX12_end_17 : decode cX12_end 17 = .ok (.dup2, 1) := by decide +kernel
theorem dX12_end_18 : decode cX12_end 18 = .ok (.iaload, 1) := by decide +kernel
theorem dX12_end_19 : decode cX12_end 19 = .ok (.iconst 1, 1) := by decide +kernel
theorem dX12_end_20 : decode cX12_end 20 = .ok (.iadd, 1) := by decide +kernel
theorem dX12_end_21 : decode cX12_end 21 = .ok (.iastore, 1) := by decide +kernel
theorem dX12_end_22 : decode cX12_end 22 = .ok (.iconst 0, 1) := by decide +kernel
theorem dX12_end_23 : decode cX12_end 23 = .ok (.ireturn, 1) := by decide +kernel
theorem dX12_end_24 : decode cX12_end 24 = .ok (.aload_n 0, 1) := by decide +kernel
theorem dX12_end_25 : decode cX12_end 25 = .ok (.iload_n 1, 1) := by decide +kernel
theorem dX12_end_26 : decode cX12_end 26 = .ok (.putfield 260, 3) := by decide +kernel
theorem dX12_end_29 : decode cX12_end 29 = .ok (.iconst 1, 1) := by decide +kernel
theorem dX12_end_30 : decode cX12_end 30 = .ok (.ireturn, 1) := by decide +kernel
theorem dX12_undo_0 : decode cX12_undo 0 = .ok (.aload_n 0, 1) := by decide +kernel
theorem dX12_undo_1 : decode cX12_undo 1 = .ok (.getfield 413, 3) := by decide +kernel
theorem dX12_undo_4 : decode cX12_undo 4 = .ok (.ifCond .ne 15, 3) := by decide +kernel
theorem dX12_undo_7 : decode cX12_undo 7 = .ok (.aload_n 0, 1) := by decide +kernel
theorem dX12_undo_8 : decode cX12_undo 8 = .ok (.getfield 17, 3) := by decide +kernel
theorem dX12_undo_11 : decode cX12_undo 11 = .ok (.iconst 4, 1) := by decide +kernel
theorem dX12_undo_12 : decode cX12_undo 12 = .ok (.dup2, 1) := by decide +kernel
theorem dX12_undo_13 : decode cX12_undo 13 = .ok (.iaload, 1) := by decide +kernel
theorem dX12_undo_14 : decode cX12_undo 14 = .ok (.iconst 1, 1) := by decide +kernel
theorem dX12_undo_15 : decode cX12_undo 15 = .ok (.iadd, 1) := by decide +kernel
theorem dX12_undo_16 : decode cX12_undo 16 = .ok (.iastore, 1) := by decide +kernel
theorem dX12_undo_17 : decode cX12_undo 17 = .ok (.iconst 0, 1) := by decide +kernel
theorem dX12_undo_18 : decode cX12_undo 18 = .ok (.ireturn, 1) := by decide +kernel
theorem dX12_undo_19 : decode cX12_undo 19 = .ok (.iconst 0, 1) := by decide +kernel
theorem dX12_undo_20 : decode cX12_undo 20 = .ok (.istore_n 1, 1) := by decide +kernel
theorem dX12_undo_21 : decode cX12_undo 21 = .ok (.iload_n 1, 1) := by decide +kernel
theorem dX12_undo_22 : decode cX12_undo 22 = .ok (.bipush 32, 2) := by decide +kernel
theorem dX12_undo_24 : decode cX12_undo 24 = .ok (.if_icmp .ge 29, 3) := by decide +kernel
theorem dX12_undo_27 : decode cX12_undo 27 = .ok (.aload_n 0, 1) := by decide +kernel
theorem dX12_undo_28 : decode cX12_undo 28 = .ok (.getfield 142, 3) := by decide +kernel
theorem dX12_undo_31 : decode cX12_undo 31 = .ok (.iload_n 1, 1) := by decide +kernel
theorem dX12_undo_32 : decode cX12_undo 32 = .ok (.aload_n 0, 1) := by decide +kernel
theorem dX12_undo_33 : decode cX12_undo 33 = .ok (.getfield 172, 3) := by decide +kernel
theorem dX12_undo_36 : decode cX12_undo 36 = .ok (.bipush 32, 2) := by decide +kernel
theorem dX12_undo_38 : decode cX12_undo 38 = .ok (.aload_n 0, 1) := by decide +kernel
theorem dX12_undo_39 : decode cX12_undo 39 = .ok (.getfield 572, 3) := by decide +kernel
theorem dX12_undo_42 : decode cX12_undo 42 = .ok (.imul, 1) := by decide +kernel
theorem dX12_undo_43 : decode cX12_undo 43 = .ok (.iload_n 1, 1) := by decide +kernel
theorem dX12_undo_44 : decode cX12_undo 44 = .ok (.iadd, 1) := by decide +kernel
theorem dX12_undo_45 : decode cX12_undo 45 = .ok (.iaload, 1) := by decide +kernel
theorem dX12_undo_46 : decode cX12_undo 46 = .ok (.iastore, 1) := by decide +kernel
theorem dX12_undo_47 : decode cX12_undo 47 = .ok (.iinc 1 1, 3) := by decide +kernel
theorem dX12_undo_50 : decode cX12_undo 50 = .ok (.goto (-29), 3) := by decide +kernel
theorem dX12_undo_53 : decode cX12_undo 53 = .ok (.aload_n 0, 1) := by decide +kernel
theorem dX12_undo_54 : decode cX12_undo 54 = .ok (.aload_n 0, 1) := by decide +kernel
theorem dX12_undo_55 : decode cX12_undo 55 = .ok (.getfield 572, 3) := by decide +kernel
theorem dX12_undo_58 : decode cX12_undo 58 = .ok (.bipush 20, 2) := by decide +kernel
theorem dX12_undo_60 : decode cX12_undo 60 = .ok (.iadd, 1) := by decide +kernel
theorem dX12_undo_61 : decode cX12_undo 61 = .ok (.iconst 1, 1) := by decide +kernel
theorem dX12_undo_62 : decode cX12_undo 62 = .ok (.isub, 1) := by decide +kernel
theorem dX12_undo_63 : decode cX12_undo 63 = .ok (.bipush 20, 2) := by decide +kernel
theorem dX12_undo_65 : decode cX12_undo 65 = .ok (.irem, 1) := by decide +kernel
theorem dX12_undo_66 : decode cX12_undo 66 = .ok (.putfield 572, 3) := by decide +kernel
theorem dX12_undo_69 : decode cX12_undo 69 = .ok (.aload_n 0, 1) := by decide +kernel
theorem dX12_undo_70 : decode cX12_undo 70 = .ok (.dup, 1) := by decide +kernel
theorem dX12_undo_71 : decode cX12_undo 71 = .ok (.getfield 413, 3) := by decide +kernel
theorem dX12_undo_74 : decode cX12_undo 74 = .ok (.iconst 1, 1) := by decide +kernel
theorem dX12_undo_75 : decode cX12_undo 75 = .ok (.isub, 1) := by decide +kernel
theorem dX12_undo_76 : decode cX12_undo 76 = .ok (.putfield 413, 3) := by decide +kernel
theorem dX12_undo_79 : decode cX12_undo 79 = .ok (.iconst 1, 1) := by decide +kernel
theorem dX12_undo_80 : decode cX12_undo 80 = .ok (.ireturn, 1) := by decide +kernel
theorem dX12_helperTold_0 : decode cX12_helperTold 0 = .ok (.aload_n 0, 1) := by decide +kernel
theorem dX12_helperTold_1 : decode cX12_helperTold 1 = .ok (.iconst 2, 1) := by decide +kernel
theorem dX12_helperTold_2 : decode cX12_helperTold 2 = .ok (.iconst 3, 1) := by decide +kernel
theorem dX12_helperTold_3 : decode cX12_helperTold 3 = .ok (.iload_n 1, 1) := by decide +kernel
theorem dX12_helperTold_4 : decode cX12_helperTold 4 = .ok (.invokevirtual 330, 3) := by decide +kernel
theorem dX12_helperTold_7 : decode cX12_helperTold 7 = .ok (.ifCond .eq 4, 3) := by decide +kernel
theorem dX12_helperTold_10 : decode cX12_helperTold 10 = .ok (.return_, 1) := by decide +kernel
theorem dX12_helperTold_11 : decode cX12_helperTold 11 = .ok (.aload_n 0, 1) := by decide +kernel
theorem dX12_helperTold_12 : decode cX12_helperTold 12 = .ok (.invokevirtual 334, 3) := by decide +kernel
theorem dX12_helperTold_15 : decode cX12_helperTold 15 = .ok (.lstore_n 2, 1) := by decide +kernel
theorem dX12_helperTold_16 : decode cX12_helperTold 16 = .ok (.aload_n 0, 1) := by decide +kernel
theorem dX12_helperTold_17 : decode cX12_helperTold 17 = .ok (.aload_n 0, 1) := by decide +kernel
theorem dX12_helperTold_18 : decode cX12_helperTold 18 = .ok (.getfield 51, 3) := by decide +kernel
theorem dX12_helperTold_21 : decode cX12_helperTold 21 = .ok (.invokevirtual 337, 3) := by decide +kernel
theorem dX12_helperTold_24 : decode cX12_helperTold 24 = .ok (.aload_n 0, 1) := by decide +kernel
theorem dX12_helperTold_25 : decode cX12_helperTold 25 = .ok (.iconst 1, 1) := by decide +kernel
theorem dX12_helperTold_26 : decode cX12_helperTold 26 = .ok (.sipush 240, 3) := by decide +kernel
theorem dX12_helperTold_29 : decode cX12_helperTold 29 = .ok (.invokevirtual 341, 3) := by decide +kernel
theorem dX12_helperTold_32 : decode cX12_helperTold 32 = .ok (.istore 4, 2) := by decide +kernel
theorem dX12_helperTold_34 : decode cX12_helperTold 34 = .ok (.aload_n 0, 1) := by decide +kernel
theorem dX12_helperTold_35 : decode cX12_helperTold 35 = .ok (.aload_n 0, 1) := by decide +kernel
theorem dX12_helperTold_36 : decode cX12_helperTold 36 = .ok (.getfield 54, 3) := by decide +kernel
theorem dX12_helperTold_39 : decode cX12_helperTold 39 = .ok (.invokevirtual 337, 3) := by decide +kernel
theorem dX12_helperTold_42 : decode cX12_helperTold 42 = .ok (.aload_n 0, 1) := by decide +kernel
theorem dX12_helperTold_43 : decode cX12_helperTold 43 = .ok (.iconst 0, 1) := by decide +kernel
theorem dX12_helperTold_44 : decode cX12_helperTold 44 = .ok (.bipush 9, 2) := by decide +kernel
theorem dX12_helperTold_46 : decode cX12_helperTold 46 = .ok (.invokevirtual 341, 3) := by decide +kernel
theorem dX12_helperTold_49 : decode cX12_helperTold 49 = .ok (.istore 5, 2) := by decide +kernel
theorem dX12_helperTold_51 : decode cX12_helperTold 51 = .ok (.aload_n 0, 1) := by decide +kernel
theorem dX12_helperTold_52 : decode cX12_helperTold 52 = .ok (.aload_n 0, 1) := by decide +kernel
theorem dX12_helperTold_53 : decode cX12_helperTold 53 = .ok (.getfield 57, 3) := by decide +kernel
theorem dX12_helperTold_56 : decode cX12_helperTold 56 = .ok (.invokevirtual 337, 3) := by decide +kernel
theorem dX12_helperTold_59 : decode cX12_helperTold 59 = .ok (.aload_n 0, 1) := by decide +kernel
theorem dX12_helperTold_60 : decode cX12_helperTold 60 = .ok (.iconst 0, 1) := by decide +kernel
theorem dX12_helperTold_61 : decode cX12_helperTold 61 = .ok (.bipush 10, 2) := by decide +kernel
theorem dX12_helperTold_63 : decode cX12_helperTold 63 = .ok (.invokevirtual 341, 3) := by decide +kernel
theorem dX12_helperTold_66 : decode cX12_helperTold 66 = .ok (.istore 6, 2) := by decide +kernel
theorem dX12_helperTold_68 : decode cX12_helperTold 68 = .ok (.aload_n 0, 1) := by decide +kernel
theorem dX12_helperTold_69 : decode cX12_helperTold 69 = .ok (.getfield 263, 3) := by decide +kernel
theorem dX12_helperTold_72 : decode cX12_helperTold 72 = .ok (.ifCond .eq 4, 3) := by decide +kernel
theorem dX12_helperTold_75 : decode cX12_helperTold 75 = .ok (.return_, 1) := by decide +kernel
theorem dX12_helperTold_76 : decode cX12_helperTold 76 = .ok (.iconst 3, 1) := by decide +kernel
theorem dX12_helperTold_77 : decode cX12_helperTold 77 = .ok (.aload_n 0, 1) := by decide +kernel
theorem dX12_helperTold_78 : decode cX12_helperTold 78 = .ok (.iconst 2, 1) := by decide +kernel
theorem dX12_helperTold_79 : decode cX12_helperTold 79 = .ok (.lload_n 2, 1) := by decide +kernel
theorem dX12_helperTold_80 : decode cX12_helperTold 80 = .ok (.invokevirtual 345, 3) := by decide +kernel
theorem dX12_helperTold_83 : decode cX12_helperTold 83 = .ok (.imul, 1) := by decide +kernel
theorem dX12_helperTold_84 : decode cX12_helperTold 84 = .ok (.istore 7, 2) := by decide +kernel
theorem dX12_helperTold_86 : decode cX12_helperTold 86 = .ok (.aload_n 0, 1) := by decide +kernel
theorem dX12_helperTold_87 : decode cX12_helperTold 87 = .ok (.getfield 127, 3) := by decide +kernel
theorem dX12_helperTold_90 : decode cX12_helperTold 90 = .ok (.iload 7, 2) := by decide +kernel
theorem dX12_helperTold_92 : decode cX12_helperTold 92 = .ok (.iload 4, 2) := by decide +kernel
theorem dX12_helperTold_94 : decode cX12_helperTold 94 = .ok (.iastore, 1) := by decide +kernel
theorem dX12_helperTold_95 : decode cX12_helperTold 95 = .ok (.aload_n 0, 1) := by decide +kernel
theorem dX12_helperTold_96 : decode cX12_helperTold 96 = .ok (.getfield 127, 3) := by decide +kernel
theorem dX12_helperTold_99 : decode cX12_helperTold 99 = .ok (.iload 7, 2) := by decide +kernel
theorem dX12_helperTold_101 : decode cX12_helperTold 101 = .ok (.iconst 1, 1) := by decide +kernel
theorem dX12_helperTold_102 : decode cX12_helperTold 102 = .ok (.iadd, 1) := by decide +kernel
theorem dX12_helperTold_103 : decode cX12_helperTold 103 = .ok (.iload 5, 2) := by decide +kernel
theorem dX12_helperTold_105 : decode cX12_helperTold 105 = .ok (.iastore, 1) := by decide +kernel
theorem dX12_helperTold_106 : decode cX12_helperTold 106 = .ok (.aload_n 0, 1) := by decide +kernel
theorem dX12_helperTold_107 : decode cX12_helperTold 107 = .ok (.getfield 127, 3) := by decide +kernel
theorem dX12_helperTold_110 : decode cX12_helperTold 110 = .ok (.iload 7, 2) := by decide +kernel
theorem dX12_helperTold_112 : decode cX12_helperTold 112 = .ok (.iconst 2, 1) := by decide +kernel
theorem dX12_helperTold_113 : decode cX12_helperTold 113 = .ok (.iadd, 1) := by decide +kernel
theorem dX12_helperTold_114 : decode cX12_helperTold 114 = .ok (.iload 6, 2) := by decide +kernel
theorem dX12_helperTold_116 : decode cX12_helperTold 116 = .ok (.iastore, 1) := by decide +kernel
theorem dX12_helperTold_117 : decode cX12_helperTold 117 = .ok (.return_, 1) := by decide +kernel
theorem dX12_eveningGoes_0 : decode cX12_eveningGoes 0 = .ok (.aload_n 0, 1) := by decide +kernel
theorem dX12_eveningGoes_1 : decode cX12_eveningGoes 1 = .ok (.invokevirtual 485, 3) := by decide +kernel
theorem dX12_eveningGoes_4 : decode cX12_eveningGoes 4 = .ok (.istore_n 1, 1) := by decide +kernel
theorem dX12_eveningGoes_5 : decode cX12_eveningGoes 5 = .ok (.iconst 0, 1) := by decide +kernel
theorem dX12_eveningGoes_6 : decode cX12_eveningGoes 6 = .ok (.istore_n 2, 1) := by decide +kernel
theorem dX12_eveningGoes_7 : decode cX12_eveningGoes 7 = .ok (.iload_n 2, 1) := by decide +kernel
theorem dX12_eveningGoes_8 : decode cX12_eveningGoes 8 = .ok (.aload_n 0, 1) := by decide +kernel
theorem dX12_eveningGoes_9 : decode cX12_eveningGoes 9 = .ok (.invokevirtual 419, 3) := by decide +kernel
theorem dX12_eveningGoes_12 : decode cX12_eveningGoes 12 = .ok (.if_icmp .ge 31, 3) := by decide +kernel
theorem dX12_eveningGoes_15 : decode cX12_eveningGoes 15 = .ok (.aload_n 0, 1) := by decide +kernel
theorem dX12_eveningGoes_16 : decode cX12_eveningGoes 16 = .ok (.getfield 154, 3) := by decide +kernel
theorem dX12_eveningGoes_19 : decode cX12_eveningGoes 19 = .ok (.iload_n 2, 1) := by decide +kernel
theorem dX12_eveningGoes_20 : decode cX12_eveningGoes 20 = .ok (.iaload, 1) := by decide +kernel
theorem dX12_eveningGoes_21 : decode cX12_eveningGoes 21 = .ok (.ifCond .le 16, 3) := by decide +kernel
theorem dX12_eveningGoes_24 : decode cX12_eveningGoes 24 = .ok (.aload_n 0, 1) := by decide +kernel
theorem dX12_eveningGoes_25 : decode cX12_eveningGoes 25 = .ok (.iload_n 2, 1) := by decide +kernel
theorem dX12_eveningGoes_26 : decode cX12_eveningGoes 26 = .ok (.aload_n 0, 1) := by decide +kernel
theorem dX12_eveningGoes_27 : decode cX12_eveningGoes 27 = .ok (.getfield 154, 3) := by decide +kernel
theorem dX12_eveningGoes_30 : decode cX12_eveningGoes 30 = .ok (.iload_n 2, 1) := by decide +kernel
theorem dX12_eveningGoes_31 : decode cX12_eveningGoes 31 = .ok (.iaload, 1) := by decide +kernel
theorem dX12_eveningGoes_32 : decode cX12_eveningGoes 32 = .ok (.iconst 1, 1) := by decide +kernel
theorem dX12_eveningGoes_33 : decode cX12_eveningGoes 33 = .ok (.isub, 1) := by decide +kernel
theorem dX12_eveningGoes_34 : decode cX12_eveningGoes 34 = .ok (.invokevirtual 488, 3) := by decide +kernel
theorem dX12_eveningGoes_37 : decode cX12_eveningGoes 37 = .ok (.iinc 2 1, 3) := by decide +kernel
theorem dX12_eveningGoes_40 : decode cX12_eveningGoes 40 = .ok (.goto (-33), 3) := by decide +kernel
theorem dX12_eveningGoes_43 : decode cX12_eveningGoes 43 = .ok (.aload_n 0, 1) := by decide +kernel
theorem dX12_eveningGoes_44 : decode cX12_eveningGoes 44 = .ok (.getfield 142, 3) := by decide +kernel
theorem dX12_eveningGoes_47 : decode cX12_eveningGoes 47 = .ok (.iconst 0, 1) := by decide +kernel
theorem dX12_eveningGoes_48 : decode cX12_eveningGoes 48 = .ok (.dup2, 1) := by decide +kernel
theorem dX12_eveningGoes_49 : decode cX12_eveningGoes 49 = .ok (.iaload, 1) := by decide +kernel
theorem dX12_eveningGoes_50 : decode cX12_eveningGoes 50 = .ok (.iconst 1, 1) := by decide +kernel
theorem dX12_eveningGoes_51 : decode cX12_eveningGoes 51 = .ok (.iadd, 1) := by decide +kernel
theorem dX12_eveningGoes_52 : decode cX12_eveningGoes 52 = .ok (.iastore, 1) := by decide +kernel
theorem dX12_eveningGoes_53 : decode cX12_eveningGoes 53 = .ok (.aload_n 0, 1) := by decide +kernel
theorem dX12_eveningGoes_54 : decode cX12_eveningGoes 54 = .ok (.invokevirtual 407, 3) := by decide +kernel
theorem dX12_eveningGoes_57 : decode cX12_eveningGoes 57 = .ok (.iload_n 1, 1) := by decide +kernel
theorem dX12_eveningGoes_58 : decode cX12_eveningGoes 58 = .ok (.ireturn, 1) := by decide +kernel
theorem dX12_qHasSquare_0 : decode cX12_qHasSquare 0 = .ok (.iconst 0, 1) := by decide +kernel
theorem dX12_qHasSquare_1 : decode cX12_qHasSquare 1 = .ok (.istore_n 1, 1) := by decide +kernel
theorem dX12_qHasSquare_2 : decode cX12_qHasSquare 2 = .ok (.iload_n 1, 1) := by decide +kernel
theorem dX12_qHasSquare_3 : decode cX12_qHasSquare 3 = .ok (.aload_n 0, 1) := by decide +kernel
theorem dX12_qHasSquare_4 : decode cX12_qHasSquare 4 = .ok (.getfield 355, 3) := by decide +kernel
theorem dX12_qHasSquare_7 : decode cX12_qHasSquare 7 = .ok (.if_icmp .ge 22, 3) := by decide +kernel
theorem dX12_qHasSquare_10 : decode cX12_qHasSquare 10 = .ok (.aload_n 0, 1) := by decide +kernel
theorem dX12_qHasSquare_11 : decode cX12_qHasSquare 11 = .ok (.getfield 251, 3) := by decide +kernel
theorem dX12_qHasSquare_14 : decode cX12_qHasSquare 14 = .ok (.iload_n 1, 1) := by decide +kernel
theorem dX12_qHasSquare_15 : decode cX12_qHasSquare 15 = .ok (.iaload, 1) := by decide +kernel
theorem dX12_qHasSquare_16 : decode cX12_qHasSquare 16 = .ok (.bipush 25, 2) := by decide +kernel
theorem dX12_qHasSquare_18 : decode cX12_qHasSquare 18 = .ok (.if_icmp .ne 5, 3) := by decide +kernel
theorem dX12_qHasSquare_21 : decode cX12_qHasSquare 21 = .ok (.iconst 1, 1) := by decide +kernel
theorem dX12_qHasSquare_22 : decode cX12_qHasSquare 22 = .ok (.ireturn, 1) := by decide +kernel
theorem dX12_qHasSquare_23 : decode cX12_qHasSquare 23 = .ok (.iinc 1 1, 3) := by decide +kernel
theorem dX12_qHasSquare_26 : decode cX12_qHasSquare 26 = .ok (.goto (-24), 3) := by decide +kernel
theorem dX12_qHasSquare_29 : decode cX12_qHasSquare 29 = .ok (.iconst 0, 1) := by decide +kernel
theorem dX12_qHasSquare_30 : decode cX12_qHasSquare 30 = .ok (.ireturn, 1) := by decide +kernel
theorem dX12_tell_0 : decode cX12_tell 0 = .ok (.iconst 0, 1) := by decide +kernel
theorem dX12_tell_1 : decode cX12_tell 1 = .ok (.istore_n 2, 1) := by decide +kernel
theorem dX12_tell_2 : decode cX12_tell 2 = .ok (.iconst 1, 1) := by decide +kernel
theorem dX12_tell_3 : decode cX12_tell 3 = .ok (.istore_n 3, 1) := by decide +kernel
theorem dX12_tell_4 : decode cX12_tell 4 = .ok (.iload_n 3, 1) := by decide +kernel
theorem dX12_tell_5 : decode cX12_tell 5 = .ok (.bipush 12, 2) := by decide +kernel
theorem dX12_tell_7 : decode cX12_tell 7 = .ok (.if_icmp .ge 24, 3) := by decide +kernel
theorem dX12_tell_10 : decode cX12_tell 10 = .ok (.aload_n 0, 1) := by decide +kernel
theorem dX12_tell_11 : decode cX12_tell 11 = .ok (.iload_n 3, 1) := by decide +kernel
theorem dX12_tell_12 : decode cX12_tell 12 = .ok (.invokevirtual 551, 3) := by decide +kernel
theorem dX12_tell_15 : decode cX12_tell 15 = .ok (.aload_n 0, 1) := by decide +kernel
theorem dX12_tell_16 : decode cX12_tell 16 = .ok (.iload_n 2, 1) := by decide +kernel
theorem dX12_tell_17 : decode cX12_tell 17 = .ok (.invokevirtual 551, 3) := by decide +kernel
theorem dX12_tell_20 : decode cX12_tell 20 = .ok (.if_icmp .ge 5, 3) := by decide +kernel
theorem dX12_tell_23 : decode cX12_tell 23 = .ok (.iload_n 3, 1) := by decide +kernel
theorem dX12_tell_24 : decode cX12_tell 24 = .ok (.istore_n 2, 1) := by decide +kernel
theorem dX12_tell_25 : decode cX12_tell 25 = .ok (.iinc 3 1, 3) := by decide +kernel
theorem dX12_tell_28 : decode cX12_tell 28 = .ok (.goto (-24), 3) := by decide +kernel
theorem dX12_tell_31 : decode cX12_tell 31 = .ok (.iload_n 1, 1) := by decide +kernel
theorem dX12_tell_32 : decode cX12_tell 32 = .ok (.ifCond .ne 7, 3) := by decide +kernel
theorem dX12_tell_35 : decode cX12_tell 35 = .ok (.iload_n 2, 1) := by decide +kernel
theorem dX12_tell_36 : decode cX12_tell 36 = .ok (.goto 17, 3) := by decide +kernel
theorem dX12_tell_39 : decode cX12_tell 39 = .ok (.iload_n 1, 1) := by decide +kernel
theorem dX12_tell_40 : decode cX12_tell 40 = .ok (.iconst 1, 1) := by decide +kernel
theorem dX12_tell_41 : decode cX12_tell 41 = .ok (.if_icmp .ne 11, 3) := by decide +kernel
theorem dX12_tell_44 : decode cX12_tell 44 = .ok (.aload_n 0, 1) := by decide +kernel
theorem dX12_tell_45 : decode cX12_tell 45 = .ok (.iload_n 2, 1) := by decide +kernel
theorem dX12_tell_46 : decode cX12_tell 46 = .ok (.invokevirtual 551, 3) := by decide +kernel
theorem dX12_tell_49 : decode cX12_tell 49 = .ok (.goto 4, 3) := by decide +kernel
theorem dX12_tell_52 : decode cX12_tell 52 = .ok (.iconst (-1), 1) := by decide +kernel
theorem dX12_tell_53 : decode cX12_tell 53 = .ok (.ireturn, 1) := by decide +kernel
theorem dX12_laysTimes_0 : decode cX12_laysTimes 0 = .ok (.iconst 0, 1) := by decide +kernel
theorem dX12_laysTimes_1 : decode cX12_laysTimes 1 = .ok (.istore_n 1, 1) := by decide +kernel
theorem dX12_laysTimes_2 : decode cX12_laysTimes 2 = .ok (.iload_n 1, 1) := by decide +kernel
theorem dX12_laysTimes_3 : decode cX12_laysTimes 3 = .ok (.aload_n 0, 1) := by decide +kernel
theorem dX12_laysTimes_4 : decode cX12_laysTimes 4 = .ok (.invokevirtual 419, 3) := by decide +kernel
theorem dX12_laysTimes_7 : decode cX12_laysTimes 7 = .ok (.if_icmp .ge 57, 3) := by decide +kernel
theorem dX12_laysTimes_10 : decode cX12_laysTimes 10 = .ok (.iconst 0, 1) := by decide +kernel
theorem dX12_laysTimes_11 : decode cX12_laysTimes 11 = .ok (.istore_n 2, 1) := by decide +kernel
theorem dX12_laysTimes_12 : decode cX12_laysTimes 12 = .ok (.iload_n 2, 1) := by decide +kernel
theorem dX12_laysTimes_13 : decode cX12_laysTimes 13 = .ok (.aload_n 0, 1) := by decide +kernel
theorem dX12_laysTimes_14 : decode cX12_laysTimes 14 = .ok (.invokevirtual 422, 3) := by decide +kernel
theorem dX12_laysTimes_17 : decode cX12_laysTimes 17 = .ok (.if_icmp .ge 41, 3) := by decide +kernel
theorem dX12_laysTimes_20 : decode cX12_laysTimes 20 = .ok (.aload_n 0, 1) := by decide +kernel
theorem dX12_laysTimes_21 : decode cX12_laysTimes 21 = .ok (.getfield 157, 3) := by decide +kernel
theorem dX12_laysTimes_24 : decode cX12_laysTimes 24 = .ok (.iconst 3, 1) := by decide +kernel
theorem dX12_laysTimes_25 : decode cX12_laysTimes 25 = .ok (.iload_n 1, 1) := by decide +kernel
theorem dX12_laysTimes_26 : decode cX12_laysTimes 26 = .ok (.imul, 1) := by decide +kernel
theorem dX12_laysTimes_27 : decode cX12_laysTimes 27 = .ok (.iload_n 2, 1) := by decide +kernel
theorem dX12_laysTimes_28 : decode cX12_laysTimes 28 = .ok (.iadd, 1) := by decide +kernel
theorem dX12_laysTimes_29 : decode cX12_laysTimes 29 = .ok (.aload_n 0, 1) := by decide +kernel
theorem dX12_laysTimes_30 : decode cX12_laysTimes 30 = .ok (.iload_n 1, 1) := by decide +kernel
theorem dX12_laysTimes_31 : decode cX12_laysTimes 31 = .ok (.iload_n 2, 1) := by decide +kernel
theorem dX12_laysTimes_32 : decode cX12_laysTimes 32 = .ok (.invokevirtual 461, 3) := by decide +kernel
theorem dX12_laysTimes_35 : decode cX12_laysTimes 35 = .ok (.iastore, 1) := by decide +kernel
theorem dX12_laysTimes_36 : decode cX12_laysTimes 36 = .ok (.aload_n 0, 1) := by decide +kernel
theorem dX12_laysTimes_37 : decode cX12_laysTimes 37 = .ok (.getfield 160, 3) := by decide +kernel
theorem dX12_laysTimes_40 : decode cX12_laysTimes 40 = .ok (.iconst 3, 1) := by decide +kernel
theorem dX12_laysTimes_41 : decode cX12_laysTimes 41 = .ok (.iload_n 1, 1) := by decide +kernel
theorem dX12_laysTimes_42 : decode cX12_laysTimes 42 = .ok (.imul, 1) := by decide +kernel
theorem dX12_laysTimes_43 : decode cX12_laysTimes 43 = .ok (.iload_n 2, 1) := by decide +kernel
theorem dX12_laysTimes_44 : decode cX12_laysTimes 44 = .ok (.iadd, 1) := by decide +kernel
theorem dX12_laysTimes_45 : decode cX12_laysTimes 45 = .ok (.aload_n 0, 1) := by decide +kernel
theorem dX12_laysTimes_46 : decode cX12_laysTimes 46 = .ok (.iload_n 1, 1) := by decide +kernel
theorem dX12_laysTimes_47 : decode cX12_laysTimes 47 = .ok (.iload_n 2, 1) := by decide +kernel
theorem dX12_laysTimes_48 : decode cX12_laysTimes 48 = .ok (.invokevirtual 464, 3) := by decide +kernel
theorem dX12_laysTimes_51 : decode cX12_laysTimes 51 = .ok (.lastore, 1) := by decide +kernel
theorem dX12_laysTimes_52 : decode cX12_laysTimes 52 = .ok (.iinc 2 1, 3) := by decide +kernel
theorem dX12_laysTimes_55 : decode cX12_laysTimes 55 = .ok (.goto (-43), 3) := by decide +kernel
theorem dX12_laysTimes_58 : decode cX12_laysTimes 58 = .ok (.iinc 1 1, 3) := by decide +kernel
theorem dX12_laysTimes_61 : decode cX12_laysTimes 61 = .ok (.goto (-59), 3) := by decide +kernel
theorem dX12_laysTimes_64 : decode cX12_laysTimes 64 = .ok (.return_, 1) := by decide +kernel
theorem dX12_qIsBracket_0 : decode cX12_qIsBracket 0 = .ok (.iload_n 0, 1) := by decide +kernel
theorem dX12_qIsBracket_1 : decode cX12_qIsBracket 1 = .ok (.bipush 20, 2) := by decide +kernel
theorem dX12_qIsBracket_3 : decode cX12_qIsBracket 3 = .ok (.if_icmp .lt 13, 3) := by decide +kernel
theorem dX12_qIsBracket_6 : decode cX12_qIsBracket 6 = .ok (.iload_n 0, 1) := by decide +kernel
theorem dX12_qIsBracket_7 : decode cX12_qIsBracket 7 = .ok (.bipush 24, 2) := by decide +kernel
theorem dX12_qIsBracket_9 : decode cX12_qIsBracket 9 = .ok (.if_icmp .gt 7, 3) := by decide +kernel
theorem dX12_qIsBracket_12 : decode cX12_qIsBracket 12 = .ok (.iconst 1, 1) := by decide +kernel
theorem dX12_qIsBracket_13 : decode cX12_qIsBracket 13 = .ok (.goto 4, 3) := by decide +kernel
theorem dX12_qIsBracket_16 : decode cX12_qIsBracket 16 = .ok (.iconst 0, 1) := by decide +kernel
theorem dX12_qIsBracket_17 : decode cX12_qIsBracket 17 = .ok (.ireturn, 1) := by decide +kernel
theorem dX12_qCode_0 : decode cX12_qCode 0 = .ok (.aload_n 0, 1) := by decide +kernel
theorem dX12_qCode_1 : decode cX12_qCode 1 = .ok (.getfield 248, 3) := by decide +kernel
theorem dX12_qCode_4 : decode cX12_qCode 4 = .ok (.aload_n 0, 1) := by decide +kernel
theorem dX12_qCode_5 : decode cX12_qCode 5 = .ok (.getfield 352, 3) := by decide +kernel
theorem dX12_qCode_8 : decode cX12_qCode 8 = .ok (.iload_n 1, 1) := by decide +kernel
theorem dX12_qCode_9 : decode cX12_qCode 9 = .ok (.iastore, 1) := by decide +kernel
theorem dX12_qCode_10 : decode cX12_qCode 10 = .ok (.aload_n 0, 1) := by decide +kernel
theorem dX12_qCode_11 : decode cX12_qCode 11 = .ok (.dup, 1) := by decide +kernel
theorem dX12_qCode_12 : decode cX12_qCode 12 = .ok (.getfield 352, 3) := by decide +kernel
theorem dX12_qCode_15 : decode cX12_qCode 15 = .ok (.iconst 1, 1) := by decide +kernel
theorem dX12_qCode_16 : decode cX12_qCode 16 = .ok (.iadd, 1) := by decide +kernel
theorem dX12_qCode_17 : decode cX12_qCode 17 = .ok (.putfield 352, 3) := by decide +kernel
theorem dX12_qCode_20 : decode cX12_qCode 20 = .ok (.return_, 1) := by decide +kernel
theorem dX12_isAnswered_0 : decode cX12_isAnswered 0 = .ok (.aload_n 0, 1) := by decide +kernel
theorem dX12_isAnswered_1 : decode cX12_isAnswered 1 = .ok (.getfield 142, 3) := by decide +kernel
theorem dX12_isAnswered_4 : decode cX12_isAnswered 4 = .ok (.iconst 1, 1) := by decide +kernel
theorem dX12_isAnswered_5 : decode cX12_isAnswered 5 = .ok (.iload_n 2, 1) := by decide +kernel
theorem dX12_isAnswered_6 : decode cX12_isAnswered 6 = .ok (.iadd, 1) := by decide +kernel
theorem dX12_isAnswered_7 : decode cX12_isAnswered 7 = .ok (.dup2, 1) := by decide +kernel
theorem dX12_isAnswered_8 : decode cX12_isAnswered 8 = .ok (.iaload, 1) := by decide +kernel
theorem dX12_isAnswered_9 : decode cX12_isAnswered 9 = .ok (.aload_n 0, 1) := by decide +kernel
theorem dX12_isAnswered_10 : decode cX12_isAnswered 10 = .ok (.iload_n 1, 1) := by decide +kernel
theorem dX12_isAnswered_11 : decode cX12_isAnswered 11 = .ok (.iload_n 2, 1) := by decide +kernel
theorem dX12_isAnswered_12 : decode cX12_isAnswered 12 = .ok (.invokevirtual 461, 3) := by decide +kernel
theorem dX12_isAnswered_15 : decode cX12_isAnswered 15 = .ok (.isub, 1) := by decide +kernel
theorem dX12_isAnswered_16 : decode cX12_isAnswered 16 = .ok (.iastore, 1) := by decide +kernel
theorem dX12_isAnswered_17 : decode cX12_isAnswered 17 = .ok (.aload_n 0, 1) := by decide +kernel
theorem dX12_isAnswered_18 : decode cX12_isAnswered 18 = .ok (.getfield 142, 3) := by decide +kernel
theorem dX12_isAnswered_21 : decode cX12_isAnswered 21 = .ok (.bipush 8, 2) := by decide +kernel
theorem dX12_isAnswered_23 : decode cX12_isAnswered 23 = .ok (.iconst 3, 1) := by decide +kernel
theorem dX12_isAnswered_24 : decode cX12_isAnswered 24 = .ok (.iload_n 1, 1) := by decide +kernel
theorem dX12_isAnswered_25 : decode cX12_isAnswered 25 = .ok (.imul, 1) := by decide +kernel
theorem dX12_isAnswered_26 : decode cX12_isAnswered 26 = .ok (.iadd, 1) := by decide +kernel
theorem dX12_isAnswered_27 : decode cX12_isAnswered 27 = .ok (.iload_n 2, 1) := by decide +kernel
theorem dX12_isAnswered_28 : decode cX12_isAnswered 28 = .ok (.iconst 1, 1) := by decide +kernel
theorem dX12_isAnswered_29 : decode cX12_isAnswered 29 = .ok (.iadd, 1) := by decide +kernel
theorem dX12_isAnswered_30 : decode cX12_isAnswered 30 = .ok (.iastore, 1) := by decide +kernel
theorem dX12_isAnswered_31 : decode cX12_isAnswered 31 = .ok (.return_, 1) := by decide +kernel
theorem dX12_qSums_0 : decode cX12_qSums 0 = .ok (.aload_n 0, 1) := by decide +kernel
theorem dX12_qSums_1 : decode cX12_qSums 1 = .ok (.getfield 361, 3) := by decide +kernel
theorem dX12_qSums_4 : decode cX12_qSums 4 = .ok (.istore_n 1, 1) := by decide +kernel
theorem dX12_qSums_5 : decode cX12_qSums 5 = .ok (.aload_n 0, 1) := by decide +kernel
theorem dX12_qSums_6 : decode cX12_qSums 6 = .ok (.aload_n 0, 1) := by decide +kernel
theorem dX12_qSums_7 : decode cX12_qSums 7 = .ok (.getfield 355, 3) := by decide +kernel
theorem dX12_qSums_10 : decode cX12_qSums 10 = .ok (.putfield 361, 3) := by decide +kernel
theorem dX12_qSums_13 : decode cX12_qSums 13 = .ok (.iconst 1, 1) := by decide +kernel
theorem dX12_qSums_14 : decode cX12_qSums 14 = .ok (.istore_n 2, 1) := by decide +kernel
theorem dX12_qSums_15 : decode cX12_qSums 15 = .ok (.iload_n 2, 1) := by decide +kernel
theorem dX12_qSums_16 : decode cX12_qSums 16 = .ok (.ifCond .eq 37, 3) := by decide +kernel
theorem dX12_qSums_19 : decode cX12_qSums 19 = .ok (.aload_n 0, 1) := by decide +kernel
theorem dX12_qSums_20 : decode cX12_qSums 20 = .ok (.getfield 263, 3) := by decide +kernel
theorem dX12_qSums_23 : decode cX12_qSums 23 = .ok (.ifCond .ne 30, 3) := by decide +kernel
theorem dX12_qSums_26 : decode cX12_qSums 26 = .ok (.aload_n 0, 1) := by decide +kernel
theorem dX12_qSums_27 : decode cX12_qSums 27 = .ok (.invokevirtual 630, 3) := by decide +kernel
theorem dX12_qSums_30 : decode cX12_qSums 30 = .ok (.aload_n 0, 1) := by decide +kernel
theorem dX12_qSums_31 : decode cX12_qSums 31 = .ok (.getfield 263, 3) := by decide +kernel
theorem dX12_qSums_34 : decode cX12_qSums 34 = .ok (.ifCond .ne 14, 3) := by decide +kernel
theorem dX12_qSums_37 : decode cX12_qSums 37 = .ok (.aload_n 0, 1) := by decide +kernel
theorem dX12_qSums_38 : decode cX12_qSums 38 = .ok (.invokevirtual 633, 3) := by decide +kernel
theorem dX12_qSums_41 : decode cX12_qSums 41 = .ok (.ifCond .eq 7, 3) := by decide +kernel
theorem dX12_qSums_44 : decode cX12_qSums 44 = .ok (.iconst 1, 1) := by decide +kernel
theorem dX12_qSums_45 : decode cX12_qSums 45 = .ok (.goto 4, 3) := by decide +kernel
theorem dX12_qSums_48 : decode cX12_qSums 48 = .ok (.iconst 0, 1) := by decide +kernel
theorem dX12_qSums_49 : decode cX12_qSums 49 = .ok (.istore_n 2, 1) := by decide +kernel
theorem dX12_qSums_50 : decode cX12_qSums 50 = .ok (.goto (-35), 3) := by decide +kernel
theorem dX12_qSums_53 : decode cX12_qSums 53 = .ok (.aload_n 0, 1) := by decide +kernel
theorem dX12_qSums_54 : decode cX12_qSums 54 = .ok (.getfield 263, 3) := by decide +kernel
theorem dX12_qSums_57 : decode cX12_qSums 57 = .ok (.ifCond .ne 21, 3) := by decide +kernel
theorem dX12_qSums_60 : decode cX12_qSums 60 = .ok (.aload_n 0, 1) := by decide +kernel
theorem dX12_qSums_61 : decode cX12_qSums 61 = .ok (.getfield 355, 3) := by decide +kernel
theorem dX12_qSums_64 : decode cX12_qSums 64 = .ok (.aload_n 0, 1) := by decide +kernel
theorem dX12_qSums_65 : decode cX12_qSums 65 = .ok (.getfield 361, 3) := by decide +kernel
theorem dX12_qSums_68 : decode cX12_qSums 68 = .ok (.if_icmp .le 10, 3) := by decide +kernel
theorem dX12_qSums_71 : decode cX12_qSums 71 = .ok (.aload_n 0, 1) := by decide +kernel
theorem dX12_qSums_72 : decode cX12_qSums 72 = .ok (.invokevirtual 600, 3) := by decide +kernel
theorem dX12_qSums_75 : decode cX12_qSums 75 = .ok (.goto (-22), 3) := by decide +kernel
theorem dX12_qSums_78 : decode cX12_qSums 78 = .ok (.aload_n 0, 1) := by decide +kernel
theorem dX12_qSums_79 : decode cX12_qSums 79 = .ok (.iload_n 1, 1) := by decide +kernel
theorem dX12_qSums_80 : decode cX12_qSums 80 = .ok (.putfield 361, 3) := by decide +kernel
theorem dX12_qSums_83 : decode cX12_qSums 83 = .ok (.return_, 1) := by decide +kernel
theorem dX12_qWordOf_0 : decode cX12_qWordOf 0 = .ok (.aload_n 0, 1) := by decide +kernel
theorem dX12_qWordOf_1 : decode cX12_qWordOf 1 = .ok (.invokevirtual 603, 3) := by decide +kernel
theorem dX12_qWordOf_4 : decode cX12_qWordOf 4 = .ok (.istore_n 3, 1) := by decide +kernel
theorem dX12_qWordOf_5 : decode cX12_qWordOf 5 = .ok (.iload_n 3, 1) := by decide +kernel
theorem dX12_qWordOf_6 : decode cX12_qWordOf 6 = .ok (.iload_n 1, 1) := by decide +kernel
theorem dX12_qWordOf_7 : decode cX12_qWordOf 7 = .ok (.if_icmp .lt 20, 3) := by decide +kernel
theorem dX12_qWordOf_10 : decode cX12_qWordOf 10 = .ok (.iload_n 3, 1) := by decide +kernel
theorem dX12_qWordOf_11 : decode cX12_qWordOf 11 = .ok (.iload_n 2, 1) := by decide +kernel
theorem dX12_qWordOf_12 : decode cX12_qWordOf 12 = .ok (.if_icmp .ge 15, 3) := by decide +kernel
theorem dX12_qWordOf_15 : decode cX12_qWordOf 15 = .ok (.aload_n 0, 1) := by decide +kernel
theorem dX12_qWordOf_16 : decode cX12_qWordOf 16 = .ok (.iload_n 3, 1) := by decide +kernel
theorem dX12_qWordOf_17 : decode cX12_qWordOf 17 = .ok (.invokevirtual 606, 3) := by decide +kernel
theorem dX12_qWordOf_20 : decode cX12_qWordOf 20 = .ok (.ifCond .eq 7, 3) := by decide +kernel
theorem dX12_qWordOf_23 : decode cX12_qWordOf 23 = .ok (.iload_n 3, 1) := by decide +kernel
theorem dX12_qWordOf_24 : decode cX12_qWordOf 24 = .ok (.goto 4, 3) := by decide +kernel
theorem dX12_qWordOf_27 : decode cX12_qWordOf 27 = .ok (.iconst (-1), 1) := by decide +kernel
theorem dX12_qWordOf_28 : decode cX12_qWordOf 28 = .ok (.ireturn, 1) := by decide +kernel
theorem dX12_oddsIn_0 : decode cX12_oddsIn 0 = .ok (.lconst 1, 1) := by decide +kernel
theorem dX12_oddsIn_1 : decode cX12_oddsIn 1 = .ok (.lstore_n 1, 1) := by decide +kernel
theorem dX12_oddsIn_2 : decode cX12_oddsIn 2 = .ok (.iconst 0, 1) := by decide +kernel
theorem dX12_oddsIn_3 : decode cX12_oddsIn 3 = .ok (.istore_n 3, 1) := by decide +kernel
theorem dX12_oddsIn_4 : decode cX12_oddsIn 4 = .ok (.iload_n 3, 1) := by decide +kernel
theorem dX12_oddsIn_5 : decode cX12_oddsIn 5 = .ok (.aload_n 0, 1) := by decide +kernel
theorem dX12_oddsIn_6 : decode cX12_oddsIn 6 = .ok (.invokevirtual 419, 3) := by decide +kernel
theorem dX12_oddsIn_9 : decode cX12_oddsIn 9 = .ok (.if_icmp .ge 85, 3) := by decide +kernel
theorem dX12_oddsIn_12 : decode cX12_oddsIn 12 = .ok (.iload_n 3, 1) := by decide +kernel
theorem dX12_oddsIn_13 : decode cX12_oddsIn 13 = .ok (.iconst 1, 1) := by decide +kernel
theorem dX12_oddsIn_14 : decode cX12_oddsIn 14 = .ok (.iadd, 1) := by decide +kernel
theorem dX12_oddsIn_15 : decode cX12_oddsIn 15 = .ok (.istore 4, 2) := by decide +kernel
theorem dX12_oddsIn_17 : decode cX12_oddsIn 17 = .ok (.iload 4, 2) := by decide +kernel
theorem dX12_oddsIn_19 : decode cX12_oddsIn 19 = .ok (.aload_n 0, 1) := by decide +kernel
theorem dX12_oddsIn_20 : decode cX12_oddsIn 20 = .ok (.invokevirtual 419, 3) := by decide +kernel
theorem dX12_oddsIn_23 : decode cX12_oddsIn 23 = .ok (.if_icmp .ge 65, 3) := by decide +kernel
theorem dX12_oddsIn_26 : decode cX12_oddsIn 26 = .ok (.aload_n 0, 1) := by decide +kernel
theorem dX12_oddsIn_27 : decode cX12_oddsIn 27 = .ok (.getfield 124, 3) := by decide +kernel
theorem dX12_oddsIn_30 : decode cX12_oddsIn 30 = .ok (.bipush 64, 2) := by decide +kernel
theorem dX12_oddsIn_32 : decode cX12_oddsIn 32 = .ok (.bipush 8, 2) := by decide +kernel
theorem dX12_oddsIn_34 : decode cX12_oddsIn 34 = .ok (.iload_n 3, 1) := by decide +kernel
theorem dX12_oddsIn_35 : decode cX12_oddsIn 35 = .ok (.imul, 1) := by decide +kernel
theorem dX12_oddsIn_36 : decode cX12_oddsIn 36 = .ok (.iadd, 1) := by decide +kernel
theorem dX12_oddsIn_37 : decode cX12_oddsIn 37 = .ok (.iload 4, 2) := by decide +kernel
theorem dX12_oddsIn_39 : decode cX12_oddsIn 39 = .ok (.iadd, 1) := by decide +kernel
theorem dX12_oddsIn_40 : decode cX12_oddsIn 40 = .ok (.iaload, 1) := by decide +kernel
theorem dX12_oddsIn_41 : decode cX12_oddsIn 41 = .ok (.iconst 1, 1) := by decide +kernel
theorem dX12_oddsIn_42 : decode cX12_oddsIn 42 = .ok (.isub, 1) := by decide +kernel
theorem dX12_oddsIn_43 : decode cX12_oddsIn 43 = .ok (.istore 5, 2) := by decide +kernel
theorem dX12_oddsIn_45 : decode cX12_oddsIn 45 = .ok (.iload 5, 2) := by decide +kernel
theorem dX12_oddsIn_47 : decode cX12_oddsIn 47 = .ok (.iconst (-1), 1) := by decide +kernel
theorem dX12_oddsIn_48 : decode cX12_oddsIn 48 = .ok (.if_icmp .eq 34, 3) := by decide +kernel
theorem dX12_oddsIn_51 : decode cX12_oddsIn 51 = .ok (.lload_n 1, 1) := by decide +kernel
theorem dX12_oddsIn_52 : decode cX12_oddsIn 52 = .ok (.aload_n 0, 1) := by decide +kernel
theorem dX12_oddsIn_53 : decode cX12_oddsIn 53 = .ok (.getfield 148, 3) := by decide +kernel
theorem dX12_oddsIn_56 : decode cX12_oddsIn 56 = .ok (.iload_n 3, 1) := by decide +kernel
theorem dX12_oddsIn_57 : decode cX12_oddsIn 57 = .ok (.iaload, 1) := by decide +kernel
theorem dX12_oddsIn_58 : decode cX12_oddsIn 58 = .ok (.aload_n 0, 1) := by decide +kernel
theorem dX12_oddsIn_59 : decode cX12_oddsIn 59 = .ok (.getfield 148, 3) := by decide +kernel
theorem dX12_oddsIn_62 : decode cX12_oddsIn 62 = .ok (.iload 4, 2) := by decide +kernel
theorem dX12_oddsIn_64 : decode cX12_oddsIn 64 = .ok (.iaload, 1) := by decide +kernel
theorem dX12_oddsIn_65 : decode cX12_oddsIn 65 = .ok (.if_icmp .ne 9, 3) := by decide +kernel
theorem dX12_oddsIn_68 : decode cX12_oddsIn 68 = .ok (.iload 5, 2) := by decide +kernel
theorem dX12_oddsIn_70 : decode cX12_oddsIn 70 = .ok (.i2l, 1) := by decide +kernel
theorem dX12_oddsIn_71 : decode cX12_oddsIn 71 = .ok (.goto 9, 3) := by decide +kernel
theorem dX12_oddsIn_74 : decode cX12_oddsIn 74 = .ok (.bipush 10, 2) := by decide +kernel
theorem dX12_oddsIn_76 : decode cX12_oddsIn 76 = .ok (.iload 5, 2) := by decide +kernel
theorem dX12_oddsIn_78 : decode cX12_oddsIn 78 = .ok (.isub, 1) := by decide +kernel
theorem dX12_oddsIn_79 : decode cX12_oddsIn 79 = .ok (.i2l, 1) := by decide +kernel
theorem dX12_oddsIn_80 : decode cX12_oddsIn 80 = .ok (.lmul, 1) := by decide +kernel
theorem dX12_oddsIn_81 : decode cX12_oddsIn 81 = .ok (.lstore_n 1, 1) := by decide +kernel
theorem dX12_oddsIn_82 : decode cX12_oddsIn 82 = .ok (.iinc 4 1, 3) := by decide +kernel
theorem dX12_oddsIn_85 : decode cX12_oddsIn 85 = .ok (.goto (-68), 3) := by decide +kernel
theorem dX12_oddsIn_88 : decode cX12_oddsIn 88 = .ok (.iinc 3 1, 3) := by decide +kernel
theorem dX12_oddsIn_91 : decode cX12_oddsIn 91 = .ok (.goto (-87), 3) := by decide +kernel
theorem dX12_oddsIn_94 : decode cX12_oddsIn 94 = .ok (.lload_n 1, 1) := by decide +kernel
theorem dX12_oddsIn_95 : decode cX12_oddsIn 95 = .ok (.lreturn, 1) := by decide +kernel
theorem dX12_isAllowed_0 : decode cX12_isAllowed 0 = .ok (.aload_n 0, 1) := by decide +kernel
theorem dX12_isAllowed_1 : decode cX12_isAllowed 1 = .ok (.getfield 318, 3) := by decide +kernel
theorem dX12_isAllowed_4 : decode cX12_isAllowed 4 = .ok (.ifCond .eq 17, 3) := by decide +kernel
theorem dX12_isAllowed_7 : decode cX12_isAllowed 7 = .ok (.iload_n 1, 1) := by decide +kernel
theorem dX12_isAllowed_8 : decode cX12_isAllowed 8 = .ok (.bipush 6, 2) := by decide +kernel
theorem dX12_isAllowed_10 : decode cX12_isAllowed 10 = .ok (.if_icmp .ge 7, 3) := by decide +kernel
theorem dX12_isAllowed_13 : decode cX12_isAllowed 13 = .ok (.iconst 1, 1) := by decide +kernel
theorem dX12_isAllowed_14 : decode cX12_isAllowed 14 = .ok (.goto 17, 3) := by decide +kernel
theorem dX12_isAllowed_17 : decode cX12_isAllowed 17 = .ok (.iconst 0, 1) := by decide +kernel
theorem dX12_isAllowed_18 : decode cX12_isAllowed 18 = .ok (.goto 13, 3) := by decide +kernel
theorem dX12_isAllowed_21 : decode cX12_isAllowed 21 = .ok (.iload_n 1, 1) := by decide +kernel
theorem dX12_isAllowed_22 : decode cX12_isAllowed 22 = .ok (.iconst 3, 1) := by decide +kernel
theorem dX12_isAllowed_23 : decode cX12_isAllowed 23 = .ok (.if_icmp .eq 7, 3) := by decide +kernel
theorem dX12_isAllowed_26 : decode cX12_isAllowed 26 = .ok (.iconst 1, 1) := by decide +kernel
theorem dX12_isAllowed_27 : decode cX12_isAllowed 27 = .ok (.goto 4, 3) := by decide +kernel
theorem dX12_isAllowed_30 : decode cX12_isAllowed 30 = .ok (.iconst 0, 1) := by decide +kernel
theorem dX12_isAllowed_31 : decode cX12_isAllowed 31 = .ok (.ireturn, 1) := by decide +kernel
theorem dX12_qIsOn_0 : decode cX12_qIsOn 0 = .ok (.aload_n 0, 1) := by decide +kernel
theorem dX12_qIsOn_1 : decode cX12_qIsOn 1 = .ok (.getfield 355, 3) := by decide +kernel
theorem dX12_qIsOn_4 : decode cX12_qIsOn 4 = .ok (.ifCond .le 22, 3) := by decide +kernel
theorem dX12_qIsOn_7 : decode cX12_qIsOn 7 = .ok (.aload_n 0, 1) := by decide +kernel
theorem dX12_qIsOn_8 : decode cX12_qIsOn 8 = .ok (.getfield 251, 3) := by decide +kernel
theorem dX12_qIsOn_11 : decode cX12_qIsOn 11 = .ok (.aload_n 0, 1) := by decide +kernel
theorem dX12_qIsOn_12 : decode cX12_qIsOn 12 = .ok (.getfield 355, 3) := by decide +kernel
theorem dX12_qIsOn_15 : decode cX12_qIsOn 15 = .ok (.iconst 1, 1) := by decide +kernel
theorem dX12_qIsOn_16 : decode cX12_qIsOn 16 = .ok (.isub, 1) := by decide +kernel
theorem dX12_qIsOn_17 : decode cX12_qIsOn 17 = .ok (.iaload, 1) := by decide +kernel
theorem dX12_qIsOn_18 : decode cX12_qIsOn 18 = .ok (.iload_n 1, 1) := by decide +kernel
theorem dX12_qIsOn_19 : decode cX12_qIsOn 19 = .ok (.if_icmp .ne 7, 3) := by decide +kernel
theorem dX12_qIsOn_22 : decode cX12_qIsOn 22 = .ok (.iconst 1, 1) := by decide +kernel
theorem dX12_qIsOn_23 : decode cX12_qIsOn 23 = .ok (.goto 4, 3) := by decide +kernel
theorem dX12_qIsOn_26 : decode cX12_qIsOn 26 = .ok (.iconst 0, 1) := by decide +kernel
theorem dX12_qIsOn_27 : decode cX12_qIsOn 27 = .ok (.ireturn, 1) := by decide +kernel
theorem dX12_image_0 : decode cX12_image 0 = .ok (.aload_n 0, 1) := by decide +kernel
theorem dX12_image_1 : decode cX12_image 1 = .ok (.iconst 0, 1) := by decide +kernel
theorem dX12_image_2 : decode cX12_image 2 = .ok (.putfield 686, 3) := by decide +kernel
theorem dX12_image_5 : decode cX12_image 5 = .ok (.aload_n 0, 1) := by decide +kernel
theorem dX12_image_6 : decode cX12_image 6 = .ok (.aload_n 0, 1) := by decide +kernel
theorem dX12_image_7 : decode cX12_image 7 = .ok (.getfield 142, 3) := by decide +kernel
theorem dX12_image_10 : decode cX12_image 10 = .ok (.iconst 0, 1) := by decide +kernel
theorem dX12_image_11 : decode cX12_image 11 = .ok (.iaload, 1) := by decide +kernel
theorem dX12_image_12 : decode cX12_image 12 = .ok (.sipush 256, 3) := by decide +kernel
theorem dX12_image_15 : decode cX12_image 15 = .ok (.idiv, 1) := by decide +kernel
theorem dX12_image_16 : decode cX12_image 16 = .ok (.invokevirtual 689, 3) := by decide +kernel
theorem dX12_image_19 : decode cX12_image 19 = .ok (.aload_n 0, 1) := by decide +kernel
theorem dX12_image_20 : decode cX12_image 20 = .ok (.aload_n 0, 1) := by decide +kernel
theorem dX12_image_21 : decode cX12_image 21 = .ok (.getfield 142, 3) := by decide +kernel
theorem dX12_image_24 : decode cX12_image 24 = .ok (.iconst 0, 1) := by decide +kernel
theorem dX12_image_25 : decode cX12_image 25 = .ok (.iaload, 1) := by decide +kernel
theorem dX12_image_26 : decode cX12_image 26 = .ok (.sipush 256, 3) := by decide +kernel
theorem dX12_image_29 : decode cX12_image 29 = .ok (.irem, 1) := by decide +kernel
theorem dX12_image_30 : decode cX12_image 30 = .ok (.invokevirtual 689, 3) := by decide +kernel
theorem dX12_image_33 : decode cX12_image 33 = .ok (.iconst 0, 1) := by decide +kernel
theorem dX12_image_34 : decode cX12_image 34 = .ok (.istore_n 1, 1) := by decide +kernel
theorem dX12_image_35 : decode cX12_image 35 = .ok (.iload_n 1, 1) := by decide +kernel
theorem dX12_image_36 : decode cX12_image 36 = .ok (.aload_n 0, 1) := by decide +kernel
theorem dX12_image_37 : decode cX12_image 37 = .ok (.invokevirtual 422, 3) := by decide +kernel
theorem dX12_image_40 : decode cX12_image 40 = .ok (.if_icmp .ge 18, 3) := by decide +kernel
theorem dX12_image_43 : decode cX12_image 43 = .ok (.aload_n 0, 1) := by decide +kernel
theorem dX12_image_44 : decode cX12_image 44 = .ok (.aload_n 0, 1) := by decide +kernel
theorem dX12_image_45 : decode cX12_image 45 = .ok (.iload_n 1, 1) := by decide +kernel
theorem dX12_image_46 : decode cX12_image 46 = .ok (.invokevirtual 458, 3) := by decide +kernel
theorem dX12_image_49 : decode cX12_image 49 = .ok (.invokevirtual 689, 3) := by decide +kernel
theorem dX12_image_52 : decode cX12_image 52 = .ok (.iinc 1 1, 3) := by decide +kernel
theorem dX12_image_55 : decode cX12_image 55 = .ok (.goto (-20), 3) := by decide +kernel
theorem dX12_image_58 : decode cX12_image 58 = .ok (.iconst 0, 1) := by decide +kernel
theorem dX12_image_59 : decode cX12_image 59 = .ok (.istore_n 1, 1) := by decide +kernel
theorem dX12_image_60 : decode cX12_image 60 = .ok (.iload_n 1, 1) := by decide +kernel
theorem dX12_image_61 : decode cX12_image 61 = .ok (.aload_n 0, 1) := by decide +kernel
theorem dX12_image_62 : decode cX12_image 62 = .ok (.invokevirtual 410, 3) := by decide +kernel
theorem dX12_image_65 : decode cX12_image 65 = .ok (.if_icmp .ge 21, 3) := by decide +kernel
theorem dX12_image_68 : decode cX12_image 68 = .ok (.aload_n 0, 1) := by decide +kernel
theorem dX12_image_69 : decode cX12_image 69 = .ok (.aload_n 0, 1) := by decide +kernel
theorem dX12_image_70 : decode cX12_image 70 = .ok (.getfield 142, 3) := by decide +kernel
theorem dX12_image_73 : decode cX12_image 73 = .ok (.iconst 4, 1) := by decide +kernel
theorem dX12_image_74 : decode cX12_image 74 = .ok (.iload_n 1, 1) := by decide +kernel
theorem dX12_image_75 : decode cX12_image 75 = .ok (.iadd, 1) := by decide +kernel
theorem dX12_image_76 : decode cX12_image 76 = .ok (.iaload, 1) := by decide +kernel
theorem dX12_image_77 : decode cX12_image 77 = .ok (.invokevirtual 689, 3) := by decide +kernel
theorem dX12_image_80 : decode cX12_image 80 = .ok (.iinc 1 1, 3) := by decide +kernel
theorem dX12_image_83 : decode cX12_image 83 = .ok (.goto (-23), 3) := by decide +kernel
theorem dX12_image_86 : decode cX12_image 86 = .ok (.iconst 0, 1) := by decide +kernel
theorem dX12_image_87 : decode cX12_image 87 = .ok (.istore_n 1, 1) := by decide +kernel
theorem dX12_image_88 : decode cX12_image 88 = .ok (.iload_n 1, 1) := by decide +kernel
theorem dX12_image_89 : decode cX12_image 89 = .ok (.iconst 3, 1) := by decide +kernel
theorem dX12_image_90 : decode cX12_image 90 = .ok (.aload_n 0, 1) := by decide +kernel
theorem dX12_image_91 : decode cX12_image 91 = .ok (.invokevirtual 419, 3) := by decide +kernel
theorem dX12_image_94 : decode cX12_image 94 = .ok (.imul, 1) := by decide +kernel
theorem dX12_image_95 : decode cX12_image 95 = .ok (.if_icmp .ge 22, 3) := by decide +kernel
theorem dX12_image_98 : decode cX12_image 98 = .ok (.aload_n 0, 1) := by decide +kernel
theorem dX12_image_99 : decode cX12_image 99 = .ok (.aload_n 0, 1) := by decide +kernel
theorem dX12_image_100 : decode cX12_image 100 = .ok (.getfield 142, 3) := by decide +kernel
theorem dX12_image_103 : decode cX12_image 103 = .ok (.bipush 8, 2) := by decide +kernel
theorem dX12_image_105 : decode cX12_image 105 = .ok (.iload_n 1, 1) := by decide +kernel
theorem dX12_image_106 : decode cX12_image 106 = .ok (.iadd, 1) := by decide +kernel
theorem dX12_image_107 : decode cX12_image 107 = .ok (.iaload, 1) := by decide +kernel
theorem dX12_image_108 : decode cX12_image 108 = .ok (.invokevirtual 689, 3) := by decide +kernel
theorem dX12_image_111 : decode cX12_image 111 = .ok (.iinc 1 1, 3) := by decide +kernel
theorem dX12_image_114 : decode cX12_image 114 = .ok (.goto (-26), 3) := by decide +kernel
theorem dX12_image_117 : decode cX12_image 117 = .ok (.aload_n 0, 1) := by decide +kernel
theorem dX12_image_118 : decode cX12_image 118 = .ok (.aload_n 0, 1) := by decide +kernel
theorem dX12_image_119 : decode cX12_image 119 = .ok (.getfield 257, 3) := by decide +kernel
theorem dX12_image_122 : decode cX12_image 122 = .ok (.aload_n 0, 1) := by decide +kernel
theorem dX12_image_123 : decode cX12_image 123 = .ok (.getfield 686, 3) := by decide +kernel
theorem dX12_image_126 : decode cX12_image 126 = .ok (.invokestatic 692, 3) := by decide +kernel
theorem dX12_image_129 : decode cX12_image 129 = .ok (.invokevirtual 689, 3) := by decide +kernel
theorem dX12_image_132 : decode cX12_image 132 = .ok (.aload_n 0, 1) := by decide +kernel
theorem dX12_image_133 : decode cX12_image 133 = .ok (.getfield 686, 3) := by decide +kernel
theorem dX12_image_136 : decode cX12_image 136 = .ok (.ireturn, 1) := by decide +kernel
theorem dX12_qOf_0 : decode cX12_qOf 0 = .ok (.iload_n 1, 1) := by decide +kernel
theorem dX12_qOf_1 : decode cX12_qOf 1 = .ok (.lookupswitch 11 #[], 11) := by decide +kernel
theorem dX12_qOf_12 : decode cX12_qOf 12 = .ok (.lload_n 2, 1) := by decide +kernel
theorem dX12_qOf_13 : decode cX12_qOf 13 = .ok (.lconst 0, 1) := by decide +kernel
theorem dX12_qOf_14 : decode cX12_qOf 14 = .ok (.aload_n 0, 1) := by decide +kernel
theorem dX12_qOf_15 : decode cX12_qOf 15 = .ok (.invokevirtual 410, 3) := by decide +kernel
theorem dX12_qOf_18 : decode cX12_qOf 18 = .ok (.iconst 1, 1) := by decide +kernel
theorem dX12_qOf_19 : decode cX12_qOf 19 = .ok (.isub, 1) := by decide +kernel
theorem dX12_qOf_20 : decode cX12_qOf 20 = .ok (.i2l, 1) := by decide +kernel
theorem dX12_qOf_21 : decode cX12_qOf 21 = .ok (.invokestatic 303, 3) := by decide +kernel
theorem dX12_qOf_24 : decode cX12_qOf 24 = .ok (.ifCond .eq 15, 3) := by decide +kernel
theorem dX12_qOf_27 : decode cX12_qOf 27 = .ok (.aload_n 0, 1) := by decide +kernel
theorem dX12_qOf_28 : decode cX12_qOf 28 = .ok (.iload 4, 2) := by decide +kernel
theorem dX12_qOf_30 : decode cX12_qOf 30 = .ok (.lload_n 2, 1) := by decide +kernel
theorem dX12_qOf_31 : decode cX12_qOf 31 = .ok (.l2i, 1) := by decide +kernel
theorem dX12_qOf_32 : decode cX12_qOf 32 = .ok (.invokevirtual 425, 3) := by decide +kernel
theorem dX12_qOf_35 : decode cX12_qOf 35 = .ok (.i2l, 1) := by decide +kernel
theorem dX12_qOf_36 : decode cX12_qOf 36 = .ok (.goto 4, 3) := by decide +kernel
theorem dX12_qOf_39 : decode cX12_qOf 39 = .ok (.lconst 0, 1) := by decide +kernel
theorem dX12_qOf_40 : decode cX12_qOf 40 = .ok (.lreturn, 1) := by decide +kernel
theorem dX12_name_0 : decode cX12_name 0 = .ok (.aload_n 0, 1) := by decide +kernel
theorem dX12_name_1 : decode cX12_name 1 = .ok (.getfield 263, 3) := by decide +kernel
theorem dX12_name_4 : decode cX12_name 4 = .ok (.ifCond .eq 5, 3) := by decide +kernel
theorem dX12_name_7 : decode cX12_name 7 = .ok (.lconst 0, 1) := by decide +kernel
theorem dX12_name_8 : decode cX12_name 8 = .ok (.lreturn, 1) := by decide +kernel
theorem dX12_name_9 : decode cX12_name 9 = .ok (.aload_n 0, 1) := by decide +kernel
theorem dX12_name_10 : decode cX12_name 10 = .ok (.invokevirtual 275, 3) := by decide +kernel
theorem dX12_name_13 : decode cX12_name 13 = .ok (.invokestatic 279, 3) := by decide +kernel
theorem dX12_name_16 : decode cX12_name 16 = .ok (.ifCond .eq 21, 3) := by decide +kernel
theorem dX12_name_19 : decode cX12_name 19 = .ok (.aload_n 0, 1) := by decide +kernel
theorem dX12_name_20 : decode cX12_name 20 = .ok (.getfield 269, 3) := by decide +kernel
theorem dX12_name_23 : decode cX12_name 23 = .ok (.aload_n 0, 1) := by decide +kernel
theorem dX12_name_24 : decode cX12_name 24 = .ok (.getfield 283, 3) := by decide +kernel
theorem dX12_name_27 : decode cX12_name 27 = .ok (.if_icmp .eq 10, 3) := by decide +kernel
theorem dX12_name_30 : decode cX12_name 30 = .ok (.aload_n 0, 1) := by decide +kernel
theorem dX12_name_31 : decode cX12_name 31 = .ok (.invokevirtual 307, 3) := by decide +kernel
theorem dX12_name_34 : decode cX12_name 34 = .ok (.ifCond .eq 14, 3) := by decide +kernel
theorem dX12_name_37 : decode cX12_name 37 = .ok (.aload_n 0, 1) := by decide +kernel
theorem dX12_name_38 : decode cX12_name 38 = .ok (.iconst 1, 1) := by decide +kernel
theorem dX12_name_39 : decode cX12_name 39 = .ok (.aload_n 0, 1) := by decide +kernel
theorem dX12_name_40 : decode cX12_name 40 = .ok (.getfield 269, 3) := by decide +kernel
theorem dX12_name_43 : decode cX12_name 43 = .ok (.invokevirtual 293, 3) := by decide +kernel
theorem dX12_name_46 : decode cX12_name 46 = .ok (.lconst 0, 1) := by decide +kernel
theorem dX12_name_47 : decode cX12_name 47 = .ok (.lreturn, 1) := by decide +kernel
theorem dX12_name_48 : decode cX12_name 48 = .ok (.aload_n 0, 1) := by decide +kernel
theorem dX12_name_49 : decode cX12_name 49 = .ok (.aload_n 0, 1) := by decide +kernel
theorem dX12_name_50 : decode cX12_name 50 = .ok (.getfield 269, 3) := by decide +kernel
theorem dX12_name_53 : decode cX12_name 53 = .ok (.putfield 311, 3) := by decide +kernel
theorem dX12_name_56 : decode cX12_name 56 = .ok (.lconst 0, 1) := by decide +kernel
theorem dX12_name_57 : decode cX12_name 57 = .ok (.lstore_n 1, 1) := by decide +kernel
theorem dX12_name_58 : decode cX12_name 58 = .ok (.aload_n 0, 1) := by decide +kernel
theorem dX12_name_59 : decode cX12_name 59 = .ok (.getfield 269, 3) := by decide +kernel
theorem dX12_name_62 : decode cX12_name 62 = .ok (.aload_n 0, 1) := by decide +kernel
theorem dX12_name_63 : decode cX12_name 63 = .ok (.getfield 272, 3) := by decide +kernel
theorem dX12_name_66 : decode cX12_name 66 = .ok (.if_icmp .ge 79, 3) := by decide +kernel
theorem dX12_name_69 : decode cX12_name 69 = .ok (.aload_n 0, 1) := by decide +kernel
theorem dX12_name_70 : decode cX12_name 70 = .ok (.getfield 7, 3) := by decide +kernel
theorem dX12_name_73 : decode cX12_name 73 = .ok (.aload_n 0, 1) := by decide +kernel
theorem dX12_name_74 : decode cX12_name 74 = .ok (.getfield 269, 3) := by decide +kernel
theorem dX12_name_77 : decode cX12_name 77 = .ok (.iaload, 1) := by decide +kernel
theorem dX12_name_78 : decode cX12_name 78 = .ok (.invokestatic 279, 3) := by decide +kernel
theorem dX12_name_81 : decode cX12_name 81 = .ok (.ifCond .eq 64, 3) := by decide +kernel
theorem dX12_name_84 : decode cX12_name 84 = .ok (.aload_n 0, 1) := by decide +kernel
theorem dX12_name_85 : decode cX12_name 85 = .ok (.getfield 269, 3) := by decide +kernel
theorem dX12_name_88 : decode cX12_name 88 = .ok (.aload_n 0, 1) := by decide +kernel
theorem dX12_name_89 : decode cX12_name 89 = .ok (.getfield 311, 3) := by decide +kernel
theorem dX12_name_92 : decode cX12_name 92 = .ok (.isub, 1) := by decide +kernel
theorem dX12_name_93 : decode cX12_name 93 = .ok (.bipush 6, 2) := by decide +kernel
theorem dX12_name_95 : decode cX12_name 95 = .ok (.if_icmp .ne 14, 3) := by decide +kernel
theorem dX12_name_98 : decode cX12_name 98 = .ok (.aload_n 0, 1) := by decide +kernel
theorem dX12_name_99 : decode cX12_name 99 = .ok (.iconst 1, 1) := by decide +kernel
theorem dX12_name_100 : decode cX12_name 100 = .ok (.aload_n 0, 1) := by decide +kernel
theorem dX12_name_101 : decode cX12_name 101 = .ok (.getfield 269, 3) := by decide +kernel
theorem dX12_name_104 : decode cX12_name 104 = .ok (.invokevirtual 293, 3) := by decide +kernel
theorem dX12_name_107 : decode cX12_name 107 = .ok (.lconst 0, 1) := by decide +kernel
theorem dX12_name_108 : decode cX12_name 108 = .ok (.lreturn, 1) := by decide +kernel
theorem dX12_name_109 : decode cX12_name 109 = .ok (.ldc2_w 314, 3) := by decide +kernel
theorem dX12_name_112 : decode cX12_name 112 = .ok (.lload_n 1, 1) := by decide +kernel
theorem dX12_name_113 : decode cX12_name 113 = .ok (.lmul, 1) := by decide +kernel
theorem dX12_name_114 : decode cX12_name 114 = .ok (.aload_n 0, 1) := by decide +kernel
theorem dX12_name_115 : decode cX12_name 115 = .ok (.getfield 7, 3) := by decide +kernel
theorem dX12_name_118 : decode cX12_name 118 = .ok (.aload_n 0, 1) := by decide +kernel
theorem dX12_name_119 : decode cX12_name 119 = .ok (.getfield 269, 3) := by decide +kernel
theorem dX12_name_122 : decode cX12_name 122 = .ok (.iaload, 1) := by decide +kernel
theorem dX12_name_123 : decode cX12_name 123 = .ok (.i2l, 1) := by decide +kernel
theorem dX12_name_124 : decode cX12_name 124 = .ok (.ladd, 1) := by decide +kernel
theorem dX12_name_125 : decode cX12_name 125 = .ok (.ldc2_w 316, 3) := by decide +kernel
theorem dX12_name_128 : decode cX12_name 128 = .ok (.lsub, 1) := by decide +kernel
theorem dX12_name_129 : decode cX12_name 129 = .ok (.lconst 1, 1) := by decide +kernel
theorem dX12_name_130 : decode cX12_name 130 = .ok (.ladd, 1) := by decide +kernel
theorem dX12_name_131 : decode cX12_name 131 = .ok (.lstore_n 1, 1) := by decide +kernel
theorem dX12_name_132 : decode cX12_name 132 = .ok (.aload_n 0, 1) := by decide +kernel
theorem dX12_name_133 : decode cX12_name 133 = .ok (.dup, 1) := by decide +kernel
theorem dX12_name_134 : decode cX12_name 134 = .ok (.getfield 269, 3) := by decide +kernel
theorem dX12_name_137 : decode cX12_name 137 = .ok (.iconst 1, 1) := by decide +kernel
theorem dX12_name_138 : decode cX12_name 138 = .ok (.iadd, 1) := by decide +kernel
theorem dX12_name_139 : decode cX12_name 139 = .ok (.putfield 269, 3) := by decide +kernel
theorem dX12_name_142 : decode cX12_name 142 = .ok (.goto (-84), 3) := by decide +kernel
theorem dX12_name_145 : decode cX12_name 145 = .ok (.aload_n 0, 1) := by decide +kernel
theorem dX12_name_146 : decode cX12_name 146 = .ok (.aload_n 0, 1) := by decide +kernel
theorem dX12_name_147 : decode cX12_name 147 = .ok (.getfield 269, 3) := by decide +kernel
theorem dX12_name_150 : decode cX12_name 150 = .ok (.putfield 283, 3) := by decide +kernel
theorem dX12_name_153 : decode cX12_name 153 = .ok (.lload_n 1, 1) := by decide +kernel
theorem dX12_name_154 : decode cX12_name 154 = .ok (.lreturn, 1) := by decide +kernel
theorem dX12_putsAside_0 : decode cX12_putsAside 0 = .ok (.iconst 0, 1) := by decide +kernel
theorem dX12_putsAside_1 : decode cX12_putsAside 1 = .ok (.istore_n 1, 1) := by decide +kernel
theorem dX12_putsAside_2 : decode cX12_putsAside 2 = .ok (.iload_n 1, 1) := by decide +kernel
theorem dX12_putsAside_3 : decode cX12_putsAside 3 = .ok (.bipush 32, 2) := by decide +kernel
theorem dX12_putsAside_5 : decode cX12_putsAside 5 = .ok (.if_icmp .ge 21, 3) := by decide +kernel
theorem dX12_putsAside_8 : decode cX12_putsAside 8 = .ok (.aload_n 0, 1) := by decide +kernel
theorem dX12_putsAside_9 : decode cX12_putsAside 9 = .ok (.getfield 145, 3) := by decide +kernel
theorem dX12_putsAside_12 : decode cX12_putsAside 12 = .ok (.iload_n 1, 1) := by decide +kernel
theorem dX12_putsAside_13 : decode cX12_putsAside 13 = .ok (.aload_n 0, 1) := by decide +kernel
theorem dX12_putsAside_14 : decode cX12_putsAside 14 = .ok (.getfield 142, 3) := by decide +kernel
theorem dX12_putsAside_17 : decode cX12_putsAside 17 = .ok (.iload_n 1, 1) := by decide +kernel
theorem dX12_putsAside_18 : decode cX12_putsAside 18 = .ok (.iaload, 1) := by decide +kernel
theorem dX12_putsAside_19 : decode cX12_putsAside 19 = .ok (.iastore, 1) := by decide +kernel
theorem dX12_putsAside_20 : decode cX12_putsAside 20 = .ok (.iinc 1 1, 3) := by decide +kernel
theorem dX12_putsAside_23 : decode cX12_putsAside 23 = .ok (.goto (-21), 3) := by decide +kernel
theorem dX12_putsAside_26 : decode cX12_putsAside 26 = .ok (.return_, 1) := by decide +kernel
theorem dX12_qClip_0 : decode cX12_qClip 0 = .ok (.lload_n 0, 1) := by decide +kernel
theorem dX12_qClip_1 : decode cX12_qClip 1 = .ok (.ldc2_w 648, 3) := by decide +kernel
theorem dX12_qClip_4 : decode cX12_qClip 4 = .ok (.lcmp, 1) := by decide +kernel
theorem dX12_qClip_5 : decode cX12_qClip 5 = .ok (.ifCond .le 9, 3) := by decide +kernel
theorem dX12_qClip_8 : decode cX12_qClip 8 = .ok (.ldc2_w 648, 3) := by decide +kernel
theorem dX12_qClip_11 : decode cX12_qClip 11 = .ok (.goto 18, 3) := by decide +kernel
theorem dX12_qClip_14 : decode cX12_qClip 14 = .ok (.lload_n 0, 1) := by decide +kernel
theorem dX12_qClip_15 : decode cX12_qClip 15 = .ok (.ldc2_w 650, 3) := by decide +kernel
theorem dX12_qClip_18 : decode cX12_qClip 18 = .ok (.lcmp, 1) := by decide +kernel
theorem dX12_qClip_19 : decode cX12_qClip 19 = .ok (.ifCond .ge 9, 3) := by decide +kernel
theorem dX12_qClip_22 : decode cX12_qClip 22 = .ok (.ldc2_w 650, 3) := by decide +kernel
theorem dX12_qClip_25 : decode cX12_qClip 25 = .ok (.goto 4, 3) := by decide +kernel
theorem dX12_qClip_28 : decode cX12_qClip 28 = .ok (.lload_n 0, 1) := by decide +kernel
theorem dX12_qClip_29 : decode cX12_qClip 29 = .ok (.lreturn, 1) := by decide +kernel
theorem dX12_codesTold_0 : decode cX12_codesTold 0 = .ok (.aload_n 0, 1) := by decide +kernel
theorem dX12_codesTold_1 : decode cX12_codesTold 1 = .ok (.getfield 263, 3) := by decide +kernel
theorem dX12_codesTold_4 : decode cX12_codesTold 4 = .ok (.ifCond .ne 19, 3) := by decide +kernel
theorem dX12_codesTold_7 : decode cX12_codesTold 7 = .ok (.aload_n 0, 1) := by decide +kernel
theorem dX12_codesTold_8 : decode cX12_codesTold 8 = .ok (.getfield 133, 3) := by decide +kernel
theorem dX12_codesTold_11 : decode cX12_codesTold 11 = .ok (.iload_n 1, 1) := by decide +kernel
theorem dX12_codesTold_12 : decode cX12_codesTold 12 = .ok (.iaload, 1) := by decide +kernel
theorem dX12_codesTold_13 : decode cX12_codesTold 13 = .ok (.iconst (-1), 1) := by decide +kernel
theorem dX12_codesTold_14 : decode cX12_codesTold 14 = .ok (.if_icmp .eq 9, 3) := by decide +kernel
theorem dX12_codesTold_17 : decode cX12_codesTold 17 = .ok (.aload_n 0, 1) := by decide +kernel
theorem dX12_codesTold_18 : decode cX12_codesTold 18 = .ok (.iconst 5, 1) := by decide +kernel
theorem dX12_codesTold_19 : decode cX12_codesTold 19 = .ok (.iload_n 2, 1) := by decide +kernel
theorem dX12_codesTold_20 : decode cX12_codesTold 20 = .ok (.invokevirtual 293, 3) := by decide +kernel
theorem dX12_codesTold_23 : decode cX12_codesTold 23 = .ok (.aload_n 0, 1) := by decide +kernel
theorem dX12_codesTold_24 : decode cX12_codesTold 24 = .ok (.getfield 263, 3) := by decide +kernel
theorem dX12_codesTold_27 : decode cX12_codesTold 27 = .ok (.ifCond .eq 4, 3) := by decide +kernel
theorem dX12_codesTold_30 : decode cX12_codesTold 30 = .ok (.return_, 1) := by decide +kernel
theorem dX12_codesTold_31 : decode cX12_codesTold 31 = .ok (.aload_n 0, 1) := by decide +kernel
theorem dX12_codesTold_32 : decode cX12_codesTold 32 = .ok (.iconst 1, 1) := by decide +kernel
theorem dX12_codesTold_33 : decode cX12_codesTold 33 = .ok (.putfield 318, 3) := by decide +kernel
theorem dX12_codesTold_36 : decode cX12_codesTold 36 = .ok (.aload_n 0, 1) := by decide +kernel
theorem dX12_codesTold_37 : decode cX12_codesTold 37 = .ok (.iconst 0, 1) := by decide +kernel
theorem dX12_codesTold_38 : decode cX12_codesTold 38 = .ok (.putfield 352, 3) := by decide +kernel
theorem dX12_codesTold_41 : decode cX12_codesTold 41 = .ok (.aload_n 0, 1) := by decide +kernel
theorem dX12_codesTold_42 : decode cX12_codesTold 42 = .ok (.iconst 0, 1) := by decide +kernel
theorem dX12_codesTold_43 : decode cX12_codesTold 43 = .ok (.putfield 355, 3) := by decide +kernel
theorem dX12_codesTold_46 : decode cX12_codesTold 46 = .ok (.aload_n 0, 1) := by decide +kernel
theorem dX12_codesTold_47 : decode cX12_codesTold 47 = .ok (.iconst 0, 1) := by decide +kernel
theorem dX12_codesTold_48 : decode cX12_codesTold 48 = .ok (.putfield 358, 3) := by decide +kernel
theorem dX12_codesTold_51 : decode cX12_codesTold 51 = .ok (.aload_n 0, 1) := by decide +kernel
theorem dX12_codesTold_52 : decode cX12_codesTold 52 = .ok (.iconst 0, 1) := by decide +kernel
theorem dX12_codesTold_53 : decode cX12_codesTold 53 = .ok (.putfield 361, 3) := by decide +kernel
theorem dX12_codesTold_56 : decode cX12_codesTold 56 = .ok (.aload_n 0, 1) := by decide +kernel
theorem dX12_codesTold_57 : decode cX12_codesTold 57 = .ok (.invokevirtual 364, 3) := by decide +kernel
theorem dX12_codesTold_60 : decode cX12_codesTold 60 = .ok (.aload_n 0, 1) := by decide +kernel
theorem dX12_codesTold_61 : decode cX12_codesTold 61 = .ok (.getfield 263, 3) := by decide +kernel
theorem dX12_codesTold_64 : decode cX12_codesTold 64 = .ok (.ifCond .eq 4, 3) := by decide +kernel
theorem dX12_codesTold_67 : decode cX12_codesTold 67 = .ok (.return_, 1) := by decide +kernel
theorem dX12_codesTold_68 : decode cX12_codesTold 68 = .ok (.aload_n 0, 1) := by decide +kernel
theorem dX12_codesTold_69 : decode cX12_codesTold 69 = .ok (.getfield 133, 3) := by decide +kernel
theorem dX12_codesTold_72 : decode cX12_codesTold 72 = .ok (.iload_n 1, 1) := by decide +kernel
theorem dX12_codesTold_73 : decode cX12_codesTold 73 = .ok (.aload_n 0, 1) := by decide +kernel
theorem dX12_codesTold_74 : decode cX12_codesTold 74 = .ok (.getfield 367, 3) := by decide +kernel
theorem dX12_codesTold_77 : decode cX12_codesTold 77 = .ok (.iastore, 1) := by decide +kernel
theorem dX12_codesTold_78 : decode cX12_codesTold 78 = .ok (.iconst 0, 1) := by decide +kernel
theorem dX12_codesTold_79 : decode cX12_codesTold 79 = .ok (.istore_n 3, 1) := by decide +kernel
theorem dX12_codesTold_80 : decode cX12_codesTold 80 = .ok (.iload_n 3, 1) := by decide +kernel
theorem dX12_codesTold_81 : decode cX12_codesTold 81 = .ok (.aload_n 0, 1) := by decide +kernel
theorem dX12_codesTold_82 : decode cX12_codesTold 82 = .ok (.getfield 352, 3) := by decide +kernel
theorem dX12_codesTold_85 : decode cX12_codesTold 85 = .ok (.if_icmp .ge 34, 3) := by decide +kernel
theorem dX12_codesTold_88 : decode cX12_codesTold 88 = .ok (.aload_n 0, 1) := by decide +kernel
theorem dX12_codesTold_89 : decode cX12_codesTold 89 = .ok (.getfield 139, 3) := by decide +kernel
theorem dX12_codesTold_92 : decode cX12_codesTold 92 = .ok (.aload_n 0, 1) := by decide +kernel
theorem dX12_codesTold_93 : decode cX12_codesTold 93 = .ok (.getfield 367, 3) := by decide +kernel
theorem dX12_codesTold_96 : decode cX12_codesTold 96 = .ok (.aload_n 0, 1) := by decide +kernel
theorem dX12_codesTold_97 : decode cX12_codesTold 97 = .ok (.getfield 248, 3) := by decide +kernel
theorem dX12_codesTold_100 : decode cX12_codesTold 100 = .ok (.iload_n 3, 1) := by decide +kernel
theorem dX12_codesTold_101 : decode cX12_codesTold 101 = .ok (.iaload, 1) := by decide +kernel
theorem dX12_codesTold_102 : decode cX12_codesTold 102 = .ok (.iastore, 1) := by decide +kernel
theorem dX12_codesTold_103 : decode cX12_codesTold 103 = .ok (.aload_n 0, 1) := by decide +kernel
theorem dX12_codesTold_104 : decode cX12_codesTold 104 = .ok (.dup, 1) := by decide +kernel
theorem dX12_codesTold_105 : decode cX12_codesTold 105 = .ok (.getfield 367, 3) := by decide +kernel
theorem dX12_codesTold_108 : decode cX12_codesTold 108 = .ok (.iconst 1, 1) := by decide +kernel
theorem dX12_codesTold_109 : decode cX12_codesTold 109 = .ok (.iadd, 1) := by decide +kernel
theorem dX12_codesTold_110 : decode cX12_codesTold 110 = .ok (.putfield 367, 3) := by decide +kernel
theorem dX12_codesTold_113 : decode cX12_codesTold 113 = .ok (.iinc 3 1, 3) := by decide +kernel
theorem dX12_codesTold_116 : decode cX12_codesTold 116 = .ok (.goto (-36), 3) := by decide +kernel
theorem dX12_codesTold_119 : decode cX12_codesTold 119 = .ok (.aload_n 0, 1) := by decide +kernel
theorem dX12_codesTold_120 : decode cX12_codesTold 120 = .ok (.getfield 136, 3) := by decide +kernel
theorem dX12_codesTold_123 : decode cX12_codesTold 123 = .ok (.iload_n 1, 1) := by decide +kernel
theorem dX12_codesTold_124 : decode cX12_codesTold 124 = .ok (.aload_n 0, 1) := by decide +kernel
theorem dX12_codesTold_125 : decode cX12_codesTold 125 = .ok (.getfield 367, 3) := by decide +kernel
theorem dX12_codesTold_128 : decode cX12_codesTold 128 = .ok (.iastore, 1) := by decide +kernel
theorem dX12_codesTold_129 : decode cX12_codesTold 129 = .ok (.return_, 1) := by decide +kernel
theorem dX12_letterTold_0 : decode cX12_letterTold 0 = .ok (.aload_n 0, 1) := by decide +kernel
theorem dX12_letterTold_1 : decode cX12_letterTold 1 = .ok (.iconst 0, 1) := by decide +kernel
theorem dX12_letterTold_2 : decode cX12_letterTold 2 = .ok (.bipush 8, 2) := by decide +kernel
theorem dX12_letterTold_4 : decode cX12_letterTold 4 = .ok (.iload_n 1, 1) := by decide +kernel
theorem dX12_letterTold_5 : decode cX12_letterTold 5 = .ok (.invokevirtual 330, 3) := by decide +kernel
theorem dX12_letterTold_8 : decode cX12_letterTold 8 = .ok (.ifCond .eq 4, 3) := by decide +kernel
theorem dX12_letterTold_11 : decode cX12_letterTold 11 = .ok (.return_, 1) := by decide +kernel
theorem dX12_letterTold_12 : decode cX12_letterTold 12 = .ok (.aload_n 0, 1) := by decide +kernel
theorem dX12_letterTold_13 : decode cX12_letterTold 13 = .ok (.invokevirtual 334, 3) := by decide +kernel
theorem dX12_letterTold_16 : decode cX12_letterTold 16 = .ok (.lstore_n 2, 1) := by decide +kernel
theorem dX12_letterTold_17 : decode cX12_letterTold 17 = .ok (.aload_n 0, 1) := by decide +kernel
theorem dX12_letterTold_18 : decode cX12_letterTold 18 = .ok (.aload_n 0, 1) := by decide +kernel
theorem dX12_letterTold_19 : decode cX12_letterTold 19 = .ok (.getfield 24, 3) := by decide +kernel
theorem dX12_letterTold_22 : decode cX12_letterTold 22 = .ok (.invokevirtual 337, 3) := by decide +kernel
theorem dX12_letterTold_25 : decode cX12_letterTold 25 = .ok (.aload_n 0, 1) := by decide +kernel
theorem dX12_letterTold_26 : decode cX12_letterTold 26 = .ok (.iconst 0, 1) := by decide +kernel
theorem dX12_letterTold_27 : decode cX12_letterTold 27 = .ok (.bipush 20, 2) := by decide +kernel
theorem dX12_letterTold_29 : decode cX12_letterTold 29 = .ok (.invokevirtual 341, 3) := by decide +kernel
theorem dX12_letterTold_32 : decode cX12_letterTold 32 = .ok (.istore 4, 2) := by decide +kernel
theorem dX12_letterTold_34 : decode cX12_letterTold 34 = .ok (.aload_n 0, 1) := by decide +kernel
theorem dX12_letterTold_35 : decode cX12_letterTold 35 = .ok (.aload_n 0, 1) := by decide +kernel
theorem dX12_letterTold_36 : decode cX12_letterTold 36 = .ok (.getfield 27, 3) := by decide +kernel
theorem dX12_letterTold_39 : decode cX12_letterTold 39 = .ok (.invokevirtual 337, 3) := by decide +kernel
theorem dX12_letterTold_42 : decode cX12_letterTold 42 = .ok (.aload_n 0, 1) := by decide +kernel
theorem dX12_letterTold_43 : decode cX12_letterTold 43 = .ok (.iconst 0, 1) := by decide +kernel
theorem dX12_letterTold_44 : decode cX12_letterTold 44 = .ok (.bipush 9, 2) := by decide +kernel
theorem dX12_letterTold_46 : decode cX12_letterTold 46 = .ok (.invokevirtual 341, 3) := by decide +kernel
theorem dX12_letterTold_49 : decode cX12_letterTold 49 = .ok (.istore 5, 2) := by decide +kernel
theorem dX12_letterTold_51 : decode cX12_letterTold 51 = .ok (.aload_n 0, 1) := by decide +kernel
theorem dX12_letterTold_52 : decode cX12_letterTold 52 = .ok (.aload_n 0, 1) := by decide +kernel
theorem dX12_letterTold_53 : decode cX12_letterTold 53 = .ok (.getfield 30, 3) := by decide +kernel
theorem dX12_letterTold_56 : decode cX12_letterTold 56 = .ok (.invokevirtual 337, 3) := by decide +kernel
theorem dX12_letterTold_59 : decode cX12_letterTold 59 = .ok (.aload_n 0, 1) := by decide +kernel
theorem dX12_letterTold_60 : decode cX12_letterTold 60 = .ok (.iconst 0, 1) := by decide +kernel
theorem dX12_letterTold_61 : decode cX12_letterTold 61 = .ok (.bipush 10, 2) := by decide +kernel
theorem dX12_letterTold_63 : decode cX12_letterTold 63 = .ok (.invokevirtual 341, 3) := by decide +kernel
theorem dX12_letterTold_66 : decode cX12_letterTold 66 = .ok (.istore 6, 2) := by decide +kernel
theorem dX12_letterTold_68 : decode cX12_letterTold 68 = .ok (.aload_n 0, 1) := by decide +kernel
theorem dX12_letterTold_69 : decode cX12_letterTold 69 = .ok (.getfield 263, 3) := by decide +kernel
theorem dX12_letterTold_72 : decode cX12_letterTold 72 = .ok (.ifCond .eq 4, 3) := by decide +kernel
theorem dX12_letterTold_75 : decode cX12_letterTold 75 = .ok (.return_, 1) := by decide +kernel
theorem dX12_letterTold_76 : decode cX12_letterTold 76 = .ok (.iconst 3, 1) := by decide +kernel
theorem dX12_letterTold_77 : decode cX12_letterTold 77 = .ok (.aload_n 0, 1) := by decide +kernel
theorem dX12_letterTold_78 : decode cX12_letterTold 78 = .ok (.iconst 0, 1) := by decide +kernel
theorem dX12_letterTold_79 : decode cX12_letterTold 79 = .ok (.lload_n 2, 1) := by decide +kernel
theorem dX12_letterTold_80 : decode cX12_letterTold 80 = .ok (.invokevirtual 345, 3) := by decide +kernel
theorem dX12_letterTold_83 : decode cX12_letterTold 83 = .ok (.imul, 1) := by decide +kernel
theorem dX12_letterTold_84 : decode cX12_letterTold 84 = .ok (.istore 7, 2) := by decide +kernel
theorem dX12_letterTold_86 : decode cX12_letterTold 86 = .ok (.aload_n 0, 1) := by decide +kernel
theorem dX12_letterTold_87 : decode cX12_letterTold 87 = .ok (.getfield 112, 3) := by decide +kernel
theorem dX12_letterTold_90 : decode cX12_letterTold 90 = .ok (.iload 7, 2) := by decide +kernel
theorem dX12_letterTold_92 : decode cX12_letterTold 92 = .ok (.iload 4, 2) := by decide +kernel
theorem dX12_letterTold_94 : decode cX12_letterTold 94 = .ok (.iastore, 1) := by decide +kernel
theorem dX12_letterTold_95 : decode cX12_letterTold 95 = .ok (.aload_n 0, 1) := by decide +kernel
theorem dX12_letterTold_96 : decode cX12_letterTold 96 = .ok (.getfield 112, 3) := by decide +kernel
theorem dX12_letterTold_99 : decode cX12_letterTold 99 = .ok (.iload 7, 2) := by decide +kernel
theorem dX12_letterTold_101 : decode cX12_letterTold 101 = .ok (.iconst 1, 1) := by decide +kernel
theorem dX12_letterTold_102 : decode cX12_letterTold 102 = .ok (.iadd, 1) := by decide +kernel
theorem dX12_letterTold_103 : decode cX12_letterTold 103 = .ok (.iload 5, 2) := by decide +kernel
theorem dX12_letterTold_105 : decode cX12_letterTold 105 = .ok (.iastore, 1) := by decide +kernel
theorem dX12_letterTold_106 : decode cX12_letterTold 106 = .ok (.aload_n 0, 1) := by decide +kernel
theorem dX12_letterTold_107 : decode cX12_letterTold 107 = .ok (.getfield 112, 3) := by decide +kernel
theorem dX12_letterTold_110 : decode cX12_letterTold 110 = .ok (.iload 7, 2) := by decide +kernel
theorem dX12_letterTold_112 : decode cX12_letterTold 112 = .ok (.iconst 2, 1) := by decide +kernel
theorem dX12_letterTold_113 : decode cX12_letterTold 113 = .ok (.iadd, 1) := by decide +kernel
theorem dX12_letterTold_114 : decode cX12_letterTold 114 = .ok (.iload 6, 2) := by decide +kernel
theorem dX12_letterTold_116 : decode cX12_letterTold 116 = .ok (.iastore, 1) := by decide +kernel
theorem dX12_letterTold_117 : decode cX12_letterTold 117 = .ok (.return_, 1) := by decide +kernel
theorem dX12_isLetter_0 : decode cX12_isLetter 0 = .ok (.iload_n 0, 1) := by decide +kernel
theorem dX12_isLetter_1 : decode cX12_isLetter 1 = .ok (.bipush 97, 2) := by decide +kernel
theorem dX12_isLetter_3 : decode cX12_isLetter 3 = .ok (.if_icmp .lt 13, 3) := by decide +kernel
theorem dX12_isLetter_6 : decode cX12_isLetter 6 = .ok (.iload_n 0, 1) := by decide +kernel
theorem dX12_isLetter_7 : decode cX12_isLetter 7 = .ok (.bipush 122, 2) := by decide +kernel
theorem dX12_isLetter_9 : decode cX12_isLetter 9 = .ok (.if_icmp .gt 7, 3) := by decide +kernel
theorem dX12_isLetter_12 : decode cX12_isLetter 12 = .ok (.iconst 1, 1) := by decide +kernel
theorem dX12_isLetter_13 : decode cX12_isLetter 13 = .ok (.goto 4, 3) := by decide +kernel
theorem dX12_isLetter_16 : decode cX12_isLetter 16 = .ok (.iconst 0, 1) := by decide +kernel
theorem dX12_isLetter_17 : decode cX12_isLetter 17 = .ok (.ireturn, 1) := by decide +kernel
theorem dX12_heap_0 : decode cX12_heap 0 = .ok (.aload_n 0, 1) := by decide +kernel
theorem dX12_heap_1 : decode cX12_heap 1 = .ok (.aload_n 0, 1) := by decide +kernel
theorem dX12_heap_2 : decode cX12_heap 2 = .ok (.getfield 260, 3) := by decide +kernel
theorem dX12_heap_5 : decode cX12_heap 5 = .ok (.putfield 272, 3) := by decide +kernel
theorem dX12_heap_8 : decode cX12_heap 8 = .ok (.aload_n 0, 1) := by decide +kernel
theorem dX12_heap_9 : decode cX12_heap 9 = .ok (.iconst 0, 1) := by decide +kernel
theorem dX12_heap_10 : decode cX12_heap 10 = .ok (.putfield 260, 3) := by decide +kernel
theorem dX12_heap_13 : decode cX12_heap 13 = .ok (.aload_n 0, 1) := by decide +kernel
theorem dX12_heap_14 : decode cX12_heap 14 = .ok (.iconst 0, 1) := by decide +kernel
theorem dX12_heap_15 : decode cX12_heap 15 = .ok (.putfield 269, 3) := by decide +kernel
theorem dX12_heap_18 : decode cX12_heap 18 = .ok (.aload_n 0, 1) := by decide +kernel
theorem dX12_heap_19 : decode cX12_heap 19 = .ok (.iconst (-1), 1) := by decide +kernel
theorem dX12_heap_20 : decode cX12_heap 20 = .ok (.putfield 283, 3) := by decide +kernel
theorem dX12_heap_23 : decode cX12_heap 23 = .ok (.aload_n 0, 1) := by decide +kernel
theorem dX12_heap_24 : decode cX12_heap 24 = .ok (.iconst 0, 1) := by decide +kernel
theorem dX12_heap_25 : decode cX12_heap 25 = .ok (.putfield 263, 3) := by decide +kernel
theorem dX12_heap_28 : decode cX12_heap 28 = .ok (.aload_n 0, 1) := by decide +kernel
theorem dX12_heap_29 : decode cX12_heap 29 = .ok (.iconst (-1), 1) := by decide +kernel
theorem dX12_heap_30 : decode cX12_heap 30 = .ok (.putfield 266, 3) := by decide +kernel
theorem dX12_heap_33 : decode cX12_heap 33 = .ok (.aload_n 0, 1) := by decide +kernel
theorem dX12_heap_34 : decode cX12_heap 34 = .ok (.iconst 0, 1) := by decide +kernel
theorem dX12_heap_35 : decode cX12_heap 35 = .ok (.putfield 370, 3) := by decide +kernel
theorem dX12_heap_38 : decode cX12_heap 38 = .ok (.aload_n 0, 1) := by decide +kernel
theorem dX12_heap_39 : decode cX12_heap 39 = .ok (.iconst 0, 1) := by decide +kernel
theorem dX12_heap_40 : decode cX12_heap 40 = .ok (.putfield 367, 3) := by decide +kernel
theorem dX12_heap_43 : decode cX12_heap 43 = .ok (.iconst 0, 1) := by decide +kernel
theorem dX12_heap_44 : decode cX12_heap 44 = .ok (.istore_n 1, 1) := by decide +kernel
theorem dX12_heap_45 : decode cX12_heap 45 = .ok (.iload_n 1, 1) := by decide +kernel
theorem dX12_heap_46 : decode cX12_heap 46 = .ok (.iconst 5, 1) := by decide +kernel
theorem dX12_heap_47 : decode cX12_heap 47 = .ok (.if_icmp .ge 16, 3) := by decide +kernel
theorem dX12_heap_50 : decode cX12_heap 50 = .ok (.aload_n 0, 1) := by decide +kernel
theorem dX12_heap_51 : decode cX12_heap 51 = .ok (.getfield 105, 3) := by decide +kernel
theorem dX12_heap_54 : decode cX12_heap 54 = .ok (.iload_n 1, 1) := by decide +kernel
theorem dX12_heap_55 : decode cX12_heap 55 = .ok (.iconst 0, 1) := by decide +kernel
theorem dX12_heap_56 : decode cX12_heap 56 = .ok (.iastore, 1) := by decide +kernel
theorem dX12_heap_57 : decode cX12_heap 57 = .ok (.iinc 1 1, 3) := by decide +kernel
theorem dX12_heap_60 : decode cX12_heap 60 = .ok (.goto (-15), 3) := by decide +kernel
theorem dX12_heap_63 : decode cX12_heap 63 = .ok (.iconst 0, 1) := by decide +kernel
theorem dX12_heap_64 : decode cX12_heap 64 = .ok (.istore_n 1, 1) := by decide +kernel
theorem dX12_heap_65 : decode cX12_heap 65 = .ok (.iload_n 1, 1) := by decide +kernel
theorem dX12_heap_66 : decode cX12_heap 66 = .ok (.bipush 32, 2) := by decide +kernel
theorem dX12_heap_68 : decode cX12_heap 68 = .ok (.if_icmp .ge 16, 3) := by decide +kernel
theorem dX12_heap_71 : decode cX12_heap 71 = .ok (.aload_n 0, 1) := by decide +kernel
theorem dX12_heap_72 : decode cX12_heap 72 = .ok (.getfield 118, 3) := by decide +kernel
theorem dX12_heap_75 : decode cX12_heap 75 = .ok (.iload_n 1, 1) := by decide +kernel
theorem dX12_heap_76 : decode cX12_heap 76 = .ok (.iconst 0, 1) := by decide +kernel
theorem dX12_heap_77 : decode cX12_heap 77 = .ok (.iastore, 1) := by decide +kernel
theorem dX12_heap_78 : decode cX12_heap 78 = .ok (.iinc 1 1, 3) := by decide +kernel
theorem dX12_heap_81 : decode cX12_heap 81 = .ok (.goto (-16), 3) := by decide +kernel
theorem dX12_heap_84 : decode cX12_heap 84 = .ok (.iconst 0, 1) := by decide +kernel
theorem dX12_heap_85 : decode cX12_heap 85 = .ok (.istore_n 1, 1) := by decide +kernel
theorem dX12_heap_86 : decode cX12_heap 86 = .ok (.iload_n 1, 1) := by decide +kernel
theorem dX12_heap_87 : decode cX12_heap 87 = .ok (.bipush 8, 2) := by decide +kernel
theorem dX12_heap_89 : decode cX12_heap 89 = .ok (.if_icmp .ge 16, 3) := by decide +kernel
theorem dX12_heap_92 : decode cX12_heap 92 = .ok (.aload_n 0, 1) := by decide +kernel
theorem dX12_heap_93 : decode cX12_heap 93 = .ok (.getfield 121, 3) := by decide +kernel
theorem dX12_heap_96 : decode cX12_heap 96 = .ok (.iload_n 1, 1) := by decide +kernel
theorem dX12_heap_97 : decode cX12_heap 97 = .ok (.iconst 0, 1) := by decide +kernel
theorem dX12_heap_98 : decode cX12_heap 98 = .ok (.iastore, 1) := by decide +kernel
theorem dX12_heap_99 : decode cX12_heap 99 = .ok (.iinc 1 1, 3) := by decide +kernel
theorem dX12_heap_102 : decode cX12_heap 102 = .ok (.goto (-16), 3) := by decide +kernel
theorem dX12_heap_105 : decode cX12_heap 105 = .ok (.iconst 0, 1) := by decide +kernel
theorem dX12_heap_106 : decode cX12_heap 106 = .ok (.istore_n 1, 1) := by decide +kernel
theorem dX12_heap_107 : decode cX12_heap 107 = .ok (.iload_n 1, 1) := by decide +kernel
theorem dX12_heap_108 : decode cX12_heap 108 = .ok (.bipush 64, 2) := by decide +kernel
theorem dX12_heap_110 : decode cX12_heap 110 = .ok (.if_icmp .ge 16, 3) := by decide +kernel
theorem dX12_heap_113 : decode cX12_heap 113 = .ok (.aload_n 0, 1) := by decide +kernel
theorem dX12_heap_114 : decode cX12_heap 114 = .ok (.getfield 124, 3) := by decide +kernel
theorem dX12_heap_117 : decode cX12_heap 117 = .ok (.iload_n 1, 1) := by decide +kernel
theorem dX12_heap_118 : decode cX12_heap 118 = .ok (.iconst 0, 1) := by decide +kernel
theorem dX12_heap_119 : decode cX12_heap 119 = .ok (.iastore, 1) := by decide +kernel
theorem dX12_heap_120 : decode cX12_heap 120 = .ok (.iinc 1 1, 3) := by decide +kernel
theorem dX12_heap_123 : decode cX12_heap 123 = .ok (.goto (-16), 3) := by decide +kernel
theorem dX12_heap_126 : decode cX12_heap 126 = .ok (.aload_n 0, 1) := by decide +kernel
theorem dX12_heap_127 : decode cX12_heap 127 = .ok (.getfield 133, 3) := by decide +kernel
theorem dX12_heap_130 : decode cX12_heap 130 = .ok (.iconst 0, 1) := by decide +kernel
theorem dX12_heap_131 : decode cX12_heap 131 = .ok (.iconst (-1), 1) := by decide +kernel
theorem dX12_heap_132 : decode cX12_heap 132 = .ok (.iastore, 1) := by decide +kernel
theorem dX12_heap_133 : decode cX12_heap 133 = .ok (.aload_n 0, 1) := by decide +kernel
theorem dX12_heap_134 : decode cX12_heap 134 = .ok (.getfield 133, 3) := by decide +kernel
theorem dX12_heap_137 : decode cX12_heap 137 = .ok (.iconst 1, 1) := by decide +kernel
theorem dX12_heap_138 : decode cX12_heap 138 = .ok (.iconst (-1), 1) := by decide +kernel
theorem dX12_heap_139 : decode cX12_heap 139 = .ok (.iastore, 1) := by decide +kernel
theorem dX12_heap_140 : decode cX12_heap 140 = .ok (.aload_n 0, 1) := by decide +kernel
theorem dX12_heap_141 : decode cX12_heap 141 = .ok (.getfield 130, 3) := by decide +kernel
theorem dX12_heap_144 : decode cX12_heap 144 = .ok (.iconst 0, 1) := by decide +kernel
theorem dX12_heap_145 : decode cX12_heap 145 = .ok (.iconst 3, 1) := by decide +kernel
theorem dX12_heap_146 : decode cX12_heap 146 = .ok (.iastore, 1) := by decide +kernel
theorem dX12_heap_147 : decode cX12_heap 147 = .ok (.aload_n 0, 1) := by decide +kernel
theorem dX12_heap_148 : decode cX12_heap 148 = .ok (.getfield 130, 3) := by decide +kernel
theorem dX12_heap_151 : decode cX12_heap 151 = .ok (.iconst 1, 1) := by decide +kernel
theorem dX12_heap_152 : decode cX12_heap 152 = .ok (.iconst 0, 1) := by decide +kernel
theorem dX12_heap_153 : decode cX12_heap 153 = .ok (.iastore, 1) := by decide +kernel
theorem dX12_heap_154 : decode cX12_heap 154 = .ok (.aload_n 0, 1) := by decide +kernel
theorem dX12_heap_155 : decode cX12_heap 155 = .ok (.getfield 263, 3) := by decide +kernel
theorem dX12_heap_158 : decode cX12_heap 158 = .ok (.ifCond .ne 18, 3) := by decide +kernel
theorem dX12_heap_161 : decode cX12_heap 161 = .ok (.aload_n 0, 1) := by decide +kernel
theorem dX12_heap_162 : decode cX12_heap 162 = .ok (.invokevirtual 275, 3) := by decide +kernel
theorem dX12_heap_165 : decode cX12_heap 165 = .ok (.iconst (-1), 1) := by decide +kernel
theorem dX12_heap_166 : decode cX12_heap 166 = .ok (.if_icmp .eq 10, 3) := by decide +kernel
theorem dX12_heap_169 : decode cX12_heap 169 = .ok (.aload_n 0, 1) := by decide +kernel
theorem dX12_heap_170 : decode cX12_heap 170 = .ok (.invokevirtual 398, 3) := by decide +kernel
theorem dX12_heap_173 : decode cX12_heap 173 = .ok (.goto (-19), 3) := by decide +kernel
theorem dX12_heap_176 : decode cX12_heap 176 = .ok (.aload_n 0, 1) := by decide +kernel
theorem dX12_heap_177 : decode cX12_heap 177 = .ok (.aload_n 0, 1) := by decide +kernel
theorem dX12_heap_178 : decode cX12_heap 178 = .ok (.getfield 263, 3) := by decide +kernel
theorem dX12_heap_181 : decode cX12_heap 181 = .ok (.putfield 401, 3) := by decide +kernel
theorem dX12_heap_184 : decode cX12_heap 184 = .ok (.aload_n 0, 1) := by decide +kernel
theorem dX12_heap_185 : decode cX12_heap 185 = .ok (.aload_n 0, 1) := by decide +kernel
theorem dX12_heap_186 : decode cX12_heap 186 = .ok (.getfield 266, 3) := by decide +kernel
theorem dX12_heap_189 : decode cX12_heap 189 = .ok (.putfield 13, 3) := by decide +kernel
theorem dX12_heap_192 : decode cX12_heap 192 = .ok (.aload_n 0, 1) := by decide +kernel
theorem dX12_heap_193 : decode cX12_heap 193 = .ok (.getfield 263, 3) := by decide +kernel
theorem dX12_heap_196 : decode cX12_heap 196 = .ok (.ifCond .eq 15, 3) := by decide +kernel
theorem dX12_heap_199 : decode cX12_heap 199 = .ok (.aload_n 0, 1) := by decide +kernel
theorem dX12_heap_200 : decode cX12_heap 200 = .ok (.getfield 17, 3) := by decide +kernel
theorem dX12_heap_203 : decode cX12_heap 203 = .ok (.iconst 1, 1) := by decide +kernel
theorem dX12_heap_204 : decode cX12_heap 204 = .ok (.dup2, 1) := by decide +kernel
theorem dX12_heap_205 : decode cX12_heap 205 = .ok (.iaload, 1) := by decide +kernel
theorem dX12_heap_206 : decode cX12_heap 206 = .ok (.iconst 1, 1) := by decide +kernel
theorem dX12_heap_207 : decode cX12_heap 207 = .ok (.iadd, 1) := by decide +kernel
theorem dX12_heap_208 : decode cX12_heap 208 = .ok (.iastore, 1) := by decide +kernel
theorem dX12_heap_209 : decode cX12_heap 209 = .ok (.iconst (-1), 1) := by decide +kernel
theorem dX12_heap_210 : decode cX12_heap 210 = .ok (.ireturn, 1) := by decide +kernel
theorem dX12_heap_211 : decode cX12_heap 211 = .ok (.aload_n 0, 1) := by decide +kernel
theorem dX12_heap_212 : decode cX12_heap 212 = .ok (.invokevirtual 404, 3) := by decide +kernel
theorem dX12_heap_215 : decode cX12_heap 215 = .ok (.aload_n 0, 1) := by decide +kernel
theorem dX12_heap_216 : decode cX12_heap 216 = .ok (.getfield 370, 3) := by decide +kernel
theorem dX12_heap_219 : decode cX12_heap 219 = .ok (.ireturn, 1) := by decide +kernel
theorem dX12_codesTell_0 : decode cX12_codesTell 0 = .ok (.aload_n 0, 1) := by decide +kernel
theorem dX12_codesTell_1 : decode cX12_codesTell 1 = .ok (.aload_n 0, 1) := by decide +kernel
theorem dX12_codesTell_2 : decode cX12_codesTell 2 = .ok (.getfield 127, 3) := by decide +kernel
theorem dX12_codesTell_5 : decode cX12_codesTell 5 = .ok (.bipush 10, 2) := by decide +kernel
theorem dX12_codesTell_7 : decode cX12_codesTell 7 = .ok (.iconst 3, 1) := by decide +kernel
theorem dX12_codesTell_8 : decode cX12_codesTell 8 = .ok (.iload_n 3, 1) := by decide +kernel
theorem dX12_codesTell_9 : decode cX12_codesTell 9 = .ok (.imul, 1) := by decide +kernel
theorem dX12_codesTell_10 : decode cX12_codesTell 10 = .ok (.iadd, 1) := by decide +kernel
theorem dX12_codesTell_11 : decode cX12_codesTell 11 = .ok (.iaload, 1) := by decide +kernel
theorem dX12_codesTell_12 : decode cX12_codesTell 12 = .ok (.putfield 428, 3) := by decide +kernel
theorem dX12_codesTell_15 : decode cX12_codesTell 15 = .ok (.aload_n 0, 1) := by decide +kernel
theorem dX12_codesTell_16 : decode cX12_codesTell 16 = .ok (.iconst 1, 1) := by decide +kernel
theorem dX12_codesTell_17 : decode cX12_codesTell 17 = .ok (.putfield 318, 3) := by decide +kernel
theorem dX12_codesTell_20 : decode cX12_codesTell 20 = .ok (.aload_n 0, 1) := by decide +kernel
theorem dX12_codesTell_21 : decode cX12_codesTell 21 = .ok (.iconst 0, 1) := by decide +kernel
theorem dX12_codesTell_22 : decode cX12_codesTell 22 = .ok (.putfield 431, 3) := by decide +kernel
theorem dX12_codesTell_25 : decode cX12_codesTell 25 = .ok (.aload_n 0, 1) := by decide +kernel
theorem dX12_codesTell_26 : decode cX12_codesTell 26 = .ok (.getfield 133, 3) := by decide +kernel
theorem dX12_codesTell_29 : decode cX12_codesTell 29 = .ok (.iconst 2, 1) := by decide +kernel
theorem dX12_codesTell_30 : decode cX12_codesTell 30 = .ok (.iload_n 1, 1) := by decide +kernel
theorem dX12_codesTell_31 : decode cX12_codesTell 31 = .ok (.iadd, 1) := by decide +kernel
theorem dX12_codesTell_32 : decode cX12_codesTell 32 = .ok (.iaload, 1) := by decide +kernel
theorem dX12_codesTell_33 : decode cX12_codesTell 33 = .ok (.istore 4, 2) := by decide +kernel
theorem dX12_codesTell_35 : decode cX12_codesTell 35 = .ok (.iload 4, 2) := by decide +kernel
theorem dX12_codesTell_37 : decode cX12_codesTell 37 = .ok (.aload_n 0, 1) := by decide +kernel
theorem dX12_codesTell_38 : decode cX12_codesTell 38 = .ok (.getfield 136, 3) := by decide +kernel
theorem dX12_codesTell_41 : decode cX12_codesTell 41 = .ok (.iconst 2, 1) := by decide +kernel
theorem dX12_codesTell_42 : decode cX12_codesTell 42 = .ok (.iload_n 1, 1) := by decide +kernel
theorem dX12_codesTell_43 : decode cX12_codesTell 43 = .ok (.iadd, 1) := by decide +kernel
theorem dX12_codesTell_44 : decode cX12_codesTell 44 = .ok (.iaload, 1) := by decide +kernel
theorem dX12_codesTell_45 : decode cX12_codesTell 45 = .ok (.if_icmp .ge 74, 3) := by decide +kernel
theorem dX12_codesTell_48 : decode cX12_codesTell 48 = .ok (.aload_n 0, 1) := by decide +kernel
theorem dX12_codesTell_49 : decode cX12_codesTell 49 = .ok (.getfield 139, 3) := by decide +kernel
theorem dX12_codesTell_52 : decode cX12_codesTell 52 = .ok (.sipush 1600, 3) := by decide +kernel
theorem dX12_codesTell_55 : decode cX12_codesTell 55 = .ok (.iload 4, 2) := by decide +kernel
theorem dX12_codesTell_57 : decode cX12_codesTell 57 = .ok (.iadd, 1) := by decide +kernel
theorem dX12_codesTell_58 : decode cX12_codesTell 58 = .ok (.iaload, 1) := by decide +kernel
theorem dX12_codesTell_59 : decode cX12_codesTell 59 = .ok (.istore 5, 2) := by decide +kernel
theorem dX12_codesTell_61 : decode cX12_codesTell 61 = .ok (.iload 5, 2) := by decide +kernel
theorem dX12_codesTell_63 : decode cX12_codesTell 63 = .ok (.sipush 1000, 3) := by decide +kernel
theorem dX12_codesTell_66 : decode cX12_codesTell 66 = .ok (.if_icmp .lt 17, 3) := by decide +kernel
theorem dX12_codesTell_69 : decode cX12_codesTell 69 = .ok (.aload_n 0, 1) := by decide +kernel
theorem dX12_codesTell_70 : decode cX12_codesTell 70 = .ok (.iload 5, 2) := by decide +kernel
theorem dX12_codesTell_72 : decode cX12_codesTell 72 = .ok (.sipush 1000, 3) := by decide +kernel
theorem dX12_codesTell_75 : decode cX12_codesTell 75 = .ok (.isub, 1) := by decide +kernel
theorem dX12_codesTell_76 : decode cX12_codesTell 76 = .ok (.i2l, 1) := by decide +kernel
theorem dX12_codesTell_77 : decode cX12_codesTell 77 = .ok (.invokevirtual 434, 3) := by decide +kernel
theorem dX12_codesTell_80 : decode cX12_codesTell 80 = .ok (.goto 33, 3) := by decide +kernel
theorem dX12_codesTell_83 : decode cX12_codesTell 83 = .ok (.iload 5, 2) := by decide +kernel
theorem dX12_codesTell_85 : decode cX12_codesTell 85 = .ok (.bipush 40, 2) := by decide +kernel
theorem dX12_codesTell_87 : decode cX12_codesTell 87 = .ok (.if_icmp .lt 20, 3) := by decide +kernel
theorem dX12_codesTell_90 : decode cX12_codesTell 90 = .ok (.aload_n 0, 1) := by decide +kernel
theorem dX12_codesTell_91 : decode cX12_codesTell 91 = .ok (.aload_n 0, 1) := by decide +kernel
theorem dX12_codesTell_92 : decode cX12_codesTell 92 = .ok (.iload 5, 2) := by decide +kernel
theorem dX12_codesTell_94 : decode cX12_codesTell 94 = .ok (.bipush 40, 2) := by decide +kernel
theorem dX12_codesTell_96 : decode cX12_codesTell 96 = .ok (.isub, 1) := by decide +kernel
theorem dX12_codesTell_97 : decode cX12_codesTell 97 = .ok (.iload_n 2, 1) := by decide +kernel
theorem dX12_codesTell_98 : decode cX12_codesTell 98 = .ok (.invokevirtual 438, 3) := by decide +kernel
theorem dX12_codesTell_101 : decode cX12_codesTell 101 = .ok (.invokevirtual 434, 3) := by decide +kernel
theorem dX12_codesTell_104 : decode cX12_codesTell 104 = .ok (.goto 9, 3) := by decide +kernel
theorem dX12_codesTell_107 : decode cX12_codesTell 107 = .ok (.aload_n 0, 1) := by decide +kernel
theorem dX12_codesTell_108 : decode cX12_codesTell 108 = .ok (.iload 5, 2) := by decide +kernel
theorem dX12_codesTell_110 : decode cX12_codesTell 110 = .ok (.invokevirtual 442, 3) := by decide +kernel
theorem dX12_codesTell_113 : decode cX12_codesTell 113 = .ok (.iinc 4 1, 3) := by decide +kernel
theorem dX12_codesTell_116 : decode cX12_codesTell 116 = .ok (.goto (-81), 3) := by decide +kernel
theorem dX12_codesTell_119 : decode cX12_codesTell 119 = .ok (.aload_n 0, 1) := by decide +kernel
theorem dX12_codesTell_120 : decode cX12_codesTell 120 = .ok (.getfield 254, 3) := by decide +kernel
theorem dX12_codesTell_123 : decode cX12_codesTell 123 = .ok (.iconst 0, 1) := by decide +kernel
theorem dX12_codesTell_124 : decode cX12_codesTell 124 = .ok (.laload, 1) := by decide +kernel
theorem dX12_codesTell_125 : decode cX12_codesTell 125 = .ok (.lreturn, 1) := by decide +kernel
theorem dX12_helperMany_0 : decode cX12_helperMany 0 = .ok (.aload_n 0, 1) := by decide +kernel
theorem dX12_helperMany_1 : decode cX12_helperMany 1 = .ok (.getfield 105, 3) := by decide +kernel
theorem dX12_helperMany_4 : decode cX12_helperMany 4 = .ok (.bipush 7, 2) := by decide +kernel
theorem dX12_helperMany_6 : decode cX12_helperMany 6 = .ok (.iaload, 1) := by decide +kernel
theorem dX12_helperMany_7 : decode cX12_helperMany 7 = .ok (.ireturn, 1) := by decide +kernel
theorem dX12_leftAll_0 : decode cX12_leftAll 0 = .ok (.iconst 0, 1) := by decide +kernel
theorem dX12_leftAll_1 : decode cX12_leftAll 1 = .ok (.istore_n 1, 1) := by decide +kernel
theorem dX12_leftAll_2 : decode cX12_leftAll 2 = .ok (.iconst 0, 1) := by decide +kernel
theorem dX12_leftAll_3 : decode cX12_leftAll 3 = .ok (.istore_n 2, 1) := by decide +kernel
theorem dX12_leftAll_4 : decode cX12_leftAll 4 = .ok (.iload_n 2, 1) := by decide +kernel
theorem dX12_leftAll_5 : decode cX12_leftAll 5 = .ok (.aload_n 0, 1) := by decide +kernel
theorem dX12_leftAll_6 : decode cX12_leftAll 6 = .ok (.invokevirtual 422, 3) := by decide +kernel
theorem dX12_leftAll_9 : decode cX12_leftAll 9 = .ok (.if_icmp .ge 17, 3) := by decide +kernel
theorem dX12_leftAll_12 : decode cX12_leftAll 12 = .ok (.iload_n 1, 1) := by decide +kernel
theorem dX12_leftAll_13 : decode cX12_leftAll 13 = .ok (.aload_n 0, 1) := by decide +kernel
theorem dX12_leftAll_14 : decode cX12_leftAll 14 = .ok (.iload_n 2, 1) := by decide +kernel
theorem dX12_leftAll_15 : decode cX12_leftAll 15 = .ok (.invokevirtual 458, 3) := by decide +kernel
theorem dX12_leftAll_18 : decode cX12_leftAll 18 = .ok (.iadd, 1) := by decide +kernel
theorem dX12_leftAll_19 : decode cX12_leftAll 19 = .ok (.istore_n 1, 1) := by decide +kernel
theorem dX12_leftAll_20 : decode cX12_leftAll 20 = .ok (.iinc 2 1, 3) := by decide +kernel
theorem dX12_leftAll_23 : decode cX12_leftAll 23 = .ok (.goto (-19), 3) := by decide +kernel
theorem dX12_leftAll_26 : decode cX12_leftAll 26 = .ok (.iload_n 1, 1) := by decide +kernel
theorem dX12_leftAll_27 : decode cX12_leftAll 27 = .ok (.ireturn, 1) := by decide +kernel
theorem dX12_sheet_0 : decode cX12_sheet 0 = .ok (.aload_n 0, 1) := by decide +kernel
theorem dX12_sheet_1 : decode cX12_sheet 1 = .ok (.iload_n 1, 1) := by decide +kernel
theorem dX12_sheet_2 : decode cX12_sheet 2 = .ok (.invokevirtual 501, 3) := by decide +kernel
theorem dX12_sheet_5 : decode cX12_sheet 5 = .ok (.ifCond .eq 33, 3) := by decide +kernel
theorem dX12_sheet_8 : decode cX12_sheet 8 = .ok (.iload_n 2, 1) := by decide +kernel
theorem dX12_sheet_9 : decode cX12_sheet 9 = .ok (.i2l, 1) := by decide +kernel
theorem dX12_sheet_10 : decode cX12_sheet 10 = .ok (.lconst 1, 1) := by decide +kernel
theorem dX12_sheet_11 : decode cX12_sheet 11 = .ok (.ldc2_w 578, 3) := by decide +kernel
theorem dX12_sheet_14 : decode cX12_sheet 14 = .ok (.invokestatic 303, 3) := by decide +kernel
theorem dX12_sheet_17 : decode cX12_sheet 17 = .ok (.ifCond .eq 21, 3) := by decide +kernel
theorem dX12_sheet_20 : decode cX12_sheet 20 = .ok (.aload_n 0, 1) := by decide +kernel
theorem dX12_sheet_21 : decode cX12_sheet 21 = .ok (.iload_n 1, 1) := by decide +kernel
theorem dX12_sheet_22 : decode cX12_sheet 22 = .ok (.invokevirtual 504, 3) := by decide +kernel
theorem dX12_sheet_25 : decode cX12_sheet 25 = .ok (.iload_n 2, 1) := by decide +kernel
theorem dX12_sheet_26 : decode cX12_sheet 26 = .ok (.if_icmp .eq 12, 3) := by decide +kernel
theorem dX12_sheet_29 : decode cX12_sheet 29 = .ok (.aload_n 0, 1) := by decide +kernel
theorem dX12_sheet_30 : decode cX12_sheet 30 = .ok (.iload_n 1, 1) := by decide +kernel
theorem dX12_sheet_31 : decode cX12_sheet 31 = .ok (.iload_n 2, 1) := by decide +kernel
theorem dX12_sheet_32 : decode cX12_sheet 32 = .ok (.invokevirtual 580, 3) := by decide +kernel
theorem dX12_sheet_35 : decode cX12_sheet 35 = .ok (.ifCond .eq 15, 3) := by decide +kernel
theorem dX12_sheet_38 : decode cX12_sheet 38 = .ok (.aload_n 0, 1) := by decide +kernel
theorem dX12_sheet_39 : decode cX12_sheet 39 = .ok (.getfield 17, 3) := by decide +kernel
theorem dX12_sheet_42 : decode cX12_sheet 42 = .ok (.iconst 2, 1) := by decide +kernel
theorem dX12_sheet_43 : decode cX12_sheet 43 = .ok (.dup2, 1) := by decide +kernel
theorem dX12_sheet_44 : decode cX12_sheet 44 = .ok (.iaload, 1) := by decide +kernel
theorem dX12_sheet_45 : decode cX12_sheet 45 = .ok (.iconst 1, 1) := by decide +kernel
theorem dX12_sheet_46 : decode cX12_sheet 46 = .ok (.iadd, 1) := by decide +kernel
theorem dX12_sheet_47 : decode cX12_sheet 47 = .ok (.iastore, 1) := by decide +kernel
theorem dX12_sheet_48 : decode cX12_sheet 48 = .ok (.iconst 0, 1) := by decide +kernel
theorem dX12_sheet_49 : decode cX12_sheet 49 = .ok (.ireturn, 1) := by decide +kernel
theorem dX12_sheet_50 : decode cX12_sheet 50 = .ok (.aload_n 0, 1) := by decide +kernel
theorem dX12_sheet_51 : decode cX12_sheet 51 = .ok (.invokevirtual 575, 3) := by decide +kernel
theorem dX12_sheet_54 : decode cX12_sheet 54 = .ok (.aload_n 0, 1) := by decide +kernel
theorem dX12_sheet_55 : decode cX12_sheet 55 = .ok (.getfield 142, 3) := by decide +kernel
theorem dX12_sheet_58 : decode cX12_sheet 58 = .ok (.bipush 8, 2) := by decide +kernel
theorem dX12_sheet_60 : decode cX12_sheet 60 = .ok (.iconst 3, 1) := by decide +kernel
theorem dX12_sheet_61 : decode cX12_sheet 61 = .ok (.iload_n 1, 1) := by decide +kernel
theorem dX12_sheet_62 : decode cX12_sheet 62 = .ok (.imul, 1) := by decide +kernel
theorem dX12_sheet_63 : decode cX12_sheet 63 = .ok (.iadd, 1) := by decide +kernel
theorem dX12_sheet_64 : decode cX12_sheet 64 = .ok (.iconst 1, 1) := by decide +kernel
theorem dX12_sheet_65 : decode cX12_sheet 65 = .ok (.iadd, 1) := by decide +kernel
theorem dX12_sheet_66 : decode cX12_sheet 66 = .ok (.iload_n 2, 1) := by decide +kernel
theorem dX12_sheet_67 : decode cX12_sheet 67 = .ok (.iastore, 1) := by decide +kernel
theorem dX12_sheet_68 : decode cX12_sheet 68 = .ok (.iconst 1, 1) := by decide +kernel
theorem dX12_sheet_69 : decode cX12_sheet 69 = .ok (.ireturn, 1) := by decide +kernel
theorem dX12_isDigit_0 : decode cX12_isDigit 0 = .ok (.iload_n 0, 1) := by decide +kernel
theorem dX12_isDigit_1 : decode cX12_isDigit 1 = .ok (.bipush 48, 2) := by decide +kernel
theorem dX12_isDigit_3 : decode cX12_isDigit 3 = .ok (.if_icmp .lt 13, 3) := by decide +kernel
theorem dX12_isDigit_6 : decode cX12_isDigit 6 = .ok (.iload_n 0, 1) := by decide +kernel
theorem dX12_isDigit_7 : decode cX12_isDigit 7 = .ok (.bipush 57, 2) := by decide +kernel
theorem dX12_isDigit_9 : decode cX12_isDigit 9 = .ok (.if_icmp .gt 7, 3) := by decide +kernel
theorem dX12_isDigit_12 : decode cX12_isDigit 12 = .ok (.iconst 1, 1) := by decide +kernel
theorem dX12_isDigit_13 : decode cX12_isDigit 13 = .ok (.goto 4, 3) := by decide +kernel
theorem dX12_isDigit_16 : decode cX12_isDigit 16 = .ok (.iconst 0, 1) := by decide +kernel
theorem dX12_isDigit_17 : decode cX12_isDigit 17 = .ok (.ireturn, 1) := by decide +kernel
theorem dX12_statementTold_0 : decode cX12_statementTold 0 = .ok (.aload_n 0, 1) := by decide +kernel
theorem dX12_statementTold_1 : decode cX12_statementTold 1 = .ok (.getfield 269, 3) := by decide +kernel
theorem dX12_statementTold_4 : decode cX12_statementTold 4 = .ok (.istore_n 1, 1) := by decide +kernel
theorem dX12_statementTold_5 : decode cX12_statementTold 5 = .ok (.aload_n 0, 1) := by decide +kernel
theorem dX12_statementTold_6 : decode cX12_statementTold 6 = .ok (.getfield 370, 3) := by decide +kernel
theorem dX12_statementTold_9 : decode cX12_statementTold 9 = .ok (.bipush 80, 2) := by decide +kernel
theorem dX12_statementTold_11 : decode cX12_statementTold 11 = .ok (.if_icmp .ne 10, 3) := by decide +kernel
theorem dX12_statementTold_14 : decode cX12_statementTold 14 = .ok (.aload_n 0, 1) := by decide +kernel
theorem dX12_statementTold_15 : decode cX12_statementTold 15 = .ok (.iconst 5, 1) := by decide +kernel
theorem dX12_statementTold_16 : decode cX12_statementTold 16 = .ok (.iload_n 1, 1) := by decide +kernel
theorem dX12_statementTold_17 : decode cX12_statementTold 17 = .ok (.invokevirtual 293, 3) := by decide +kernel
theorem dX12_statementTold_20 : decode cX12_statementTold 20 = .ok (.return_, 1) := by decide +kernel
theorem dX12_statementTold_21 : decode cX12_statementTold 21 = .ok (.aload_n 0, 1) := by decide +kernel
theorem dX12_statementTold_22 : decode cX12_statementTold 22 = .ok (.aload_n 0, 1) := by decide +kernel
theorem dX12_statementTold_23 : decode cX12_statementTold 23 = .ok (.getfield 20, 3) := by decide +kernel
theorem dX12_statementTold_26 : decode cX12_statementTold 26 = .ok (.invokevirtual 290, 3) := by decide +kernel
theorem dX12_statementTold_29 : decode cX12_statementTold 29 = .ok (.ifCond .eq 11, 3) := by decide +kernel
theorem dX12_statementTold_32 : decode cX12_statementTold 32 = .ok (.aload_n 0, 1) := by decide +kernel
theorem dX12_statementTold_33 : decode cX12_statementTold 33 = .ok (.iload_n 1, 1) := by decide +kernel
theorem dX12_statementTold_34 : decode cX12_statementTold 34 = .ok (.invokevirtual 373, 3) := by decide +kernel
theorem dX12_statementTold_37 : decode cX12_statementTold 37 = .ok (.goto 185, 3) := by decide +kernel
theorem dX12_statementTold_40 : decode cX12_statementTold 40 = .ok (.aload_n 0, 1) := by decide +kernel
theorem dX12_statementTold_41 : decode cX12_statementTold 41 = .ok (.aload_n 0, 1) := by decide +kernel
theorem dX12_statementTold_42 : decode cX12_statementTold 42 = .ok (.getfield 33, 3) := by decide +kernel
theorem dX12_statementTold_45 : decode cX12_statementTold 45 = .ok (.invokevirtual 290, 3) := by decide +kernel
theorem dX12_statementTold_48 : decode cX12_statementTold 48 = .ok (.ifCond .eq 11, 3) := by decide +kernel
theorem dX12_statementTold_51 : decode cX12_statementTold 51 = .ok (.aload_n 0, 1) := by decide +kernel
theorem dX12_statementTold_52 : decode cX12_statementTold 52 = .ok (.iload_n 1, 1) := by decide +kernel
theorem dX12_statementTold_53 : decode cX12_statementTold 53 = .ok (.invokevirtual 377, 3) := by decide +kernel
theorem dX12_statementTold_56 : decode cX12_statementTold 56 = .ok (.goto 166, 3) := by decide +kernel
theorem dX12_statementTold_59 : decode cX12_statementTold 59 = .ok (.aload_n 0, 1) := by decide +kernel
theorem dX12_statementTold_60 : decode cX12_statementTold 60 = .ok (.aload_n 0, 1) := by decide +kernel
theorem dX12_statementTold_61 : decode cX12_statementTold 61 = .ok (.getfield 39, 3) := by decide +kernel
theorem dX12_statementTold_64 : decode cX12_statementTold 64 = .ok (.invokevirtual 290, 3) := by decide +kernel
theorem dX12_statementTold_67 : decode cX12_statementTold 67 = .ok (.ifCond .eq 10, 3) := by decide +kernel
theorem dX12_statementTold_70 : decode cX12_statementTold 70 = .ok (.aload_n 0, 1) := by decide +kernel
theorem dX12_statementTold_71 : decode cX12_statementTold 71 = .ok (.invokevirtual 380, 3) := by decide +kernel
theorem dX12_statementTold_74 : decode cX12_statementTold 74 = .ok (.goto 148, 3) := by decide +kernel
theorem dX12_statementTold_77 : decode cX12_statementTold 77 = .ok (.aload_n 0, 1) := by decide +kernel
theorem dX12_statementTold_78 : decode cX12_statementTold 78 = .ok (.aload_n 0, 1) := by decide +kernel
theorem dX12_statementTold_79 : decode cX12_statementTold 79 = .ok (.getfield 42, 3) := by decide +kernel
theorem dX12_statementTold_82 : decode cX12_statementTold 82 = .ok (.invokevirtual 290, 3) := by decide +kernel
theorem dX12_statementTold_85 : decode cX12_statementTold 85 = .ok (.ifCond .eq 11, 3) := by decide +kernel
theorem dX12_statementTold_88 : decode cX12_statementTold 88 = .ok (.aload_n 0, 1) := by decide +kernel
theorem dX12_statementTold_89 : decode cX12_statementTold 89 = .ok (.iload_n 1, 1) := by decide +kernel
theorem dX12_statementTold_90 : decode cX12_statementTold 90 = .ok (.invokevirtual 383, 3) := by decide +kernel
theorem dX12_statementTold_93 : decode cX12_statementTold 93 = .ok (.goto 129, 3) := by decide +kernel
theorem dX12_statementTold_96 : decode cX12_statementTold 96 = .ok (.aload_n 0, 1) := by decide +kernel
theorem dX12_statementTold_97 : decode cX12_statementTold 97 = .ok (.aload_n 0, 1) := by decide +kernel
theorem dX12_statementTold_98 : decode cX12_statementTold 98 = .ok (.getfield 45, 3) := by decide +kernel
theorem dX12_statementTold_101 : decode cX12_statementTold 101 = .ok (.invokevirtual 290, 3) := by decide +kernel
theorem dX12_statementTold_104 : decode cX12_statementTold 104 = .ok (.ifCond .eq 11, 3) := by decide +kernel
theorem dX12_statementTold_107 : decode cX12_statementTold 107 = .ok (.aload_n 0, 1) := by decide +kernel
theorem dX12_statementTold_108 : decode cX12_statementTold 108 = .ok (.iload_n 1, 1) := by decide +kernel
theorem dX12_statementTold_109 : decode cX12_statementTold 109 = .ok (.invokevirtual 386, 3) := by decide +kernel
theorem dX12_statementTold_112 : decode cX12_statementTold 112 = .ok (.goto 110, 3) := by decide +kernel
theorem dX12_statementTold_115 : decode cX12_statementTold 115 = .ok (.aload_n 0, 1) := by decide +kernel
theorem dX12_statementTold_116 : decode cX12_statementTold 116 = .ok (.aload_n 0, 1) := by decide +kernel
theorem dX12_statementTold_117 : decode cX12_statementTold 117 = .ok (.getfield 48, 3) := by decide +kernel
theorem dX12_statementTold_120 : decode cX12_statementTold 120 = .ok (.invokevirtual 290, 3) := by decide +kernel
theorem dX12_statementTold_123 : decode cX12_statementTold 123 = .ok (.ifCond .eq 11, 3) := by decide +kernel
theorem dX12_statementTold_126 : decode cX12_statementTold 126 = .ok (.aload_n 0, 1) := by decide +kernel
theorem dX12_statementTold_127 : decode cX12_statementTold 127 = .ok (.iload_n 1, 1) := by decide +kernel
theorem dX12_statementTold_128 : decode cX12_statementTold 128 = .ok (.invokevirtual 389, 3) := by decide +kernel
theorem dX12_statementTold_131 : decode cX12_statementTold 131 = .ok (.goto 91, 3) := by decide +kernel
theorem dX12_statementTold_134 : decode cX12_statementTold 134 = .ok (.aload_n 0, 1) := by decide +kernel
theorem dX12_statementTold_135 : decode cX12_statementTold 135 = .ok (.aload_n 0, 1) := by decide +kernel
theorem dX12_statementTold_136 : decode cX12_statementTold 136 = .ok (.getfield 60, 3) := by decide +kernel
theorem dX12_statementTold_139 : decode cX12_statementTold 139 = .ok (.invokevirtual 290, 3) := by decide +kernel
theorem dX12_statementTold_142 : decode cX12_statementTold 142 = .ok (.ifCond .eq 12, 3) := by decide +kernel
theorem dX12_statementTold_145 : decode cX12_statementTold 145 = .ok (.aload_n 0, 1) := by decide +kernel
theorem dX12_statementTold_146 : decode cX12_statementTold 146 = .ok (.iconst 0, 1) := by decide +kernel
theorem dX12_statementTold_147 : decode cX12_statementTold 147 = .ok (.iload_n 1, 1) := by decide +kernel
theorem dX12_statementTold_148 : decode cX12_statementTold 148 = .ok (.invokevirtual 392, 3) := by decide +kernel
theorem dX12_statementTold_151 : decode cX12_statementTold 151 = .ok (.goto 71, 3) := by decide +kernel
theorem dX12_statementTold_154 : decode cX12_statementTold 154 = .ok (.aload_n 0, 1) := by decide +kernel
theorem dX12_statementTold_155 : decode cX12_statementTold 155 = .ok (.aload_n 0, 1) := by decide +kernel
theorem dX12_statementTold_156 : decode cX12_statementTold 156 = .ok (.getfield 63, 3) := by decide +kernel
theorem dX12_statementTold_159 : decode cX12_statementTold 159 = .ok (.invokevirtual 290, 3) := by decide +kernel
theorem dX12_statementTold_162 : decode cX12_statementTold 162 = .ok (.ifCond .eq 12, 3) := by decide +kernel
theorem dX12_statementTold_165 : decode cX12_statementTold 165 = .ok (.aload_n 0, 1) := by decide +kernel
theorem dX12_statementTold_166 : decode cX12_statementTold 166 = .ok (.iconst 1, 1) := by decide +kernel
theorem dX12_statementTold_167 : decode cX12_statementTold 167 = .ok (.iload_n 1, 1) := by decide +kernel
theorem dX12_statementTold_168 : decode cX12_statementTold 168 = .ok (.invokevirtual 392, 3) := by decide +kernel
theorem dX12_statementTold_171 : decode cX12_statementTold 171 = .ok (.goto 51, 3) := by decide +kernel
theorem dX12_statementTold_174 : decode cX12_statementTold 174 = .ok (.aload_n 0, 1) := by decide +kernel
theorem dX12_statementTold_175 : decode cX12_statementTold 175 = .ok (.aload_n 0, 1) := by decide +kernel
theorem dX12_statementTold_176 : decode cX12_statementTold 176 = .ok (.getfield 66, 3) := by decide +kernel
theorem dX12_statementTold_179 : decode cX12_statementTold 179 = .ok (.invokevirtual 290, 3) := by decide +kernel
theorem dX12_statementTold_182 : decode cX12_statementTold 182 = .ok (.ifCond .eq 19, 3) := by decide +kernel
theorem dX12_statementTold_185 : decode cX12_statementTold 185 = .ok (.aload_n 0, 1) := by decide +kernel
theorem dX12_statementTold_186 : decode cX12_statementTold 186 = .ok (.getfield 130, 3) := by decide +kernel
theorem dX12_statementTold_189 : decode cX12_statementTold 189 = .ok (.iconst 0, 1) := by decide +kernel
theorem dX12_statementTold_190 : decode cX12_statementTold 190 = .ok (.aload_n 0, 1) := by decide +kernel
theorem dX12_statementTold_191 : decode cX12_statementTold 191 = .ok (.iconst 0, 1) := by decide +kernel
theorem dX12_statementTold_192 : decode cX12_statementTold 192 = .ok (.bipush 99, 2) := by decide +kernel
theorem dX12_statementTold_194 : decode cX12_statementTold 194 = .ok (.invokevirtual 341, 3) := by decide +kernel
theorem dX12_statementTold_197 : decode cX12_statementTold 197 = .ok (.iastore, 1) := by decide +kernel
theorem dX12_statementTold_198 : decode cX12_statementTold 198 = .ok (.goto 24, 3) := by decide +kernel
theorem dX12_statementTold_201 : decode cX12_statementTold 201 = .ok (.aload_n 0, 1) := by decide +kernel
theorem dX12_statementTold_202 : decode cX12_statementTold 202 = .ok (.aload_n 0, 1) := by decide +kernel
theorem dX12_statementTold_203 : decode cX12_statementTold 203 = .ok (.getfield 69, 3) := by decide +kernel
theorem dX12_statementTold_206 : decode cX12_statementTold 206 = .ok (.invokevirtual 337, 3) := by decide +kernel
theorem dX12_statementTold_209 : decode cX12_statementTold 209 = .ok (.aload_n 0, 1) := by decide +kernel
theorem dX12_statementTold_210 : decode cX12_statementTold 210 = .ok (.getfield 130, 3) := by decide +kernel
theorem dX12_statementTold_213 : decode cX12_statementTold 213 = .ok (.iconst 1, 1) := by decide +kernel
theorem dX12_statementTold_214 : decode cX12_statementTold 214 = .ok (.aload_n 0, 1) := by decide +kernel
theorem dX12_statementTold_215 : decode cX12_statementTold 215 = .ok (.iconst 0, 1) := by decide +kernel
theorem dX12_statementTold_216 : decode cX12_statementTold 216 = .ok (.bipush 100, 2) := by decide +kernel
theorem dX12_statementTold_218 : decode cX12_statementTold 218 = .ok (.invokevirtual 341, 3) := by decide +kernel
theorem dX12_statementTold_221 : decode cX12_statementTold 221 = .ok (.iastore, 1) := by decide +kernel
theorem dX12_statementTold_222 : decode cX12_statementTold 222 = .ok (.aload_n 0, 1) := by decide +kernel
theorem dX12_statementTold_223 : decode cX12_statementTold 223 = .ok (.bipush 59, 2) := by decide +kernel
theorem dX12_statementTold_225 : decode cX12_statementTold 225 = .ok (.invokevirtual 395, 3) := by decide +kernel
theorem dX12_statementTold_228 : decode cX12_statementTold 228 = .ok (.aload_n 0, 1) := by decide +kernel
theorem dX12_statementTold_229 : decode cX12_statementTold 229 = .ok (.dup, 1) := by decide +kernel
theorem dX12_statementTold_230 : decode cX12_statementTold 230 = .ok (.getfield 370, 3) := by decide +kernel
theorem dX12_statementTold_233 : decode cX12_statementTold 233 = .ok (.iconst 1, 1) := by decide +kernel
theorem dX12_statementTold_234 : decode cX12_statementTold 234 = .ok (.iadd, 1) := by decide +kernel
theorem dX12_statementTold_235 : decode cX12_statementTold 235 = .ok (.putfield 370, 3) := by decide +kernel
theorem dX12_statementTold_238 : decode cX12_statementTold 238 = .ok (.return_, 1) := by decide +kernel
theorem dX12_qDropsToBracket_0 : decode cX12_qDropsToBracket 0 = .ok (.aload_n 0, 1) := by decide +kernel
theorem dX12_qDropsToBracket_1 : decode cX12_qDropsToBracket 1 = .ok (.getfield 355, 3) := by decide +kernel
theorem dX12_qDropsToBracket_4 : decode cX12_qDropsToBracket 4 = .ok (.aload_n 0, 1) := by decide +kernel
theorem dX12_qDropsToBracket_5 : decode cX12_qDropsToBracket 5 = .ok (.getfield 361, 3) := by decide +kernel
theorem dX12_qDropsToBracket_8 : decode cX12_qDropsToBracket 8 = .ok (.if_icmp .le 27, 3) := by decide +kernel
theorem dX12_qDropsToBracket_11 : decode cX12_qDropsToBracket 11 = .ok (.aload_n 0, 1) := by decide +kernel
theorem dX12_qDropsToBracket_12 : decode cX12_qDropsToBracket 12 = .ok (.getfield 251, 3) := by decide +kernel
theorem dX12_qDropsToBracket_15 : decode cX12_qDropsToBracket 15 = .ok (.aload_n 0, 1) := by decide +kernel
theorem dX12_qDropsToBracket_16 : decode cX12_qDropsToBracket 16 = .ok (.getfield 355, 3) := by decide +kernel
theorem dX12_qDropsToBracket_19 : decode cX12_qDropsToBracket 19 = .ok (.iconst 1, 1) := by decide +kernel
theorem dX12_qDropsToBracket_20 : decode cX12_qDropsToBracket 20 = .ok (.isub, 1) := by decide +kernel
theorem dX12_qDropsToBracket_21 : decode cX12_qDropsToBracket 21 = .ok (.iaload, 1) := by decide +kernel
theorem dX12_qDropsToBracket_22 : decode cX12_qDropsToBracket 22 = .ok (.invokestatic 597, 3) := by decide +kernel
theorem dX12_qDropsToBracket_25 : decode cX12_qDropsToBracket 25 = .ok (.ifCond .ne 10, 3) := by decide +kernel
theorem dX12_qDropsToBracket_28 : decode cX12_qDropsToBracket 28 = .ok (.aload_n 0, 1) := by decide +kernel
theorem dX12_qDropsToBracket_29 : decode cX12_qDropsToBracket 29 = .ok (.invokevirtual 600, 3) := by decide +kernel
theorem dX12_qDropsToBracket_32 : decode cX12_qDropsToBracket 32 = .ok (.goto (-32), 3) := by decide +kernel
theorem dX12_qDropsToBracket_35 : decode cX12_qDropsToBracket 35 = .ok (.return_, 1) := by decide +kernel
theorem dX12_isGift_0 : decode cX12_isGift 0 = .ok (.iload_n 1, 1) := by decide +kernel
theorem dX12_isGift_1 : decode cX12_isGift 1 = .ok (.i2l, 1) := by decide +kernel
theorem dX12_isGift_2 : decode cX12_isGift 2 = .ok (.lconst 0, 1) := by decide +kernel
theorem dX12_isGift_3 : decode cX12_isGift 3 = .ok (.aload_n 0, 1) := by decide +kernel
theorem dX12_isGift_4 : decode cX12_isGift 4 = .ok (.invokevirtual 410, 3) := by decide +kernel
theorem dX12_isGift_7 : decode cX12_isGift 7 = .ok (.iconst 1, 1) := by decide +kernel
theorem dX12_isGift_8 : decode cX12_isGift 8 = .ok (.isub, 1) := by decide +kernel
theorem dX12_isGift_9 : decode cX12_isGift 9 = .ok (.i2l, 1) := by decide +kernel
theorem dX12_isGift_10 : decode cX12_isGift 10 = .ok (.invokestatic 303, 3) := by decide +kernel
theorem dX12_isGift_13 : decode cX12_isGift 13 = .ok (.ireturn, 1) := by decide +kernel
theorem dX12_laysWarmest_0 : decode cX12_laysWarmest 0 = .ok (.aload_n 0, 1) := by decide +kernel
theorem dX12_laysWarmest_1 : decode cX12_laysWarmest 1 = .ok (.invokevirtual 467, 3) := by decide +kernel
theorem dX12_laysWarmest_4 : decode cX12_laysWarmest 4 = .ok (.iconst 0, 1) := by decide +kernel
theorem dX12_laysWarmest_5 : decode cX12_laysWarmest 5 = .ok (.istore_n 1, 1) := by decide +kernel
theorem dX12_laysWarmest_6 : decode cX12_laysWarmest 6 = .ok (.iload_n 1, 1) := by decide +kernel
theorem dX12_laysWarmest_7 : decode cX12_laysWarmest 7 = .ok (.bipush 8, 2) := by decide +kernel
theorem dX12_laysWarmest_9 : decode cX12_laysWarmest 9 = .ok (.if_icmp .ge 23, 3) := by decide +kernel
theorem dX12_laysWarmest_12 : decode cX12_laysWarmest 12 = .ok (.aload_n 0, 1) := by decide +kernel
theorem dX12_laysWarmest_13 : decode cX12_laysWarmest 13 = .ok (.getfield 148, 3) := by decide +kernel
theorem dX12_laysWarmest_16 : decode cX12_laysWarmest 16 = .ok (.iload_n 1, 1) := by decide +kernel
theorem dX12_laysWarmest_17 : decode cX12_laysWarmest 17 = .ok (.iconst 0, 1) := by decide +kernel
theorem dX12_laysWarmest_18 : decode cX12_laysWarmest 18 = .ok (.iastore, 1) := by decide +kernel
theorem dX12_laysWarmest_19 : decode cX12_laysWarmest 19 = .ok (.aload_n 0, 1) := by decide +kernel
theorem dX12_laysWarmest_20 : decode cX12_laysWarmest 20 = .ok (.getfield 154, 3) := by decide +kernel
theorem dX12_laysWarmest_23 : decode cX12_laysWarmest 23 = .ok (.iload_n 1, 1) := by decide +kernel
theorem dX12_laysWarmest_24 : decode cX12_laysWarmest 24 = .ok (.iconst 0, 1) := by decide +kernel
theorem dX12_laysWarmest_25 : decode cX12_laysWarmest 25 = .ok (.iastore, 1) := by decide +kernel
theorem dX12_laysWarmest_26 : decode cX12_laysWarmest 26 = .ok (.iinc 1 1, 3) := by decide +kernel
theorem dX12_laysWarmest_29 : decode cX12_laysWarmest 29 = .ok (.goto (-23), 3) := by decide +kernel
theorem dX12_laysWarmest_32 : decode cX12_laysWarmest 32 = .ok (.iconst 0, 1) := by decide +kernel
theorem dX12_laysWarmest_33 : decode cX12_laysWarmest 33 = .ok (.istore_n 1, 1) := by decide +kernel
theorem dX12_laysWarmest_34 : decode cX12_laysWarmest 34 = .ok (.iload_n 1, 1) := by decide +kernel
theorem dX12_laysWarmest_35 : decode cX12_laysWarmest 35 = .ok (.aload_n 0, 1) := by decide +kernel
theorem dX12_laysWarmest_36 : decode cX12_laysWarmest 36 = .ok (.invokevirtual 419, 3) := by decide +kernel
theorem dX12_laysWarmest_39 : decode cX12_laysWarmest 39 = .ok (.if_icmp .ge 31, 3) := by decide +kernel
theorem dX12_laysWarmest_42 : decode cX12_laysWarmest 42 = .ok (.aload_n 0, 1) := by decide +kernel
theorem dX12_laysWarmest_43 : decode cX12_laysWarmest 43 = .ok (.getfield 151, 3) := by decide +kernel
theorem dX12_laysWarmest_46 : decode cX12_laysWarmest 46 = .ok (.iload_n 1, 1) := by decide +kernel
theorem dX12_laysWarmest_47 : decode cX12_laysWarmest 47 = .ok (.aload_n 0, 1) := by decide +kernel
theorem dX12_laysWarmest_48 : decode cX12_laysWarmest 48 = .ok (.iload_n 1, 1) := by decide +kernel
theorem dX12_laysWarmest_49 : decode cX12_laysWarmest 49 = .ok (.invokevirtual 451, 3) := by decide +kernel
theorem dX12_laysWarmest_52 : decode cX12_laysWarmest 52 = .ok (.ifCond .ne 10, 3) := by decide +kernel
theorem dX12_laysWarmest_55 : decode cX12_laysWarmest 55 = .ok (.aload_n 0, 1) := by decide +kernel
theorem dX12_laysWarmest_56 : decode cX12_laysWarmest 56 = .ok (.invokevirtual 422, 3) := by decide +kernel
theorem dX12_laysWarmest_59 : decode cX12_laysWarmest 59 = .ok (.goto 4, 3) := by decide +kernel
theorem dX12_laysWarmest_62 : decode cX12_laysWarmest 62 = .ok (.iconst 0, 1) := by decide +kernel
theorem dX12_laysWarmest_63 : decode cX12_laysWarmest 63 = .ok (.iastore, 1) := by decide +kernel
theorem dX12_laysWarmest_64 : decode cX12_laysWarmest 64 = .ok (.iinc 1 1, 3) := by decide +kernel
theorem dX12_laysWarmest_67 : decode cX12_laysWarmest 67 = .ok (.goto (-33), 3) := by decide +kernel
theorem dX12_laysWarmest_70 : decode cX12_laysWarmest 70 = .ok (.iconst 0, 1) := by decide +kernel
theorem dX12_laysWarmest_71 : decode cX12_laysWarmest 71 = .ok (.istore_n 1, 1) := by decide +kernel
theorem dX12_laysWarmest_72 : decode cX12_laysWarmest 72 = .ok (.aload_n 0, 1) := by decide +kernel
theorem dX12_laysWarmest_73 : decode cX12_laysWarmest 73 = .ok (.lconst 0, 1) := by decide +kernel
theorem dX12_laysWarmest_74 : decode cX12_laysWarmest 74 = .ok (.putfield 470, 3) := by decide +kernel
theorem dX12_laysWarmest_77 : decode cX12_laysWarmest 77 = .ok (.aload_n 0, 1) := by decide +kernel
theorem dX12_laysWarmest_78 : decode cX12_laysWarmest 78 = .ok (.invokevirtual 473, 3) := by decide +kernel
theorem dX12_laysWarmest_81 : decode cX12_laysWarmest 81 = .ok (.ifCond .eq 85, 3) := by decide +kernel
theorem dX12_laysWarmest_84 : decode cX12_laysWarmest 84 = .ok (.aload_n 0, 1) := by decide +kernel
theorem dX12_laysWarmest_85 : decode cX12_laysWarmest 85 = .ok (.invokevirtual 476, 3) := by decide +kernel
theorem dX12_laysWarmest_88 : decode cX12_laysWarmest 88 = .ok (.istore_n 2, 1) := by decide +kernel
theorem dX12_laysWarmest_89 : decode cX12_laysWarmest 89 = .ok (.iload_n 2, 1) := by decide +kernel
theorem dX12_laysWarmest_90 : decode cX12_laysWarmest 90 = .ok (.iload_n 1, 1) := by decide +kernel
theorem dX12_laysWarmest_91 : decode cX12_laysWarmest 91 = .ok (.if_icmp .lt (-14), 3) := by decide +kernel
theorem dX12_laysWarmest_94 : decode cX12_laysWarmest 94 = .ok (.aload_n 0, 1) := by decide +kernel
theorem dX12_laysWarmest_95 : decode cX12_laysWarmest 95 = .ok (.invokevirtual 479, 3) := by decide +kernel
theorem dX12_laysWarmest_98 : decode cX12_laysWarmest 98 = .ok (.ifCond .ne 6, 3) := by decide +kernel
theorem dX12_laysWarmest_101 : decode cX12_laysWarmest 101 = .ok (.goto (-24), 3) := by decide +kernel
theorem dX12_laysWarmest_104 : decode cX12_laysWarmest 104 = .ok (.aload_n 0, 1) := by decide +kernel
theorem dX12_laysWarmest_105 : decode cX12_laysWarmest 105 = .ok (.invokevirtual 482, 3) := by decide +kernel
theorem dX12_laysWarmest_108 : decode cX12_laysWarmest 108 = .ok (.lstore_n 3, 1) := by decide +kernel
theorem dX12_laysWarmest_109 : decode cX12_laysWarmest 109 = .ok (.iload_n 2, 1) := by decide +kernel
theorem dX12_laysWarmest_110 : decode cX12_laysWarmest 110 = .ok (.iload_n 1, 1) := by decide +kernel
theorem dX12_laysWarmest_111 : decode cX12_laysWarmest 111 = .ok (.if_icmp .ne 15, 3) := by decide +kernel
theorem dX12_laysWarmest_114 : decode cX12_laysWarmest 114 = .ok (.lload_n 3, 1) := by decide +kernel
theorem dX12_laysWarmest_115 : decode cX12_laysWarmest 115 = .ok (.aload_n 0, 1) := by decide +kernel
theorem dX12_laysWarmest_116 : decode cX12_laysWarmest 116 = .ok (.getfield 470, 3) := by decide +kernel
theorem dX12_laysWarmest_119 : decode cX12_laysWarmest 119 = .ok (.lcmp, 1) := by decide +kernel
theorem dX12_laysWarmest_120 : decode cX12_laysWarmest 120 = .ok (.ifCond .gt 6, 3) := by decide +kernel
theorem dX12_laysWarmest_123 : decode cX12_laysWarmest 123 = .ok (.goto (-46), 3) := by decide +kernel
theorem dX12_laysWarmest_126 : decode cX12_laysWarmest 126 = .ok (.iload_n 2, 1) := by decide +kernel
theorem dX12_laysWarmest_127 : decode cX12_laysWarmest 127 = .ok (.istore_n 1, 1) := by decide +kernel
theorem dX12_laysWarmest_128 : decode cX12_laysWarmest 128 = .ok (.aload_n 0, 1) := by decide +kernel
theorem dX12_laysWarmest_129 : decode cX12_laysWarmest 129 = .ok (.lload_n 3, 1) := by decide +kernel
theorem dX12_laysWarmest_130 : decode cX12_laysWarmest 130 = .ok (.putfield 470, 3) := by decide +kernel
theorem dX12_laysWarmest_133 : decode cX12_laysWarmest 133 = .ok (.iconst 0, 1) := by decide +kernel
theorem dX12_laysWarmest_134 : decode cX12_laysWarmest 134 = .ok (.istore 5, 2) := by decide +kernel
theorem dX12_laysWarmest_136 : decode cX12_laysWarmest 136 = .ok (.iload 5, 2) := by decide +kernel
theorem dX12_laysWarmest_138 : decode cX12_laysWarmest 138 = .ok (.bipush 8, 2) := by decide +kernel
theorem dX12_laysWarmest_140 : decode cX12_laysWarmest 140 = .ok (.if_icmp .ge 23, 3) := by decide +kernel
theorem dX12_laysWarmest_143 : decode cX12_laysWarmest 143 = .ok (.aload_n 0, 1) := by decide +kernel
theorem dX12_laysWarmest_144 : decode cX12_laysWarmest 144 = .ok (.getfield 154, 3) := by decide +kernel
theorem dX12_laysWarmest_147 : decode cX12_laysWarmest 147 = .ok (.iload 5, 2) := by decide +kernel
theorem dX12_laysWarmest_149 : decode cX12_laysWarmest 149 = .ok (.aload_n 0, 1) := by decide +kernel
theorem dX12_laysWarmest_150 : decode cX12_laysWarmest 150 = .ok (.getfield 148, 3) := by decide +kernel
theorem dX12_laysWarmest_153 : decode cX12_laysWarmest 153 = .ok (.iload 5, 2) := by decide +kernel
theorem dX12_laysWarmest_155 : decode cX12_laysWarmest 155 = .ok (.iaload, 1) := by decide +kernel
theorem dX12_laysWarmest_156 : decode cX12_laysWarmest 156 = .ok (.iastore, 1) := by decide +kernel
theorem dX12_laysWarmest_157 : decode cX12_laysWarmest 157 = .ok (.iinc 5 1, 3) := by decide +kernel
theorem dX12_laysWarmest_160 : decode cX12_laysWarmest 160 = .ok (.goto (-24), 3) := by decide +kernel
theorem dX12_laysWarmest_163 : decode cX12_laysWarmest 163 = .ok (.goto (-86), 3) := by decide +kernel
theorem dX12_laysWarmest_166 : decode cX12_laysWarmest 166 = .ok (.iload_n 1, 1) := by decide +kernel
theorem dX12_laysWarmest_167 : decode cX12_laysWarmest 167 = .ok (.ireturn, 1) := by decide +kernel
theorem dX12_isImage_0 : decode cX12_isImage 0 = .ok (.iconst 2, 1) := by decide +kernel
theorem dX12_isImage_1 : decode cX12_isImage 1 = .ok (.aload_n 0, 1) := by decide +kernel
theorem dX12_isImage_2 : decode cX12_isImage 2 = .ok (.invokevirtual 422, 3) := by decide +kernel
theorem dX12_isImage_5 : decode cX12_isImage 5 = .ok (.iadd, 1) := by decide +kernel
theorem dX12_isImage_6 : decode cX12_isImage 6 = .ok (.istore_n 2, 1) := by decide +kernel
theorem dX12_isImage_7 : decode cX12_isImage 7 = .ok (.iload_n 2, 1) := by decide +kernel
theorem dX12_isImage_8 : decode cX12_isImage 8 = .ok (.aload_n 0, 1) := by decide +kernel
theorem dX12_isImage_9 : decode cX12_isImage 9 = .ok (.invokevirtual 410, 3) := by decide +kernel
theorem dX12_isImage_12 : decode cX12_isImage 12 = .ok (.iadd, 1) := by decide +kernel
theorem dX12_isImage_13 : decode cX12_isImage 13 = .ok (.istore_n 3, 1) := by decide +kernel
theorem dX12_isImage_14 : decode cX12_isImage 14 = .ok (.iload_n 1, 1) := by decide +kernel
theorem dX12_isImage_15 : decode cX12_isImage 15 = .ok (.iload_n 3, 1) := by decide +kernel
theorem dX12_isImage_16 : decode cX12_isImage 16 = .ok (.iconst 3, 1) := by decide +kernel
theorem dX12_isImage_17 : decode cX12_isImage 17 = .ok (.aload_n 0, 1) := by decide +kernel
theorem dX12_isImage_18 : decode cX12_isImage 18 = .ok (.invokevirtual 419, 3) := by decide +kernel
theorem dX12_isImage_21 : decode cX12_isImage 21 = .ok (.imul, 1) := by decide +kernel
theorem dX12_isImage_22 : decode cX12_isImage 22 = .ok (.iadd, 1) := by decide +kernel
theorem dX12_isImage_23 : decode cX12_isImage 23 = .ok (.iconst 1, 1) := by decide +kernel
theorem dX12_isImage_24 : decode cX12_isImage 24 = .ok (.iadd, 1) := by decide +kernel
theorem dX12_isImage_25 : decode cX12_isImage 25 = .ok (.if_icmp .ne 47, 3) := by decide +kernel
theorem dX12_isImage_28 : decode cX12_isImage 28 = .ok (.aload_n 0, 1) := by decide +kernel
theorem dX12_isImage_29 : decode cX12_isImage 29 = .ok (.getfield 7, 3) := by decide +kernel
theorem dX12_isImage_32 : decode cX12_isImage 32 = .ok (.iload_n 1, 1) := by decide +kernel
theorem dX12_isImage_33 : decode cX12_isImage 33 = .ok (.iconst 1, 1) := by decide +kernel
theorem dX12_isImage_34 : decode cX12_isImage 34 = .ok (.isub, 1) := by decide +kernel
theorem dX12_isImage_35 : decode cX12_isImage 35 = .ok (.iaload, 1) := by decide +kernel
theorem dX12_isImage_36 : decode cX12_isImage 36 = .ok (.aload_n 0, 1) := by decide +kernel
theorem dX12_isImage_37 : decode cX12_isImage 37 = .ok (.getfield 7, 3) := by decide +kernel
theorem dX12_isImage_40 : decode cX12_isImage 40 = .ok (.iload_n 1, 1) := by decide +kernel
theorem dX12_isImage_41 : decode cX12_isImage 41 = .ok (.iconst 1, 1) := by decide +kernel
theorem dX12_isImage_42 : decode cX12_isImage 42 = .ok (.isub, 1) := by decide +kernel
theorem dX12_isImage_43 : decode cX12_isImage 43 = .ok (.invokestatic 692, 3) := by decide +kernel
theorem dX12_isImage_46 : decode cX12_isImage 46 = .ok (.if_icmp .ne 26, 3) := by decide +kernel
theorem dX12_isImage_49 : decode cX12_isImage 49 = .ok (.sipush 256, 3) := by decide +kernel
theorem dX12_isImage_52 : decode cX12_isImage 52 = .ok (.aload_n 0, 1) := by decide +kernel
theorem dX12_isImage_53 : decode cX12_isImage 53 = .ok (.getfield 7, 3) := by decide +kernel
theorem dX12_isImage_56 : decode cX12_isImage 56 = .ok (.iconst 0, 1) := by decide +kernel
theorem dX12_isImage_57 : decode cX12_isImage 57 = .ok (.iaload, 1) := by decide +kernel
theorem dX12_isImage_58 : decode cX12_isImage 58 = .ok (.imul, 1) := by decide +kernel
theorem dX12_isImage_59 : decode cX12_isImage 59 = .ok (.aload_n 0, 1) := by decide +kernel
theorem dX12_isImage_60 : decode cX12_isImage 60 = .ok (.getfield 7, 3) := by decide +kernel
theorem dX12_isImage_63 : decode cX12_isImage 63 = .ok (.iconst 1, 1) := by decide +kernel
theorem dX12_isImage_64 : decode cX12_isImage 64 = .ok (.iaload, 1) := by decide +kernel
theorem dX12_isImage_65 : decode cX12_isImage 65 = .ok (.iadd, 1) := by decide +kernel
theorem dX12_isImage_66 : decode cX12_isImage 66 = .ok (.sipush 999, 3) := by decide +kernel
theorem dX12_isImage_69 : decode cX12_isImage 69 = .ok (.if_icmp .le 5, 3) := by decide +kernel
theorem dX12_isImage_72 : decode cX12_isImage 72 = .ok (.iconst 0, 1) := by decide +kernel
theorem dX12_isImage_73 : decode cX12_isImage 73 = .ok (.ireturn, 1) := by decide +kernel
theorem dX12_isImage_74 : decode cX12_isImage 74 = .ok (.iconst 0, 1) := by decide +kernel
theorem dX12_isImage_75 : decode cX12_isImage 75 = .ok (.istore 4, 2) := by decide +kernel
theorem dX12_isImage_77 : decode cX12_isImage 77 = .ok (.iload 4, 2) := by decide +kernel
theorem dX12_isImage_79 : decode cX12_isImage 79 = .ok (.aload_n 0, 1) := by decide +kernel
theorem dX12_isImage_80 : decode cX12_isImage 80 = .ok (.invokevirtual 422, 3) := by decide +kernel
theorem dX12_isImage_83 : decode cX12_isImage 83 = .ok (.if_icmp .ge 35, 3) := by decide +kernel
theorem dX12_isImage_86 : decode cX12_isImage 86 = .ok (.aload_n 0, 1) := by decide +kernel
theorem dX12_isImage_87 : decode cX12_isImage 87 = .ok (.getfield 7, 3) := by decide +kernel
theorem dX12_isImage_90 : decode cX12_isImage 90 = .ok (.iconst 2, 1) := by decide +kernel
theorem dX12_isImage_91 : decode cX12_isImage 91 = .ok (.iload 4, 2) := by decide +kernel
theorem dX12_isImage_93 : decode cX12_isImage 93 = .ok (.iadd, 1) := by decide +kernel
theorem dX12_isImage_94 : decode cX12_isImage 94 = .ok (.iaload, 1) := by decide +kernel
theorem dX12_isImage_95 : decode cX12_isImage 95 = .ok (.aload_n 0, 1) := by decide +kernel
theorem dX12_isImage_96 : decode cX12_isImage 96 = .ok (.getfield 127, 3) := by decide +kernel
theorem dX12_isImage_99 : decode cX12_isImage 99 = .ok (.bipush 9, 2) := by decide +kernel
theorem dX12_isImage_101 : decode cX12_isImage 101 = .ok (.iconst 3, 1) := by decide +kernel
theorem dX12_isImage_102 : decode cX12_isImage 102 = .ok (.iload 4, 2) := by decide +kernel
theorem dX12_isImage_104 : decode cX12_isImage 104 = .ok (.imul, 1) := by decide +kernel
theorem dX12_isImage_105 : decode cX12_isImage 105 = .ok (.iadd, 1) := by decide +kernel
theorem dX12_isImage_106 : decode cX12_isImage 106 = .ok (.iaload, 1) := by decide +kernel
theorem dX12_isImage_107 : decode cX12_isImage 107 = .ok (.if_icmp .le 5, 3) := by decide +kernel
theorem dX12_isImage_110 : decode cX12_isImage 110 = .ok (.iconst 0, 1) := by decide +kernel
theorem dX12_isImage_111 : decode cX12_isImage 111 = .ok (.ireturn, 1) := by decide +kernel
theorem dX12_isImage_112 : decode cX12_isImage 112 = .ok (.iinc 4 1, 3) := by decide +kernel
theorem dX12_isImage_115 : decode cX12_isImage 115 = .ok (.goto (-38), 3) := by decide +kernel
theorem dX12_isImage_118 : decode cX12_isImage 118 = .ok (.iconst 0, 1) := by decide +kernel
theorem dX12_isImage_119 : decode cX12_isImage 119 = .ok (.istore 4, 2) := by decide +kernel
theorem dX12_isImage_121 : decode cX12_isImage 121 = .ok (.iload 4, 2) := by decide +kernel
theorem dX12_isImage_123 : decode cX12_isImage 123 = .ok (.aload_n 0, 1) := by decide +kernel
theorem dX12_isImage_124 : decode cX12_isImage 124 = .ok (.invokevirtual 410, 3) := by decide +kernel
theorem dX12_isImage_127 : decode cX12_isImage 127 = .ok (.if_icmp .ge 32, 3) := by decide +kernel
theorem dX12_isImage_130 : decode cX12_isImage 130 = .ok (.aload_n 0, 1) := by decide +kernel
theorem dX12_isImage_131 : decode cX12_isImage 131 = .ok (.getfield 7, 3) := by decide +kernel
theorem dX12_isImage_134 : decode cX12_isImage 134 = .ok (.iload_n 2, 1) := by decide +kernel
theorem dX12_isImage_135 : decode cX12_isImage 135 = .ok (.iload 4, 2) := by decide +kernel
theorem dX12_isImage_137 : decode cX12_isImage 137 = .ok (.iadd, 1) := by decide +kernel
theorem dX12_isImage_138 : decode cX12_isImage 138 = .ok (.iaload, 1) := by decide +kernel
theorem dX12_isImage_139 : decode cX12_isImage 139 = .ok (.aload_n 0, 1) := by decide +kernel
theorem dX12_isImage_140 : decode cX12_isImage 140 = .ok (.getfield 115, 3) := by decide +kernel
theorem dX12_isImage_143 : decode cX12_isImage 143 = .ok (.iconst 4, 1) := by decide +kernel
theorem dX12_isImage_144 : decode cX12_isImage 144 = .ok (.iload 4, 2) := by decide +kernel
theorem dX12_isImage_146 : decode cX12_isImage 146 = .ok (.iadd, 1) := by decide +kernel
theorem dX12_isImage_147 : decode cX12_isImage 147 = .ok (.iaload, 1) := by decide +kernel
theorem dX12_isImage_148 : decode cX12_isImage 148 = .ok (.if_icmp .le 5, 3) := by decide +kernel
theorem dX12_isImage_151 : decode cX12_isImage 151 = .ok (.iconst 0, 1) := by decide +kernel
theorem dX12_isImage_152 : decode cX12_isImage 152 = .ok (.ireturn, 1) := by decide +kernel
theorem dX12_isImage_153 : decode cX12_isImage 153 = .ok (.iinc 4 1, 3) := by decide +kernel
theorem dX12_isImage_156 : decode cX12_isImage 156 = .ok (.goto (-35), 3) := by decide +kernel
theorem dX12_isImage_159 : decode cX12_isImage 159 = .ok (.aload_n 0, 1) := by decide +kernel
theorem dX12_isImage_160 : decode cX12_isImage 160 = .ok (.iload_n 3, 1) := by decide +kernel
theorem dX12_isImage_161 : decode cX12_isImage 161 = .ok (.invokevirtual 696, 3) := by decide +kernel
theorem dX12_isImage_164 : decode cX12_isImage 164 = .ok (.ireturn, 1) := by decide +kernel
theorem dX12_fault_0 : decode cX12_fault 0 = .ok (.iload_n 1, 1) := by decide +kernel
theorem dX12_fault_1 : decode cX12_fault 1 = .ok (.ifCond .ne 10, 3) := by decide +kernel
theorem dX12_fault_4 : decode cX12_fault 4 = .ok (.aload_n 0, 1) := by decide +kernel
theorem dX12_fault_5 : decode cX12_fault 5 = .ok (.getfield 401, 3) := by decide +kernel
theorem dX12_fault_8 : decode cX12_fault 8 = .ok (.goto 16, 3) := by decide +kernel
theorem dX12_fault_11 : decode cX12_fault 11 = .ok (.iload_n 1, 1) := by decide +kernel
theorem dX12_fault_12 : decode cX12_fault 12 = .ok (.iconst 1, 1) := by decide +kernel
theorem dX12_fault_13 : decode cX12_fault 13 = .ok (.if_icmp .ne 10, 3) := by decide +kernel
theorem dX12_fault_16 : decode cX12_fault 16 = .ok (.aload_n 0, 1) := by decide +kernel
theorem dX12_fault_17 : decode cX12_fault 17 = .ok (.getfield 13, 3) := by decide +kernel
theorem dX12_fault_20 : decode cX12_fault 20 = .ok (.goto 4, 3) := by decide +kernel
theorem dX12_fault_23 : decode cX12_fault 23 = .ok (.iconst (-1), 1) := by decide +kernel
theorem dX12_fault_24 : decode cX12_fault 24 = .ok (.ireturn, 1) := by decide +kernel
theorem dX12_doesBear_0 : decode cX12_doesBear 0 = .ok (.aload_n 0, 1) := by decide +kernel
theorem dX12_doesBear_1 : decode cX12_doesBear 1 = .ok (.getfield 127, 3) := by decide +kernel
theorem dX12_doesBear_4 : decode cX12_doesBear 4 = .ok (.bipush 11, 2) := by decide +kernel
theorem dX12_doesBear_6 : decode cX12_doesBear 6 = .ok (.iconst 3, 1) := by decide +kernel
theorem dX12_doesBear_7 : decode cX12_doesBear 7 = .ok (.iload_n 2, 1) := by decide +kernel
theorem dX12_doesBear_8 : decode cX12_doesBear 8 = .ok (.imul, 1) := by decide +kernel
theorem dX12_doesBear_9 : decode cX12_doesBear 9 = .ok (.iadd, 1) := by decide +kernel
theorem dX12_doesBear_10 : decode cX12_doesBear 10 = .ok (.iaload, 1) := by decide +kernel
theorem dX12_doesBear_11 : decode cX12_doesBear 11 = .ok (.aload_n 0, 1) := by decide +kernel
theorem dX12_doesBear_12 : decode cX12_doesBear 12 = .ok (.getfield 112, 3) := by decide +kernel
theorem dX12_doesBear_15 : decode cX12_doesBear 15 = .ok (.bipush 26, 2) := by decide +kernel
theorem dX12_doesBear_17 : decode cX12_doesBear 17 = .ok (.iconst 3, 1) := by decide +kernel
theorem dX12_doesBear_18 : decode cX12_doesBear 18 = .ok (.iload_n 1, 1) := by decide +kernel
theorem dX12_doesBear_19 : decode cX12_doesBear 19 = .ok (.imul, 1) := by decide +kernel
theorem dX12_doesBear_20 : decode cX12_doesBear 20 = .ok (.iadd, 1) := by decide +kernel
theorem dX12_doesBear_21 : decode cX12_doesBear 21 = .ok (.iaload, 1) := by decide +kernel
theorem dX12_doesBear_22 : decode cX12_doesBear 22 = .ok (.if_icmp .lt 7, 3) := by decide +kernel
theorem dX12_doesBear_25 : decode cX12_doesBear 25 = .ok (.iconst 1, 1) := by decide +kernel
theorem dX12_doesBear_26 : decode cX12_doesBear 26 = .ok (.goto 4, 3) := by decide +kernel
theorem dX12_doesBear_29 : decode cX12_doesBear 29 = .ok (.iconst 0, 1) := by decide +kernel
theorem dX12_doesBear_30 : decode cX12_doesBear 30 = .ok (.ireturn, 1) := by decide +kernel
theorem dX12_isSheetNear_0 : decode cX12_isSheetNear 0 = .ok (.iconst 0, 1) := by decide +kernel
theorem dX12_isSheetNear_1 : decode cX12_isSheetNear 1 = .ok (.istore_n 3, 1) := by decide +kernel
theorem dX12_isSheetNear_2 : decode cX12_isSheetNear 2 = .ok (.iload_n 3, 1) := by decide +kernel
theorem dX12_isSheetNear_3 : decode cX12_isSheetNear 3 = .ok (.aload_n 0, 1) := by decide +kernel
theorem dX12_isSheetNear_4 : decode cX12_isSheetNear 4 = .ok (.invokevirtual 419, 3) := by decide +kernel
theorem dX12_isSheetNear_7 : decode cX12_isSheetNear 7 = .ok (.if_icmp .ge 37, 3) := by decide +kernel
theorem dX12_isSheetNear_10 : decode cX12_isSheetNear 10 = .ok (.aload_n 0, 1) := by decide +kernel
theorem dX12_isSheetNear_11 : decode cX12_isSheetNear 11 = .ok (.getfield 121, 3) := by decide +kernel
theorem dX12_isSheetNear_14 : decode cX12_isSheetNear 14 = .ok (.bipush 8, 2) := by decide +kernel
theorem dX12_isSheetNear_16 : decode cX12_isSheetNear 16 = .ok (.iload_n 1, 1) := by decide +kernel
theorem dX12_isSheetNear_17 : decode cX12_isSheetNear 17 = .ok (.iadd, 1) := by decide +kernel
theorem dX12_isSheetNear_18 : decode cX12_isSheetNear 18 = .ok (.iaload, 1) := by decide +kernel
theorem dX12_isSheetNear_19 : decode cX12_isSheetNear 19 = .ok (.iload_n 3, 1) := by decide +kernel
theorem dX12_isSheetNear_20 : decode cX12_isSheetNear 20 = .ok (.ishr, 1) := by decide +kernel
theorem dX12_isSheetNear_21 : decode cX12_isSheetNear 21 = .ok (.iconst 1, 1) := by decide +kernel
theorem dX12_isSheetNear_22 : decode cX12_isSheetNear 22 = .ok (.iand, 1) := by decide +kernel
theorem dX12_isSheetNear_23 : decode cX12_isSheetNear 23 = .ok (.iconst 1, 1) := by decide +kernel
theorem dX12_isSheetNear_24 : decode cX12_isSheetNear 24 = .ok (.if_icmp .ne 14, 3) := by decide +kernel
theorem dX12_isSheetNear_27 : decode cX12_isSheetNear 27 = .ok (.aload_n 0, 1) := by decide +kernel
theorem dX12_isSheetNear_28 : decode cX12_isSheetNear 28 = .ok (.iload_n 3, 1) := by decide +kernel
theorem dX12_isSheetNear_29 : decode cX12_isSheetNear 29 = .ok (.invokevirtual 504, 3) := by decide +kernel
theorem dX12_isSheetNear_32 : decode cX12_isSheetNear 32 = .ok (.iload_n 2, 1) := by decide +kernel
theorem dX12_isSheetNear_33 : decode cX12_isSheetNear 33 = .ok (.if_icmp .ne 5, 3) := by decide +kernel
theorem dX12_isSheetNear_36 : decode cX12_isSheetNear 36 = .ok (.iconst 1, 1) := by decide +kernel
theorem dX12_isSheetNear_37 : decode cX12_isSheetNear 37 = .ok (.ireturn, 1) := by decide +kernel
theorem dX12_isSheetNear_38 : decode cX12_isSheetNear 38 = .ok (.iinc 3 1, 3) := by decide +kernel
theorem dX12_isSheetNear_41 : decode cX12_isSheetNear 41 = .ok (.goto (-39), 3) := by decide +kernel
theorem dX12_isSheetNear_44 : decode cX12_isSheetNear 44 = .ok (.iconst 0, 1) := by decide +kernel
theorem dX12_isSheetNear_45 : decode cX12_isSheetNear 45 = .ok (.ireturn, 1) := by decide +kernel
theorem dX12_sheets_0 : decode cX12_sheets 0 = .ok (.iload_n 1, 1) := by decide +kernel
theorem dX12_sheets_1 : decode cX12_sheets 1 = .ok (.iconst (-1), 1) := by decide +kernel
theorem dX12_sheets_2 : decode cX12_sheets 2 = .ok (.if_icmp .eq 13, 3) := by decide +kernel
theorem dX12_sheets_5 : decode cX12_sheets 5 = .ok (.aload_n 0, 1) := by decide +kernel
theorem dX12_sheets_6 : decode cX12_sheets 6 = .ok (.iload_n 1, 1) := by decide +kernel
theorem dX12_sheets_7 : decode cX12_sheets 7 = .ok (.invokevirtual 501, 3) := by decide +kernel
theorem dX12_sheets_10 : decode cX12_sheets 10 = .ok (.ifCond .ne 5, 3) := by decide +kernel
theorem dX12_sheets_13 : decode cX12_sheets 13 = .ok (.iconst (-1), 1) := by decide +kernel
theorem dX12_sheets_14 : decode cX12_sheets 14 = .ok (.ireturn, 1) := by decide +kernel
theorem dX12_sheets_15 : decode cX12_sheets 15 = .ok (.iconst 0, 1) := by decide +kernel
theorem dX12_sheets_16 : decode cX12_sheets 16 = .ok (.istore_n 2, 1) := by decide +kernel
theorem dX12_sheets_17 : decode cX12_sheets 17 = .ok (.aload_n 0, 1) := by decide +kernel
theorem dX12_sheets_18 : decode cX12_sheets 18 = .ok (.iload_n 2, 1) := by decide +kernel
theorem dX12_sheets_19 : decode cX12_sheets 19 = .ok (.invokevirtual 542, 3) := by decide +kernel
theorem dX12_sheets_22 : decode cX12_sheets 22 = .ok (.ifCond .ne 9, 3) := by decide +kernel
theorem dX12_sheets_25 : decode cX12_sheets 25 = .ok (.iinc 2 1, 3) := by decide +kernel
theorem dX12_sheets_28 : decode cX12_sheets 28 = .ok (.goto (-11), 3) := by decide +kernel
theorem dX12_sheets_31 : decode cX12_sheets 31 = .ok (.iload_n 1, 1) := by decide +kernel
theorem dX12_sheets_32 : decode cX12_sheets 32 = .ok (.iconst (-1), 1) := by decide +kernel
theorem dX12_sheets_33 : decode cX12_sheets 33 = .ok (.if_icmp .ne 7, 3) := by decide +kernel
theorem dX12_sheets_36 : decode cX12_sheets 36 = .ok (.iload_n 2, 1) := by decide +kernel
theorem dX12_sheets_37 : decode cX12_sheets 37 = .ok (.goto 9, 3) := by decide +kernel
