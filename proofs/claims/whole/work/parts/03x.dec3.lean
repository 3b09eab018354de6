theorem dX11_see_76 : decode cX11_see 76 = .ok (.iload_n 3, 1) := by decide +kernel
theorem dX11_see_77 : decode cX11_see 77 = .ok (.aload_n 0, 1) := by decide +kernel
theorem dX11_see_78 : decode cX11_see 78 = .ok (.getfield 12, 3) := by decide +kernel
theorem dX11_see_81 : decode cX11_see 81 = .ok (.getfield 292, 3) := by decide +kernel
theorem dX11_see_84 : decode cX11_see 84 = .ok (.iconst 3, 1) := by decide +kernel
theorem dX11_see_85 : decode cX11_see 85 = .ok (.iload_n 3, 1) := by decide +kernel
theorem dX11_see_86 : decode cX11_see 86 = .ok (.imul, 1) := by decide +kernel
theorem dX11_see_87 : decode cX11_see 87 = .ok (.iaload, 1) := by decide +kernel
theorem dX11_see_88 : decode cX11_see 88 = .ok (.iastore, 1) := by decide +kernel
theorem dX11_see_89 : decode cX11_see 89 = .ok (.aload_n 0, 1) := by decide +kernel
theorem dX11_see_90 : decode cX11_see 90 = .ok (.getfield 64, 3) := by decide +kernel
theorem dX11_see_93 : decode cX11_see 93 = .ok (.iload_n 3, 1) := by decide +kernel
theorem dX11_see_94 : decode cX11_see 94 = .ok (.aload_n 0, 1) := by decide +kernel
theorem dX11_see_95 : decode cX11_see 95 = .ok (.getfield 12, 3) := by decide +kernel
theorem dX11_see_98 : decode cX11_see 98 = .ok (.iconst 3, 1) := by decide +kernel
theorem dX11_see_99 : decode cX11_see 99 = .ok (.iload_n 3, 1) := by decide +kernel
theorem dX11_see_100 : decode cX11_see 100 = .ok (.imul, 1) := by decide +kernel
theorem dX11_see_101 : decode cX11_see 101 = .ok (.iconst 1, 1) := by decide +kernel
theorem dX11_see_102 : decode cX11_see 102 = .ok (.iadd, 1) := by decide +kernel
theorem dX11_see_103 : decode cX11_see 103 = .ok (.invokevirtual 295, 3) := by decide +kernel
theorem dX11_see_106 : decode cX11_see 106 = .ok (.iastore, 1) := by decide +kernel
theorem dX11_see_107 : decode cX11_see 107 = .ok (.iinc 3 1, 3) := by decide +kernel
theorem dX11_see_110 : decode cX11_see 110 = .ok (.goto (-43), 3) := by decide +kernel
theorem dX11_see_113 : decode cX11_see 113 = .ok (.aload_n 0, 1) := by decide +kernel
theorem dX11_see_114 : decode cX11_see 114 = .ok (.iload_n 1, 1) := by decide +kernel
theorem dX11_see_115 : decode cX11_see 115 = .ok (.putfield 134, 3) := by decide +kernel
theorem dX11_see_118 : decode cX11_see 118 = .ok (.iload_n 1, 1) := by decide +kernel
theorem dX11_see_119 : decode cX11_see 119 = .ok (.ireturn, 1) := by decide +kernel
theorem dX11_status_0 : decode cX11_status 0 = .ok (.iload_n 1, 1) := by decide +kernel
theorem dX11_status_1 : decode cX11_status 1 = .ok (.ifCond .lt 12, 3) := by decide +kernel
theorem dX11_status_4 : decode cX11_status 4 = .ok (.iload_n 1, 1) := by decide +kernel
theorem dX11_status_5 : decode cX11_status 5 = .ok (.aload_n 0, 1) := by decide +kernel
theorem dX11_status_6 : decode cX11_status 6 = .ok (.getfield 70, 3) := by decide +kernel
theorem dX11_status_9 : decode cX11_status 9 = .ok (.arraylength, 1) := by decide +kernel
theorem dX11_status_10 : decode cX11_status 10 = .ok (.if_icmp .lt 7, 3) := by decide +kernel
theorem dX11_status_13 : decode cX11_status 13 = .ok (.iconst (-1), 1) := by decide +kernel
theorem dX11_status_14 : decode cX11_status 14 = .ok (.goto 9, 3) := by decide +kernel
theorem dX11_status_17 : decode cX11_status 17 = .ok (.aload_n 0, 1) := by decide +kernel
theorem dX11_status_18 : decode cX11_status 18 = .ok (.getfield 70, 3) := by decide +kernel
theorem dX11_status_21 : decode cX11_status 21 = .ok (.iload_n 1, 1) := by decide +kernel
theorem dX11_status_22 : decode cX11_status 22 = .ok (.iaload, 1) := by decide +kernel
theorem dX11_status_23 : decode cX11_status 23 = .ok (.ireturn, 1) := by decide +kernel
theorem dX11_undo_0 : decode cX11_undo 0 = .ok (.aload_n 0, 1) := by decide +kernel
theorem dX11_undo_1 : decode cX11_undo 1 = .ok (.getfield 131, 3) := by decide +kernel
theorem dX11_undo_4 : decode cX11_undo 4 = .ok (.ifCond .ne 9, 3) := by decide +kernel
theorem dX11_undo_7 : decode cX11_undo 7 = .ok (.aload_n 0, 1) := by decide +kernel
theorem dX11_undo_8 : decode cX11_undo 8 = .ok (.iconst 4, 1) := by decide +kernel
theorem dX11_undo_9 : decode cX11_undo 9 = .ok (.invokevirtual 116, 3) := by decide +kernel
theorem dX11_undo_12 : decode cX11_undo 12 = .ok (.ireturn, 1) := by decide +kernel
theorem dX11_undo_13 : decode cX11_undo 13 = .ok (.aload_n 0, 1) := by decide +kernel
theorem dX11_undo_14 : decode cX11_undo 14 = .ok (.dup, 1) := by decide +kernel
theorem dX11_undo_15 : decode cX11_undo 15 = .ok (.getfield 131, 3) := by decide +kernel
theorem dX11_undo_18 : decode cX11_undo 18 = .ok (.iconst 1, 1) := by decide +kernel
theorem dX11_undo_19 : decode cX11_undo 19 = .ok (.isub, 1) := by decide +kernel
theorem dX11_undo_20 : decode cX11_undo 20 = .ok (.putfield 131, 3) := by decide +kernel
theorem dX11_undo_23 : decode cX11_undo 23 = .ok (.aload_n 0, 1) := by decide +kernel
theorem dX11_undo_24 : decode cX11_undo 24 = .ok (.getfield 49, 3) := by decide +kernel
theorem dX11_undo_27 : decode cX11_undo 27 = .ok (.aload_n 0, 1) := by decide +kernel
theorem dX11_undo_28 : decode cX11_undo 28 = .ok (.getfield 56, 3) := by decide +kernel
theorem dX11_undo_31 : decode cX11_undo 31 = .ok (.aload_n 0, 1) := by decide +kernel
theorem dX11_undo_32 : decode cX11_undo 32 = .ok (.getfield 320, 3) := by decide +kernel
theorem dX11_undo_35 : decode cX11_undo 35 = .ok (.aload_n 0, 1) := by decide +kernel
theorem dX11_undo_36 : decode cX11_undo 36 = .ok (.getfield 131, 3) := by decide +kernel
theorem dX11_undo_39 : decode cX11_undo 39 = .ok (.iadd, 1) := by decide +kernel
theorem dX11_undo_40 : decode cX11_undo 40 = .ok (.bipush 20, 2) := by decide +kernel
theorem dX11_undo_42 : decode cX11_undo 42 = .ok (.irem, 1) := by decide +kernel
theorem dX11_undo_43 : decode cX11_undo 43 = .ok (.aaload, 1) := by decide +kernel
theorem dX11_undo_44 : decode cX11_undo 44 = .ok (.invokevirtual 249, 3) := by decide +kernel
theorem dX11_undo_47 : decode cX11_undo 47 = .ok (.iconst 1, 1) := by decide +kernel
theorem dX11_undo_48 : decode cX11_undo 48 = .ok (.ireturn, 1) := by decide +kernel
theorem dX11_sheets_0 : decode cX11_sheets 0 = .ok (.iload_n 1, 1) := by decide +kernel
theorem dX11_sheets_1 : decode cX11_sheets 1 = .ok (.iconst (-1), 1) := by decide +kernel
theorem dX11_sheets_2 : decode cX11_sheets 2 = .ok (.if_icmp .eq 13, 3) := by decide +kernel
theorem dX11_sheets_5 : decode cX11_sheets 5 = .ok (.aload_n 0, 1) := by decide +kernel
theorem dX11_sheets_6 : decode cX11_sheets 6 = .ok (.iload_n 1, 1) := by decide +kernel
theorem dX11_sheets_7 : decode cX11_sheets 7 = .ok (.invokevirtual 169, 3) := by decide +kernel
theorem dX11_sheets_10 : decode cX11_sheets 10 = .ok (.ifCond .ne 5, 3) := by decide +kernel
theorem dX11_sheets_13 : decode cX11_sheets 13 = .ok (.iconst (-1), 1) := by decide +kernel
theorem dX11_sheets_14 : decode cX11_sheets 14 = .ok (.ireturn, 1) := by decide +kernel
theorem dX11_sheets_15 : decode cX11_sheets 15 = .ok (.aload_n 0, 1) := by decide +kernel
theorem dX11_sheets_16 : decode cX11_sheets 16 = .ok (.getfield 42, 3) := by decide +kernel
theorem dX11_sheets_19 : decode cX11_sheets 19 = .ok (.aload_n 0, 1) := by decide +kernel
theorem dX11_sheets_20 : decode cX11_sheets 20 = .ok (.getfield 76, 3) := by decide +kernel
theorem dX11_sheets_23 : decode cX11_sheets 23 = .ok (.invokevirtual 262, 3) := by decide +kernel
theorem dX11_sheets_26 : decode cX11_sheets 26 = .ok (.iload_n 1, 1) := by decide +kernel
theorem dX11_sheets_27 : decode cX11_sheets 27 = .ok (.iconst (-1), 1) := by decide +kernel
theorem dX11_sheets_28 : decode cX11_sheets 28 = .ok (.if_icmp .ne 13, 3) := by decide +kernel
theorem dX11_sheets_31 : decode cX11_sheets 31 = .ok (.aload_n 0, 1) := by decide +kernel
theorem dX11_sheets_32 : decode cX11_sheets 32 = .ok (.getfield 42, 3) := by decide +kernel
theorem dX11_sheets_35 : decode cX11_sheets 35 = .ok (.getfield 265, 3) := by decide +kernel
theorem dX11_sheets_38 : decode cX11_sheets 38 = .ok (.goto 12, 3) := by decide +kernel
theorem dX11_sheets_41 : decode cX11_sheets 41 = .ok (.aload_n 0, 1) := by decide +kernel
theorem dX11_sheets_42 : decode cX11_sheets 42 = .ok (.getfield 42, 3) := by decide +kernel
theorem dX11_sheets_45 : decode cX11_sheets 45 = .ok (.getfield 268, 3) := by decide +kernel
theorem dX11_sheets_48 : decode cX11_sheets 48 = .ok (.iload_n 1, 1) := by decide +kernel
theorem dX11_sheets_49 : decode cX11_sheets 49 = .ok (.iaload, 1) := by decide +kernel
theorem dX11_sheets_50 : decode cX11_sheets 50 = .ok (.ireturn, 1) := by decide +kernel
theorem dX11_catchColds_0 : decode cX11_catchColds 0 = .ok (.iconst 0, 1) := by decide +kernel
theorem dX11_catchColds_1 : decode cX11_catchColds 1 = .ok (.istore_n 1, 1) := by decide +kernel
theorem dX11_catchColds_2 : decode cX11_catchColds 2 = .ok (.iconst 0, 1) := by decide +kernel
theorem dX11_catchColds_3 : decode cX11_catchColds 3 = .ok (.istore_n 2, 1) := by decide +kernel
theorem dX11_catchColds_4 : decode cX11_catchColds 4 = .ok (.iload_n 2, 1) := by decide +kernel
theorem dX11_catchColds_5 : decode cX11_catchColds 5 = .ok (.aload_n 0, 1) := by decide +kernel
theorem dX11_catchColds_6 : decode cX11_catchColds 6 = .ok (.getfield 76, 3) := by decide +kernel
theorem dX11_catchColds_9 : decode cX11_catchColds 9 = .ok (.getfield 146, 3) := by decide +kernel
theorem dX11_catchColds_12 : decode cX11_catchColds 12 = .ok (.iconst 2, 1) := by decide +kernel
theorem dX11_catchColds_13 : decode cX11_catchColds 13 = .ok (.iaload, 1) := by decide +kernel
theorem dX11_catchColds_14 : decode cX11_catchColds 14 = .ok (.if_icmp .ge 36, 3) := by decide +kernel
theorem dX11_catchColds_17 : decode cX11_catchColds 17 = .ok (.aload_n 0, 1) := by decide +kernel
theorem dX11_catchColds_18 : decode cX11_catchColds 18 = .ok (.invokevirtual 349, 3) := by decide +kernel
theorem dX11_catchColds_21 : decode cX11_catchColds 21 = .ok (.aload_n 0, 1) := by decide +kernel
theorem dX11_catchColds_22 : decode cX11_catchColds 22 = .ok (.getfield 76, 3) := by decide +kernel
theorem dX11_catchColds_25 : decode cX11_catchColds 25 = .ok (.getfield 352, 3) := by decide +kernel
theorem dX11_catchColds_28 : decode cX11_catchColds 28 = .ok (.if_icmp .ge 16, 3) := by decide +kernel
theorem dX11_catchColds_31 : decode cX11_catchColds 31 = .ok (.aload_n 0, 1) := by decide +kernel
theorem dX11_catchColds_32 : decode cX11_catchColds 32 = .ok (.getfield 49, 3) := by decide +kernel
theorem dX11_catchColds_35 : decode cX11_catchColds 35 = .ok (.getfield 217, 3) := by decide +kernel
theorem dX11_catchColds_38 : decode cX11_catchColds 38 = .ok (.iload_n 2, 1) := by decide +kernel
theorem dX11_catchColds_39 : decode cX11_catchColds 39 = .ok (.iconst 0, 1) := by decide +kernel
theorem dX11_catchColds_40 : decode cX11_catchColds 40 = .ok (.iastore, 1) := by decide +kernel
theorem dX11_catchColds_41 : decode cX11_catchColds 41 = .ok (.iinc 1 1, 3) := by decide +kernel
theorem dX11_catchColds_44 : decode cX11_catchColds 44 = .ok (.iinc 2 1, 3) := by decide +kernel
theorem dX11_catchColds_47 : decode cX11_catchColds 47 = .ok (.goto (-43), 3) := by decide +kernel
theorem dX11_catchColds_50 : decode cX11_catchColds 50 = .ok (.iload_n 1, 1) := by decide +kernel
theorem dX11_catchColds_51 : decode cX11_catchColds 51 = .ok (.ireturn, 1) := by decide +kernel
theorem dX11_image_0 : decode cX11_image 0 = .ok (.iconst 0, 1) := by decide +kernel
theorem dX11_image_1 : decode cX11_image 1 = .ok (.istore_n 1, 1) := by decide +kernel
theorem dX11_image_2 : decode cX11_image 2 = .ok (.aload_n 0, 1) := by decide +kernel
theorem dX11_image_3 : decode cX11_image 3 = .ok (.getfield 67, 3) := by decide +kernel
theorem dX11_image_6 : decode cX11_image 6 = .ok (.iload_n 1, 1) := by decide +kernel
theorem dX11_image_7 : decode cX11_image 7 = .ok (.iinc 1 1, 3) := by decide +kernel
theorem dX11_image_10 : decode cX11_image 10 = .ok (.aload_n 0, 1) := by decide +kernel
theorem dX11_image_11 : decode cX11_image 11 = .ok (.getfield 49, 3) := by decide +kernel
theorem dX11_image_14 : decode cX11_image 14 = .ok (.getfield 149, 3) := by decide +kernel
theorem dX11_image_17 : decode cX11_image 17 = .ok (.bipush 8, 2) := by decide +kernel
theorem dX11_image_19 : decode cX11_image 19 = .ok (.ishr, 1) := by decide +kernel
theorem dX11_image_20 : decode cX11_image 20 = .ok (.iastore, 1) := by decide +kernel
theorem dX11_image_21 : decode cX11_image 21 = .ok (.aload_n 0, 1) := by decide +kernel
theorem dX11_image_22 : decode cX11_image 22 = .ok (.getfield 67, 3) := by decide +kernel
theorem dX11_image_25 : decode cX11_image 25 = .ok (.iload_n 1, 1) := by decide +kernel
theorem dX11_image_26 : decode cX11_image 26 = .ok (.iinc 1 1, 3) := by decide +kernel
theorem dX11_image_29 : decode cX11_image 29 = .ok (.aload_n 0, 1) := by decide +kernel
theorem dX11_image_30 : decode cX11_image 30 = .ok (.getfield 49, 3) := by decide +kernel
theorem dX11_image_33 : decode cX11_image 33 = .ok (.getfield 149, 3) := by decide +kernel
theorem dX11_image_36 : decode cX11_image 36 = .ok (.sipush 255, 3) := by decide +kernel
theorem dX11_image_39 : decode cX11_image 39 = .ok (.iand, 1) := by decide +kernel
theorem dX11_image_40 : decode cX11_image 40 = .ok (.iastore, 1) := by decide +kernel
theorem dX11_image_41 : decode cX11_image 41 = .ok (.iconst 0, 1) := by decide +kernel
theorem dX11_image_42 : decode cX11_image 42 = .ok (.istore_n 2, 1) := by decide +kernel
theorem dX11_image_43 : decode cX11_image 43 = .ok (.iload_n 2, 1) := by decide +kernel
theorem dX11_image_44 : decode cX11_image 44 = .ok (.aload_n 0, 1) := by decide +kernel
theorem dX11_image_45 : decode cX11_image 45 = .ok (.getfield 76, 3) := by decide +kernel
theorem dX11_image_48 : decode cX11_image 48 = .ok (.getfield 146, 3) := by decide +kernel
theorem dX11_image_51 : decode cX11_image 51 = .ok (.iconst 2, 1) := by decide +kernel
theorem dX11_image_52 : decode cX11_image 52 = .ok (.iaload, 1) := by decide +kernel
theorem dX11_image_53 : decode cX11_image 53 = .ok (.if_icmp .ge 27, 3) := by decide +kernel
theorem dX11_image_56 : decode cX11_image 56 = .ok (.aload_n 0, 1) := by decide +kernel
theorem dX11_image_57 : decode cX11_image 57 = .ok (.getfield 67, 3) := by decide +kernel
theorem dX11_image_60 : decode cX11_image 60 = .ok (.iload_n 1, 1) := by decide +kernel
theorem dX11_image_61 : decode cX11_image 61 = .ok (.iinc 1 1, 3) := by decide +kernel
theorem dX11_image_64 : decode cX11_image 64 = .ok (.aload_n 0, 1) := by decide +kernel
theorem dX11_image_65 : decode cX11_image 65 = .ok (.getfield 49, 3) := by decide +kernel
theorem dX11_image_68 : decode cX11_image 68 = .ok (.getfield 217, 3) := by decide +kernel
theorem dX11_image_71 : decode cX11_image 71 = .ok (.iload_n 2, 1) := by decide +kernel
theorem dX11_image_72 : decode cX11_image 72 = .ok (.iaload, 1) := by decide +kernel
theorem dX11_image_73 : decode cX11_image 73 = .ok (.iastore, 1) := by decide +kernel
theorem dX11_image_74 : decode cX11_image 74 = .ok (.iinc 2 1, 3) := by decide +kernel
theorem dX11_image_77 : decode cX11_image 77 = .ok (.goto (-34), 3) := by decide +kernel
theorem dX11_image_80 : decode cX11_image 80 = .ok (.iconst 0, 1) := by decide +kernel
theorem dX11_image_81 : decode cX11_image 81 = .ok (.istore_n 2, 1) := by decide +kernel
theorem dX11_image_82 : decode cX11_image 82 = .ok (.iload_n 2, 1) := by decide +kernel
theorem dX11_image_83 : decode cX11_image 83 = .ok (.aload_n 0, 1) := by decide +kernel
theorem dX11_image_84 : decode cX11_image 84 = .ok (.getfield 76, 3) := by decide +kernel
theorem dX11_image_87 : decode cX11_image 87 = .ok (.getfield 146, 3) := by decide +kernel
theorem dX11_image_90 : decode cX11_image 90 = .ok (.iconst 1, 1) := by decide +kernel
theorem dX11_image_91 : decode cX11_image 91 = .ok (.iaload, 1) := by decide +kernel
theorem dX11_image_92 : decode cX11_image 92 = .ok (.if_icmp .ge 27, 3) := by decide +kernel
theorem dX11_image_95 : decode cX11_image 95 = .ok (.aload_n 0, 1) := by decide +kernel
theorem dX11_image_96 : decode cX11_image 96 = .ok (.getfield 67, 3) := by decide +kernel
theorem dX11_image_99 : decode cX11_image 99 = .ok (.iload_n 1, 1) := by decide +kernel
theorem dX11_image_100 : decode cX11_image 100 = .ok (.iinc 1 1, 3) := by decide +kernel
theorem dX11_image_103 : decode cX11_image 103 = .ok (.aload_n 0, 1) := by decide +kernel
theorem dX11_image_104 : decode cX11_image 104 = .ok (.getfield 49, 3) := by decide +kernel
theorem dX11_image_107 : decode cX11_image 107 = .ok (.getfield 199, 3) := by decide +kernel
theorem dX11_image_110 : decode cX11_image 110 = .ok (.iload_n 2, 1) := by decide +kernel
theorem dX11_image_111 : decode cX11_image 111 = .ok (.iaload, 1) := by decide +kernel
theorem dX11_image_112 : decode cX11_image 112 = .ok (.iastore, 1) := by decide +kernel
theorem dX11_image_113 : decode cX11_image 113 = .ok (.iinc 2 1, 3) := by decide +kernel
theorem dX11_image_116 : decode cX11_image 116 = .ok (.goto (-34), 3) := by decide +kernel
theorem dX11_image_119 : decode cX11_image 119 = .ok (.iconst 0, 1) := by decide +kernel
theorem dX11_image_120 : decode cX11_image 120 = .ok (.istore_n 2, 1) := by decide +kernel
theorem dX11_image_121 : decode cX11_image 121 = .ok (.iload_n 2, 1) := by decide +kernel
theorem dX11_image_122 : decode cX11_image 122 = .ok (.aload_n 0, 1) := by decide +kernel
theorem dX11_image_123 : decode cX11_image 123 = .ok (.getfield 76, 3) := by decide +kernel
theorem dX11_image_126 : decode cX11_image 126 = .ok (.getfield 146, 3) := by decide +kernel
theorem dX11_image_129 : decode cX11_image 129 = .ok (.iconst 0, 1) := by decide +kernel
theorem dX11_image_130 : decode cX11_image 130 = .ok (.iaload, 1) := by decide +kernel
theorem dX11_image_131 : decode cX11_image 131 = .ok (.if_icmp .ge 67, 3) := by decide +kernel
theorem dX11_image_134 : decode cX11_image 134 = .ok (.aload_n 0, 1) := by decide +kernel
theorem dX11_image_135 : decode cX11_image 135 = .ok (.getfield 67, 3) := by decide +kernel
theorem dX11_image_138 : decode cX11_image 138 = .ok (.iload_n 1, 1) := by decide +kernel
theorem dX11_image_139 : decode cX11_image 139 = .ok (.iinc 1 1, 3) := by decide +kernel
theorem dX11_image_142 : decode cX11_image 142 = .ok (.aload_n 0, 1) := by decide +kernel
theorem dX11_image_143 : decode cX11_image 143 = .ok (.getfield 49, 3) := by decide +kernel
theorem dX11_image_146 : decode cX11_image 146 = .ok (.getfield 181, 3) := by decide +kernel
theorem dX11_image_149 : decode cX11_image 149 = .ok (.iload_n 2, 1) := by decide +kernel
theorem dX11_image_150 : decode cX11_image 150 = .ok (.iaload, 1) := by decide +kernel
theorem dX11_image_151 : decode cX11_image 151 = .ok (.iconst 1, 1) := by decide +kernel
theorem dX11_image_152 : decode cX11_image 152 = .ok (.iadd, 1) := by decide +kernel
theorem dX11_image_153 : decode cX11_image 153 = .ok (.iastore, 1) := by decide +kernel
theorem dX11_image_154 : decode cX11_image 154 = .ok (.aload_n 0, 1) := by decide +kernel
theorem dX11_image_155 : decode cX11_image 155 = .ok (.getfield 67, 3) := by decide +kernel
theorem dX11_image_158 : decode cX11_image 158 = .ok (.iload_n 1, 1) := by decide +kernel
theorem dX11_image_159 : decode cX11_image 159 = .ok (.iinc 1 1, 3) := by decide +kernel
theorem dX11_image_162 : decode cX11_image 162 = .ok (.aload_n 0, 1) := by decide +kernel
theorem dX11_image_163 : decode cX11_image 163 = .ok (.getfield 49, 3) := by decide +kernel
theorem dX11_image_166 : decode cX11_image 166 = .ok (.getfield 184, 3) := by decide +kernel
theorem dX11_image_169 : decode cX11_image 169 = .ok (.iload_n 2, 1) := by decide +kernel
theorem dX11_image_170 : decode cX11_image 170 = .ok (.iaload, 1) := by decide +kernel
theorem dX11_image_171 : decode cX11_image 171 = .ok (.iastore, 1) := by decide +kernel
theorem dX11_image_172 : decode cX11_image 172 = .ok (.aload_n 0, 1) := by decide +kernel
theorem dX11_image_173 : decode cX11_image 173 = .ok (.getfield 67, 3) := by decide +kernel
theorem dX11_image_176 : decode cX11_image 176 = .ok (.iload_n 1, 1) := by decide +kernel
theorem dX11_image_177 : decode cX11_image 177 = .ok (.iinc 1 1, 3) := by decide +kernel
theorem dX11_image_180 : decode cX11_image 180 = .ok (.aload_n 0, 1) := by decide +kernel
theorem dX11_image_181 : decode cX11_image 181 = .ok (.getfield 49, 3) := by decide +kernel
theorem dX11_image_184 : decode cX11_image 184 = .ok (.getfield 187, 3) := by decide +kernel
theorem dX11_image_187 : decode cX11_image 187 = .ok (.iload_n 2, 1) := by decide +kernel
theorem dX11_image_188 : decode cX11_image 188 = .ok (.iaload, 1) := by decide +kernel
theorem dX11_image_189 : decode cX11_image 189 = .ok (.iconst 1, 1) := by decide +kernel
theorem dX11_image_190 : decode cX11_image 190 = .ok (.iadd, 1) := by decide +kernel
theorem dX11_image_191 : decode cX11_image 191 = .ok (.iastore, 1) := by decide +kernel
theorem dX11_image_192 : decode cX11_image 192 = .ok (.iinc 2 1, 3) := by decide +kernel
theorem dX11_image_195 : decode cX11_image 195 = .ok (.goto (-74), 3) := by decide +kernel
theorem dX11_image_198 : decode cX11_image 198 = .ok (.aload_n 0, 1) := by decide +kernel
theorem dX11_image_199 : decode cX11_image 199 = .ok (.getfield 67, 3) := by decide +kernel
theorem dX11_image_202 : decode cX11_image 202 = .ok (.iload_n 1, 1) := by decide +kernel
theorem dX11_image_203 : decode cX11_image 203 = .ok (.aload_n 0, 1) := by decide +kernel
theorem dX11_image_204 : decode cX11_image 204 = .ok (.getfield 67, 3) := by decide +kernel
theorem dX11_image_207 : decode cX11_image 207 = .ok (.iload_n 1, 1) := by decide +kernel
theorem dX11_image_208 : decode cX11_image 208 = .ok (.invokestatic 328, 3) := by decide +kernel
theorem dX11_image_211 : decode cX11_image 211 = .ok (.iastore, 1) := by decide +kernel
theorem dX11_image_212 : decode cX11_image 212 = .ok (.aload_n 0, 1) := by decide +kernel
theorem dX11_image_213 : decode cX11_image 213 = .ok (.iload_n 1, 1) := by decide +kernel
theorem dX11_image_214 : decode cX11_image 214 = .ok (.iconst 1, 1) := by decide +kernel
theorem dX11_image_215 : decode cX11_image 215 = .ok (.iadd, 1) := by decide +kernel
theorem dX11_image_216 : decode cX11_image 216 = .ok (.putfield 332, 3) := by decide +kernel
theorem dX11_image_219 : decode cX11_image 219 = .ok (.aload_n 0, 1) := by decide +kernel
theorem dX11_image_220 : decode cX11_image 220 = .ok (.getfield 332, 3) := by decide +kernel
theorem dX11_image_223 : decode cX11_image 223 = .ok (.ireturn, 1) := by decide +kernel
theorem dX11_give_0 : decode cX11_give 0 = .ok (.aload_n 0, 1) := by decide +kernel
theorem dX11_give_1 : decode cX11_give 1 = .ok (.iload_n 1, 1) := by decide +kernel
theorem dX11_give_2 : decode cX11_give 2 = .ok (.invokevirtual 169, 3) := by decide +kernel
theorem dX11_give_5 : decode cX11_give 5 = .ok (.ifCond .eq 11, 3) := by decide +kernel
theorem dX11_give_8 : decode cX11_give 8 = .ok (.aload_n 0, 1) := by decide +kernel
theorem dX11_give_9 : decode cX11_give 9 = .ok (.iload_n 2, 1) := by decide +kernel
theorem dX11_give_10 : decode cX11_give 10 = .ok (.invokevirtual 196, 3) := by decide +kernel
theorem dX11_give_13 : decode cX11_give 13 = .ok (.ifCond .ne 9, 3) := by decide +kernel
theorem dX11_give_16 : decode cX11_give 16 = .ok (.aload_n 0, 1) := by decide +kernel
theorem dX11_give_17 : decode cX11_give 17 = .ok (.iconst 2, 1) := by decide +kernel
theorem dX11_give_18 : decode cX11_give 18 = .ok (.invokevirtual 108, 3) := by decide +kernel
theorem dX11_give_21 : decode cX11_give 21 = .ok (.ireturn, 1) := by decide +kernel
theorem dX11_give_22 : decode cX11_give 22 = .ok (.aload_n 0, 1) := by decide +kernel
theorem dX11_give_23 : decode cX11_give 23 = .ok (.getfield 49, 3) := by decide +kernel
theorem dX11_give_26 : decode cX11_give 26 = .ok (.getfield 187, 3) := by decide +kernel
theorem dX11_give_29 : decode cX11_give 29 = .ok (.iload_n 1, 1) := by decide +kernel
theorem dX11_give_30 : decode cX11_give 30 = .ok (.iaload, 1) := by decide +kernel
theorem dX11_give_31 : decode cX11_give 31 = .ok (.iconst (-1), 1) := by decide +kernel
theorem dX11_give_32 : decode cX11_give 32 = .ok (.if_icmp .ne 15, 3) := by decide +kernel
theorem dX11_give_35 : decode cX11_give 35 = .ok (.aload_n 0, 1) := by decide +kernel
theorem dX11_give_36 : decode cX11_give 36 = .ok (.getfield 49, 3) := by decide +kernel
theorem dX11_give_39 : decode cX11_give 39 = .ok (.getfield 199, 3) := by decide +kernel
theorem dX11_give_42 : decode cX11_give 42 = .ok (.iload_n 2, 1) := by decide +kernel
theorem dX11_give_43 : decode cX11_give 43 = .ok (.iaload, 1) := by decide +kernel
theorem dX11_give_44 : decode cX11_give 44 = .ok (.ifCond .gt 9, 3) := by decide +kernel
theorem dX11_give_47 : decode cX11_give 47 = .ok (.aload_n 0, 1) := by decide +kernel
theorem dX11_give_48 : decode cX11_give 48 = .ok (.iconst 2, 1) := by decide +kernel
theorem dX11_give_49 : decode cX11_give 49 = .ok (.invokevirtual 108, 3) := by decide +kernel
theorem dX11_give_52 : decode cX11_give 52 = .ok (.ireturn, 1) := by decide +kernel
theorem dX11_give_53 : decode cX11_give 53 = .ok (.aload_n 0, 1) := by decide +kernel
theorem dX11_give_54 : decode cX11_give 54 = .ok (.invokevirtual 307, 3) := by decide +kernel
theorem dX11_give_57 : decode cX11_give 57 = .ok (.aload_n 0, 1) := by decide +kernel
theorem dX11_give_58 : decode cX11_give 58 = .ok (.getfield 49, 3) := by decide +kernel
theorem dX11_give_61 : decode cX11_give 61 = .ok (.getfield 187, 3) := by decide +kernel
theorem dX11_give_64 : decode cX11_give 64 = .ok (.iload_n 1, 1) := by decide +kernel
theorem dX11_give_65 : decode cX11_give 65 = .ok (.iload_n 2, 1) := by decide +kernel
theorem dX11_give_66 : decode cX11_give 66 = .ok (.iastore, 1) := by decide +kernel
theorem dX11_give_67 : decode cX11_give 67 = .ok (.aload_n 0, 1) := by decide +kernel
theorem dX11_give_68 : decode cX11_give 68 = .ok (.getfield 49, 3) := by decide +kernel
theorem dX11_give_71 : decode cX11_give 71 = .ok (.getfield 199, 3) := by decide +kernel
theorem dX11_give_74 : decode cX11_give 74 = .ok (.iload_n 2, 1) := by decide +kernel
theorem dX11_give_75 : decode cX11_give 75 = .ok (.dup2, 1) := by decide +kernel
theorem dX11_give_76 : decode cX11_give 76 = .ok (.iaload, 1) := by decide +kernel
theorem dX11_give_77 : decode cX11_give 77 = .ok (.iconst 1, 1) := by decide +kernel
theorem dX11_give_78 : decode cX11_give 78 = .ok (.isub, 1) := by decide +kernel
theorem dX11_give_79 : decode cX11_give 79 = .ok (.iastore, 1) := by decide +kernel
theorem dX11_give_80 : decode cX11_give 80 = .ok (.aload_n 0, 1) := by decide +kernel
theorem dX11_give_81 : decode cX11_give 81 = .ok (.getfield 49, 3) := by decide +kernel
theorem dX11_give_84 : decode cX11_give 84 = .ok (.getfield 199, 3) := by decide +kernel
theorem dX11_give_87 : decode cX11_give 87 = .ok (.iload_n 2, 1) := by decide +kernel
theorem dX11_give_88 : decode cX11_give 88 = .ok (.iaload, 1) := by decide +kernel
theorem dX11_give_89 : decode cX11_give 89 = .ok (.ireturn, 1) := by decide +kernel
theorem dX11_alike_0 : decode cX11_alike 0 = .ok (.aload_n 0, 1) := by decide +kernel
theorem dX11_alike_1 : decode cX11_alike 1 = .ok (.getfield 19, 3) := by decide +kernel
theorem dX11_alike_4 : decode cX11_alike 4 = .ok (.aload_n 0, 1) := by decide +kernel
theorem dX11_alike_5 : decode cX11_alike 5 = .ok (.getfield 76, 3) := by decide +kernel
theorem dX11_alike_8 : decode cX11_alike 8 = .ok (.aload_n 0, 1) := by decide +kernel
theorem dX11_alike_9 : decode cX11_alike 9 = .ok (.getfield 49, 3) := by decide +kernel
theorem dX11_alike_12 : decode cX11_alike 12 = .ok (.iload_n 1, 1) := by decide +kernel
theorem dX11_alike_13 : decode cX11_alike 13 = .ok (.iload_n 2, 1) := by decide +kernel
theorem dX11_alike_14 : decode cX11_alike 14 = .ok (.invokevirtual 223, 3) := by decide +kernel
theorem dX11_alike_17 : decode cX11_alike 17 = .ok (.istore 4, 2) := by decide +kernel
theorem dX11_alike_19 : decode cX11_alike 19 = .ok (.iconst 0, 1) := by decide +kernel
theorem dX11_alike_20 : decode cX11_alike 20 = .ok (.istore 5, 2) := by decide +kernel
theorem dX11_alike_22 : decode cX11_alike 22 = .ok (.iconst 0, 1) := by decide +kernel
theorem dX11_alike_23 : decode cX11_alike 23 = .ok (.istore 6, 2) := by decide +kernel
theorem dX11_alike_25 : decode cX11_alike 25 = .ok (.iload 6, 2) := by decide +kernel
theorem dX11_alike_27 : decode cX11_alike 27 = .ok (.aload_n 0, 1) := by decide +kernel
theorem dX11_alike_28 : decode cX11_alike 28 = .ok (.getfield 76, 3) := by decide +kernel
theorem dX11_alike_31 : decode cX11_alike 31 = .ok (.getfield 146, 3) := by decide +kernel
theorem dX11_alike_34 : decode cX11_alike 34 = .ok (.iconst 2, 1) := by decide +kernel
theorem dX11_alike_35 : decode cX11_alike 35 = .ok (.iaload, 1) := by decide +kernel
theorem dX11_alike_36 : decode cX11_alike 36 = .ok (.if_icmp .ge 45, 3) := by decide +kernel
theorem dX11_alike_39 : decode cX11_alike 39 = .ok (.iload_n 3, 1) := by decide +kernel
theorem dX11_alike_40 : decode cX11_alike 40 = .ok (.iload 6, 2) := by decide +kernel
theorem dX11_alike_42 : decode cX11_alike 42 = .ok (.ishr, 1) := by decide +kernel
theorem dX11_alike_43 : decode cX11_alike 43 = .ok (.iconst 1, 1) := by decide +kernel
theorem dX11_alike_44 : decode cX11_alike 44 = .ok (.iand, 1) := by decide +kernel
theorem dX11_alike_45 : decode cX11_alike 45 = .ok (.iconst 1, 1) := by decide +kernel
theorem dX11_alike_46 : decode cX11_alike 46 = .ok (.if_icmp .ne 29, 3) := by decide +kernel
theorem dX11_alike_49 : decode cX11_alike 49 = .ok (.aload_n 0, 1) := by decide +kernel
theorem dX11_alike_50 : decode cX11_alike 50 = .ok (.getfield 19, 3) := by decide +kernel
theorem dX11_alike_53 : decode cX11_alike 53 = .ok (.aload_n 0, 1) := by decide +kernel
theorem dX11_alike_54 : decode cX11_alike 54 = .ok (.getfield 76, 3) := by decide +kernel
theorem dX11_alike_57 : decode cX11_alike 57 = .ok (.aload_n 0, 1) := by decide +kernel
theorem dX11_alike_58 : decode cX11_alike 58 = .ok (.getfield 49, 3) := by decide +kernel
theorem dX11_alike_61 : decode cX11_alike 61 = .ok (.iload_n 1, 1) := by decide +kernel
theorem dX11_alike_62 : decode cX11_alike 62 = .ok (.iload 6, 2) := by decide +kernel
theorem dX11_alike_64 : decode cX11_alike 64 = .ok (.invokevirtual 223, 3) := by decide +kernel
theorem dX11_alike_67 : decode cX11_alike 67 = .ok (.iload 4, 2) := by decide +kernel
theorem dX11_alike_69 : decode cX11_alike 69 = .ok (.if_icmp .ne 6, 3) := by decide +kernel
theorem dX11_alike_72 : decode cX11_alike 72 = .ok (.iinc 5 1, 3) := by decide +kernel
theorem dX11_alike_75 : decode cX11_alike 75 = .ok (.iinc 6 1, 3) := by decide +kernel
theorem dX11_alike_78 : decode cX11_alike 78 = .ok (.goto (-53), 3) := by decide +kernel
theorem dX11_alike_81 : decode cX11_alike 81 = .ok (.iload 5, 2) := by decide +kernel
theorem dX11_alike_83 : decode cX11_alike 83 = .ok (.ireturn, 1) := by decide +kernel
theorem dX11_gift_0 : decode cX11_gift 0 = .ok (.aload_n 0, 1) := by decide +kernel
theorem dX11_gift_1 : decode cX11_gift 1 = .ok (.iload_n 1, 1) := by decide +kernel
theorem dX11_gift_2 : decode cX11_gift 2 = .ok (.invokevirtual 196, 3) := by decide +kernel
theorem dX11_gift_5 : decode cX11_gift 5 = .ok (.ifCond .ne 5, 3) := by decide +kernel
theorem dX11_gift_8 : decode cX11_gift 8 = .ok (.iconst (-1), 1) := by decide +kernel
theorem dX11_gift_9 : decode cX11_gift 9 = .ok (.ireturn, 1) := by decide +kernel
theorem dX11_gift_10 : decode cX11_gift 10 = .ok (.iload_n 2, 1) := by decide +kernel
theorem dX11_gift_11 : decode cX11_gift 11 = .ok (.ifCond .ne 13, 3) := by decide +kernel
theorem dX11_gift_14 : decode cX11_gift 14 = .ok (.aload_n 0, 1) := by decide +kernel
theorem dX11_gift_15 : decode cX11_gift 15 = .ok (.getfield 49, 3) := by decide +kernel
theorem dX11_gift_18 : decode cX11_gift 18 = .ok (.getfield 199, 3) := by decide +kernel
theorem dX11_gift_21 : decode cX11_gift 21 = .ok (.iload_n 1, 1) := by decide +kernel
theorem dX11_gift_22 : decode cX11_gift 22 = .ok (.iaload, 1) := by decide +kernel
theorem dX11_gift_23 : decode cX11_gift 23 = .ok (.ireturn, 1) := by decide +kernel
theorem dX11_gift_24 : decode cX11_gift 24 = .ok (.iload_n 2, 1) := by decide +kernel
theorem dX11_gift_25 : decode cX11_gift 25 = .ok (.bipush 10, 2) := by decide +kernel
theorem dX11_gift_27 : decode cX11_gift 27 = .ok (.if_icmp .lt 14, 3) := by decide +kernel
theorem dX11_gift_30 : decode cX11_gift 30 = .ok (.aload_n 0, 1) := by decide +kernel
theorem dX11_gift_31 : decode cX11_gift 31 = .ok (.iload_n 2, 1) := by decide +kernel
theorem dX11_gift_32 : decode cX11_gift 32 = .ok (.bipush 10, 2) := by decide +kernel
theorem dX11_gift_34 : decode cX11_gift 34 = .ok (.isub, 1) := by decide +kernel
theorem dX11_gift_35 : decode cX11_gift 35 = .ok (.invokevirtual 169, 3) := by decide +kernel
theorem dX11_gift_38 : decode cX11_gift 38 = .ok (.ifCond .ne 5, 3) := by decide +kernel
theorem dX11_gift_41 : decode cX11_gift 41 = .ok (.iconst (-1), 1) := by decide +kernel
theorem dX11_gift_42 : decode cX11_gift 42 = .ok (.ireturn, 1) := by decide +kernel
theorem dX11_gift_43 : decode cX11_gift 43 = .ok (.aload_n 0, 1) := by decide +kernel
theorem dX11_gift_44 : decode cX11_gift 44 = .ok (.getfield 76, 3) := by decide +kernel
theorem dX11_gift_47 : decode cX11_gift 47 = .ok (.getfield 202, 3) := by decide +kernel
theorem dX11_gift_50 : decode cX11_gift 50 = .ok (.iload_n 2, 1) := by decide +kernel
theorem dX11_gift_51 : decode cX11_gift 51 = .ok (.bipush 10, 2) := by decide +kernel
theorem dX11_gift_53 : decode cX11_gift 53 = .ok (.isub, 1) := by decide +kernel
theorem dX11_gift_54 : decode cX11_gift 54 = .ok (.aaload, 1) := by decide +kernel
theorem dX11_gift_55 : decode cX11_gift 55 = .ok (.iload_n 1, 1) := by decide +kernel
theorem dX11_gift_56 : decode cX11_gift 56 = .ok (.iaload, 1) := by decide +kernel
theorem dX11_gift_57 : decode cX11_gift 57 = .ok (.ireturn, 1) := by decide +kernel
theorem dX11_refuseNumber_0 : decode cX11_refuseNumber 0 = .ok (.aload_n 0, 1) := by decide +kernel
theorem dX11_refuseNumber_1 : decode cX11_refuseNumber 1 = .ok (.getfield 70, 3) := by decide +kernel
theorem dX11_refuseNumber_4 : decode cX11_refuseNumber 4 = .ok (.iload_n 1, 1) := by decide +kernel
theorem dX11_refuseNumber_5 : decode cX11_refuseNumber 5 = .ok (.dup2, 1) := by decide +kernel
theorem dX11_refuseNumber_6 : decode cX11_refuseNumber 6 = .ok (.iaload, 1) := by decide +kernel
theorem dX11_refuseNumber_7 : decode cX11_refuseNumber 7 = .ok (.iconst 1, 1) := by decide +kernel
theorem dX11_refuseNumber_8 : decode cX11_refuseNumber 8 = .ok (.iadd, 1) := by decide +kernel
theorem dX11_refuseNumber_9 : decode cX11_refuseNumber 9 = .ok (.iastore, 1) := by decide +kernel
theorem dX11_refuseNumber_10 : decode cX11_refuseNumber 10 = .ok (.iconst (-1), 1) := by decide +kernel
theorem dX11_refuseNumber_11 : decode cX11_refuseNumber 11 = .ok (.ireturn, 1) := by decide +kernel
theorem dX11_heap_0 : decode cX11_heap 0 = .ok (.aload_n 0, 1) := by decide +kernel
theorem dX11_heap_1 : decode cX11_heap 1 = .ok (.getfield 94, 3) := by decide +kernel
theorem dX11_heap_4 : decode cX11_heap 4 = .ok (.invokevirtual 120, 3) := by decide +kernel
theorem dX11_heap_7 : decode cX11_heap 7 = .ok (.istore_n 1, 1) := by decide +kernel
theorem dX11_heap_8 : decode cX11_heap 8 = .ok (.aload_n 0, 1) := by decide +kernel
theorem dX11_heap_9 : decode cX11_heap 9 = .ok (.getfield 12, 3) := by decide +kernel
theorem dX11_heap_12 : decode cX11_heap 12 = .ok (.iconst 0, 1) := by decide +kernel
theorem dX11_heap_13 : decode cX11_heap 13 = .ok (.putfield 105, 3) := by decide +kernel
theorem dX11_heap_16 : decode cX11_heap 16 = .ok (.iload_n 1, 1) := by decide +kernel
theorem dX11_heap_17 : decode cX11_heap 17 = .ok (.ifCond .ne 9, 3) := by decide +kernel
theorem dX11_heap_20 : decode cX11_heap 20 = .ok (.aload_n 0, 1) := by decide +kernel
theorem dX11_heap_21 : decode cX11_heap 21 = .ok (.iconst 1, 1) := by decide +kernel
theorem dX11_heap_22 : decode cX11_heap 22 = .ok (.invokevirtual 108, 3) := by decide +kernel
theorem dX11_heap_25 : decode cX11_heap 25 = .ok (.ireturn, 1) := by decide +kernel
theorem dX11_heap_26 : decode cX11_heap 26 = .ok (.aload_n 0, 1) := by decide +kernel
theorem dX11_heap_27 : decode cX11_heap 27 = .ok (.getfield 76, 3) := by decide +kernel
theorem dX11_heap_30 : decode cX11_heap 30 = .ok (.astore_n 2, 1) := by decide +kernel
theorem dX11_heap_31 : decode cX11_heap 31 = .ok (.aload_n 0, 1) := by decide +kernel
theorem dX11_heap_32 : decode cX11_heap 32 = .ok (.aload_n 0, 1) := by decide +kernel
theorem dX11_heap_33 : decode cX11_heap 33 = .ok (.getfield 94, 3) := by decide +kernel
theorem dX11_heap_36 : decode cX11_heap 36 = .ok (.getfield 124, 3) := by decide +kernel
theorem dX11_heap_39 : decode cX11_heap 39 = .ok (.putfield 76, 3) := by decide +kernel
theorem dX11_heap_42 : decode cX11_heap 42 = .ok (.aload_n 0, 1) := by decide +kernel
theorem dX11_heap_43 : decode cX11_heap 43 = .ok (.getfield 94, 3) := by decide +kernel
theorem dX11_heap_46 : decode cX11_heap 46 = .ok (.aload_n 2, 1) := by decide +kernel
theorem dX11_heap_47 : decode cX11_heap 47 = .ok (.putfield 124, 3) := by decide +kernel
theorem dX11_heap_50 : decode cX11_heap 50 = .ok (.aload_n 0, 1) := by decide +kernel
theorem dX11_heap_51 : decode cX11_heap 51 = .ok (.getfield 49, 3) := by decide +kernel
theorem dX11_heap_54 : decode cX11_heap 54 = .ok (.aload_n 0, 1) := by decide +kernel
theorem dX11_heap_55 : decode cX11_heap 55 = .ok (.getfield 76, 3) := by decide +kernel
theorem dX11_heap_58 : decode cX11_heap 58 = .ok (.invokevirtual 127, 3) := by decide +kernel
theorem dX11_heap_61 : decode cX11_heap 61 = .ok (.aload_n 0, 1) := by decide +kernel
theorem dX11_heap_62 : decode cX11_heap 62 = .ok (.iconst 0, 1) := by decide +kernel
theorem dX11_heap_63 : decode cX11_heap 63 = .ok (.putfield 131, 3) := by decide +kernel
theorem dX11_heap_66 : decode cX11_heap 66 = .ok (.aload_n 0, 1) := by decide +kernel
theorem dX11_heap_67 : decode cX11_heap 67 = .ok (.iconst 0, 1) := by decide +kernel
theorem dX11_heap_68 : decode cX11_heap 68 = .ok (.putfield 134, 3) := by decide +kernel
theorem dX11_heap_71 : decode cX11_heap 71 = .ok (.aload_n 0, 1) := by decide +kernel
theorem dX11_heap_72 : decode cX11_heap 72 = .ok (.getfield 94, 3) := by decide +kernel
theorem dX11_heap_75 : decode cX11_heap 75 = .ok (.getfield 137, 3) := by decide +kernel
theorem dX11_heap_78 : decode cX11_heap 78 = .ok (.ireturn, 1) := by decide +kernel
theorem dX11_answer_0 : decode cX11_answer 0 = .ok (.aload_n 0, 1) := by decide +kernel
theorem dX11_answer_1 : decode cX11_answer 1 = .ok (.iload_n 1, 1) := by decide +kernel
theorem dX11_answer_2 : decode cX11_answer 2 = .ok (.invokevirtual 169, 3) := by decide +kernel
theorem dX11_answer_5 : decode cX11_answer 5 = .ok (.ifCond .eq 11, 3) := by decide +kernel
theorem dX11_answer_8 : decode cX11_answer 8 = .ok (.aload_n 0, 1) := by decide +kernel
theorem dX11_answer_9 : decode cX11_answer 9 = .ok (.iload_n 2, 1) := by decide +kernel
theorem dX11_answer_10 : decode cX11_answer 10 = .ok (.invokevirtual 205, 3) := by decide +kernel
theorem dX11_answer_13 : decode cX11_answer 13 = .ok (.ifCond .ne 9, 3) := by decide +kernel
theorem dX11_answer_16 : decode cX11_answer 16 = .ok (.aload_n 0, 1) := by decide +kernel
theorem dX11_answer_17 : decode cX11_answer 17 = .ok (.iconst 2, 1) := by decide +kernel
theorem dX11_answer_18 : decode cX11_answer 18 = .ok (.invokevirtual 108, 3) := by decide +kernel
theorem dX11_answer_21 : decode cX11_answer 21 = .ok (.ireturn, 1) := by decide +kernel
theorem dX11_answer_22 : decode cX11_answer 22 = .ok (.aload_n 0, 1) := by decide +kernel
theorem dX11_answer_23 : decode cX11_answer 23 = .ok (.getfield 19, 3) := by decide +kernel
theorem dX11_answer_26 : decode cX11_answer 26 = .ok (.aload_n 0, 1) := by decide +kernel
theorem dX11_answer_27 : decode cX11_answer 27 = .ok (.getfield 76, 3) := by decide +kernel
theorem dX11_answer_30 : decode cX11_answer 30 = .ok (.aload_n 0, 1) := by decide +kernel
theorem dX11_answer_31 : decode cX11_answer 31 = .ok (.getfield 49, 3) := by decide +kernel
theorem dX11_answer_34 : decode cX11_answer 34 = .ok (.iload_n 1, 1) := by decide +kernel
theorem dX11_answer_35 : decode cX11_answer 35 = .ok (.iload_n 2, 1) := by decide +kernel
theorem dX11_answer_36 : decode cX11_answer 36 = .ok (.invokevirtual 232, 3) := by decide +kernel
theorem dX11_answer_39 : decode cX11_answer 39 = .ok (.istore_n 3, 1) := by decide +kernel
theorem dX11_answer_40 : decode cX11_answer 40 = .ok (.iload_n 3, 1) := by decide +kernel
theorem dX11_answer_41 : decode cX11_answer 41 = .ok (.iconst (-1), 1) := by decide +kernel
theorem dX11_answer_42 : decode cX11_answer 42 = .ok (.if_icmp .ne 9, 3) := by decide +kernel
theorem dX11_answer_45 : decode cX11_answer 45 = .ok (.aload_n 0, 1) := by decide +kernel
theorem dX11_answer_46 : decode cX11_answer 46 = .ok (.iconst 2, 1) := by decide +kernel
theorem dX11_answer_47 : decode cX11_answer 47 = .ok (.invokevirtual 108, 3) := by decide +kernel
theorem dX11_answer_50 : decode cX11_answer 50 = .ok (.ireturn, 1) := by decide +kernel
theorem dX11_answer_51 : decode cX11_answer 51 = .ok (.aload_n 0, 1) := by decide +kernel
theorem dX11_answer_52 : decode cX11_answer 52 = .ok (.invokevirtual 307, 3) := by decide +kernel
theorem dX11_answer_55 : decode cX11_answer 55 = .ok (.aload_n 0, 1) := by decide +kernel
theorem dX11_answer_56 : decode cX11_answer 56 = .ok (.getfield 49, 3) := by decide +kernel
theorem dX11_answer_59 : decode cX11_answer 59 = .ok (.getfield 181, 3) := by decide +kernel
theorem dX11_answer_62 : decode cX11_answer 62 = .ok (.iload_n 1, 1) := by decide +kernel
theorem dX11_answer_63 : decode cX11_answer 63 = .ok (.iload_n 2, 1) := by decide +kernel
theorem dX11_answer_64 : decode cX11_answer 64 = .ok (.iastore, 1) := by decide +kernel
theorem dX11_answer_65 : decode cX11_answer 65 = .ok (.aload_n 0, 1) := by decide +kernel
theorem dX11_answer_66 : decode cX11_answer 66 = .ok (.getfield 49, 3) := by decide +kernel
theorem dX11_answer_69 : decode cX11_answer 69 = .ok (.getfield 217, 3) := by decide +kernel
theorem dX11_answer_72 : decode cX11_answer 72 = .ok (.iload_n 2, 1) := by decide +kernel
theorem dX11_answer_73 : decode cX11_answer 73 = .ok (.dup2, 1) := by decide +kernel
theorem dX11_answer_74 : decode cX11_answer 74 = .ok (.iaload, 1) := by decide +kernel
theorem dX11_answer_75 : decode cX11_answer 75 = .ok (.iload_n 3, 1) := by decide +kernel
theorem dX11_answer_76 : decode cX11_answer 76 = .ok (.isub, 1) := by decide +kernel
theorem dX11_answer_77 : decode cX11_answer 77 = .ok (.iastore, 1) := by decide +kernel
theorem dX11_answer_78 : decode cX11_answer 78 = .ok (.iload_n 3, 1) := by decide +kernel
theorem dX11_answer_79 : decode cX11_answer 79 = .ok (.ireturn, 1) := by decide +kernel
theorem dX11_warmest_0 : decode cX11_warmest 0 = .ok (.iload_n 1, 1) := by decide +kernel
theorem dX11_warmest_1 : decode cX11_warmest 1 = .ok (.iconst (-1), 1) := by decide +kernel
theorem dX11_warmest_2 : decode cX11_warmest 2 = .ok (.if_icmp .eq 13, 3) := by decide +kernel
theorem dX11_warmest_5 : decode cX11_warmest 5 = .ok (.aload_n 0, 1) := by decide +kernel
theorem dX11_warmest_6 : decode cX11_warmest 6 = .ok (.iload_n 1, 1) := by decide +kernel
theorem dX11_warmest_7 : decode cX11_warmest 7 = .ok (.invokevirtual 169, 3) := by decide +kernel
theorem dX11_warmest_10 : decode cX11_warmest 10 = .ok (.ifCond .ne 5, 3) := by decide +kernel
theorem dX11_warmest_13 : decode cX11_warmest 13 = .ok (.iconst (-1), 1) := by decide +kernel
theorem dX11_warmest_14 : decode cX11_warmest 14 = .ok (.ireturn, 1) := by decide +kernel
theorem dX11_warmest_15 : decode cX11_warmest 15 = .ok (.aload_n 0, 1) := by decide +kernel
theorem dX11_warmest_16 : decode cX11_warmest 16 = .ok (.getfield 28, 3) := by decide +kernel
theorem dX11_warmest_19 : decode cX11_warmest 19 = .ok (.aload_n 0, 1) := by decide +kernel
theorem dX11_warmest_20 : decode cX11_warmest 20 = .ok (.getfield 76, 3) := by decide +kernel
theorem dX11_warmest_23 : decode cX11_warmest 23 = .ok (.aload_n 0, 1) := by decide +kernel
theorem dX11_warmest_24 : decode cX11_warmest 24 = .ok (.getfield 49, 3) := by decide +kernel
theorem dX11_warmest_27 : decode cX11_warmest 27 = .ok (.invokevirtual 235, 3) := by decide +kernel
theorem dX11_warmest_30 : decode cX11_warmest 30 = .ok (.iload_n 1, 1) := by decide +kernel
theorem dX11_warmest_31 : decode cX11_warmest 31 = .ok (.iconst (-1), 1) := by decide +kernel
theorem dX11_warmest_32 : decode cX11_warmest 32 = .ok (.if_icmp .ne 13, 3) := by decide +kernel
theorem dX11_warmest_35 : decode cX11_warmest 35 = .ok (.aload_n 0, 1) := by decide +kernel
theorem dX11_warmest_36 : decode cX11_warmest 36 = .ok (.getfield 28, 3) := by decide +kernel
theorem dX11_warmest_39 : decode cX11_warmest 39 = .ok (.getfield 239, 3) := by decide +kernel
theorem dX11_warmest_42 : decode cX11_warmest 42 = .ok (.goto 12, 3) := by decide +kernel
theorem dX11_warmest_45 : decode cX11_warmest 45 = .ok (.aload_n 0, 1) := by decide +kernel
theorem dX11_warmest_46 : decode cX11_warmest 46 = .ok (.getfield 28, 3) := by decide +kernel
theorem dX11_warmest_49 : decode cX11_warmest 49 = .ok (.getfield 242, 3) := by decide +kernel
theorem dX11_warmest_52 : decode cX11_warmest 52 = .ok (.iload_n 1, 1) := by decide +kernel
theorem dX11_warmest_53 : decode cX11_warmest 53 = .ok (.iaload, 1) := by decide +kernel
theorem dX11_warmest_54 : decode cX11_warmest 54 = .ok (.ireturn, 1) := by decide +kernel
theorem dX11_ask_0 : decode cX11_ask 0 = .ok (.aload_n 0, 1) := by decide +kernel
theorem dX11_ask_1 : decode cX11_ask 1 = .ok (.getfield 101, 3) := by decide +kernel
theorem dX11_ask_4 : decode cX11_ask 4 = .ok (.invokevirtual 323, 3) := by decide +kernel
theorem dX11_ask_7 : decode cX11_ask 7 = .ok (.istore_n 1, 1) := by decide +kernel
theorem dX11_ask_8 : decode cX11_ask 8 = .ok (.aload_n 0, 1) := by decide +kernel
theorem dX11_ask_9 : decode cX11_ask 9 = .ok (.getfield 12, 3) := by decide +kernel
theorem dX11_ask_12 : decode cX11_ask 12 = .ok (.iconst 0, 1) := by decide +kernel
theorem dX11_ask_13 : decode cX11_ask 13 = .ok (.putfield 105, 3) := by decide +kernel
theorem dX11_ask_16 : decode cX11_ask 16 = .ok (.iload_n 1, 1) := by decide +kernel
theorem dX11_ask_17 : decode cX11_ask 17 = .ok (.ifCond .eq 25, 3) := by decide +kernel
theorem dX11_ask_20 : decode cX11_ask 20 = .ok (.aload_n 0, 1) := by decide +kernel
theorem dX11_ask_21 : decode cX11_ask 21 = .ok (.getfield 101, 3) := by decide +kernel
theorem dX11_ask_24 : decode cX11_ask 24 = .ok (.aload_n 0, 1) := by decide +kernel
theorem dX11_ask_25 : decode cX11_ask 25 = .ok (.getfield 76, 3) := by decide +kernel
theorem dX11_ask_28 : decode cX11_ask 28 = .ok (.aload_n 0, 1) := by decide +kernel
theorem dX11_ask_29 : decode cX11_ask 29 = .ok (.getfield 49, 3) := by decide +kernel
theorem dX11_ask_32 : decode cX11_ask 32 = .ok (.aload_n 0, 1) := by decide +kernel
theorem dX11_ask_33 : decode cX11_ask 33 = .ok (.getfield 19, 3) := by decide +kernel
theorem dX11_ask_36 : decode cX11_ask 36 = .ok (.invokevirtual 324, 3) := by decide +kernel
theorem dX11_ask_39 : decode cX11_ask 39 = .ok (.goto 6, 3) := by decide +kernel
theorem dX11_ask_42 : decode cX11_ask 42 = .ok (.ldc2_w 227, 3) := by decide +kernel
theorem dX11_ask_45 : decode cX11_ask 45 = .ok (.lreturn, 1) := by decide +kernel
theorem dX11_loadScratch_0 : decode cX11_loadScratch 0 = .ok (.aload_n 0, 1) := by decide +kernel
theorem dX11_loadScratch_1 : decode cX11_loadScratch 1 = .ok (.getfield 53, 3) := by decide +kernel
theorem dX11_loadScratch_4 : decode cX11_loadScratch 4 = .ok (.aload_n 0, 1) := by decide +kernel
theorem dX11_loadScratch_5 : decode cX11_loadScratch 5 = .ok (.getfield 76, 3) := by decide +kernel
theorem dX11_loadScratch_8 : decode cX11_loadScratch 8 = .ok (.invokevirtual 127, 3) := by decide +kernel
theorem dX11_loadScratch_11 : decode cX11_loadScratch 11 = .ok (.aload_n 0, 1) := by decide +kernel
theorem dX11_loadScratch_12 : decode cX11_loadScratch 12 = .ok (.getfield 53, 3) := by decide +kernel
theorem dX11_loadScratch_15 : decode cX11_loadScratch 15 = .ok (.aload_n 0, 1) := by decide +kernel
theorem dX11_loadScratch_16 : decode cX11_loadScratch 16 = .ok (.getfield 12, 3) := by decide +kernel
theorem dX11_loadScratch_19 : decode cX11_loadScratch 19 = .ok (.iconst 0, 1) := by decide +kernel
theorem dX11_loadScratch_20 : decode cX11_loadScratch 20 = .ok (.invokevirtual 295, 3) := by decide +kernel
theorem dX11_loadScratch_23 : decode cX11_loadScratch 23 = .ok (.putfield 149, 3) := by decide +kernel
theorem dX11_loadScratch_26 : decode cX11_loadScratch 26 = .ok (.iconst 2, 1) := by decide +kernel
theorem dX11_loadScratch_27 : decode cX11_loadScratch 27 = .ok (.istore_n 1, 1) := by decide +kernel
theorem dX11_loadScratch_28 : decode cX11_loadScratch 28 = .ok (.iconst 0, 1) := by decide +kernel
theorem dX11_loadScratch_29 : decode cX11_loadScratch 29 = .ok (.istore_n 2, 1) := by decide +kernel
theorem dX11_loadScratch_30 : decode cX11_loadScratch 30 = .ok (.iload_n 2, 1) := by decide +kernel
theorem dX11_loadScratch_31 : decode cX11_loadScratch 31 = .ok (.aload_n 0, 1) := by decide +kernel
theorem dX11_loadScratch_32 : decode cX11_loadScratch 32 = .ok (.getfield 76, 3) := by decide +kernel
theorem dX11_loadScratch_35 : decode cX11_loadScratch 35 = .ok (.getfield 146, 3) := by decide +kernel
theorem dX11_loadScratch_38 : decode cX11_loadScratch 38 = .ok (.iconst 2, 1) := by decide +kernel
theorem dX11_loadScratch_39 : decode cX11_loadScratch 39 = .ok (.iaload, 1) := by decide +kernel
theorem dX11_loadScratch_40 : decode cX11_loadScratch 40 = .ok (.if_icmp .ge 30, 3) := by decide +kernel
theorem dX11_loadScratch_43 : decode cX11_loadScratch 43 = .ok (.aload_n 0, 1) := by decide +kernel
theorem dX11_loadScratch_44 : decode cX11_loadScratch 44 = .ok (.getfield 53, 3) := by decide +kernel
theorem dX11_loadScratch_47 : decode cX11_loadScratch 47 = .ok (.getfield 217, 3) := by decide +kernel
theorem dX11_loadScratch_50 : decode cX11_loadScratch 50 = .ok (.iload_n 2, 1) := by decide +kernel
theorem dX11_loadScratch_51 : decode cX11_loadScratch 51 = .ok (.aload_n 0, 1) := by decide +kernel
theorem dX11_loadScratch_52 : decode cX11_loadScratch 52 = .ok (.getfield 12, 3) := by decide +kernel
theorem dX11_loadScratch_55 : decode cX11_loadScratch 55 = .ok (.getfield 292, 3) := by decide +kernel
theorem dX11_loadScratch_58 : decode cX11_loadScratch 58 = .ok (.iload_n 1, 1) := by decide +kernel
theorem dX11_loadScratch_59 : decode cX11_loadScratch 59 = .ok (.iinc 1 1, 3) := by decide +kernel
theorem dX11_loadScratch_62 : decode cX11_loadScratch 62 = .ok (.iaload, 1) := by decide +kernel
theorem dX11_loadScratch_63 : decode cX11_loadScratch 63 = .ok (.iastore, 1) := by decide +kernel
theorem dX11_loadScratch_64 : decode cX11_loadScratch 64 = .ok (.iinc 2 1, 3) := by decide +kernel
theorem dX11_loadScratch_67 : decode cX11_loadScratch 67 = .ok (.goto (-37), 3) := by decide +kernel
theorem dX11_loadScratch_70 : decode cX11_loadScratch 70 = .ok (.iconst 0, 1) := by decide +kernel
theorem dX11_loadScratch_71 : decode cX11_loadScratch 71 = .ok (.istore_n 2, 1) := by decide +kernel
theorem dX11_loadScratch_72 : decode cX11_loadScratch 72 = .ok (.iload_n 2, 1) := by decide +kernel
theorem dX11_loadScratch_73 : decode cX11_loadScratch 73 = .ok (.aload_n 0, 1) := by decide +kernel
theorem dX11_loadScratch_74 : decode cX11_loadScratch 74 = .ok (.getfield 76, 3) := by decide +kernel
theorem dX11_loadScratch_77 : decode cX11_loadScratch 77 = .ok (.getfield 146, 3) := by decide +kernel
theorem dX11_loadScratch_80 : decode cX11_loadScratch 80 = .ok (.iconst 1, 1) := by decide +kernel
theorem dX11_loadScratch_81 : decode cX11_loadScratch 81 = .ok (.iaload, 1) := by decide +kernel
theorem dX11_loadScratch_82 : decode cX11_loadScratch 82 = .ok (.if_icmp .ge 30, 3) := by decide +kernel
theorem dX11_loadScratch_85 : decode cX11_loadScratch 85 = .ok (.aload_n 0, 1) := by decide +kernel
theorem dX11_loadScratch_86 : decode cX11_loadScratch 86 = .ok (.getfield 53, 3) := by decide +kernel
theorem dX11_loadScratch_89 : decode cX11_loadScratch 89 = .ok (.getfield 199, 3) := by decide +kernel
theorem dX11_loadScratch_92 : decode cX11_loadScratch 92 = .ok (.iload_n 2, 1) := by decide +kernel
theorem dX11_loadScratch_93 : decode cX11_loadScratch 93 = .ok (.aload_n 0, 1) := by decide +kernel
theorem dX11_loadScratch_94 : decode cX11_loadScratch 94 = .ok (.getfield 12, 3) := by decide +kernel
theorem dX11_loadScratch_97 : decode cX11_loadScratch 97 = .ok (.getfield 292, 3) := by decide +kernel
theorem dX11_loadScratch_100 : decode cX11_loadScratch 100 = .ok (.iload_n 1, 1) := by decide +kernel
theorem dX11_loadScratch_101 : decode cX11_loadScratch 101 = .ok (.iinc 1 1, 3) := by decide +kernel
theorem dX11_loadScratch_104 : decode cX11_loadScratch 104 = .ok (.iaload, 1) := by decide +kernel
theorem dX11_loadScratch_105 : decode cX11_loadScratch 105 = .ok (.iastore, 1) := by decide +kernel
theorem dX11_loadScratch_106 : decode cX11_loadScratch 106 = .ok (.iinc 2 1, 3) := by decide +kernel
theorem dX11_loadScratch_109 : decode cX11_loadScratch 109 = .ok (.goto (-37), 3) := by decide +kernel
theorem dX11_loadScratch_112 : decode cX11_loadScratch 112 = .ok (.iconst 0, 1) := by decide +kernel
theorem dX11_loadScratch_113 : decode cX11_loadScratch 113 = .ok (.istore_n 2, 1) := by decide +kernel
theorem dX11_loadScratch_114 : decode cX11_loadScratch 114 = .ok (.iload_n 2, 1) := by decide +kernel
theorem dX11_loadScratch_115 : decode cX11_loadScratch 115 = .ok (.aload_n 0, 1) := by decide +kernel
theorem dX11_loadScratch_116 : decode cX11_loadScratch 116 = .ok (.getfield 76, 3) := by decide +kernel
theorem dX11_loadScratch_119 : decode cX11_loadScratch 119 = .ok (.getfield 146, 3) := by decide +kernel
theorem dX11_loadScratch_122 : decode cX11_loadScratch 122 = .ok (.iconst 0, 1) := by decide +kernel
theorem dX11_loadScratch_123 : decode cX11_loadScratch 123 = .ok (.iaload, 1) := by decide +kernel
theorem dX11_loadScratch_124 : decode cX11_loadScratch 124 = .ok (.if_icmp .ge 76, 3) := by decide +kernel
theorem dX11_loadScratch_127 : decode cX11_loadScratch 127 = .ok (.aload_n 0, 1) := by decide +kernel
theorem dX11_loadScratch_128 : decode cX11_loadScratch 128 = .ok (.getfield 53, 3) := by decide +kernel
theorem dX11_loadScratch_131 : decode cX11_loadScratch 131 = .ok (.getfield 181, 3) := by decide +kernel
theorem dX11_loadScratch_134 : decode cX11_loadScratch 134 = .ok (.iload_n 2, 1) := by decide +kernel
theorem dX11_loadScratch_135 : decode cX11_loadScratch 135 = .ok (.aload_n 0, 1) := by decide +kernel
theorem dX11_loadScratch_136 : decode cX11_loadScratch 136 = .ok (.getfield 12, 3) := by decide +kernel
theorem dX11_loadScratch_139 : decode cX11_loadScratch 139 = .ok (.getfield 292, 3) := by decide +kernel
theorem dX11_loadScratch_142 : decode cX11_loadScratch 142 = .ok (.iload_n 1, 1) := by decide +kernel
theorem dX11_loadScratch_143 : decode cX11_loadScratch 143 = .ok (.iinc 1 1, 3) := by decide +kernel
theorem dX11_loadScratch_146 : decode cX11_loadScratch 146 = .ok (.iaload, 1) := by decide +kernel
theorem dX11_loadScratch_147 : decode cX11_loadScratch 147 = .ok (.iconst 1, 1) := by decide +kernel
theorem dX11_loadScratch_148 : decode cX11_loadScratch 148 = .ok (.isub, 1) := by decide +kernel
theorem dX11_loadScratch_149 : decode cX11_loadScratch 149 = .ok (.iastore, 1) := by decide +kernel
theorem dX11_loadScratch_150 : decode cX11_loadScratch 150 = .ok (.aload_n 0, 1) := by decide +kernel
theorem dX11_loadScratch_151 : decode cX11_loadScratch 151 = .ok (.getfield 53, 3) := by decide +kernel
theorem dX11_loadScratch_154 : decode cX11_loadScratch 154 = .ok (.getfield 184, 3) := by decide +kernel
theorem dX11_loadScratch_157 : decode cX11_loadScratch 157 = .ok (.iload_n 2, 1) := by decide +kernel
theorem dX11_loadScratch_158 : decode cX11_loadScratch 158 = .ok (.aload_n 0, 1) := by decide +kernel
theorem dX11_loadScratch_159 : decode cX11_loadScratch 159 = .ok (.getfield 12, 3) := by decide +kernel
theorem dX11_loadScratch_162 : decode cX11_loadScratch 162 = .ok (.getfield 292, 3) := by decide +kernel
theorem dX11_loadScratch_165 : decode cX11_loadScratch 165 = .ok (.iload_n 1, 1) := by decide +kernel
theorem dX11_loadScratch_166 : decode cX11_loadScratch 166 = .ok (.iinc 1 1, 3) := by decide +kernel
theorem dX11_loadScratch_169 : decode cX11_loadScratch 169 = .ok (.iaload, 1) := by decide +kernel
theorem dX11_loadScratch_170 : decode cX11_loadScratch 170 = .ok (.iastore, 1) := by decide +kernel
theorem dX11_loadScratch_171 : decode cX11_loadScratch 171 = .ok (.aload_n 0, 1) := by decide +kernel
theorem dX11_loadScratch_172 : decode cX11_loadScratch 172 = .ok (.getfield 53, 3) := by decide +kernel
theorem dX11_loadScratch_175 : decode cX11_loadScratch 175 = .ok (.getfield 187, 3) := by decide +kernel
theorem dX11_loadScratch_178 : decode cX11_loadScratch 178 = .ok (.iload_n 2, 1) := by decide +kernel
theorem dX11_loadScratch_179 : decode cX11_loadScratch 179 = .ok (.aload_n 0, 1) := by decide +kernel
theorem dX11_loadScratch_180 : decode cX11_loadScratch 180 = .ok (.getfield 12, 3) := by decide +kernel
theorem dX11_loadScratch_183 : decode cX11_loadScratch 183 = .ok (.getfield 292, 3) := by decide +kernel
theorem dX11_loadScratch_186 : decode cX11_loadScratch 186 = .ok (.iload_n 1, 1) := by decide +kernel
theorem dX11_loadScratch_187 : decode cX11_loadScratch 187 = .ok (.iinc 1 1, 3) := by decide +kernel
theorem dX11_loadScratch_190 : decode cX11_loadScratch 190 = .ok (.iaload, 1) := by decide +kernel
theorem dX11_loadScratch_191 : decode cX11_loadScratch 191 = .ok (.iconst 1, 1) := by decide +kernel
theorem dX11_loadScratch_192 : decode cX11_loadScratch 192 = .ok (.isub, 1) := by decide +kernel
theorem dX11_loadScratch_193 : decode cX11_loadScratch 193 = .ok (.iastore, 1) := by decide +kernel
theorem dX11_loadScratch_194 : decode cX11_loadScratch 194 = .ok (.iinc 2 1, 3) := by decide +kernel
theorem dX11_loadScratch_197 : decode cX11_loadScratch 197 = .ok (.goto (-83), 3) := by decide +kernel
theorem dX11_loadScratch_200 : decode cX11_loadScratch 200 = .ok (.return_, 1) := by decide +kernel
theorem dX12_see_0 : decode cX12_see 0 = .ok (.aload_n 0, 1) := by decide +kernel
theorem dX12_see_1 : decode cX12_see 1 = .ok (.getfield 260, 3) := by decide +kernel
theorem dX12_see_4 : decode cX12_see 4 = .ok (.istore_n 1, 1) := by decide +kernel
theorem dX12_see_5 : decode cX12_see 5 = .ok (.aload_n 0, 1) := by decide +kernel
theorem dX12_see_6 : decode cX12_see 6 = .ok (.iconst 0, 1) := by decide +kernel
theorem dX12_see_7 : decode cX12_see 7 = .ok (.putfield 260, 3) := by decide +kernel
theorem dX12_see_10 : decode cX12_see 10 = .ok (.iload_n 1, 1) := by decide +kernel
theorem dX12_see_11 : decode cX12_see 11 = .ok (.ifCond .le 21, 3) := by decide +kernel
theorem dX12_see_14 : decode cX12_see 14 = .ok (.iload_n 1, 1) := by decide +kernel
theorem dX12_see_15 : decode cX12_see 15 = .ok (.iconst 3, 1) := by decide +kernel
theorem dX12_see_16 : decode cX12_see 16 = .ok (.irem, 1) := by decide +kernel
theorem dX12_see_17 : decode cX12_see 17 = .ok (.ifCond .ne 15, 3) := by decide +kernel
theorem dX12_see_20 : decode cX12_see 20 = .ok (.iload_n 1, 1) := by decide +kernel
theorem dX12_see_21 : decode cX12_see 21 = .ok (.iconst 3, 1) := by decide +kernel
theorem dX12_see_22 : decode cX12_see 22 = .ok (.idiv, 1) := by decide +kernel
theorem dX12_see_23 : decode cX12_see 23 = .ok (.bipush 16, 2) := by decide +kernel
theorem dX12_see_25 : decode cX12_see 25 = .ok (.if_icmp .gt 7, 3) := by decide +kernel
theorem dX12_see_28 : decode cX12_see 28 = .ok (.iconst 1, 1) := by decide +kernel
theorem dX12_see_29 : decode cX12_see 29 = .ok (.goto 4, 3) := by decide +kernel
theorem dX12_see_32 : decode cX12_see 32 = .ok (.iconst 0, 1) := by decide +kernel
theorem dX12_see_33 : decode cX12_see 33 = .ok (.istore_n 2, 1) := by decide +kernel
theorem dX12_see_34 : decode cX12_see 34 = .ok (.iconst 0, 1) := by decide +kernel
theorem dX12_see_35 : decode cX12_see 35 = .ok (.istore_n 3, 1) := by decide +kernel
theorem dX12_see_36 : decode cX12_see 36 = .ok (.iload_n 3, 1) := by decide +kernel
theorem dX12_see_37 : decode cX12_see 37 = .ok (.iload_n 1, 1) := by decide +kernel
theorem dX12_see_38 : decode cX12_see 38 = .ok (.if_icmp .ge 24, 3) := by decide +kernel
theorem dX12_see_41 : decode cX12_see 41 = .ok (.iload_n 2, 1) := by decide +kernel
theorem dX12_see_42 : decode cX12_see 42 = .ok (.ifCond .eq 20, 3) := by decide +kernel
theorem dX12_see_45 : decode cX12_see 45 = .ok (.aload_n 0, 1) := by decide +kernel
theorem dX12_see_46 : decode cX12_see 46 = .ok (.aload_n 0, 1) := by decide +kernel
theorem dX12_see_47 : decode cX12_see 47 = .ok (.getfield 7, 3) := by decide +kernel
theorem dX12_see_50 : decode cX12_see 50 = .ok (.iload_n 3, 1) := by decide +kernel
theorem dX12_see_51 : decode cX12_see 51 = .ok (.iaload, 1) := by decide +kernel
theorem dX12_see_52 : decode cX12_see 52 = .ok (.invokevirtual 501, 3) := by decide +kernel
theorem dX12_see_55 : decode cX12_see 55 = .ok (.istore_n 2, 1) := by decide +kernel
theorem dX12_see_56 : decode cX12_see 56 = .ok (.iinc 3 3, 3) := by decide +kernel
theorem dX12_see_59 : decode cX12_see 59 = .ok (.goto (-23), 3) := by decide +kernel
theorem dX12_see_62 : decode cX12_see 62 = .ok (.iload_n 2, 1) := by decide +kernel
theorem dX12_see_63 : decode cX12_see 63 = .ok (.ifCond .ne 9, 3) := by decide +kernel
theorem dX12_see_66 : decode cX12_see 66 = .ok (.aload_n 0, 1) := by decide +kernel
theorem dX12_see_67 : decode cX12_see 67 = .ok (.iconst 1, 1) := by decide +kernel
theorem dX12_see_68 : decode cX12_see 68 = .ok (.invokevirtual 560, 3) := by decide +kernel
theorem dX12_see_71 : decode cX12_see 71 = .ok (.ireturn, 1) := by decide +kernel
theorem dX12_see_72 : decode cX12_see 72 = .ok (.iconst 0, 1) := by decide +kernel
theorem dX12_see_73 : decode cX12_see 73 = .ok (.istore_n 3, 1) := by decide +kernel
theorem dX12_see_74 : decode cX12_see 74 = .ok (.iload_n 3, 1) := by decide +kernel
theorem dX12_see_75 : decode cX12_see 75 = .ok (.iload_n 1, 1) := by decide +kernel
theorem dX12_see_76 : decode cX12_see 76 = .ok (.if_icmp .ge 21, 3) := by decide +kernel
theorem dX12_see_79 : decode cX12_see 79 = .ok (.aload_n 0, 1) := by decide +kernel
theorem dX12_see_80 : decode cX12_see 80 = .ok (.getfield 169, 3) := by decide +kernel
theorem dX12_see_83 : decode cX12_see 83 = .ok (.iload_n 3, 1) := by decide +kernel
theorem dX12_see_84 : decode cX12_see 84 = .ok (.aload_n 0, 1) := by decide +kernel
theorem dX12_see_85 : decode cX12_see 85 = .ok (.getfield 7, 3) := by decide +kernel
theorem dX12_see_88 : decode cX12_see 88 = .ok (.iload_n 3, 1) := by decide +kernel
theorem dX12_see_89 : decode cX12_see 89 = .ok (.iaload, 1) := by decide +kernel
theorem dX12_see_90 : decode cX12_see 90 = .ok (.iastore, 1) := by decide +kernel
theorem dX12_see_91 : decode cX12_see 91 = .ok (.iinc 3 1, 3) := by decide +kernel
theorem dX12_see_94 : decode cX12_see 94 = .ok (.goto (-20), 3) := by decide +kernel
theorem dX12_see_97 : decode cX12_see 97 = .ok (.aload_n 0, 1) := by decide +kernel
theorem dX12_see_98 : decode cX12_see 98 = .ok (.iload_n 1, 1) := by decide +kernel
theorem dX12_see_99 : decode cX12_see 99 = .ok (.iconst 3, 1) := by decide +kernel
theorem dX12_see_100 : decode cX12_see 100 = .ok (.idiv, 1) := by decide +kernel
theorem dX12_see_101 : decode cX12_see 101 = .ok (.putfield 416, 3) := by decide +kernel
theorem dX12_see_104 : decode cX12_see 104 = .ok (.aload_n 0, 1) := by decide +kernel
theorem dX12_see_105 : decode cX12_see 105 = .ok (.getfield 416, 3) := by decide +kernel
theorem dX12_see_108 : decode cX12_see 108 = .ok (.ireturn, 1) := by decide +kernel
theorem dX12_isOwnHere_0 : decode cX12_isOwnHere 0 = .ok (.aload_n 0, 1) := by decide +kernel
theorem dX12_isOwnHere_1 : decode cX12_isOwnHere 1 = .ok (.aload_n 0, 1) := by decide +kernel
theorem dX12_isOwnHere_2 : decode cX12_isOwnHere 2 = .ok (.getfield 20, 3) := by decide +kernel
theorem dX12_isOwnHere_5 : decode cX12_isOwnHere 5 = .ok (.invokevirtual 286, 3) := by decide +kernel
theorem dX12_isOwnHere_8 : decode cX12_isOwnHere 8 = .ok (.ifCond .ne 58, 3) := by decide +kernel
theorem dX12_isOwnHere_11 : decode cX12_isOwnHere 11 = .ok (.aload_n 0, 1) := by decide +kernel
theorem dX12_isOwnHere_12 : decode cX12_isOwnHere 12 = .ok (.aload_n 0, 1) := by decide +kernel
theorem dX12_isOwnHere_13 : decode cX12_isOwnHere 13 = .ok (.getfield 24, 3) := by decide +kernel
theorem dX12_isOwnHere_16 : decode cX12_isOwnHere 16 = .ok (.invokevirtual 286, 3) := by decide +kernel
theorem dX12_isOwnHere_19 : decode cX12_isOwnHere 19 = .ok (.ifCond .ne 47, 3) := by decide +kernel
theorem dX12_isOwnHere_22 : decode cX12_isOwnHere 22 = .ok (.aload_n 0, 1) := by decide +kernel
theorem dX12_isOwnHere_23 : decode cX12_isOwnHere 23 = .ok (.aload_n 0, 1) := by decide +kernel
theorem dX12_isOwnHere_24 : decode cX12_isOwnHere 24 = .ok (.getfield 27, 3) := by decide +kernel
theorem dX12_isOwnHere_27 : decode cX12_isOwnHere 27 = .ok (.invokevirtual 286, 3) := by decide +kernel
theorem dX12_isOwnHere_30 : decode cX12_isOwnHere 30 = .ok (.ifCond .ne 36, 3) := by decide +kernel
theorem dX12_isOwnHere_33 : decode cX12_isOwnHere 33 = .ok (.aload_n 0, 1) := by decide +kernel
theorem dX12_isOwnHere_34 : decode cX12_isOwnHere 34 = .ok (.aload_n 0, 1) := by decide +kernel
theorem dX12_isOwnHere_35 : decode cX12_isOwnHere 35 = .ok (.getfield 30, 3) := by decide +kernel
theorem dX12_isOwnHere_38 : decode cX12_isOwnHere 38 = .ok (.invokevirtual 286, 3) := by decide +kernel
theorem dX12_isOwnHere_41 : decode cX12_isOwnHere 41 = .ok (.ifCond .ne 25, 3) := by decide +kernel
theorem dX12_isOwnHere_44 : decode cX12_isOwnHere 44 = .ok (.aload_n 0, 1) := by decide +kernel
theorem dX12_isOwnHere_45 : decode cX12_isOwnHere 45 = .ok (.aload_n 0, 1) := by decide +kernel
theorem dX12_isOwnHere_46 : decode cX12_isOwnHere 46 = .ok (.getfield 33, 3) := by decide +kernel
theorem dX12_isOwnHere_49 : decode cX12_isOwnHere 49 = .ok (.invokevirtual 286, 3) := by decide +kernel
theorem dX12_isOwnHere_52 : decode cX12_isOwnHere 52 = .ok (.ifCond .ne 14, 3) := by decide +kernel
theorem dX12_isOwnHere_55 : decode cX12_isOwnHere 55 = .ok (.aload_n 0, 1) := by decide +kernel
theorem dX12_isOwnHere_56 : decode cX12_isOwnHere 56 = .ok (.aload_n 0, 1) := by decide +kernel
theorem dX12_isOwnHere_57 : decode cX12_isOwnHere 57 = .ok (.getfield 36, 3) := by decide +kernel
theorem dX12_isOwnHere_60 : decode cX12_isOwnHere 60 = .ok (.invokevirtual 286, 3) := by decide +kernel
theorem dX12_isOwnHere_63 : decode cX12_isOwnHere 63 = .ok (.ifCond .eq 7, 3) := by decide +kernel
theorem dX12_isOwnHere_66 : decode cX12_isOwnHere 66 = .ok (.iconst 1, 1) := by decide +kernel
theorem dX12_isOwnHere_67 : decode cX12_isOwnHere 67 = .ok (.goto 4, 3) := by decide +kernel
theorem dX12_isOwnHere_70 : decode cX12_isOwnHere 70 = .ok (.iconst 0, 1) := by decide +kernel
theorem dX12_isOwnHere_71 : decode cX12_isOwnHere 71 = .ok (.istore_n 1, 1) := by decide +kernel
theorem dX12_isOwnHere_72 : decode cX12_isOwnHere 72 = .ok (.iload_n 1, 1) := by decide +kernel
theorem dX12_isOwnHere_73 : decode cX12_isOwnHere 73 = .ok (.ifCond .ne 69, 3) := by decide +kernel
theorem dX12_isOwnHere_76 : decode cX12_isOwnHere 76 = .ok (.aload_n 0, 1) := by decide +kernel
theorem dX12_isOwnHere_77 : decode cX12_isOwnHere 77 = .ok (.aload_n 0, 1) := by decide +kernel
theorem dX12_isOwnHere_78 : decode cX12_isOwnHere 78 = .ok (.getfield 39, 3) := by decide +kernel
theorem dX12_isOwnHere_81 : decode cX12_isOwnHere 81 = .ok (.invokevirtual 286, 3) := by decide +kernel
theorem dX12_isOwnHere_84 : decode cX12_isOwnHere 84 = .ok (.ifCond .ne 58, 3) := by decide +kernel
theorem dX12_isOwnHere_87 : decode cX12_isOwnHere 87 = .ok (.aload_n 0, 1) := by decide +kernel
theorem dX12_isOwnHere_88 : decode cX12_isOwnHere 88 = .ok (.aload_n 0, 1) := by decide +kernel
theorem dX12_isOwnHere_89 : decode cX12_isOwnHere 89 = .ok (.getfield 42, 3) := by decide +kernel
theorem dX12_isOwnHere_92 : decode cX12_isOwnHere 92 = .ok (.invokevirtual 286, 3) := by decide +kernel
theorem dX12_isOwnHere_95 : decode cX12_isOwnHere 95 = .ok (.ifCond .ne 47, 3) := by decide +kernel
theorem dX12_isOwnHere_98 : decode cX12_isOwnHere 98 = .ok (.aload_n 0, 1) := by decide +kernel
theorem dX12_isOwnHere_99 : decode cX12_isOwnHere 99 = .ok (.aload_n 0, 1) := by decide +kernel
theorem dX12_isOwnHere_100 : decode cX12_isOwnHere 100 = .ok (.getfield 45, 3) := by decide +kernel
theorem dX12_isOwnHere_103 : decode cX12_isOwnHere 103 = .ok (.invokevirtual 286, 3) := by decide +kernel
theorem dX12_isOwnHere_106 : decode cX12_isOwnHere 106 = .ok (.ifCond .ne 36, 3) := by decide +kernel
theorem dX12_isOwnHere_109 : decode cX12_isOwnHere 109 = .ok (.aload_n 0, 1) := by decide +kernel
theorem dX12_isOwnHere_110 : decode cX12_isOwnHere 110 = .ok (.aload_n 0, 1) := by decide +kernel
theorem dX12_isOwnHere_111 : decode cX12_isOwnHere 111 = .ok (.getfield 48, 3) := by decide +kernel
theorem dX12_isOwnHere_114 : decode cX12_isOwnHere 114 = .ok (.invokevirtual 286, 3) := by decide +kernel
theorem dX12_isOwnHere_117 : decode cX12_isOwnHere 117 = .ok (.ifCond .ne 25, 3) := by decide +kernel
theorem dX12_isOwnHere_120 : decode cX12_isOwnHere 120 = .ok (.aload_n 0, 1) := by decide +kernel
theorem dX12_isOwnHere_121 : decode cX12_isOwnHere 121 = .ok (.aload_n 0, 1) := by decide +kernel
theorem dX12_isOwnHere_122 : decode cX12_isOwnHere 122 = .ok (.getfield 51, 3) := by decide +kernel
theorem dX12_isOwnHere_125 : decode cX12_isOwnHere 125 = .ok (.invokevirtual 286, 3) := by decide +kernel
theorem dX12_isOwnHere_128 : decode cX12_isOwnHere 128 = .ok (.ifCond .ne 14, 3) := by decide +kernel
theorem dX12_isOwnHere_131 : decode cX12_isOwnHere 131 = .ok (.aload_n 0, 1) := by decide +kernel
theorem dX12_isOwnHere_132 : decode cX12_isOwnHere 132 = .ok (.aload_n 0, 1) := by decide +kernel
theorem dX12_isOwnHere_133 : decode cX12_isOwnHere 133 = .ok (.getfield 54, 3) := by decide +kernel
theorem dX12_isOwnHere_136 : decode cX12_isOwnHere 136 = .ok (.invokevirtual 286, 3) := by decide +kernel
theorem dX12_isOwnHere_139 : decode cX12_isOwnHere 139 = .ok (.ifCond .eq 7, 3) := by decide +kernel
theorem dX12_isOwnHere_142 : decode cX12_isOwnHere 142 = .ok (.iconst 1, 1) := by decide +kernel
theorem dX12_isOwnHere_143 : decode cX12_isOwnHere 143 = .ok (.goto 4, 3) := by decide +kernel
theorem dX12_isOwnHere_146 : decode cX12_isOwnHere 146 = .ok (.iconst 0, 1) := by decide +kernel
theorem dX12_isOwnHere_147 : decode cX12_isOwnHere 147 = .ok (.istore_n 1, 1) := by decide +kernel
theorem dX12_isOwnHere_148 : decode cX12_isOwnHere 148 = .ok (.iload_n 1, 1) := by decide +kernel
theorem dX12_isOwnHere_149 : decode cX12_isOwnHere 149 = .ok (.ifCond .ne 69, 3) := by decide +kernel
theorem dX12_isOwnHere_152 : decode cX12_isOwnHere 152 = .ok (.aload_n 0, 1) := by decide +kernel
theorem dX12_isOwnHere_153 : decode cX12_isOwnHere 153 = .ok (.aload_n 0, 1) := by decide +kernel
theorem dX12_isOwnHere_154 : decode cX12_isOwnHere 154 = .ok (.getfield 57, 3) := by decide +kernel
theorem dX12_isOwnHere_157 : decode cX12_isOwnHere 157 = .ok (.invokevirtual 286, 3) := by decide +kernel
theorem dX12_isOwnHere_160 : decode cX12_isOwnHere 160 = .ok (.ifCond .ne 58, 3) := by decide +kernel
theorem dX12_isOwnHere_163 : decode cX12_isOwnHere 163 = .ok (.aload_n 0, 1) := by decide +kernel
theorem dX12_isOwnHere_164 : decode cX12_isOwnHere 164 = .ok (.aload_n 0, 1) := by decide +kernel
theorem dX12_isOwnHere_165 : decode cX12_isOwnHere 165 = .ok (.getfield 60, 3) := by decide +kernel
theorem dX12_isOwnHere_168 : decode cX12_isOwnHere 168 = .ok (.invokevirtual 286, 3) := by decide +kernel
theorem dX12_isOwnHere_171 : decode cX12_isOwnHere 171 = .ok (.ifCond .ne 47, 3) := by decide +kernel
theorem dX12_isOwnHere_174 : decode cX12_isOwnHere 174 = .ok (.aload_n 0, 1) := by decide +kernel
theorem dX12_isOwnHere_175 : decode cX12_isOwnHere 175 = .ok (.aload_n 0, 1) := by decide +kernel
theorem dX12_isOwnHere_176 : decode cX12_isOwnHere 176 = .ok (.getfield 63, 3) := by decide +kernel
theorem dX12_isOwnHere_179 : decode cX12_isOwnHere 179 = .ok (.invokevirtual 286, 3) := by decide +kernel
theorem dX12_isOwnHere_182 : decode cX12_isOwnHere 182 = .ok (.ifCond .ne 36, 3) := by decide +kernel
theorem dX12_isOwnHere_185 : decode cX12_isOwnHere 185 = .ok (.aload_n 0, 1) := by decide +kernel
theorem dX12_isOwnHere_186 : decode cX12_isOwnHere 186 = .ok (.aload_n 0, 1) := by decide +kernel
theorem dX12_isOwnHere_187 : decode cX12_isOwnHere 187 = .ok (.getfield 66, 3) := by decide +kernel
theorem dX12_isOwnHere_190 : decode cX12_isOwnHere 190 = .ok (.invokevirtual 286, 3) := by decide +kernel
theorem dX12_isOwnHere_193 : decode cX12_isOwnHere 193 = .ok (.ifCond .ne 25, 3) := by decide +kernel
theorem dX12_isOwnHere_196 : decode cX12_isOwnHere 196 = .ok (.aload_n 0, 1) := by decide +kernel
theorem dX12_isOwnHere_197 : decode cX12_isOwnHere 197 = .ok (.aload_n 0, 1) := by decide +kernel
theorem dX12_isOwnHere_198 : decode cX12_isOwnHere 198 = .ok (.getfield 69, 3) := by decide +kernel
theorem dX12_isOwnHere_201 : decode cX12_isOwnHere 201 = .ok (.invokevirtual 286, 3) := by decide +kernel
theorem dX12_isOwnHere_204 : decode cX12_isOwnHere 204 = .ok (.ifCond .ne 14, 3) := by decide +kernel
theorem dX12_isOwnHere_207 : decode cX12_isOwnHere 207 = .ok (.aload_n 0, 1) := by decide +kernel
theorem dX12_isOwnHere_208 : decode cX12_isOwnHere 208 = .ok (.aload_n 0, 1) := by decide +kernel
theorem dX12_isOwnHere_209 : decode cX12_isOwnHere 209 = .ok (.getfield 72, 3) := by decide +kernel
theorem dX12_isOwnHere_212 : decode cX12_isOwnHere 212 = .ok (.invokevirtual 286, 3) := by decide +kernel
theorem dX12_isOwnHere_215 : decode cX12_isOwnHere 215 = .ok (.ifCond .eq 7, 3) := by decide +kernel
theorem dX12_isOwnHere_218 : decode cX12_isOwnHere 218 = .ok (.iconst 1, 1) := by decide +kernel
theorem dX12_isOwnHere_219 : decode cX12_isOwnHere 219 = .ok (.goto 4, 3) := by decide +kernel
theorem dX12_isOwnHere_222 : decode cX12_isOwnHere 222 = .ok (.iconst 0, 1) := by decide +kernel
theorem dX12_isOwnHere_223 : decode cX12_isOwnHere 223 = .ok (.istore_n 1, 1) := by decide +kernel
theorem dX12_isOwnHere_224 : decode cX12_isOwnHere 224 = .ok (.iload_n 1, 1) := by decide +kernel
theorem dX12_isOwnHere_225 : decode cX12_isOwnHere 225 = .ok (.ifCond .ne 69, 3) := by decide +kernel
theorem dX12_isOwnHere_228 : decode cX12_isOwnHere 228 = .ok (.aload_n 0, 1) := by decide +kernel
theorem dX12_isOwnHere_229 : decode cX12_isOwnHere 229 = .ok (.aload_n 0, 1) := by decide +kernel
theorem dX12_isOwnHere_230 : decode cX12_isOwnHere 230 = .ok (.getfield 75, 3) := by decide +kernel
theorem dX12_isOwnHere_233 : decode cX12_isOwnHere 233 = .ok (.invokevirtual 286, 3) := by decide +kernel
theorem dX12_isOwnHere_236 : decode cX12_isOwnHere 236 = .ok (.ifCond .ne 58, 3) := by decide +kernel
theorem dX12_isOwnHere_239 : decode cX12_isOwnHere 239 = .ok (.aload_n 0, 1) := by decide +kernel
theorem dX12_isOwnHere_240 : decode cX12_isOwnHere 240 = .ok (.aload_n 0, 1) := by decide +kernel
theorem dX12_isOwnHere_241 : decode cX12_isOwnHere 241 = .ok (.getfield 78, 3) := by decide +kernel
theorem dX12_isOwnHere_244 : decode cX12_isOwnHere 244 = .ok (.invokevirtual 286, 3) := by decide +kernel
theorem dX12_isOwnHere_247 : decode cX12_isOwnHere 247 = .ok (.ifCond .ne 47, 3) := by decide +kernel
theorem dX12_isOwnHere_250 : decode cX12_isOwnHere 250 = .ok (.aload_n 0, 1) := by decide +kernel
theorem dX12_isOwnHere_251 : decode cX12_isOwnHere 251 = .ok (.aload_n 0, 1) := by decide +kernel
theorem dX12_isOwnHere_252 : decode cX12_isOwnHere 252 = .ok (.getfield 81, 3) := by decide +kernel
theorem dX12_isOwnHere_255 : decode cX12_isOwnHere 255 = .ok (.invokevirtual 286, 3) := by decide +kernel
theorem dX12_isOwnHere_258 : decode cX12_isOwnHere 258 = .ok (.ifCond .ne 36, 3) := by decide +kernel
theorem dX12_isOwnHere_261 : decode cX12_isOwnHere 261 = .ok (.aload_n 0, 1) := by decide +kernel
theorem dX12_isOwnHere_262 : decode cX12_isOwnHere 262 = .ok (.aload_n 0, 1) := by decide +kernel
theorem dX12_isOwnHere_263 : decode cX12_isOwnHere 263 = .ok (.getfield 84, 3) := by decide +kernel
theorem dX12_isOwnHere_266 : decode cX12_isOwnHere 266 = .ok (.invokevirtual 286, 3) := by decide +kernel
theorem dX12_isOwnHere_269 : decode cX12_isOwnHere 269 = .ok (.ifCond .ne 25, 3) := by decide +kernel
theorem dX12_isOwnHere_272 : decode cX12_isOwnHere 272 = .ok (.aload_n 0, 1) := by decide +kernel
theorem dX12_isOwnHere_273 : decode cX12_isOwnHere 273 = .ok (.aload_n 0, 1) := by decide +kernel
theorem dX12_isOwnHere_274 : decode cX12_isOwnHere 274 = .ok (.getfield 87, 3) := by decide +kernel
theorem dX12_isOwnHere_277 : decode cX12_isOwnHere 277 = .ok (.invokevirtual 286, 3) := by decide +kernel
theorem dX12_isOwnHere_280 : decode cX12_isOwnHere 280 = .ok (.ifCond .ne 14, 3) := by decide +kernel
theorem dX12_isOwnHere_283 : decode cX12_isOwnHere 283 = .ok (.aload_n 0, 1) := by decide +kernel
theorem dX12_isOwnHere_284 : decode cX12_isOwnHere 284 = .ok (.aload_n 0, 1) := by decide +kernel
theorem dX12_isOwnHere_285 : decode cX12_isOwnHere 285 = .ok (.getfield 90, 3) := by decide +kernel
theorem dX12_isOwnHere_288 : decode cX12_isOwnHere 288 = .ok (.invokevirtual 286, 3) := by decide +kernel
theorem dX12_isOwnHere_291 : decode cX12_isOwnHere 291 = .ok (.ifCond .eq 7, 3) := by decide +kernel
theorem dX12_isOwnHere_294 : decode cX12_isOwnHere 294 = .ok (.iconst 1, 1) := by decide +kernel
theorem dX12_isOwnHere_295 : decode cX12_isOwnHere 295 = .ok (.goto 4, 3) := by decide +kernel
theorem dX12_isOwnHere_298 : decode cX12_isOwnHere 298 = .ok (.iconst 0, 1) := by decide +kernel
theorem dX12_isOwnHere_299 : decode cX12_isOwnHere 299 = .ok (.istore_n 1, 1) := by decide +kernel
theorem dX12_isOwnHere_300 : decode cX12_isOwnHere 300 = .ok (.iload_n 1, 1) := by decide +kernel
theorem dX12_isOwnHere_301 : decode cX12_isOwnHere 301 = .ok (.ifCond .ne 47, 3) := by decide +kernel
theorem dX12_isOwnHere_304 : decode cX12_isOwnHere 304 = .ok (.aload_n 0, 1) := by decide +kernel
theorem dX12_isOwnHere_305 : decode cX12_isOwnHere 305 = .ok (.aload_n 0, 1) := by decide +kernel
theorem dX12_isOwnHere_306 : decode cX12_isOwnHere 306 = .ok (.getfield 93, 3) := by decide +kernel
theorem dX12_isOwnHere_309 : decode cX12_isOwnHere 309 = .ok (.invokevirtual 286, 3) := by decide +kernel
theorem dX12_isOwnHere_312 : decode cX12_isOwnHere 312 = .ok (.ifCond .ne 36, 3) := by decide +kernel
theorem dX12_isOwnHere_315 : decode cX12_isOwnHere 315 = .ok (.aload_n 0, 1) := by decide +kernel
theorem dX12_isOwnHere_316 : decode cX12_isOwnHere 316 = .ok (.aload_n 0, 1) := by decide +kernel
theorem dX12_isOwnHere_317 : decode cX12_isOwnHere 317 = .ok (.getfield 96, 3) := by decide +kernel
theorem dX12_isOwnHere_320 : decode cX12_isOwnHere 320 = .ok (.invokevirtual 286, 3) := by decide +kernel
theorem dX12_isOwnHere_323 : decode cX12_isOwnHere 323 = .ok (.ifCond .ne 25, 3) := by decide +kernel
theorem dX12_isOwnHere_326 : decode cX12_isOwnHere 326 = .ok (.aload_n 0, 1) := by decide +kernel
theorem dX12_isOwnHere_327 : decode cX12_isOwnHere 327 = .ok (.aload_n 0, 1) := by decide +kernel
theorem dX12_isOwnHere_328 : decode cX12_isOwnHere 328 = .ok (.getfield 99, 3) := by decide +kernel
theorem dX12_isOwnHere_331 : decode cX12_isOwnHere 331 = .ok (.invokevirtual 286, 3) := by decide +kernel
theorem dX12_isOwnHere_334 : decode cX12_isOwnHere 334 = .ok (.ifCond .ne 14, 3) := by decide +kernel
theorem dX12_isOwnHere_337 : decode cX12_isOwnHere 337 = .ok (.aload_n 0, 1) := by decide +kernel
theorem dX12_isOwnHere_338 : decode cX12_isOwnHere 338 = .ok (.aload_n 0, 1) := by decide +kernel
theorem dX12_isOwnHere_339 : decode cX12_isOwnHere 339 = .ok (.getfield 102, 3) := by decide +kernel
theorem dX12_isOwnHere_342 : decode cX12_isOwnHere 342 = .ok (.invokevirtual 286, 3) := by decide +kernel
theorem dX12_isOwnHere_345 : decode cX12_isOwnHere 345 = .ok (.ifCond .eq 7, 3) := by decide +kernel
theorem dX12_isOwnHere_348 : decode cX12_isOwnHere 348 = .ok (.iconst 1, 1) := by decide +kernel
theorem dX12_isOwnHere_349 : decode cX12_isOwnHere 349 = .ok (.goto 4, 3) := by decide +kernel
theorem dX12_isOwnHere_352 : decode cX12_isOwnHere 352 = .ok (.iconst 0, 1) := by decide +kernel
theorem dX12_isOwnHere_353 : decode cX12_isOwnHere 353 = .ok (.istore_n 1, 1) := by decide +kernel
theorem dX12_isOwnHere_354 : decode cX12_isOwnHere 354 = .ok (.iload_n 1, 1) := by decide +kernel
theorem dX12_isOwnHere_355 : decode cX12_isOwnHere 355 = .ok (.ireturn, 1) := by decide +kernel
theorem dX12_manyWith_0 : decode cX12_manyWith 0 = .ok (.iconst 0, 1) := by decide +kernel
theorem dX12_manyWith_1 : decode cX12_manyWith 1 = .ok (.istore_n 2, 1) := by decide +kernel
theorem dX12_manyWith_2 : decode cX12_manyWith 2 = .ok (.iconst 0, 1) := by decide +kernel
theorem dX12_manyWith_3 : decode cX12_manyWith 3 = .ok (.istore_n 3, 1) := by decide +kernel
theorem dX12_manyWith_4 : decode cX12_manyWith 4 = .ok (.iload_n 3, 1) := by decide +kernel
theorem dX12_manyWith_5 : decode cX12_manyWith 5 = .ok (.aload_n 0, 1) := by decide +kernel
theorem dX12_manyWith_6 : decode cX12_manyWith 6 = .ok (.invokevirtual 419, 3) := by decide +kernel
theorem dX12_manyWith_9 : decode cX12_manyWith 9 = .ok (.if_icmp .ge 28, 3) := by decide +kernel
theorem dX12_manyWith_12 : decode cX12_manyWith 12 = .ok (.aload_n 0, 1) := by decide +kernel
theorem dX12_manyWith_13 : decode cX12_manyWith 13 = .ok (.getfield 142, 3) := by decide +kernel
theorem dX12_manyWith_16 : decode cX12_manyWith 16 = .ok (.bipush 8, 2) := by decide +kernel
theorem dX12_manyWith_18 : decode cX12_manyWith 18 = .ok (.iconst 3, 1) := by decide +kernel
theorem dX12_manyWith_19 : decode cX12_manyWith 19 = .ok (.iload_n 3, 1) := by decide +kernel
theorem dX12_manyWith_20 : decode cX12_manyWith 20 = .ok (.imul, 1) := by decide +kernel
theorem dX12_manyWith_21 : decode cX12_manyWith 21 = .ok (.iadd, 1) := by decide +kernel
theorem dX12_manyWith_22 : decode cX12_manyWith 22 = .ok (.iload_n 1, 1) := by decide +kernel
theorem dX12_manyWith_23 : decode cX12_manyWith 23 = .ok (.iadd, 1) := by decide +kernel
theorem dX12_manyWith_24 : decode cX12_manyWith 24 = .ok (.iaload, 1) := by decide +kernel
theorem dX12_manyWith_25 : decode cX12_manyWith 25 = .ok (.ifCond .le 6, 3) := by decide +kernel
theorem dX12_manyWith_28 : decode cX12_manyWith 28 = .ok (.iinc 2 1, 3) := by decide +kernel
theorem dX12_manyWith_31 : decode cX12_manyWith 31 = .ok (.iinc 3 1, 3) := by decide +kernel
theorem dX12_manyWith_34 : decode cX12_manyWith 34 = .ok (.goto (-30), 3) := by decide +kernel
theorem dX12_manyWith_37 : decode cX12_manyWith 37 = .ok (.iload_n 2, 1) := by decide +kernel
theorem dX12_manyWith_38 : decode cX12_manyWith 38 = .ok (.ireturn, 1) := by decide +kernel
theorem dX12_qPartTold_0 : decode cX12_qPartTold 0 = .ok (.iconst 1, 1) := by decide +kernel
theorem dX12_qPartTold_1 : decode cX12_qPartTold 1 = .ok (.istore_n 1, 1) := by decide +kernel
theorem dX12_qPartTold_2 : decode cX12_qPartTold 2 = .ok (.iload_n 1, 1) := by decide +kernel
theorem dX12_qPartTold_3 : decode cX12_qPartTold 3 = .ok (.ifCond .eq 183, 3) := by decide +kernel
theorem dX12_qPartTold_6 : decode cX12_qPartTold 6 = .ok (.aload_n 0, 1) := by decide +kernel
theorem dX12_qPartTold_7 : decode cX12_qPartTold 7 = .ok (.getfield 263, 3) := by decide +kernel
theorem dX12_qPartTold_10 : decode cX12_qPartTold 10 = .ok (.ifCond .ne 176, 3) := by decide +kernel
theorem dX12_qPartTold_13 : decode cX12_qPartTold 13 = .ok (.aload_n 0, 1) := by decide +kernel
theorem dX12_qPartTold_14 : decode cX12_qPartTold 14 = .ok (.invokevirtual 275, 3) := by decide +kernel
theorem dX12_qPartTold_17 : decode cX12_qPartTold 17 = .ok (.istore_n 2, 1) := by decide +kernel
theorem dX12_qPartTold_18 : decode cX12_qPartTold 18 = .ok (.aload_n 0, 1) := by decide +kernel
theorem dX12_qPartTold_19 : decode cX12_qPartTold 19 = .ok (.bipush 10, 2) := by decide +kernel
theorem dX12_qPartTold_21 : decode cX12_qPartTold 21 = .ok (.bipush 11, 2) := by decide +kernel
theorem dX12_qPartTold_23 : decode cX12_qPartTold 23 = .ok (.invokevirtual 609, 3) := by decide +kernel
theorem dX12_qPartTold_26 : decode cX12_qPartTold 26 = .ok (.istore_n 3, 1) := by decide +kernel
theorem dX12_qPartTold_27 : decode cX12_qPartTold 27 = .ok (.iload_n 2, 1) := by decide +kernel
theorem dX12_qPartTold_28 : decode cX12_qPartTold 28 = .ok (.bipush 40, 2) := by decide +kernel
theorem dX12_qPartTold_30 : decode cX12_qPartTold 30 = .ok (.if_icmp .ne 26, 3) := by decide +kernel
theorem dX12_qPartTold_33 : decode cX12_qPartTold 33 = .ok (.aload_n 0, 1) := by decide +kernel
theorem dX12_qPartTold_34 : decode cX12_qPartTold 34 = .ok (.bipush 20, 2) := by decide +kernel
theorem dX12_qPartTold_36 : decode cX12_qPartTold 36 = .ok (.aload_n 0, 1) := by decide +kernel
theorem dX12_qPartTold_37 : decode cX12_qPartTold 37 = .ok (.getfield 269, 3) := by decide +kernel
theorem dX12_qPartTold_40 : decode cX12_qPartTold 40 = .ok (.invokevirtual 612, 3) := by decide +kernel
theorem dX12_qPartTold_43 : decode cX12_qPartTold 43 = .ok (.aload_n 0, 1) := by decide +kernel
theorem dX12_qPartTold_44 : decode cX12_qPartTold 44 = .ok (.dup, 1) := by decide +kernel
theorem dX12_qPartTold_45 : decode cX12_qPartTold 45 = .ok (.getfield 269, 3) := by decide +kernel
theorem dX12_qPartTold_48 : decode cX12_qPartTold 48 = .ok (.iconst 1, 1) := by decide +kernel
theorem dX12_qPartTold_49 : decode cX12_qPartTold 49 = .ok (.iadd, 1) := by decide +kernel
theorem dX12_qPartTold_50 : decode cX12_qPartTold 50 = .ok (.putfield 269, 3) := by decide +kernel
theorem dX12_qPartTold_53 : decode cX12_qPartTold 53 = .ok (.goto 130, 3) := by decide +kernel
theorem dX12_qPartTold_56 : decode cX12_qPartTold 56 = .ok (.aload_n 0, 1) := by decide +kernel
theorem dX12_qPartTold_57 : decode cX12_qPartTold 57 = .ok (.aload_n 0, 1) := by decide +kernel
theorem dX12_qPartTold_58 : decode cX12_qPartTold 58 = .ok (.getfield 209, 3) := by decide +kernel
theorem dX12_qPartTold_61 : decode cX12_qPartTold 61 = .ok (.invokevirtual 286, 3) := by decide +kernel
theorem dX12_qPartTold_64 : decode cX12_qPartTold 64 = .ok (.ifCond .ne 14, 3) := by decide +kernel
theorem dX12_qPartTold_67 : decode cX12_qPartTold 67 = .ok (.aload_n 0, 1) := by decide +kernel
theorem dX12_qPartTold_68 : decode cX12_qPartTold 68 = .ok (.aload_n 0, 1) := by decide +kernel
theorem dX12_qPartTold_69 : decode cX12_qPartTold 69 = .ok (.getfield 212, 3) := by decide +kernel
theorem dX12_qPartTold_72 : decode cX12_qPartTold 72 = .ok (.invokevirtual 286, 3) := by decide +kernel
theorem dX12_qPartTold_75 : decode cX12_qPartTold 75 = .ok (.ifCond .eq 78, 3) := by decide +kernel
theorem dX12_qPartTold_78 : decode cX12_qPartTold 78 = .ok (.aload_n 0, 1) := by decide +kernel
theorem dX12_qPartTold_79 : decode cX12_qPartTold 79 = .ok (.aload_n 0, 1) := by decide +kernel
theorem dX12_qPartTold_80 : decode cX12_qPartTold 80 = .ok (.getfield 209, 3) := by decide +kernel
theorem dX12_qPartTold_83 : decode cX12_qPartTold 83 = .ok (.invokevirtual 290, 3) := by decide +kernel
theorem dX12_qPartTold_86 : decode cX12_qPartTold 86 = .ok (.istore 4, 2) := by decide +kernel
theorem dX12_qPartTold_88 : decode cX12_qPartTold 88 = .ok (.iload 4, 2) := by decide +kernel
theorem dX12_qPartTold_90 : decode cX12_qPartTold 90 = .ok (.ifCond .ne 11, 3) := by decide +kernel
theorem dX12_qPartTold_93 : decode cX12_qPartTold 93 = .ok (.aload_n 0, 1) := by decide +kernel
theorem dX12_qPartTold_94 : decode cX12_qPartTold 94 = .ok (.aload_n 0, 1) := by decide +kernel
theorem dX12_qPartTold_95 : decode cX12_qPartTold 95 = .ok (.getfield 212, 3) := by decide +kernel
theorem dX12_qPartTold_98 : decode cX12_qPartTold 98 = .ok (.invokevirtual 337, 3) := by decide +kernel
theorem dX12_qPartTold_101 : decode cX12_qPartTold 101 = .ok (.aload_n 0, 1) := by decide +kernel
theorem dX12_qPartTold_102 : decode cX12_qPartTold 102 = .ok (.invokevirtual 275, 3) := by decide +kernel
theorem dX12_qPartTold_105 : decode cX12_qPartTold 105 = .ok (.bipush 40, 2) := by decide +kernel
theorem dX12_qPartTold_107 : decode cX12_qPartTold 107 = .ok (.if_icmp .ne 10, 3) := by decide +kernel
theorem dX12_qPartTold_110 : decode cX12_qPartTold 110 = .ok (.aload_n 0, 1) := by decide +kernel
theorem dX12_qPartTold_111 : decode cX12_qPartTold 111 = .ok (.getfield 269, 3) := by decide +kernel
theorem dX12_qPartTold_114 : decode cX12_qPartTold 114 = .ok (.goto 4, 3) := by decide +kernel
theorem dX12_qPartTold_117 : decode cX12_qPartTold 117 = .ok (.iconst (-1), 1) := by decide +kernel
theorem dX12_qPartTold_118 : decode cX12_qPartTold 118 = .ok (.istore 5, 2) := by decide +kernel
theorem dX12_qPartTold_120 : decode cX12_qPartTold 120 = .ok (.iload 5, 2) := by decide +kernel
theorem dX12_qPartTold_122 : decode cX12_qPartTold 122 = .ok (.iconst (-1), 1) := by decide +kernel
theorem dX12_qPartTold_123 : decode cX12_qPartTold 123 = .ok (.if_icmp .eq 21, 3) := by decide +kernel
theorem dX12_qPartTold_126 : decode cX12_qPartTold 126 = .ok (.aload_n 0, 1) := by decide +kernel
theorem dX12_qPartTold_127 : decode cX12_qPartTold 127 = .ok (.iload 4, 2) := by decide +kernel
theorem dX12_qPartTold_129 : decode cX12_qPartTold 129 = .ok (.ifCond .eq 8, 3) := by decide +kernel
theorem dX12_qPartTold_132 : decode cX12_qPartTold 132 = .ok (.bipush 21, 2) := by decide +kernel
theorem dX12_qPartTold_134 : decode cX12_qPartTold 134 = .ok (.goto 5, 3) := by decide +kernel
theorem dX12_qPartTold_137 : decode cX12_qPartTold 137 = .ok (.bipush 22, 2) := by decide +kernel
theorem dX12_qPartTold_139 : decode cX12_qPartTold 139 = .ok (.iload 5, 2) := by decide +kernel
theorem dX12_qPartTold_141 : decode cX12_qPartTold 141 = .ok (.invokevirtual 612, 3) := by decide +kernel
theorem dX12_qPartTold_144 : decode cX12_qPartTold 144 = .ok (.aload_n 0, 1) := by decide +kernel
theorem dX12_qPartTold_145 : decode cX12_qPartTold 145 = .ok (.bipush 40, 2) := by decide +kernel
theorem dX12_qPartTold_147 : decode cX12_qPartTold 147 = .ok (.invokevirtual 395, 3) := by decide +kernel
theorem dX12_qPartTold_150 : decode cX12_qPartTold 150 = .ok (.goto 33, 3) := by decide +kernel
theorem dX12_qPartTold_153 : decode cX12_qPartTold 153 = .ok (.iload_n 3, 1) := by decide +kernel
theorem dX12_qPartTold_154 : decode cX12_qPartTold 154 = .ok (.iconst (-1), 1) := by decide +kernel
theorem dX12_qPartTold_155 : decode cX12_qPartTold 155 = .ok (.if_icmp .eq 26, 3) := by decide +kernel
theorem dX12_qPartTold_158 : decode cX12_qPartTold 158 = .ok (.aload_n 0, 1) := by decide +kernel
theorem dX12_qPartTold_159 : decode cX12_qPartTold 159 = .ok (.bipush 60, 2) := by decide +kernel
theorem dX12_qPartTold_161 : decode cX12_qPartTold 161 = .ok (.iload_n 3, 1) := by decide +kernel
theorem dX12_qPartTold_162 : decode cX12_qPartTold 162 = .ok (.iadd, 1) := by decide +kernel
theorem dX12_qPartTold_163 : decode cX12_qPartTold 163 = .ok (.bipush 10, 2) := by decide +kernel
theorem dX12_qPartTold_165 : decode cX12_qPartTold 165 = .ok (.isub, 1) := by decide +kernel
theorem dX12_qPartTold_166 : decode cX12_qPartTold 166 = .ok (.aload_n 0, 1) := by decide +kernel
theorem dX12_qPartTold_167 : decode cX12_qPartTold 167 = .ok (.getfield 269, 3) := by decide +kernel
theorem dX12_qPartTold_170 : decode cX12_qPartTold 170 = .ok (.invokevirtual 612, 3) := by decide +kernel
theorem dX12_qPartTold_173 : decode cX12_qPartTold 173 = .ok (.aload_n 0, 1) := by decide +kernel
theorem dX12_qPartTold_174 : decode cX12_qPartTold 174 = .ok (.iload_n 3, 1) := by decide +kernel
theorem dX12_qPartTold_175 : decode cX12_qPartTold 175 = .ok (.invokevirtual 615, 3) := by decide +kernel
theorem dX12_qPartTold_178 : decode cX12_qPartTold 178 = .ok (.goto 5, 3) := by decide +kernel
theorem dX12_qPartTold_181 : decode cX12_qPartTold 181 = .ok (.iconst 0, 1) := by decide +kernel
theorem dX12_qPartTold_182 : decode cX12_qPartTold 182 = .ok (.istore_n 1, 1) := by decide +kernel
theorem dX12_qPartTold_183 : decode cX12_qPartTold 183 = .ok (.goto (-181), 3) := by decide +kernel
theorem dX12_qPartTold_186 : decode cX12_qPartTold 186 = .ok (.aload_n 0, 1) := by decide +kernel
theorem dX12_qPartTold_187 : decode cX12_qPartTold 187 = .ok (.getfield 263, 3) := by decide +kernel
theorem dX12_qPartTold_190 : decode cX12_qPartTold 190 = .ok (.ifCond .eq 4, 3) := by decide +kernel
theorem dX12_qPartTold_193 : decode cX12_qPartTold 193 = .ok (.return_, 1) := by decide +kernel
theorem dX12_qPartTold_194 : decode cX12_qPartTold 194 = .ok (.aload_n 0, 1) := by decide +kernel
theorem dX12_qPartTold_195 : decode cX12_qPartTold 195 = .ok (.iconst 0, 1) := by decide +kernel
theorem dX12_qPartTold_196 : decode cX12_qPartTold 196 = .ok (.bipush 10, 2) := by decide +kernel
theorem dX12_qPartTold_198 : decode cX12_qPartTold 198 = .ok (.invokevirtual 609, 3) := by decide +kernel
theorem dX12_qPartTold_201 : decode cX12_qPartTold 201 = .ok (.istore_n 2, 1) := by decide +kernel
theorem dX12_qPartTold_202 : decode cX12_qPartTold 202 = .ok (.iload_n 2, 1) := by decide +kernel
theorem dX12_qPartTold_203 : decode cX12_qPartTold 203 = .ok (.iconst (-1), 1) := by decide +kernel
theorem dX12_qPartTold_204 : decode cX12_qPartTold 204 = .ok (.if_icmp .eq 8, 3) := by decide +kernel
theorem dX12_qPartTold_207 : decode cX12_qPartTold 207 = .ok (.aload_n 0, 1) := by decide +kernel
theorem dX12_qPartTold_208 : decode cX12_qPartTold 208 = .ok (.iload_n 2, 1) := by decide +kernel
theorem dX12_qPartTold_209 : decode cX12_qPartTold 209 = .ok (.invokevirtual 615, 3) := by decide +kernel
theorem dX12_qPartTold_212 : decode cX12_qPartTold 212 = .ok (.aload_n 0, 1) := by decide +kernel
theorem dX12_qPartTold_213 : decode cX12_qPartTold 213 = .ok (.iload_n 2, 1) := by decide +kernel
theorem dX12_qPartTold_214 : decode cX12_qPartTold 214 = .ok (.iconst (-1), 1) := by decide +kernel
theorem dX12_qPartTold_215 : decode cX12_qPartTold 215 = .ok (.if_icmp .eq 10, 3) := by decide +kernel
theorem dX12_qPartTold_218 : decode cX12_qPartTold 218 = .ok (.bipush 40, 2) := by decide +kernel
theorem dX12_qPartTold_220 : decode cX12_qPartTold 220 = .ok (.iload_n 2, 1) := by decide +kernel
theorem dX12_qPartTold_221 : decode cX12_qPartTold 221 = .ok (.iadd, 1) := by decide +kernel
theorem dX12_qPartTold_222 : decode cX12_qPartTold 222 = .ok (.goto 15, 3) := by decide +kernel
theorem dX12_qPartTold_225 : decode cX12_qPartTold 225 = .ok (.sipush 1000, 3) := by decide +kernel
theorem dX12_qPartTold_228 : decode cX12_qPartTold 228 = .ok (.aload_n 0, 1) := by decide +kernel
theorem dX12_qPartTold_229 : decode cX12_qPartTold 229 = .ok (.iconst 0, 1) := by decide +kernel
theorem dX12_qPartTold_230 : decode cX12_qPartTold 230 = .ok (.sipush 9999, 3) := by decide +kernel
theorem dX12_qPartTold_233 : decode cX12_qPartTold 233 = .ok (.invokevirtual 341, 3) := by decide +kernel
theorem dX12_qPartTold_236 : decode cX12_qPartTold 236 = .ok (.iadd, 1) := by decide +kernel
theorem dX12_qPartTold_237 : decode cX12_qPartTold 237 = .ok (.invokevirtual 594, 3) := by decide +kernel
theorem dX12_qPartTold_240 : decode cX12_qPartTold 240 = .ok (.aload_n 0, 1) := by decide +kernel
theorem dX12_qPartTold_241 : decode cX12_qPartTold 241 = .ok (.invokevirtual 618, 3) := by decide +kernel
theorem dX12_qPartTold_244 : decode cX12_qPartTold 244 = .ok (.return_, 1) := by decide +kernel
theorem dX12_newName_0 : decode cX12_newName 0 = .ok (.aload_n 0, 1) := by decide +kernel
theorem dX12_newName_1 : decode cX12_newName 1 = .ok (.invokevirtual 322, 3) := by decide +kernel
theorem dX12_newName_4 : decode cX12_newName 4 = .ok (.lstore_n 1, 1) := by decide +kernel
theorem dX12_newName_5 : decode cX12_newName 5 = .ok (.iconst 0, 1) := by decide +kernel
theorem dX12_newName_6 : decode cX12_newName 6 = .ok (.istore_n 3, 1) := by decide +kernel
theorem dX12_newName_7 : decode cX12_newName 7 = .ok (.iload_n 3, 1) := by decide +kernel
theorem dX12_newName_8 : decode cX12_newName 8 = .ok (.iconst 3, 1) := by decide +kernel
theorem dX12_newName_9 : decode cX12_newName 9 = .ok (.if_icmp .ge 35, 3) := by decide +kernel
theorem dX12_newName_12 : decode cX12_newName 12 = .ok (.aload_n 0, 1) := by decide +kernel
theorem dX12_newName_13 : decode cX12_newName 13 = .ok (.getfield 263, 3) := by decide +kernel
theorem dX12_newName_16 : decode cX12_newName 16 = .ok (.ifCond .ne 22, 3) := by decide +kernel
theorem dX12_newName_19 : decode cX12_newName 19 = .ok (.aload_n 0, 1) := by decide +kernel
theorem dX12_newName_20 : decode cX12_newName 20 = .ok (.iload_n 3, 1) := by decide +kernel
theorem dX12_newName_21 : decode cX12_newName 21 = .ok (.lload_n 1, 1) := by decide +kernel
theorem dX12_newName_22 : decode cX12_newName 22 = .ok (.invokevirtual 326, 3) := by decide +kernel
theorem dX12_newName_25 : decode cX12_newName 25 = .ok (.iconst (-1), 1) := by decide +kernel
theorem dX12_newName_26 : decode cX12_newName 26 = .ok (.if_icmp .eq 12, 3) := by decide +kernel
theorem dX12_newName_29 : decode cX12_newName 29 = .ok (.aload_n 0, 1) := by decide +kernel
theorem dX12_newName_30 : decode cX12_newName 30 = .ok (.iconst 3, 1) := by decide +kernel
theorem dX12_newName_31 : decode cX12_newName 31 = .ok (.aload_n 0, 1) := by decide +kernel
theorem dX12_newName_32 : decode cX12_newName 32 = .ok (.getfield 311, 3) := by decide +kernel
theorem dX12_newName_35 : decode cX12_newName 35 = .ok (.invokevirtual 293, 3) := by decide +kernel
theorem dX12_newName_38 : decode cX12_newName 38 = .ok (.iinc 3 1, 3) := by decide +kernel
theorem dX12_newName_41 : decode cX12_newName 41 = .ok (.goto (-34), 3) := by decide +kernel
theorem dX12_newName_44 : decode cX12_newName 44 = .ok (.lload_n 1, 1) := by decide +kernel
theorem dX12_newName_45 : decode cX12_newName 45 = .ok (.lreturn, 1) := by decide +kernel
theorem dX12_sheets_0 : decode cX12_sheets 0 = .ok (.iload_n 1, 1) := by decide +kernel
theorem dX12_sheets_1 : decode cX12_sheets 1 = .ok (.iconst (-1), 1) := by decide +kernel
theorem dX12_sheets_2 : decode cX12_sheets 2 = .ok (.if_icmp .eq 13, 3) := by decide +kernel
theorem dX12_sheets_5 : decode cX12_sheets 5 = .ok (.aload_n 0, 1) := by decide +kernel
theorem dX12_sheets_6 : decode cX12_sheets 6 = .ok (.iload_n 1, 1) := by decide +kernel
theorem dX12_sheets_7 : decode cX12_sheets 7 = .ok (.invokevirtual 501, 3) := by decide +kernel
theorem dX12_sheets_10 : decode cX12_sheets 10 = .ok (.ifCond .ne 5, 3) := by decide +kernel
theorem dX12_sheets_13 : decode cX12_sheets 13 = .ok (.iconst (-1), 1) := by decide +kernel
theorem dX12_sheets_14 : decode cX12_sheets 14 = .ok (.ireturn, 1) := by decide +kernel
theorem dX12_sheets_15 : decode cX12_sheets 15 = .ok (.iconst 0, 1) := by decide +kernel
theorem dX12_sheets_16 : decode cX12_sheets 16 = .ok (.istore_n 2, 1) := by decide +kernel
theorem dX12_sheets_17 : decode cX12_sheets 17 = .ok (.aload_n 0, 1) := by decide +kernel
theorem dX12_sheets_18 : decode cX12_sheets 18 = .ok (.iload_n 2, 1) := by decide +kernel
theorem dX12_sheets_19 : decode cX12_sheets 19 = .ok (.invokevirtual 542, 3) := by decide +kernel
theorem dX12_sheets_22 : decode cX12_sheets 22 = .ok (.ifCond .ne 9, 3) := by decide +kernel
theorem dX12_sheets_25 : decode cX12_sheets 25 = .ok (.iinc 2 1, 3) := by decide +kernel
theorem dX12_sheets_28 : decode cX12_sheets 28 = .ok (.goto (-11), 3) := by decide +kernel
theorem dX12_sheets_31 : decode cX12_sheets 31 = .ok (.iload_n 1, 1) := by decide +kernel
theorem dX12_sheets_32 : decode cX12_sheets 32 = .ok (.iconst (-1), 1) := by decide +kernel
theorem dX12_sheets_33 : decode cX12_sheets 33 = .ok (.if_icmp .ne 7, 3) := by decide +kernel
theorem dX12_sheets_36 : decode cX12_sheets 36 = .ok (.iload_n 2, 1) := by decide +kernel
theorem dX12_sheets_37 : decode cX12_sheets 37 = .ok (.goto 9, 3) := by decide +kernel
theorem dX12_sheets_40 : decode cX12_sheets 40 = .ok (.aload_n 0, 1) := by decide +kernel
theorem dX12_sheets_41 : decode cX12_sheets 41 = .ok (.getfield 148, 3) := by decide +kernel
theorem dX12_sheets_44 : decode cX12_sheets 44 = .ok (.iload_n 1, 1) := by decide +kernel
theorem dX12_sheets_45 : decode cX12_sheets 45 = .ok (.iaload, 1) := by decide +kernel
theorem dX12_sheets_46 : decode cX12_sheets 46 = .ok (.ireturn, 1) := by decide +kernel
theorem dX12_codesTold_0 : decode cX12_codesTold 0 = .ok (.aload_n 0, 1) := by decide +kernel
theorem dX12_codesTold_1 : decode cX12_codesTold 1 = .ok (.getfield 263, 3) := by decide +kernel
theorem dX12_codesTold_4 : decode cX12_codesTold 4 = .ok (.ifCond .ne 19, 3) := by decide +kernel
theorem dX12_codesTold_7 : decode cX12_codesTold 7 = .ok (.aload_n 0, 1) := by decide +kernel
theorem dX12_codesTold_8 : decode cX12_codesTold 8 = .ok (.getfield 133, 3) := by decide +kernel
theorem dX12_codesTold_11 : decode cX12_codesTold 11 = .ok (.iload_n 1, 1) := by decide +kernel
theorem dX12_codesTold_12 : decode cX12_codesTold 12 = .ok (.iaload, 1) := by decide +kernel
theorem dX12_codesTold_13 : decode cX12_codesTold 13 = .ok (.iconst (-1), 1) := by decide +kernel
theorem dX12_codesTold_14 : decode cX12_codesTold 14 = .ok (.if_icmp .eq 9, 3) := by decide +kernel
theorem dX12_codesTold_17 : decode cX12_codesTold 17 = .ok (.aload_n 0, 1) := by decide +kernel
theorem dX12_codesTold_18 : decode cX12_codesTold 18 = .ok (.iconst 5, 1) := by decide +kernel
theorem dX12_codesTold_19 : decode cX12_codesTold 19 = .ok (.iload_n 2, 1) := by decide +kernel
theorem dX12_codesTold_20 : decode cX12_codesTold 20 = .ok (.invokevirtual 293, 3) := by decide +kernel
theorem dX12_codesTold_23 : decode cX12_codesTold 23 = .ok (.aload_n 0, 1) := by decide +kernel
theorem dX12_codesTold_24 : decode cX12_codesTold 24 = .ok (.getfield 263, 3) := by decide +kernel
theorem dX12_codesTold_27 : decode cX12_codesTold 27 = .ok (.ifCond .eq 4, 3) := by decide +kernel
theorem dX12_codesTold_30 : decode cX12_codesTold 30 = .ok (.return_, 1) := by decide +kernel
theorem dX12_codesTold_31 : decode cX12_codesTold 31 = .ok (.aload_n 0, 1) := by decide +kernel
theorem dX12_codesTold_32 : decode cX12_codesTold 32 = .ok (.iconst 1, 1) := by decide +kernel
theorem dX12_codesTold_33 : decode cX12_codesTold 33 = .ok (.putfield 318, 3) := by decide +kernel
theorem dX12_codesTold_36 : decode cX12_codesTold 36 = .ok (.aload_n 0, 1) := by decide +kernel
theorem dX12_codesTold_37 : decode cX12_codesTold 37 = .ok (.iconst 0, 1) := by decide +kernel
theorem dX12_codesTold_38 : decode cX12_codesTold 38 = .ok (.putfield 352, 3) := by decide +kernel
theorem dX12_codesTold_41 : decode cX12_codesTold 41 = .ok (.aload_n 0, 1) := by decide +kernel
theorem dX12_codesTold_42 : decode cX12_codesTold 42 = .ok (.iconst 0, 1) := by decide +kernel
theorem dX12_codesTold_43 : decode cX12_codesTold 43 = .ok (.putfield 355, 3) := by decide +kernel
theorem dX12_codesTold_46 : decode cX12_codesTold 46 = .ok (.aload_n 0, 1) := by decide +kernel
theorem dX12_codesTold_47 : decode cX12_codesTold 47 = .ok (.iconst 0, 1) := by decide +kernel
theorem dX12_codesTold_48 : decode cX12_codesTold 48 = .ok (.putfield 358, 3) := by decide +kernel
theorem dX12_codesTold_51 : decode cX12_codesTold 51 = .ok (.aload_n 0, 1) := by decide +kernel
theorem dX12_codesTold_52 : decode cX12_codesTold 52 = .ok (.iconst 0, 1) := by decide +kernel
theorem dX12_codesTold_53 : decode cX12_codesTold 53 = .ok (.putfield 361, 3) := by decide +kernel
theorem dX12_codesTold_56 : decode cX12_codesTold 56 = .ok (.aload_n 0, 1) := by decide +kernel
theorem dX12_codesTold_57 : decode cX12_codesTold 57 = .ok (.invokevirtual 364, 3) := by decide +kernel
theorem dX12_codesTold_60 : decode cX12_codesTold 60 = .ok (.aload_n 0, 1) := by decide +kernel
theorem dX12_codesTold_61 : decode cX12_codesTold 61 = .ok (.getfield 263, 3) := by decide +kernel
theorem dX12_codesTold_64 : decode cX12_codesTold 64 = .ok (.ifCond .eq 4, 3) := by decide +kernel
theorem dX12_codesTold_67 : decode cX12_codesTold 67 = .ok (.return_, 1) := by decide +kernel
theorem dX12_codesTold_68 : decode cX12_codesTold 68 = .ok (.aload_n 0, 1) := by decide +kernel
theorem dX12_codesTold_69 : decode cX12_codesTold 69 = .ok (.getfield 133, 3) := by decide +kernel
theorem dX12_codesTold_72 : decode cX12_codesTold 72 = .ok (.iload_n 1, 1) := by decide +kernel
theorem dX12_codesTold_73 : decode cX12_codesTold 73 = .ok (.aload_n 0, 1) := by decide +kernel
theorem dX12_codesTold_74 : decode cX12_codesTold 74 = .ok (.getfield 367, 3) := by decide +kernel
theorem dX12_codesTold_77 : decode cX12_codesTold 77 = .ok (.iastore, 1) := by decide +kernel
theorem dX12_codesTold_78 : decode cX12_codesTold 78 = .ok (.iconst 0, 1) := by decide +kernel
theorem dX12_codesTold_79 : decode cX12_codesTold 79 = .ok (.istore_n 3, 1) := by decide +kernel
theorem dX12_codesTold_80 : decode cX12_codesTold 80 = .ok (.iload_n 3, 1) := by decide +kernel
theorem dX12_codesTold_81 : decode cX12_codesTold 81 = .ok (.aload_n 0, 1) := by decide +kernel
theorem dX12_codesTold_82 : decode cX12_codesTold 82 = .ok (.getfield 352, 3) := by decide +kernel
theorem dX12_codesTold_85 : decode cX12_codesTold 85 = .ok (.if_icmp .ge 34, 3) := by decide +kernel
theorem dX12_codesTold_88 : decode cX12_codesTold 88 = .ok (.aload_n 0, 1) := by decide +kernel
theorem dX12_codesTold_89 : decode cX12_codesTold 89 = .ok (.getfield 139, 3) := by decide +kernel
theorem dX12_codesTold_92 : decode cX12_codesTold 92 = .ok (.aload_n 0, 1) := by decide +kernel
theorem dX12_codesTold_93 : decode cX12_codesTold 93 = .ok (.getfield 367, 3) := by decide +kernel
theorem dX12_codesTold_96 : decode cX12_codesTold 96 = .ok (.aload_n 0, 1) := by decide +kernel
theorem dX12_codesTold_97 : decode cX12_codesTold 97 = .ok (.getfield 248, 3) := by decide +kernel
theorem dX12_codesTold_100 : decode cX12_codesTold 100 = .ok (.iload_n 3, 1) := by decide +kernel
theorem dX12_codesTold_101 : decode cX12_codesTold 101 = .ok (.iaload, 1) := by decide +kernel
theorem dX12_codesTold_102 : decode cX12_codesTold 102 = .ok (.iastore, 1) := by decide +kernel
theorem dX12_codesTold_103 : decode cX12_codesTold 103 = .ok (.aload_n 0, 1) := by decide +kernel
theorem dX12_codesTold_104 : decode cX12_codesTold 104 = .ok (.dup, 1) := by decide +kernel
theorem dX12_codesTold_105 : decode cX12_codesTold 105 = .ok (.getfield 367, 3) := by decide +kernel
theorem dX12_codesTold_108 : decode cX12_codesTold 108 = .ok (.iconst 1, 1) := by decide +kernel
theorem dX12_codesTold_109 : decode cX12_codesTold 109 = .ok (.iadd, 1) := by decide +kernel
theorem dX12_codesTold_110 : decode cX12_codesTold 110 = .ok (.putfield 367, 3) := by decide +kernel
theorem dX12_codesTold_113 : decode cX12_codesTold 113 = .ok (.iinc 3 1, 3) := by decide +kernel
theorem dX12_codesTold_116 : decode cX12_codesTold 116 = .ok (.goto (-36), 3) := by decide +kernel
theorem dX12_codesTold_119 : decode cX12_codesTold 119 = .ok (.aload_n 0, 1) := by decide +kernel
theorem dX12_codesTold_120 : decode cX12_codesTold 120 = .ok (.getfield 136, 3) := by decide +kernel
theorem dX12_codesTold_123 : decode cX12_codesTold 123 = .ok (.iload_n 1, 1) := by decide +kernel
theorem dX12_codesTold_124 : decode cX12_codesTold 124 = .ok (.aload_n 0, 1) := by decide +kernel
theorem dX12_codesTold_125 : decode cX12_codesTold 125 = .ok (.getfield 367, 3) := by decide +kernel
theorem dX12_codesTold_128 : decode cX12_codesTold 128 = .ok (.iastore, 1) := by decide +kernel
theorem dX12_codesTold_129 : decode cX12_codesTold 129 = .ok (.return_, 1) := by decide +kernel
theorem dX12_wishesOf_0 : decode cX12_wishesOf 0 = .ok (.iconst 0, 1) := by decide +kernel
theorem dX12_wishesOf_1 : decode cX12_wishesOf 1 = .ok (.istore_n 2, 1) := by decide +kernel
theorem dX12_wishesOf_2 : decode cX12_wishesOf 2 = .ok (.iconst 0, 1) := by decide +kernel
theorem dX12_wishesOf_3 : decode cX12_wishesOf 3 = .ok (.istore_n 3, 1) := by decide +kernel
theorem dX12_wishesOf_4 : decode cX12_wishesOf 4 = .ok (.iload_n 3, 1) := by decide +kernel
theorem dX12_wishesOf_5 : decode cX12_wishesOf 5 = .ok (.aload_n 0, 1) := by decide +kernel
theorem dX12_wishesOf_6 : decode cX12_wishesOf 6 = .ok (.invokevirtual 410, 3) := by decide +kernel
theorem dX12_wishesOf_9 : decode cX12_wishesOf 9 = .ok (.if_icmp .ge 18, 3) := by decide +kernel
theorem dX12_wishesOf_12 : decode cX12_wishesOf 12 = .ok (.iload_n 2, 1) := by decide +kernel
theorem dX12_wishesOf_13 : decode cX12_wishesOf 13 = .ok (.aload_n 0, 1) := by decide +kernel
theorem dX12_wishesOf_14 : decode cX12_wishesOf 14 = .ok (.iload_n 1, 1) := by decide +kernel
theorem dX12_wishesOf_15 : decode cX12_wishesOf 15 = .ok (.iload_n 3, 1) := by decide +kernel
theorem dX12_wishesOf_16 : decode cX12_wishesOf 16 = .ok (.invokevirtual 425, 3) := by decide +kernel
theorem dX12_wishesOf_19 : decode cX12_wishesOf 19 = .ok (.iadd, 1) := by decide +kernel
theorem dX12_wishesOf_20 : decode cX12_wishesOf 20 = .ok (.istore_n 2, 1) := by decide +kernel
theorem dX12_wishesOf_21 : decode cX12_wishesOf 21 = .ok (.iinc 3 1, 3) := by decide +kernel
theorem dX12_wishesOf_24 : decode cX12_wishesOf 24 = .ok (.goto (-20), 3) := by decide +kernel
theorem dX12_wishesOf_27 : decode cX12_wishesOf 27 = .ok (.iload_n 2, 1) := by decide +kernel
theorem dX12_wishesOf_28 : decode cX12_wishesOf 28 = .ok (.ireturn, 1) := by decide +kernel
theorem dX12_mail_0 : decode cX12_mail 0 = .ok (.aload_n 0, 1) := by decide +kernel
theorem dX12_mail_1 : decode cX12_mail 1 = .ok (.iload_n 1, 1) := by decide +kernel
theorem dX12_mail_2 : decode cX12_mail 2 = .ok (.invokevirtual 501, 3) := by decide +kernel
theorem dX12_mail_5 : decode cX12_mail 5 = .ok (.ifCond .ne 5, 3) := by decide +kernel
theorem dX12_mail_8 : decode cX12_mail 8 = .ok (.iconst (-1), 1) := by decide +kernel
theorem dX12_mail_9 : decode cX12_mail 9 = .ok (.ireturn, 1) := by decide +kernel
theorem dX12_mail_10 : decode cX12_mail 10 = .ok (.iload_n 2, 1) := by decide +kernel
theorem dX12_mail_11 : decode cX12_mail 11 = .ok (.tableswitch 97 0 7 #[45, 45, 45, 59, 67, 73, 81, 87], 45) := by decide +kernel
theorem dX12_mail_56 : decode cX12_mail 56 = .ok (.aload_n 0, 1) := by decide +kernel
theorem dX12_mail_57 : decode cX12_mail 57 = .ok (.getfield 112, 3) := by decide +kernel
theorem dX12_mail_60 : decode cX12_mail 60 = .ok (.bipush 24, 2) := by decide +kernel
theorem dX12_mail_62 : decode cX12_mail 62 = .ok (.iconst 3, 1) := by decide +kernel
theorem dX12_mail_63 : decode cX12_mail 63 = .ok (.iload_n 1, 1) := by decide +kernel
theorem dX12_mail_64 : decode cX12_mail 64 = .ok (.imul, 1) := by decide +kernel
theorem dX12_mail_65 : decode cX12_mail 65 = .ok (.iadd, 1) := by decide +kernel
theorem dX12_mail_66 : decode cX12_mail 66 = .ok (.iload_n 2, 1) := by decide +kernel
theorem dX12_mail_67 : decode cX12_mail 67 = .ok (.iadd, 1) := by decide +kernel
theorem dX12_mail_68 : decode cX12_mail 68 = .ok (.iaload, 1) := by decide +kernel
theorem dX12_mail_69 : decode cX12_mail 69 = .ok (.ireturn, 1) := by decide +kernel
theorem dX12_mail_70 : decode cX12_mail 70 = .ok (.aload_n 0, 1) := by decide +kernel
theorem dX12_mail_71 : decode cX12_mail 71 = .ok (.iload_n 1, 1) := by decide +kernel
theorem dX12_mail_72 : decode cX12_mail 72 = .ok (.invokevirtual 451, 3) := by decide +kernel
theorem dX12_mail_75 : decode cX12_mail 75 = .ok (.iconst 1, 1) := by decide +kernel
theorem dX12_mail_76 : decode cX12_mail 76 = .ok (.isub, 1) := by decide +kernel
theorem dX12_mail_77 : decode cX12_mail 77 = .ok (.ireturn, 1) := by decide +kernel
theorem dX12_mail_78 : decode cX12_mail 78 = .ok (.aload_n 0, 1) := by decide +kernel
theorem dX12_mail_79 : decode cX12_mail 79 = .ok (.iload_n 1, 1) := by decide +kernel
theorem dX12_mail_80 : decode cX12_mail 80 = .ok (.invokevirtual 504, 3) := by decide +kernel
theorem dX12_mail_83 : decode cX12_mail 83 = .ok (.ireturn, 1) := by decide +kernel
theorem dX12_mail_84 : decode cX12_mail 84 = .ok (.aload_n 0, 1) := by decide +kernel
theorem dX12_mail_85 : decode cX12_mail 85 = .ok (.iload_n 1, 1) := by decide +kernel
theorem dX12_mail_86 : decode cX12_mail 86 = .ok (.invokevirtual 507, 3) := by decide +kernel
theorem dX12_mail_89 : decode cX12_mail 89 = .ok (.iconst 1, 1) := by decide +kernel
theorem dX12_mail_90 : decode cX12_mail 90 = .ok (.isub, 1) := by decide +kernel
theorem dX12_mail_91 : decode cX12_mail 91 = .ok (.ireturn, 1) := by decide +kernel
theorem dX12_mail_92 : decode cX12_mail 92 = .ok (.aload_n 0, 1) := by decide +kernel
theorem dX12_mail_93 : decode cX12_mail 93 = .ok (.iload_n 1, 1) := by decide +kernel
theorem dX12_mail_94 : decode cX12_mail 94 = .ok (.invokevirtual 510, 3) := by decide +kernel
theorem dX12_mail_97 : decode cX12_mail 97 = .ok (.ireturn, 1) := by decide +kernel
theorem dX12_mail_98 : decode cX12_mail 98 = .ok (.aload_n 0, 1) := by decide +kernel
theorem dX12_mail_99 : decode cX12_mail 99 = .ok (.getfield 121, 3) := by decide +kernel
theorem dX12_mail_102 : decode cX12_mail 102 = .ok (.bipush 8, 2) := by decide +kernel
theorem dX12_mail_104 : decode cX12_mail 104 = .ok (.iload_n 1, 1) := by decide +kernel
theorem dX12_mail_105 : decode cX12_mail 105 = .ok (.iadd, 1) := by decide +kernel
theorem dX12_mail_106 : decode cX12_mail 106 = .ok (.iaload, 1) := by decide +kernel
theorem dX12_mail_107 : decode cX12_mail 107 = .ok (.ireturn, 1) := by decide +kernel
theorem dX12_mail_108 : decode cX12_mail 108 = .ok (.iconst (-1), 1) := by decide +kernel
theorem dX12_mail_109 : decode cX12_mail 109 = .ok (.ireturn, 1) := by decide +kernel
theorem dX12_letterTold_0 : decode cX12_letterTold 0 = .ok (.aload_n 0, 1) := by decide +kernel
theorem dX12_letterTold_1 : decode cX12_letterTold 1 = .ok (.iconst 0, 1) := by decide +kernel
theorem dX12_letterTold_2 : decode cX12_letterTold 2 = .ok (.bipush 8, 2) := by decide +kernel
theorem dX12_letterTold_4 : decode cX12_letterTold 4 = .ok (.iload_n 1, 1) := by decide +kernel
theorem dX12_letterTold_5 : decode cX12_letterTold 5 = .ok (.invokevirtual 330, 3) := by decide +kernel
theorem dX12_letterTold_8 : decode cX12_letterTold 8 = .ok (.ifCond .eq 4, 3) := by decide +kernel
theorem dX12_letterTold_11 : decode cX12_letterTold 11 = .ok (.return_, 1) := by decide +kernel
theorem dX12_letterTold_12 : decode cX12_letterTold 12 = .ok (.aload_n 0, 1) := by decide +kernel
theorem dX12_letterTold_13 : decode cX12_letterTold 13 = .ok (.invokevirtual 334, 3) := by decide +kernel
theorem dX12_letterTold_16 : decode cX12_letterTold 16 = .ok (.lstore_n 2, 1) := by decide +kernel
theorem dX12_letterTold_17 : decode cX12_letterTold 17 = .ok (.aload_n 0, 1) := by decide +kernel
theorem dX12_letterTold_18 : decode cX12_letterTold 18 = .ok (.aload_n 0, 1) := by decide +kernel
theorem dX12_letterTold_19 : decode cX12_letterTold 19 = .ok (.getfield 24, 3) := by decide +kernel
theorem dX12_letterTold_22 : decode cX12_letterTold 22 = .ok (.invokevirtual 337, 3) := by decide +kernel
theorem dX12_letterTold_25 : decode cX12_letterTold 25 = .ok (.aload_n 0, 1) := by decide +kernel
theorem dX12_letterTold_26 : decode cX12_letterTold 26 = .ok (.iconst 0, 1) := by decide +kernel
theorem dX12_letterTold_27 : decode cX12_letterTold 27 = .ok (.bipush 20, 2) := by decide +kernel
theorem dX12_letterTold_29 : decode cX12_letterTold 29 = .ok (.invokevirtual 341, 3) := by decide +kernel
theorem dX12_letterTold_32 : decode cX12_letterTold 32 = .ok (.istore 4, 2) := by decide +kernel
theorem dX12_letterTold_34 : decode cX12_letterTold 34 = .ok (.aload_n 0, 1) := by decide +kernel
theorem dX12_letterTold_35 : decode cX12_letterTold 35 = .ok (.aload_n 0, 1) := by decide +kernel
theorem dX12_letterTold_36 : decode cX12_letterTold 36 = .ok (.getfield 27, 3) := by decide +kernel
theorem dX12_letterTold_39 : decode cX12_letterTold 39 = .ok (.invokevirtual 337, 3) := by decide +kernel
theorem dX12_letterTold_42 : decode cX12_letterTold 42 = .ok (.aload_n 0, 1) := by decide +kernel
theorem dX12_letterTold_43 : decode cX12_letterTold 43 = .ok (.iconst 0, 1) := by decide +kernel
theorem dX12_letterTold_44 : decode cX12_letterTold 44 = .ok (.bipush 9, 2) := by decide +kernel
theorem dX12_letterTold_46 : decode cX12_letterTold 46 = .ok (.invokevirtual 341, 3) := by decide +kernel
theorem dX12_letterTold_49 : decode cX12_letterTold 49 = .ok (.istore 5, 2) := by decide +kernel
theorem dX12_letterTold_51 : decode cX12_letterTold 51 = .ok (.aload_n 0, 1) := by decide +kernel
theorem dX12_letterTold_52 : decode cX12_letterTold 52 = .ok (.aload_n 0, 1) := by decide +kernel
theorem dX12_letterTold_53 : decode cX12_letterTold 53 = .ok (.getfield 30, 3) := by decide +kernel
theorem dX12_letterTold_56 : decode cX12_letterTold 56 = .ok (.invokevirtual 337, 3) := by decide +kernel
theorem dX12_letterTold_59 : decode cX12_letterTold 59 = .ok (.aload_n 0, 1) := by decide +kernel
theorem dX12_letterTold_60 : decode cX12_letterTold 60 = .ok (.iconst 0, 1) := by decide +kernel
theorem dX12_letterTold_61 : decode cX12_letterTold 61 = .ok (.bipush 10, 2) := by decide +kernel
theorem dX12_letterTold_63 : decode cX12_letterTold 63 = .ok (.invokevirtual 341, 3) := by decide +kernel
theorem dX12_letterTold_66 : decode cX12_letterTold 66 = .ok (.istore 6, 2) := by decide +kernel
theorem dX12_letterTold_68 : decode cX12_letterTold 68 = .ok (.aload_n 0, 1) := by decide +kernel
theorem dX12_letterTold_69 : decode cX12_letterTold 69 = .ok (.getfield 263, 3) := by decide +kernel
theorem dX12_letterTold_72 : decode cX12_letterTold 72 = .ok (.ifCond .eq 4, 3) := by decide +kernel
theorem dX12_letterTold_75 : decode cX12_letterTold 75 = .ok (.return_, 1) := by decide +kernel
theorem dX12_letterTold_76 : decode cX12_letterTold 76 = .ok (.iconst 3, 1) := by decide +kernel
theorem dX12_letterTold_77 : decode cX12_letterTold 77 = .ok (.aload_n 0, 1) := by decide +kernel
theorem dX12_letterTold_78 : decode cX12_letterTold 78 = .ok (.iconst 0, 1) := by decide +kernel
theorem dX12_letterTold_79 : decode cX12_letterTold 79 = .ok (.lload_n 2, 1) := by decide +kernel
theorem dX12_letterTold_80 : decode cX12_letterTold 80 = .ok (.invokevirtual 345, 3) := by decide +kernel
theorem dX12_letterTold_83 : decode cX12_letterTold 83 = .ok (.imul, 1) := by decide +kernel
theorem dX12_letterTold_84 : decode cX12_letterTold 84 = .ok (.istore 7, 2) := by decide +kernel
theorem dX12_letterTold_86 : decode cX12_letterTold 86 = .ok (.aload_n 0, 1) := by decide +kernel
theorem dX12_letterTold_87 : decode cX12_letterTold 87 = .ok (.getfield 112, 3) := by decide +kernel
theorem dX12_letterTold_90 : decode cX12_letterTold 90 = .ok (.iload 7, 2) := by decide +kernel
theorem dX12_letterTold_92 : decode cX12_letterTold 92 = .ok (.iload 4, 2) := by decide +kernel
theorem dX12_letterTold_94 : decode cX12_letterTold 94 = .ok (.iastore, 1) := by decide +kernel
theorem dX12_letterTold_95 : decode cX12_letterTold 95 = .ok (.aload_n 0, 1) := by decide +kernel
theorem dX12_letterTold_96 : decode cX12_letterTold 96 = .ok (.getfield 112, 3) := by decide +kernel
theorem dX12_letterTold_99 : decode cX12_letterTold 99 = .ok (.iload 7, 2) := by decide +kernel
theorem dX12_letterTold_101 : decode cX12_letterTold 101 = .ok (.iconst 1, 1) := by decide +kernel
theorem dX12_letterTold_102 : decode cX12_letterTold 102 = .ok (.iadd, 1) := by decide +kernel
theorem dX12_letterTold_103 : decode cX12_letterTold 103 = .ok (.iload 5, 2) := by decide +kernel
theorem dX12_letterTold_105 : decode cX12_letterTold 105 = .ok (.iastore, 1) := by decide +kernel
theorem dX12_letterTold_106 : decode cX12_letterTold 106 = .ok (.aload_n 0, 1) := by decide +kernel
theorem dX12_letterTold_107 : decode cX12_letterTold 107 = .ok (.getfield 112, 3) := by decide +kernel
theorem dX12_letterTold_110 : decode cX12_letterTold 110 = .ok (.iload 7, 2) := by decide +kernel
theorem dX12_letterTold_112 : decode cX12_letterTold 112 = .ok (.iconst 2, 1) := by decide +kernel
theorem dX12_letterTold_113 : decode cX12_letterTold 113 = .ok (.iadd, 1) := by decide +kernel
theorem dX12_letterTold_114 : decode cX12_letterTold 114 = .ok (.iload 6, 2) := by decide +kernel
theorem dX12_letterTold_116 : decode cX12_letterTold 116 = .ok (.iastore, 1) := by decide +kernel
theorem dX12_letterTold_117 : decode cX12_letterTold 117 = .ok (.return_, 1) := by decide +kernel
theorem dX12_evenings_0 : decode cX12_evenings 0 = .ok (.aload_n 0, 1) := by decide +kernel
theorem dX12_evenings_1 : decode cX12_evenings 1 = .ok (.iload_n 1, 1) := by decide +kernel
theorem dX12_evenings_2 : decode cX12_evenings 2 = .ok (.iconst 1, 1) := by decide +kernel
theorem dX12_evenings_3 : decode cX12_evenings 3 = .ok (.bipush 50, 2) := by decide +kernel
theorem dX12_evenings_5 : decode cX12_evenings 5 = .ok (.invokevirtual 524, 3) := by decide +kernel
theorem dX12_evenings_8 : decode cX12_evenings 8 = .ok (.ifCond .ne 9, 3) := by decide +kernel
theorem dX12_evenings_11 : decode cX12_evenings 11 = .ok (.aload_n 0, 1) := by decide +kernel
theorem dX12_evenings_12 : decode cX12_evenings 12 = .ok (.iconst 3, 1) := by decide +kernel
theorem dX12_evenings_13 : decode cX12_evenings 13 = .ok (.invokevirtual 560, 3) := by decide +kernel
theorem dX12_evenings_16 : decode cX12_evenings 16 = .ok (.ireturn, 1) := by decide +kernel
theorem dX12_evenings_17 : decode cX12_evenings 17 = .ok (.aload_n 0, 1) := by decide +kernel
theorem dX12_evenings_18 : decode cX12_evenings 18 = .ok (.invokevirtual 575, 3) := by decide +kernel
theorem dX12_evenings_21 : decode cX12_evenings 21 = .ok (.iconst 0, 1) := by decide +kernel
theorem dX12_evenings_22 : decode cX12_evenings 22 = .ok (.istore_n 2, 1) := by decide +kernel
theorem dX12_evenings_23 : decode cX12_evenings 23 = .ok (.iconst 0, 1) := by decide +kernel
theorem dX12_evenings_24 : decode cX12_evenings 24 = .ok (.istore_n 3, 1) := by decide +kernel
theorem dX12_evenings_25 : decode cX12_evenings 25 = .ok (.iload_n 3, 1) := by decide +kernel
theorem dX12_evenings_26 : decode cX12_evenings 26 = .ok (.iload_n 1, 1) := by decide +kernel
theorem dX12_evenings_27 : decode cX12_evenings 27 = .ok (.if_icmp .ge 16, 3) := by decide +kernel
theorem dX12_evenings_30 : decode cX12_evenings 30 = .ok (.iload_n 2, 1) := by decide +kernel
theorem dX12_evenings_31 : decode cX12_evenings 31 = .ok (.aload_n 0, 1) := by decide +kernel
theorem dX12_evenings_32 : decode cX12_evenings 32 = .ok (.invokevirtual 530, 3) := by decide +kernel
theorem dX12_evenings_35 : decode cX12_evenings 35 = .ok (.iadd, 1) := by decide +kernel
theorem dX12_evenings_36 : decode cX12_evenings 36 = .ok (.istore_n 2, 1) := by decide +kernel
theorem dX12_evenings_37 : decode cX12_evenings 37 = .ok (.iinc 3 1, 3) := by decide +kernel
theorem dX12_evenings_40 : decode cX12_evenings 40 = .ok (.goto (-15), 3) := by decide +kernel
theorem dX12_evenings_43 : decode cX12_evenings 43 = .ok (.iload_n 2, 1) := by decide +kernel
theorem dX12_evenings_44 : decode cX12_evenings 44 = .ok (.ireturn, 1) := by decide +kernel
theorem dX12_doneOf_0 : decode cX12_doneOf 0 = .ok (.aload_n 0, 1) := by decide +kernel
theorem dX12_doneOf_1 : decode cX12_doneOf 1 = .ok (.getfield 142, 3) := by decide +kernel
theorem dX12_doneOf_4 : decode cX12_doneOf 4 = .ok (.bipush 8, 2) := by decide +kernel
theorem dX12_doneOf_6 : decode cX12_doneOf 6 = .ok (.iconst 3, 1) := by decide +kernel
theorem dX12_doneOf_7 : decode cX12_doneOf 7 = .ok (.iload_n 1, 1) := by decide +kernel
theorem dX12_doneOf_8 : decode cX12_doneOf 8 = .ok (.imul, 1) := by decide +kernel
theorem dX12_doneOf_9 : decode cX12_doneOf 9 = .ok (.iadd, 1) := by decide +kernel
theorem dX12_doneOf_10 : decode cX12_doneOf 10 = .ok (.iaload, 1) := by decide +kernel
theorem dX12_doneOf_11 : decode cX12_doneOf 11 = .ok (.ireturn, 1) := by decide +kernel
theorem dX12_qHasSquare_0 : decode cX12_qHasSquare 0 = .ok (.iconst 0, 1) := by decide +kernel
theorem dX12_qHasSquare_1 : decode cX12_qHasSquare 1 = .ok (.istore_n 1, 1) := by decide +kernel
theorem dX12_qHasSquare_2 : decode cX12_qHasSquare 2 = .ok (.iload_n 1, 1) := by decide +kernel
theorem dX12_qHasSquare_3 : decode cX12_qHasSquare 3 = .ok (.aload_n 0, 1) := by decide +kernel
theorem dX12_qHasSquare_4 : decode cX12_qHasSquare 4 = .ok (.getfield 355, 3) := by decide +kernel
theorem dX12_qHasSquare_7 : decode cX12_qHasSquare 7 = .ok (.if_icmp .ge 22, 3) := by decide +kernel
theorem dX12_qHasSquare_10 : decode cX12_qHasSquare 10 = .ok (.aload_n 0, 1) := by decide +kernel
theorem dX12_qHasSquare_11 : decode cX12_qHasSquare 11 = .ok (.getfield 251, 3) := by decide +kernel
theorem dX12_qHasSquare_14 : decode cX12_qHasSquare 14 = .ok (.iload_n 1, 1) := by decide +kernel
theorem dX12_qHasSquare_15 : decode cX12_qHasSquare 15 = .ok (.iaload, 1) := by decide +kernel
theorem dX12_qHasSquare_16 : decode cX12_qHasSquare 16 = .ok (.bipush 25, 2) := by decide +kernel
theorem dX12_qHasSquare_18 : decode cX12_qHasSquare 18 = .ok (.if_icmp .ne 5, 3) := by decide +kernel
theorem dX12_qHasSquare_21 : decode cX12_qHasSquare 21 = .ok (.iconst 1, 1) := by decide +kernel
theorem dX12_qHasSquare_22 : decode cX12_qHasSquare 22 = .ok (.ireturn, 1) := by decide +kernel
theorem dX12_qHasSquare_23 : decode cX12_qHasSquare 23 = .ok (.iinc 1 1, 3) := by decide +kernel
theorem dX12_qHasSquare_26 : decode cX12_qHasSquare 26 = .ok (.goto (-24), 3) := by decide +kernel
theorem dX12_qHasSquare_29 : decode cX12_qHasSquare 29 = .ok (.iconst 0, 1) := by decide +kernel
theorem dX12_qHasSquare_30 : decode cX12_qHasSquare 30 = .ok (.ireturn, 1) := by decide +kernel
theorem dX12_laysWarmest_0 : decode cX12_laysWarmest 0 = .ok (.aload_n 0, 1) := by decide +kernel
theorem dX12_laysWarmest_1 : decode cX12_laysWarmest 1 = .ok (.invokevirtual 467, 3) := by decide +kernel
theorem dX12_laysWarmest_4 : decode cX12_laysWarmest 4 = .ok (.iconst 0, 1) := by decide +kernel
theorem dX12_laysWarmest_5 : decode cX12_laysWarmest 5 = .ok (.istore_n 1, 1) := by decide +kernel
theorem dX12_laysWarmest_6 : decode cX12_laysWarmest 6 = .ok (.iload_n 1, 1) := by decide +kernel
theorem dX12_laysWarmest_7 : decode cX12_laysWarmest 7 = .ok (.bipush 8, 2) := by decide +kernel
theorem dX12_laysWarmest_9 : decode cX12_laysWarmest 9 = .ok (.if_icmp .ge 23, 3) := by decide +kernel
theorem dX12_laysWarmest_12 : decode cX12_laysWarmest 12 = .ok (.aload_n 0, 1) := by decide +kernel
theorem dX12_laysWarmest_13 : decode cX12_laysWarmest 13 = .ok (.getfield 148, 3) := by decide +kernel
theorem dX12_laysWarmest_16 : decode cX12_laysWarmest 16 = .ok (.iload_n 1, 1) := by decide +kernel
theorem dX12_laysWarmest_17 : decode cX12_laysWarmest 17 = .ok (.iconst 0, 1) := by decide +kernel
theorem dX12_laysWarmest_18 : decode cX12_laysWarmest 18 = .ok (.iastore, 1) := by decide +kernel
theorem dX12_laysWarmest_19 : decode cX12_laysWarmest 19 = .ok (.aload_n 0, 1) := by decide +kernel
theorem dX12_laysWarmest_20 : decode cX12_laysWarmest 20 = .ok (.getfield 154, 3) := by decide +kernel
theorem dX12_laysWarmest_23 : decode cX12_laysWarmest 23 = .ok (.iload_n 1, 1) := by decide +kernel
theorem dX12_laysWarmest_24 : decode cX12_laysWarmest 24 = .ok (.iconst 0, 1) := by decide +kernel
theorem dX12_laysWarmest_25 : decode cX12_laysWarmest 25 = .ok (.iastore, 1) := by decide +kernel
theorem dX12_laysWarmest_26 : decode cX12_laysWarmest 26 = .ok (.iinc 1 1, 3) := by decide +kernel
theorem dX12_laysWarmest_29 : decode cX12_laysWarmest 29 = .ok (.goto (-23), 3) := by decide +kernel
theorem dX12_laysWarmest_32 : decode cX12_laysWarmest 32 = .ok (.iconst 0, 1) := by decide +kernel
theorem dX12_laysWarmest_33 : decode cX12_laysWarmest 33 = .ok (.istore_n 1, 1) := by decide +kernel
theorem dX12_laysWarmest_34 : decode cX12_laysWarmest 34 = .ok (.iload_n 1, 1) := by decide +kernel
theorem dX12_laysWarmest_35 : decode cX12_laysWarmest 35 = .ok (.aload_n 0, 1) := by decide +kernel
theorem dX12_laysWarmest_36 : decode cX12_laysWarmest 36 = .ok (.invokevirtual 419, 3) := by decide +kernel
theorem dX12_laysWarmest_39 : decode cX12_laysWarmest 39 = .ok (.if_icmp .ge 31, 3) := by decide +kernel
theorem dX12_laysWarmest_42 : decode cX12_laysWarmest 42 = .ok (.aload_n 0, 1) := by decide +kernel
theorem dX12_laysWarmest_43 : decode cX12_laysWarmest 43 = .ok (.getfield 151, 3) := by decide +kernel
theorem dX12_laysWarmest_46 : decode cX12_laysWarmest 46 = .ok (.iload_n 1, 1) := by decide +kernel
theorem dX12_laysWarmest_47 : decode cX12_laysWarmest 47 = .ok (.aload_n 0, 1) := by decide +kernel
theorem dX12_laysWarmest_48 : decode cX12_laysWarmest 48 = .ok (.iload_n 1, 1) := by decide +kernel
theorem dX12_laysWarmest_49 : decode cX12_laysWarmest 49 = .ok (.invokevirtual 451, 3) := by decide +kernel
theorem dX12_laysWarmest_52 : decode cX12_laysWarmest 52 = .ok (.ifCond .ne 10, 3) := by decide +kernel
theorem dX12_laysWarmest_55 : decode cX12_laysWarmest 55 = .ok (.aload_n 0, 1) := by decide +kernel
theorem dX12_laysWarmest_56 : decode cX12_laysWarmest 56 = .ok (.invokevirtual 422, 3) := by decide +kernel
theorem dX12_laysWarmest_59 : decode cX12_laysWarmest 59 = .ok (.goto 4, 3) := by decide +kernel
theorem dX12_laysWarmest_62 : decode cX12_laysWarmest 62 = .ok (.iconst 0, 1) := by decide +kernel
theorem dX12_laysWarmest_63 : decode cX12_laysWarmest 63 = .ok (.iastore, 1) := by decide +kernel
theorem dX12_laysWarmest_64 : decode cX12_laysWarmest 64 = .ok (.iinc 1 1, 3) := by decide +kernel
theorem dX12_laysWarmest_67 : decode cX12_laysWarmest 67 = .ok (.goto (-33), 3) := by decide +kernel
theorem dX12_laysWarmest_70 : decode cX12_laysWarmest 70 = .ok (.iconst 0, 1) := by decide +kernel
theorem dX12_laysWarmest_71 : decode cX12_laysWarmest 71 = .ok (.istore_n 1, 1) := by decide +kernel
theorem dX12_laysWarmest_72 : decode cX12_laysWarmest 72 = .ok (.aload_n 0, 1) := by decide +kernel
theorem dX12_laysWarmest_73 : decode cX12_laysWarmest 73 = .ok (.lconst 0, 1) := by decide +kernel
theorem dX12_laysWarmest_74 : decode cX12_laysWarmest 74 = .ok (.putfield 470, 3) := by decide +kernel
theorem dX12_laysWarmest_77 : decode cX12_laysWarmest 77 = .ok (.aload_n 0, 1) := by decide +kernel
theorem dX12_laysWarmest_78 : decode cX12_laysWarmest 78 = .ok (.invokevirtual 473, 3) := by decide +kernel
theorem dX12_laysWarmest_81 : decode cX12_laysWarmest 81 = .ok (.ifCond .eq 85, 3) := by decide +kernel
theorem dX12_laysWarmest_84 : decode cX12_laysWarmest 84 = .ok (.aload_n 0, 1) := by decide +kernel
theorem dX12_laysWarmest_85 : decode cX12_laysWarmest 85 = .ok (.invokevirtual 476, 3) := by decide +kernel
theorem dX12_laysWarmest_88 : decode cX12_laysWarmest 88 = .ok (.istore_n 2, 1) := by decide +kernel
theorem dX12_laysWarmest_89 : decode cX12_laysWarmest 89 = .ok (.iload_n 2, 1) := by decide +kernel
theorem dX12_laysWarmest_90 : decode cX12_laysWarmest 90 = .ok (.iload_n 1, 1) := by decide +kernel
theorem dX12_laysWarmest_91 : decode cX12_laysWarmest 91 = .ok (.if_icmp .lt (-14), 3) := by decide +kernel
theorem dX12_laysWarmest_94 : decode cX12_laysWarmest 94 = .ok (.aload_n 0, 1) := by decide +kernel
theorem dX12_laysWarmest_95 : decode cX12_laysWarmest 95 = .ok (.invokevirtual 479, 3) := by decide +kernel
theorem dX12_laysWarmest_98 : decode cX12_laysWarmest 98 = .ok (.ifCond .ne 6, 3) := by decide +kernel
theorem dX12_laysWarmest_101 : decode cX12_laysWarmest 101 = .ok (.goto (-24), 3) := by decide +kernel
theorem dX12_laysWarmest_104 : decode cX12_laysWarmest 104 = .ok (.aload_n 0, 1) := by decide +kernel
theorem dX12_laysWarmest_105 : decode cX12_laysWarmest 105 = .ok (.invokevirtual 482, 3) := by decide +kernel
theorem dX12_laysWarmest_108 : decode cX12_laysWarmest 108 = .ok (.lstore_n 3, 1) := by decide +kernel
theorem dX12_laysWarmest_109 : decode cX12_laysWarmest 109 = .ok (.iload_n 2, 1) := by decide +kernel
theorem dX12_laysWarmest_110 : decode cX12_laysWarmest 110 = .ok (.iload_n 1, 1) := by decide +kernel
theorem dX12_laysWarmest_111 : decode cX12_laysWarmest 111 = .ok (.if_icmp .ne 15, 3) := by decide +kernel
theorem dX12_laysWarmest_114 : decode cX12_laysWarmest 114 = .ok (.lload_n 3, 1) := by decide +kernel
theorem dX12_laysWarmest_115 : decode cX12_laysWarmest 115 = .ok (.aload_n 0, 1) := by decide +kernel
theorem dX12_laysWarmest_116 : decode cX12_laysWarmest 116 = .ok (.getfield 470, 3) := by decide +kernel
theorem dX12_laysWarmest_119 : decode cX12_laysWarmest 119 = .ok (.lcmp, 1) := by decide +kernel
theorem dX12_laysWarmest_120 : decode cX12_laysWarmest 120 = .ok (.ifCond .gt 6, 3) := by decide +kernel
theorem dX12_laysWarmest_123 : decode cX12_laysWarmest 123 = .ok (.goto (-46), 3) := by decide +kernel
theorem dX12_laysWarmest_126 : decode cX12_laysWarmest 126 = .ok (.iload_n 2, 1) := by decide +kernel
theorem dX12_laysWarmest_127 : decode cX12_laysWarmest 127 = .ok (.istore_n 1, 1) := by decide +kernel
theorem dX12_laysWarmest_128 : decode cX12_laysWarmest 128 = .ok (.aload_n 0, 1) := by decide +kernel
theorem dX12_laysWarmest_129 : decode cX12_laysWarmest 129 = .ok (.lload_n 3, 1) := by decide +kernel
theorem dX12_laysWarmest_130 : decode cX12_laysWarmest 130 = .ok (.putfield 470, 3) := by decide +kernel
theorem dX12_laysWarmest_133 : decode cX12_laysWarmest 133 = .ok (.iconst 0, 1) := by decide +kernel
theorem dX12_laysWarmest_134 : decode cX12_laysWarmest 134 = .ok (.istore 5, 2) := by decide +kernel
theorem dX12_laysWarmest_136 : decode cX12_laysWarmest 136 = .ok (.iload 5, 2) := by decide +kernel
theorem dX12_laysWarmest_138 : decode cX12_laysWarmest 138 = .ok (.bipush 8, 2) := by decide +kernel
theorem dX12_laysWarmest_140 : decode cX12_laysWarmest 140 = .ok (.if_icmp .ge 23, 3) := by decide +kernel
theorem dX12_laysWarmest_143 : decode cX12_laysWarmest 143 = .ok (.aload_n 0, 1) := by decide +kernel
theorem dX12_laysWarmest_144 : decode cX12_laysWarmest 144 = .ok (.getfield 154, 3) := by decide +kernel
theorem dX12_laysWarmest_147 : decode cX12_laysWarmest 147 = .ok (.iload 5, 2) := by decide +kernel
theorem dX12_laysWarmest_149 : decode cX12_laysWarmest 149 = .ok (.aload_n 0, 1) := by decide +kernel
theorem dX12_laysWarmest_150 : decode cX12_laysWarmest 150 = .ok (.getfield 148, 3) := by decide +kernel
theorem dX12_laysWarmest_153 : decode cX12_laysWarmest 153 = .ok (.iload 5, 2) := by decide +kernel
theorem dX12_laysWarmest_155 : decode cX12_laysWarmest 155 = .ok (.iaload, 1) := by decide +kernel
theorem dX12_laysWarmest_156 : decode cX12_laysWarmest 156 = .ok (.iastore, 1) := by decide +kernel
theorem dX12_laysWarmest_157 : decode cX12_laysWarmest 157 = .ok (.iinc 5 1, 3) := by decide +kernel
theorem dX12_laysWarmest_160 : decode cX12_laysWarmest 160 = .ok (.goto (-24), 3) := by decide +kernel
theorem dX12_laysWarmest_163 : decode cX12_laysWarmest 163 = .ok (.goto (-86), 3) := by decide +kernel
theorem dX12_laysWarmest_166 : decode cX12_laysWarmest 166 = .ok (.iload_n 1, 1) := by decide +kernel
theorem dX12_laysWarmest_167 : decode cX12_laysWarmest 167 = .ok (.ireturn, 1) := by decide +kernel
theorem dX12_qAsksWord_0 : decode cX12_qAsksWord 0 = .ok (.iload_n 1, 1) := by decide +kernel
theorem dX12_qAsksWord_1 : decode cX12_qAsksWord 1 = .ok (.tableswitch 165 0 9 #[55, 66, 77, 88, 99, 110, 121, 132, 143, 154], 55) := by decide +kernel
theorem dX12_qAsksWord_56 : decode cX12_qAsksWord 56 = .ok (.aload_n 0, 1) := by decide +kernel
theorem dX12_qAsksWord_57 : decode cX12_qAsksWord 57 = .ok (.aload_n 0, 1) := by decide +kernel
theorem dX12_qAsksWord_58 : decode cX12_qAsksWord 58 = .ok (.getfield 215, 3) := by decide +kernel
theorem dX12_qAsksWord_61 : decode cX12_qAsksWord 61 = .ok (.invokevirtual 337, 3) := by decide +kernel
theorem dX12_qAsksWord_64 : decode cX12_qAsksWord 64 = .ok (.goto 110, 3) := by decide +kernel
theorem dX12_qAsksWord_67 : decode cX12_qAsksWord 67 = .ok (.aload_n 0, 1) := by decide +kernel
theorem dX12_qAsksWord_68 : decode cX12_qAsksWord 68 = .ok (.aload_n 0, 1) := by decide +kernel
theorem dX12_qAsksWord_69 : decode cX12_qAsksWord 69 = .ok (.getfield 218, 3) := by decide +kernel
theorem dX12_qAsksWord_72 : decode cX12_qAsksWord 72 = .ok (.invokevirtual 337, 3) := by decide +kernel
theorem dX12_qAsksWord_75 : decode cX12_qAsksWord 75 = .ok (.goto 99, 3) := by decide +kernel
theorem dX12_qAsksWord_78 : decode cX12_qAsksWord 78 = .ok (.aload_n 0, 1) := by decide +kernel
theorem dX12_qAsksWord_79 : decode cX12_qAsksWord 79 = .ok (.aload_n 0, 1) := by decide +kernel
theorem dX12_qAsksWord_80 : decode cX12_qAsksWord 80 = .ok (.getfield 221, 3) := by decide +kernel
theorem dX12_qAsksWord_83 : decode cX12_qAsksWord 83 = .ok (.invokevirtual 337, 3) := by decide +kernel
theorem dX12_qAsksWord_86 : decode cX12_qAsksWord 86 = .ok (.goto 88, 3) := by decide +kernel
theorem dX12_qAsksWord_89 : decode cX12_qAsksWord 89 = .ok (.aload_n 0, 1) := by decide +kernel
theorem dX12_qAsksWord_90 : decode cX12_qAsksWord 90 = .ok (.aload_n 0, 1) := by decide +kernel
theorem dX12_qAsksWord_91 : decode cX12_qAsksWord 91 = .ok (.getfield 224, 3) := by decide +kernel
theorem dX12_qAsksWord_94 : decode cX12_qAsksWord 94 = .ok (.invokevirtual 337, 3) := by decide +kernel
theorem dX12_qAsksWord_97 : decode cX12_qAsksWord 97 = .ok (.goto 77, 3) := by decide +kernel
theorem dX12_qAsksWord_100 : decode cX12_qAsksWord 100 = .ok (.aload_n 0, 1) := by decide +kernel
theorem dX12_qAsksWord_101 : decode cX12_qAsksWord 101 = .ok (.aload_n 0, 1) := by decide +kernel
theorem dX12_qAsksWord_102 : decode cX12_qAsksWord 102 = .ok (.getfield 227, 3) := by decide +kernel
theorem dX12_qAsksWord_105 : decode cX12_qAsksWord 105 = .ok (.invokevirtual 337, 3) := by decide +kernel
theorem dX12_qAsksWord_108 : decode cX12_qAsksWord 108 = .ok (.goto 66, 3) := by decide +kernel
theorem dX12_qAsksWord_111 : decode cX12_qAsksWord 111 = .ok (.aload_n 0, 1) := by decide +kernel
theorem dX12_qAsksWord_112 : decode cX12_qAsksWord 112 = .ok (.aload_n 0, 1) := by decide +kernel
theorem dX12_qAsksWord_113 : decode cX12_qAsksWord 113 = .ok (.getfield 230, 3) := by decide +kernel
theorem dX12_qAsksWord_116 : decode cX12_qAsksWord 116 = .ok (.invokevirtual 337, 3) := by decide +kernel
theorem dX12_qAsksWord_119 : decode cX12_qAsksWord 119 = .ok (.goto 55, 3) := by decide +kernel
theorem dX12_qAsksWord_122 : decode cX12_qAsksWord 122 = .ok (.aload_n 0, 1) := by decide +kernel
theorem dX12_qAsksWord_123 : decode cX12_qAsksWord 123 = .ok (.aload_n 0, 1) := by decide +kernel
theorem dX12_qAsksWord_124 : decode cX12_qAsksWord 124 = .ok (.getfield 233, 3) := by decide +kernel
theorem dX12_qAsksWord_127 : decode cX12_qAsksWord 127 = .ok (.invokevirtual 337, 3) := by decide +kernel
theorem dX12_qAsksWord_130 : decode cX12_qAsksWord 130 = .ok (.goto 44, 3) := by decide +kernel
theorem dX12_qAsksWord_133 : decode cX12_qAsksWord 133 = .ok (.aload_n 0, 1) := by decide +kernel
theorem dX12_qAsksWord_134 : decode cX12_qAsksWord 134 = .ok (.aload_n 0, 1) := by decide +kernel
theorem dX12_qAsksWord_135 : decode cX12_qAsksWord 135 = .ok (.getfield 236, 3) := by decide +kernel
theorem dX12_qAsksWord_138 : decode cX12_qAsksWord 138 = .ok (.invokevirtual 337, 3) := by decide +kernel
theorem dX12_qAsksWord_141 : decode cX12_qAsksWord 141 = .ok (.goto 33, 3) := by decide +kernel
theorem dX12_qAsksWord_144 : decode cX12_qAsksWord 144 = .ok (.aload_n 0, 1) := by decide +kernel
theorem dX12_qAsksWord_145 : decode cX12_qAsksWord 145 = .ok (.aload_n 0, 1) := by decide +kernel
theorem dX12_qAsksWord_146 : decode cX12_qAsksWord 146 = .ok (.getfield 239, 3) := by decide +kernel
theorem dX12_qAsksWord_149 : decode cX12_qAsksWord 149 = .ok (.invokevirtual 337, 3) := by decide +kernel
theorem dX12_qAsksWord_152 : decode cX12_qAsksWord 152 = .ok (.goto 22, 3) := by decide +kernel
theorem dX12_qAsksWord_155 : decode cX12_qAsksWord 155 = .ok (.aload_n 0, 1) := by decide +kernel
theorem dX12_qAsksWord_156 : decode cX12_qAsksWord 156 = .ok (.aload_n 0, 1) := by decide +kernel
theorem dX12_qAsksWord_157 : decode cX12_qAsksWord 157 = .ok (.getfield 242, 3) := by decide +kernel
theorem dX12_qAsksWord_160 : decode cX12_qAsksWord 160 = .ok (.invokevirtual 337, 3) := by decide +kernel
theorem dX12_qAsksWord_163 : decode cX12_qAsksWord 163 = .ok (.goto 11, 3) := by decide +kernel
theorem dX12_qAsksWord_166 : decode cX12_qAsksWord 166 = .ok (.aload_n 0, 1) := by decide +kernel
theorem dX12_qAsksWord_167 : decode cX12_qAsksWord 167 = .ok (.aload_n 0, 1) := by decide +kernel
theorem dX12_qAsksWord_168 : decode cX12_qAsksWord 168 = .ok (.getfield 245, 3) := by decide +kernel
theorem dX12_qAsksWord_171 : decode cX12_qAsksWord 171 = .ok (.invokevirtual 337, 3) := by decide +kernel
theorem dX12_qAsksWord_174 : decode cX12_qAsksWord 174 = .ok (.return_, 1) := by decide +kernel
theorem dX12_gift_0 : decode cX12_gift 0 = .ok (.aload_n 0, 1) := by decide +kernel
theorem dX12_gift_1 : decode cX12_gift 1 = .ok (.iload_n 1, 1) := by decide +kernel
theorem dX12_gift_2 : decode cX12_gift 2 = .ok (.invokevirtual 513, 3) := by decide +kernel
theorem dX12_gift_5 : decode cX12_gift 5 = .ok (.ifCond .ne 5, 3) := by decide +kernel
theorem dX12_gift_8 : decode cX12_gift 8 = .ok (.iconst (-1), 1) := by decide +kernel
theorem dX12_gift_9 : decode cX12_gift 9 = .ok (.ireturn, 1) := by decide +kernel
theorem dX12_gift_10 : decode cX12_gift 10 = .ok (.iload_n 2, 1) := by decide +kernel
theorem dX12_gift_11 : decode cX12_gift 11 = .ok (.bipush 10, 2) := by decide +kernel
theorem dX12_gift_13 : decode cX12_gift 13 = .ok (.if_icmp .lt 24, 3) := by decide +kernel
theorem dX12_gift_16 : decode cX12_gift 16 = .ok (.aload_n 0, 1) := by decide +kernel
theorem dX12_gift_17 : decode cX12_gift 17 = .ok (.iload_n 2, 1) := by decide +kernel
theorem dX12_gift_18 : decode cX12_gift 18 = .ok (.bipush 10, 2) := by decide +kernel
theorem dX12_gift_20 : decode cX12_gift 20 = .ok (.isub, 1) := by decide +kernel
theorem dX12_gift_21 : decode cX12_gift 21 = .ok (.invokevirtual 501, 3) := by decide +kernel
theorem dX12_gift_24 : decode cX12_gift 24 = .ok (.ifCond .eq 13, 3) := by decide +kernel
theorem dX12_gift_27 : decode cX12_gift 27 = .ok (.aload_n 0, 1) := by decide +kernel
theorem dX12_gift_28 : decode cX12_gift 28 = .ok (.iload_n 2, 1) := by decide +kernel
theorem dX12_gift_29 : decode cX12_gift 29 = .ok (.bipush 10, 2) := by decide +kernel
theorem dX12_gift_31 : decode cX12_gift 31 = .ok (.isub, 1) := by decide +kernel
theorem dX12_gift_32 : decode cX12_gift 32 = .ok (.iload_n 1, 1) := by decide +kernel
theorem dX12_gift_33 : decode cX12_gift 33 = .ok (.invokevirtual 425, 3) := by decide +kernel
theorem dX12_gift_36 : decode cX12_gift 36 = .ok (.ireturn, 1) := by decide +kernel
theorem dX12_gift_37 : decode cX12_gift 37 = .ok (.iload_n 2, 1) := by decide +kernel
theorem dX12_gift_38 : decode cX12_gift 38 = .ok (.ifCond .ne 14, 3) := by decide +kernel
theorem dX12_gift_41 : decode cX12_gift 41 = .ok (.aload_n 0, 1) := by decide +kernel
theorem dX12_gift_42 : decode cX12_gift 42 = .ok (.getfield 142, 3) := by decide +kernel
theorem dX12_gift_45 : decode cX12_gift 45 = .ok (.iconst 4, 1) := by decide +kernel
theorem dX12_gift_46 : decode cX12_gift 46 = .ok (.iload_n 1, 1) := by decide +kernel
theorem dX12_gift_47 : decode cX12_gift 47 = .ok (.iadd, 1) := by decide +kernel
theorem dX12_gift_48 : decode cX12_gift 48 = .ok (.iaload, 1) := by decide +kernel
theorem dX12_gift_49 : decode cX12_gift 49 = .ok (.goto 4, 3) := by decide +kernel
theorem dX12_gift_52 : decode cX12_gift 52 = .ok (.iconst (-1), 1) := by decide +kernel
theorem dX12_gift_53 : decode cX12_gift 53 = .ok (.ireturn, 1) := by decide +kernel
theorem dX12_isFull_0 : decode cX12_isFull 0 = .ok (.aload_n 0, 1) := by decide +kernel
theorem dX12_isFull_1 : decode cX12_isFull 1 = .ok (.getfield 263, 3) := by decide +kernel
theorem dX12_isFull_4 : decode cX12_isFull 4 = .ok (.ifCond .ne 19, 3) := by decide +kernel
theorem dX12_isFull_7 : decode cX12_isFull 7 = .ok (.aload_n 0, 1) := by decide +kernel
theorem dX12_isFull_8 : decode cX12_isFull 8 = .ok (.getfield 105, 3) := by decide +kernel
theorem dX12_isFull_11 : decode cX12_isFull 11 = .ok (.iload_n 1, 1) := by decide +kernel
theorem dX12_isFull_12 : decode cX12_isFull 12 = .ok (.iaload, 1) := by decide +kernel
theorem dX12_isFull_13 : decode cX12_isFull 13 = .ok (.iload_n 2, 1) := by decide +kernel
theorem dX12_isFull_14 : decode cX12_isFull 14 = .ok (.if_icmp .ne 9, 3) := by decide +kernel
theorem dX12_isFull_17 : decode cX12_isFull 17 = .ok (.aload_n 0, 1) := by decide +kernel
theorem dX12_isFull_18 : decode cX12_isFull 18 = .ok (.iconst 5, 1) := by decide +kernel
theorem dX12_isFull_19 : decode cX12_isFull 19 = .ok (.iload_n 3, 1) := by decide +kernel
theorem dX12_isFull_20 : decode cX12_isFull 20 = .ok (.invokevirtual 293, 3) := by decide +kernel
theorem dX12_isFull_23 : decode cX12_isFull 23 = .ok (.aload_n 0, 1) := by decide +kernel
theorem dX12_isFull_24 : decode cX12_isFull 24 = .ok (.getfield 263, 3) := by decide +kernel
theorem dX12_isFull_27 : decode cX12_isFull 27 = .ok (.ifCond .eq 7, 3) := by decide +kernel
theorem dX12_isFull_30 : decode cX12_isFull 30 = .ok (.iconst 1, 1) := by decide +kernel
theorem dX12_isFull_31 : decode cX12_isFull 31 = .ok (.goto 4, 3) := by decide +kernel
theorem dX12_isFull_34 : decode cX12_isFull 34 = .ok (.iconst 0, 1) := by decide +kernel
theorem dX12_isFull_35 : decode cX12_isFull 35 = .ok (.ireturn, 1) := by decide +kernel
theorem dX12_lostBy_0 : decode cX12_lostBy 0 = .ok (.iconst 0, 1) := by decide +kernel
theorem dX12_lostBy_1 : decode cX12_lostBy 1 = .ok (.istore_n 2, 1) := by decide +kernel
theorem dX12_lostBy_2 : decode cX12_lostBy 2 = .ok (.iconst 0, 1) := by decide +kernel
theorem dX12_lostBy_3 : decode cX12_lostBy 3 = .ok (.istore_n 3, 1) := by decide +kernel
theorem dX12_lostBy_4 : decode cX12_lostBy 4 = .ok (.iload_n 3, 1) := by decide +kernel
theorem dX12_lostBy_5 : decode cX12_lostBy 5 = .ok (.aload_n 0, 1) := by decide +kernel
theorem dX12_lostBy_6 : decode cX12_lostBy 6 = .ok (.invokevirtual 419, 3) := by decide +kernel
theorem dX12_lostBy_9 : decode cX12_lostBy 9 = .ok (.if_icmp .ge 48, 3) := by decide +kernel
theorem dX12_lostBy_12 : decode cX12_lostBy 12 = .ok (.aload_n 0, 1) := by decide +kernel
theorem dX12_lostBy_13 : decode cX12_lostBy 13 = .ok (.getfield 112, 3) := by decide +kernel
theorem dX12_lostBy_16 : decode cX12_lostBy 16 = .ok (.bipush 26, 2) := by decide +kernel
theorem dX12_lostBy_18 : decode cX12_lostBy 18 = .ok (.iconst 3, 1) := by decide +kernel
theorem dX12_lostBy_19 : decode cX12_lostBy 19 = .ok (.iload_n 3, 1) := by decide +kernel
theorem dX12_lostBy_20 : decode cX12_lostBy 20 = .ok (.imul, 1) := by decide +kernel
theorem dX12_lostBy_21 : decode cX12_lostBy 21 = .ok (.iadd, 1) := by decide +kernel
theorem dX12_lostBy_22 : decode cX12_lostBy 22 = .ok (.iaload, 1) := by decide +kernel
theorem dX12_lostBy_23 : decode cX12_lostBy 23 = .ok (.istore 4, 2) := by decide +kernel
theorem dX12_lostBy_25 : decode cX12_lostBy 25 = .ok (.iload_n 2, 1) := by decide +kernel
theorem dX12_lostBy_26 : decode cX12_lostBy 26 = .ok (.iload 4, 2) := by decide +kernel
theorem dX12_lostBy_28 : decode cX12_lostBy 28 = .ok (.iload_n 1, 1) := by decide +kernel
theorem dX12_lostBy_29 : decode cX12_lostBy 29 = .ok (.if_icmp .lt 11, 3) := by decide +kernel
theorem dX12_lostBy_32 : decode cX12_lostBy 32 = .ok (.bipush 10, 2) := by decide +kernel
theorem dX12_lostBy_34 : decode cX12_lostBy 34 = .ok (.iload 4, 2) := by decide +kernel
theorem dX12_lostBy_36 : decode cX12_lostBy 36 = .ok (.isub, 1) := by decide +kernel
theorem dX12_lostBy_37 : decode cX12_lostBy 37 = .ok (.goto 12, 3) := by decide +kernel
theorem dX12_lostBy_40 : decode cX12_lostBy 40 = .ok (.aload_n 0, 1) := by decide +kernel
theorem dX12_lostBy_41 : decode cX12_lostBy 41 = .ok (.getfield 130, 3) := by decide +kernel
theorem dX12_lostBy_44 : decode cX12_lostBy 44 = .ok (.iconst 2, 1) := by decide +kernel
theorem dX12_lostBy_45 : decode cX12_lostBy 45 = .ok (.iaload, 1) := by decide +kernel
theorem dX12_lostBy_46 : decode cX12_lostBy 46 = .ok (.iload 4, 2) := by decide +kernel
theorem dX12_lostBy_48 : decode cX12_lostBy 48 = .ok (.imul, 1) := by decide +kernel
theorem dX12_lostBy_49 : decode cX12_lostBy 49 = .ok (.iadd, 1) := by decide +kernel
theorem dX12_lostBy_50 : decode cX12_lostBy 50 = .ok (.istore_n 2, 1) := by decide +kernel
theorem dX12_lostBy_51 : decode cX12_lostBy 51 = .ok (.iinc 3 1, 3) := by decide +kernel
theorem dX12_lostBy_54 : decode cX12_lostBy 54 = .ok (.goto (-50), 3) := by decide +kernel
theorem dX12_lostBy_57 : decode cX12_lostBy 57 = .ok (.iload_n 2, 1) := by decide +kernel
theorem dX12_lostBy_58 : decode cX12_lostBy 58 = .ok (.ireturn, 1) := by decide +kernel
theorem dX12_can_0 : decode cX12_can 0 = .ok (.aload_n 0, 1) := by decide +kernel
theorem dX12_can_1 : decode cX12_can 1 = .ok (.iload_n 1, 1) := by decide +kernel
theorem dX12_can_2 : decode cX12_can 2 = .ok (.invokevirtual 501, 3) := by decide +kernel
theorem dX12_can_5 : decode cX12_can 5 = .ok (.ifCond .eq 28, 3) := by decide +kernel
theorem dX12_can_8 : decode cX12_can 8 = .ok (.aload_n 0, 1) := by decide +kernel
theorem dX12_can_9 : decode cX12_can 9 = .ok (.iload_n 2, 1) := by decide +kernel
theorem dX12_can_10 : decode cX12_can 10 = .ok (.invokevirtual 516, 3) := by decide +kernel
theorem dX12_can_13 : decode cX12_can 13 = .ok (.ifCond .eq 20, 3) := by decide +kernel
theorem dX12_can_16 : decode cX12_can 16 = .ok (.aload_n 0, 1) := by decide +kernel
theorem dX12_can_17 : decode cX12_can 17 = .ok (.iload_n 1, 1) := by decide +kernel
theorem dX12_can_18 : decode cX12_can 18 = .ok (.iload_n 2, 1) := by decide +kernel
theorem dX12_can_19 : decode cX12_can 19 = .ok (.invokevirtual 521, 3) := by decide +kernel
theorem dX12_can_22 : decode cX12_can 22 = .ok (.ifCond .eq 7, 3) := by decide +kernel
theorem dX12_can_25 : decode cX12_can 25 = .ok (.iconst 1, 1) := by decide +kernel
theorem dX12_can_26 : decode cX12_can 26 = .ok (.goto 8, 3) := by decide +kernel
theorem dX12_can_29 : decode cX12_can 29 = .ok (.iconst 0, 1) := by decide +kernel
theorem dX12_can_30 : decode cX12_can 30 = .ok (.goto 4, 3) := by decide +kernel
theorem dX12_can_33 : decode cX12_can 33 = .ok (.iconst (-1), 1) := by decide +kernel
theorem dX12_can_34 : decode cX12_can 34 = .ok (.ireturn, 1) := by decide +kernel
