theorem dJ9_floorDiv_7cf53_0 : decode cJ9_floorDiv_7cf53 0 = .ok (.iload_n 0, 1) := by decide +kernel
theorem dJ9_floorDiv_7cf53_1 : decode cJ9_floorDiv_7cf53 1 = .ok (.iload_n 1, 1) := by decide +kernel
theorem dJ9_floorDiv_7cf53_2 : decode cJ9_floorDiv_7cf53 2 = .ok (.idiv, 1) := by decide +kernel
theorem dJ9_floorDiv_7cf53_3 : decode cJ9_floorDiv_7cf53 3 = .ok (.istore_n 2, 1) := by decide +kernel
theorem dJ9_floorDiv_7cf53_4 : decode cJ9_floorDiv_7cf53 4 = .ok (.iload_n 0, 1) := by decide +kernel
theorem dJ9_floorDiv_7cf53_5 : decode cJ9_floorDiv_7cf53 5 = .ok (.iload_n 1, 1) := by decide +kernel
theorem dJ9_floorDiv_7cf53_6 : decode cJ9_floorDiv_7cf53 6 = .ok (.ixor, 1) := by decide +kernel
theorem dJ9_floorDiv_7cf53_7 : decode cJ9_floorDiv_7cf53 7 = .ok (.ifCond .ge 14, 3) := by decide +kernel
theorem dJ9_floorDiv_7cf53_10 : decode cJ9_floorDiv_7cf53 10 = .ok (.iload_n 2, 1) := by decide +kernel
theorem dJ9_floorDiv_7cf53_11 : decode cJ9_floorDiv_7cf53 11 = .ok (.iload_n 1, 1) := by decide +kernel
theorem dJ9_floorDiv_7cf53_12 : decode cJ9_floorDiv_7cf53 12 = .ok (.imul, 1) := by decide +kernel
theorem dJ9_floorDiv_7cf53_13 : decode cJ9_floorDiv_7cf53 13 = .ok (.iload_n 0, 1) := by decide +kernel
theorem dJ9_floorDiv_7cf53_14 : decode cJ9_floorDiv_7cf53 14 = .ok (.if_icmp .eq 7, 3) := by decide +kernel
theorem dJ9_floorDiv_7cf53_17 : decode cJ9_floorDiv_7cf53 17 = .ok (.iload_n 2, 1) := by decide +kernel
theorem dJ9_floorDiv_7cf53_18 : decode cJ9_floorDiv_7cf53 18 = .ok (.iconst 1, 1) := by decide +kernel
theorem dJ9_floorDiv_7cf53_19 : decode cJ9_floorDiv_7cf53 19 = .ok (.isub, 1) := by decide +kernel
theorem dJ9_floorDiv_7cf53_20 : decode cJ9_floorDiv_7cf53 20 = .ok (.ireturn, 1) := by decide +kernel
theorem dJ9_floorDiv_7cf53_21 : decode cJ9_floorDiv_7cf53 21 = .ok (.iload_n 2, 1) := by decide +kernel
theorem dJ9_floorDiv_7cf53_22 : decode cJ9_floorDiv_7cf53 22 = .ok (.ireturn, 1) := by decide +kernel
theorem dJ9_max_7cf53_0 : decode cJ9_max_7cf53 0 = .ok (.iload_n 0, 1) := by decide +kernel
theorem dJ9_max_7cf53_1 : decode cJ9_max_7cf53 1 = .ok (.iload_n 1, 1) := by decide +kernel
theorem dJ9_max_7cf53_2 : decode cJ9_max_7cf53 2 = .ok (.if_icmp .lt 7, 3) := by decide +kernel
theorem dJ9_max_7cf53_5 : decode cJ9_max_7cf53 5 = .ok (.iload_n 0, 1) := by decide +kernel
theorem dJ9_max_7cf53_6 : decode cJ9_max_7cf53 6 = .ok (.goto 4, 3) := by decide +kernel
theorem dJ9_max_7cf53_9 : decode cJ9_max_7cf53 9 = .ok (.iload_n 1, 1) := by decide +kernel
theorem dJ9_max_7cf53_10 : decode cJ9_max_7cf53 10 = .ok (.ireturn, 1) := by decide +kernel
theorem dJ9_max_f86c9_0 : decode cJ9_max_f86c9 0 = .ok (.lload_n 0, 1) := by decide +kernel
theorem dJ9_max_f86c9_1 : decode cJ9_max_f86c9 1 = .ok (.lload_n 2, 1) := by decide +kernel
theorem dJ9_max_f86c9_2 : decode cJ9_max_f86c9 2 = .ok (.lcmp, 1) := by decide +kernel
theorem dJ9_max_f86c9_3 : decode cJ9_max_f86c9 3 = .ok (.ifCond .lt 7, 3) := by decide +kernel
theorem dJ9_max_f86c9_6 : decode cJ9_max_f86c9 6 = .ok (.lload_n 0, 1) := by decide +kernel
theorem dJ9_max_f86c9_7 : decode cJ9_max_f86c9 7 = .ok (.goto 4, 3) := by decide +kernel
theorem dJ9_max_f86c9_10 : decode cJ9_max_f86c9 10 = .ok (.lload_n 2, 1) := by decide +kernel
theorem dJ9_max_f86c9_11 : decode cJ9_max_f86c9 11 = .ok (.lreturn, 1) := by decide +kernel
theorem dJ9_min_7cf53_0 : decode cJ9_min_7cf53 0 = .ok (.iload_n 0, 1) := by decide +kernel
theorem dJ9_min_7cf53_1 : decode cJ9_min_7cf53 1 = .ok (.iload_n 1, 1) := by decide +kernel
theorem dJ9_min_7cf53_2 : decode cJ9_min_7cf53 2 = .ok (.if_icmp .gt 7, 3) := by decide +kernel
theorem dJ9_min_7cf53_5 : decode cJ9_min_7cf53 5 = .ok (.iload_n 0, 1) := by decide +kernel
theorem dJ9_min_7cf53_6 : decode cJ9_min_7cf53 6 = .ok (.goto 4, 3) := by decide +kernel
theorem dJ9_min_7cf53_9 : decode cJ9_min_7cf53 9 = .ok (.iload_n 1, 1) := by decide +kernel
theorem dJ9_min_7cf53_10 : decode cJ9_min_7cf53 10 = .ok (.ireturn, 1) := by decide +kernel
theorem dJ9_min_f86c9_0 : decode cJ9_min_f86c9 0 = .ok (.lload_n 0, 1) := by decide +kernel
theorem dJ9_min_f86c9_1 : decode cJ9_min_f86c9 1 = .ok (.lload_n 2, 1) := by decide +kernel
theorem dJ9_min_f86c9_2 : decode cJ9_min_f86c9 2 = .ok (.lcmp, 1) := by decide +kernel
theorem dJ9_min_f86c9_3 : decode cJ9_min_f86c9 3 = .ok (.ifCond .gt 7, 3) := by decide +kernel
theorem dJ9_min_f86c9_6 : decode cJ9_min_f86c9 6 = .ok (.lload_n 0, 1) := by decide +kernel
theorem dJ9_min_f86c9_7 : decode cJ9_min_f86c9 7 = .ok (.goto 4, 3) := by decide +kernel
theorem dJ9_min_f86c9_10 : decode cJ9_min_f86c9 10 = .ok (.lload_n 2, 1) := by decide +kernel
theorem dJ9_min_f86c9_11 : decode cJ9_min_f86c9 11 = .ok (.lreturn, 1) := by decide +kernel
theorem dJ7_fill_53178_0 : decode cJ7_fill_53178 0 = .ok (.iconst 0, 1) := by decide +kernel
theorem dJ7_fill_53178_1 : decode cJ7_fill_53178 1 = .ok (.istore_n 2, 1) := by decide +kernel
theorem dJ7_fill_53178_2 : decode cJ7_fill_53178 2 = .ok (.aload_n 0, 1) := by decide +kernel
theorem dJ7_fill_53178_3 : decode cJ7_fill_53178 3 = .ok (.arraylength, 1) := by decide +kernel
theorem dJ7_fill_53178_4 : decode cJ7_fill_53178 4 = .ok (.istore_n 3, 1) := by decide +kernel
theorem dJ7_fill_53178_5 : decode cJ7_fill_53178 5 = .ok (.iload_n 2, 1) := by decide +kernel
theorem dJ7_fill_53178_6 : decode cJ7_fill_53178 6 = .ok (.iload_n 3, 1) := by decide +kernel
theorem dJ7_fill_53178_7 : decode cJ7_fill_53178 7 = .ok (.if_icmp .ge 13, 3) := by decide +kernel
theorem dJ7_fill_53178_10 : decode cJ7_fill_53178 10 = .ok (.aload_n 0, 1) := by decide +kernel
theorem dJ7_fill_53178_11 : decode cJ7_fill_53178 11 = .ok (.iload_n 2, 1) := by decide +kernel
theorem dJ7_fill_53178_12 : decode cJ7_fill_53178 12 = .ok (.iload_n 1, 1) := by decide +kernel
theorem dJ7_fill_53178_13 : decode cJ7_fill_53178 13 = .ok (.iastore, 1) := by decide +kernel
theorem dJ7_fill_53178_14 : decode cJ7_fill_53178 14 = .ok (.iinc 2 1, 3) := by decide +kernel
theorem dJ7_fill_53178_17 : decode cJ7_fill_53178 17 = .ok (.goto (-12), 3) := by decide +kernel
theorem dJ7_fill_53178_20 : decode cJ7_fill_53178 20 = .ok (.return_, 1) := by decide +kernel
theorem dJ7_fill_fda19_0 : decode cJ7_fill_fda19 0 = .ok (.aload_n 0, 1) := by decide +kernel
theorem dJ7_fill_fda19_1 : decode cJ7_fill_fda19 1 = .ok (.arraylength, 1) := by decide +kernel
theorem dJ7_fill_fda19_2 : decode cJ7_fill_fda19 2 = .ok (.iload_n 1, 1) := by decide +kernel
theorem dJ7_fill_fda19_3 : decode cJ7_fill_fda19 3 = .ok (.iload_n 2, 1) := by decide +kernel
theorem dJ7_fill_fda19_4 : decode cJ7_fill_fda19 4 = .ok (.invokestatic 13, 3) := by decide +kernel
theorem dJ7_fill_fda19_7 : decode cJ7_fill_fda19 7 = .ok (.iload_n 1, 1) := by decide +kernel
theorem dJ7_fill_fda19_8 : decode cJ7_fill_fda19 8 = .ok (.istore 4, 2) := by decide +kernel
theorem dJ7_fill_fda19_10 : decode cJ7_fill_fda19 10 = .ok (.iload 4, 2) := by decide +kernel
theorem dJ7_fill_fda19_12 : decode cJ7_fill_fda19 12 = .ok (.iload_n 2, 1) := by decide +kernel
theorem dJ7_fill_fda19_13 : decode cJ7_fill_fda19 13 = .ok (.if_icmp .ge 14, 3) := by decide +kernel
theorem dJ7_fill_fda19_16 : decode cJ7_fill_fda19 16 = .ok (.aload_n 0, 1) := by decide +kernel
theorem dJ7_fill_fda19_17 : decode cJ7_fill_fda19 17 = .ok (.iload 4, 2) := by decide +kernel
theorem dJ7_fill_fda19_19 : decode cJ7_fill_fda19 19 = .ok (.iload_n 3, 1) := by decide +kernel
theorem dJ7_fill_fda19_20 : decode cJ7_fill_fda19 20 = .ok (.iastore, 1) := by decide +kernel
theorem dJ7_fill_fda19_21 : decode cJ7_fill_fda19 21 = .ok (.iinc 4 1, 3) := by decide +kernel
theorem dJ7_fill_fda19_24 : decode cJ7_fill_fda19 24 = .ok (.goto (-14), 3) := by decide +kernel
theorem dJ7_fill_fda19_27 : decode cJ7_fill_fda19 27 = .ok (.return_, 1) := by decide +kernel
theorem dJ7_fill_bad5a_0 : decode cJ7_fill_bad5a 0 = .ok (.aload_n 0, 1) := by decide +kernel
theorem dJ7_fill_bad5a_1 : decode cJ7_fill_bad5a 1 = .ok (.arraylength, 1) := by decide +kernel
theorem dJ7_fill_bad5a_2 : decode cJ7_fill_bad5a 2 = .ok (.iload_n 1, 1) := by decide +kernel
theorem dJ7_fill_bad5a_3 : decode cJ7_fill_bad5a 3 = .ok (.iload_n 2, 1) := by decide +kernel
theorem dJ7_fill_bad5a_4 : decode cJ7_fill_bad5a 4 = .ok (.invokestatic 13, 3) := by decide +kernel
theorem dJ7_fill_bad5a_7 : decode cJ7_fill_bad5a 7 = .ok (.iload_n 1, 1) := by decide +kernel
theorem dJ7_fill_bad5a_8 : decode cJ7_fill_bad5a 8 = .ok (.istore 5, 2) := by decide +kernel
theorem dJ7_fill_bad5a_10 : decode cJ7_fill_bad5a 10 = .ok (.iload 5, 2) := by decide +kernel
theorem dJ7_fill_bad5a_12 : decode cJ7_fill_bad5a 12 = .ok (.iload_n 2, 1) := by decide +kernel
theorem dJ7_fill_bad5a_13 : decode cJ7_fill_bad5a 13 = .ok (.if_icmp .ge 14, 3) := by decide +kernel
theorem dJ7_fill_bad5a_16 : decode cJ7_fill_bad5a 16 = .ok (.aload_n 0, 1) := by decide +kernel
theorem dJ7_fill_bad5a_17 : decode cJ7_fill_bad5a 17 = .ok (.iload 5, 2) := by decide +kernel
theorem dJ7_fill_bad5a_19 : decode cJ7_fill_bad5a 19 = .ok (.lload_n 3, 1) := by decide +kernel
theorem dJ7_fill_bad5a_20 : decode cJ7_fill_bad5a 20 = .ok (.lastore, 1) := by decide +kernel
theorem dJ7_fill_bad5a_21 : decode cJ7_fill_bad5a 21 = .ok (.iinc 5 1, 3) := by decide +kernel
theorem dJ7_fill_bad5a_24 : decode cJ7_fill_bad5a 24 = .ok (.goto (-14), 3) := by decide +kernel
theorem dJ7_fill_bad5a_27 : decode cJ7_fill_bad5a 27 = .ok (.return_, 1) := by decide +kernel
theorem dJ7_rangeCheck_23922_0 : decode cJ7_rangeCheck_23922 0 = .ok (.iload_n 1, 1) := by decide +kernel
theorem dJ7_rangeCheck_23922_1 : decode cJ7_rangeCheck_23922 1 = .ok (.iload_n 2, 1) := by decide +kernel
theorem dJ7_rangeCheck_23922_2 : decode cJ7_rangeCheck_23922 2 = .ok (.if_icmp .le 44, 3) := by decide +kernel
theorem dJ7_rangeCheck_23922_5 : decode cJ7_rangeCheck_23922 5 = .ok (.new 43, 3) := by decide +kernel
theorem dJ7_rangeCheck_23922_8 : decode cJ7_rangeCheck_23922 8 = .ok (.dup, 1) := by decide +kernel
theorem dJ7_rangeCheck_23922_9 : decode cJ7_rangeCheck_23922 9 = .ok (.new 45, 3) := by decide +kernel
theorem dJ7_rangeCheck_23922_12 : decode cJ7_rangeCheck_23922 12 = .ok (.dup, 1) := by decide +kernel
theorem dJ7_rangeCheck_23922_13 : decode cJ7_rangeCheck_23922 13 = .ok (.invokespecial 47, 3) := by decide +kernel
theorem dJ7_rangeCheck_23922_16 : decode cJ7_rangeCheck_23922 16 = .ok (.ldc 48, 2) := by decide +kernel
theorem dJ7_rangeCheck_23922_18 : decode cJ7_rangeCheck_23922 18 = .ok (.invokevirtual 50, 3) := by decide +kernel
theorem dJ7_rangeCheck_23922_21 : decode cJ7_rangeCheck_23922 21 = .ok (.iload_n 1, 1) := by decide +kernel
theorem dJ7_rangeCheck_23922_22 : decode cJ7_rangeCheck_23922 22 = .ok (.invokevirtual 54, 3) := by decide +kernel
theorem dJ7_rangeCheck_23922_25 : decode cJ7_rangeCheck_23922 25 = .ok (.ldc 57, 2) := by decide +kernel
theorem dJ7_rangeCheck_23922_27 : decode cJ7_rangeCheck_23922 27 = .ok (.invokevirtual 50, 3) := by decide +kernel
theorem dJ7_rangeCheck_23922_30 : decode cJ7_rangeCheck_23922 30 = .ok (.iload_n 2, 1) := by decide +kernel
theorem dJ7_rangeCheck_23922_31 : decode cJ7_rangeCheck_23922 31 = .ok (.invokevirtual 54, 3) := by decide +kernel
theorem dJ7_rangeCheck_23922_34 : decode cJ7_rangeCheck_23922 34 = .ok (.ldc 59, 2) := by decide +kernel
theorem dJ7_rangeCheck_23922_36 : decode cJ7_rangeCheck_23922 36 = .ok (.invokevirtual 50, 3) := by decide +kernel
theorem dJ7_rangeCheck_23922_39 : decode cJ7_rangeCheck_23922 39 = .ok (.invokevirtual 61, 3) := by decide +kernel
theorem dJ7_rangeCheck_23922_42 : decode cJ7_rangeCheck_23922 42 = .ok (.invokespecial 65, 3) := by decide +kernel
theorem dJ7_rangeCheck_23922_45 : decode cJ7_rangeCheck_23922 45 = .ok (.athrow, 1) := by decide +kernel
theorem dJ7_rangeCheck_23922_46 : decode cJ7_rangeCheck_23922 46 = .ok (.iload_n 1, 1) := by decide +kernel
theorem dJ7_rangeCheck_23922_47 : decode cJ7_rangeCheck_23922 47 = .ok (.ifCond .ge 12, 3) := by decide +kernel
theorem dJ7_rangeCheck_23922_50 : decode cJ7_rangeCheck_23922 50 = .ok (.new 68, 3) := by decide +kernel
theorem dJ7_rangeCheck_23922_53 : decode cJ7_rangeCheck_23922 53 = .ok (.dup, 1) := by decide +kernel
theorem dJ7_rangeCheck_23922_54 : decode cJ7_rangeCheck_23922 54 = .ok (.iload_n 1, 1) := by decide +kernel
theorem dJ7_rangeCheck_23922_55 : decode cJ7_rangeCheck_23922 55 = .ok (.invokespecial 70, 3) := by decide +kernel
theorem dJ7_rangeCheck_23922_58 : decode cJ7_rangeCheck_23922 58 = .ok (.athrow, 1) := by decide +kernel
theorem dJ7_rangeCheck_23922_59 : decode cJ7_rangeCheck_23922 59 = .ok (.iload_n 2, 1) := by decide +kernel
theorem dJ7_rangeCheck_23922_60 : decode cJ7_rangeCheck_23922 60 = .ok (.iload_n 0, 1) := by decide +kernel
theorem dJ7_rangeCheck_23922_61 : decode cJ7_rangeCheck_23922 61 = .ok (.if_icmp .le 12, 3) := by decide +kernel
theorem dJ7_rangeCheck_23922_64 : decode cJ7_rangeCheck_23922 64 = .ok (.new 68, 3) := by decide +kernel
theorem dJ7_rangeCheck_23922_67 : decode cJ7_rangeCheck_23922 67 = .ok (.dup, 1) := by decide +kernel
theorem dJ7_rangeCheck_23922_68 : decode cJ7_rangeCheck_23922 68 = .ok (.iload_n 2, 1) := by decide +kernel
theorem dJ7_rangeCheck_23922_69 : decode cJ7_rangeCheck_23922 69 = .ok (.invokespecial 70, 3) := by decide +kernel
theorem dJ7_rangeCheck_23922_72 : decode cJ7_rangeCheck_23922 72 = .ok (.athrow, 1) := by decide +kernel
theorem dJ7_rangeCheck_23922_73 : decode cJ7_rangeCheck_23922 73 = .ok (.return_, 1) := by decide +kernel
theorem dX0_add_0 : decode cX0_add 0 = .ok (.aload_n 0, 1) := by decide +kernel
theorem dX0_add_1 : decode cX0_add 1 = .ok (.getfield 15, 3) := by decide +kernel
theorem dX0_add_4 : decode cX0_add 4 = .ok (.aload_n 0, 1) := by decide +kernel
theorem dX0_add_5 : decode cX0_add 5 = .ok (.getfield 9, 3) := by decide +kernel
theorem dX0_add_8 : decode cX0_add 8 = .ok (.arraylength, 1) := by decide +kernel
theorem dX0_add_9 : decode cX0_add 9 = .ok (.if_icmp .ge 20, 3) := by decide +kernel
theorem dX0_add_12 : decode cX0_add 12 = .ok (.aload_n 0, 1) := by decide +kernel
theorem dX0_add_13 : decode cX0_add 13 = .ok (.getfield 9, 3) := by decide +kernel
theorem dX0_add_16 : decode cX0_add 16 = .ok (.aload_n 0, 1) := by decide +kernel
theorem dX0_add_17 : decode cX0_add 17 = .ok (.dup, 1) := by decide +kernel
theorem dX0_add_18 : decode cX0_add 18 = .ok (.getfield 15, 3) := by decide +kernel
theorem dX0_add_21 : decode cX0_add 21 = .ok (.dup_x1, 1) := by decide +kernel
theorem dX0_add_22 : decode cX0_add 22 = .ok (.iconst 1, 1) := by decide +kernel
theorem dX0_add_23 : decode cX0_add 23 = .ok (.iadd, 1) := by decide +kernel
theorem dX0_add_24 : decode cX0_add 24 = .ok (.putfield 15, 3) := by decide +kernel
theorem dX0_add_27 : decode cX0_add 27 = .ok (.iload_n 1, 1) := by decide +kernel
theorem dX0_add_28 : decode cX0_add 28 = .ok (.iastore, 1) := by decide +kernel
theorem dX0_add_29 : decode cX0_add 29 = .ok (.return_, 1) := by decide +kernel
theorem dX0_addAll_0 : decode cX0_addAll 0 = .ok (.iconst 0, 1) := by decide +kernel
theorem dX0_addAll_1 : decode cX0_addAll 1 = .ok (.istore_n 2, 1) := by decide +kernel
theorem dX0_addAll_2 : decode cX0_addAll 2 = .ok (.iload_n 2, 1) := by decide +kernel
theorem dX0_addAll_3 : decode cX0_addAll 3 = .ok (.aload_n 1, 1) := by decide +kernel
theorem dX0_addAll_4 : decode cX0_addAll 4 = .ok (.getfield 15, 3) := by decide +kernel
theorem dX0_addAll_7 : decode cX0_addAll 7 = .ok (.if_icmp .ge 19, 3) := by decide +kernel
theorem dX0_addAll_10 : decode cX0_addAll 10 = .ok (.aload_n 0, 1) := by decide +kernel
theorem dX0_addAll_11 : decode cX0_addAll 11 = .ok (.aload_n 1, 1) := by decide +kernel
theorem dX0_addAll_12 : decode cX0_addAll 12 = .ok (.getfield 9, 3) := by decide +kernel
theorem dX0_addAll_15 : decode cX0_addAll 15 = .ok (.iload_n 2, 1) := by decide +kernel
theorem dX0_addAll_16 : decode cX0_addAll 16 = .ok (.iaload, 1) := by decide +kernel
theorem dX0_addAll_17 : decode cX0_addAll 17 = .ok (.invokevirtual 19, 3) := by decide +kernel
theorem dX0_addAll_20 : decode cX0_addAll 20 = .ok (.iinc 2 1, 3) := by decide +kernel
theorem dX0_addAll_23 : decode cX0_addAll 23 = .ok (.goto (-21), 3) := by decide +kernel
theorem dX0_addAll_26 : decode cX0_addAll 26 = .ok (.return_, 1) := by decide +kernel
theorem dX10_append_0 : decode cX10_append 0 = .ok (.bipush 24, 2) := by decide +kernel
theorem dX10_append_2 : decode cX10_append 2 = .ok (.istore_n 2, 1) := by decide +kernel
theorem dX10_append_3 : decode cX10_append 3 = .ok (.iload_n 2, 1) := by decide +kernel
theorem dX10_append_4 : decode cX10_append 4 = .ok (.ifCond .lt 44, 3) := by decide +kernel
theorem dX10_append_7 : decode cX10_append 7 = .ok (.aload_n 0, 1) := by decide +kernel
theorem dX10_append_8 : decode cX10_append 8 = .ok (.getfield 38, 3) := by decide +kernel
theorem dX10_append_11 : decode cX10_append 11 = .ok (.aload_n 0, 1) := by decide +kernel
theorem dX10_append_12 : decode cX10_append 12 = .ok (.getfield 9, 3) := by decide +kernel
theorem dX10_append_15 : decode cX10_append 15 = .ok (.arraylength, 1) := by decide +kernel
theorem dX10_append_16 : decode cX10_append 16 = .ok (.if_icmp .ge 32, 3) := by decide +kernel
theorem dX10_append_19 : decode cX10_append 19 = .ok (.aload_n 0, 1) := by decide +kernel
theorem dX10_append_20 : decode cX10_append 20 = .ok (.getfield 9, 3) := by decide +kernel
theorem dX10_append_23 : decode cX10_append 23 = .ok (.aload_n 0, 1) := by decide +kernel
theorem dX10_append_24 : decode cX10_append 24 = .ok (.dup, 1) := by decide +kernel
theorem dX10_append_25 : decode cX10_append 25 = .ok (.getfield 38, 3) := by decide +kernel
theorem dX10_append_28 : decode cX10_append 28 = .ok (.dup_x1, 1) := by decide +kernel
theorem dX10_append_29 : decode cX10_append 29 = .ok (.iconst 1, 1) := by decide +kernel
theorem dX10_append_30 : decode cX10_append 30 = .ok (.iadd, 1) := by decide +kernel
theorem dX10_append_31 : decode cX10_append 31 = .ok (.putfield 38, 3) := by decide +kernel
theorem dX10_append_34 : decode cX10_append 34 = .ok (.iload_n 1, 1) := by decide +kernel
theorem dX10_append_35 : decode cX10_append 35 = .ok (.iload_n 2, 1) := by decide +kernel
theorem dX10_append_36 : decode cX10_append 36 = .ok (.ishr, 1) := by decide +kernel
theorem dX10_append_37 : decode cX10_append 37 = .ok (.sipush 255, 3) := by decide +kernel
theorem dX10_append_40 : decode cX10_append 40 = .ok (.iand, 1) := by decide +kernel
theorem dX10_append_41 : decode cX10_append 41 = .ok (.iastore, 1) := by decide +kernel
theorem dX10_append_42 : decode cX10_append 42 = .ok (.iinc 2 (-8), 3) := by decide +kernel
theorem dX10_append_45 : decode cX10_append 45 = .ok (.goto (-42), 3) := by decide +kernel
theorem dX10_append_48 : decode cX10_append 48 = .ok (.return_, 1) := by decide +kernel
theorem dX10_pairAt_0 : decode cX10_pairAt 0 = .ok (.sipush 256, 3) := by decide +kernel
theorem dX10_pairAt_3 : decode cX10_pairAt 3 = .ok (.aload_n 0, 1) := by decide +kernel
theorem dX10_pairAt_4 : decode cX10_pairAt 4 = .ok (.getfield 9, 3) := by decide +kernel
theorem dX10_pairAt_7 : decode cX10_pairAt 7 = .ok (.iload_n 1, 1) := by decide +kernel
theorem dX10_pairAt_8 : decode cX10_pairAt 8 = .ok (.iaload, 1) := by decide +kernel
theorem dX10_pairAt_9 : decode cX10_pairAt 9 = .ok (.imul, 1) := by decide +kernel
theorem dX10_pairAt_10 : decode cX10_pairAt 10 = .ok (.aload_n 0, 1) := by decide +kernel
theorem dX10_pairAt_11 : decode cX10_pairAt 11 = .ok (.getfield 9, 3) := by decide +kernel
theorem dX10_pairAt_14 : decode cX10_pairAt 14 = .ok (.iload_n 1, 1) := by decide +kernel
theorem dX10_pairAt_15 : decode cX10_pairAt 15 = .ok (.iconst 1, 1) := by decide +kernel
theorem dX10_pairAt_16 : decode cX10_pairAt 16 = .ok (.iadd, 1) := by decide +kernel
theorem dX10_pairAt_17 : decode cX10_pairAt 17 = .ok (.iaload, 1) := by decide +kernel
theorem dX10_pairAt_18 : decode cX10_pairAt 18 = .ok (.iadd, 1) := by decide +kernel
theorem dX10_pairAt_19 : decode cX10_pairAt 19 = .ok (.ireturn, 1) := by decide +kernel
theorem dX10_open_0 : decode cX10_open 0 = .ok (.aload_n 0, 1) := by decide +kernel
theorem dX10_open_1 : decode cX10_open 1 = .ok (.iconst 0, 1) := by decide +kernel
theorem dX10_open_2 : decode cX10_open 2 = .ok (.putfield 41, 3) := by decide +kernel
theorem dX10_open_5 : decode cX10_open 5 = .ok (.aload_n 0, 1) := by decide +kernel
theorem dX10_open_6 : decode cX10_open 6 = .ok (.iconst (-1), 1) := by decide +kernel
theorem dX10_open_7 : decode cX10_open 7 = .ok (.putfield 15, 3) := by decide +kernel
theorem dX10_open_10 : decode cX10_open 10 = .ok (.aload_n 0, 1) := by decide +kernel
theorem dX10_open_11 : decode cX10_open 11 = .ok (.iconst 0, 1) := by decide +kernel
theorem dX10_open_12 : decode cX10_open 12 = .ok (.putfield 44, 3) := by decide +kernel
theorem dX10_open_15 : decode cX10_open 15 = .ok (.aload_n 0, 1) := by decide +kernel
theorem dX10_open_16 : decode cX10_open 16 = .ok (.iconst 0, 1) := by decide +kernel
theorem dX10_open_17 : decode cX10_open 17 = .ok (.putfield 47, 3) := by decide +kernel
theorem dX10_open_20 : decode cX10_open 20 = .ok (.aload_n 0, 1) := by decide +kernel
theorem dX10_open_21 : decode cX10_open 21 = .ok (.invokevirtual 50, 3) := by decide +kernel
theorem dX10_open_24 : decode cX10_open 24 = .ok (.return_, 1) := by decide +kernel
theorem dX10_next_0 : decode cX10_next 0 = .ok (.aload_n 0, 1) := by decide +kernel
theorem dX10_next_1 : decode cX10_next 1 = .ok (.getfield 44, 3) := by decide +kernel
theorem dX10_next_4 : decode cX10_next 4 = .ok (.iconst 1, 1) := by decide +kernel
theorem dX10_next_5 : decode cX10_next 5 = .ok (.if_icmp .eq 11, 3) := by decide +kernel
theorem dX10_next_8 : decode cX10_next 8 = .ok (.aload_n 0, 1) := by decide +kernel
theorem dX10_next_9 : decode cX10_next 9 = .ok (.getfield 44, 3) := by decide +kernel
theorem dX10_next_12 : decode cX10_next 12 = .ok (.iconst 2, 1) := by decide +kernel
theorem dX10_next_13 : decode cX10_next 13 = .ok (.if_icmp .ne 7, 3) := by decide +kernel
theorem dX10_next_16 : decode cX10_next 16 = .ok (.iconst 1, 1) := by decide +kernel
theorem dX10_next_17 : decode cX10_next 17 = .ok (.goto 4, 3) := by decide +kernel
theorem dX10_next_20 : decode cX10_next 20 = .ok (.iconst 0, 1) := by decide +kernel
theorem dX10_next_21 : decode cX10_next 21 = .ok (.istore_n 1, 1) := by decide +kernel
theorem dX10_next_22 : decode cX10_next 22 = .ok (.aload_n 0, 1) := by decide +kernel
theorem dX10_next_23 : decode cX10_next 23 = .ok (.aload_n 0, 1) := by decide +kernel
theorem dX10_next_24 : decode cX10_next 24 = .ok (.getfield 47, 3) := by decide +kernel
theorem dX10_next_27 : decode cX10_next 27 = .ok (.putfield 53, 3) := by decide +kernel
theorem dX10_next_30 : decode cX10_next 30 = .ok (.aload_n 0, 1) := by decide +kernel
theorem dX10_next_31 : decode cX10_next 31 = .ok (.getfield 53, 3) := by decide +kernel
theorem dX10_next_34 : decode cX10_next 34 = .ok (.aload_n 0, 1) := by decide +kernel
theorem dX10_next_35 : decode cX10_next 35 = .ok (.getfield 38, 3) := by decide +kernel
theorem dX10_next_38 : decode cX10_next 38 = .ok (.if_icmp .ge 44, 3) := by decide +kernel
theorem dX10_next_41 : decode cX10_next 41 = .ok (.aload_n 0, 1) := by decide +kernel
theorem dX10_next_42 : decode cX10_next 42 = .ok (.getfield 9, 3) := by decide +kernel
theorem dX10_next_45 : decode cX10_next 45 = .ok (.aload_n 0, 1) := by decide +kernel
theorem dX10_next_46 : decode cX10_next 46 = .ok (.getfield 53, 3) := by decide +kernel
theorem dX10_next_49 : decode cX10_next 49 = .ok (.iaload, 1) := by decide +kernel
theorem dX10_next_50 : decode cX10_next 50 = .ok (.bipush 32, 2) := by decide +kernel
theorem dX10_next_52 : decode cX10_next 52 = .ok (.if_icmp .eq 17, 3) := by decide +kernel
theorem dX10_next_55 : decode cX10_next 55 = .ok (.aload_n 0, 1) := by decide +kernel
theorem dX10_next_56 : decode cX10_next 56 = .ok (.getfield 9, 3) := by decide +kernel
theorem dX10_next_59 : decode cX10_next 59 = .ok (.aload_n 0, 1) := by decide +kernel
theorem dX10_next_60 : decode cX10_next 60 = .ok (.getfield 53, 3) := by decide +kernel
theorem dX10_next_63 : decode cX10_next 63 = .ok (.iaload, 1) := by decide +kernel
theorem dX10_next_64 : decode cX10_next 64 = .ok (.bipush 10, 2) := by decide +kernel
theorem dX10_next_66 : decode cX10_next 66 = .ok (.if_icmp .ne 16, 3) := by decide +kernel
theorem dX10_next_69 : decode cX10_next 69 = .ok (.aload_n 0, 1) := by decide +kernel
theorem dX10_next_70 : decode cX10_next 70 = .ok (.dup, 1) := by decide +kernel
theorem dX10_next_71 : decode cX10_next 71 = .ok (.getfield 53, 3) := by decide +kernel
theorem dX10_next_74 : decode cX10_next 74 = .ok (.iconst 1, 1) := by decide +kernel
theorem dX10_next_75 : decode cX10_next 75 = .ok (.iadd, 1) := by decide +kernel
theorem dX10_next_76 : decode cX10_next 76 = .ok (.putfield 53, 3) := by decide +kernel
theorem dX10_next_79 : decode cX10_next 79 = .ok (.goto (-49), 3) := by decide +kernel
theorem dX10_next_82 : decode cX10_next 82 = .ok (.iload_n 1, 1) := by decide +kernel
theorem dX10_next_83 : decode cX10_next 83 = .ok (.ifCond .eq 18, 3) := by decide +kernel
theorem dX10_next_86 : decode cX10_next 86 = .ok (.aload_n 0, 1) := by decide +kernel
theorem dX10_next_87 : decode cX10_next 87 = .ok (.getfield 53, 3) := by decide +kernel
theorem dX10_next_90 : decode cX10_next 90 = .ok (.aload_n 0, 1) := by decide +kernel
theorem dX10_next_91 : decode cX10_next 91 = .ok (.getfield 47, 3) := by decide +kernel
theorem dX10_next_94 : decode cX10_next 94 = .ok (.if_icmp .ne 7, 3) := by decide +kernel
theorem dX10_next_97 : decode cX10_next 97 = .ok (.iconst 1, 1) := by decide +kernel
theorem dX10_next_98 : decode cX10_next 98 = .ok (.goto 4, 3) := by decide +kernel
theorem dX10_next_101 : decode cX10_next 101 = .ok (.iconst 0, 1) := by decide +kernel
theorem dX10_next_102 : decode cX10_next 102 = .ok (.istore_n 2, 1) := by decide +kernel
theorem dX10_next_103 : decode cX10_next 103 = .ok (.aload_n 0, 1) := by decide +kernel
theorem dX10_next_104 : decode cX10_next 104 = .ok (.getfield 53, 3) := by decide +kernel
theorem dX10_next_107 : decode cX10_next 107 = .ok (.aload_n 0, 1) := by decide +kernel
theorem dX10_next_108 : decode cX10_next 108 = .ok (.getfield 38, 3) := by decide +kernel
theorem dX10_next_111 : decode cX10_next 111 = .ok (.if_icmp .ge 15, 3) := by decide +kernel
theorem dX10_next_114 : decode cX10_next 114 = .ok (.aload_n 0, 1) := by decide +kernel
theorem dX10_next_115 : decode cX10_next 115 = .ok (.getfield 9, 3) := by decide +kernel
theorem dX10_next_118 : decode cX10_next 118 = .ok (.aload_n 0, 1) := by decide +kernel
theorem dX10_next_119 : decode cX10_next 119 = .ok (.getfield 53, 3) := by decide +kernel
theorem dX10_next_122 : decode cX10_next 122 = .ok (.iaload, 1) := by decide +kernel
theorem dX10_next_123 : decode cX10_next 123 = .ok (.goto 4, 3) := by decide +kernel
theorem dX10_next_126 : decode cX10_next 126 = .ok (.iconst (-1), 1) := by decide +kernel
theorem dX10_next_127 : decode cX10_next 127 = .ok (.istore_n 3, 1) := by decide +kernel
theorem dX10_next_128 : decode cX10_next 128 = .ok (.aload_n 0, 1) := by decide +kernel
theorem dX10_next_129 : decode cX10_next 129 = .ok (.iconst (-1), 1) := by decide +kernel
theorem dX10_next_130 : decode cX10_next 130 = .ok (.putfield 56, 3) := by decide +kernel
theorem dX10_next_133 : decode cX10_next 133 = .ok (.aload_n 0, 1) := by decide +kernel
theorem dX10_next_134 : decode cX10_next 134 = .ok (.iconst (-1), 1) := by decide +kernel
theorem dX10_next_135 : decode cX10_next 135 = .ok (.putfield 59, 3) := by decide +kernel
theorem dX10_next_138 : decode cX10_next 138 = .ok (.aload_n 0, 1) := by decide +kernel
theorem dX10_next_139 : decode cX10_next 139 = .ok (.aload_n 0, 1) := by decide +kernel
theorem dX10_next_140 : decode cX10_next 140 = .ok (.getfield 53, 3) := by decide +kernel
theorem dX10_next_143 : decode cX10_next 143 = .ok (.putfield 47, 3) := by decide +kernel
theorem dX10_next_146 : decode cX10_next 146 = .ok (.iload_n 3, 1) := by decide +kernel
theorem dX10_next_147 : decode cX10_next 147 = .ok (.iconst (-1), 1) := by decide +kernel
theorem dX10_next_148 : decode cX10_next 148 = .ok (.if_icmp .ne 11, 3) := by decide +kernel
theorem dX10_next_151 : decode cX10_next 151 = .ok (.aload_n 0, 1) := by decide +kernel
theorem dX10_next_152 : decode cX10_next 152 = .ok (.iconst 0, 1) := by decide +kernel
theorem dX10_next_153 : decode cX10_next 153 = .ok (.putfield 44, 3) := by decide +kernel
theorem dX10_next_156 : decode cX10_next 156 = .ok (.goto 103, 3) := by decide +kernel
theorem dX10_next_159 : decode cX10_next 159 = .ok (.iload_n 3, 1) := by decide +kernel
theorem dX10_next_160 : decode cX10_next 160 = .ok (.bipush 97, 2) := by decide +kernel
theorem dX10_next_162 : decode cX10_next 162 = .ok (.if_icmp .lt 45, 3) := by decide +kernel
theorem dX10_next_165 : decode cX10_next 165 = .ok (.iload_n 3, 1) := by decide +kernel
theorem dX10_next_166 : decode cX10_next 166 = .ok (.bipush 122, 2) := by decide +kernel
theorem dX10_next_168 : decode cX10_next 168 = .ok (.if_icmp .gt 39, 3) := by decide +kernel
theorem dX10_next_171 : decode cX10_next 171 = .ok (.aload_n 0, 1) := by decide +kernel
theorem dX10_next_172 : decode cX10_next 172 = .ok (.invokevirtual 62, 3) := by decide +kernel
theorem dX10_next_175 : decode cX10_next 175 = .ok (.aload_n 0, 1) := by decide +kernel
theorem dX10_next_176 : decode cX10_next 176 = .ok (.iload_n 2, 1) := by decide +kernel
theorem dX10_next_177 : decode cX10_next 177 = .ok (.ifCond .eq 7, 3) := by decide +kernel
theorem dX10_next_180 : decode cX10_next 180 = .ok (.iconst 4, 1) := by decide +kernel
theorem dX10_next_181 : decode cX10_next 181 = .ok (.goto 4, 3) := by decide +kernel
theorem dX10_next_184 : decode cX10_next 184 = .ok (.iconst 1, 1) := by decide +kernel
theorem dX10_next_185 : decode cX10_next 185 = .ok (.putfield 44, 3) := by decide +kernel
theorem dX10_next_188 : decode cX10_next 188 = .ok (.aload_n 0, 1) := by decide +kernel
theorem dX10_next_189 : decode cX10_next 189 = .ok (.iload_n 2, 1) := by decide +kernel
theorem dX10_next_190 : decode cX10_next 190 = .ok (.ifCond .eq 7, 3) := by decide +kernel
theorem dX10_next_193 : decode cX10_next 193 = .ok (.iconst (-1), 1) := by decide +kernel
theorem dX10_next_194 : decode cX10_next 194 = .ok (.goto 7, 3) := by decide +kernel
theorem dX10_next_197 : decode cX10_next 197 = .ok (.aload_n 0, 1) := by decide +kernel
theorem dX10_next_198 : decode cX10_next 198 = .ok (.getfield 59, 3) := by decide +kernel
theorem dX10_next_201 : decode cX10_next 201 = .ok (.putfield 59, 3) := by decide +kernel
theorem dX10_next_204 : decode cX10_next 204 = .ok (.goto 55, 3) := by decide +kernel
theorem dX10_next_207 : decode cX10_next 207 = .ok (.iload_n 3, 1) := by decide +kernel
theorem dX10_next_208 : decode cX10_next 208 = .ok (.bipush 48, 2) := by decide +kernel
theorem dX10_next_210 : decode cX10_next 210 = .ok (.if_icmp .lt 29, 3) := by decide +kernel
theorem dX10_next_213 : decode cX10_next 213 = .ok (.iload_n 3, 1) := by decide +kernel
theorem dX10_next_214 : decode cX10_next 214 = .ok (.bipush 57, 2) := by decide +kernel
theorem dX10_next_216 : decode cX10_next 216 = .ok (.if_icmp .gt 23, 3) := by decide +kernel
theorem dX10_next_219 : decode cX10_next 219 = .ok (.aload_n 0, 1) := by decide +kernel
theorem dX10_next_220 : decode cX10_next 220 = .ok (.invokevirtual 65, 3) := by decide +kernel
theorem dX10_next_223 : decode cX10_next 223 = .ok (.aload_n 0, 1) := by decide +kernel
theorem dX10_next_224 : decode cX10_next 224 = .ok (.iload_n 2, 1) := by decide +kernel
theorem dX10_next_225 : decode cX10_next 225 = .ok (.ifCond .eq 7, 3) := by decide +kernel
theorem dX10_next_228 : decode cX10_next 228 = .ok (.iconst 4, 1) := by decide +kernel
theorem dX10_next_229 : decode cX10_next 229 = .ok (.goto 4, 3) := by decide +kernel
theorem dX10_next_232 : decode cX10_next 232 = .ok (.iconst 2, 1) := by decide +kernel
theorem dX10_next_233 : decode cX10_next 233 = .ok (.putfield 44, 3) := by decide +kernel
theorem dX10_next_236 : decode cX10_next 236 = .ok (.goto 23, 3) := by decide +kernel
theorem dX10_next_239 : decode cX10_next 239 = .ok (.aload_n 0, 1) := by decide +kernel
theorem dX10_next_240 : decode cX10_next 240 = .ok (.iconst 3, 1) := by decide +kernel
theorem dX10_next_241 : decode cX10_next 241 = .ok (.putfield 44, 3) := by decide +kernel
theorem dX10_next_244 : decode cX10_next 244 = .ok (.aload_n 0, 1) := by decide +kernel
theorem dX10_next_245 : decode cX10_next 245 = .ok (.iload_n 3, 1) := by decide +kernel
theorem dX10_next_246 : decode cX10_next 246 = .ok (.putfield 56, 3) := by decide +kernel
theorem dX10_next_249 : decode cX10_next 249 = .ok (.aload_n 0, 1) := by decide +kernel
theorem dX10_next_250 : decode cX10_next 250 = .ok (.dup, 1) := by decide +kernel
theorem dX10_next_251 : decode cX10_next 251 = .ok (.getfield 47, 3) := by decide +kernel
theorem dX10_next_254 : decode cX10_next 254 = .ok (.iconst 1, 1) := by decide +kernel
theorem dX10_next_255 : decode cX10_next 255 = .ok (.iadd, 1) := by decide +kernel
theorem dX10_next_256 : decode cX10_next 256 = .ok (.putfield 47, 3) := by decide +kernel
theorem dX10_next_259 : decode cX10_next 259 = .ok (.return_, 1) := by decide +kernel
theorem dX10_readWord_0 : decode cX10_readWord 0 = .ok (.iconst 0, 1) := by decide +kernel
theorem dX10_readWord_1 : decode cX10_readWord 1 = .ok (.istore_n 1, 1) := by decide +kernel
theorem dX10_readWord_2 : decode cX10_readWord 2 = .ok (.aload_n 0, 1) := by decide +kernel
theorem dX10_readWord_3 : decode cX10_readWord 3 = .ok (.getfield 47, 3) := by decide +kernel
theorem dX10_readWord_6 : decode cX10_readWord 6 = .ok (.aload_n 0, 1) := by decide +kernel
theorem dX10_readWord_7 : decode cX10_readWord 7 = .ok (.getfield 38, 3) := by decide +kernel
theorem dX10_readWord_10 : decode cX10_readWord 10 = .ok (.if_icmp .ge 82, 3) := by decide +kernel
theorem dX10_readWord_13 : decode cX10_readWord 13 = .ok (.aload_n 0, 1) := by decide +kernel
theorem dX10_readWord_14 : decode cX10_readWord 14 = .ok (.getfield 9, 3) := by decide +kernel
theorem dX10_readWord_17 : decode cX10_readWord 17 = .ok (.aload_n 0, 1) := by decide +kernel
theorem dX10_readWord_18 : decode cX10_readWord 18 = .ok (.getfield 47, 3) := by decide +kernel
theorem dX10_readWord_21 : decode cX10_readWord 21 = .ok (.iaload, 1) := by decide +kernel
theorem dX10_readWord_22 : decode cX10_readWord 22 = .ok (.bipush 97, 2) := by decide +kernel
theorem dX10_readWord_24 : decode cX10_readWord 24 = .ok (.if_icmp .lt 68, 3) := by decide +kernel
theorem dX10_readWord_27 : decode cX10_readWord 27 = .ok (.aload_n 0, 1) := by decide +kernel
theorem dX10_readWord_28 : decode cX10_readWord 28 = .ok (.getfield 9, 3) := by decide +kernel
theorem dX10_readWord_31 : decode cX10_readWord 31 = .ok (.aload_n 0, 1) := by decide +kernel
theorem dX10_readWord_32 : decode cX10_readWord 32 = .ok (.getfield 47, 3) := by decide +kernel
theorem dX10_readWord_35 : decode cX10_readWord 35 = .ok (.iaload, 1) := by decide +kernel
theorem dX10_readWord_36 : decode cX10_readWord 36 = .ok (.bipush 122, 2) := by decide +kernel
theorem dX10_readWord_38 : decode cX10_readWord 38 = .ok (.if_icmp .gt 54, 3) := by decide +kernel
theorem dX10_readWord_41 : decode cX10_readWord 41 = .ok (.aload_n 0, 1) := by decide +kernel
theorem dX10_readWord_42 : decode cX10_readWord 42 = .ok (.getfield 47, 3) := by decide +kernel
theorem dX10_readWord_45 : decode cX10_readWord 45 = .ok (.aload_n 0, 1) := by decide +kernel
theorem dX10_readWord_46 : decode cX10_readWord 46 = .ok (.getfield 53, 3) := by decide +kernel
theorem dX10_readWord_49 : decode cX10_readWord 49 = .ok (.bipush 6, 2) := by decide +kernel
theorem dX10_readWord_51 : decode cX10_readWord 51 = .ok (.iadd, 1) := by decide +kernel
theorem dX10_readWord_52 : decode cX10_readWord 52 = .ok (.if_icmp .ge 25, 3) := by decide +kernel
theorem dX10_readWord_55 : decode cX10_readWord 55 = .ok (.bipush 32, 2) := by decide +kernel
theorem dX10_readWord_57 : decode cX10_readWord 57 = .ok (.iload_n 1, 1) := by decide +kernel
theorem dX10_readWord_58 : decode cX10_readWord 58 = .ok (.imul, 1) := by decide +kernel
theorem dX10_readWord_59 : decode cX10_readWord 59 = .ok (.aload_n 0, 1) := by decide +kernel
theorem dX10_readWord_60 : decode cX10_readWord 60 = .ok (.getfield 9, 3) := by decide +kernel
theorem dX10_readWord_63 : decode cX10_readWord 63 = .ok (.aload_n 0, 1) := by decide +kernel
theorem dX10_readWord_64 : decode cX10_readWord 64 = .ok (.getfield 47, 3) := by decide +kernel
theorem dX10_readWord_67 : decode cX10_readWord 67 = .ok (.iaload, 1) := by decide +kernel
theorem dX10_readWord_68 : decode cX10_readWord 68 = .ok (.iadd, 1) := by decide +kernel
theorem dX10_readWord_69 : decode cX10_readWord 69 = .ok (.bipush 97, 2) := by decide +kernel
theorem dX10_readWord_71 : decode cX10_readWord 71 = .ok (.isub, 1) := by decide +kernel
theorem dX10_readWord_72 : decode cX10_readWord 72 = .ok (.iconst 1, 1) := by decide +kernel
theorem dX10_readWord_73 : decode cX10_readWord 73 = .ok (.iadd, 1) := by decide +kernel
theorem dX10_readWord_74 : decode cX10_readWord 74 = .ok (.goto 4, 3) := by decide +kernel
theorem dX10_readWord_77 : decode cX10_readWord 77 = .ok (.iconst (-1), 1) := by decide +kernel
theorem dX10_readWord_78 : decode cX10_readWord 78 = .ok (.istore_n 1, 1) := by decide +kernel
theorem dX10_readWord_79 : decode cX10_readWord 79 = .ok (.aload_n 0, 1) := by decide +kernel
theorem dX10_readWord_80 : decode cX10_readWord 80 = .ok (.dup, 1) := by decide +kernel
theorem dX10_readWord_81 : decode cX10_readWord 81 = .ok (.getfield 47, 3) := by decide +kernel
theorem dX10_readWord_84 : decode cX10_readWord 84 = .ok (.iconst 1, 1) := by decide +kernel
theorem dX10_readWord_85 : decode cX10_readWord 85 = .ok (.iadd, 1) := by decide +kernel
theorem dX10_readWord_86 : decode cX10_readWord 86 = .ok (.putfield 47, 3) := by decide +kernel
theorem dX10_readWord_89 : decode cX10_readWord 89 = .ok (.goto (-87), 3) := by decide +kernel
theorem dX10_readWord_92 : decode cX10_readWord 92 = .ok (.iload_n 1, 1) := by decide +kernel
theorem dX10_readWord_93 : decode cX10_readWord 93 = .ok (.iconst (-1), 1) := by decide +kernel
theorem dX10_readWord_94 : decode cX10_readWord 94 = .ok (.if_icmp .ne 4, 3) := by decide +kernel
theorem dX10_readWord_97 : decode cX10_readWord 97 = .ok (.return_, 1) := by decide +kernel
theorem dX10_readWord_98 : decode cX10_readWord 98 = .ok (.aload_n 0, 1) := by decide +kernel
theorem dX10_readWord_99 : decode cX10_readWord 99 = .ok (.iload_n 1, 1) := by decide +kernel
theorem dX10_readWord_100 : decode cX10_readWord 100 = .ok (.iconst 5, 1) := by decide +kernel
theorem dX10_readWord_101 : decode cX10_readWord 101 = .ok (.bipush 6, 2) := by decide +kernel
theorem dX10_readWord_103 : decode cX10_readWord 103 = .ok (.aload_n 0, 1) := by decide +kernel
theorem dX10_readWord_104 : decode cX10_readWord 104 = .ok (.getfield 47, 3) := by decide +kernel
theorem dX10_readWord_107 : decode cX10_readWord 107 = .ok (.aload_n 0, 1) := by decide +kernel
theorem dX10_readWord_108 : decode cX10_readWord 108 = .ok (.getfield 53, 3) := by decide +kernel
theorem dX10_readWord_111 : decode cX10_readWord 111 = .ok (.isub, 1) := by decide +kernel
theorem dX10_readWord_112 : decode cX10_readWord 112 = .ok (.isub, 1) := by decide +kernel
theorem dX10_readWord_113 : decode cX10_readWord 113 = .ok (.imul, 1) := by decide +kernel
theorem dX10_readWord_114 : decode cX10_readWord 114 = .ok (.ishl, 1) := by decide +kernel
theorem dX10_readWord_115 : decode cX10_readWord 115 = .ok (.putfield 68, 3) := by decide +kernel
theorem dX10_readWord_118 : decode cX10_readWord 118 = .ok (.iconst 0, 1) := by decide +kernel
theorem dX10_readWord_119 : decode cX10_readWord 119 = .ok (.istore_n 2, 1) := by decide +kernel
theorem dX10_readWord_120 : decode cX10_readWord 120 = .ok (.iload_n 2, 1) := by decide +kernel
theorem dX10_readWord_121 : decode cX10_readWord 121 = .ok (.aload_n 0, 1) := by decide +kernel
theorem dX10_readWord_122 : decode cX10_readWord 122 = .ok (.getfield 19, 3) := by decide +kernel
theorem dX10_readWord_125 : decode cX10_readWord 125 = .ok (.arraylength, 1) := by decide +kernel
theorem dX10_readWord_126 : decode cX10_readWord 126 = .ok (.if_icmp .ge 39, 3) := by decide +kernel
theorem dX10_readWord_129 : decode cX10_readWord 129 = .ok (.aload_n 0, 1) := by decide +kernel
theorem dX10_readWord_130 : decode cX10_readWord 130 = .ok (.getfield 59, 3) := by decide +kernel
theorem dX10_readWord_133 : decode cX10_readWord 133 = .ok (.iconst (-1), 1) := by decide +kernel
theorem dX10_readWord_134 : decode cX10_readWord 134 = .ok (.if_icmp .ne 31, 3) := by decide +kernel
theorem dX10_readWord_137 : decode cX10_readWord 137 = .ok (.aload_n 0, 1) := by decide +kernel
theorem dX10_readWord_138 : decode cX10_readWord 138 = .ok (.aload_n 0, 1) := by decide +kernel
theorem dX10_readWord_139 : decode cX10_readWord 139 = .ok (.getfield 19, 3) := by decide +kernel
theorem dX10_readWord_142 : decode cX10_readWord 142 = .ok (.iload_n 2, 1) := by decide +kernel
theorem dX10_readWord_143 : decode cX10_readWord 143 = .ok (.iaload, 1) := by decide +kernel
theorem dX10_readWord_144 : decode cX10_readWord 144 = .ok (.aload_n 0, 1) := by decide +kernel
theorem dX10_readWord_145 : decode cX10_readWord 145 = .ok (.getfield 68, 3) := by decide +kernel
theorem dX10_readWord_148 : decode cX10_readWord 148 = .ok (.if_icmp .ne 7, 3) := by decide +kernel
theorem dX10_readWord_151 : decode cX10_readWord 151 = .ok (.iload_n 2, 1) := by decide +kernel
theorem dX10_readWord_152 : decode cX10_readWord 152 = .ok (.goto 4, 3) := by decide +kernel
theorem dX10_readWord_155 : decode cX10_readWord 155 = .ok (.iconst (-1), 1) := by decide +kernel
theorem dX10_readWord_156 : decode cX10_readWord 156 = .ok (.putfield 59, 3) := by decide +kernel
theorem dX10_readWord_159 : decode cX10_readWord 159 = .ok (.iinc 2 1, 3) := by decide +kernel
theorem dX10_readWord_162 : decode cX10_readWord 162 = .ok (.goto (-42), 3) := by decide +kernel
theorem dX10_readWord_165 : decode cX10_readWord 165 = .ok (.return_, 1) := by decide +kernel
theorem dX10_readDigits_0 : decode cX10_readDigits 0 = .ok (.aload_n 0, 1) := by decide +kernel
theorem dX10_readDigits_1 : decode cX10_readDigits 1 = .ok (.iconst 0, 1) := by decide +kernel
theorem dX10_readDigits_2 : decode cX10_readDigits 2 = .ok (.putfield 68, 3) := by decide +kernel
theorem dX10_readDigits_5 : decode cX10_readDigits 5 = .ok (.aload_n 0, 1) := by decide +kernel
theorem dX10_readDigits_6 : decode cX10_readDigits 6 = .ok (.getfield 47, 3) := by decide +kernel
theorem dX10_readDigits_9 : decode cX10_readDigits 9 = .ok (.aload_n 0, 1) := by decide +kernel
theorem dX10_readDigits_10 : decode cX10_readDigits 10 = .ok (.getfield 38, 3) := by decide +kernel
theorem dX10_readDigits_13 : decode cX10_readDigits 13 = .ok (.if_icmp .ge 85, 3) := by decide +kernel
theorem dX10_readDigits_16 : decode cX10_readDigits 16 = .ok (.aload_n 0, 1) := by decide +kernel
theorem dX10_readDigits_17 : decode cX10_readDigits 17 = .ok (.getfield 9, 3) := by decide +kernel
theorem dX10_readDigits_20 : decode cX10_readDigits 20 = .ok (.aload_n 0, 1) := by decide +kernel
theorem dX10_readDigits_21 : decode cX10_readDigits 21 = .ok (.getfield 47, 3) := by decide +kernel
theorem dX10_readDigits_24 : decode cX10_readDigits 24 = .ok (.iaload, 1) := by decide +kernel
theorem dX10_readDigits_25 : decode cX10_readDigits 25 = .ok (.bipush 48, 2) := by decide +kernel
theorem dX10_readDigits_27 : decode cX10_readDigits 27 = .ok (.if_icmp .lt 71, 3) := by decide +kernel
theorem dX10_readDigits_30 : decode cX10_readDigits 30 = .ok (.aload_n 0, 1) := by decide +kernel
theorem dX10_readDigits_31 : decode cX10_readDigits 31 = .ok (.getfield 9, 3) := by decide +kernel
theorem dX10_readDigits_34 : decode cX10_readDigits 34 = .ok (.aload_n 0, 1) := by decide +kernel
theorem dX10_readDigits_35 : decode cX10_readDigits 35 = .ok (.getfield 47, 3) := by decide +kernel
theorem dX10_readDigits_38 : decode cX10_readDigits 38 = .ok (.iaload, 1) := by decide +kernel
theorem dX10_readDigits_39 : decode cX10_readDigits 39 = .ok (.bipush 57, 2) := by decide +kernel
theorem dX10_readDigits_41 : decode cX10_readDigits 41 = .ok (.if_icmp .gt 57, 3) := by decide +kernel
theorem dX10_readDigits_44 : decode cX10_readDigits 44 = .ok (.aload_n 0, 1) := by decide +kernel
theorem dX10_readDigits_45 : decode cX10_readDigits 45 = .ok (.aload_n 0, 1) := by decide +kernel
theorem dX10_readDigits_46 : decode cX10_readDigits 46 = .ok (.getfield 47, 3) := by decide +kernel
theorem dX10_readDigits_49 : decode cX10_readDigits 49 = .ok (.aload_n 0, 1) := by decide +kernel
theorem dX10_readDigits_50 : decode cX10_readDigits 50 = .ok (.getfield 53, 3) := by decide +kernel
theorem dX10_readDigits_53 : decode cX10_readDigits 53 = .ok (.iconst 4, 1) := by decide +kernel
theorem dX10_readDigits_54 : decode cX10_readDigits 54 = .ok (.iadd, 1) := by decide +kernel
theorem dX10_readDigits_55 : decode cX10_readDigits 55 = .ok (.if_icmp .ge 26, 3) := by decide +kernel
theorem dX10_readDigits_58 : decode cX10_readDigits 58 = .ok (.bipush 10, 2) := by decide +kernel
theorem dX10_readDigits_60 : decode cX10_readDigits 60 = .ok (.aload_n 0, 1) := by decide +kernel
theorem dX10_readDigits_61 : decode cX10_readDigits 61 = .ok (.getfield 68, 3) := by decide +kernel
theorem dX10_readDigits_64 : decode cX10_readDigits 64 = .ok (.imul, 1) := by decide +kernel
theorem dX10_readDigits_65 : decode cX10_readDigits 65 = .ok (.aload_n 0, 1) := by decide +kernel
theorem dX10_readDigits_66 : decode cX10_readDigits 66 = .ok (.getfield 9, 3) := by decide +kernel
theorem dX10_readDigits_69 : decode cX10_readDigits 69 = .ok (.aload_n 0, 1) := by decide +kernel
theorem dX10_readDigits_70 : decode cX10_readDigits 70 = .ok (.getfield 47, 3) := by decide +kernel
theorem dX10_readDigits_73 : decode cX10_readDigits 73 = .ok (.iaload, 1) := by decide +kernel
theorem dX10_readDigits_74 : decode cX10_readDigits 74 = .ok (.iadd, 1) := by decide +kernel
theorem dX10_readDigits_75 : decode cX10_readDigits 75 = .ok (.bipush 48, 2) := by decide +kernel
theorem dX10_readDigits_77 : decode cX10_readDigits 77 = .ok (.isub, 1) := by decide +kernel
theorem dX10_readDigits_78 : decode cX10_readDigits 78 = .ok (.goto 4, 3) := by decide +kernel
theorem dX10_readDigits_81 : decode cX10_readDigits 81 = .ok (.iconst 0, 1) := by decide +kernel
theorem dX10_readDigits_82 : decode cX10_readDigits 82 = .ok (.putfield 68, 3) := by decide +kernel
theorem dX10_readDigits_85 : decode cX10_readDigits 85 = .ok (.aload_n 0, 1) := by decide +kernel
theorem dX10_readDigits_86 : decode cX10_readDigits 86 = .ok (.dup, 1) := by decide +kernel
theorem dX10_readDigits_87 : decode cX10_readDigits 87 = .ok (.getfield 47, 3) := by decide +kernel
theorem dX10_readDigits_90 : decode cX10_readDigits 90 = .ok (.iconst 1, 1) := by decide +kernel
theorem dX10_readDigits_91 : decode cX10_readDigits 91 = .ok (.iadd, 1) := by decide +kernel
theorem dX10_readDigits_92 : decode cX10_readDigits 92 = .ok (.putfield 47, 3) := by decide +kernel
theorem dX10_readDigits_95 : decode cX10_readDigits 95 = .ok (.goto (-90), 3) := by decide +kernel
theorem dX10_readDigits_98 : decode cX10_readDigits 98 = .ok (.return_, 1) := by decide +kernel
theorem dX10_fail_0 : decode cX10_fail 0 = .ok (.aload_n 0, 1) := by decide +kernel
theorem dX10_fail_1 : decode cX10_fail 1 = .ok (.iload_n 1, 1) := by decide +kernel
theorem dX10_fail_2 : decode cX10_fail 2 = .ok (.aload_n 0, 1) := by decide +kernel
theorem dX10_fail_3 : decode cX10_fail 3 = .ok (.getfield 53, 3) := by decide +kernel
theorem dX10_fail_6 : decode cX10_fail 6 = .ok (.invokevirtual 71, 3) := by decide +kernel
theorem dX10_fail_9 : decode cX10_fail 9 = .ok (.ireturn, 1) := by decide +kernel
theorem dX10_failAt_0 : decode cX10_failAt 0 = .ok (.aload_n 0, 1) := by decide +kernel
theorem dX10_failAt_1 : decode cX10_failAt 1 = .ok (.getfield 41, 3) := by decide +kernel
theorem dX10_failAt_4 : decode cX10_failAt 4 = .ok (.ifCond .ne 13, 3) := by decide +kernel
theorem dX10_failAt_7 : decode cX10_failAt 7 = .ok (.aload_n 0, 1) := by decide +kernel
theorem dX10_failAt_8 : decode cX10_failAt 8 = .ok (.iload_n 1, 1) := by decide +kernel
theorem dX10_failAt_9 : decode cX10_failAt 9 = .ok (.putfield 41, 3) := by decide +kernel
theorem dX10_failAt_12 : decode cX10_failAt 12 = .ok (.aload_n 0, 1) := by decide +kernel
theorem dX10_failAt_13 : decode cX10_failAt 13 = .ok (.iload_n 2, 1) := by decide +kernel
theorem dX10_failAt_14 : decode cX10_failAt 14 = .ok (.putfield 15, 3) := by decide +kernel
theorem dX10_failAt_17 : decode cX10_failAt 17 = .ok (.iconst 0, 1) := by decide +kernel
theorem dX10_failAt_18 : decode cX10_failAt 18 = .ok (.ireturn, 1) := by decide +kernel
theorem dX10_takeSign_0 : decode cX10_takeSign 0 = .ok (.aload_n 0, 1) := by decide +kernel
theorem dX10_takeSign_1 : decode cX10_takeSign 1 = .ok (.getfield 56, 3) := by decide +kernel
theorem dX10_takeSign_4 : decode cX10_takeSign 4 = .ok (.iload_n 1, 1) := by decide +kernel
theorem dX10_takeSign_5 : decode cX10_takeSign 5 = .ok (.if_icmp .eq 9, 3) := by decide +kernel
theorem dX10_takeSign_8 : decode cX10_takeSign 8 = .ok (.aload_n 0, 1) := by decide +kernel
theorem dX10_takeSign_9 : decode cX10_takeSign 9 = .ok (.iconst 1, 1) := by decide +kernel
theorem dX10_takeSign_10 : decode cX10_takeSign 10 = .ok (.invokevirtual 75, 3) := by decide +kernel
theorem dX10_takeSign_13 : decode cX10_takeSign 13 = .ok (.ireturn, 1) := by decide +kernel
theorem dX10_takeSign_14 : decode cX10_takeSign 14 = .ok (.aload_n 0, 1) := by decide +kernel
theorem dX10_takeSign_15 : decode cX10_takeSign 15 = .ok (.invokevirtual 50, 3) := by decide +kernel
theorem dX10_takeSign_18 : decode cX10_takeSign 18 = .ok (.iconst 1, 1) := by decide +kernel
theorem dX10_takeSign_19 : decode cX10_takeSign 19 = .ok (.ireturn, 1) := by decide +kernel
theorem dX10_nameHere_0 : decode cX10_nameHere 0 = .ok (.aload_n 0, 1) := by decide +kernel
theorem dX10_nameHere_1 : decode cX10_nameHere 1 = .ok (.getfield 59, 3) := by decide +kernel
theorem dX10_nameHere_4 : decode cX10_nameHere 4 = .ok (.iconst (-1), 1) := by decide +kernel
theorem dX10_nameHere_5 : decode cX10_nameHere 5 = .ok (.if_icmp .eq 16, 3) := by decide +kernel
theorem dX10_nameHere_8 : decode cX10_nameHere 8 = .ok (.aload_n 0, 1) := by decide +kernel
theorem dX10_nameHere_9 : decode cX10_nameHere 9 = .ok (.getfield 59, 3) := by decide +kernel
theorem dX10_nameHere_12 : decode cX10_nameHere 12 = .ok (.bipush 28, 2) := by decide +kernel
theorem dX10_nameHere_14 : decode cX10_nameHere 14 = .ok (.if_icmp .ge 7, 3) := by decide +kernel
theorem dX10_nameHere_17 : decode cX10_nameHere 17 = .ok (.iconst 1, 1) := by decide +kernel
theorem dX10_nameHere_18 : decode cX10_nameHere 18 = .ok (.goto 4, 3) := by decide +kernel
theorem dX10_nameHere_21 : decode cX10_nameHere 21 = .ok (.iconst 0, 1) := by decide +kernel
theorem dX10_nameHere_22 : decode cX10_nameHere 22 = .ok (.istore_n 1, 1) := by decide +kernel
theorem dX10_nameHere_23 : decode cX10_nameHere 23 = .ok (.aload_n 0, 1) := by decide +kernel
theorem dX10_nameHere_24 : decode cX10_nameHere 24 = .ok (.getfield 44, 3) := by decide +kernel
theorem dX10_nameHere_27 : decode cX10_nameHere 27 = .ok (.iconst 1, 1) := by decide +kernel
theorem dX10_nameHere_28 : decode cX10_nameHere 28 = .ok (.if_icmp .ne 7, 3) := by decide +kernel
theorem dX10_nameHere_31 : decode cX10_nameHere 31 = .ok (.iload_n 1, 1) := by decide +kernel
theorem dX10_nameHere_32 : decode cX10_nameHere 32 = .ok (.ifCond .eq 15, 3) := by decide +kernel
theorem dX10_nameHere_35 : decode cX10_nameHere 35 = .ok (.aload_n 0, 1) := by decide +kernel
theorem dX10_nameHere_36 : decode cX10_nameHere 36 = .ok (.iconst 1, 1) := by decide +kernel
theorem dX10_nameHere_37 : decode cX10_nameHere 37 = .ok (.aload_n 0, 1) := by decide +kernel
theorem dX10_nameHere_38 : decode cX10_nameHere 38 = .ok (.getfield 53, 3) := by decide +kernel
theorem dX10_nameHere_41 : decode cX10_nameHere 41 = .ok (.invokevirtual 71, 3) := by decide +kernel
theorem dX10_nameHere_44 : decode cX10_nameHere 44 = .ok (.pop, 1) := by decide +kernel
theorem dX10_nameHere_45 : decode cX10_nameHere 45 = .ok (.iconst (-1), 1) := by decide +kernel
theorem dX10_nameHere_46 : decode cX10_nameHere 46 = .ok (.ireturn, 1) := by decide +kernel
theorem dX10_nameHere_47 : decode cX10_nameHere 47 = .ok (.aload_n 0, 1) := by decide +kernel
theorem dX10_nameHere_48 : decode cX10_nameHere 48 = .ok (.getfield 47, 3) := by decide +kernel
theorem dX10_nameHere_51 : decode cX10_nameHere 51 = .ok (.aload_n 0, 1) := by decide +kernel
theorem dX10_nameHere_52 : decode cX10_nameHere 52 = .ok (.getfield 53, 3) := by decide +kernel
theorem dX10_nameHere_55 : decode cX10_nameHere 55 = .ok (.bipush 6, 2) := by decide +kernel
theorem dX10_nameHere_57 : decode cX10_nameHere 57 = .ok (.iadd, 1) := by decide +kernel
theorem dX10_nameHere_58 : decode cX10_nameHere 58 = .ok (.if_icmp .le 18, 3) := by decide +kernel
theorem dX10_nameHere_61 : decode cX10_nameHere 61 = .ok (.aload_n 0, 1) := by decide +kernel
theorem dX10_nameHere_62 : decode cX10_nameHere 62 = .ok (.iconst 1, 1) := by decide +kernel
theorem dX10_nameHere_63 : decode cX10_nameHere 63 = .ok (.aload_n 0, 1) := by decide +kernel
theorem dX10_nameHere_64 : decode cX10_nameHere 64 = .ok (.getfield 53, 3) := by decide +kernel
theorem dX10_nameHere_67 : decode cX10_nameHere 67 = .ok (.bipush 6, 2) := by decide +kernel
theorem dX10_nameHere_69 : decode cX10_nameHere 69 = .ok (.iadd, 1) := by decide +kernel
theorem dX10_nameHere_70 : decode cX10_nameHere 70 = .ok (.invokevirtual 71, 3) := by decide +kernel
theorem dX10_nameHere_73 : decode cX10_nameHere 73 = .ok (.pop, 1) := by decide +kernel
theorem dX10_nameHere_74 : decode cX10_nameHere 74 = .ok (.iconst (-1), 1) := by decide +kernel
theorem dX10_nameHere_75 : decode cX10_nameHere 75 = .ok (.ireturn, 1) := by decide +kernel
theorem dX10_nameHere_76 : decode cX10_nameHere 76 = .ok (.aload_n 0, 1) := by decide +kernel
theorem dX10_nameHere_77 : decode cX10_nameHere 77 = .ok (.getfield 68, 3) := by decide +kernel
theorem dX10_nameHere_80 : decode cX10_nameHere 80 = .ok (.ireturn, 1) := by decide +kernel
theorem dX10_takeNumber_0 : decode cX10_takeNumber 0 = .ok (.aload_n 0, 1) := by decide +kernel
theorem dX10_takeNumber_1 : decode cX10_takeNumber 1 = .ok (.getfield 44, 3) := by decide +kernel
theorem dX10_takeNumber_4 : decode cX10_takeNumber 4 = .ok (.iconst 2, 1) := by decide +kernel
theorem dX10_takeNumber_5 : decode cX10_takeNumber 5 = .ok (.if_icmp .eq 11, 3) := by decide +kernel
theorem dX10_takeNumber_8 : decode cX10_takeNumber 8 = .ok (.aload_n 0, 1) := by decide +kernel
theorem dX10_takeNumber_9 : decode cX10_takeNumber 9 = .ok (.iconst 1, 1) := by decide +kernel
theorem dX10_takeNumber_10 : decode cX10_takeNumber 10 = .ok (.invokevirtual 75, 3) := by decide +kernel
theorem dX10_takeNumber_13 : decode cX10_takeNumber 13 = .ok (.pop, 1) := by decide +kernel
theorem dX10_takeNumber_14 : decode cX10_takeNumber 14 = .ok (.iconst (-1), 1) := by decide +kernel
theorem dX10_takeNumber_15 : decode cX10_takeNumber 15 = .ok (.ireturn, 1) := by decide +kernel
theorem dX10_takeNumber_16 : decode cX10_takeNumber 16 = .ok (.aload_n 0, 1) := by decide +kernel
theorem dX10_takeNumber_17 : decode cX10_takeNumber 17 = .ok (.getfield 47, 3) := by decide +kernel
theorem dX10_takeNumber_20 : decode cX10_takeNumber 20 = .ok (.aload_n 0, 1) := by decide +kernel
theorem dX10_takeNumber_21 : decode cX10_takeNumber 21 = .ok (.getfield 53, 3) := by decide +kernel
theorem dX10_takeNumber_24 : decode cX10_takeNumber 24 = .ok (.iconst 4, 1) := by decide +kernel
theorem dX10_takeNumber_25 : decode cX10_takeNumber 25 = .ok (.iadd, 1) := by decide +kernel
theorem dX10_takeNumber_26 : decode cX10_takeNumber 26 = .ok (.if_icmp .le 17, 3) := by decide +kernel
theorem dX10_takeNumber_29 : decode cX10_takeNumber 29 = .ok (.aload_n 0, 1) := by decide +kernel
theorem dX10_takeNumber_30 : decode cX10_takeNumber 30 = .ok (.iconst 1, 1) := by decide +kernel
theorem dX10_takeNumber_31 : decode cX10_takeNumber 31 = .ok (.aload_n 0, 1) := by decide +kernel
theorem dX10_takeNumber_32 : decode cX10_takeNumber 32 = .ok (.getfield 53, 3) := by decide +kernel
theorem dX10_takeNumber_35 : decode cX10_takeNumber 35 = .ok (.iconst 4, 1) := by decide +kernel
theorem dX10_takeNumber_36 : decode cX10_takeNumber 36 = .ok (.iadd, 1) := by decide +kernel
theorem dX10_takeNumber_37 : decode cX10_takeNumber 37 = .ok (.invokevirtual 71, 3) := by decide +kernel
theorem dX10_takeNumber_40 : decode cX10_takeNumber 40 = .ok (.pop, 1) := by decide +kernel
theorem dX10_takeNumber_41 : decode cX10_takeNumber 41 = .ok (.iconst (-1), 1) := by decide +kernel
theorem dX10_takeNumber_42 : decode cX10_takeNumber 42 = .ok (.ireturn, 1) := by decide +kernel
theorem dX10_takeNumber_43 : decode cX10_takeNumber 43 = .ok (.aload_n 0, 1) := by decide +kernel
theorem dX10_takeNumber_44 : decode cX10_takeNumber 44 = .ok (.getfield 68, 3) := by decide +kernel
theorem dX10_takeNumber_47 : decode cX10_takeNumber 47 = .ok (.istore_n 3, 1) := by decide +kernel
theorem dX10_takeNumber_48 : decode cX10_takeNumber 48 = .ok (.iload_n 3, 1) := by decide +kernel
theorem dX10_takeNumber_49 : decode cX10_takeNumber 49 = .ok (.iload_n 1, 1) := by decide +kernel
theorem dX10_takeNumber_50 : decode cX10_takeNumber 50 = .ok (.if_icmp .lt 8, 3) := by decide +kernel
theorem dX10_takeNumber_53 : decode cX10_takeNumber 53 = .ok (.iload_n 3, 1) := by decide +kernel
theorem dX10_takeNumber_54 : decode cX10_takeNumber 54 = .ok (.iload_n 2, 1) := by decide +kernel
theorem dX10_takeNumber_55 : decode cX10_takeNumber 55 = .ok (.if_icmp .le 11, 3) := by decide +kernel
theorem dX10_takeNumber_58 : decode cX10_takeNumber 58 = .ok (.aload_n 0, 1) := by decide +kernel
theorem dX10_takeNumber_59 : decode cX10_takeNumber 59 = .ok (.iconst 2, 1) := by decide +kernel
theorem dX10_takeNumber_60 : decode cX10_takeNumber 60 = .ok (.invokevirtual 75, 3) := by decide +kernel
theorem dX10_takeNumber_63 : decode cX10_takeNumber 63 = .ok (.pop, 1) := by decide +kernel
theorem dX10_takeNumber_64 : decode cX10_takeNumber 64 = .ok (.iconst (-1), 1) := by decide +kernel
theorem dX10_takeNumber_65 : decode cX10_takeNumber 65 = .ok (.ireturn, 1) := by decide +kernel
theorem dX10_takeNumber_66 : decode cX10_takeNumber 66 = .ok (.aload_n 0, 1) := by decide +kernel
theorem dX10_takeNumber_67 : decode cX10_takeNumber 67 = .ok (.invokevirtual 50, 3) := by decide +kernel
theorem dX10_takeNumber_70 : decode cX10_takeNumber 70 = .ok (.iload_n 3, 1) := by decide +kernel
theorem dX10_takeNumber_71 : decode cX10_takeNumber 71 = .ok (.ireturn, 1) := by decide +kernel
theorem dX2_clear_0 : decode cX2_clear 0 = .ok (.aload_n 0, 1) := by decide +kernel
theorem dX2_clear_1 : decode cX2_clear 1 = .ok (.getfield 13, 3) := by decide +kernel
theorem dX2_clear_4 : decode cX2_clear 4 = .ok (.iconst 0, 1) := by decide +kernel
theorem dX2_clear_5 : decode cX2_clear 5 = .ok (.invokestatic 69, 3) := by decide +kernel
theorem dX2_clear_8 : decode cX2_clear 8 = .ok (.aload_n 0, 1) := by decide +kernel
theorem dX2_clear_9 : decode cX2_clear 9 = .ok (.getfield 32, 3) := by decide +kernel
theorem dX2_clear_12 : decode cX2_clear 12 = .ok (.iconst 0, 1) := by decide +kernel
theorem dX2_clear_13 : decode cX2_clear 13 = .ok (.invokestatic 69, 3) := by decide +kernel
theorem dX2_clear_16 : decode cX2_clear 16 = .ok (.iconst 0, 1) := by decide +kernel
theorem dX2_clear_17 : decode cX2_clear 17 = .ok (.istore_n 1, 1) := by decide +kernel
theorem dX2_clear_18 : decode cX2_clear 18 = .ok (.iload_n 1, 1) := by decide +kernel
theorem dX2_clear_19 : decode cX2_clear 19 = .ok (.bipush 8, 2) := by decide +kernel
theorem dX2_clear_21 : decode cX2_clear 21 = .ok (.if_icmp .ge 29, 3) := by decide +kernel
theorem dX2_clear_24 : decode cX2_clear 24 = .ok (.aload_n 0, 1) := by decide +kernel
theorem dX2_clear_25 : decode cX2_clear 25 = .ok (.getfield 35, 3) := by decide +kernel
theorem dX2_clear_28 : decode cX2_clear 28 = .ok (.iload_n 1, 1) := by decide +kernel
theorem dX2_clear_29 : decode cX2_clear 29 = .ok (.aaload, 1) := by decide +kernel
theorem dX2_clear_30 : decode cX2_clear 30 = .ok (.iconst 0, 1) := by decide +kernel
theorem dX2_clear_31 : decode cX2_clear 31 = .ok (.invokestatic 69, 3) := by decide +kernel
theorem dX2_clear_34 : decode cX2_clear 34 = .ok (.aload_n 0, 1) := by decide +kernel
theorem dX2_clear_35 : decode cX2_clear 35 = .ok (.getfield 38, 3) := by decide +kernel
theorem dX2_clear_38 : decode cX2_clear 38 = .ok (.iload_n 1, 1) := by decide +kernel
theorem dX2_clear_39 : decode cX2_clear 39 = .ok (.aaload, 1) := by decide +kernel
theorem dX2_clear_40 : decode cX2_clear 40 = .ok (.iconst (-1), 1) := by decide +kernel
theorem dX2_clear_41 : decode cX2_clear 41 = .ok (.invokestatic 69, 3) := by decide +kernel
theorem dX2_clear_44 : decode cX2_clear 44 = .ok (.iinc 1 1, 3) := by decide +kernel
theorem dX2_clear_47 : decode cX2_clear 47 = .ok (.goto (-29), 3) := by decide +kernel
theorem dX2_clear_50 : decode cX2_clear 50 = .ok (.aload_n 0, 1) := by decide +kernel
theorem dX2_clear_51 : decode cX2_clear 51 = .ok (.iconst 3, 1) := by decide +kernel
theorem dX2_clear_52 : decode cX2_clear 52 = .ok (.putfield 75, 3) := by decide +kernel
theorem dX2_clear_55 : decode cX2_clear 55 = .ok (.aload_n 0, 1) := by decide +kernel
theorem dX2_clear_56 : decode cX2_clear 56 = .ok (.iconst 0, 1) := by decide +kernel
theorem dX2_clear_57 : decode cX2_clear 57 = .ok (.putfield 79, 3) := by decide +kernel
theorem dX2_clear_60 : decode cX2_clear 60 = .ok (.aload_n 0, 1) := by decide +kernel
theorem dX2_clear_61 : decode cX2_clear 61 = .ok (.getfield 56, 3) := by decide +kernel
theorem dX2_clear_64 : decode cX2_clear 64 = .ok (.iconst 0, 1) := by decide +kernel
theorem dX2_clear_65 : decode cX2_clear 65 = .ok (.putfield 82, 3) := by decide +kernel
theorem dX2_clear_68 : decode cX2_clear 68 = .ok (.aload_n 0, 1) := by decide +kernel
theorem dX2_clear_69 : decode cX2_clear 69 = .ok (.getfield 56, 3) := by decide +kernel
theorem dX2_clear_72 : decode cX2_clear 72 = .ok (.bipush 20, 2) := by decide +kernel
theorem dX2_clear_74 : decode cX2_clear 74 = .ok (.invokevirtual 85, 3) := by decide +kernel
theorem dX2_clear_77 : decode cX2_clear 77 = .ok (.aload_n 0, 1) := by decide +kernel
theorem dX2_clear_78 : decode cX2_clear 78 = .ok (.getfield 56, 3) := by decide +kernel
theorem dX2_clear_81 : decode cX2_clear 81 = .ok (.bipush (-4), 2) := by decide +kernel
theorem dX2_clear_83 : decode cX2_clear 83 = .ok (.invokevirtual 85, 3) := by decide +kernel
theorem dX2_clear_86 : decode cX2_clear 86 = .ok (.aload_n 0, 1) := by decide +kernel
theorem dX2_clear_87 : decode cX2_clear 87 = .ok (.getfield 60, 3) := by decide +kernel
theorem dX2_clear_90 : decode cX2_clear 90 = .ok (.iconst 0, 1) := by decide +kernel
theorem dX2_clear_91 : decode cX2_clear 91 = .ok (.iconst 0, 1) := by decide +kernel
theorem dX2_clear_92 : decode cX2_clear 92 = .ok (.iastore, 1) := by decide +kernel
theorem dX2_clear_93 : decode cX2_clear 93 = .ok (.aload_n 0, 1) := by decide +kernel
theorem dX2_clear_94 : decode cX2_clear 94 = .ok (.getfield 63, 3) := by decide +kernel
theorem dX2_clear_97 : decode cX2_clear 97 = .ok (.iconst 0, 1) := by decide +kernel
theorem dX2_clear_98 : decode cX2_clear 98 = .ok (.iconst 1, 1) := by decide +kernel
theorem dX2_clear_99 : decode cX2_clear 99 = .ok (.iastore, 1) := by decide +kernel
theorem dX2_clear_100 : decode cX2_clear 100 = .ok (.aload_n 0, 1) := by decide +kernel
theorem dX2_clear_101 : decode cX2_clear 101 = .ok (.getfield 60, 3) := by decide +kernel
theorem dX2_clear_104 : decode cX2_clear 104 = .ok (.iconst 1, 1) := by decide +kernel
theorem dX2_clear_105 : decode cX2_clear 105 = .ok (.iconst 1, 1) := by decide +kernel
theorem dX2_clear_106 : decode cX2_clear 106 = .ok (.iastore, 1) := by decide +kernel
theorem dX2_clear_107 : decode cX2_clear 107 = .ok (.aload_n 0, 1) := by decide +kernel
theorem dX2_clear_108 : decode cX2_clear 108 = .ok (.getfield 63, 3) := by decide +kernel
theorem dX2_clear_111 : decode cX2_clear 111 = .ok (.iconst 1, 1) := by decide +kernel
theorem dX2_clear_112 : decode cX2_clear 112 = .ok (.iconst 2, 1) := by decide +kernel
theorem dX2_clear_113 : decode cX2_clear 113 = .ok (.iastore, 1) := by decide +kernel
theorem dX2_clear_114 : decode cX2_clear 114 = .ok (.return_, 1) := by decide +kernel
theorem dX2_keep_0 : decode cX2_keep 0 = .ok (.aload_n 0, 1) := by decide +kernel
theorem dX2_keep_1 : decode cX2_keep 1 = .ok (.getfield 60, 3) := by decide +kernel
theorem dX2_keep_4 : decode cX2_keep 4 = .ok (.iload_n 1, 1) := by decide +kernel
theorem dX2_keep_5 : decode cX2_keep 5 = .ok (.aload_n 0, 1) := by decide +kernel
theorem dX2_keep_6 : decode cX2_keep 6 = .ok (.getfield 56, 3) := by decide +kernel
theorem dX2_keep_9 : decode cX2_keep 9 = .ok (.getfield 82, 3) := by decide +kernel
theorem dX2_keep_12 : decode cX2_keep 12 = .ok (.iastore, 1) := by decide +kernel
theorem dX2_keep_13 : decode cX2_keep 13 = .ok (.aload_n 0, 1) := by decide +kernel
theorem dX2_keep_14 : decode cX2_keep 14 = .ok (.getfield 56, 3) := by decide +kernel
theorem dX2_keep_17 : decode cX2_keep 17 = .ok (.aload_n 2, 1) := by decide +kernel
theorem dX2_keep_18 : decode cX2_keep 18 = .ok (.invokevirtual 89, 3) := by decide +kernel
theorem dX2_keep_21 : decode cX2_keep 21 = .ok (.aload_n 0, 1) := by decide +kernel
theorem dX2_keep_22 : decode cX2_keep 22 = .ok (.getfield 63, 3) := by decide +kernel
theorem dX2_keep_25 : decode cX2_keep 25 = .ok (.iload_n 1, 1) := by decide +kernel
theorem dX2_keep_26 : decode cX2_keep 26 = .ok (.aload_n 0, 1) := by decide +kernel
theorem dX2_keep_27 : decode cX2_keep 27 = .ok (.getfield 56, 3) := by decide +kernel
theorem dX2_keep_30 : decode cX2_keep 30 = .ok (.getfield 82, 3) := by decide +kernel
theorem dX2_keep_33 : decode cX2_keep 33 = .ok (.iastore, 1) := by decide +kernel
theorem dX2_keep_34 : decode cX2_keep 34 = .ok (.return_, 1) := by decide +kernel
theorem dX2_find_0 : decode cX2_find 0 = .ok (.iconst 0, 1) := by decide +kernel
theorem dX2_find_1 : decode cX2_find 1 = .ok (.istore_n 3, 1) := by decide +kernel
theorem dX2_find_2 : decode cX2_find 2 = .ok (.iload_n 3, 1) := by decide +kernel
theorem dX2_find_3 : decode cX2_find 3 = .ok (.aload_n 0, 1) := by decide +kernel
theorem dX2_find_4 : decode cX2_find 4 = .ok (.getfield 13, 3) := by decide +kernel
theorem dX2_find_7 : decode cX2_find 7 = .ok (.iload_n 1, 1) := by decide +kernel
theorem dX2_find_8 : decode cX2_find 8 = .ok (.iaload, 1) := by decide +kernel
theorem dX2_find_9 : decode cX2_find 9 = .ok (.if_icmp .ge 23, 3) := by decide +kernel
theorem dX2_find_12 : decode cX2_find 12 = .ok (.aload_n 0, 1) := by decide +kernel
theorem dX2_find_13 : decode cX2_find 13 = .ok (.getfield 20, 3) := by decide +kernel
theorem dX2_find_16 : decode cX2_find 16 = .ok (.iload_n 1, 1) := by decide +kernel
theorem dX2_find_17 : decode cX2_find 17 = .ok (.aaload, 1) := by decide +kernel
theorem dX2_find_18 : decode cX2_find 18 = .ok (.iload_n 3, 1) := by decide +kernel
theorem dX2_find_19 : decode cX2_find 19 = .ok (.iaload, 1) := by decide +kernel
theorem dX2_find_20 : decode cX2_find 20 = .ok (.iload_n 2, 1) := by decide +kernel
theorem dX2_find_21 : decode cX2_find 21 = .ok (.if_icmp .ne 5, 3) := by decide +kernel
theorem dX2_find_24 : decode cX2_find 24 = .ok (.iload_n 3, 1) := by decide +kernel
theorem dX2_find_25 : decode cX2_find 25 = .ok (.ireturn, 1) := by decide +kernel
theorem dX2_find_26 : decode cX2_find 26 = .ok (.iinc 3 1, 3) := by decide +kernel
theorem dX2_find_29 : decode cX2_find 29 = .ok (.goto (-27), 3) := by decide +kernel
theorem dX2_find_32 : decode cX2_find 32 = .ok (.iconst (-1), 1) := by decide +kernel
theorem dX2_find_33 : decode cX2_find 33 = .ok (.ireturn, 1) := by decide +kernel
theorem dX2_isNear_0 : decode cX2_isNear 0 = .ok (.aload_n 0, 1) := by decide +kernel
theorem dX2_isNear_1 : decode cX2_isNear 1 = .ok (.getfield 32, 3) := by decide +kernel
theorem dX2_isNear_4 : decode cX2_isNear 4 = .ok (.iload_n 1, 1) := by decide +kernel
theorem dX2_isNear_5 : decode cX2_isNear 5 = .ok (.iaload, 1) := by decide +kernel
theorem dX2_isNear_6 : decode cX2_isNear 6 = .ok (.iload_n 2, 1) := by decide +kernel
theorem dX2_isNear_7 : decode cX2_isNear 7 = .ok (.ishr, 1) := by decide +kernel
theorem dX2_isNear_8 : decode cX2_isNear 8 = .ok (.iconst 1, 1) := by decide +kernel
theorem dX2_isNear_9 : decode cX2_isNear 9 = .ok (.iand, 1) := by decide +kernel
theorem dX2_isNear_10 : decode cX2_isNear 10 = .ok (.iconst 1, 1) := by decide +kernel
theorem dX2_isNear_11 : decode cX2_isNear 11 = .ok (.if_icmp .ne 7, 3) := by decide +kernel
theorem dX2_isNear_14 : decode cX2_isNear 14 = .ok (.iconst 1, 1) := by decide +kernel
theorem dX2_isNear_15 : decode cX2_isNear 15 = .ok (.goto 4, 3) := by decide +kernel
theorem dX2_isNear_18 : decode cX2_isNear 18 = .ok (.iconst 0, 1) := by decide +kernel
theorem dX2_isNear_19 : decode cX2_isNear 19 = .ok (.ireturn, 1) := by decide +kernel
theorem dX2_allWishes_0 : decode cX2_allWishes 0 = .ok (.iconst 0, 1) := by decide +kernel
theorem dX2_allWishes_1 : decode cX2_allWishes 1 = .ok (.istore_n 2, 1) := by decide +kernel
theorem dX2_allWishes_2 : decode cX2_allWishes 2 = .ok (.iconst 0, 1) := by decide +kernel
theorem dX2_allWishes_3 : decode cX2_allWishes 3 = .ok (.istore_n 3, 1) := by decide +kernel
theorem dX2_allWishes_4 : decode cX2_allWishes 4 = .ok (.iload_n 3, 1) := by decide +kernel
theorem dX2_allWishes_5 : decode cX2_allWishes 5 = .ok (.aload_n 0, 1) := by decide +kernel
theorem dX2_allWishes_6 : decode cX2_allWishes 6 = .ok (.getfield 13, 3) := by decide +kernel
theorem dX2_allWishes_9 : decode cX2_allWishes 9 = .ok (.iconst 1, 1) := by decide +kernel
theorem dX2_allWishes_10 : decode cX2_allWishes 10 = .ok (.iaload, 1) := by decide +kernel
theorem dX2_allWishes_11 : decode cX2_allWishes 11 = .ok (.if_icmp .ge 20, 3) := by decide +kernel
theorem dX2_allWishes_14 : decode cX2_allWishes 14 = .ok (.iload_n 2, 1) := by decide +kernel
theorem dX2_allWishes_15 : decode cX2_allWishes 15 = .ok (.aload_n 0, 1) := by decide +kernel
theorem dX2_allWishes_16 : decode cX2_allWishes 16 = .ok (.getfield 35, 3) := by decide +kernel
theorem dX2_allWishes_19 : decode cX2_allWishes 19 = .ok (.iload_n 1, 1) := by decide +kernel
theorem dX2_allWishes_20 : decode cX2_allWishes 20 = .ok (.aaload, 1) := by decide +kernel
theorem dX2_allWishes_21 : decode cX2_allWishes 21 = .ok (.iload_n 3, 1) := by decide +kernel
theorem dX2_allWishes_22 : decode cX2_allWishes 22 = .ok (.iaload, 1) := by decide +kernel
theorem dX2_allWishes_23 : decode cX2_allWishes 23 = .ok (.iadd, 1) := by decide +kernel
theorem dX2_allWishes_24 : decode cX2_allWishes 24 = .ok (.istore_n 2, 1) := by decide +kernel
theorem dX2_allWishes_25 : decode cX2_allWishes 25 = .ok (.iinc 3 1, 3) := by decide +kernel
theorem dX2_allWishes_28 : decode cX2_allWishes 28 = .ok (.goto (-24), 3) := by decide +kernel
theorem dX2_allWishes_31 : decode cX2_allWishes 31 = .ok (.iload_n 2, 1) := by decide +kernel
theorem dX2_allWishes_32 : decode cX2_allWishes 32 = .ok (.ireturn, 1) := by decide +kernel
theorem dX2_lossFrom_0 : decode cX2_lossFrom 0 = .ok (.iconst 0, 1) := by decide +kernel
theorem dX2_lossFrom_1 : decode cX2_lossFrom 1 = .ok (.istore_n 2, 1) := by decide +kernel
theorem dX2_lossFrom_2 : decode cX2_lossFrom 2 = .ok (.iconst 0, 1) := by decide +kernel
theorem dX2_lossFrom_3 : decode cX2_lossFrom 3 = .ok (.istore_n 3, 1) := by decide +kernel
theorem dX2_lossFrom_4 : decode cX2_lossFrom 4 = .ok (.iload_n 3, 1) := by decide +kernel
theorem dX2_lossFrom_5 : decode cX2_lossFrom 5 = .ok (.aload_n 0, 1) := by decide +kernel
theorem dX2_lossFrom_6 : decode cX2_lossFrom 6 = .ok (.getfield 13, 3) := by decide +kernel
theorem dX2_lossFrom_9 : decode cX2_lossFrom 9 = .ok (.iconst 0, 1) := by decide +kernel
theorem dX2_lossFrom_10 : decode cX2_lossFrom 10 = .ok (.iaload, 1) := by decide +kernel
theorem dX2_lossFrom_11 : decode cX2_lossFrom 11 = .ok (.if_icmp .ge 45, 3) := by decide +kernel
theorem dX2_lossFrom_14 : decode cX2_lossFrom 14 = .ok (.iload_n 2, 1) := by decide +kernel
theorem dX2_lossFrom_15 : decode cX2_lossFrom 15 = .ok (.aload_n 0, 1) := by decide +kernel
theorem dX2_lossFrom_16 : decode cX2_lossFrom 16 = .ok (.getfield 29, 3) := by decide +kernel
theorem dX2_lossFrom_19 : decode cX2_lossFrom 19 = .ok (.iload_n 3, 1) := by decide +kernel
theorem dX2_lossFrom_20 : decode cX2_lossFrom 20 = .ok (.iaload, 1) := by decide +kernel
theorem dX2_lossFrom_21 : decode cX2_lossFrom 21 = .ok (.iload_n 1, 1) := by decide +kernel
theorem dX2_lossFrom_22 : decode cX2_lossFrom 22 = .ok (.if_icmp .lt 15, 3) := by decide +kernel
theorem dX2_lossFrom_25 : decode cX2_lossFrom 25 = .ok (.bipush 10, 2) := by decide +kernel
theorem dX2_lossFrom_27 : decode cX2_lossFrom 27 = .ok (.aload_n 0, 1) := by decide +kernel
theorem dX2_lossFrom_28 : decode cX2_lossFrom 28 = .ok (.getfield 29, 3) := by decide +kernel
theorem dX2_lossFrom_31 : decode cX2_lossFrom 31 = .ok (.iload_n 3, 1) := by decide +kernel
theorem dX2_lossFrom_32 : decode cX2_lossFrom 32 = .ok (.iaload, 1) := by decide +kernel
theorem dX2_lossFrom_33 : decode cX2_lossFrom 33 = .ok (.isub, 1) := by decide +kernel
theorem dX2_lossFrom_34 : decode cX2_lossFrom 34 = .ok (.goto 14, 3) := by decide +kernel
theorem dX2_lossFrom_37 : decode cX2_lossFrom 37 = .ok (.aload_n 0, 1) := by decide +kernel
theorem dX2_lossFrom_38 : decode cX2_lossFrom 38 = .ok (.getfield 75, 3) := by decide +kernel
theorem dX2_lossFrom_41 : decode cX2_lossFrom 41 = .ok (.aload_n 0, 1) := by decide +kernel
theorem dX2_lossFrom_42 : decode cX2_lossFrom 42 = .ok (.getfield 29, 3) := by decide +kernel
theorem dX2_lossFrom_45 : decode cX2_lossFrom 45 = .ok (.iload_n 3, 1) := by decide +kernel
theorem dX2_lossFrom_46 : decode cX2_lossFrom 46 = .ok (.iaload, 1) := by decide +kernel
theorem dX2_lossFrom_47 : decode cX2_lossFrom 47 = .ok (.imul, 1) := by decide +kernel
theorem dX2_lossFrom_48 : decode cX2_lossFrom 48 = .ok (.iadd, 1) := by decide +kernel
theorem dX2_lossFrom_49 : decode cX2_lossFrom 49 = .ok (.istore_n 2, 1) := by decide +kernel
theorem dX2_lossFrom_50 : decode cX2_lossFrom 50 = .ok (.iinc 3 1, 3) := by decide +kernel
theorem dX2_lossFrom_53 : decode cX2_lossFrom 53 = .ok (.goto (-49), 3) := by decide +kernel
theorem dX2_lossFrom_56 : decode cX2_lossFrom 56 = .ok (.iload_n 2, 1) := by decide +kernel
theorem dX2_lossFrom_57 : decode cX2_lossFrom 57 = .ok (.ireturn, 1) := by decide +kernel
theorem dX8_begin_0 : decode cX8_begin 0 = .ok (.aload_n 0, 1) := by decide +kernel
theorem dX8_begin_1 : decode cX8_begin 1 = .ok (.iconst 0, 1) := by decide +kernel
theorem dX8_begin_2 : decode cX8_begin 2 = .ok (.putfield 33, 3) := by decide +kernel
theorem dX8_begin_5 : decode cX8_begin 5 = .ok (.aload_n 0, 1) := by decide +kernel
theorem dX8_begin_6 : decode cX8_begin 6 = .ok (.getfield 15, 3) := by decide +kernel
theorem dX8_begin_9 : decode cX8_begin 9 = .ok (.iconst 0, 1) := by decide +kernel
theorem dX8_begin_10 : decode cX8_begin 10 = .ok (.invokestatic 27, 3) := by decide +kernel
theorem dX8_begin_13 : decode cX8_begin 13 = .ok (.aload_n 0, 1) := by decide +kernel
theorem dX8_begin_14 : decode cX8_begin 14 = .ok (.getfield 18, 3) := by decide +kernel
theorem dX8_begin_17 : decode cX8_begin 17 = .ok (.iconst (-1), 1) := by decide +kernel
theorem dX8_begin_18 : decode cX8_begin 18 = .ok (.invokestatic 27, 3) := by decide +kernel
theorem dX8_begin_21 : decode cX8_begin 21 = .ok (.aload_n 0, 1) := by decide +kernel
theorem dX8_begin_22 : decode cX8_begin 22 = .ok (.getfield 21, 3) := by decide +kernel
theorem dX8_begin_25 : decode cX8_begin 25 = .ok (.iconst 0, 1) := by decide +kernel
theorem dX8_begin_26 : decode cX8_begin 26 = .ok (.invokestatic 27, 3) := by decide +kernel
theorem dX8_begin_29 : decode cX8_begin 29 = .ok (.aload_n 0, 1) := by decide +kernel
theorem dX8_begin_30 : decode cX8_begin 30 = .ok (.getfield 24, 3) := by decide +kernel
theorem dX8_begin_33 : decode cX8_begin 33 = .ok (.iconst (-1), 1) := by decide +kernel
theorem dX8_begin_34 : decode cX8_begin 34 = .ok (.invokestatic 27, 3) := by decide +kernel
theorem dX8_begin_37 : decode cX8_begin 37 = .ok (.aload_n 1, 1) := by decide +kernel
theorem dX8_begin_38 : decode cX8_begin 38 = .ok (.getfield 37, 3) := by decide +kernel
theorem dX8_begin_41 : decode cX8_begin 41 = .ok (.iconst 0, 1) := by decide +kernel
theorem dX8_begin_42 : decode cX8_begin 42 = .ok (.aload_n 0, 1) := by decide +kernel
theorem dX8_begin_43 : decode cX8_begin 43 = .ok (.getfield 15, 3) := by decide +kernel
theorem dX8_begin_46 : decode cX8_begin 46 = .ok (.iconst 0, 1) := by decide +kernel
theorem dX8_begin_47 : decode cX8_begin 47 = .ok (.aload_n 1, 1) := by decide +kernel
theorem dX8_begin_48 : decode cX8_begin 48 = .ok (.getfield 40, 3) := by decide +kernel
theorem dX8_begin_51 : decode cX8_begin 51 = .ok (.iconst 1, 1) := by decide +kernel
theorem dX8_begin_52 : decode cX8_begin 52 = .ok (.iaload, 1) := by decide +kernel
theorem dX8_begin_53 : decode cX8_begin 53 = .ok (.invokestatic 43, 3) := by decide +kernel
theorem dX8_begin_56 : decode cX8_begin 56 = .ok (.aload_n 0, 1) := by decide +kernel
theorem dX8_begin_57 : decode cX8_begin 57 = .ok (.aload_n 1, 1) := by decide +kernel
theorem dX8_begin_58 : decode cX8_begin 58 = .ok (.invokevirtual 49, 3) := by decide +kernel
theorem dX8_begin_61 : decode cX8_begin 61 = .ok (.return_, 1) := by decide +kernel
theorem dX8_rest_0 : decode cX8_rest 0 = .ok (.aload_n 0, 1) := by decide +kernel
theorem dX8_rest_1 : decode cX8_rest 1 = .ok (.getfield 9, 3) := by decide +kernel
theorem dX8_rest_4 : decode cX8_rest 4 = .ok (.iconst 0, 1) := by decide +kernel
theorem dX8_rest_5 : decode cX8_rest 5 = .ok (.invokestatic 27, 3) := by decide +kernel
theorem dX8_rest_8 : decode cX8_rest 8 = .ok (.aload_n 1, 1) := by decide +kernel
theorem dX8_rest_9 : decode cX8_rest 9 = .ok (.getfield 53, 3) := by decide +kernel
theorem dX8_rest_12 : decode cX8_rest 12 = .ok (.iconst 0, 1) := by decide +kernel
theorem dX8_rest_13 : decode cX8_rest 13 = .ok (.aload_n 0, 1) := by decide +kernel
theorem dX8_rest_14 : decode cX8_rest 14 = .ok (.getfield 9, 3) := by decide +kernel
theorem dX8_rest_17 : decode cX8_rest 17 = .ok (.iconst 0, 1) := by decide +kernel
theorem dX8_rest_18 : decode cX8_rest 18 = .ok (.aload_n 1, 1) := by decide +kernel
theorem dX8_rest_19 : decode cX8_rest 19 = .ok (.getfield 40, 3) := by decide +kernel
theorem dX8_rest_22 : decode cX8_rest 22 = .ok (.iconst 2, 1) := by decide +kernel
theorem dX8_rest_23 : decode cX8_rest 23 = .ok (.iaload, 1) := by decide +kernel
theorem dX8_rest_24 : decode cX8_rest 24 = .ok (.invokestatic 43, 3) := by decide +kernel
theorem dX8_rest_27 : decode cX8_rest 27 = .ok (.return_, 1) := by decide +kernel
theorem dX8_copyFrom_0 : decode cX8_copyFrom 0 = .ok (.aload_n 0, 1) := by decide +kernel
theorem dX8_copyFrom_1 : decode cX8_copyFrom 1 = .ok (.aload_n 1, 1) := by decide +kernel
theorem dX8_copyFrom_2 : decode cX8_copyFrom 2 = .ok (.getfield 33, 3) := by decide +kernel
theorem dX8_copyFrom_5 : decode cX8_copyFrom 5 = .ok (.putfield 33, 3) := by decide +kernel
theorem dX8_copyFrom_8 : decode cX8_copyFrom 8 = .ok (.aload_n 1, 1) := by decide +kernel
theorem dX8_copyFrom_9 : decode cX8_copyFrom 9 = .ok (.getfield 9, 3) := by decide +kernel
theorem dX8_copyFrom_12 : decode cX8_copyFrom 12 = .ok (.iconst 0, 1) := by decide +kernel
theorem dX8_copyFrom_13 : decode cX8_copyFrom 13 = .ok (.aload_n 0, 1) := by decide +kernel
theorem dX8_copyFrom_14 : decode cX8_copyFrom 14 = .ok (.getfield 9, 3) := by decide +kernel
theorem dX8_copyFrom_17 : decode cX8_copyFrom 17 = .ok (.iconst 0, 1) := by decide +kernel
theorem dX8_copyFrom_18 : decode cX8_copyFrom 18 = .ok (.aload_n 0, 1) := by decide +kernel
theorem dX8_copyFrom_19 : decode cX8_copyFrom 19 = .ok (.getfield 9, 3) := by decide +kernel
theorem dX8_copyFrom_22 : decode cX8_copyFrom 22 = .ok (.arraylength, 1) := by decide +kernel
theorem dX8_copyFrom_23 : decode cX8_copyFrom 23 = .ok (.invokestatic 43, 3) := by decide +kernel
theorem dX8_copyFrom_26 : decode cX8_copyFrom 26 = .ok (.aload_n 1, 1) := by decide +kernel
theorem dX8_copyFrom_27 : decode cX8_copyFrom 27 = .ok (.getfield 15, 3) := by decide +kernel
theorem dX8_copyFrom_30 : decode cX8_copyFrom 30 = .ok (.iconst 0, 1) := by decide +kernel
theorem dX8_copyFrom_31 : decode cX8_copyFrom 31 = .ok (.aload_n 0, 1) := by decide +kernel
theorem dX8_copyFrom_32 : decode cX8_copyFrom 32 = .ok (.getfield 15, 3) := by decide +kernel
theorem dX8_copyFrom_35 : decode cX8_copyFrom 35 = .ok (.iconst 0, 1) := by decide +kernel
theorem dX8_copyFrom_36 : decode cX8_copyFrom 36 = .ok (.aload_n 0, 1) := by decide +kernel
theorem dX8_copyFrom_37 : decode cX8_copyFrom 37 = .ok (.getfield 15, 3) := by decide +kernel
theorem dX8_copyFrom_40 : decode cX8_copyFrom 40 = .ok (.arraylength, 1) := by decide +kernel
theorem dX8_copyFrom_41 : decode cX8_copyFrom 41 = .ok (.invokestatic 43, 3) := by decide +kernel
theorem dX8_copyFrom_44 : decode cX8_copyFrom 44 = .ok (.aload_n 1, 1) := by decide +kernel
theorem dX8_copyFrom_45 : decode cX8_copyFrom 45 = .ok (.getfield 18, 3) := by decide +kernel
theorem dX8_copyFrom_48 : decode cX8_copyFrom 48 = .ok (.iconst 0, 1) := by decide +kernel
theorem dX8_copyFrom_49 : decode cX8_copyFrom 49 = .ok (.aload_n 0, 1) := by decide +kernel
theorem dX8_copyFrom_50 : decode cX8_copyFrom 50 = .ok (.getfield 18, 3) := by decide +kernel
theorem dX8_copyFrom_53 : decode cX8_copyFrom 53 = .ok (.iconst 0, 1) := by decide +kernel
theorem dX8_copyFrom_54 : decode cX8_copyFrom 54 = .ok (.aload_n 0, 1) := by decide +kernel
theorem dX8_copyFrom_55 : decode cX8_copyFrom 55 = .ok (.getfield 18, 3) := by decide +kernel
theorem dX8_copyFrom_58 : decode cX8_copyFrom 58 = .ok (.arraylength, 1) := by decide +kernel
theorem dX8_copyFrom_59 : decode cX8_copyFrom 59 = .ok (.invokestatic 43, 3) := by decide +kernel
theorem dX8_copyFrom_62 : decode cX8_copyFrom 62 = .ok (.aload_n 1, 1) := by decide +kernel
theorem dX8_copyFrom_63 : decode cX8_copyFrom 63 = .ok (.getfield 21, 3) := by decide +kernel
theorem dX8_copyFrom_66 : decode cX8_copyFrom 66 = .ok (.iconst 0, 1) := by decide +kernel
theorem dX8_copyFrom_67 : decode cX8_copyFrom 67 = .ok (.aload_n 0, 1) := by decide +kernel
theorem dX8_copyFrom_68 : decode cX8_copyFrom 68 = .ok (.getfield 21, 3) := by decide +kernel
theorem dX8_copyFrom_71 : decode cX8_copyFrom 71 = .ok (.iconst 0, 1) := by decide +kernel
theorem dX8_copyFrom_72 : decode cX8_copyFrom 72 = .ok (.aload_n 0, 1) := by decide +kernel
theorem dX8_copyFrom_73 : decode cX8_copyFrom 73 = .ok (.getfield 21, 3) := by decide +kernel
theorem dX8_copyFrom_76 : decode cX8_copyFrom 76 = .ok (.arraylength, 1) := by decide +kernel
theorem dX8_copyFrom_77 : decode cX8_copyFrom 77 = .ok (.invokestatic 43, 3) := by decide +kernel
theorem dX8_copyFrom_80 : decode cX8_copyFrom 80 = .ok (.aload_n 1, 1) := by decide +kernel
theorem dX8_copyFrom_81 : decode cX8_copyFrom 81 = .ok (.getfield 24, 3) := by decide +kernel
theorem dX8_copyFrom_84 : decode cX8_copyFrom 84 = .ok (.iconst 0, 1) := by decide +kernel
theorem dX8_copyFrom_85 : decode cX8_copyFrom 85 = .ok (.aload_n 0, 1) := by decide +kernel
theorem dX8_copyFrom_86 : decode cX8_copyFrom 86 = .ok (.getfield 24, 3) := by decide +kernel
theorem dX8_copyFrom_89 : decode cX8_copyFrom 89 = .ok (.iconst 0, 1) := by decide +kernel
theorem dX8_copyFrom_90 : decode cX8_copyFrom 90 = .ok (.aload_n 0, 1) := by decide +kernel
theorem dX8_copyFrom_91 : decode cX8_copyFrom 91 = .ok (.getfield 24, 3) := by decide +kernel
theorem dX8_copyFrom_94 : decode cX8_copyFrom 94 = .ok (.arraylength, 1) := by decide +kernel
theorem dX8_copyFrom_95 : decode cX8_copyFrom 95 = .ok (.invokestatic 43, 3) := by decide +kernel
theorem dX8_copyFrom_98 : decode cX8_copyFrom 98 = .ok (.return_, 1) := by decide +kernel
theorem dX8_countDone_0 : decode cX8_countDone 0 = .ok (.bipush 8, 2) := by decide +kernel
theorem dX8_countDone_2 : decode cX8_countDone 2 = .ok (.aload_n 0, 1) := by decide +kernel
theorem dX8_countDone_3 : decode cX8_countDone 3 = .ok (.getfield 18, 3) := by decide +kernel
theorem dX8_countDone_6 : decode cX8_countDone 6 = .ok (.iconst (-1), 1) := by decide +kernel
theorem dX8_countDone_7 : decode cX8_countDone 7 = .ok (.invokestatic 56, 3) := by decide +kernel
theorem dX8_countDone_10 : decode cX8_countDone 10 = .ok (.isub, 1) := by decide +kernel
theorem dX8_countDone_11 : decode cX8_countDone 11 = .ok (.ireturn, 1) := by decide +kernel
theorem dX8_countSheets_0 : decode cX8_countSheets 0 = .ok (.bipush 8, 2) := by decide +kernel
theorem dX8_countSheets_2 : decode cX8_countSheets 2 = .ok (.aload_n 0, 1) := by decide +kernel
theorem dX8_countSheets_3 : decode cX8_countSheets 3 = .ok (.getfield 21, 3) := by decide +kernel
theorem dX8_countSheets_6 : decode cX8_countSheets 6 = .ok (.iconst 0, 1) := by decide +kernel
theorem dX8_countSheets_7 : decode cX8_countSheets 7 = .ok (.invokestatic 56, 3) := by decide +kernel
theorem dX8_countSheets_10 : decode cX8_countSheets 10 = .ok (.isub, 1) := by decide +kernel
theorem dX8_countSheets_11 : decode cX8_countSheets 11 = .ok (.ireturn, 1) := by decide +kernel
theorem dX8_countGiven_0 : decode cX8_countGiven 0 = .ok (.bipush 8, 2) := by decide +kernel
theorem dX8_countGiven_2 : decode cX8_countGiven 2 = .ok (.aload_n 0, 1) := by decide +kernel
theorem dX8_countGiven_3 : decode cX8_countGiven 3 = .ok (.getfield 24, 3) := by decide +kernel
theorem dX8_countGiven_6 : decode cX8_countGiven 6 = .ok (.iconst (-1), 1) := by decide +kernel
theorem dX8_countGiven_7 : decode cX8_countGiven 7 = .ok (.invokestatic 56, 3) := by decide +kernel
theorem dX8_countGiven_10 : decode cX8_countGiven 10 = .ok (.isub, 1) := by decide +kernel
theorem dX8_countGiven_11 : decode cX8_countGiven 11 = .ok (.ireturn, 1) := by decide +kernel
theorem dX8_countLeft_0 : decode cX8_countLeft 0 = .ok (.iconst 0, 1) := by decide +kernel
theorem dX8_countLeft_1 : decode cX8_countLeft 1 = .ok (.istore_n 1, 1) := by decide +kernel
theorem dX8_countLeft_2 : decode cX8_countLeft 2 = .ok (.aload_n 0, 1) := by decide +kernel
theorem dX8_countLeft_3 : decode cX8_countLeft 3 = .ok (.getfield 9, 3) := by decide +kernel
theorem dX8_countLeft_6 : decode cX8_countLeft 6 = .ok (.astore_n 2, 1) := by decide +kernel
theorem dX8_countLeft_7 : decode cX8_countLeft 7 = .ok (.aload_n 2, 1) := by decide +kernel
theorem dX8_countLeft_8 : decode cX8_countLeft 8 = .ok (.arraylength, 1) := by decide +kernel
theorem dX8_countLeft_9 : decode cX8_countLeft 9 = .ok (.istore_n 3, 1) := by decide +kernel
theorem dX8_countLeft_10 : decode cX8_countLeft 10 = .ok (.iconst 0, 1) := by decide +kernel
theorem dX8_countLeft_11 : decode cX8_countLeft 11 = .ok (.istore 4, 2) := by decide +kernel
theorem dX8_countLeft_13 : decode cX8_countLeft 13 = .ok (.iload 4, 2) := by decide +kernel
theorem dX8_countLeft_15 : decode cX8_countLeft 15 = .ok (.iload_n 3, 1) := by decide +kernel
theorem dX8_countLeft_16 : decode cX8_countLeft 16 = .ok (.if_icmp .ge 20, 3) := by decide +kernel
theorem dX8_countLeft_19 : decode cX8_countLeft 19 = .ok (.aload_n 2, 1) := by decide +kernel
theorem dX8_countLeft_20 : decode cX8_countLeft 20 = .ok (.iload 4, 2) := by decide +kernel
theorem dX8_countLeft_22 : decode cX8_countLeft 22 = .ok (.iaload, 1) := by decide +kernel
theorem dX8_countLeft_23 : decode cX8_countLeft 23 = .ok (.istore 5, 2) := by decide +kernel
theorem dX8_countLeft_25 : decode cX8_countLeft 25 = .ok (.iload_n 1, 1) := by decide +kernel
theorem dX8_countLeft_26 : decode cX8_countLeft 26 = .ok (.iload 5, 2) := by decide +kernel
theorem dX8_countLeft_28 : decode cX8_countLeft 28 = .ok (.iadd, 1) := by decide +kernel
theorem dX8_countLeft_29 : decode cX8_countLeft 29 = .ok (.istore_n 1, 1) := by decide +kernel
theorem dX8_countLeft_30 : decode cX8_countLeft 30 = .ok (.iinc 4 1, 3) := by decide +kernel
theorem dX8_countLeft_33 : decode cX8_countLeft 33 = .ok (.goto (-20), 3) := by decide +kernel
theorem dX8_countLeft_36 : decode cX8_countLeft 36 = .ok (.iload_n 1, 1) := by decide +kernel
theorem dX8_countLeft_37 : decode cX8_countLeft 37 = .ok (.ireturn, 1) := by decide +kernel
theorem dX8_doneByHelper_0 : decode cX8_doneByHelper 0 = .ok (.iconst 0, 1) := by decide +kernel
theorem dX8_doneByHelper_1 : decode cX8_doneByHelper 1 = .ok (.istore_n 2, 1) := by decide +kernel
theorem dX8_doneByHelper_2 : decode cX8_doneByHelper 2 = .ok (.iconst 0, 1) := by decide +kernel
theorem dX8_doneByHelper_3 : decode cX8_doneByHelper 3 = .ok (.istore_n 3, 1) := by decide +kernel
theorem dX8_doneByHelper_4 : decode cX8_doneByHelper 4 = .ok (.iload_n 3, 1) := by decide +kernel
theorem dX8_doneByHelper_5 : decode cX8_doneByHelper 5 = .ok (.bipush 8, 2) := by decide +kernel
theorem dX8_doneByHelper_7 : decode cX8_doneByHelper 7 = .ok (.if_icmp .ge 25, 3) := by decide +kernel
theorem dX8_doneByHelper_10 : decode cX8_doneByHelper 10 = .ok (.aload_n 0, 1) := by decide +kernel
theorem dX8_doneByHelper_11 : decode cX8_doneByHelper 11 = .ok (.getfield 18, 3) := by decide +kernel
theorem dX8_doneByHelper_14 : decode cX8_doneByHelper 14 = .ok (.iload_n 3, 1) := by decide +kernel
theorem dX8_doneByHelper_15 : decode cX8_doneByHelper 15 = .ok (.iaload, 1) := by decide +kernel
theorem dX8_doneByHelper_16 : decode cX8_doneByHelper 16 = .ok (.iload_n 1, 1) := by decide +kernel
theorem dX8_doneByHelper_17 : decode cX8_doneByHelper 17 = .ok (.if_icmp .ne 9, 3) := by decide +kernel
theorem dX8_doneByHelper_20 : decode cX8_doneByHelper 20 = .ok (.iload_n 2, 1) := by decide +kernel
theorem dX8_doneByHelper_21 : decode cX8_doneByHelper 21 = .ok (.iconst 1, 1) := by decide +kernel
theorem dX8_doneByHelper_22 : decode cX8_doneByHelper 22 = .ok (.iload_n 3, 1) := by decide +kernel
theorem dX8_doneByHelper_23 : decode cX8_doneByHelper 23 = .ok (.ishl, 1) := by decide +kernel
theorem dX8_doneByHelper_24 : decode cX8_doneByHelper 24 = .ok (.ior, 1) := by decide +kernel
theorem dX8_doneByHelper_25 : decode cX8_doneByHelper 25 = .ok (.istore_n 2, 1) := by decide +kernel
theorem dX8_doneByHelper_26 : decode cX8_doneByHelper 26 = .ok (.iinc 3 1, 3) := by decide +kernel
theorem dX8_doneByHelper_29 : decode cX8_doneByHelper 29 = .ok (.goto (-25), 3) := by decide +kernel
theorem dX8_doneByHelper_32 : decode cX8_doneByHelper 32 = .ok (.iload_n 2, 1) := by decide +kernel
theorem dX8_doneByHelper_33 : decode cX8_doneByHelper 33 = .ok (.ireturn, 1) := by decide +kernel
theorem dX8_hasSheetNear_0 : decode cX8_hasSheetNear 0 = .ok (.iconst 0, 1) := by decide +kernel
theorem dX8_hasSheetNear_1 : decode cX8_hasSheetNear 1 = .ok (.istore 4, 2) := by decide +kernel
theorem dX8_hasSheetNear_3 : decode cX8_hasSheetNear 3 = .ok (.iload 4, 2) := by decide +kernel
theorem dX8_hasSheetNear_5 : decode cX8_hasSheetNear 5 = .ok (.aload_n 1, 1) := by decide +kernel
theorem dX8_hasSheetNear_6 : decode cX8_hasSheetNear 6 = .ok (.getfield 40, 3) := by decide +kernel
theorem dX8_hasSheetNear_9 : decode cX8_hasSheetNear 9 = .ok (.iconst 0, 1) := by decide +kernel
theorem dX8_hasSheetNear_10 : decode cX8_hasSheetNear 10 = .ok (.iaload, 1) := by decide +kernel
theorem dX8_hasSheetNear_11 : decode cX8_hasSheetNear 11 = .ok (.if_icmp .ge 32, 3) := by decide +kernel
theorem dX8_hasSheetNear_14 : decode cX8_hasSheetNear 14 = .ok (.aload_n 1, 1) := by decide +kernel
theorem dX8_hasSheetNear_15 : decode cX8_hasSheetNear 15 = .ok (.iload_n 2, 1) := by decide +kernel
theorem dX8_hasSheetNear_16 : decode cX8_hasSheetNear 16 = .ok (.iload 4, 2) := by decide +kernel
theorem dX8_hasSheetNear_18 : decode cX8_hasSheetNear 18 = .ok (.invokevirtual 60, 3) := by decide +kernel
theorem dX8_hasSheetNear_21 : decode cX8_hasSheetNear 21 = .ok (.ifCond .eq 16, 3) := by decide +kernel
theorem dX8_hasSheetNear_24 : decode cX8_hasSheetNear 24 = .ok (.aload_n 0, 1) := by decide +kernel
theorem dX8_hasSheetNear_25 : decode cX8_hasSheetNear 25 = .ok (.getfield 21, 3) := by decide +kernel
theorem dX8_hasSheetNear_28 : decode cX8_hasSheetNear 28 = .ok (.iload 4, 2) := by decide +kernel
theorem dX8_hasSheetNear_30 : decode cX8_hasSheetNear 30 = .ok (.iaload, 1) := by decide +kernel
theorem dX8_hasSheetNear_31 : decode cX8_hasSheetNear 31 = .ok (.iload_n 3, 1) := by decide +kernel
theorem dX8_hasSheetNear_32 : decode cX8_hasSheetNear 32 = .ok (.if_icmp .ne 5, 3) := by decide +kernel
theorem dX8_hasSheetNear_35 : decode cX8_hasSheetNear 35 = .ok (.iconst 1, 1) := by decide +kernel
theorem dX8_hasSheetNear_36 : decode cX8_hasSheetNear 36 = .ok (.ireturn, 1) := by decide +kernel
theorem dX8_hasSheetNear_37 : decode cX8_hasSheetNear 37 = .ok (.iinc 4 1, 3) := by decide +kernel
theorem dX8_hasSheetNear_40 : decode cX8_hasSheetNear 40 = .ok (.goto (-37), 3) := by decide +kernel
theorem dX8_hasSheetNear_43 : decode cX8_hasSheetNear 43 = .ok (.iconst 0, 1) := by decide +kernel
theorem dX8_hasSheetNear_44 : decode cX8_hasSheetNear 44 = .ok (.ireturn, 1) := by decide +kernel
theorem dX8_canBe_0 : decode cX8_canBe 0 = .ok (.aload_n 0, 1) := by decide +kernel
theorem dX8_canBe_1 : decode cX8_canBe 1 = .ok (.getfield 33, 3) := by decide +kernel
theorem dX8_canBe_4 : decode cX8_canBe 4 = .ok (.sipush 999, 3) := by decide +kernel
theorem dX8_canBe_7 : decode cX8_canBe 7 = .ok (.if_icmp .gt 7, 3) := by decide +kernel
theorem dX8_canBe_10 : decode cX8_canBe 10 = .ok (.iconst 1, 1) := by decide +kernel
theorem dX8_canBe_11 : decode cX8_canBe 11 = .ok (.goto 4, 3) := by decide +kernel
theorem dX8_canBe_14 : decode cX8_canBe 14 = .ok (.iconst 0, 1) := by decide +kernel
theorem dX8_canBe_15 : decode cX8_canBe 15 = .ok (.istore_n 2, 1) := by decide +kernel
theorem dX8_canBe_16 : decode cX8_canBe 16 = .ok (.iconst 0, 1) := by decide +kernel
theorem dX8_canBe_17 : decode cX8_canBe 17 = .ok (.istore_n 3, 1) := by decide +kernel
theorem dX8_canBe_18 : decode cX8_canBe 18 = .ok (.iload_n 3, 1) := by decide +kernel
theorem dX8_canBe_19 : decode cX8_canBe 19 = .ok (.aload_n 1, 1) := by decide +kernel
theorem dX8_canBe_20 : decode cX8_canBe 20 = .ok (.getfield 40, 3) := by decide +kernel
theorem dX8_canBe_23 : decode cX8_canBe 23 = .ok (.iconst 2, 1) := by decide +kernel
theorem dX8_canBe_24 : decode cX8_canBe 24 = .ok (.iaload, 1) := by decide +kernel
theorem dX8_canBe_25 : decode cX8_canBe 25 = .ok (.if_icmp .ge 34, 3) := by decide +kernel
theorem dX8_canBe_28 : decode cX8_canBe 28 = .ok (.iload_n 2, 1) := by decide +kernel
theorem dX8_canBe_29 : decode cX8_canBe 29 = .ok (.ifCond .eq 22, 3) := by decide +kernel
theorem dX8_canBe_32 : decode cX8_canBe 32 = .ok (.aload_n 0, 1) := by decide +kernel
theorem dX8_canBe_33 : decode cX8_canBe 33 = .ok (.getfield 9, 3) := by decide +kernel
theorem dX8_canBe_36 : decode cX8_canBe 36 = .ok (.iload_n 3, 1) := by decide +kernel
theorem dX8_canBe_37 : decode cX8_canBe 37 = .ok (.iaload, 1) := by decide +kernel
theorem dX8_canBe_38 : decode cX8_canBe 38 = .ok (.aload_n 1, 1) := by decide +kernel
theorem dX8_canBe_39 : decode cX8_canBe 39 = .ok (.getfield 53, 3) := by decide +kernel
theorem dX8_canBe_42 : decode cX8_canBe 42 = .ok (.iload_n 3, 1) := by decide +kernel
theorem dX8_canBe_43 : decode cX8_canBe 43 = .ok (.iaload, 1) := by decide +kernel
theorem dX8_canBe_44 : decode cX8_canBe 44 = .ok (.if_icmp .gt 7, 3) := by decide +kernel
theorem dX8_canBe_47 : decode cX8_canBe 47 = .ok (.iconst 1, 1) := by decide +kernel
theorem dX8_canBe_48 : decode cX8_canBe 48 = .ok (.goto 4, 3) := by decide +kernel
theorem dX8_canBe_51 : decode cX8_canBe 51 = .ok (.iconst 0, 1) := by decide +kernel
theorem dX8_canBe_52 : decode cX8_canBe 52 = .ok (.istore_n 2, 1) := by decide +kernel
theorem dX8_canBe_53 : decode cX8_canBe 53 = .ok (.iinc 3 1, 3) := by decide +kernel
theorem dX8_canBe_56 : decode cX8_canBe 56 = .ok (.goto (-38), 3) := by decide +kernel
theorem dX8_canBe_59 : decode cX8_canBe 59 = .ok (.iconst 0, 1) := by decide +kernel
theorem dX8_canBe_60 : decode cX8_canBe 60 = .ok (.istore_n 3, 1) := by decide +kernel
theorem dX8_canBe_61 : decode cX8_canBe 61 = .ok (.iload_n 3, 1) := by decide +kernel
theorem dX8_canBe_62 : decode cX8_canBe 62 = .ok (.aload_n 1, 1) := by decide +kernel
theorem dX8_canBe_63 : decode cX8_canBe 63 = .ok (.getfield 40, 3) := by decide +kernel
theorem dX8_canBe_66 : decode cX8_canBe 66 = .ok (.iconst 1, 1) := by decide +kernel
theorem dX8_canBe_67 : decode cX8_canBe 67 = .ok (.iaload, 1) := by decide +kernel
theorem dX8_canBe_68 : decode cX8_canBe 68 = .ok (.if_icmp .ge 34, 3) := by decide +kernel
theorem dX8_canBe_71 : decode cX8_canBe 71 = .ok (.iload_n 2, 1) := by decide +kernel
theorem dX8_canBe_72 : decode cX8_canBe 72 = .ok (.ifCond .eq 22, 3) := by decide +kernel
theorem dX8_canBe_75 : decode cX8_canBe 75 = .ok (.aload_n 0, 1) := by decide +kernel
theorem dX8_canBe_76 : decode cX8_canBe 76 = .ok (.getfield 15, 3) := by decide +kernel
theorem dX8_canBe_79 : decode cX8_canBe 79 = .ok (.iload_n 3, 1) := by decide +kernel
theorem dX8_canBe_80 : decode cX8_canBe 80 = .ok (.iaload, 1) := by decide +kernel
theorem dX8_canBe_81 : decode cX8_canBe 81 = .ok (.aload_n 1, 1) := by decide +kernel
theorem dX8_canBe_82 : decode cX8_canBe 82 = .ok (.getfield 37, 3) := by decide +kernel
theorem dX8_canBe_85 : decode cX8_canBe 85 = .ok (.iload_n 3, 1) := by decide +kernel
theorem dX8_canBe_86 : decode cX8_canBe 86 = .ok (.iaload, 1) := by decide +kernel
theorem dX8_canBe_87 : decode cX8_canBe 87 = .ok (.if_icmp .gt 7, 3) := by decide +kernel
theorem dX8_canBe_90 : decode cX8_canBe 90 = .ok (.iconst 1, 1) := by decide +kernel
theorem dX8_canBe_91 : decode cX8_canBe 91 = .ok (.goto 4, 3) := by decide +kernel
theorem dX8_canBe_94 : decode cX8_canBe 94 = .ok (.iconst 0, 1) := by decide +kernel
theorem dX8_canBe_95 : decode cX8_canBe 95 = .ok (.istore_n 2, 1) := by decide +kernel
theorem dX8_canBe_96 : decode cX8_canBe 96 = .ok (.iinc 3 1, 3) := by decide +kernel
theorem dX8_canBe_99 : decode cX8_canBe 99 = .ok (.goto (-38), 3) := by decide +kernel
theorem dX8_canBe_102 : decode cX8_canBe 102 = .ok (.iconst 0, 1) := by decide +kernel
theorem dX8_canBe_103 : decode cX8_canBe 103 = .ok (.istore_n 3, 1) := by decide +kernel
theorem dX8_canBe_104 : decode cX8_canBe 104 = .ok (.iload_n 3, 1) := by decide +kernel
theorem dX8_canBe_105 : decode cX8_canBe 105 = .ok (.aload_n 1, 1) := by decide +kernel
theorem dX8_canBe_106 : decode cX8_canBe 106 = .ok (.getfield 40, 3) := by decide +kernel
theorem dX8_canBe_109 : decode cX8_canBe 109 = .ok (.iconst 0, 1) := by decide +kernel
theorem dX8_canBe_110 : decode cX8_canBe 110 = .ok (.iaload, 1) := by decide +kernel
theorem dX8_canBe_111 : decode cX8_canBe 111 = .ok (.if_icmp .ge 28, 3) := by decide +kernel
theorem dX8_canBe_114 : decode cX8_canBe 114 = .ok (.iload_n 2, 1) := by decide +kernel
theorem dX8_canBe_115 : decode cX8_canBe 115 = .ok (.ifCond .eq 16, 3) := by decide +kernel
theorem dX8_canBe_118 : decode cX8_canBe 118 = .ok (.aload_n 0, 1) := by decide +kernel
theorem dX8_canBe_119 : decode cX8_canBe 119 = .ok (.aload_n 1, 1) := by decide +kernel
theorem dX8_canBe_120 : decode cX8_canBe 120 = .ok (.iload_n 3, 1) := by decide +kernel
theorem dX8_canBe_121 : decode cX8_canBe 121 = .ok (.invokevirtual 64, 3) := by decide +kernel
theorem dX8_canBe_124 : decode cX8_canBe 124 = .ok (.ifCond .eq 7, 3) := by decide +kernel
theorem dX8_canBe_127 : decode cX8_canBe 127 = .ok (.iconst 1, 1) := by decide +kernel
theorem dX8_canBe_128 : decode cX8_canBe 128 = .ok (.goto 4, 3) := by decide +kernel
theorem dX8_canBe_131 : decode cX8_canBe 131 = .ok (.iconst 0, 1) := by decide +kernel
theorem dX8_canBe_132 : decode cX8_canBe 132 = .ok (.istore_n 2, 1) := by decide +kernel
theorem dX8_canBe_133 : decode cX8_canBe 133 = .ok (.iinc 3 1, 3) := by decide +kernel
theorem dX8_canBe_136 : decode cX8_canBe 136 = .ok (.goto (-32), 3) := by decide +kernel
theorem dX8_canBe_139 : decode cX8_canBe 139 = .ok (.iload_n 2, 1) := by decide +kernel
theorem dX8_canBe_140 : decode cX8_canBe 140 = .ok (.ireturn, 1) := by decide +kernel
theorem dX8_letterCanBe_0 : decode cX8_letterCanBe 0 = .ok (.aload_n 0, 1) := by decide +kernel
theorem dX8_letterCanBe_1 : decode cX8_letterCanBe 1 = .ok (.getfield 18, 3) := by decide +kernel
theorem dX8_letterCanBe_4 : decode cX8_letterCanBe 4 = .ok (.iload_n 2, 1) := by decide +kernel
theorem dX8_letterCanBe_5 : decode cX8_letterCanBe 5 = .ok (.iaload, 1) := by decide +kernel
theorem dX8_letterCanBe_6 : decode cX8_letterCanBe 6 = .ok (.aload_n 1, 1) := by decide +kernel
theorem dX8_letterCanBe_7 : decode cX8_letterCanBe 7 = .ok (.getfield 40, 3) := by decide +kernel
theorem dX8_letterCanBe_10 : decode cX8_letterCanBe 10 = .ok (.iconst 2, 1) := by decide +kernel
theorem dX8_letterCanBe_11 : decode cX8_letterCanBe 11 = .ok (.iaload, 1) := by decide +kernel
theorem dX8_letterCanBe_12 : decode cX8_letterCanBe 12 = .ok (.if_icmp .ge 56, 3) := by decide +kernel
theorem dX8_letterCanBe_15 : decode cX8_letterCanBe 15 = .ok (.aload_n 0, 1) := by decide +kernel
theorem dX8_letterCanBe_16 : decode cX8_letterCanBe 16 = .ok (.getfield 24, 3) := by decide +kernel
theorem dX8_letterCanBe_19 : decode cX8_letterCanBe 19 = .ok (.iload_n 2, 1) := by decide +kernel
theorem dX8_letterCanBe_20 : decode cX8_letterCanBe 20 = .ok (.iaload, 1) := by decide +kernel
theorem dX8_letterCanBe_21 : decode cX8_letterCanBe 21 = .ok (.aload_n 1, 1) := by decide +kernel
theorem dX8_letterCanBe_22 : decode cX8_letterCanBe 22 = .ok (.getfield 40, 3) := by decide +kernel
theorem dX8_letterCanBe_25 : decode cX8_letterCanBe 25 = .ok (.iconst 1, 1) := by decide +kernel
theorem dX8_letterCanBe_26 : decode cX8_letterCanBe 26 = .ok (.iaload, 1) := by decide +kernel
theorem dX8_letterCanBe_27 : decode cX8_letterCanBe 27 = .ok (.if_icmp .ge 41, 3) := by decide +kernel
theorem dX8_letterCanBe_30 : decode cX8_letterCanBe 30 = .ok (.aload_n 0, 1) := by decide +kernel
theorem dX8_letterCanBe_31 : decode cX8_letterCanBe 31 = .ok (.getfield 21, 3) := by decide +kernel
theorem dX8_letterCanBe_34 : decode cX8_letterCanBe 34 = .ok (.iload_n 2, 1) := by decide +kernel
theorem dX8_letterCanBe_35 : decode cX8_letterCanBe 35 = .ok (.iaload, 1) := by decide +kernel
theorem dX8_letterCanBe_36 : decode cX8_letterCanBe 36 = .ok (.iconst 4, 1) := by decide +kernel
theorem dX8_letterCanBe_37 : decode cX8_letterCanBe 37 = .ok (.if_icmp .gt 31, 3) := by decide +kernel
theorem dX8_letterCanBe_40 : decode cX8_letterCanBe 40 = .ok (.aload_n 0, 1) := by decide +kernel
theorem dX8_letterCanBe_41 : decode cX8_letterCanBe 41 = .ok (.getfield 21, 3) := by decide +kernel
theorem dX8_letterCanBe_44 : decode cX8_letterCanBe 44 = .ok (.iload_n 2, 1) := by decide +kernel
theorem dX8_letterCanBe_45 : decode cX8_letterCanBe 45 = .ok (.iaload, 1) := by decide +kernel
theorem dX8_letterCanBe_46 : decode cX8_letterCanBe 46 = .ok (.ifCond .eq 18, 3) := by decide +kernel
theorem dX8_letterCanBe_49 : decode cX8_letterCanBe 49 = .ok (.aload_n 0, 1) := by decide +kernel
theorem dX8_letterCanBe_50 : decode cX8_letterCanBe 50 = .ok (.aload_n 1, 1) := by decide +kernel
theorem dX8_letterCanBe_51 : decode cX8_letterCanBe 51 = .ok (.iload_n 2, 1) := by decide +kernel
theorem dX8_letterCanBe_52 : decode cX8_letterCanBe 52 = .ok (.aload_n 0, 1) := by decide +kernel
theorem dX8_letterCanBe_53 : decode cX8_letterCanBe 53 = .ok (.getfield 21, 3) := by decide +kernel
theorem dX8_letterCanBe_56 : decode cX8_letterCanBe 56 = .ok (.iload_n 2, 1) := by decide +kernel
theorem dX8_letterCanBe_57 : decode cX8_letterCanBe 57 = .ok (.iaload, 1) := by decide +kernel
theorem dX8_letterCanBe_58 : decode cX8_letterCanBe 58 = .ok (.invokevirtual 68, 3) := by decide +kernel
theorem dX8_letterCanBe_61 : decode cX8_letterCanBe 61 = .ok (.ifCond .ne 7, 3) := by decide +kernel
theorem dX8_letterCanBe_64 : decode cX8_letterCanBe 64 = .ok (.iconst 1, 1) := by decide +kernel
theorem dX8_letterCanBe_65 : decode cX8_letterCanBe 65 = .ok (.goto 4, 3) := by decide +kernel
theorem dX8_letterCanBe_68 : decode cX8_letterCanBe 68 = .ok (.iconst 0, 1) := by decide +kernel
theorem dX8_letterCanBe_69 : decode cX8_letterCanBe 69 = .ok (.ireturn, 1) := by decide +kernel
theorem dX8_countOf_0 : decode cX8_countOf 0 = .ok (.iconst 0, 1) := by decide +kernel
theorem dX8_countOf_1 : decode cX8_countOf 1 = .ok (.istore_n 2, 1) := by decide +kernel
theorem dX8_countOf_2 : decode cX8_countOf 2 = .ok (.aload_n 0, 1) := by decide +kernel
theorem dX8_countOf_3 : decode cX8_countOf 3 = .ok (.astore_n 3, 1) := by decide +kernel
theorem dX8_countOf_4 : decode cX8_countOf 4 = .ok (.aload_n 3, 1) := by decide +kernel
theorem dX8_countOf_5 : decode cX8_countOf 5 = .ok (.arraylength, 1) := by decide +kernel
theorem dX8_countOf_6 : decode cX8_countOf 6 = .ok (.istore 4, 2) := by decide +kernel
theorem dX8_countOf_8 : decode cX8_countOf 8 = .ok (.iconst 0, 1) := by decide +kernel
theorem dX8_countOf_9 : decode cX8_countOf 9 = .ok (.istore 5, 2) := by decide +kernel
theorem dX8_countOf_11 : decode cX8_countOf 11 = .ok (.iload 5, 2) := by decide +kernel
theorem dX8_countOf_13 : decode cX8_countOf 13 = .ok (.iload 4, 2) := by decide +kernel
theorem dX8_countOf_15 : decode cX8_countOf 15 = .ok (.if_icmp .ge 24, 3) := by decide +kernel
theorem dX8_countOf_18 : decode cX8_countOf 18 = .ok (.aload_n 3, 1) := by decide +kernel
theorem dX8_countOf_19 : decode cX8_countOf 19 = .ok (.iload 5, 2) := by decide +kernel
theorem dX8_countOf_21 : decode cX8_countOf 21 = .ok (.iaload, 1) := by decide +kernel
theorem dX8_countOf_22 : decode cX8_countOf 22 = .ok (.istore 6, 2) := by decide +kernel
theorem dX8_countOf_24 : decode cX8_countOf 24 = .ok (.iload 6, 2) := by decide +kernel
theorem dX8_countOf_26 : decode cX8_countOf 26 = .ok (.iload_n 1, 1) := by decide +kernel
theorem dX8_countOf_27 : decode cX8_countOf 27 = .ok (.if_icmp .ne 6, 3) := by decide +kernel
theorem dX8_countOf_30 : decode cX8_countOf 30 = .ok (.iinc 2 1, 3) := by decide +kernel
theorem dX8_countOf_33 : decode cX8_countOf 33 = .ok (.iinc 5 1, 3) := by decide +kernel
theorem dX8_countOf_36 : decode cX8_countOf 36 = .ok (.goto (-25), 3) := by decide +kernel
theorem dX8_countOf_39 : decode cX8_countOf 39 = .ok (.iload_n 2, 1) := by decide +kernel
theorem dX8_countOf_40 : decode cX8_countOf 40 = .ok (.ireturn, 1) := by decide +kernel
theorem dX4_timeOf_0 : decode cX4_timeOf 0 = .ok (.aload_n 0, 1) := by decide +kernel
theorem dX4_timeOf_1 : decode cX4_timeOf 1 = .ok (.aload_n 1, 1) := by decide +kernel
theorem dX4_timeOf_2 : decode cX4_timeOf 2 = .ok (.aload_n 2, 1) := by decide +kernel
theorem dX4_timeOf_3 : decode cX4_timeOf 3 = .ok (.iload_n 3, 1) := by decide +kernel
theorem dX4_timeOf_4 : decode cX4_timeOf 4 = .ok (.invokevirtual 21, 3) := by decide +kernel
theorem dX4_timeOf_7 : decode cX4_timeOf 7 = .ok (.aload_n 0, 1) := by decide +kernel
theorem dX4_timeOf_8 : decode cX4_timeOf 8 = .ok (.getfield 9, 3) := by decide +kernel
theorem dX4_timeOf_11 : decode cX4_timeOf 11 = .ok (.iconst 3, 1) := by decide +kernel
theorem dX4_timeOf_12 : decode cX4_timeOf 12 = .ok (.aload_n 1, 1) := by decide +kernel
theorem dX4_timeOf_13 : decode cX4_timeOf 13 = .ok (.getfield 25, 3) := by decide +kernel
theorem dX4_timeOf_16 : decode cX4_timeOf 16 = .ok (.iload 4, 2) := by decide +kernel
theorem dX4_timeOf_18 : decode cX4_timeOf 18 = .ok (.iaload, 1) := by decide +kernel
theorem dX4_timeOf_19 : decode cX4_timeOf 19 = .ok (.iastore, 1) := by decide +kernel
theorem dX4_timeOf_20 : decode cX4_timeOf 20 = .ok (.aload_n 0, 1) := by decide +kernel
theorem dX4_timeOf_21 : decode cX4_timeOf 21 = .ok (.aload_n 1, 1) := by decide +kernel
theorem dX4_timeOf_22 : decode cX4_timeOf 22 = .ok (.getfield 30, 3) := by decide +kernel
theorem dX4_timeOf_25 : decode cX4_timeOf 25 = .ok (.aload_n 1, 1) := by decide +kernel
theorem dX4_timeOf_26 : decode cX4_timeOf 26 = .ok (.getfield 34, 3) := by decide +kernel
theorem dX4_timeOf_29 : decode cX4_timeOf 29 = .ok (.iconst 0, 1) := by decide +kernel
theorem dX4_timeOf_30 : decode cX4_timeOf 30 = .ok (.iaload, 1) := by decide +kernel
theorem dX4_timeOf_31 : decode cX4_timeOf 31 = .ok (.aload_n 1, 1) := by decide +kernel
theorem dX4_timeOf_32 : decode cX4_timeOf 32 = .ok (.getfield 37, 3) := by decide +kernel
theorem dX4_timeOf_35 : decode cX4_timeOf 35 = .ok (.iconst 0, 1) := by decide +kernel
theorem dX4_timeOf_36 : decode cX4_timeOf 36 = .ok (.iaload, 1) := by decide +kernel
theorem dX4_timeOf_37 : decode cX4_timeOf 37 = .ok (.invokevirtual 40, 3) := by decide +kernel
theorem dX4_timeOf_40 : decode cX4_timeOf 40 = .ok (.istore 5, 2) := by decide +kernel
theorem dX4_timeOf_42 : decode cX4_timeOf 42 = .ok (.iconst 1, 1) := by decide +kernel
theorem dX4_timeOf_43 : decode cX4_timeOf 43 = .ok (.sipush 999, 3) := by decide +kernel
theorem dX4_timeOf_46 : decode cX4_timeOf 46 = .ok (.iload 5, 2) := by decide +kernel
theorem dX4_timeOf_48 : decode cX4_timeOf 48 = .ok (.invokestatic 44, 3) := by decide +kernel
theorem dX4_timeOf_51 : decode cX4_timeOf 51 = .ok (.invokestatic 50, 3) := by decide +kernel
theorem dX4_timeOf_54 : decode cX4_timeOf 54 = .ok (.ireturn, 1) := by decide +kernel
theorem dX4_warmthOf_0 : decode cX4_warmthOf 0 = .ok (.aload_n 0, 1) := by decide +kernel
theorem dX4_warmthOf_1 : decode cX4_warmthOf 1 = .ok (.aload_n 1, 1) := by decide +kernel
theorem dX4_warmthOf_2 : decode cX4_warmthOf 2 = .ok (.aload_n 2, 1) := by decide +kernel
theorem dX4_warmthOf_3 : decode cX4_warmthOf 3 = .ok (.iload_n 3, 1) := by decide +kernel
theorem dX4_warmthOf_4 : decode cX4_warmthOf 4 = .ok (.invokevirtual 21, 3) := by decide +kernel
theorem dX4_warmthOf_7 : decode cX4_warmthOf 7 = .ok (.aload_n 0, 1) := by decide +kernel
theorem dX4_warmthOf_8 : decode cX4_warmthOf 8 = .ok (.getfield 9, 3) := by decide +kernel
theorem dX4_warmthOf_11 : decode cX4_warmthOf 11 = .ok (.iconst 3, 1) := by decide +kernel
theorem dX4_warmthOf_12 : decode cX4_warmthOf 12 = .ok (.aload_n 1, 1) := by decide +kernel
theorem dX4_warmthOf_13 : decode cX4_warmthOf 13 = .ok (.getfield 25, 3) := by decide +kernel
theorem dX4_warmthOf_16 : decode cX4_warmthOf 16 = .ok (.iload 4, 2) := by decide +kernel
theorem dX4_warmthOf_18 : decode cX4_warmthOf 18 = .ok (.iaload, 1) := by decide +kernel
theorem dX4_warmthOf_19 : decode cX4_warmthOf 19 = .ok (.iastore, 1) := by decide +kernel
theorem dX4_warmthOf_20 : decode cX4_warmthOf 20 = .ok (.aload_n 0, 1) := by decide +kernel
theorem dX4_warmthOf_21 : decode cX4_warmthOf 21 = .ok (.aload_n 1, 1) := by decide +kernel
theorem dX4_warmthOf_22 : decode cX4_warmthOf 22 = .ok (.getfield 30, 3) := by decide +kernel
theorem dX4_warmthOf_25 : decode cX4_warmthOf 25 = .ok (.aload_n 1, 1) := by decide +kernel
theorem dX4_warmthOf_26 : decode cX4_warmthOf 26 = .ok (.getfield 34, 3) := by decide +kernel
theorem dX4_warmthOf_29 : decode cX4_warmthOf 29 = .ok (.iconst 1, 1) := by decide +kernel
theorem dX4_warmthOf_30 : decode cX4_warmthOf 30 = .ok (.iaload, 1) := by decide +kernel
theorem dX4_warmthOf_31 : decode cX4_warmthOf 31 = .ok (.aload_n 1, 1) := by decide +kernel
theorem dX4_warmthOf_32 : decode cX4_warmthOf 32 = .ok (.getfield 37, 3) := by decide +kernel
theorem dX4_warmthOf_35 : decode cX4_warmthOf 35 = .ok (.iconst 1, 1) := by decide +kernel
theorem dX4_warmthOf_36 : decode cX4_warmthOf 36 = .ok (.iaload, 1) := by decide +kernel
theorem dX4_warmthOf_37 : decode cX4_warmthOf 37 = .ok (.invokevirtual 40, 3) := by decide +kernel
theorem dX4_warmthOf_40 : decode cX4_warmthOf 40 = .ok (.ireturn, 1) := by decide +kernel
theorem dX4_timeIfAble_0 : decode cX4_timeIfAble 0 = .ok (.aload_n 2, 1) := by decide +kernel
theorem dX4_timeIfAble_1 : decode cX4_timeIfAble 1 = .ok (.getfield 53, 3) := by decide +kernel
theorem dX4_timeIfAble_4 : decode cX4_timeIfAble 4 = .ok (.iload_n 3, 1) := by decide +kernel
theorem dX4_timeIfAble_5 : decode cX4_timeIfAble 5 = .ok (.iaload, 1) := by decide +kernel
theorem dX4_timeIfAble_6 : decode cX4_timeIfAble 6 = .ok (.iconst (-1), 1) := by decide +kernel
theorem dX4_timeIfAble_7 : decode cX4_timeIfAble 7 = .ok (.if_icmp .ne 29, 3) := by decide +kernel
theorem dX4_timeIfAble_10 : decode cX4_timeIfAble 10 = .ok (.aload_n 1, 1) := by decide +kernel
theorem dX4_timeIfAble_11 : decode cX4_timeIfAble 11 = .ok (.getfield 58, 3) := by decide +kernel
theorem dX4_timeIfAble_14 : decode cX4_timeIfAble 14 = .ok (.iload 4, 2) := by decide +kernel
theorem dX4_timeIfAble_16 : decode cX4_timeIfAble 16 = .ok (.iaload, 1) := by decide +kernel
theorem dX4_timeIfAble_17 : decode cX4_timeIfAble 17 = .ok (.aload_n 1, 1) := by decide +kernel
theorem dX4_timeIfAble_18 : decode cX4_timeIfAble 18 = .ok (.getfield 61, 3) := by decide +kernel
theorem dX4_timeIfAble_21 : decode cX4_timeIfAble 21 = .ok (.iload_n 3, 1) := by decide +kernel
theorem dX4_timeIfAble_22 : decode cX4_timeIfAble 22 = .ok (.iaload, 1) := by decide +kernel
theorem dX4_timeIfAble_23 : decode cX4_timeIfAble 23 = .ok (.if_icmp .lt 13, 3) := by decide +kernel
theorem dX4_timeIfAble_26 : decode cX4_timeIfAble 26 = .ok (.aload_n 2, 1) := by decide +kernel
theorem dX4_timeIfAble_27 : decode cX4_timeIfAble 27 = .ok (.getfield 64, 3) := by decide +kernel
theorem dX4_timeIfAble_30 : decode cX4_timeIfAble 30 = .ok (.iload 4, 2) := by decide +kernel
theorem dX4_timeIfAble_32 : decode cX4_timeIfAble 32 = .ok (.iaload, 1) := by decide +kernel
theorem dX4_timeIfAble_33 : decode cX4_timeIfAble 33 = .ok (.ifCond .ne 5, 3) := by decide +kernel
theorem dX4_timeIfAble_36 : decode cX4_timeIfAble 36 = .ok (.iconst (-1), 1) := by decide +kernel
theorem dX4_timeIfAble_37 : decode cX4_timeIfAble 37 = .ok (.ireturn, 1) := by decide +kernel
theorem dX4_timeIfAble_38 : decode cX4_timeIfAble 38 = .ok (.aload_n 0, 1) := by decide +kernel
theorem dX4_timeIfAble_39 : decode cX4_timeIfAble 39 = .ok (.aload_n 1, 1) := by decide +kernel
theorem dX4_timeIfAble_40 : decode cX4_timeIfAble 40 = .ok (.aload_n 2, 1) := by decide +kernel
theorem dX4_timeIfAble_41 : decode cX4_timeIfAble 41 = .ok (.iload_n 3, 1) := by decide +kernel
theorem dX4_timeIfAble_42 : decode cX4_timeIfAble 42 = .ok (.iload 4, 2) := by decide +kernel
theorem dX4_timeIfAble_44 : decode cX4_timeIfAble 44 = .ok (.invokevirtual 67, 3) := by decide +kernel
theorem dX4_timeIfAble_47 : decode cX4_timeIfAble 47 = .ok (.istore 5, 2) := by decide +kernel
theorem dX4_timeIfAble_49 : decode cX4_timeIfAble 49 = .ok (.iload 5, 2) := by decide +kernel
theorem dX4_timeIfAble_51 : decode cX4_timeIfAble 51 = .ok (.aload_n 2, 1) := by decide +kernel
theorem dX4_timeIfAble_52 : decode cX4_timeIfAble 52 = .ok (.getfield 64, 3) := by decide +kernel
theorem dX4_timeIfAble_55 : decode cX4_timeIfAble 55 = .ok (.iload 4, 2) := by decide +kernel
theorem dX4_timeIfAble_57 : decode cX4_timeIfAble 57 = .ok (.iaload, 1) := by decide +kernel
theorem dX4_timeIfAble_58 : decode cX4_timeIfAble 58 = .ok (.if_icmp .gt 8, 3) := by decide +kernel
theorem dX4_timeIfAble_61 : decode cX4_timeIfAble 61 = .ok (.iload 5, 2) := by decide +kernel
theorem dX4_timeIfAble_63 : decode cX4_timeIfAble 63 = .ok (.goto 4, 3) := by decide +kernel
theorem dX4_timeIfAble_66 : decode cX4_timeIfAble 66 = .ok (.iconst (-1), 1) := by decide +kernel
theorem dX4_timeIfAble_67 : decode cX4_timeIfAble 67 = .ok (.ireturn, 1) := by decide +kernel
theorem dX4_valueFor_0 : decode cX4_valueFor 0 = .ok (.aload_n 0, 1) := by decide +kernel
theorem dX4_valueFor_1 : decode cX4_valueFor 1 = .ok (.aload_n 1, 1) := by decide +kernel
theorem dX4_valueFor_2 : decode cX4_valueFor 2 = .ok (.aload_n 2, 1) := by decide +kernel
theorem dX4_valueFor_3 : decode cX4_valueFor 3 = .ok (.iload_n 3, 1) := by decide +kernel
theorem dX4_valueFor_4 : decode cX4_valueFor 4 = .ok (.invokevirtual 21, 3) := by decide +kernel
theorem dX4_valueFor_7 : decode cX4_valueFor 7 = .ok (.aload_n 0, 1) := by decide +kernel
theorem dX4_valueFor_8 : decode cX4_valueFor 8 = .ok (.getfield 9, 3) := by decide +kernel
theorem dX4_valueFor_11 : decode cX4_valueFor 11 = .ok (.iconst 3, 1) := by decide +kernel
theorem dX4_valueFor_12 : decode cX4_valueFor 12 = .ok (.iconst 0, 1) := by decide +kernel
theorem dX4_valueFor_13 : decode cX4_valueFor 13 = .ok (.iastore, 1) := by decide +kernel
theorem dX4_valueFor_14 : decode cX4_valueFor 14 = .ok (.aload_n 0, 1) := by decide +kernel
theorem dX4_valueFor_15 : decode cX4_valueFor 15 = .ok (.aload 4, 2) := by decide +kernel
theorem dX4_valueFor_17 : decode cX4_valueFor 17 = .ok (.iconst 0, 1) := by decide +kernel
theorem dX4_valueFor_18 : decode cX4_valueFor 18 = .ok (.aload 4, 2) := by decide +kernel
theorem dX4_valueFor_20 : decode cX4_valueFor 20 = .ok (.getfield 71, 3) := by decide +kernel
theorem dX4_valueFor_23 : decode cX4_valueFor 23 = .ok (.invokevirtual 40, 3) := by decide +kernel
theorem dX4_valueFor_26 : decode cX4_valueFor 26 = .ok (.ireturn, 1) := by decide +kernel
theorem dX4_lookAt_0 : decode cX4_lookAt 0 = .ok (.aload_n 1, 1) := by decide +kernel
theorem dX4_lookAt_1 : decode cX4_lookAt 1 = .ok (.getfield 77, 3) := by decide +kernel
theorem dX4_lookAt_4 : decode cX4_lookAt 4 = .ok (.iload_n 3, 1) := by decide +kernel
theorem dX4_lookAt_5 : decode cX4_lookAt 5 = .ok (.aaload, 1) := by decide +kernel
theorem dX4_lookAt_6 : decode cX4_lookAt 6 = .ok (.iconst 0, 1) := by decide +kernel
theorem dX4_lookAt_7 : decode cX4_lookAt 7 = .ok (.aload_n 0, 1) := by decide +kernel
theorem dX4_lookAt_8 : decode cX4_lookAt 8 = .ok (.getfield 15, 3) := by decide +kernel
theorem dX4_lookAt_11 : decode cX4_lookAt 11 = .ok (.iconst 0, 1) := by decide +kernel
theorem dX4_lookAt_12 : decode cX4_lookAt 12 = .ok (.aload_n 0, 1) := by decide +kernel
theorem dX4_lookAt_13 : decode cX4_lookAt 13 = .ok (.getfield 15, 3) := by decide +kernel
theorem dX4_lookAt_16 : decode cX4_lookAt 16 = .ok (.arraylength, 1) := by decide +kernel
theorem dX4_lookAt_17 : decode cX4_lookAt 17 = .ok (.invokestatic 81, 3) := by decide +kernel
theorem dX4_lookAt_20 : decode cX4_lookAt 20 = .ok (.aload_n 0, 1) := by decide +kernel
theorem dX4_lookAt_21 : decode cX4_lookAt 21 = .ok (.getfield 9, 3) := by decide +kernel
theorem dX4_lookAt_24 : decode cX4_lookAt 24 = .ok (.iconst 0, 1) := by decide +kernel
theorem dX4_lookAt_25 : decode cX4_lookAt 25 = .ok (.aload_n 1, 1) := by decide +kernel
theorem dX4_lookAt_26 : decode cX4_lookAt 26 = .ok (.getfield 87, 3) := by decide +kernel
theorem dX4_lookAt_29 : decode cX4_lookAt 29 = .ok (.iload_n 3, 1) := by decide +kernel
theorem dX4_lookAt_30 : decode cX4_lookAt 30 = .ok (.iaload, 1) := by decide +kernel
theorem dX4_lookAt_31 : decode cX4_lookAt 31 = .ok (.iastore, 1) := by decide +kernel
theorem dX4_lookAt_32 : decode cX4_lookAt 32 = .ok (.aload_n 0, 1) := by decide +kernel
theorem dX4_lookAt_33 : decode cX4_lookAt 33 = .ok (.getfield 9, 3) := by decide +kernel
theorem dX4_lookAt_36 : decode cX4_lookAt 36 = .ok (.iconst 1, 1) := by decide +kernel
theorem dX4_lookAt_37 : decode cX4_lookAt 37 = .ok (.aload_n 1, 1) := by decide +kernel
theorem dX4_lookAt_38 : decode cX4_lookAt 38 = .ok (.getfield 90, 3) := by decide +kernel
theorem dX4_lookAt_41 : decode cX4_lookAt 41 = .ok (.iload_n 3, 1) := by decide +kernel
theorem dX4_lookAt_42 : decode cX4_lookAt 42 = .ok (.iaload, 1) := by decide +kernel
theorem dX4_lookAt_43 : decode cX4_lookAt 43 = .ok (.iastore, 1) := by decide +kernel
theorem dX4_lookAt_44 : decode cX4_lookAt 44 = .ok (.aload_n 0, 1) := by decide +kernel
theorem dX4_lookAt_45 : decode cX4_lookAt 45 = .ok (.getfield 9, 3) := by decide +kernel
theorem dX4_lookAt_48 : decode cX4_lookAt 48 = .ok (.iconst 2, 1) := by decide +kernel
theorem dX4_lookAt_49 : decode cX4_lookAt 49 = .ok (.aload_n 1, 1) := by decide +kernel
theorem dX4_lookAt_50 : decode cX4_lookAt 50 = .ok (.getfield 61, 3) := by decide +kernel
theorem dX4_lookAt_53 : decode cX4_lookAt 53 = .ok (.iload_n 3, 1) := by decide +kernel
theorem dX4_lookAt_54 : decode cX4_lookAt 54 = .ok (.iaload, 1) := by decide +kernel
theorem dX4_lookAt_55 : decode cX4_lookAt 55 = .ok (.iastore, 1) := by decide +kernel
theorem dX4_lookAt_56 : decode cX4_lookAt 56 = .ok (.aload_n 0, 1) := by decide +kernel
theorem dX4_lookAt_57 : decode cX4_lookAt 57 = .ok (.getfield 9, 3) := by decide +kernel
theorem dX4_lookAt_60 : decode cX4_lookAt 60 = .ok (.iconst 4, 1) := by decide +kernel
theorem dX4_lookAt_61 : decode cX4_lookAt 61 = .ok (.aload_n 1, 1) := by decide +kernel
theorem dX4_lookAt_62 : decode cX4_lookAt 62 = .ok (.iload_n 3, 1) := by decide +kernel
theorem dX4_lookAt_63 : decode cX4_lookAt 63 = .ok (.invokevirtual 93, 3) := by decide +kernel
theorem dX4_lookAt_66 : decode cX4_lookAt 66 = .ok (.iastore, 1) := by decide +kernel
theorem dX4_lookAt_67 : decode cX4_lookAt 67 = .ok (.aload_n 0, 1) := by decide +kernel
theorem dX4_lookAt_68 : decode cX4_lookAt 68 = .ok (.getfield 9, 3) := by decide +kernel
theorem dX4_lookAt_71 : decode cX4_lookAt 71 = .ok (.iconst 5, 1) := by decide +kernel
theorem dX4_lookAt_72 : decode cX4_lookAt 72 = .ok (.aload_n 2, 1) := by decide +kernel
theorem dX4_lookAt_73 : decode cX4_lookAt 73 = .ok (.getfield 97, 3) := by decide +kernel
theorem dX4_lookAt_76 : decode cX4_lookAt 76 = .ok (.iastore, 1) := by decide +kernel
theorem dX4_lookAt_77 : decode cX4_lookAt 77 = .ok (.aload_n 0, 1) := by decide +kernel
theorem dX4_lookAt_78 : decode cX4_lookAt 78 = .ok (.getfield 9, 3) := by decide +kernel
theorem dX4_lookAt_81 : decode cX4_lookAt 81 = .ok (.bipush 6, 2) := by decide +kernel
theorem dX4_lookAt_83 : decode cX4_lookAt 83 = .ok (.iload_n 3, 1) := by decide +kernel
theorem dX4_lookAt_84 : decode cX4_lookAt 84 = .ok (.iastore, 1) := by decide +kernel
theorem dX4_lookAt_85 : decode cX4_lookAt 85 = .ok (.aload_n 0, 1) := by decide +kernel
theorem dX4_lookAt_86 : decode cX4_lookAt 86 = .ok (.getfield 9, 3) := by decide +kernel
theorem dX4_lookAt_89 : decode cX4_lookAt 89 = .ok (.bipush 7, 2) := by decide +kernel
theorem dX4_lookAt_91 : decode cX4_lookAt 91 = .ok (.aload_n 2, 1) := by decide +kernel
theorem dX4_lookAt_92 : decode cX4_lookAt 92 = .ok (.getfield 100, 3) := by decide +kernel
theorem dX4_lookAt_95 : decode cX4_lookAt 95 = .ok (.iload_n 3, 1) := by decide +kernel
theorem dX4_lookAt_96 : decode cX4_lookAt 96 = .ok (.iaload, 1) := by decide +kernel
theorem dX4_lookAt_97 : decode cX4_lookAt 97 = .ok (.iastore, 1) := by decide +kernel
theorem dX4_lookAt_98 : decode cX4_lookAt 98 = .ok (.aload_n 0, 1) := by decide +kernel
theorem dX4_lookAt_99 : decode cX4_lookAt 99 = .ok (.getfield 9, 3) := by decide +kernel
theorem dX4_lookAt_102 : decode cX4_lookAt 102 = .ok (.bipush 8, 2) := by decide +kernel
theorem dX4_lookAt_104 : decode cX4_lookAt 104 = .ok (.aload_n 2, 1) := by decide +kernel
theorem dX4_lookAt_105 : decode cX4_lookAt 105 = .ok (.getfield 53, 3) := by decide +kernel
theorem dX4_lookAt_108 : decode cX4_lookAt 108 = .ok (.iload_n 3, 1) := by decide +kernel
theorem dX4_lookAt_109 : decode cX4_lookAt 109 = .ok (.iaload, 1) := by decide +kernel
theorem dX4_lookAt_110 : decode cX4_lookAt 110 = .ok (.iconst 1, 1) := by decide +kernel
theorem dX4_lookAt_111 : decode cX4_lookAt 111 = .ok (.iadd, 1) := by decide +kernel
theorem dX4_lookAt_112 : decode cX4_lookAt 112 = .ok (.iastore, 1) := by decide +kernel
theorem dX4_lookAt_113 : decode cX4_lookAt 113 = .ok (.aload_n 0, 1) := by decide +kernel
theorem dX4_lookAt_114 : decode cX4_lookAt 114 = .ok (.getfield 9, 3) := by decide +kernel
theorem dX4_lookAt_117 : decode cX4_lookAt 117 = .ok (.bipush 9, 2) := by decide +kernel
theorem dX4_lookAt_119 : decode cX4_lookAt 119 = .ok (.aload_n 2, 1) := by decide +kernel
theorem dX4_lookAt_120 : decode cX4_lookAt 120 = .ok (.getfield 103, 3) := by decide +kernel
theorem dX4_lookAt_123 : decode cX4_lookAt 123 = .ok (.iload_n 3, 1) := by decide +kernel
theorem dX4_lookAt_124 : decode cX4_lookAt 124 = .ok (.iaload, 1) := by decide +kernel
theorem dX4_lookAt_125 : decode cX4_lookAt 125 = .ok (.iconst 1, 1) := by decide +kernel
theorem dX4_lookAt_126 : decode cX4_lookAt 126 = .ok (.iadd, 1) := by decide +kernel
theorem dX4_lookAt_127 : decode cX4_lookAt 127 = .ok (.iastore, 1) := by decide +kernel
theorem dX4_lookAt_128 : decode cX4_lookAt 128 = .ok (.return_, 1) := by decide +kernel
theorem dX4_run_0 : decode cX4_run 0 = .ok (.aload_n 0, 1) := by decide +kernel
theorem dX4_run_1 : decode cX4_run 1 = .ok (.iconst 0, 1) := by decide +kernel
theorem dX4_run_2 : decode cX4_run 2 = .ok (.putfield 106, 3) := by decide +kernel
theorem dX4_run_5 : decode cX4_run 5 = .ok (.iload_n 2, 1) := by decide +kernel
theorem dX4_run_6 : decode cX4_run 6 = .ok (.istore 4, 2) := by decide +kernel
theorem dX4_run_8 : decode cX4_run 8 = .ok (.iload 4, 2) := by decide +kernel
theorem dX4_run_10 : decode cX4_run 10 = .ok (.iload_n 3, 1) := by decide +kernel
theorem dX4_run_11 : decode cX4_run 11 = .ok (.if_icmp .ge 114, 3) := by decide +kernel
theorem dX4_run_14 : decode cX4_run 14 = .ok (.aload_n 1, 1) := by decide +kernel
theorem dX4_run_15 : decode cX4_run 15 = .ok (.getfield 109, 3) := by decide +kernel
theorem dX4_run_18 : decode cX4_run 18 = .ok (.iload 4, 2) := by decide +kernel
theorem dX4_run_20 : decode cX4_run 20 = .ok (.iaload, 1) := by decide +kernel
theorem dX4_run_21 : decode cX4_run 21 = .ok (.istore 5, 2) := by decide +kernel
theorem dX4_run_23 : decode cX4_run 23 = .ok (.iload 5, 2) := by decide +kernel
theorem dX4_run_25 : decode cX4_run 25 = .ok (.ifCond .lt 12, 3) := by decide +kernel
theorem dX4_run_28 : decode cX4_run 28 = .ok (.aload_n 0, 1) := by decide +kernel
theorem dX4_run_29 : decode cX4_run 29 = .ok (.iload 5, 2) := by decide +kernel
theorem dX4_run_31 : decode cX4_run 31 = .ok (.invokevirtual 112, 3) := by decide +kernel
theorem dX4_run_34 : decode cX4_run 34 = .ok (.goto 85, 3) := by decide +kernel
theorem dX4_run_37 : decode cX4_run 37 = .ok (.iload 5, 2) := by decide +kernel
theorem dX4_run_39 : decode cX4_run 39 = .ok (.bipush (-10), 2) := by decide +kernel
theorem dX4_run_41 : decode cX4_run 41 = .ok (.if_icmp .lt 19, 3) := by decide +kernel
theorem dX4_run_44 : decode cX4_run 44 = .ok (.aload_n 0, 1) := by decide +kernel
theorem dX4_run_45 : decode cX4_run 45 = .ok (.aload_n 0, 1) := by decide +kernel
theorem dX4_run_46 : decode cX4_run 46 = .ok (.getfield 9, 3) := by decide +kernel
theorem dX4_run_49 : decode cX4_run 49 = .ok (.iconst (-1), 1) := by decide +kernel
theorem dX4_run_50 : decode cX4_run 50 = .ok (.iload 5, 2) := by decide +kernel
theorem dX4_run_52 : decode cX4_run 52 = .ok (.isub, 1) := by decide +kernel
theorem dX4_run_53 : decode cX4_run 53 = .ok (.iaload, 1) := by decide +kernel
theorem dX4_run_54 : decode cX4_run 54 = .ok (.invokevirtual 112, 3) := by decide +kernel
theorem dX4_run_57 : decode cX4_run 57 = .ok (.goto 62, 3) := by decide +kernel
theorem dX4_run_60 : decode cX4_run 60 = .ok (.iload 5, 2) := by decide +kernel
theorem dX4_run_62 : decode cX4_run 62 = .ok (.bipush (-22), 2) := by decide +kernel
theorem dX4_run_64 : decode cX4_run 64 = .ok (.if_icmp .le 27, 3) := by decide +kernel
theorem dX4_run_67 : decode cX4_run 67 = .ok (.aload_n 0, 1) := by decide +kernel
theorem dX4_run_68 : decode cX4_run 68 = .ok (.invokevirtual 116, 3) := by decide +kernel
theorem dX4_run_71 : decode cX4_run 71 = .ok (.istore 6, 2) := by decide +kernel
theorem dX4_run_73 : decode cX4_run 73 = .ok (.aload_n 0, 1) := by decide +kernel
theorem dX4_run_74 : decode cX4_run 74 = .ok (.iload 5, 2) := by decide +kernel
theorem dX4_run_76 : decode cX4_run 76 = .ok (.aload_n 0, 1) := by decide +kernel
theorem dX4_run_77 : decode cX4_run 77 = .ok (.invokevirtual 116, 3) := by decide +kernel
theorem dX4_run_80 : decode cX4_run 80 = .ok (.iload 6, 2) := by decide +kernel
theorem dX4_run_82 : decode cX4_run 82 = .ok (.invokestatic 120, 3) := by decide +kernel
theorem dX4_run_85 : decode cX4_run 85 = .ok (.invokevirtual 112, 3) := by decide +kernel
theorem dX4_run_88 : decode cX4_run 88 = .ok (.goto 31, 3) := by decide +kernel
theorem dX4_run_91 : decode cX4_run 91 = .ok (.aload_n 0, 1) := by decide +kernel
theorem dX4_run_92 : decode cX4_run 92 = .ok (.iload 5, 2) := by decide +kernel
theorem dX4_run_94 : decode cX4_run 94 = .ok (.bipush (-22), 2) := by decide +kernel
theorem dX4_run_96 : decode cX4_run 96 = .ok (.if_icmp .ne 12, 3) := by decide +kernel
theorem dX4_run_99 : decode cX4_run 99 = .ok (.iconst 1, 1) := by decide +kernel
theorem dX4_run_100 : decode cX4_run 100 = .ok (.aload_n 0, 1) := by decide +kernel
theorem dX4_run_101 : decode cX4_run 101 = .ok (.invokevirtual 116, 3) := by decide +kernel
theorem dX4_run_104 : decode cX4_run 104 = .ok (.isub, 1) := by decide +kernel
theorem dX4_run_105 : decode cX4_run 105 = .ok (.goto 11, 3) := by decide +kernel
theorem dX4_run_108 : decode cX4_run 108 = .ok (.aload_n 0, 1) := by decide +kernel
theorem dX4_run_109 : decode cX4_run 109 = .ok (.aload_n 0, 1) := by decide +kernel
theorem dX4_run_110 : decode cX4_run 110 = .ok (.invokevirtual 116, 3) := by decide +kernel
theorem dX4_run_113 : decode cX4_run 113 = .ok (.invokevirtual 124, 3) := by decide +kernel
theorem dX4_run_116 : decode cX4_run 116 = .ok (.invokevirtual 112, 3) := by decide +kernel
theorem dX4_run_119 : decode cX4_run 119 = .ok (.iinc 4 1, 3) := by decide +kernel
theorem dX4_run_122 : decode cX4_run 122 = .ok (.goto (-114), 3) := by decide +kernel
theorem dX4_run_125 : decode cX4_run 125 = .ok (.aload_n 0, 1) := by decide +kernel
theorem dX4_run_126 : decode cX4_run 126 = .ok (.invokevirtual 116, 3) := by decide +kernel
theorem dX4_run_129 : decode cX4_run 129 = .ok (.ireturn, 1) := by decide +kernel
theorem dX4_push_0 : decode cX4_push 0 = .ok (.aload_n 0, 1) := by decide +kernel
theorem dX4_push_1 : decode cX4_push 1 = .ok (.getfield 106, 3) := by decide +kernel
theorem dX4_push_4 : decode cX4_push 4 = .ok (.aload_n 0, 1) := by decide +kernel
theorem dX4_push_5 : decode cX4_push 5 = .ok (.getfield 18, 3) := by decide +kernel
theorem dX4_push_8 : decode cX4_push 8 = .ok (.arraylength, 1) := by decide +kernel
theorem dX4_push_9 : decode cX4_push 9 = .ok (.if_icmp .ge 20, 3) := by decide +kernel
theorem dX4_push_12 : decode cX4_push 12 = .ok (.aload_n 0, 1) := by decide +kernel
theorem dX4_push_13 : decode cX4_push 13 = .ok (.getfield 18, 3) := by decide +kernel
theorem dX4_push_16 : decode cX4_push 16 = .ok (.aload_n 0, 1) := by decide +kernel
theorem dX4_push_17 : decode cX4_push 17 = .ok (.dup, 1) := by decide +kernel
theorem dX4_push_18 : decode cX4_push 18 = .ok (.getfield 106, 3) := by decide +kernel
theorem dX4_push_21 : decode cX4_push 21 = .ok (.dup_x1, 1) := by decide +kernel
theorem dX4_push_22 : decode cX4_push 22 = .ok (.iconst 1, 1) := by decide +kernel
theorem dX4_push_23 : decode cX4_push 23 = .ok (.iadd, 1) := by decide +kernel
theorem dX4_push_24 : decode cX4_push 24 = .ok (.putfield 106, 3) := by decide +kernel
theorem dX4_push_27 : decode cX4_push 27 = .ok (.iload_n 1, 1) := by decide +kernel
theorem dX4_push_28 : decode cX4_push 28 = .ok (.iastore, 1) := by decide +kernel
theorem dX4_push_29 : decode cX4_push 29 = .ok (.return_, 1) := by decide +kernel
theorem dX4_pop_0 : decode cX4_pop 0 = .ok (.aload_n 0, 1) := by decide +kernel
theorem dX4_pop_1 : decode cX4_pop 1 = .ok (.getfield 106, 3) := by decide +kernel
theorem dX4_pop_4 : decode cX4_pop 4 = .ok (.ifCond .le 22, 3) := by decide +kernel
theorem dX4_pop_7 : decode cX4_pop 7 = .ok (.aload_n 0, 1) := by decide +kernel
theorem dX4_pop_8 : decode cX4_pop 8 = .ok (.getfield 18, 3) := by decide +kernel
theorem dX4_pop_11 : decode cX4_pop 11 = .ok (.aload_n 0, 1) := by decide +kernel
theorem dX4_pop_12 : decode cX4_pop 12 = .ok (.dup, 1) := by decide +kernel
theorem dX4_pop_13 : decode cX4_pop 13 = .ok (.getfield 106, 3) := by decide +kernel
theorem dX4_pop_16 : decode cX4_pop 16 = .ok (.iconst 1, 1) := by decide +kernel
theorem dX4_pop_17 : decode cX4_pop 17 = .ok (.isub, 1) := by decide +kernel
theorem dX4_pop_18 : decode cX4_pop 18 = .ok (.dup_x1, 1) := by decide +kernel
theorem dX4_pop_19 : decode cX4_pop 19 = .ok (.putfield 106, 3) := by decide +kernel
theorem dX4_pop_22 : decode cX4_pop 22 = .ok (.iaload, 1) := by decide +kernel
theorem dX4_pop_23 : decode cX4_pop 23 = .ok (.goto 4, 3) := by decide +kernel
theorem dX4_pop_26 : decode cX4_pop 26 = .ok (.iconst 0, 1) := by decide +kernel
theorem dX4_pop_27 : decode cX4_pop 27 = .ok (.ireturn, 1) := by decide +kernel
theorem dX4_wishOf_0 : decode cX4_wishOf 0 = .ok (.iload_n 1, 1) := by decide +kernel
theorem dX4_wishOf_1 : decode cX4_wishOf 1 = .ok (.ifCond .lt 21, 3) := by decide +kernel
theorem dX4_wishOf_4 : decode cX4_wishOf 4 = .ok (.iload_n 1, 1) := by decide +kernel
theorem dX4_wishOf_5 : decode cX4_wishOf 5 = .ok (.aload_n 0, 1) := by decide +kernel
theorem dX4_wishOf_6 : decode cX4_wishOf 6 = .ok (.getfield 15, 3) := by decide +kernel
theorem dX4_wishOf_9 : decode cX4_wishOf 9 = .ok (.arraylength, 1) := by decide +kernel
theorem dX4_wishOf_10 : decode cX4_wishOf 10 = .ok (.if_icmp .ge 12, 3) := by decide +kernel
theorem dX4_wishOf_13 : decode cX4_wishOf 13 = .ok (.aload_n 0, 1) := by decide +kernel
theorem dX4_wishOf_14 : decode cX4_wishOf 14 = .ok (.getfield 15, 3) := by decide +kernel
theorem dX4_wishOf_17 : decode cX4_wishOf 17 = .ok (.iload_n 1, 1) := by decide +kernel
theorem dX4_wishOf_18 : decode cX4_wishOf 18 = .ok (.iaload, 1) := by decide +kernel
theorem dX4_wishOf_19 : decode cX4_wishOf 19 = .ok (.goto 4, 3) := by decide +kernel
theorem dX4_wishOf_22 : decode cX4_wishOf 22 = .ok (.iconst 0, 1) := by decide +kernel
theorem dX4_wishOf_23 : decode cX4_wishOf 23 = .ok (.ireturn, 1) := by decide +kernel
theorem dX4_pair_0 : decode cX4_pair 0 = .ok (.iload_n 0, 1) := by decide +kernel
theorem dX4_pair_1 : decode cX4_pair 1 = .ok (.tableswitch 155 (-20) (-11) #[151, 140, 129, 118, 107, 96, 82, 73, 64, 55], 55) := by decide +kernel
theorem dX4_pair_56 : decode cX4_pair 56 = .ok (.iload_n 1, 1) := by decide +kernel
theorem dX4_pair_57 : decode cX4_pair 57 = .ok (.i2l, 1) := by decide +kernel
theorem dX4_pair_58 : decode cX4_pair 58 = .ok (.iload_n 2, 1) := by decide +kernel
theorem dX4_pair_59 : decode cX4_pair 59 = .ok (.i2l, 1) := by decide +kernel
theorem dX4_pair_60 : decode cX4_pair 60 = .ok (.ladd, 1) := by decide +kernel
theorem dX4_pair_61 : decode cX4_pair 61 = .ok (.invokestatic 127, 3) := by decide +kernel
theorem dX4_pair_64 : decode cX4_pair 64 = .ok (.ireturn, 1) := by decide +kernel
theorem dX4_pair_65 : decode cX4_pair 65 = .ok (.iload_n 1, 1) := by decide +kernel
theorem dX4_pair_66 : decode cX4_pair 66 = .ok (.i2l, 1) := by decide +kernel
theorem dX4_pair_67 : decode cX4_pair 67 = .ok (.iload_n 2, 1) := by decide +kernel
theorem dX4_pair_68 : decode cX4_pair 68 = .ok (.i2l, 1) := by decide +kernel
theorem dX4_pair_69 : decode cX4_pair 69 = .ok (.lsub, 1) := by decide +kernel
theorem dX4_pair_70 : decode cX4_pair 70 = .ok (.invokestatic 127, 3) := by decide +kernel
theorem dX4_pair_73 : decode cX4_pair 73 = .ok (.ireturn, 1) := by decide +kernel
theorem dX4_pair_74 : decode cX4_pair 74 = .ok (.iload_n 1, 1) := by decide +kernel
theorem dX4_pair_75 : decode cX4_pair 75 = .ok (.i2l, 1) := by decide +kernel
theorem dX4_pair_76 : decode cX4_pair 76 = .ok (.iload_n 2, 1) := by decide +kernel
theorem dX4_pair_77 : decode cX4_pair 77 = .ok (.i2l, 1) := by decide +kernel
theorem dX4_pair_78 : decode cX4_pair 78 = .ok (.lmul, 1) := by decide +kernel
theorem dX4_pair_79 : decode cX4_pair 79 = .ok (.invokestatic 127, 3) := by decide +kernel
theorem dX4_pair_82 : decode cX4_pair 82 = .ok (.ireturn, 1) := by decide +kernel
theorem dX4_pair_83 : decode cX4_pair 83 = .ok (.iload_n 2, 1) := by decide +kernel
theorem dX4_pair_84 : decode cX4_pair 84 = .ok (.ifCond .ne 7, 3) := by decide +kernel
theorem dX4_pair_87 : decode cX4_pair 87 = .ok (.iconst 0, 1) := by decide +kernel
theorem dX4_pair_88 : decode cX4_pair 88 = .ok (.goto 8, 3) := by decide +kernel
theorem dX4_pair_91 : decode cX4_pair 91 = .ok (.iload_n 1, 1) := by decide +kernel
theorem dX4_pair_92 : decode cX4_pair 92 = .ok (.iload_n 2, 1) := by decide +kernel
theorem dX4_pair_93 : decode cX4_pair 93 = .ok (.invokestatic 131, 3) := by decide +kernel
theorem dX4_pair_96 : decode cX4_pair 96 = .ok (.ireturn, 1) := by decide +kernel
theorem dX4_pair_97 : decode cX4_pair 97 = .ok (.iload_n 1, 1) := by decide +kernel
theorem dX4_pair_98 : decode cX4_pair 98 = .ok (.iload_n 2, 1) := by decide +kernel
theorem dX4_pair_99 : decode cX4_pair 99 = .ok (.if_icmp .ge 7, 3) := by decide +kernel
theorem dX4_pair_102 : decode cX4_pair 102 = .ok (.iload_n 1, 1) := by decide +kernel
theorem dX4_pair_103 : decode cX4_pair 103 = .ok (.goto 4, 3) := by decide +kernel
theorem dX4_pair_106 : decode cX4_pair 106 = .ok (.iload_n 2, 1) := by decide +kernel
theorem dX4_pair_107 : decode cX4_pair 107 = .ok (.ireturn, 1) := by decide +kernel
theorem dX4_pair_108 : decode cX4_pair 108 = .ok (.iload_n 1, 1) := by decide +kernel
theorem dX4_pair_109 : decode cX4_pair 109 = .ok (.iload_n 2, 1) := by decide +kernel
theorem dX4_pair_110 : decode cX4_pair 110 = .ok (.if_icmp .le 7, 3) := by decide +kernel
theorem dX4_pair_113 : decode cX4_pair 113 = .ok (.iload_n 1, 1) := by decide +kernel
theorem dX4_pair_114 : decode cX4_pair 114 = .ok (.goto 4, 3) := by decide +kernel
theorem dX4_pair_117 : decode cX4_pair 117 = .ok (.iload_n 2, 1) := by decide +kernel
theorem dX4_pair_118 : decode cX4_pair 118 = .ok (.ireturn, 1) := by decide +kernel
theorem dX4_pair_119 : decode cX4_pair 119 = .ok (.iload_n 1, 1) := by decide +kernel
theorem dX4_pair_120 : decode cX4_pair 120 = .ok (.iload_n 2, 1) := by decide +kernel
theorem dX4_pair_121 : decode cX4_pair 121 = .ok (.if_icmp .ge 7, 3) := by decide +kernel
theorem dX4_pair_124 : decode cX4_pair 124 = .ok (.iconst 1, 1) := by decide +kernel
theorem dX4_pair_125 : decode cX4_pair 125 = .ok (.goto 4, 3) := by decide +kernel
theorem dX4_pair_128 : decode cX4_pair 128 = .ok (.iconst 0, 1) := by decide +kernel
theorem dX4_pair_129 : decode cX4_pair 129 = .ok (.ireturn, 1) := by decide +kernel
theorem dX4_pair_130 : decode cX4_pair 130 = .ok (.iload_n 1, 1) := by decide +kernel
theorem dX4_pair_131 : decode cX4_pair 131 = .ok (.iload_n 2, 1) := by decide +kernel
theorem dX4_pair_132 : decode cX4_pair 132 = .ok (.if_icmp .le 7, 3) := by decide +kernel
theorem dX4_pair_135 : decode cX4_pair 135 = .ok (.iconst 1, 1) := by decide +kernel
theorem dX4_pair_136 : decode cX4_pair 136 = .ok (.goto 4, 3) := by decide +kernel
theorem dX4_pair_139 : decode cX4_pair 139 = .ok (.iconst 0, 1) := by decide +kernel
theorem dX4_pair_140 : decode cX4_pair 140 = .ok (.ireturn, 1) := by decide +kernel
theorem dX4_pair_141 : decode cX4_pair 141 = .ok (.iload_n 1, 1) := by decide +kernel
theorem dX4_pair_142 : decode cX4_pair 142 = .ok (.iload_n 2, 1) := by decide +kernel
theorem dX4_pair_143 : decode cX4_pair 143 = .ok (.if_icmp .ne 7, 3) := by decide +kernel
theorem dX4_pair_146 : decode cX4_pair 146 = .ok (.iconst 1, 1) := by decide +kernel
theorem dX4_pair_147 : decode cX4_pair 147 = .ok (.goto 4, 3) := by decide +kernel
theorem dX4_pair_150 : decode cX4_pair 150 = .ok (.iconst 0, 1) := by decide +kernel
theorem dX4_pair_151 : decode cX4_pair 151 = .ok (.ireturn, 1) := by decide +kernel
theorem dX4_pair_152 : decode cX4_pair 152 = .ok (.iload_n 1, 1) := by decide +kernel
theorem dX4_pair_153 : decode cX4_pair 153 = .ok (.iload_n 2, 1) := by decide +kernel
theorem dX4_pair_154 : decode cX4_pair 154 = .ok (.iand, 1) := by decide +kernel
theorem dX4_pair_155 : decode cX4_pair 155 = .ok (.ireturn, 1) := by decide +kernel
theorem dX4_pair_156 : decode cX4_pair 156 = .ok (.iload_n 1, 1) := by decide +kernel
theorem dX4_pair_157 : decode cX4_pair 157 = .ok (.iload_n 2, 1) := by decide +kernel
theorem dX4_pair_158 : decode cX4_pair 158 = .ok (.ior, 1) := by decide +kernel
theorem dX4_pair_159 : decode cX4_pair 159 = .ok (.ireturn, 1) := by decide +kernel
theorem dX4_kept_0 : decode cX4_kept 0 = .ok (.lload_n 0, 1) := by decide +kernel
theorem dX4_kept_1 : decode cX4_kept 1 = .ok (.ldc2_w 134, 3) := by decide +kernel
theorem dX4_kept_4 : decode cX4_kept 4 = .ok (.lcmp, 1) := by decide +kernel
theorem dX4_kept_5 : decode cX4_kept 5 = .ok (.ifCond .le 6, 3) := by decide +kernel
theorem dX4_kept_8 : decode cX4_kept 8 = .ok (.ldc 136, 2) := by decide +kernel
theorem dX4_kept_10 : decode cX4_kept 10 = .ok (.ireturn, 1) := by decide +kernel
theorem dX4_kept_11 : decode cX4_kept 11 = .ok (.lload_n 0, 1) := by decide +kernel
theorem dX4_kept_12 : decode cX4_kept 12 = .ok (.ldc2_w 137, 3) := by decide +kernel
theorem dX4_kept_15 : decode cX4_kept 15 = .ok (.lcmp, 1) := by decide +kernel
theorem dX4_kept_16 : decode cX4_kept 16 = .ok (.ifCond .ge 8, 3) := by decide +kernel
theorem dX4_kept_19 : decode cX4_kept 19 = .ok (.ldc 139, 2) := by decide +kernel
theorem dX4_kept_21 : decode cX4_kept 21 = .ok (.goto 5, 3) := by decide +kernel
theorem dX4_kept_24 : decode cX4_kept 24 = .ok (.lload_n 0, 1) := by decide +kernel
theorem dX4_kept_25 : decode cX4_kept 25 = .ok (.l2i, 1) := by decide +kernel
theorem dX4_kept_26 : decode cX4_kept 26 = .ok (.ireturn, 1) := by decide +kernel
theorem dX9_readHeapSum_0 : decode cX9_readHeapSum 0 = .ok (.aload_n 0, 1) := by decide +kernel
theorem dX9_readHeapSum_1 : decode cX9_readHeapSum 1 = .ok (.getfield 12, 3) := by decide +kernel
theorem dX9_readHeapSum_4 : decode cX9_readHeapSum 4 = .ok (.iconst 0, 1) := by decide +kernel
theorem dX9_readHeapSum_5 : decode cX9_readHeapSum 5 = .ok (.putfield 22, 3) := by decide +kernel
theorem dX9_readHeapSum_8 : decode cX9_readHeapSum 8 = .ok (.aload_n 0, 1) := by decide +kernel
theorem dX9_readHeapSum_9 : decode cX9_readHeapSum 9 = .ok (.iconst 0, 1) := by decide +kernel
theorem dX9_readHeapSum_10 : decode cX9_readHeapSum 10 = .ok (.putfield 26, 3) := by decide +kernel
theorem dX9_readHeapSum_13 : decode cX9_readHeapSum 13 = .ok (.aload_n 0, 1) := by decide +kernel
theorem dX9_readHeapSum_14 : decode cX9_readHeapSum 14 = .ok (.iconst 0, 1) := by decide +kernel
theorem dX9_readHeapSum_15 : decode cX9_readHeapSum 15 = .ok (.invokevirtual 30, 3) := by decide +kernel
theorem dX9_readHeapSum_18 : decode cX9_readHeapSum 18 = .ok (.istore_n 3, 1) := by decide +kernel
theorem dX9_readHeapSum_19 : decode cX9_readHeapSum 19 = .ok (.aload_n 1, 1) := by decide +kernel
theorem dX9_readHeapSum_20 : decode cX9_readHeapSum 20 = .ok (.iload_n 2, 1) := by decide +kernel
theorem dX9_readHeapSum_21 : decode cX9_readHeapSum 21 = .ok (.aload_n 0, 1) := by decide +kernel
theorem dX9_readHeapSum_22 : decode cX9_readHeapSum 22 = .ok (.getfield 12, 3) := by decide +kernel
theorem dX9_readHeapSum_25 : decode cX9_readHeapSum 25 = .ok (.invokevirtual 34, 3) := by decide +kernel
theorem dX9_readHeapSum_28 : decode cX9_readHeapSum 28 = .ok (.iload_n 3, 1) := by decide +kernel
theorem dX9_readHeapSum_29 : decode cX9_readHeapSum 29 = .ok (.ireturn, 1) := by decide +kernel
theorem dX9_readQuestionSum_0 : decode cX9_readQuestionSum 0 = .ok (.aload_n 0, 1) := by decide +kernel
theorem dX9_readQuestionSum_1 : decode cX9_readQuestionSum 1 = .ok (.getfield 12, 3) := by decide +kernel
theorem dX9_readQuestionSum_4 : decode cX9_readQuestionSum 4 = .ok (.iconst 0, 1) := by decide +kernel
theorem dX9_readQuestionSum_5 : decode cX9_readQuestionSum 5 = .ok (.putfield 22, 3) := by decide +kernel
theorem dX9_readQuestionSum_8 : decode cX9_readQuestionSum 8 = .ok (.aload_n 0, 1) := by decide +kernel
theorem dX9_readQuestionSum_9 : decode cX9_readQuestionSum 9 = .ok (.iconst 1, 1) := by decide +kernel
theorem dX9_readQuestionSum_10 : decode cX9_readQuestionSum 10 = .ok (.putfield 26, 3) := by decide +kernel
theorem dX9_readQuestionSum_13 : decode cX9_readQuestionSum 13 = .ok (.aload_n 0, 1) := by decide +kernel
theorem dX9_readQuestionSum_14 : decode cX9_readQuestionSum 14 = .ok (.iconst 0, 1) := by decide +kernel
theorem dX9_readQuestionSum_15 : decode cX9_readQuestionSum 15 = .ok (.invokevirtual 30, 3) := by decide +kernel
theorem dX9_readQuestionSum_18 : decode cX9_readQuestionSum 18 = .ok (.ireturn, 1) := by decide +kernel
theorem dX9_readTest_0 : decode cX9_readTest 0 = .ok (.aload_n 0, 1) := by decide +kernel
theorem dX9_readTest_1 : decode cX9_readTest 1 = .ok (.getfield 12, 3) := by decide +kernel
theorem dX9_readTest_4 : decode cX9_readTest 4 = .ok (.iconst 0, 1) := by decide +kernel
theorem dX9_readTest_5 : decode cX9_readTest 5 = .ok (.putfield 22, 3) := by decide +kernel
theorem dX9_readTest_8 : decode cX9_readTest 8 = .ok (.aload_n 0, 1) := by decide +kernel
theorem dX9_readTest_9 : decode cX9_readTest 9 = .ok (.iconst 1, 1) := by decide +kernel
theorem dX9_readTest_10 : decode cX9_readTest 10 = .ok (.putfield 26, 3) := by decide +kernel
theorem dX9_readTest_13 : decode cX9_readTest 13 = .ok (.aload_n 0, 1) := by decide +kernel
theorem dX9_readTest_14 : decode cX9_readTest 14 = .ok (.iconst 0, 1) := by decide +kernel
theorem dX9_readTest_15 : decode cX9_readTest 15 = .ok (.invokevirtual 40, 3) := by decide +kernel
theorem dX9_readTest_18 : decode cX9_readTest 18 = .ok (.ireturn, 1) := by decide +kernel
theorem dX9_test_0 : decode cX9_test 0 = .ok (.aload_n 0, 1) := by decide +kernel
theorem dX9_test_1 : decode cX9_test 1 = .ok (.iload_n 1, 1) := by decide +kernel
theorem dX9_test_2 : decode cX9_test 2 = .ok (.invokevirtual 43, 3) := by decide +kernel
theorem dX9_test_5 : decode cX9_test 5 = .ok (.istore_n 2, 1) := by decide +kernel
theorem dX9_test_6 : decode cX9_test 6 = .ok (.iconst 0, 1) := by decide +kernel
theorem dX9_test_7 : decode cX9_test 7 = .ok (.istore_n 3, 1) := by decide +kernel
