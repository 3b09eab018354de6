theorem dX11_give_22 : decode cX11_give 22 = .ok (.aload_n 0, 1) := by decide +kernel
theorem dX11_give_23 : decode cX11_give 23 = .ok (.getfield 49, 3) := by decide +kernel
theorem dX11_give_26 : decode cX11_give 26 = .ok (.getfield 187, 3) := by decide +kernel
theorem dX11_give_29 : decode cX11_give 29 = .ok (.iload_n 1, 1) := by decide +kernel
theorem dX11_give_30 : decode cX11_give 30 = .ok (.iaload, 1) := by decide +kernel
theorem dX11_give_31 : decode cX11_give 31 = .ok (.iconst (-1), 1) := by decide +kernel
theorem dX11_give_32 : decode cX11_give 32 = .ok (.if_icmp .ne 15, 3) := by decide +kernel
theorem dX11_give_35 : decode cX11_give 35 = .ok (.aload_n 0, 1) := by decide +kernel
theorem dX11_give_36 : decode cX11_give 36 = .ok (.getfield 49, 3) := by decide +kernel
theorem dX11_give_39 : decode cX11_give 39 = .ok (.getfield 199, 3) := by decide +kernel
theorem dX11_give_42 : decode cX11_give 42 = .ok (.iload_n 2, 1) := by decide +kernel
theorem dX11_give_43 : decode cX11_give 43 = .ok (.iaload, 1) := by decide +kernel
theorem dX11_give_44 : decode cX11_give 44 = .ok (.ifCond .gt 9, 3) := by decide +kernel
theorem dX11_give_47 : decode cX11_give 47 = .ok (.aload_n 0, 1) := by decide +kernel
theorem dX11_give_48 : decode cX11_give 48 = .ok (.iconst 2, 1) := by decide +kernel
theorem dX11_give_49 : decode cX11_give 49 = .ok (.invokevirtual 108, 3) := by decide +kernel
theorem dX11_give_52 : decode cX11_give 52 = .ok (.ireturn, 1) := by decide +kernel
theorem dX11_give_53 : decode cX11_give 53 = .ok (.aload_n 0, 1) := by decide +kernel
theorem dX11_give_54 : decode cX11_give 54 = .ok (.invokevirtual 307, 3) := by decide +kernel
theorem dX11_give_57 : decode cX11_give 57 = .ok (.aload_n 0, 1) := by decide +kernel
theorem dX11_give_58 : decode cX11_give 58 = .ok (.getfield 49, 3) := by decide +kernel
theorem dX11_give_61 : decode cX11_give 61 = .ok (.getfield 187, 3) := by decide +kernel
theorem dX11_give_64 : decode cX11_give 64 = .ok (.iload_n 1, 1) := by decide +kernel
theorem dX11_give_65 : decode cX11_give 65 = .ok (.iload_n 2, 1) := by decide +kernel
theorem dX11_give_66 : decode cX11_give 66 = .ok (.iastore, 1) := by decide +kernel
theorem dX11_give_67 : decode cX11_give 67 = .ok (.aload_n 0, 1) := by decide +kernel
theorem dX11_give_68 : decode cX11_give 68 = .ok (.getfield 49, 3) := by decide +kernel
theorem dX11_give_71 : decode cX11_give 71 = .ok (.getfield 199, 3) := by decide +kernel
theorem dX11_give_74 : decode cX11_give 74 = .ok (.iload_n 2, 1) := by decide +kernel
theorem dX11_give_75 : decode cX11_give 75 = .ok (.dup2, 1) := by decide +kernel
theorem dX11_give_76 : decode cX11_give 76 = .ok (.iaload, 1) := by decide +kernel
theorem dX11_give_77 : decode cX11_give 77 = .ok (.iconst 1, 1) := by decide +kernel
theorem dX11_give_78 : decode cX11_give 78 = .ok (.isub, 1) := by decide +kernel
theorem dX11_give_79 : decode cX11_give 79 = .ok (.iastore, 1) := by decide +kernel
theorem dX11_give_80 : decode cX11_give 80 = .ok (.aload_n 0, 1) := by decide +kernel
theorem dX11_give_81 : decode cX11_give 81 = .ok (.getfield 49, 3) := by decide +kernel
theorem dX11_give_84 : decode cX11_give 84 = .ok (.getfield 199, 3) := by decide +kernel
theorem dX11_give_87 : decode cX11_give 87 = .ok (.iload_n 2, 1) := by decide +kernel
theorem dX11_give_88 : decode cX11_give 88 = .ok (.iaload, 1) := by decide +kernel
theorem dX11_give_89 : decode cX11_give 89 = .ok (.ireturn, 1) := by decide +kernel
theorem dX11_alike_0 : decode cX11_alike 0 = .ok (.aload_n 0, 1) := by decide +kernel
theorem dX11_alike_1 : decode cX11_alike 1 = .ok (.getfield 19, 3) := by decide +kernel
theorem dX11_alike_4 : decode cX11_alike 4 = .ok (.aload_n 0, 1) := by decide +kernel
theorem dX11_alike_5 : decode cX11_alike 5 = .ok (.getfield 76, 3) := by decide +kernel
theorem dX11_alike_8 : decode cX11_alike 8 = .ok (.aload_n 0, 1) := by decide +kernel
theorem dX11_alike_9 : decode cX11_alike 9 = .ok (.getfield 49, 3) := by decide +kernel
theorem dX11_alike_12 : decode cX11_alike 12 = .ok (.iload_n 1, 1) := by decide +kernel
theorem dX11_alike_13 : decode cX11_alike 13 = .ok (.iload_n 2, 1) := by decide +kernel
theorem dX11_alike_14 : decode cX11_alike 14 = .ok (.invokevirtual 223, 3) := by decide +kernel
theorem dX11_alike_17 : decode cX11_alike 17 = .ok (.istore 4, 2) := by decide +kernel
theorem dX11_alike_19 : decode cX11_alike 19 = .ok (.iconst 0, 1) := by decide +kernel
theorem dX11_alike_20 : decode cX11_alike 20 = .ok (.istore 5, 2) := by decide +kernel
theorem dX11_alike_22 : decode cX11_alike 22 = .ok (.iconst 0, 1) := by decide +kernel
theorem dX11_alike_23 : decode cX11_alike 23 = .ok (.istore 6, 2) := by decide +kernel
theorem dX11_alike_25 : decode cX11_alike 25 = .ok (.iload 6, 2) := by decide +kernel
theorem dX11_alike_27 : decode cX11_alike 27 = .ok (.aload_n 0, 1) := by decide +kernel
theorem dX11_alike_28 : decode cX11_alike 28 = .ok (.getfield 76, 3) := by decide +kernel
theorem dX11_alike_31 : decode cX11_alike 31 = .ok (.getfield 146, 3) := by decide +kernel
theorem dX11_alike_34 : decode cX11_alike 34 = .ok (.iconst 2, 1) := by decide +kernel
theorem dX11_alike_35 : decode cX11_alike 35 = .ok (.iaload, 1) := by decide +kernel
theorem dX11_alike_36 : decode cX11_alike 36 = .ok (.if_icmp .ge 45, 3) := by decide +kernel
theorem dX11_alike_39 : decode cX11_alike 39 = .ok (.iload_n 3, 1) := by decide +kernel
theorem dX11_alike_40 : decode cX11_alike 40 = .ok (.iload 6, 2) := by decide +kernel
theorem dX11_alike_42 : decode cX11_alike 42 = .ok (.ishr, 1) := by decide +kernel
theorem dX11_alike_43 : decode cX11_alike 43 = .ok (.iconst 1, 1) := by decide +kernel
theorem dX11_alike_44 : decode cX11_alike 44 = .ok (.iand, 1) := by decide +kernel
theorem dX11_alike_45 : decode cX11_alike 45 = .ok (.iconst 1, 1) := by decide +kernel
theorem dX11_alike_46 : decode cX11_alike 46 = .ok (.if_icmp .ne 29, 3) := by decide +kernel
theorem dX11_alike_49 : decode cX11_alike 49 = .ok (.aload_n 0, 1) := by decide +kernel
theorem dX11_alike_50 : decode cX11_alike 50 = .ok (.getfield 19, 3) := by decide +kernel
theorem dX11_alike_53 : decode cX11_alike 53 = .ok (.aload_n 0, 1) := by decide +kernel
theorem dX11_alike_54 : decode cX11_alike 54 = .ok (.getfield 76, 3) := by decide +kernel
theorem dX11_alike_57 : decode cX11_alike 57 = .ok (.aload_n 0, 1) := by decide +kernel
theorem dX11_alike_58 : decode cX11_alike 58 = .ok (.getfield 49, 3) := by decide +kernel
theorem dX11_alike_61 : decode cX11_alike 61 = .ok (.iload_n 1, 1) := by decide +kernel
theorem dX11_alike_62 : decode cX11_alike 62 = .ok (.iload 6, 2) := by decide +kernel
theorem dX11_alike_64 : decode cX11_alike 64 = .ok (.invokevirtual 223, 3) := by decide +kernel
theorem dX11_alike_67 : decode cX11_alike 67 = .ok (.iload 4, 2) := by decide +kernel
theorem dX11_alike_69 : decode cX11_alike 69 = .ok (.if_icmp .ne 6, 3) := by decide +kernel
theorem dX11_alike_72 : decode cX11_alike 72 = .ok (.iinc 5 1, 3) := by decide +kernel
theorem dX11_alike_75 : decode cX11_alike 75 = .ok (.iinc 6 1, 3) := by decide +kernel
theorem dX11_alike_78 : decode cX11_alike 78 = .ok (.goto (-53), 3) := by decide +kernel
theorem dX11_alike_81 : decode cX11_alike 81 = .ok (.iload 5, 2) := by decide +kernel
theorem dX11_alike_83 : decode cX11_alike 83 = .ok (.ireturn, 1) := by decide +kernel
theorem dX11_isGift_0 : decode cX11_isGift 0 = .ok (.iload_n 1, 1) := by decide +kernel
theorem dX11_isGift_1 : decode cX11_isGift 1 = .ok (.ifCond .lt 20, 3) := by decide +kernel
theorem dX11_isGift_4 : decode cX11_isGift 4 = .ok (.iload_n 1, 1) := by decide +kernel
theorem dX11_isGift_5 : decode cX11_isGift 5 = .ok (.aload_n 0, 1) := by decide +kernel
theorem dX11_isGift_6 : decode cX11_isGift 6 = .ok (.getfield 76, 3) := by decide +kernel
theorem dX11_isGift_9 : decode cX11_isGift 9 = .ok (.getfield 146, 3) := by decide +kernel
theorem dX11_isGift_12 : decode cX11_isGift 12 = .ok (.iconst 1, 1) := by decide +kernel
theorem dX11_isGift_13 : decode cX11_isGift 13 = .ok (.iaload, 1) := by decide +kernel
theorem dX11_isGift_14 : decode cX11_isGift 14 = .ok (.if_icmp .ge 7, 3) := by decide +kernel
theorem dX11_isGift_17 : decode cX11_isGift 17 = .ok (.iconst 1, 1) := by decide +kernel
theorem dX11_isGift_18 : decode cX11_isGift 18 = .ok (.goto 4, 3) := by decide +kernel
theorem dX11_isGift_21 : decode cX11_isGift 21 = .ok (.iconst 0, 1) := by decide +kernel
theorem dX11_isGift_22 : decode cX11_isGift 22 = .ok (.ireturn, 1) := by decide +kernel
theorem dX11_ask_0 : decode cX11_ask 0 = .ok (.aload_n 0, 1) := by decide +kernel
theorem dX11_ask_1 : decode cX11_ask 1 = .ok (.getfield 101, 3) := by decide +kernel
theorem dX11_ask_4 : decode cX11_ask 4 = .ok (.invokevirtual 323, 3) := by decide +kernel
theorem dX11_ask_7 : decode cX11_ask 7 = .ok (.istore_n 1, 1) := by decide +kernel
theorem dX11_ask_8 : decode cX11_ask 8 = .ok (.aload_n 0, 1) := by decide +kernel
theorem dX11_ask_9 : decode cX11_ask 9 = .ok (.getfield 12, 3) := by decide +kernel
theorem dX11_ask_12 : decode cX11_ask 12 = .ok (.iconst 0, 1) := by decide +kernel
theorem dX11_ask_13 : decode cX11_ask 13 = .ok (.putfield 105, 3) := by decide +kernel
theorem dX11_ask_16 : decode cX11_ask 16 = .ok (.iload_n 1, 1) := by decide +kernel
theorem dX11_ask_17 : decode cX11_ask 17 = .ok (.ifCond .eq 25, 3) := by decide +kernel
theorem dX11_ask_20 : decode cX11_ask 20 = .ok (.aload_n 0, 1) := by decide +kernel
theorem dX11_ask_21 : decode cX11_ask 21 = .ok (.getfield 101, 3) := by decide +kernel
theorem dX11_ask_24 : decode cX11_ask 24 = .ok (.aload_n 0, 1) := by decide +kernel
theorem dX11_ask_25 : decode cX11_ask 25 = .ok (.getfield 76, 3) := by decide +kernel
theorem dX11_ask_28 : decode cX11_ask 28 = .ok (.aload_n 0, 1) := by decide +kernel
theorem dX11_ask_29 : decode cX11_ask 29 = .ok (.getfield 49, 3) := by decide +kernel
theorem dX11_ask_32 : decode cX11_ask 32 = .ok (.aload_n 0, 1) := by decide +kernel
theorem dX11_ask_33 : decode cX11_ask 33 = .ok (.getfield 19, 3) := by decide +kernel
theorem dX11_ask_36 : decode cX11_ask 36 = .ok (.invokevirtual 324, 3) := by decide +kernel
theorem dX11_ask_39 : decode cX11_ask 39 = .ok (.goto 6, 3) := by decide +kernel
theorem dX11_ask_42 : decode cX11_ask 42 = .ok (.ldc2_w 227, 3) := by decide +kernel
theorem dX11_ask_45 : decode cX11_ask 45 = .ok (.lreturn, 1) := by decide +kernel
theorem dX11_seed_0 : decode cX11_seed 0 = .ok (.iload_n 1, 1) := by decide +kernel
theorem dX11_seed_1 : decode cX11_seed 1 = .ok (.ifCond .ge 9, 3) := by decide +kernel
theorem dX11_seed_4 : decode cX11_seed 4 = .ok (.aload_n 0, 1) := by decide +kernel
theorem dX11_seed_5 : decode cX11_seed 5 = .ok (.iconst 5, 1) := by decide +kernel
theorem dX11_seed_6 : decode cX11_seed 6 = .ok (.invokevirtual 116, 3) := by decide +kernel
theorem dX11_seed_9 : decode cX11_seed 9 = .ok (.ireturn, 1) := by decide +kernel
theorem dX11_seed_10 : decode cX11_seed 10 = .ok (.aload_n 0, 1) := by decide +kernel
theorem dX11_seed_11 : decode cX11_seed 11 = .ok (.iload_n 1, 1) := by decide +kernel
theorem dX11_seed_12 : decode cX11_seed 12 = .ok (.putfield 80, 3) := by decide +kernel
theorem dX11_seed_15 : decode cX11_seed 15 = .ok (.iconst 1, 1) := by decide +kernel
theorem dX11_seed_16 : decode cX11_seed 16 = .ok (.ireturn, 1) := by decide +kernel
theorem dX11_tell_0 : decode cX11_tell 0 = .ok (.iload_n 1, 1) := by decide +kernel
theorem dX11_tell_1 : decode cX11_tell 1 = .ok (.ifCond .lt 8, 3) := by decide +kernel
theorem dX11_tell_4 : decode cX11_tell 4 = .ok (.iload_n 1, 1) := by decide +kernel
theorem dX11_tell_5 : decode cX11_tell 5 = .ok (.iconst 1, 1) := by decide +kernel
theorem dX11_tell_6 : decode cX11_tell 6 = .ok (.if_icmp .le 5, 3) := by decide +kernel
theorem dX11_tell_9 : decode cX11_tell 9 = .ok (.iconst (-1), 1) := by decide +kernel
theorem dX11_tell_10 : decode cX11_tell 10 = .ok (.ireturn, 1) := by decide +kernel
theorem dX11_tell_11 : decode cX11_tell 11 = .ok (.iconst 0, 1) := by decide +kernel
theorem dX11_tell_12 : decode cX11_tell 12 = .ok (.istore_n 2, 1) := by decide +kernel
theorem dX11_tell_13 : decode cX11_tell 13 = .ok (.iconst 1, 1) := by decide +kernel
theorem dX11_tell_14 : decode cX11_tell 14 = .ok (.istore_n 3, 1) := by decide +kernel
theorem dX11_tell_15 : decode cX11_tell 15 = .ok (.iload_n 3, 1) := by decide +kernel
theorem dX11_tell_16 : decode cX11_tell 16 = .ok (.bipush 11, 2) := by decide +kernel
theorem dX11_tell_18 : decode cX11_tell 18 = .ok (.if_icmp .gt 30, 3) := by decide +kernel
theorem dX11_tell_21 : decode cX11_tell 21 = .ok (.aload_n 0, 1) := by decide +kernel
theorem dX11_tell_22 : decode cX11_tell 22 = .ok (.getfield 76, 3) := by decide +kernel
theorem dX11_tell_25 : decode cX11_tell 25 = .ok (.iload_n 3, 1) := by decide +kernel
theorem dX11_tell_26 : decode cX11_tell 26 = .ok (.invokevirtual 277, 3) := by decide +kernel
theorem dX11_tell_29 : decode cX11_tell 29 = .ok (.aload_n 0, 1) := by decide +kernel
theorem dX11_tell_30 : decode cX11_tell 30 = .ok (.getfield 76, 3) := by decide +kernel
theorem dX11_tell_33 : decode cX11_tell 33 = .ok (.iload_n 2, 1) := by decide +kernel
theorem dX11_tell_34 : decode cX11_tell 34 = .ok (.invokevirtual 277, 3) := by decide +kernel
theorem dX11_tell_37 : decode cX11_tell 37 = .ok (.if_icmp .ge 5, 3) := by decide +kernel
theorem dX11_tell_40 : decode cX11_tell 40 = .ok (.iload_n 3, 1) := by decide +kernel
theorem dX11_tell_41 : decode cX11_tell 41 = .ok (.istore_n 2, 1) := by decide +kernel
theorem dX11_tell_42 : decode cX11_tell 42 = .ok (.iinc 3 1, 3) := by decide +kernel
theorem dX11_tell_45 : decode cX11_tell 45 = .ok (.goto (-30), 3) := by decide +kernel
theorem dX11_tell_48 : decode cX11_tell 48 = .ok (.iload_n 1, 1) := by decide +kernel
theorem dX11_tell_49 : decode cX11_tell 49 = .ok (.ifCond .ne 7, 3) := by decide +kernel
theorem dX11_tell_52 : decode cX11_tell 52 = .ok (.iload_n 2, 1) := by decide +kernel
theorem dX11_tell_53 : decode cX11_tell 53 = .ok (.goto 11, 3) := by decide +kernel
theorem dX11_tell_56 : decode cX11_tell 56 = .ok (.aload_n 0, 1) := by decide +kernel
theorem dX11_tell_57 : decode cX11_tell 57 = .ok (.getfield 76, 3) := by decide +kernel
theorem dX11_tell_60 : decode cX11_tell 60 = .ok (.iload_n 2, 1) := by decide +kernel
theorem dX11_tell_61 : decode cX11_tell 61 = .ok (.invokevirtual 277, 3) := by decide +kernel
theorem dX11_tell_64 : decode cX11_tell 64 = .ok (.ireturn, 1) := by decide +kernel
theorem dX11_undo_0 : decode cX11_undo 0 = .ok (.aload_n 0, 1) := by decide +kernel
theorem dX11_undo_1 : decode cX11_undo 1 = .ok (.getfield 131, 3) := by decide +kernel
theorem dX11_undo_4 : decode cX11_undo 4 = .ok (.ifCond .ne 9, 3) := by decide +kernel
theorem dX11_undo_7 : decode cX11_undo 7 = .ok (.aload_n 0, 1) := by decide +kernel
theorem dX11_undo_8 : decode cX11_undo 8 = .ok (.iconst 4, 1) := by decide +kernel
theorem dX11_undo_9 : decode cX11_undo 9 = .ok (.invokevirtual 116, 3) := by decide +kernel
theorem dX11_undo_12 : decode cX11_undo 12 = .ok (.ireturn, 1) := by decide +kernel
theorem dX11_undo_13 : decode cX11_undo 13 = .ok (.aload_n 0, 1) := by decide +kernel
theorem dX11_undo_14 : decode cX11_undo 14 = .ok (.dup, 1) := by decide +kernel
theorem dX11_undo_15 : decode cX11_undo 15 = .ok (.getfield 131, 3) := by decide +kernel
theorem dX11_undo_18 : decode cX11_undo 18 = .ok (.iconst 1, 1) := by decide +kernel
theorem dX11_undo_19 : decode cX11_undo 19 = .ok (.isub, 1) := by decide +kernel
theorem dX11_undo_20 : decode cX11_undo 20 = .ok (.putfield 131, 3) := by decide +kernel
theorem dX11_undo_23 : decode cX11_undo 23 = .ok (.aload_n 0, 1) := by decide +kernel
theorem dX11_undo_24 : decode cX11_undo 24 = .ok (.getfield 49, 3) := by decide +kernel
theorem dX11_undo_27 : decode cX11_undo 27 = .ok (.aload_n 0, 1) := by decide +kernel
theorem dX11_undo_28 : decode cX11_undo 28 = .ok (.getfield 56, 3) := by decide +kernel
theorem dX11_undo_31 : decode cX11_undo 31 = .ok (.aload_n 0, 1) := by decide +kernel
theorem dX11_undo_32 : decode cX11_undo 32 = .ok (.getfield 320, 3) := by decide +kernel
theorem dX11_undo_35 : decode cX11_undo 35 = .ok (.aload_n 0, 1) := by decide +kernel
theorem dX11_undo_36 : decode cX11_undo 36 = .ok (.getfield 131, 3) := by decide +kernel
theorem dX11_undo_39 : decode cX11_undo 39 = .ok (.iadd, 1) := by decide +kernel
theorem dX11_undo_40 : decode cX11_undo 40 = .ok (.bipush 20, 2) := by decide +kernel
theorem dX11_undo_42 : decode cX11_undo 42 = .ok (.irem, 1) := by decide +kernel
theorem dX11_undo_43 : decode cX11_undo 43 = .ok (.aaload, 1) := by decide +kernel
theorem dX11_undo_44 : decode cX11_undo 44 = .ok (.invokevirtual 249, 3) := by decide +kernel
theorem dX11_undo_47 : decode cX11_undo 47 = .ok (.iconst 1, 1) := by decide +kernel
theorem dX11_undo_48 : decode cX11_undo 48 = .ok (.ireturn, 1) := by decide +kernel
theorem dX11_checkByte_0 : decode cX11_checkByte 0 = .ok (.bipush 89, 2) := by decide +kernel
theorem dX11_checkByte_2 : decode cX11_checkByte 2 = .ok (.istore_n 2, 1) := by decide +kernel
theorem dX11_checkByte_3 : decode cX11_checkByte 3 = .ok (.iconst 0, 1) := by decide +kernel
theorem dX11_checkByte_4 : decode cX11_checkByte 4 = .ok (.istore_n 3, 1) := by decide +kernel
theorem dX11_checkByte_5 : decode cX11_checkByte 5 = .ok (.iload_n 3, 1) := by decide +kernel
theorem dX11_checkByte_6 : decode cX11_checkByte 6 = .ok (.iload_n 1, 1) := by decide +kernel
theorem dX11_checkByte_7 : decode cX11_checkByte 7 = .ok (.if_icmp .ge 21, 3) := by decide +kernel
theorem dX11_checkByte_10 : decode cX11_checkByte 10 = .ok (.iconst 3, 1) := by decide +kernel
theorem dX11_checkByte_11 : decode cX11_checkByte 11 = .ok (.iload_n 2, 1) := by decide +kernel
theorem dX11_checkByte_12 : decode cX11_checkByte 12 = .ok (.imul, 1) := by decide +kernel
theorem dX11_checkByte_13 : decode cX11_checkByte 13 = .ok (.aload_n 0, 1) := by decide +kernel
theorem dX11_checkByte_14 : decode cX11_checkByte 14 = .ok (.iload_n 3, 1) := by decide +kernel
theorem dX11_checkByte_15 : decode cX11_checkByte 15 = .ok (.iaload, 1) := by decide +kernel
theorem dX11_checkByte_16 : decode cX11_checkByte 16 = .ok (.iadd, 1) := by decide +kernel
theorem dX11_checkByte_17 : decode cX11_checkByte 17 = .ok (.sipush 251, 3) := by decide +kernel
theorem dX11_checkByte_20 : decode cX11_checkByte 20 = .ok (.irem, 1) := by decide +kernel
theorem dX11_checkByte_21 : decode cX11_checkByte 21 = .ok (.istore_n 2, 1) := by decide +kernel
theorem dX11_checkByte_22 : decode cX11_checkByte 22 = .ok (.iinc 3 1, 3) := by decide +kernel
theorem dX11_checkByte_25 : decode cX11_checkByte 25 = .ok (.goto (-20), 3) := by decide +kernel
theorem dX11_checkByte_28 : decode cX11_checkByte 28 = .ok (.iload_n 2, 1) := by decide +kernel
theorem dX11_checkByte_29 : decode cX11_checkByte 29 = .ok (.ireturn, 1) := by decide +kernel
theorem dX11_heap_0 : decode cX11_heap 0 = .ok (.aload_n 0, 1) := by decide +kernel
theorem dX11_heap_1 : decode cX11_heap 1 = .ok (.getfield 94, 3) := by decide +kernel
theorem dX11_heap_4 : decode cX11_heap 4 = .ok (.invokevirtual 120, 3) := by decide +kernel
theorem dX11_heap_7 : decode cX11_heap 7 = .ok (.istore_n 1, 1) := by decide +kernel
theorem dX11_heap_8 : decode cX11_heap 8 = .ok (.aload_n 0, 1) := by decide +kernel
theorem dX11_heap_9 : decode cX11_heap 9 = .ok (.getfield 12, 3) := by decide +kernel
theorem dX11_heap_12 : decode cX11_heap 12 = .ok (.iconst 0, 1) := by decide +kernel
theorem dX11_heap_13 : decode cX11_heap 13 = .ok (.putfield 105, 3) := by decide +kernel
theorem dX11_heap_16 : decode cX11_heap 16 = .ok (.iload_n 1, 1) := by decide +kernel
theorem dX11_heap_17 : decode cX11_heap 17 = .ok (.ifCond .ne 9, 3) := by decide +kernel
theorem dX11_heap_20 : decode cX11_heap 20 = .ok (.aload_n 0, 1) := by decide +kernel
theorem dX11_heap_21 : decode cX11_heap 21 = .ok (.iconst 1, 1) := by decide +kernel
theorem dX11_heap_22 : decode cX11_heap 22 = .ok (.invokevirtual 108, 3) := by decide +kernel
theorem dX11_heap_25 : decode cX11_heap 25 = .ok (.ireturn, 1) := by decide +kernel
theorem dX11_heap_26 : decode cX11_heap 26 = .ok (.aload_n 0, 1) := by decide +kernel
theorem dX11_heap_27 : decode cX11_heap 27 = .ok (.getfield 76, 3) := by decide +kernel
theorem dX11_heap_30 : decode cX11_heap 30 = .ok (.astore_n 2, 1) := by decide +kernel
theorem dX11_heap_31 : decode cX11_heap 31 = .ok (.aload_n 0, 1) := by decide +kernel
theorem dX11_heap_32 : decode cX11_heap 32 = .ok (.aload_n 0, 1) := by decide +kernel
theorem dX11_heap_33 : decode cX11_heap 33 = .ok (.getfield 94, 3) := by decide +kernel
theorem dX11_heap_36 : decode cX11_heap 36 = .ok (.getfield 124, 3) := by decide +kernel
theorem dX11_heap_39 : decode cX11_heap 39 = .ok (.putfield 76, 3) := by decide +kernel
theorem dX11_heap_42 : decode cX11_heap 42 = .ok (.aload_n 0, 1) := by decide +kernel
theorem dX11_heap_43 : decode cX11_heap 43 = .ok (.getfield 94, 3) := by decide +kernel
theorem dX11_heap_46 : decode cX11_heap 46 = .ok (.aload_n 2, 1) := by decide +kernel
theorem dX11_heap_47 : decode cX11_heap 47 = .ok (.putfield 124, 3) := by decide +kernel
theorem dX11_heap_50 : decode cX11_heap 50 = .ok (.aload_n 0, 1) := by decide +kernel
theorem dX11_heap_51 : decode cX11_heap 51 = .ok (.getfield 49, 3) := by decide +kernel
theorem dX11_heap_54 : decode cX11_heap 54 = .ok (.aload_n 0, 1) := by decide +kernel
theorem dX11_heap_55 : decode cX11_heap 55 = .ok (.getfield 76, 3) := by decide +kernel
theorem dX11_heap_58 : decode cX11_heap 58 = .ok (.invokevirtual 127, 3) := by decide +kernel
theorem dX11_heap_61 : decode cX11_heap 61 = .ok (.aload_n 0, 1) := by decide +kernel
theorem dX11_heap_62 : decode cX11_heap 62 = .ok (.iconst 0, 1) := by decide +kernel
theorem dX11_heap_63 : decode cX11_heap 63 = .ok (.putfield 131, 3) := by decide +kernel
theorem dX11_heap_66 : decode cX11_heap 66 = .ok (.aload_n 0, 1) := by decide +kernel
theorem dX11_heap_67 : decode cX11_heap 67 = .ok (.iconst 0, 1) := by decide +kernel
theorem dX11_heap_68 : decode cX11_heap 68 = .ok (.putfield 134, 3) := by decide +kernel
theorem dX11_heap_71 : decode cX11_heap 71 = .ok (.aload_n 0, 1) := by decide +kernel
theorem dX11_heap_72 : decode cX11_heap 72 = .ok (.getfield 94, 3) := by decide +kernel
theorem dX11_heap_75 : decode cX11_heap 75 = .ok (.getfield 137, 3) := by decide +kernel
theorem dX11_heap_78 : decode cX11_heap 78 = .ok (.ireturn, 1) := by decide +kernel
theorem dX11_fault_0 : decode cX11_fault 0 = .ok (.iload_n 1, 1) := by decide +kernel
theorem dX11_fault_1 : decode cX11_fault 1 = .ok (.ifCond .ne 11, 3) := by decide +kernel
theorem dX11_fault_4 : decode cX11_fault 4 = .ok (.aload_n 0, 1) := by decide +kernel
theorem dX11_fault_5 : decode cX11_fault 5 = .ok (.getfield 12, 3) := by decide +kernel
theorem dX11_fault_8 : decode cX11_fault 8 = .ok (.getfield 140, 3) := by decide +kernel
theorem dX11_fault_11 : decode cX11_fault 11 = .ok (.ireturn, 1) := by decide +kernel
theorem dX11_fault_12 : decode cX11_fault 12 = .ok (.iload_n 1, 1) := by decide +kernel
theorem dX11_fault_13 : decode cX11_fault 13 = .ok (.iconst 1, 1) := by decide +kernel
theorem dX11_fault_14 : decode cX11_fault 14 = .ok (.if_icmp .ne 13, 3) := by decide +kernel
theorem dX11_fault_17 : decode cX11_fault 17 = .ok (.aload_n 0, 1) := by decide +kernel
theorem dX11_fault_18 : decode cX11_fault 18 = .ok (.getfield 12, 3) := by decide +kernel
theorem dX11_fault_21 : decode cX11_fault 21 = .ok (.getfield 143, 3) := by decide +kernel
theorem dX11_fault_24 : decode cX11_fault 24 = .ok (.goto 4, 3) := by decide +kernel
theorem dX11_fault_27 : decode cX11_fault 27 = .ok (.iconst (-1), 1) := by decide +kernel
theorem dX11_fault_28 : decode cX11_fault 28 = .ok (.ireturn, 1) := by decide +kernel
theorem dX11_shared_0 : decode cX11_shared 0 = .ok (.iload_n 1, 1) := by decide +kernel
theorem dX11_shared_1 : decode cX11_shared 1 = .ok (.iconst (-1), 1) := by decide +kernel
theorem dX11_shared_2 : decode cX11_shared 2 = .ok (.if_icmp .eq 13, 3) := by decide +kernel
theorem dX11_shared_5 : decode cX11_shared 5 = .ok (.aload_n 0, 1) := by decide +kernel
theorem dX11_shared_6 : decode cX11_shared 6 = .ok (.iload_n 1, 1) := by decide +kernel
theorem dX11_shared_7 : decode cX11_shared 7 = .ok (.invokevirtual 169, 3) := by decide +kernel
theorem dX11_shared_10 : decode cX11_shared 10 = .ok (.ifCond .ne 5, 3) := by decide +kernel
theorem dX11_shared_13 : decode cX11_shared 13 = .ok (.iconst (-1), 1) := by decide +kernel
theorem dX11_shared_14 : decode cX11_shared 14 = .ok (.ireturn, 1) := by decide +kernel
theorem dX11_shared_15 : decode cX11_shared 15 = .ok (.aload_n 0, 1) := by decide +kernel
theorem dX11_shared_16 : decode cX11_shared 16 = .ok (.getfield 35, 3) := by decide +kernel
theorem dX11_shared_19 : decode cX11_shared 19 = .ok (.aload_n 0, 1) := by decide +kernel
theorem dX11_shared_20 : decode cX11_shared 20 = .ok (.getfield 76, 3) := by decide +kernel
theorem dX11_shared_23 : decode cX11_shared 23 = .ok (.aload_n 0, 1) := by decide +kernel
theorem dX11_shared_24 : decode cX11_shared 24 = .ok (.getfield 49, 3) := by decide +kernel
theorem dX11_shared_27 : decode cX11_shared 27 = .ok (.invokevirtual 271, 3) := by decide +kernel
theorem dX11_shared_30 : decode cX11_shared 30 = .ok (.iload_n 1, 1) := by decide +kernel
theorem dX11_shared_31 : decode cX11_shared 31 = .ok (.iconst (-1), 1) := by decide +kernel
theorem dX11_shared_32 : decode cX11_shared 32 = .ok (.if_icmp .ne 13, 3) := by decide +kernel
theorem dX11_shared_35 : decode cX11_shared 35 = .ok (.aload_n 0, 1) := by decide +kernel
theorem dX11_shared_36 : decode cX11_shared 36 = .ok (.getfield 35, 3) := by decide +kernel
theorem dX11_shared_39 : decode cX11_shared 39 = .ok (.getfield 272, 3) := by decide +kernel
theorem dX11_shared_42 : decode cX11_shared 42 = .ok (.goto 12, 3) := by decide +kernel
theorem dX11_shared_45 : decode cX11_shared 45 = .ok (.aload_n 0, 1) := by decide +kernel
theorem dX11_shared_46 : decode cX11_shared 46 = .ok (.getfield 35, 3) := by decide +kernel
theorem dX11_shared_49 : decode cX11_shared 49 = .ok (.getfield 274, 3) := by decide +kernel
theorem dX11_shared_52 : decode cX11_shared 52 = .ok (.iload_n 1, 1) := by decide +kernel
theorem dX11_shared_53 : decode cX11_shared 53 = .ok (.iaload, 1) := by decide +kernel
theorem dX11_shared_54 : decode cX11_shared 54 = .ok (.ireturn, 1) := by decide +kernel
theorem dX11_children_0 : decode cX11_children 0 = .ok (.iload_n 1, 1) := by decide +kernel
theorem dX11_children_1 : decode cX11_children 1 = .ok (.iconst (-1), 1) := by decide +kernel
theorem dX11_children_2 : decode cX11_children 2 = .ok (.if_icmp .eq 13, 3) := by decide +kernel
theorem dX11_children_5 : decode cX11_children 5 = .ok (.aload_n 0, 1) := by decide +kernel
theorem dX11_children_6 : decode cX11_children 6 = .ok (.iload_n 1, 1) := by decide +kernel
theorem dX11_children_7 : decode cX11_children 7 = .ok (.invokevirtual 169, 3) := by decide +kernel
theorem dX11_children_10 : decode cX11_children 10 = .ok (.ifCond .ne 5, 3) := by decide +kernel
theorem dX11_children_13 : decode cX11_children 13 = .ok (.iconst (-1), 1) := by decide +kernel
theorem dX11_children_14 : decode cX11_children 14 = .ok (.ireturn, 1) := by decide +kernel
theorem dX11_children_15 : decode cX11_children 15 = .ok (.aload_n 0, 1) := by decide +kernel
theorem dX11_children_16 : decode cX11_children 16 = .ok (.getfield 42, 3) := by decide +kernel
theorem dX11_children_19 : decode cX11_children 19 = .ok (.aload_n 0, 1) := by decide +kernel
theorem dX11_children_20 : decode cX11_children 20 = .ok (.getfield 76, 3) := by decide +kernel
theorem dX11_children_23 : decode cX11_children 23 = .ok (.invokevirtual 280, 3) := by decide +kernel
theorem dX11_children_26 : decode cX11_children 26 = .ok (.iload_n 1, 1) := by decide +kernel
theorem dX11_children_27 : decode cX11_children 27 = .ok (.iconst (-1), 1) := by decide +kernel
theorem dX11_children_28 : decode cX11_children 28 = .ok (.if_icmp .ne 13, 3) := by decide +kernel
theorem dX11_children_31 : decode cX11_children 31 = .ok (.aload_n 0, 1) := by decide +kernel
theorem dX11_children_32 : decode cX11_children 32 = .ok (.getfield 42, 3) := by decide +kernel
theorem dX11_children_35 : decode cX11_children 35 = .ok (.getfield 283, 3) := by decide +kernel
theorem dX11_children_38 : decode cX11_children 38 = .ok (.goto 12, 3) := by decide +kernel
theorem dX11_children_41 : decode cX11_children 41 = .ok (.aload_n 0, 1) := by decide +kernel
theorem dX11_children_42 : decode cX11_children 42 = .ok (.getfield 42, 3) := by decide +kernel
theorem dX11_children_45 : decode cX11_children 45 = .ok (.getfield 286, 3) := by decide +kernel
theorem dX11_children_48 : decode cX11_children 48 = .ok (.iload_n 1, 1) := by decide +kernel
theorem dX11_children_49 : decode cX11_children 49 = .ok (.iaload, 1) := by decide +kernel
theorem dX11_children_50 : decode cX11_children 50 = .ok (.ireturn, 1) := by decide +kernel
theorem dX11_drawOfHundred_0 : decode cX11_drawOfHundred 0 = .ok (.aload_n 0, 1) := by decide +kernel
theorem dX11_drawOfHundred_1 : decode cX11_drawOfHundred 1 = .ok (.ldc2_w 355, 3) := by decide +kernel
theorem dX11_drawOfHundred_4 : decode cX11_drawOfHundred 4 = .ok (.aload_n 0, 1) := by decide +kernel
theorem dX11_drawOfHundred_5 : decode cX11_drawOfHundred 5 = .ok (.getfield 80, 3) := by decide +kernel
theorem dX11_drawOfHundred_8 : decode cX11_drawOfHundred 8 = .ok (.i2l, 1) := by decide +kernel
theorem dX11_drawOfHundred_9 : decode cX11_drawOfHundred 9 = .ok (.lmul, 1) := by decide +kernel
theorem dX11_drawOfHundred_10 : decode cX11_drawOfHundred 10 = .ok (.ldc2_w 357, 3) := by decide +kernel
theorem dX11_drawOfHundred_13 : decode cX11_drawOfHundred 13 = .ok (.ladd, 1) := by decide +kernel
theorem dX11_drawOfHundred_14 : decode cX11_drawOfHundred 14 = .ok (.ldc2_w 359, 3) := by decide +kernel
theorem dX11_drawOfHundred_17 : decode cX11_drawOfHundred 17 = .ok (.land, 1) := by decide +kernel
theorem dX11_drawOfHundred_18 : decode cX11_drawOfHundred 18 = .ok (.l2i, 1) := by decide +kernel
theorem dX11_drawOfHundred_19 : decode cX11_drawOfHundred 19 = .ok (.putfield 80, 3) := by decide +kernel
theorem dX11_drawOfHundred_22 : decode cX11_drawOfHundred 22 = .ok (.aload_n 0, 1) := by decide +kernel
theorem dX11_drawOfHundred_23 : decode cX11_drawOfHundred 23 = .ok (.getfield 80, 3) := by decide +kernel
theorem dX11_drawOfHundred_26 : decode cX11_drawOfHundred 26 = .ok (.bipush 64, 2) := by decide +kernel
theorem dX11_drawOfHundred_28 : decode cX11_drawOfHundred 28 = .ok (.idiv, 1) := by decide +kernel
theorem dX11_drawOfHundred_29 : decode cX11_drawOfHundred 29 = .ok (.bipush 100, 2) := by decide +kernel
theorem dX11_drawOfHundred_31 : decode cX11_drawOfHundred 31 = .ok (.irem, 1) := by decide +kernel
theorem dX11_drawOfHundred_32 : decode cX11_drawOfHundred 32 = .ok (.ireturn, 1) := by decide +kernel
theorem dX11_helper_0 : decode cX11_helper 0 = .ok (.aload_n 0, 1) := by decide +kernel
theorem dX11_helper_1 : decode cX11_helper 1 = .ok (.iload_n 1, 1) := by decide +kernel
theorem dX11_helper_2 : decode cX11_helper 2 = .ok (.invokevirtual 205, 3) := by decide +kernel
theorem dX11_helper_5 : decode cX11_helper 5 = .ok (.ifCond .ne 5, 3) := by decide +kernel
theorem dX11_helper_8 : decode cX11_helper 8 = .ok (.iconst (-1), 1) := by decide +kernel
theorem dX11_helper_9 : decode cX11_helper 9 = .ok (.ireturn, 1) := by decide +kernel
theorem dX11_helper_10 : decode cX11_helper 10 = .ok (.iload_n 2, 1) := by decide +kernel
theorem dX11_helper_11 : decode cX11_helper 11 = .ok (.tableswitch 82 0 4 #[33, 43, 53, 63, 73], 33) := by decide +kernel
theorem dX11_helper_44 : decode cX11_helper 44 = .ok (.aload_n 0, 1) := by decide +kernel
theorem dX11_helper_45 : decode cX11_helper 45 = .ok (.getfield 76, 3) := by decide +kernel
theorem dX11_helper_48 : decode cX11_helper 48 = .ok (.getfield 208, 3) := by decide +kernel
theorem dX11_helper_51 : decode cX11_helper 51 = .ok (.iload_n 1, 1) := by decide +kernel
theorem dX11_helper_52 : decode cX11_helper 52 = .ok (.iaload, 1) := by decide +kernel
theorem dX11_helper_53 : decode cX11_helper 53 = .ok (.ireturn, 1) := by decide +kernel
theorem dX11_helper_54 : decode cX11_helper 54 = .ok (.aload_n 0, 1) := by decide +kernel
theorem dX11_helper_55 : decode cX11_helper 55 = .ok (.getfield 76, 3) := by decide +kernel
theorem dX11_helper_58 : decode cX11_helper 58 = .ok (.getfield 211, 3) := by decide +kernel
theorem dX11_helper_61 : decode cX11_helper 61 = .ok (.iload_n 1, 1) := by decide +kernel
theorem dX11_helper_62 : decode cX11_helper 62 = .ok (.iaload, 1) := by decide +kernel
theorem dX11_helper_63 : decode cX11_helper 63 = .ok (.ireturn, 1) := by decide +kernel
theorem dX11_helper_64 : decode cX11_helper 64 = .ok (.aload_n 0, 1) := by decide +kernel
theorem dX11_helper_65 : decode cX11_helper 65 = .ok (.getfield 76, 3) := by decide +kernel
theorem dX11_helper_68 : decode cX11_helper 68 = .ok (.getfield 214, 3) := by decide +kernel
theorem dX11_helper_71 : decode cX11_helper 71 = .ok (.iload_n 1, 1) := by decide +kernel
theorem dX11_helper_72 : decode cX11_helper 72 = .ok (.iaload, 1) := by decide +kernel
theorem dX11_helper_73 : decode cX11_helper 73 = .ok (.ireturn, 1) := by decide +kernel
theorem dX11_helper_74 : decode cX11_helper 74 = .ok (.aload_n 0, 1) := by decide +kernel
theorem dX11_helper_75 : decode cX11_helper 75 = .ok (.getfield 49, 3) := by decide +kernel
theorem dX11_helper_78 : decode cX11_helper 78 = .ok (.getfield 217, 3) := by decide +kernel
theorem dX11_helper_81 : decode cX11_helper 81 = .ok (.iload_n 1, 1) := by decide +kernel
theorem dX11_helper_82 : decode cX11_helper 82 = .ok (.iaload, 1) := by decide +kernel
theorem dX11_helper_83 : decode cX11_helper 83 = .ok (.ireturn, 1) := by decide +kernel
theorem dX11_helper_84 : decode cX11_helper 84 = .ok (.aload_n 0, 1) := by decide +kernel
theorem dX11_helper_85 : decode cX11_helper 85 = .ok (.getfield 49, 3) := by decide +kernel
theorem dX11_helper_88 : decode cX11_helper 88 = .ok (.iload_n 1, 1) := by decide +kernel
theorem dX11_helper_89 : decode cX11_helper 89 = .ok (.invokevirtual 220, 3) := by decide +kernel
theorem dX11_helper_92 : decode cX11_helper 92 = .ok (.ireturn, 1) := by decide +kernel
theorem dX11_helper_93 : decode cX11_helper 93 = .ok (.iconst (-1), 1) := by decide +kernel
theorem dX11_helper_94 : decode cX11_helper 94 = .ok (.ireturn, 1) := by decide +kernel
theorem dX11_sheets_0 : decode cX11_sheets 0 = .ok (.iload_n 1, 1) := by decide +kernel
theorem dX11_sheets_1 : decode cX11_sheets 1 = .ok (.iconst (-1), 1) := by decide +kernel
theorem dX11_sheets_2 : decode cX11_sheets 2 = .ok (.if_icmp .eq 13, 3) := by decide +kernel
theorem dX11_sheets_5 : decode cX11_sheets 5 = .ok (.aload_n 0, 1) := by decide +kernel
theorem dX11_sheets_6 : decode cX11_sheets 6 = .ok (.iload_n 1, 1) := by decide +kernel
theorem dX11_sheets_7 : decode cX11_sheets 7 = .ok (.invokevirtual 169, 3) := by decide +kernel
theorem dX11_sheets_10 : decode cX11_sheets 10 = .ok (.ifCond .ne 5, 3) := by decide +kernel
theorem dX11_sheets_13 : decode cX11_sheets 13 = .ok (.iconst (-1), 1) := by decide +kernel
theorem dX11_sheets_14 : decode cX11_sheets 14 = .ok (.ireturn, 1) := by decide +kernel
theorem dX11_sheets_15 : decode cX11_sheets 15 = .ok (.aload_n 0, 1) := by decide +kernel
theorem dX11_sheets_16 : decode cX11_sheets 16 = .ok (.getfield 42, 3) := by decide +kernel
theorem dX11_sheets_19 : decode cX11_sheets 19 = .ok (.aload_n 0, 1) := by decide +kernel
theorem dX11_sheets_20 : decode cX11_sheets 20 = .ok (.getfield 76, 3) := by decide +kernel
theorem dX11_sheets_23 : decode cX11_sheets 23 = .ok (.invokevirtual 262, 3) := by decide +kernel
theorem dX11_sheets_26 : decode cX11_sheets 26 = .ok (.iload_n 1, 1) := by decide +kernel
theorem dX11_sheets_27 : decode cX11_sheets 27 = .ok (.iconst (-1), 1) := by decide +kernel
theorem dX11_sheets_28 : decode cX11_sheets 28 = .ok (.if_icmp .ne 13, 3) := by decide +kernel
theorem dX11_sheets_31 : decode cX11_sheets 31 = .ok (.aload_n 0, 1) := by decide +kernel
theorem dX11_sheets_32 : decode cX11_sheets 32 = .ok (.getfield 42, 3) := by decide +kernel
theorem dX11_sheets_35 : decode cX11_sheets 35 = .ok (.getfield 265, 3) := by decide +kernel
theorem dX11_sheets_38 : decode cX11_sheets 38 = .ok (.goto 12, 3) := by decide +kernel
theorem dX11_sheets_41 : decode cX11_sheets 41 = .ok (.aload_n 0, 1) := by decide +kernel
theorem dX11_sheets_42 : decode cX11_sheets 42 = .ok (.getfield 42, 3) := by decide +kernel
theorem dX11_sheets_45 : decode cX11_sheets 45 = .ok (.getfield 268, 3) := by decide +kernel
theorem dX11_sheets_48 : decode cX11_sheets 48 = .ok (.iload_n 1, 1) := by decide +kernel
theorem dX11_sheets_49 : decode cX11_sheets 49 = .ok (.iaload, 1) := by decide +kernel
theorem dX11_sheets_50 : decode cX11_sheets 50 = .ok (.ireturn, 1) := by decide +kernel
theorem dX11_chance_0 : decode cX11_chance 0 = .ok (.aload_n 0, 1) := by decide +kernel
theorem dX11_chance_1 : decode cX11_chance 1 = .ok (.iload_n 1, 1) := by decide +kernel
theorem dX11_chance_2 : decode cX11_chance 2 = .ok (.invokevirtual 314, 3) := by decide +kernel
theorem dX11_chance_5 : decode cX11_chance 5 = .ok (.ifCond .ne 9, 3) := by decide +kernel
theorem dX11_chance_8 : decode cX11_chance 8 = .ok (.aload_n 0, 1) := by decide +kernel
theorem dX11_chance_9 : decode cX11_chance 9 = .ok (.iconst 3, 1) := by decide +kernel
theorem dX11_chance_10 : decode cX11_chance 10 = .ok (.invokevirtual 108, 3) := by decide +kernel
theorem dX11_chance_13 : decode cX11_chance 13 = .ok (.ireturn, 1) := by decide +kernel
theorem dX11_chance_14 : decode cX11_chance 14 = .ok (.aload_n 0, 1) := by decide +kernel
theorem dX11_chance_15 : decode cX11_chance 15 = .ok (.invokevirtual 307, 3) := by decide +kernel
theorem dX11_chance_18 : decode cX11_chance 18 = .ok (.iconst 0, 1) := by decide +kernel
theorem dX11_chance_19 : decode cX11_chance 19 = .ok (.istore_n 2, 1) := by decide +kernel
theorem dX11_chance_20 : decode cX11_chance 20 = .ok (.iconst 0, 1) := by decide +kernel
theorem dX11_chance_21 : decode cX11_chance 21 = .ok (.istore_n 3, 1) := by decide +kernel
theorem dX11_chance_22 : decode cX11_chance 22 = .ok (.iload_n 3, 1) := by decide +kernel
theorem dX11_chance_23 : decode cX11_chance 23 = .ok (.iload_n 1, 1) := by decide +kernel
theorem dX11_chance_24 : decode cX11_chance 24 = .ok (.if_icmp .ge 46, 3) := by decide +kernel
theorem dX11_chance_27 : decode cX11_chance 27 = .ok (.iload_n 2, 1) := by decide +kernel
theorem dX11_chance_28 : decode cX11_chance 28 = .ok (.aload_n 0, 1) := by decide +kernel
theorem dX11_chance_29 : decode cX11_chance 29 = .ok (.invokevirtual 317, 3) := by decide +kernel
theorem dX11_chance_32 : decode cX11_chance 32 = .ok (.iadd, 1) := by decide +kernel
theorem dX11_chance_33 : decode cX11_chance 33 = .ok (.istore_n 2, 1) := by decide +kernel
theorem dX11_chance_34 : decode cX11_chance 34 = .ok (.aload_n 0, 1) := by decide +kernel
theorem dX11_chance_35 : decode cX11_chance 35 = .ok (.getfield 28, 3) := by decide +kernel
theorem dX11_chance_38 : decode cX11_chance 38 = .ok (.aload_n 0, 1) := by decide +kernel
theorem dX11_chance_39 : decode cX11_chance 39 = .ok (.getfield 76, 3) := by decide +kernel
theorem dX11_chance_42 : decode cX11_chance 42 = .ok (.aload_n 0, 1) := by decide +kernel
theorem dX11_chance_43 : decode cX11_chance 43 = .ok (.getfield 49, 3) := by decide +kernel
theorem dX11_chance_46 : decode cX11_chance 46 = .ok (.invokevirtual 235, 3) := by decide +kernel
theorem dX11_chance_49 : decode cX11_chance 49 = .ok (.aload_n 0, 1) := by decide +kernel
theorem dX11_chance_50 : decode cX11_chance 50 = .ok (.getfield 28, 3) := by decide +kernel
theorem dX11_chance_53 : decode cX11_chance 53 = .ok (.aload_n 0, 1) := by decide +kernel
theorem dX11_chance_54 : decode cX11_chance 54 = .ok (.getfield 76, 3) := by decide +kernel
theorem dX11_chance_57 : decode cX11_chance 57 = .ok (.aload_n 0, 1) := by decide +kernel
theorem dX11_chance_58 : decode cX11_chance 58 = .ok (.getfield 49, 3) := by decide +kernel
theorem dX11_chance_61 : decode cX11_chance 61 = .ok (.invokevirtual 253, 3) := by decide +kernel
theorem dX11_chance_64 : decode cX11_chance 64 = .ok (.iinc 3 1, 3) := by decide +kernel
theorem dX11_chance_67 : decode cX11_chance 67 = .ok (.goto (-45), 3) := by decide +kernel
theorem dX11_chance_70 : decode cX11_chance 70 = .ok (.iload_n 2, 1) := by decide +kernel
theorem dX11_chance_71 : decode cX11_chance 71 = .ok (.ireturn, 1) := by decide +kernel
theorem dX11_takes_0 : decode cX11_takes 0 = .ok (.aload_n 0, 1) := by decide +kernel
theorem dX11_takes_1 : decode cX11_takes 1 = .ok (.iload_n 1, 1) := by decide +kernel
theorem dX11_takes_2 : decode cX11_takes 2 = .ok (.invokevirtual 169, 3) := by decide +kernel
theorem dX11_takes_5 : decode cX11_takes 5 = .ok (.ifCond .eq 11, 3) := by decide +kernel
theorem dX11_takes_8 : decode cX11_takes 8 = .ok (.aload_n 0, 1) := by decide +kernel
theorem dX11_takes_9 : decode cX11_takes 9 = .ok (.iload_n 2, 1) := by decide +kernel
theorem dX11_takes_10 : decode cX11_takes 10 = .ok (.invokevirtual 205, 3) := by decide +kernel
theorem dX11_takes_13 : decode cX11_takes 13 = .ok (.ifCond .ne 5, 3) := by decide +kernel
theorem dX11_takes_16 : decode cX11_takes 16 = .ok (.iconst (-1), 1) := by decide +kernel
theorem dX11_takes_17 : decode cX11_takes 17 = .ok (.ireturn, 1) := by decide +kernel
theorem dX11_takes_18 : decode cX11_takes 18 = .ok (.aload_n 0, 1) := by decide +kernel
theorem dX11_takes_19 : decode cX11_takes 19 = .ok (.getfield 19, 3) := by decide +kernel
theorem dX11_takes_22 : decode cX11_takes 22 = .ok (.aload_n 0, 1) := by decide +kernel
theorem dX11_takes_23 : decode cX11_takes 23 = .ok (.getfield 76, 3) := by decide +kernel
theorem dX11_takes_26 : decode cX11_takes 26 = .ok (.aload_n 0, 1) := by decide +kernel
theorem dX11_takes_27 : decode cX11_takes 27 = .ok (.getfield 49, 3) := by decide +kernel
theorem dX11_takes_30 : decode cX11_takes 30 = .ok (.iload_n 1, 1) := by decide +kernel
theorem dX11_takes_31 : decode cX11_takes 31 = .ok (.iload_n 2, 1) := by decide +kernel
theorem dX11_takes_32 : decode cX11_takes 32 = .ok (.invokevirtual 223, 3) := by decide +kernel
theorem dX11_takes_35 : decode cX11_takes 35 = .ok (.ireturn, 1) := by decide +kernel
theorem dX11_remember_0 : decode cX11_remember 0 = .ok (.aload_n 0, 1) := by decide +kernel
theorem dX11_remember_1 : decode cX11_remember 1 = .ok (.getfield 131, 3) := by decide +kernel
theorem dX11_remember_4 : decode cX11_remember 4 = .ok (.bipush 20, 2) := by decide +kernel
theorem dX11_remember_6 : decode cX11_remember 6 = .ok (.if_icmp .ne 26, 3) := by decide +kernel
theorem dX11_remember_9 : decode cX11_remember 9 = .ok (.aload_n 0, 1) := by decide +kernel
theorem dX11_remember_10 : decode cX11_remember 10 = .ok (.aload_n 0, 1) := by decide +kernel
theorem dX11_remember_11 : decode cX11_remember 11 = .ok (.getfield 320, 3) := by decide +kernel
theorem dX11_remember_14 : decode cX11_remember 14 = .ok (.iconst 1, 1) := by decide +kernel
theorem dX11_remember_15 : decode cX11_remember 15 = .ok (.iadd, 1) := by decide +kernel
theorem dX11_remember_16 : decode cX11_remember 16 = .ok (.bipush 20, 2) := by decide +kernel
theorem dX11_remember_18 : decode cX11_remember 18 = .ok (.irem, 1) := by decide +kernel
theorem dX11_remember_19 : decode cX11_remember 19 = .ok (.putfield 320, 3) := by decide +kernel
theorem dX11_remember_22 : decode cX11_remember 22 = .ok (.aload_n 0, 1) := by decide +kernel
theorem dX11_remember_23 : decode cX11_remember 23 = .ok (.dup, 1) := by decide +kernel
theorem dX11_remember_24 : decode cX11_remember 24 = .ok (.getfield 131, 3) := by decide +kernel
theorem dX11_remember_27 : decode cX11_remember 27 = .ok (.iconst 1, 1) := by decide +kernel
theorem dX11_remember_28 : decode cX11_remember 28 = .ok (.isub, 1) := by decide +kernel
theorem dX11_remember_29 : decode cX11_remember 29 = .ok (.putfield 131, 3) := by decide +kernel
theorem dX11_remember_32 : decode cX11_remember 32 = .ok (.aload_n 0, 1) := by decide +kernel
theorem dX11_remember_33 : decode cX11_remember 33 = .ok (.getfield 56, 3) := by decide +kernel
theorem dX11_remember_36 : decode cX11_remember 36 = .ok (.aload_n 0, 1) := by decide +kernel
theorem dX11_remember_37 : decode cX11_remember 37 = .ok (.getfield 320, 3) := by decide +kernel
theorem dX11_remember_40 : decode cX11_remember 40 = .ok (.aload_n 0, 1) := by decide +kernel
theorem dX11_remember_41 : decode cX11_remember 41 = .ok (.getfield 131, 3) := by decide +kernel
theorem dX11_remember_44 : decode cX11_remember 44 = .ok (.iadd, 1) := by decide +kernel
theorem dX11_remember_45 : decode cX11_remember 45 = .ok (.bipush 20, 2) := by decide +kernel
theorem dX11_remember_47 : decode cX11_remember 47 = .ok (.irem, 1) := by decide +kernel
theorem dX11_remember_48 : decode cX11_remember 48 = .ok (.aaload, 1) := by decide +kernel
theorem dX11_remember_49 : decode cX11_remember 49 = .ok (.aload_n 0, 1) := by decide +kernel
theorem dX11_remember_50 : decode cX11_remember 50 = .ok (.getfield 49, 3) := by decide +kernel
theorem dX11_remember_53 : decode cX11_remember 53 = .ok (.invokevirtual 249, 3) := by decide +kernel
theorem dX11_remember_56 : decode cX11_remember 56 = .ok (.aload_n 0, 1) := by decide +kernel
theorem dX11_remember_57 : decode cX11_remember 57 = .ok (.dup, 1) := by decide +kernel
theorem dX11_remember_58 : decode cX11_remember 58 = .ok (.getfield 131, 3) := by decide +kernel
theorem dX11_remember_61 : decode cX11_remember 61 = .ok (.iconst 1, 1) := by decide +kernel
theorem dX11_remember_62 : decode cX11_remember 62 = .ok (.iadd, 1) := by decide +kernel
theorem dX11_remember_63 : decode cX11_remember 63 = .ok (.putfield 131, 3) := by decide +kernel
theorem dX11_remember_66 : decode cX11_remember 66 = .ok (.return_, 1) := by decide +kernel
theorem dX11_end_0 : decode cX11_end 0 = .ok (.iload_n 1, 1) := by decide +kernel
theorem dX11_end_1 : decode cX11_end 1 = .ok (.ifCond .lt 14, 3) := by decide +kernel
theorem dX11_end_4 : decode cX11_end 4 = .ok (.iload_n 1, 1) := by decide +kernel
theorem dX11_end_5 : decode cX11_end 5 = .ok (.aload_n 0, 1) := by decide +kernel
theorem dX11_end_6 : decode cX11_end 6 = .ok (.getfield 12, 3) := by decide +kernel
theorem dX11_end_9 : decode cX11_end 9 = .ok (.getfield 105, 3) := by decide +kernel
theorem dX11_end_12 : decode cX11_end 12 = .ok (.if_icmp .le 9, 3) := by decide +kernel
theorem dX11_end_15 : decode cX11_end 15 = .ok (.aload_n 0, 1) := by decide +kernel
theorem dX11_end_16 : decode cX11_end 16 = .ok (.iconst 0, 1) := by decide +kernel
theorem dX11_end_17 : decode cX11_end 17 = .ok (.invokevirtual 116, 3) := by decide +kernel
theorem dX11_end_20 : decode cX11_end 20 = .ok (.ireturn, 1) := by decide +kernel
theorem dX11_end_21 : decode cX11_end 21 = .ok (.aload_n 0, 1) := by decide +kernel
theorem dX11_end_22 : decode cX11_end 22 = .ok (.getfield 12, 3) := by decide +kernel
theorem dX11_end_25 : decode cX11_end 25 = .ok (.iload_n 1, 1) := by decide +kernel
theorem dX11_end_26 : decode cX11_end 26 = .ok (.putfield 105, 3) := by decide +kernel
theorem dX11_end_29 : decode cX11_end 29 = .ok (.iconst 1, 1) := by decide +kernel
theorem dX11_end_30 : decode cX11_end 30 = .ok (.ireturn, 1) := by decide +kernel
theorem dX11_gift_0 : decode cX11_gift 0 = .ok (.aload_n 0, 1) := by decide +kernel
theorem dX11_gift_1 : decode cX11_gift 1 = .ok (.iload_n 1, 1) := by decide +kernel
theorem dX11_gift_2 : decode cX11_gift 2 = .ok (.invokevirtual 196, 3) := by decide +kernel
theorem dX11_gift_5 : decode cX11_gift 5 = .ok (.ifCond .ne 5, 3) := by decide +kernel
theorem dX11_gift_8 : decode cX11_gift 8 = .ok (.iconst (-1), 1) := by decide +kernel
theorem dX11_gift_9 : decode cX11_gift 9 = .ok (.ireturn, 1) := by decide +kernel
theorem dX11_gift_10 : decode cX11_gift 10 = .ok (.iload_n 2, 1) := by decide +kernel
theorem dX11_gift_11 : decode cX11_gift 11 = .ok (.ifCond .ne 13, 3) := by decide +kernel
theorem dX11_gift_14 : decode cX11_gift 14 = .ok (.aload_n 0, 1) := by decide +kernel
theorem dX11_gift_15 : decode cX11_gift 15 = .ok (.getfield 49, 3) := by decide +kernel
theorem dX11_gift_18 : decode cX11_gift 18 = .ok (.getfield 199, 3) := by decide +kernel
theorem dX11_gift_21 : decode cX11_gift 21 = .ok (.iload_n 1, 1) := by decide +kernel
theorem dX11_gift_22 : decode cX11_gift 22 = .ok (.iaload, 1) := by decide +kernel
theorem dX11_gift_23 : decode cX11_gift 23 = .ok (.ireturn, 1) := by decide +kernel
theorem dX11_gift_24 : decode cX11_gift 24 = .ok (.iload_n 2, 1) := by decide +kernel
theorem dX11_gift_25 : decode cX11_gift 25 = .ok (.bipush 10, 2) := by decide +kernel
theorem dX11_gift_27 : decode cX11_gift 27 = .ok (.if_icmp .lt 14, 3) := by decide +kernel
theorem dX11_gift_30 : decode cX11_gift 30 = .ok (.aload_n 0, 1) := by decide +kernel
theorem dX11_gift_31 : decode cX11_gift 31 = .ok (.iload_n 2, 1) := by decide +kernel
theorem dX11_gift_32 : decode cX11_gift 32 = .ok (.bipush 10, 2) := by decide +kernel
theorem dX11_gift_34 : decode cX11_gift 34 = .ok (.isub, 1) := by decide +kernel
theorem dX11_gift_35 : decode cX11_gift 35 = .ok (.invokevirtual 169, 3) := by decide +kernel
theorem dX11_gift_38 : decode cX11_gift 38 = .ok (.ifCond .ne 5, 3) := by decide +kernel
theorem dX11_gift_41 : decode cX11_gift 41 = .ok (.iconst (-1), 1) := by decide +kernel
theorem dX11_gift_42 : decode cX11_gift 42 = .ok (.ireturn, 1) := by decide +kernel
theorem dX11_gift_43 : decode cX11_gift 43 = .ok (.aload_n 0, 1) := by decide +kernel
theorem dX11_gift_44 : decode cX11_gift 44 = .ok (.getfield 76, 3) := by decide +kernel
theorem dX11_gift_47 : decode cX11_gift 47 = .ok (.getfield 202, 3) := by decide +kernel
theorem dX11_gift_50 : decode cX11_gift 50 = .ok (.iload_n 2, 1) := by decide +kernel
theorem dX11_gift_51 : decode cX11_gift 51 = .ok (.bipush 10, 2) := by decide +kernel
theorem dX11_gift_53 : decode cX11_gift 53 = .ok (.isub, 1) := by decide +kernel
theorem dX11_gift_54 : decode cX11_gift 54 = .ok (.aaload, 1) := by decide +kernel
theorem dX11_gift_55 : decode cX11_gift 55 = .ok (.iload_n 1, 1) := by decide +kernel
theorem dX11_gift_56 : decode cX11_gift 56 = .ok (.iaload, 1) := by decide +kernel
theorem dX11_gift_57 : decode cX11_gift 57 = .ok (.ireturn, 1) := by decide +kernel
theorem dX11_watched_0 : decode cX11_watched 0 = .ok (.aload_n 0, 1) := by decide +kernel
theorem dX11_watched_1 : decode cX11_watched 1 = .ok (.invokevirtual 301, 3) := by decide +kernel
theorem dX11_watched_4 : decode cX11_watched 4 = .ok (.istore_n 2, 1) := by decide +kernel
theorem dX11_watched_5 : decode cX11_watched 5 = .ok (.aload_n 0, 1) := by decide +kernel
theorem dX11_watched_6 : decode cX11_watched 6 = .ok (.getfield 76, 3) := by decide +kernel
theorem dX11_watched_9 : decode cX11_watched 9 = .ok (.getfield 146, 3) := by decide +kernel
theorem dX11_watched_12 : decode cX11_watched 12 = .ok (.iconst 0, 1) := by decide +kernel
theorem dX11_watched_13 : decode cX11_watched 13 = .ok (.iaload, 1) := by decide +kernel
theorem dX11_watched_14 : decode cX11_watched 14 = .ok (.istore_n 3, 1) := by decide +kernel
theorem dX11_watched_15 : decode cX11_watched 15 = .ok (.iload_n 1, 1) := by decide +kernel
theorem dX11_watched_16 : decode cX11_watched 16 = .ok (.ifCond .lt 16, 3) := by decide +kernel
theorem dX11_watched_19 : decode cX11_watched 19 = .ok (.iload_n 1, 1) := by decide +kernel
theorem dX11_watched_20 : decode cX11_watched 20 = .ok (.iconst 1, 1) := by decide +kernel
theorem dX11_watched_21 : decode cX11_watched 21 = .ok (.if_icmp .gt 11, 3) := by decide +kernel
theorem dX11_watched_24 : decode cX11_watched 24 = .ok (.iload_n 2, 1) := by decide +kernel
theorem dX11_watched_25 : decode cX11_watched 25 = .ok (.ifCond .eq 7, 3) := by decide +kernel
theorem dX11_watched_28 : decode cX11_watched 28 = .ok (.iload_n 3, 1) := by decide +kernel
theorem dX11_watched_29 : decode cX11_watched 29 = .ok (.ifCond .ne 5, 3) := by decide +kernel
theorem dX11_watched_32 : decode cX11_watched 32 = .ok (.iconst (-1), 1) := by decide +kernel
theorem dX11_watched_33 : decode cX11_watched 33 = .ok (.ireturn, 1) := by decide +kernel
theorem dX11_watched_34 : decode cX11_watched 34 = .ok (.iconst 0, 1) := by decide +kernel
theorem dX11_watched_35 : decode cX11_watched 35 = .ok (.istore 4, 2) := by decide +kernel
theorem dX11_watched_37 : decode cX11_watched 37 = .ok (.aload_n 0, 1) := by decide +kernel
theorem dX11_watched_38 : decode cX11_watched 38 = .ok (.iconst 0, 1) := by decide +kernel
theorem dX11_watched_39 : decode cX11_watched 39 = .ok (.iload_n 2, 1) := by decide +kernel
theorem dX11_watched_40 : decode cX11_watched 40 = .ok (.invokevirtual 304, 3) := by decide +kernel
theorem dX11_watched_43 : decode cX11_watched 43 = .ok (.istore 5, 2) := by decide +kernel
theorem dX11_watched_45 : decode cX11_watched 45 = .ok (.iconst 1, 1) := by decide +kernel
theorem dX11_watched_46 : decode cX11_watched 46 = .ok (.istore 6, 2) := by decide +kernel
theorem dX11_watched_48 : decode cX11_watched 48 = .ok (.iload 6, 2) := by decide +kernel
theorem dX11_watched_50 : decode cX11_watched 50 = .ok (.iload_n 3, 1) := by decide +kernel
theorem dX11_watched_51 : decode cX11_watched 51 = .ok (.if_icmp .ge 33, 3) := by decide +kernel
theorem dX11_watched_54 : decode cX11_watched 54 = .ok (.aload_n 0, 1) := by decide +kernel
theorem dX11_watched_55 : decode cX11_watched 55 = .ok (.iload 6, 2) := by decide +kernel
theorem dX11_watched_57 : decode cX11_watched 57 = .ok (.iload_n 2, 1) := by decide +kernel
theorem dX11_watched_58 : decode cX11_watched 58 = .ok (.invokevirtual 304, 3) := by decide +kernel
theorem dX11_watched_61 : decode cX11_watched 61 = .ok (.istore 7, 2) := by decide +kernel
theorem dX11_watched_63 : decode cX11_watched 63 = .ok (.iload 7, 2) := by decide +kernel
theorem dX11_watched_65 : decode cX11_watched 65 = .ok (.iload 5, 2) := by decide +kernel
theorem dX11_watched_67 : decode cX11_watched 67 = .ok (.if_icmp .ge 11, 3) := by decide +kernel
theorem dX11_watched_70 : decode cX11_watched 70 = .ok (.iload 7, 2) := by decide +kernel
theorem dX11_watched_72 : decode cX11_watched 72 = .ok (.istore 5, 2) := by decide +kernel
theorem dX11_watched_74 : decode cX11_watched 74 = .ok (.iload 6, 2) := by decide +kernel
theorem dX11_watched_76 : decode cX11_watched 76 = .ok (.istore 4, 2) := by decide +kernel
theorem dX11_watched_78 : decode cX11_watched 78 = .ok (.iinc 6 1, 3) := by decide +kernel
theorem dX11_watched_81 : decode cX11_watched 81 = .ok (.goto (-33), 3) := by decide +kernel
theorem dX11_watched_84 : decode cX11_watched 84 = .ok (.iload_n 1, 1) := by decide +kernel
theorem dX11_watched_85 : decode cX11_watched 85 = .ok (.ifCond .ne 8, 3) := by decide +kernel
theorem dX11_watched_88 : decode cX11_watched 88 = .ok (.iload 4, 2) := by decide +kernel
theorem dX11_watched_90 : decode cX11_watched 90 = .ok (.goto 5, 3) := by decide +kernel
theorem dX11_watched_93 : decode cX11_watched 93 = .ok (.iload 5, 2) := by decide +kernel
theorem dX11_watched_95 : decode cX11_watched 95 = .ok (.ireturn, 1) := by decide +kernel
theorem dX11_isLetter_0 : decode cX11_isLetter 0 = .ok (.iload_n 1, 1) := by decide +kernel
theorem dX11_isLetter_1 : decode cX11_isLetter 1 = .ok (.ifCond .lt 20, 3) := by decide +kernel
theorem dX11_isLetter_4 : decode cX11_isLetter 4 = .ok (.iload_n 1, 1) := by decide +kernel
theorem dX11_isLetter_5 : decode cX11_isLetter 5 = .ok (.aload_n 0, 1) := by decide +kernel
theorem dX11_isLetter_6 : decode cX11_isLetter 6 = .ok (.getfield 76, 3) := by decide +kernel
theorem dX11_isLetter_9 : decode cX11_isLetter 9 = .ok (.getfield 146, 3) := by decide +kernel
theorem dX11_isLetter_12 : decode cX11_isLetter 12 = .ok (.iconst 0, 1) := by decide +kernel
theorem dX11_isLetter_13 : decode cX11_isLetter 13 = .ok (.iaload, 1) := by decide +kernel
theorem dX11_isLetter_14 : decode cX11_isLetter 14 = .ok (.if_icmp .ge 7, 3) := by decide +kernel
theorem dX11_isLetter_17 : decode cX11_isLetter 17 = .ok (.iconst 1, 1) := by decide +kernel
theorem dX11_isLetter_18 : decode cX11_isLetter 18 = .ok (.goto 4, 3) := by decide +kernel
theorem dX11_isLetter_21 : decode cX11_isLetter 21 = .ok (.iconst 0, 1) := by decide +kernel
theorem dX11_isLetter_22 : decode cX11_isLetter 22 = .ok (.ireturn, 1) := by decide +kernel
theorem dX11_warms_0 : decode cX11_warms 0 = .ok (.aload_n 0, 1) := by decide +kernel
theorem dX11_warms_1 : decode cX11_warms 1 = .ok (.getfield 28, 3) := by decide +kernel
theorem dX11_warms_4 : decode cX11_warms 4 = .ok (.aload_n 0, 1) := by decide +kernel
theorem dX11_warms_5 : decode cX11_warms 5 = .ok (.getfield 76, 3) := by decide +kernel
theorem dX11_warms_8 : decode cX11_warms 8 = .ok (.aload_n 0, 1) := by decide +kernel
theorem dX11_warms_9 : decode cX11_warms 9 = .ok (.getfield 49, 3) := by decide +kernel
theorem dX11_warms_12 : decode cX11_warms 12 = .ok (.invokevirtual 235, 3) := by decide +kernel
theorem dX11_warms_15 : decode cX11_warms 15 = .ok (.aload_n 0, 1) := by decide +kernel
theorem dX11_warms_16 : decode cX11_warms 16 = .ok (.getfield 28, 3) := by decide +kernel
theorem dX11_warms_19 : decode cX11_warms 19 = .ok (.getfield 245, 3) := by decide +kernel
theorem dX11_warms_22 : decode cX11_warms 22 = .ok (.lreturn, 1) := by decide +kernel
theorem dX12_leftAnew_0 : decode cX12_leftAnew 0 = .ok (.iconst 0, 1) := by decide +kernel
theorem dX12_leftAnew_1 : decode cX12_leftAnew 1 = .ok (.istore_n 1, 1) := by decide +kernel
theorem dX12_leftAnew_2 : decode cX12_leftAnew 2 = .ok (.iload_n 1, 1) := by decide +kernel
theorem dX12_leftAnew_3 : decode cX12_leftAnew 3 = .ok (.aload_n 0, 1) := by decide +kernel
theorem dX12_leftAnew_4 : decode cX12_leftAnew 4 = .ok (.invokevirtual 422, 3) := by decide +kernel
theorem dX12_leftAnew_7 : decode cX12_leftAnew 7 = .ok (.if_icmp .ge 28, 3) := by decide +kernel
theorem dX12_leftAnew_10 : decode cX12_leftAnew 10 = .ok (.aload_n 0, 1) := by decide +kernel
theorem dX12_leftAnew_11 : decode cX12_leftAnew 11 = .ok (.getfield 142, 3) := by decide +kernel
theorem dX12_leftAnew_14 : decode cX12_leftAnew 14 = .ok (.iconst 1, 1) := by decide +kernel
theorem dX12_leftAnew_15 : decode cX12_leftAnew 15 = .ok (.iload_n 1, 1) := by decide +kernel
theorem dX12_leftAnew_16 : decode cX12_leftAnew 16 = .ok (.iadd, 1) := by decide +kernel
theorem dX12_leftAnew_17 : decode cX12_leftAnew 17 = .ok (.aload_n 0, 1) := by decide +kernel
theorem dX12_leftAnew_18 : decode cX12_leftAnew 18 = .ok (.getfield 127, 3) := by decide +kernel
theorem dX12_leftAnew_21 : decode cX12_leftAnew 21 = .ok (.bipush 9, 2) := by decide +kernel
theorem dX12_leftAnew_23 : decode cX12_leftAnew 23 = .ok (.iconst 3, 1) := by decide +kernel
theorem dX12_leftAnew_24 : decode cX12_leftAnew 24 = .ok (.iload_n 1, 1) := by decide +kernel
theorem dX12_leftAnew_25 : decode cX12_leftAnew 25 = .ok (.imul, 1) := by decide +kernel
theorem dX12_leftAnew_26 : decode cX12_leftAnew 26 = .ok (.iadd, 1) := by decide +kernel
theorem dX12_leftAnew_27 : decode cX12_leftAnew 27 = .ok (.iaload, 1) := by decide +kernel
theorem dX12_leftAnew_28 : decode cX12_leftAnew 28 = .ok (.iastore, 1) := by decide +kernel
theorem dX12_leftAnew_29 : decode cX12_leftAnew 29 = .ok (.iinc 1 1, 3) := by decide +kernel
theorem dX12_leftAnew_32 : decode cX12_leftAnew 32 = .ok (.goto (-30), 3) := by decide +kernel
theorem dX12_leftAnew_35 : decode cX12_leftAnew 35 = .ok (.return_, 1) := by decide +kernel
theorem dX12_octet_0 : decode cX12_octet 0 = .ok (.iload_n 1, 1) := by decide +kernel
theorem dX12_octet_1 : decode cX12_octet 1 = .ok (.ifCond .lt 20, 3) := by decide +kernel
theorem dX12_octet_4 : decode cX12_octet 4 = .ok (.iload_n 1, 1) := by decide +kernel
theorem dX12_octet_5 : decode cX12_octet 5 = .ok (.aload_n 0, 1) := by decide +kernel
theorem dX12_octet_6 : decode cX12_octet 6 = .ok (.getfield 686, 3) := by decide +kernel
theorem dX12_octet_9 : decode cX12_octet 9 = .ok (.if_icmp .ge 12, 3) := by decide +kernel
theorem dX12_octet_12 : decode cX12_octet 12 = .ok (.aload_n 0, 1) := by decide +kernel
theorem dX12_octet_13 : decode cX12_octet 13 = .ok (.getfield 257, 3) := by decide +kernel
theorem dX12_octet_16 : decode cX12_octet 16 = .ok (.iload_n 1, 1) := by decide +kernel
theorem dX12_octet_17 : decode cX12_octet 17 = .ok (.iaload, 1) := by decide +kernel
theorem dX12_octet_18 : decode cX12_octet 18 = .ok (.goto 4, 3) := by decide +kernel
theorem dX12_octet_21 : decode cX12_octet 21 = .ok (.iconst (-1), 1) := by decide +kernel
theorem dX12_octet_22 : decode cX12_octet 22 = .ok (.ireturn, 1) := by decide +kernel
theorem dX12_leftOf_0 : decode cX12_leftOf 0 = .ok (.aload_n 0, 1) := by decide +kernel
theorem dX12_leftOf_1 : decode cX12_leftOf 1 = .ok (.getfield 142, 3) := by decide +kernel
theorem dX12_leftOf_4 : decode cX12_leftOf 4 = .ok (.iconst 1, 1) := by decide +kernel
theorem dX12_leftOf_5 : decode cX12_leftOf 5 = .ok (.iload_n 1, 1) := by decide +kernel
theorem dX12_leftOf_6 : decode cX12_leftOf 6 = .ok (.iadd, 1) := by decide +kernel
theorem dX12_leftOf_7 : decode cX12_leftOf 7 = .ok (.iaload, 1) := by decide +kernel
theorem dX12_leftOf_8 : decode cX12_leftOf 8 = .ok (.ireturn, 1) := by decide +kernel
theorem dX12_name_0 : decode cX12_name 0 = .ok (.aload_n 0, 1) := by decide +kernel
theorem dX12_name_1 : decode cX12_name 1 = .ok (.getfield 263, 3) := by decide +kernel
theorem dX12_name_4 : decode cX12_name 4 = .ok (.ifCond .eq 5, 3) := by decide +kernel
theorem dX12_name_7 : decode cX12_name 7 = .ok (.lconst 0, 1) := by decide +kernel
theorem dX12_name_8 : decode cX12_name 8 = .ok (.lreturn, 1) := by decide +kernel
theorem dX12_name_9 : decode cX12_name 9 = .ok (.aload_n 0, 1) := by decide +kernel
theorem dX12_name_10 : decode cX12_name 10 = .ok (.invokevirtual 275, 3) := by decide +kernel
theorem dX12_name_13 : decode cX12_name 13 = .ok (.invokestatic 279, 3) := by decide +kernel
theorem dX12_name_16 : decode cX12_name 16 = .ok (.ifCond .eq 21, 3) := by decide +kernel
theorem dX12_name_19 : decode cX12_name 19 = .ok (.aload_n 0, 1) := by decide +kernel
theorem dX12_name_20 : decode cX12_name 20 = .ok (.getfield 269, 3) := by decide +kernel
theorem dX12_name_23 : decode cX12_name 23 = .ok (.aload_n 0, 1) := by decide +kernel
theorem dX12_name_24 : decode cX12_name 24 = .ok (.getfield 283, 3) := by decide +kernel
theorem dX12_name_27 : decode cX12_name 27 = .ok (.if_icmp .eq 10, 3) := by decide +kernel
theorem dX12_name_30 : decode cX12_name 30 = .ok (.aload_n 0, 1) := by decide +kernel
theorem dX12_name_31 : decode cX12_name 31 = .ok (.invokevirtual 307, 3) := by decide +kernel
theorem dX12_name_34 : decode cX12_name 34 = .ok (.ifCond .eq 14, 3) := by decide +kernel
theorem dX12_name_37 : decode cX12_name 37 = .ok (.aload_n 0, 1) := by decide +kernel
theorem dX12_name_38 : decode cX12_name 38 = .ok (.iconst 1, 1) := by decide +kernel
theorem dX12_name_39 : decode cX12_name 39 = .ok (.aload_n 0, 1) := by decide +kernel
theorem dX12_name_40 : decode cX12_name 40 = .ok (.getfield 269, 3) := by decide +kernel
theorem dX12_name_43 : decode cX12_name 43 = .ok (.invokevirtual 293, 3) := by decide +kernel
theorem dX12_name_46 : decode cX12_name 46 = .ok (.lconst 0, 1) := by decide +kernel
theorem dX12_name_47 : decode cX12_name 47 = .ok (.lreturn, 1) := by decide +kernel
theorem dX12_name_48 : decode cX12_name 48 = .ok (.aload_n 0, 1) := by decide +kernel
theorem dX12_name_49 : decode cX12_name 49 = .ok (.aload_n 0, 1) := by decide +kernel
theorem dX12_name_50 : decode cX12_name 50 = .ok (.getfield 269, 3) := by decide +kernel
theorem dX12_name_53 : decode cX12_name 53 = .ok (.putfield 311, 3) := by decide +kernel
theorem dX12_name_56 : decode cX12_name 56 = .ok (.lconst 0, 1) := by decide +kernel
theorem dX12_name_57 : decode cX12_name 57 = .ok (.lstore_n 1, 1) := by decide +kernel
theorem dX12_name_58 : decode cX12_name 58 = .ok (.aload_n 0, 1) := by decide +kernel
theorem dX12_name_59 : decode cX12_name 59 = .ok (.getfield 269, 3) := by decide +kernel
theorem dX12_name_62 : decode cX12_name 62 = .ok (.aload_n 0, 1) := by decide +kernel
theorem dX12_name_63 : decode cX12_name 63 = .ok (.getfield 272, 3) := by decide +kernel
theorem dX12_name_66 : decode cX12_name 66 = .ok (.if_icmp .ge 79, 3) := by decide +kernel
theorem dX12_name_69 : decode cX12_name 69 = .ok (.aload_n 0, 1) := by decide +kernel
theorem dX12_name_70 : decode cX12_name 70 = .ok (.getfield 7, 3) := by decide +kernel
theorem dX12_name_73 : decode cX12_name 73 = .ok (.aload_n 0, 1) := by decide +kernel
theorem dX12_name_74 : decode cX12_name 74 = .ok (.getfield 269, 3) := by decide +kernel
theorem dX12_name_77 : decode cX12_name 77 = .ok (.iaload, 1) := by decide +kernel
theorem dX12_name_78 : decode cX12_name 78 = .ok (.invokestatic 279, 3) := by decide +kernel
theorem dX12_name_81 : decode cX12_name 81 = .ok (.ifCond .eq 64, 3) := by decide +kernel
theorem dX12_name_84 : decode cX12_name 84 = .ok (.aload_n 0, 1) := by decide +kernel
theorem dX12_name_85 : decode cX12_name 85 = .ok (.getfield 269, 3) := by decide +kernel
theorem dX12_name_88 : decode cX12_name 88 = .ok (.aload_n 0, 1) := by decide +kernel
theorem dX12_name_89 : decode cX12_name 89 = .ok (.getfield 311, 3) := by decide +kernel
theorem dX12_name_92 : decode cX12_name 92 = .ok (.isub, 1) := by decide +kernel
theorem dX12_name_93 : decode cX12_name 93 = .ok (.bipush 6, 2) := by decide +kernel
theorem dX12_name_95 : decode cX12_name 95 = .ok (.if_icmp .ne 14, 3) := by decide +kernel
theorem dX12_name_98 : decode cX12_name 98 = .ok (.aload_n 0, 1) := by decide +kernel
theorem dX12_name_99 : decode cX12_name 99 = .ok (.iconst 1, 1) := by decide +kernel
theorem dX12_name_100 : decode cX12_name 100 = .ok (.aload_n 0, 1) := by decide +kernel
theorem dX12_name_101 : decode cX12_name 101 = .ok (.getfield 269, 3) := by decide +kernel
theorem dX12_name_104 : decode cX12_name 104 = .ok (.invokevirtual 293, 3) := by decide +kernel
theorem dX12_name_107 : decode cX12_name 107 = .ok (.lconst 0, 1) := by decide +kernel
theorem dX12_name_108 : decode cX12_name 108 = .ok (.lreturn, 1) := by decide +kernel
theorem dX12_name_109 : decode cX12_name 109 = .ok (.ldc2_w 314, 3) := by decide +kernel
theorem dX12_name_112 : decode cX12_name 112 = .ok (.lload_n 1, 1) := by decide +kernel
theorem dX12_name_113 : decode cX12_name 113 = .ok (.lmul, 1) := by decide +kernel
theorem dX12_name_114 : decode cX12_name 114 = .ok (.aload_n 0, 1) := by decide +kernel
theorem dX12_name_115 : decode cX12_name 115 = .ok (.getfield 7, 3) := by decide +kernel
theorem dX12_name_118 : decode cX12_name 118 = .ok (.aload_n 0, 1) := by decide +kernel
theorem dX12_name_119 : decode cX12_name 119 = .ok (.getfield 269, 3) := by decide +kernel
theorem dX12_name_122 : decode cX12_name 122 = .ok (.iaload, 1) := by decide +kernel
theorem dX12_name_123 : decode cX12_name 123 = .ok (.i2l, 1) := by decide +kernel
theorem dX12_name_124 : decode cX12_name 124 = .ok (.ladd, 1) := by decide +kernel
theorem dX12_name_125 : decode cX12_name 125 = .ok (.ldc2_w 316, 3) := by decide +kernel
theorem dX12_name_128 : decode cX12_name 128 = .ok (.lsub, 1) := by decide +kernel
theorem dX12_name_129 : decode cX12_name 129 = .ok (.lconst 1, 1) := by decide +kernel
theorem dX12_name_130 : decode cX12_name 130 = .ok (.ladd, 1) := by decide +kernel
theorem dX12_name_131 : decode cX12_name 131 = .ok (.lstore_n 1, 1) := by decide +kernel
theorem dX12_name_132 : decode cX12_name 132 = .ok (.aload_n 0, 1) := by decide +kernel
theorem dX12_name_133 : decode cX12_name 133 = .ok (.dup, 1) := by decide +kernel
theorem dX12_name_134 : decode cX12_name 134 = .ok (.getfield 269, 3) := by decide +kernel
theorem dX12_name_137 : decode cX12_name 137 = .ok (.iconst 1, 1) := by decide +kernel
theorem dX12_name_138 : decode cX12_name 138 = .ok (.iadd, 1) := by decide +kernel
theorem dX12_name_139 : decode cX12_name 139 = .ok (.putfield 269, 3) := by decide +kernel
theorem dX12_name_142 : decode cX12_name 142 = .ok (.goto (-84), 3) := by decide +kernel
theorem dX12_name_145 : decode cX12_name 145 = .ok (.aload_n 0, 1) := by decide +kernel
theorem dX12_name_146 : decode cX12_name 146 = .ok (.aload_n 0, 1) := by decide +kernel
theorem dX12_name_147 : decode cX12_name 147 = .ok (.getfield 269, 3) := by decide +kernel
theorem dX12_name_150 : decode cX12_name 150 = .ok (.putfield 283, 3) := by decide +kernel
theorem dX12_name_153 : decode cX12_name 153 = .ok (.lload_n 1, 1) := by decide +kernel
theorem dX12_name_154 : decode cX12_name 154 = .ok (.lreturn, 1) := by decide +kernel
theorem dX12_helperMany_0 : decode cX12_helperMany 0 = .ok (.aload_n 0, 1) := by decide +kernel
theorem dX12_helperMany_1 : decode cX12_helperMany 1 = .ok (.getfield 105, 3) := by decide +kernel
theorem dX12_helperMany_4 : decode cX12_helperMany 4 = .ok (.bipush 7, 2) := by decide +kernel
theorem dX12_helperMany_6 : decode cX12_helperMany 6 = .ok (.iaload, 1) := by decide +kernel
theorem dX12_helperMany_7 : decode cX12_helperMany 7 = .ok (.ireturn, 1) := by decide +kernel
theorem dX12_qOpens_0 : decode cX12_qOpens 0 = .ok (.aload_n 0, 1) := by decide +kernel
theorem dX12_qOpens_1 : decode cX12_qOpens 1 = .ok (.getfield 263, 3) := by decide +kernel
theorem dX12_qOpens_4 : decode cX12_qOpens 4 = .ok (.ifCond .eq 4, 3) := by decide +kernel
theorem dX12_qOpens_7 : decode cX12_qOpens 7 = .ok (.return_, 1) := by decide +kernel
theorem dX12_qOpens_8 : decode cX12_qOpens 8 = .ok (.aload_n 0, 1) := by decide +kernel
theorem dX12_qOpens_9 : decode cX12_qOpens 9 = .ok (.getfield 358, 3) := by decide +kernel
theorem dX12_qOpens_12 : decode cX12_qOpens 12 = .ok (.bipush 6, 2) := by decide +kernel
theorem dX12_qOpens_14 : decode cX12_qOpens 14 = .ok (.if_icmp .ne 10, 3) := by decide +kernel
theorem dX12_qOpens_17 : decode cX12_qOpens 17 = .ok (.aload_n 0, 1) := by decide +kernel
theorem dX12_qOpens_18 : decode cX12_qOpens 18 = .ok (.iconst 4, 1) := by decide +kernel
theorem dX12_qOpens_19 : decode cX12_qOpens 19 = .ok (.iload_n 2, 1) := by decide +kernel
theorem dX12_qOpens_20 : decode cX12_qOpens 20 = .ok (.invokevirtual 293, 3) := by decide +kernel
theorem dX12_qOpens_23 : decode cX12_qOpens 23 = .ok (.return_, 1) := by decide +kernel
theorem dX12_qOpens_24 : decode cX12_qOpens 24 = .ok (.aload_n 0, 1) := by decide +kernel
theorem dX12_qOpens_25 : decode cX12_qOpens 25 = .ok (.dup, 1) := by decide +kernel
theorem dX12_qOpens_26 : decode cX12_qOpens 26 = .ok (.getfield 358, 3) := by decide +kernel
theorem dX12_qOpens_29 : decode cX12_qOpens 29 = .ok (.iconst 1, 1) := by decide +kernel
theorem dX12_qOpens_30 : decode cX12_qOpens 30 = .ok (.iadd, 1) := by decide +kernel
theorem dX12_qOpens_31 : decode cX12_qOpens 31 = .ok (.putfield 358, 3) := by decide +kernel
theorem dX12_qOpens_34 : decode cX12_qOpens 34 = .ok (.aload_n 0, 1) := by decide +kernel
theorem dX12_qOpens_35 : decode cX12_qOpens 35 = .ok (.getfield 251, 3) := by decide +kernel
theorem dX12_qOpens_38 : decode cX12_qOpens 38 = .ok (.aload_n 0, 1) := by decide +kernel
theorem dX12_qOpens_39 : decode cX12_qOpens 39 = .ok (.getfield 355, 3) := by decide +kernel
theorem dX12_qOpens_42 : decode cX12_qOpens 42 = .ok (.iload_n 1, 1) := by decide +kernel
theorem dX12_qOpens_43 : decode cX12_qOpens 43 = .ok (.iastore, 1) := by decide +kernel
theorem dX12_qOpens_44 : decode cX12_qOpens 44 = .ok (.aload_n 0, 1) := by decide +kernel
theorem dX12_qOpens_45 : decode cX12_qOpens 45 = .ok (.dup, 1) := by decide +kernel
theorem dX12_qOpens_46 : decode cX12_qOpens 46 = .ok (.getfield 355, 3) := by decide +kernel
theorem dX12_qOpens_49 : decode cX12_qOpens 49 = .ok (.iconst 1, 1) := by decide +kernel
theorem dX12_qOpens_50 : decode cX12_qOpens 50 = .ok (.iadd, 1) := by decide +kernel
theorem dX12_qOpens_51 : decode cX12_qOpens 51 = .ok (.putfield 355, 3) := by decide +kernel
theorem dX12_qOpens_54 : decode cX12_qOpens 54 = .ok (.return_, 1) := by decide +kernel
theorem dX12_isHere_0 : decode cX12_isHere 0 = .ok (.aload_n 0, 1) := by decide +kernel
theorem dX12_isHere_1 : decode cX12_isHere 1 = .ok (.getfield 263, 3) := by decide +kernel
theorem dX12_isHere_4 : decode cX12_isHere 4 = .ok (.ifCond .ne 24, 3) := by decide +kernel
theorem dX12_isHere_7 : decode cX12_isHere 7 = .ok (.aload_n 0, 1) := by decide +kernel
theorem dX12_isHere_8 : decode cX12_isHere 8 = .ok (.invokevirtual 275, 3) := by decide +kernel
theorem dX12_isHere_11 : decode cX12_isHere 11 = .ok (.invokestatic 279, 3) := by decide +kernel
theorem dX12_isHere_14 : decode cX12_isHere 14 = .ok (.ifCond .eq 14, 3) := by decide +kernel
theorem dX12_isHere_17 : decode cX12_isHere 17 = .ok (.aload_n 0, 1) := by decide +kernel
theorem dX12_isHere_18 : decode cX12_isHere 18 = .ok (.getfield 269, 3) := by decide +kernel
theorem dX12_isHere_21 : decode cX12_isHere 21 = .ok (.aload_n 0, 1) := by decide +kernel
theorem dX12_isHere_22 : decode cX12_isHere 22 = .ok (.getfield 283, 3) := by decide +kernel
theorem dX12_isHere_25 : decode cX12_isHere 25 = .ok (.if_icmp .ne 5, 3) := by decide +kernel
theorem dX12_isHere_28 : decode cX12_isHere 28 = .ok (.iconst 0, 1) := by decide +kernel
theorem dX12_isHere_29 : decode cX12_isHere 29 = .ok (.ireturn, 1) := by decide +kernel
theorem dX12_isHere_30 : decode cX12_isHere 30 = .ok (.aload_n 0, 1) := by decide +kernel
theorem dX12_isHere_31 : decode cX12_isHere 31 = .ok (.getfield 269, 3) := by decide +kernel
theorem dX12_isHere_34 : decode cX12_isHere 34 = .ok (.istore_n 2, 1) := by decide +kernel
theorem dX12_isHere_35 : decode cX12_isHere 35 = .ok (.iload_n 2, 1) := by decide +kernel
theorem dX12_isHere_36 : decode cX12_isHere 36 = .ok (.aload_n 0, 1) := by decide +kernel
theorem dX12_isHere_37 : decode cX12_isHere 37 = .ok (.getfield 272, 3) := by decide +kernel
theorem dX12_isHere_40 : decode cX12_isHere 40 = .ok (.if_icmp .ge 21, 3) := by decide +kernel
theorem dX12_isHere_43 : decode cX12_isHere 43 = .ok (.aload_n 0, 1) := by decide +kernel
theorem dX12_isHere_44 : decode cX12_isHere 44 = .ok (.getfield 7, 3) := by decide +kernel
theorem dX12_isHere_47 : decode cX12_isHere 47 = .ok (.iload_n 2, 1) := by decide +kernel
theorem dX12_isHere_48 : decode cX12_isHere 48 = .ok (.iaload, 1) := by decide +kernel
theorem dX12_isHere_49 : decode cX12_isHere 49 = .ok (.invokestatic 279, 3) := by decide +kernel
theorem dX12_isHere_52 : decode cX12_isHere 52 = .ok (.ifCond .eq 9, 3) := by decide +kernel
theorem dX12_isHere_55 : decode cX12_isHere 55 = .ok (.iinc 2 1, 3) := by decide +kernel
theorem dX12_isHere_58 : decode cX12_isHere 58 = .ok (.goto (-23), 3) := by decide +kernel
theorem dX12_isHere_61 : decode cX12_isHere 61 = .ok (.iload_n 2, 1) := by decide +kernel
theorem dX12_isHere_62 : decode cX12_isHere 62 = .ok (.aload_n 0, 1) := by decide +kernel
theorem dX12_isHere_63 : decode cX12_isHere 63 = .ok (.getfield 269, 3) := by decide +kernel
theorem dX12_isHere_66 : decode cX12_isHere 66 = .ok (.isub, 1) := by decide +kernel
theorem dX12_isHere_67 : decode cX12_isHere 67 = .ok (.aload_n 1, 1) := by decide +kernel
theorem dX12_isHere_68 : decode cX12_isHere 68 = .ok (.arraylength, 1) := by decide +kernel
theorem dX12_isHere_69 : decode cX12_isHere 69 = .ok (.if_icmp .eq 5, 3) := by decide +kernel
theorem dX12_isHere_72 : decode cX12_isHere 72 = .ok (.iconst 0, 1) := by decide +kernel
theorem dX12_isHere_73 : decode cX12_isHere 73 = .ok (.ireturn, 1) := by decide +kernel
theorem dX12_isHere_74 : decode cX12_isHere 74 = .ok (.iconst 0, 1) := by decide +kernel
theorem dX12_isHere_75 : decode cX12_isHere 75 = .ok (.istore_n 3, 1) := by decide +kernel
theorem dX12_isHere_76 : decode cX12_isHere 76 = .ok (.iload_n 3, 1) := by decide +kernel
theorem dX12_isHere_77 : decode cX12_isHere 77 = .ok (.aload_n 1, 1) := by decide +kernel
theorem dX12_isHere_78 : decode cX12_isHere 78 = .ok (.arraylength, 1) := by decide +kernel
theorem dX12_isHere_79 : decode cX12_isHere 79 = .ok (.if_icmp .ge 28, 3) := by decide +kernel
theorem dX12_isHere_82 : decode cX12_isHere 82 = .ok (.aload_n 0, 1) := by decide +kernel
theorem dX12_isHere_83 : decode cX12_isHere 83 = .ok (.getfield 7, 3) := by decide +kernel
theorem dX12_isHere_86 : decode cX12_isHere 86 = .ok (.aload_n 0, 1) := by decide +kernel
theorem dX12_isHere_87 : decode cX12_isHere 87 = .ok (.getfield 269, 3) := by decide +kernel
theorem dX12_isHere_90 : decode cX12_isHere 90 = .ok (.iload_n 3, 1) := by decide +kernel
theorem dX12_isHere_91 : decode cX12_isHere 91 = .ok (.iadd, 1) := by decide +kernel
theorem dX12_isHere_92 : decode cX12_isHere 92 = .ok (.iaload, 1) := by decide +kernel
theorem dX12_isHere_93 : decode cX12_isHere 93 = .ok (.aload_n 1, 1) := by decide +kernel
theorem dX12_isHere_94 : decode cX12_isHere 94 = .ok (.iload_n 3, 1) := by decide +kernel
theorem dX12_isHere_95 : decode cX12_isHere 95 = .ok (.caload, 1) := by decide +kernel
theorem dX12_isHere_96 : decode cX12_isHere 96 = .ok (.if_icmp .eq 5, 3) := by decide +kernel
theorem dX12_isHere_99 : decode cX12_isHere 99 = .ok (.iconst 0, 1) := by decide +kernel
theorem dX12_isHere_100 : decode cX12_isHere 100 = .ok (.ireturn, 1) := by decide +kernel
theorem dX12_isHere_101 : decode cX12_isHere 101 = .ok (.iinc 3 1, 3) := by decide +kernel
theorem dX12_isHere_104 : decode cX12_isHere 104 = .ok (.goto (-28), 3) := by decide +kernel
theorem dX12_isHere_107 : decode cX12_isHere 107 = .ok (.iconst 1, 1) := by decide +kernel
theorem dX12_isHere_108 : decode cX12_isHere 108 = .ok (.ireturn, 1) := by decide +kernel
theorem dX12_qPuts_0 : decode cX12_qPuts 0 = .ok (.aload_n 0, 1) := by decide +kernel
theorem dX12_qPuts_1 : decode cX12_qPuts 1 = .ok (.getfield 254, 3) := by decide +kernel
theorem dX12_qPuts_4 : decode cX12_qPuts 4 = .ok (.aload_n 0, 1) := by decide +kernel
theorem dX12_qPuts_5 : decode cX12_qPuts 5 = .ok (.getfield 431, 3) := by decide +kernel
theorem dX12_qPuts_8 : decode cX12_qPuts 8 = .ok (.lload_n 1, 1) := by decide +kernel
theorem dX12_qPuts_9 : decode cX12_qPuts 9 = .ok (.lastore, 1) := by decide +kernel
theorem dX12_qPuts_10 : decode cX12_qPuts 10 = .ok (.aload_n 0, 1) := by decide +kernel
theorem dX12_qPuts_11 : decode cX12_qPuts 11 = .ok (.dup, 1) := by decide +kernel
theorem dX12_qPuts_12 : decode cX12_qPuts 12 = .ok (.getfield 431, 3) := by decide +kernel
theorem dX12_qPuts_15 : decode cX12_qPuts 15 = .ok (.iconst 1, 1) := by decide +kernel
theorem dX12_qPuts_16 : decode cX12_qPuts 16 = .ok (.iadd, 1) := by decide +kernel
theorem dX12_qPuts_17 : decode cX12_qPuts 17 = .ok (.putfield 431, 3) := by decide +kernel
theorem dX12_qPuts_20 : decode cX12_qPuts 20 = .ok (.return_, 1) := by decide +kernel
theorem dX12_refuses_0 : decode cX12_refuses 0 = .ok (.aload_n 0, 1) := by decide +kernel
theorem dX12_refuses_1 : decode cX12_refuses 1 = .ok (.getfield 17, 3) := by decide +kernel
theorem dX12_refuses_4 : decode cX12_refuses 4 = .ok (.iload_n 1, 1) := by decide +kernel
theorem dX12_refuses_5 : decode cX12_refuses 5 = .ok (.dup2, 1) := by decide +kernel
theorem dX12_refuses_6 : decode cX12_refuses 6 = .ok (.iaload, 1) := by decide +kernel
theorem dX12_refuses_7 : decode cX12_refuses 7 = .ok (.iconst 1, 1) := by decide +kernel
theorem dX12_refuses_8 : decode cX12_refuses 8 = .ok (.iadd, 1) := by decide +kernel
theorem dX12_refuses_9 : decode cX12_refuses 9 = .ok (.iastore, 1) := by decide +kernel
theorem dX12_refuses_10 : decode cX12_refuses 10 = .ok (.iconst (-1), 1) := by decide +kernel
theorem dX12_refuses_11 : decode cX12_refuses 11 = .ok (.ireturn, 1) := by decide +kernel
theorem dX12_qPartTold_0 : decode cX12_qPartTold 0 = .ok (.iconst 1, 1) := by decide +kernel
theorem dX12_qPartTold_1 : decode cX12_qPartTold 1 = .ok (.istore_n 1, 1) := by decide +kernel
theorem dX12_qPartTold_2 : decode cX12_qPartTold 2 = .ok (.iload_n 1, 1) := by decide +kernel
theorem dX12_qPartTold_3 : decode cX12_qPartTold 3 = .ok (.ifCond .eq 183, 3) := by decide +kernel
theorem dX12_qPartTold_6 : decode cX12_qPartTold 6 = .ok (.aload_n 0, 1) := by decide +kernel
theorem dX12_qPartTold_7 : decode cX12_qPartTold 7 = .ok (.getfield 263, 3) := by decide +kernel
theorem dX12_qPartTold_10 : decode cX12_qPartTold 10 = .ok (.ifCond .ne 176, 3) := by decide +kernel
theorem dX12_qPartTold_13 : decode cX12_qPartTold 13 = .ok (.aload_n 0, 1) := by decide +kernel
theorem dX12_qPartTold_14 : decode cX12_qPartTold 14 = .ok (.invokevirtual 275, 3) := by decide +kernel
theorem dX12_qPartTold_17 : decode cX12_qPartTold 17 = .ok (.istore_n 2, 1) := by decide +kernel
theorem dX12_qPartTold_18 : decode cX12_qPartTold 18 = .ok (.aload_n 0, 1) := by decide +kernel
theorem dX12_qPartTold_19 : decode cX12_qPartTold 19 = .ok (.bipush 10, 2) := by decide +kernel
theorem dX12_qPartTold_21 : decode cX12_qPartTold 21 = .ok (.bipush 11, 2) := by decide +kernel
theorem dX12_qPartTold_23 : decode cX12_qPartTold 23 = .ok (.invokevirtual 609, 3) := by decide +kernel
theorem dX12_qPartTold_26 : decode cX12_qPartTold 26 = .ok (.istore_n 3, 1) := by decide +kernel
theorem dX12_qPartTold_27 : decode cX12_qPartTold 27 = .ok (.iload_n 2, 1) := by decide +kernel
theorem dX12_qPartTold_28 : decode cX12_qPartTold 28 = .ok (.bipush 40, 2) := by decide +kernel
theorem dX12_qPartTold_30 : decode cX12_qPartTold 30 = .ok (.if_icmp .ne 26, 3) := by decide +kernel
theorem dX12_qPartTold_33 : decode cX12_qPartTold 33 = .ok (.aload_n 0, 1) := by decide +kernel
theorem dX12_qPartTold_34 : decode cX12_qPartTold 34 = .ok (.bipush 20, 2) := by decide +kernel
theorem dX12_qPartTold_36 : decode cX12_qPartTold 36 = .ok (.aload_n 0, 1) := by decide +kernel
theorem dX12_qPartTold_37 : decode cX12_qPartTold 37 = .ok (.getfield 269, 3) := by decide +kernel
theorem dX12_qPartTold_40 : decode cX12_qPartTold 40 = .ok (.invokevirtual 612, 3) := by decide +kernel
theorem dX12_qPartTold_43 : decode cX12_qPartTold 43 = .ok (.aload_n 0, 1) := by decide +kernel
theorem dX12_qPartTold_44 : decode cX12_qPartTold 44 = .ok (.dup, 1) := by decide +kernel
theorem dX12_qPartTold_45 : decode cX12_qPartTold 45 = .ok (.getfield 269, 3) := by decide +kernel
theorem dX12_qPartTold_48 : decode cX12_qPartTold 48 = .ok (.iconst 1, 1) := by decide +kernel
theorem dX12_qPartTold_49 : decode cX12_qPartTold 49 = .ok (.iadd, 1) := by decide +kernel
theorem dX12_qPartTold_50 : decode cX12_qPartTold 50 = .ok (.putfield 269, 3) := by decide +kernel
theorem dX12_qPartTold_53 : decode cX12_qPartTold 53 = .ok (.goto 130, 3) := by decide +kernel
theorem dX12_qPartTold_56 : decode cX12_qPartTold 56 = .ok (.aload_n 0, 1) := by decide +kernel
theorem dX12_qPartTold_57 : decode cX12_qPartTold 57 = .ok (.aload_n 0, 1) := by decide +kernel
theorem dX12_qPartTold_58 : decode cX12_qPartTold 58 = .ok (.getfield 209, 3) := by decide +kernel
theorem dX12_qPartTold_61 : decode cX12_qPartTold 61 = .ok (.invokevirtual 286, 3) := by decide +kernel
theorem dX12_qPartTold_64 : decode cX12_qPartTold 64 = .ok (.ifCond .ne 14, 3) := by decide +kernel
theorem dX12_qPartTold_67 : decode cX12_qPartTold 67 = .ok (.aload_n 0, 1) := by decide +kernel
theorem dX12_qPartTold_68 : decode cX12_qPartTold 68 = .ok (.aload_n 0, 1) := by decide +kernel
theorem dX12_qPartTold_69 : decode cX12_qPartTold 69 = .ok (.getfield 212, 3) := by decide +kernel
theorem dX12_qPartTold_72 : decode cX12_qPartTold 72 = .ok (.invokevirtual 286, 3) := by decide +kernel
theorem dX12_qPartTold_75 : decode cX12_qPartTold 75 = .ok (.ifCond .eq 78, 3) := by decide +kernel
theorem dX12_qPartTold_78 : decode cX12_qPartTold 78 = .ok (.aload_n 0, 1) := by decide +kernel
theorem dX12_qPartTold_79 : decode cX12_qPartTold 79 = .ok (.aload_n 0, 1) := by decide +kernel
theorem dX12_qPartTold_80 : decode cX12_qPartTold 80 = .ok (.getfield 209, 3) := by decide +kernel
theorem dX12_qPartTold_83 : decode cX12_qPartTold 83 = .ok (.invokevirtual 290, 3) := by decide +kernel
theorem dX12_qPartTold_86 : decode cX12_qPartTold 86 = .ok (.istore 4, 2) := by decide +kernel
theorem dX12_qPartTold_88 : decode cX12_qPartTold 88 = .ok (.iload 4, 2) := by decide +kernel
theorem dX12_qPartTold_90 : decode cX12_qPartTold 90 = .ok (.ifCond .ne 11, 3) := by decide +kernel
theorem dX12_qPartTold_93 : decode cX12_qPartTold 93 = .ok (.aload_n 0, 1) := by decide +kernel
theorem dX12_qPartTold_94 : decode cX12_qPartTold 94 = .ok (.aload_n 0, 1) := by decide +kernel
theorem dX12_qPartTold_95 : decode cX12_qPartTold 95 = .ok (.getfield 212, 3) := by decide +kernel
theorem dX12_qPartTold_98 : decode cX12_qPartTold 98 = .ok (.invokevirtual 337, 3) := by decide +kernel
theorem dX12_qPartTold_101 : decode cX12_qPartTold 101 = .ok (.aload_n 0, 1) := by decide +kernel
theorem dX12_qPartTold_102 : decode cX12_qPartTold 102 = .ok (.invokevirtual 275, 3) := by decide +kernel
theorem dX12_qPartTold_105 : decode cX12_qPartTold 105 = .ok (.bipush 40, 2) := by decide +kernel
theorem dX12_qPartTold_107 : decode cX12_qPartTold 107 = .ok (.if_icmp .ne 10, 3) := by decide +kernel
theorem dX12_qPartTold_110 : decode cX12_qPartTold 110 = .ok (.aload_n 0, 1) := by decide +kernel
theorem dX12_qPartTold_111 : decode cX12_qPartTold 111 = .ok (.getfield 269, 3) := by decide +kernel
theorem dX12_qPartTold_114 : decode cX12_qPartTold 114 = .ok (.goto 4, 3) := by decide +kernel
theorem dX12_qPartTold_117 : decode cX12_qPartTold 117 = .ok (.iconst (-1), 1) := by decide +kernel
theorem dX12_qPartTold_118 : decode cX12_qPartTold 118 = .ok (.istore 5, 2) := by decide +kernel
theorem dX12_qPartTold_120 : decode cX12_qPartTold 120 = .ok (.iload 5, 2) := by decide +kernel
theorem dX12_qPartTold_122 : decode cX12_qPartTold 122 = .ok (.iconst (-1), 1) := by decide +kernel
theorem dX12_qPartTold_123 : decode cX12_qPartTold 123 = .ok (.if_icmp .eq 21, 3) := by decide +kernel
theorem dX12_qPartTold_126 : decode cX12_qPartTold 126 = .ok (.aload_n 0, 1) := by decide +kernel
theorem dX12_qPartTold_127 : decode cX12_qPartTold 127 = .ok (.iload 4, 2) := by decide +kernel
theorem dX12_qPartTold_129 : decode cX12_qPartTold 129 = .ok (.ifCond .eq 8, 3) := by decide +kernel
theorem dX12_qPartTold_132 : decode cX12_qPartTold 132 = .ok (.bipush 21, 2) := by decide +kernel
theorem dX12_qPartTold_134 : decode cX12_qPartTold 134 = .ok (.goto 5, 3) := by decide +kernel
theorem dX12_qPartTold_137 : decode cX12_qPartTold 137 = .ok (.bipush 22, 2) := by decide +kernel
theorem dX12_qPartTold_139 : decode cX12_qPartTold 139 = .ok (.iload 5, 2) := by decide +kernel
theorem dX12_qPartTold_141 : decode cX12_qPartTold 141 = .ok (.invokevirtual 612, 3) := by decide +kernel
theorem dX12_qPartTold_144 : decode cX12_qPartTold 144 = .ok (.aload_n 0, 1) := by decide +kernel
theorem dX12_qPartTold_145 : decode cX12_qPartTold 145 = .ok (.bipush 40, 2) := by decide +kernel
theorem dX12_qPartTold_147 : decode cX12_qPartTold 147 = .ok (.invokevirtual 395, 3) := by decide +kernel
theorem dX12_qPartTold_150 : decode cX12_qPartTold 150 = .ok (.goto 33, 3) := by decide +kernel
theorem dX12_qPartTold_153 : decode cX12_qPartTold 153 = .ok (.iload_n 3, 1) := by decide +kernel
theorem dX12_qPartTold_154 : decode cX12_qPartTold 154 = .ok (.iconst (-1), 1) := by decide +kernel
theorem dX12_qPartTold_155 : decode cX12_qPartTold 155 = .ok (.if_icmp .eq 26, 3) := by decide +kernel
theorem dX12_qPartTold_158 : decode cX12_qPartTold 158 = .ok (.aload_n 0, 1) := by decide +kernel
theorem dX12_qPartTold_159 : decode cX12_qPartTold 159 = .ok (.bipush 60, 2) := by decide +kernel
theorem dX12_qPartTold_161 : decode cX12_qPartTold 161 = .ok (.iload_n 3, 1) := by decide +kernel
theorem dX12_qPartTold_162 : decode cX12_qPartTold 162 = .ok (.iadd, 1) := by decide +kernel
theorem dX12_qPartTold_163 : decode cX12_qPartTold 163 = .ok (.bipush 10, 2) := by decide +kernel
theorem dX12_qPartTold_165 : decode cX12_qPartTold 165 = .ok (.isub, 1) := by decide +kernel
theorem dX12_qPartTold_166 : decode cX12_qPartTold 166 = .ok (.aload_n 0, 1) := by decide +kernel
theorem dX12_qPartTold_167 : decode cX12_qPartTold 167 = .ok (.getfield 269, 3) := by decide +kernel
theorem dX12_qPartTold_170 : decode cX12_qPartTold 170 = .ok (.invokevirtual 612, 3) := by decide +kernel
theorem dX12_qPartTold_173 : decode cX12_qPartTold 173 = .ok (.aload_n 0, 1) := by decide +kernel
theorem dX12_qPartTold_174 : decode cX12_qPartTold 174 = .ok (.iload_n 3, 1) := by decide +kernel
theorem dX12_qPartTold_175 : decode cX12_qPartTold 175 = .ok (.invokevirtual 615, 3) := by decide +kernel
theorem dX12_qPartTold_178 : decode cX12_qPartTold 178 = .ok (.goto 5, 3) := by decide +kernel
theorem dX12_qPartTold_181 : decode cX12_qPartTold 181 = .ok (.iconst 0, 1) := by decide +kernel
theorem dX12_qPartTold_182 : decode cX12_qPartTold 182 = .ok (.istore_n 1, 1) := by decide +kernel
theorem dX12_qPartTold_183 : decode cX12_qPartTold 183 = .ok (.goto (-181), 3) := by decide +kernel
theorem dX12_qPartTold_186 : decode cX12_qPartTold 186 = .ok (.aload_n 0, 1) := by decide +kernel
theorem dX12_qPartTold_187 : decode cX12_qPartTold 187 = .ok (.getfield 263, 3) := by decide +kernel
theorem dX12_qPartTold_190 : decode cX12_qPartTold 190 = .ok (.ifCond .eq 4, 3) := by decide +kernel
theorem dX12_qPartTold_193 : decode cX12_qPartTold 193 = .ok (.return_, 1) := by decide +kernel
theorem dX12_qPartTold_194 : decode cX12_qPartTold 194 = .ok (.aload_n 0, 1) := by decide +kernel
theorem dX12_qPartTold_195 : decode cX12_qPartTold 195 = .ok (.iconst 0, 1) := by decide +kernel
theorem dX12_qPartTold_196 : decode cX12_qPartTold 196 = .ok (.bipush 10, 2) := by decide +kernel
theorem dX12_qPartTold_198 : decode cX12_qPartTold 198 = .ok (.invokevirtual 609, 3) := by decide +kernel
theorem dX12_qPartTold_201 : decode cX12_qPartTold 201 = .ok (.istore_n 2, 1) := by decide +kernel
theorem dX12_qPartTold_202 : decode cX12_qPartTold 202 = .ok (.iload_n 2, 1) := by decide +kernel
theorem dX12_qPartTold_203 : decode cX12_qPartTold 203 = .ok (.iconst (-1), 1) := by decide +kernel
theorem dX12_qPartTold_204 : decode cX12_qPartTold 204 = .ok (.if_icmp .eq 8, 3) := by decide +kernel
theorem dX12_qPartTold_207 : decode cX12_qPartTold 207 = .ok (.aload_n 0, 1) := by decide +kernel
theorem dX12_qPartTold_208 : decode cX12_qPartTold 208 = .ok (.iload_n 2, 1) := by decide +kernel
theorem dX12_qPartTold_209 : decode cX12_qPartTold 209 = .ok (.invokevirtual 615, 3) := by decide +kernel
theorem dX12_qPartTold_212 : decode cX12_qPartTold 212 = .ok (.aload_n 0, 1) := by decide +kernel
theorem dX12_qPartTold_213 : decode cX12_qPartTold 213 = .ok (.iload_n 2, 1) := by decide +kernel
theorem dX12_qPartTold_214 : decode cX12_qPartTold 214 = .ok (.iconst (-1), 1) := by decide +kernel
theorem dX12_qPartTold_215 : decode cX12_qPartTold 215 = .ok (.if_icmp .eq 10, 3) := by decide +kernel
theorem dX12_qPartTold_218 : decode cX12_qPartTold 218 = .ok (.bipush 40, 2) := by decide +kernel
theorem dX12_qPartTold_220 : decode cX12_qPartTold 220 = .ok (.iload_n 2, 1) := by decide +kernel
theorem dX12_qPartTold_221 : decode cX12_qPartTold 221 = .ok (.iadd, 1) := by decide +kernel
theorem dX12_qPartTold_222 : decode cX12_qPartTold 222 = .ok (.goto 15, 3) := by decide +kernel
theorem dX12_qPartTold_225 : decode cX12_qPartTold 225 = .ok (.sipush 1000, 3) := by decide +kernel
theorem dX12_qPartTold_228 : decode cX12_qPartTold 228 = .ok (.aload_n 0, 1) := by decide +kernel
theorem dX12_qPartTold_229 : decode cX12_qPartTold 229 = .ok (.iconst 0, 1) := by decide +kernel
theorem dX12_qPartTold_230 : decode cX12_qPartTold 230 = .ok (.sipush 9999, 3) := by decide +kernel
theorem dX12_qPartTold_233 : decode cX12_qPartTold 233 = .ok (.invokevirtual 341, 3) := by decide +kernel
theorem dX12_qPartTold_236 : decode cX12_qPartTold 236 = .ok (.iadd, 1) := by decide +kernel
theorem dX12_qPartTold_237 : decode cX12_qPartTold 237 = .ok (.invokevirtual 594, 3) := by decide +kernel
theorem dX12_qPartTold_240 : decode cX12_qPartTold 240 = .ok (.aload_n 0, 1) := by decide +kernel
theorem dX12_qPartTold_241 : decode cX12_qPartTold 241 = .ok (.invokevirtual 618, 3) := by decide +kernel
theorem dX12_qPartTold_244 : decode cX12_qPartTold 244 = .ok (.return_, 1) := by decide +kernel
theorem dX12_keeps_0 : decode cX12_keeps 0 = .ok (.aload_n 0, 1) := by decide +kernel
theorem dX12_keeps_1 : decode cX12_keeps 1 = .ok (.aload_n 0, 1) := by decide +kernel
theorem dX12_keeps_2 : decode cX12_keeps 2 = .ok (.getfield 572, 3) := by decide +kernel
theorem dX12_keeps_5 : decode cX12_keeps 5 = .ok (.iconst 1, 1) := by decide +kernel
theorem dX12_keeps_6 : decode cX12_keeps 6 = .ok (.iadd, 1) := by decide +kernel
theorem dX12_keeps_7 : decode cX12_keeps 7 = .ok (.bipush 20, 2) := by decide +kernel
theorem dX12_keeps_9 : decode cX12_keeps 9 = .ok (.irem, 1) := by decide +kernel
theorem dX12_keeps_10 : decode cX12_keeps 10 = .ok (.putfield 572, 3) := by decide +kernel
theorem dX12_keeps_13 : decode cX12_keeps 13 = .ok (.iconst 0, 1) := by decide +kernel
theorem dX12_keeps_14 : decode cX12_keeps 14 = .ok (.istore_n 1, 1) := by decide +kernel
theorem dX12_keeps_15 : decode cX12_keeps 15 = .ok (.iload_n 1, 1) := by decide +kernel
theorem dX12_keeps_16 : decode cX12_keeps 16 = .ok (.bipush 32, 2) := by decide +kernel
theorem dX12_keeps_18 : decode cX12_keeps 18 = .ok (.if_icmp .ge 29, 3) := by decide +kernel
theorem dX12_keeps_21 : decode cX12_keeps 21 = .ok (.aload_n 0, 1) := by decide +kernel
theorem dX12_keeps_22 : decode cX12_keeps 22 = .ok (.getfield 172, 3) := by decide +kernel
theorem dX12_keeps_25 : decode cX12_keeps 25 = .ok (.bipush 32, 2) := by decide +kernel
theorem dX12_keeps_27 : decode cX12_keeps 27 = .ok (.aload_n 0, 1) := by decide +kernel
theorem dX12_keeps_28 : decode cX12_keeps 28 = .ok (.getfield 572, 3) := by decide +kernel
theorem dX12_keeps_31 : decode cX12_keeps 31 = .ok (.imul, 1) := by decide +kernel
theorem dX12_keeps_32 : decode cX12_keeps 32 = .ok (.iload_n 1, 1) := by decide +kernel
theorem dX12_keeps_33 : decode cX12_keeps 33 = .ok (.iadd, 1) := by decide +kernel
theorem dX12_keeps_34 : decode cX12_keeps 34 = .ok (.aload_n 0, 1) := by decide +kernel
theorem dX12_keeps_35 : decode cX12_keeps 35 = .ok (.getfield 142, 3) := by decide +kernel
theorem dX12_keeps_38 : decode cX12_keeps 38 = .ok (.iload_n 1, 1) := by decide +kernel
theorem dX12_keeps_39 : decode cX12_keeps 39 = .ok (.iaload, 1) := by decide +kernel
theorem dX12_keeps_40 : decode cX12_keeps 40 = .ok (.iastore, 1) := by decide +kernel
theorem dX12_keeps_41 : decode cX12_keeps 41 = .ok (.iinc 1 1, 3) := by decide +kernel
theorem dX12_keeps_44 : decode cX12_keeps 44 = .ok (.goto (-29), 3) := by decide +kernel
theorem dX12_keeps_47 : decode cX12_keeps 47 = .ok (.aload_n 0, 1) := by decide +kernel
theorem dX12_keeps_48 : decode cX12_keeps 48 = .ok (.getfield 413, 3) := by decide +kernel
theorem dX12_keeps_51 : decode cX12_keeps 51 = .ok (.bipush 20, 2) := by decide +kernel
theorem dX12_keeps_53 : decode cX12_keeps 53 = .ok (.if_icmp .ge 13, 3) := by decide +kernel
theorem dX12_keeps_56 : decode cX12_keeps 56 = .ok (.aload_n 0, 1) := by decide +kernel
theorem dX12_keeps_57 : decode cX12_keeps 57 = .ok (.dup, 1) := by decide +kernel
theorem dX12_keeps_58 : decode cX12_keeps 58 = .ok (.getfield 413, 3) := by decide +kernel
theorem dX12_keeps_61 : decode cX12_keeps 61 = .ok (.iconst 1, 1) := by decide +kernel
theorem dX12_keeps_62 : decode cX12_keeps 62 = .ok (.iadd, 1) := by decide +kernel
theorem dX12_keeps_63 : decode cX12_keeps 63 = .ok (.putfield 413, 3) := by decide +kernel
theorem dX12_keeps_66 : decode cX12_keeps 66 = .ok (.return_, 1) := by decide +kernel
theorem dX12_isDigit_0 : decode cX12_isDigit 0 = .ok (.iload_n 0, 1) := by decide +kernel
theorem dX12_isDigit_1 : decode cX12_isDigit 1 = .ok (.bipush 48, 2) := by decide +kernel
theorem dX12_isDigit_3 : decode cX12_isDigit 3 = .ok (.if_icmp .lt 13, 3) := by decide +kernel
theorem dX12_isDigit_6 : decode cX12_isDigit 6 = .ok (.iload_n 0, 1) := by decide +kernel
theorem dX12_isDigit_7 : decode cX12_isDigit 7 = .ok (.bipush 57, 2) := by decide +kernel
theorem dX12_isDigit_9 : decode cX12_isDigit 9 = .ok (.if_icmp .gt 7, 3) := by decide +kernel
theorem dX12_isDigit_12 : decode cX12_isDigit 12 = .ok (.iconst 1, 1) := by decide +kernel
theorem dX12_isDigit_13 : decode cX12_isDigit 13 = .ok (.goto 4, 3) := by decide +kernel
theorem dX12_isDigit_16 : decode cX12_isDigit 16 = .ok (.iconst 0, 1) := by decide +kernel
theorem dX12_isDigit_17 : decode cX12_isDigit 17 = .ok (.ireturn, 1) := by decide +kernel
theorem dX12_qIsBracket_0 : decode cX12_qIsBracket 0 = .ok (.iload_n 0, 1) := by decide +kernel
theorem dX12_qIsBracket_1 : decode cX12_qIsBracket 1 = .ok (.bipush 20, 2) := by decide +kernel
theorem dX12_qIsBracket_3 : decode cX12_qIsBracket 3 = .ok (.if_icmp .lt 13, 3) := by decide +kernel
theorem dX12_qIsBracket_6 : decode cX12_qIsBracket 6 = .ok (.iload_n 0, 1) := by decide +kernel
theorem dX12_qIsBracket_7 : decode cX12_qIsBracket 7 = .ok (.bipush 24, 2) := by decide +kernel
theorem dX12_qIsBracket_9 : decode cX12_qIsBracket 9 = .ok (.if_icmp .gt 7, 3) := by decide +kernel
theorem dX12_qIsBracket_12 : decode cX12_qIsBracket 12 = .ok (.iconst 1, 1) := by decide +kernel
theorem dX12_qIsBracket_13 : decode cX12_qIsBracket 13 = .ok (.goto 4, 3) := by decide +kernel
theorem dX12_qIsBracket_16 : decode cX12_qIsBracket 16 = .ok (.iconst 0, 1) := by decide +kernel
theorem dX12_qIsBracket_17 : decode cX12_qIsBracket 17 = .ok (.ireturn, 1) := by decide +kernel
theorem dX12_qPartOf_0 : decode cX12_qPartOf 0 = .ok (.iload_n 1, 1) := by decide +kernel
theorem dX12_qPartOf_1 : decode cX12_qPartOf 1 = .ok (.tableswitch 128 0 8 #[51, 64, 77, 90, 96, 103, 111, 114, 121], 51) := by decide +kernel
theorem dX12_qPartOf_52 : decode cX12_qPartOf 52 = .ok (.aload_n 0, 1) := by decide +kernel
theorem dX12_qPartOf_53 : decode cX12_qPartOf 53 = .ok (.getfield 112, 3) := by decide +kernel
theorem dX12_qPartOf_56 : decode cX12_qPartOf 56 = .ok (.bipush 24, 2) := by decide +kernel
theorem dX12_qPartOf_58 : decode cX12_qPartOf 58 = .ok (.iconst 3, 1) := by decide +kernel
theorem dX12_qPartOf_59 : decode cX12_qPartOf 59 = .ok (.iload_n 2, 1) := by decide +kernel
theorem dX12_qPartOf_60 : decode cX12_qPartOf 60 = .ok (.imul, 1) := by decide +kernel
theorem dX12_qPartOf_61 : decode cX12_qPartOf 61 = .ok (.iadd, 1) := by decide +kernel
theorem dX12_qPartOf_62 : decode cX12_qPartOf 62 = .ok (.iaload, 1) := by decide +kernel
theorem dX12_qPartOf_63 : decode cX12_qPartOf 63 = .ok (.i2l, 1) := by decide +kernel
theorem dX12_qPartOf_64 : decode cX12_qPartOf 64 = .ok (.lreturn, 1) := by decide +kernel
theorem dX12_qPartOf_65 : decode cX12_qPartOf 65 = .ok (.aload_n 0, 1) := by decide +kernel
theorem dX12_qPartOf_66 : decode cX12_qPartOf 66 = .ok (.getfield 112, 3) := by decide +kernel
theorem dX12_qPartOf_69 : decode cX12_qPartOf 69 = .ok (.bipush 25, 2) := by decide +kernel
theorem dX12_qPartOf_71 : decode cX12_qPartOf 71 = .ok (.iconst 3, 1) := by decide +kernel
theorem dX12_qPartOf_72 : decode cX12_qPartOf 72 = .ok (.iload_n 2, 1) := by decide +kernel
theorem dX12_qPartOf_73 : decode cX12_qPartOf 73 = .ok (.imul, 1) := by decide +kernel
theorem dX12_qPartOf_74 : decode cX12_qPartOf 74 = .ok (.iadd, 1) := by decide +kernel
theorem dX12_qPartOf_75 : decode cX12_qPartOf 75 = .ok (.iaload, 1) := by decide +kernel
theorem dX12_qPartOf_76 : decode cX12_qPartOf 76 = .ok (.i2l, 1) := by decide +kernel
theorem dX12_qPartOf_77 : decode cX12_qPartOf 77 = .ok (.lreturn, 1) := by decide +kernel
theorem dX12_qPartOf_78 : decode cX12_qPartOf 78 = .ok (.aload_n 0, 1) := by decide +kernel
theorem dX12_qPartOf_79 : decode cX12_qPartOf 79 = .ok (.getfield 112, 3) := by decide +kernel
theorem dX12_qPartOf_82 : decode cX12_qPartOf 82 = .ok (.bipush 26, 2) := by decide +kernel
theorem dX12_qPartOf_84 : decode cX12_qPartOf 84 = .ok (.iconst 3, 1) := by decide +kernel
theorem dX12_qPartOf_85 : decode cX12_qPartOf 85 = .ok (.iload_n 2, 1) := by decide +kernel
theorem dX12_qPartOf_86 : decode cX12_qPartOf 86 = .ok (.imul, 1) := by decide +kernel
theorem dX12_qPartOf_87 : decode cX12_qPartOf 87 = .ok (.iadd, 1) := by decide +kernel
theorem dX12_qPartOf_88 : decode cX12_qPartOf 88 = .ok (.iaload, 1) := by decide +kernel
theorem dX12_qPartOf_89 : decode cX12_qPartOf 89 = .ok (.i2l, 1) := by decide +kernel
theorem dX12_qPartOf_90 : decode cX12_qPartOf 90 = .ok (.lreturn, 1) := by decide +kernel
theorem dX12_qPartOf_91 : decode cX12_qPartOf 91 = .ok (.aload_n 0, 1) := by decide +kernel
theorem dX12_qPartOf_92 : decode cX12_qPartOf 92 = .ok (.getfield 428, 3) := by decide +kernel
theorem dX12_qPartOf_95 : decode cX12_qPartOf 95 = .ok (.i2l, 1) := by decide +kernel
theorem dX12_qPartOf_96 : decode cX12_qPartOf 96 = .ok (.lreturn, 1) := by decide +kernel
theorem dX12_qPartOf_97 : decode cX12_qPartOf 97 = .ok (.aload_n 0, 1) := by decide +kernel
theorem dX12_qPartOf_98 : decode cX12_qPartOf 98 = .ok (.iload_n 2, 1) := by decide +kernel
theorem dX12_qPartOf_99 : decode cX12_qPartOf 99 = .ok (.invokevirtual 510, 3) := by decide +kernel
theorem dX12_qPartOf_102 : decode cX12_qPartOf 102 = .ok (.i2l, 1) := by decide +kernel
theorem dX12_qPartOf_103 : decode cX12_qPartOf 103 = .ok (.lreturn, 1) := by decide +kernel
theorem dX12_qPartOf_104 : decode cX12_qPartOf 104 = .ok (.aload_n 0, 1) := by decide +kernel
theorem dX12_qPartOf_105 : decode cX12_qPartOf 105 = .ok (.getfield 142, 3) := by decide +kernel
theorem dX12_qPartOf_108 : decode cX12_qPartOf 108 = .ok (.iconst 0, 1) := by decide +kernel
theorem dX12_qPartOf_109 : decode cX12_qPartOf 109 = .ok (.iaload, 1) := by decide +kernel
theorem dX12_qPartOf_110 : decode cX12_qPartOf 110 = .ok (.i2l, 1) := by decide +kernel
theorem dX12_qPartOf_111 : decode cX12_qPartOf 111 = .ok (.lreturn, 1) := by decide +kernel
theorem dX12_qPartOf_112 : decode cX12_qPartOf 112 = .ok (.iload_n 2, 1) := by decide +kernel
theorem dX12_qPartOf_113 : decode cX12_qPartOf 113 = .ok (.i2l, 1) := by decide +kernel
theorem dX12_qPartOf_114 : decode cX12_qPartOf 114 = .ok (.lreturn, 1) := by decide +kernel
theorem dX12_qPartOf_115 : decode cX12_qPartOf 115 = .ok (.aload_n 0, 1) := by decide +kernel
theorem dX12_qPartOf_116 : decode cX12_qPartOf 116 = .ok (.iload_n 2, 1) := by decide +kernel
theorem dX12_qPartOf_117 : decode cX12_qPartOf 117 = .ok (.invokevirtual 504, 3) := by decide +kernel
theorem dX12_qPartOf_120 : decode cX12_qPartOf 120 = .ok (.i2l, 1) := by decide +kernel
theorem dX12_qPartOf_121 : decode cX12_qPartOf 121 = .ok (.lreturn, 1) := by decide +kernel
theorem dX12_qPartOf_122 : decode cX12_qPartOf 122 = .ok (.aload_n 0, 1) := by decide +kernel
theorem dX12_qPartOf_123 : decode cX12_qPartOf 123 = .ok (.iload_n 2, 1) := by decide +kernel
theorem dX12_qPartOf_124 : decode cX12_qPartOf 124 = .ok (.invokevirtual 451, 3) := by decide +kernel
theorem dX12_qPartOf_127 : decode cX12_qPartOf 127 = .ok (.i2l, 1) := by decide +kernel
theorem dX12_qPartOf_128 : decode cX12_qPartOf 128 = .ok (.lreturn, 1) := by decide +kernel
theorem dX12_qPartOf_129 : decode cX12_qPartOf 129 = .ok (.aload_n 0, 1) := by decide +kernel
theorem dX12_qPartOf_130 : decode cX12_qPartOf 130 = .ok (.iload_n 2, 1) := by decide +kernel
theorem dX12_qPartOf_131 : decode cX12_qPartOf 131 = .ok (.invokevirtual 507, 3) := by decide +kernel
theorem dX12_qPartOf_134 : decode cX12_qPartOf 134 = .ok (.i2l, 1) := by decide +kernel
theorem dX12_qPartOf_135 : decode cX12_qPartOf 135 = .ok (.lreturn, 1) := by decide +kernel
theorem dX12_isMail_0 : decode cX12_isMail 0 = .ok (.iload_n 1, 1) := by decide +kernel
theorem dX12_isMail_1 : decode cX12_isMail 1 = .ok (.i2l, 1) := by decide +kernel
theorem dX12_isMail_2 : decode cX12_isMail 2 = .ok (.lconst 0, 1) := by decide +kernel
theorem dX12_isMail_3 : decode cX12_isMail 3 = .ok (.aload_n 0, 1) := by decide +kernel
theorem dX12_isMail_4 : decode cX12_isMail 4 = .ok (.invokevirtual 419, 3) := by decide +kernel
theorem dX12_isMail_7 : decode cX12_isMail 7 = .ok (.iconst 1, 1) := by decide +kernel
theorem dX12_isMail_8 : decode cX12_isMail 8 = .ok (.isub, 1) := by decide +kernel
theorem dX12_isMail_9 : decode cX12_isMail 9 = .ok (.i2l, 1) := by decide +kernel
theorem dX12_isMail_10 : decode cX12_isMail 10 = .ok (.invokestatic 303, 3) := by decide +kernel
theorem dX12_isMail_13 : decode cX12_isMail 13 = .ok (.ireturn, 1) := by decide +kernel
theorem dX12_warmIn_0 : decode cX12_warmIn 0 = .ok (.lconst 0, 1) := by decide +kernel
theorem dX12_warmIn_1 : decode cX12_warmIn 1 = .ok (.lstore_n 1, 1) := by decide +kernel
theorem dX12_warmIn_2 : decode cX12_warmIn 2 = .ok (.iconst 0, 1) := by decide +kernel
theorem dX12_warmIn_3 : decode cX12_warmIn 3 = .ok (.istore_n 3, 1) := by decide +kernel
theorem dX12_warmIn_4 : decode cX12_warmIn 4 = .ok (.iload_n 3, 1) := by decide +kernel
theorem dX12_warmIn_5 : decode cX12_warmIn 5 = .ok (.aload_n 0, 1) := by decide +kernel
theorem dX12_warmIn_6 : decode cX12_warmIn 6 = .ok (.invokevirtual 419, 3) := by decide +kernel
theorem dX12_warmIn_9 : decode cX12_warmIn 9 = .ok (.if_icmp .ge 38, 3) := by decide +kernel
theorem dX12_warmIn_12 : decode cX12_warmIn 12 = .ok (.aload_n 0, 1) := by decide +kernel
theorem dX12_warmIn_13 : decode cX12_warmIn 13 = .ok (.getfield 148, 3) := by decide +kernel
theorem dX12_warmIn_16 : decode cX12_warmIn 16 = .ok (.iload_n 3, 1) := by decide +kernel
theorem dX12_warmIn_17 : decode cX12_warmIn 17 = .ok (.iaload, 1) := by decide +kernel
theorem dX12_warmIn_18 : decode cX12_warmIn 18 = .ok (.ifCond .le 23, 3) := by decide +kernel
theorem dX12_warmIn_21 : decode cX12_warmIn 21 = .ok (.lload_n 1, 1) := by decide +kernel
theorem dX12_warmIn_22 : decode cX12_warmIn 22 = .ok (.aload_n 0, 1) := by decide +kernel
theorem dX12_warmIn_23 : decode cX12_warmIn 23 = .ok (.getfield 160, 3) := by decide +kernel
theorem dX12_warmIn_26 : decode cX12_warmIn 26 = .ok (.iconst 3, 1) := by decide +kernel
theorem dX12_warmIn_27 : decode cX12_warmIn 27 = .ok (.iload_n 3, 1) := by decide +kernel
theorem dX12_warmIn_28 : decode cX12_warmIn 28 = .ok (.imul, 1) := by decide +kernel
theorem dX12_warmIn_29 : decode cX12_warmIn 29 = .ok (.aload_n 0, 1) := by decide +kernel
theorem dX12_warmIn_30 : decode cX12_warmIn 30 = .ok (.getfield 148, 3) := by decide +kernel
theorem dX12_warmIn_33 : decode cX12_warmIn 33 = .ok (.iload_n 3, 1) := by decide +kernel
theorem dX12_warmIn_34 : decode cX12_warmIn 34 = .ok (.iaload, 1) := by decide +kernel
theorem dX12_warmIn_35 : decode cX12_warmIn 35 = .ok (.iadd, 1) := by decide +kernel
theorem dX12_warmIn_36 : decode cX12_warmIn 36 = .ok (.iconst 1, 1) := by decide +kernel
theorem dX12_warmIn_37 : decode cX12_warmIn 37 = .ok (.isub, 1) := by decide +kernel
theorem dX12_warmIn_38 : decode cX12_warmIn 38 = .ok (.laload, 1) := by decide +kernel
theorem dX12_warmIn_39 : decode cX12_warmIn 39 = .ok (.ladd, 1) := by decide +kernel
theorem dX12_warmIn_40 : decode cX12_warmIn 40 = .ok (.lstore_n 1, 1) := by decide +kernel
theorem dX12_warmIn_41 : decode cX12_warmIn 41 = .ok (.iinc 3 1, 3) := by decide +kernel
theorem dX12_warmIn_44 : decode cX12_warmIn 44 = .ok (.goto (-40), 3) := by decide +kernel
theorem dX12_warmIn_47 : decode cX12_warmIn 47 = .ok (.lload_n 1, 1) := by decide +kernel
theorem dX12_warmIn_48 : decode cX12_warmIn 48 = .ok (.lreturn, 1) := by decide +kernel
theorem dX12_see_0 : decode cX12_see 0 = .ok (.aload_n 0, 1) := by decide +kernel
theorem dX12_see_1 : decode cX12_see 1 = .ok (.getfield 260, 3) := by decide +kernel
theorem dX12_see_4 : decode cX12_see 4 = .ok (.istore_n 1, 1) := by decide +kernel
theorem dX12_see_5 : decode cX12_see 5 = .ok (.aload_n 0, 1) := by decide +kernel
theorem dX12_see_6 : decode cX12_see 6 = .ok (.iconst 0, 1) := by decide +kernel
theorem dX12_see_7 : decode cX12_see 7 = .ok (.putfield 260, 3) := by decide +kernel
theorem dX12_see_10 : decode cX12_see 10 = .ok (.iload_n 1, 1) := by decide +kernel
theorem dX12_see_11 : decode cX12_see 11 = .ok (.ifCond .le 21, 3) := by decide +kernel
theorem dX12_see_14 : decode cX12_see 14 = .ok (.iload_n 1, 1) := by decide +kernel
theorem dX12_see_15 : decode cX12_see 15 = .ok (.iconst 3, 1) := by decide +kernel
theorem dX12_see_16 : decode cX12_see 16 = .ok (.irem, 1) := by decide +kernel
theorem dX12_see_17 : decode cX12_see 17 = .ok (.ifCond .ne 15, 3) := by decide +kernel
theorem dX12_see_20 : decode cX12_see 20 = .ok (.iload_n 1, 1) := by decide +kernel
theorem dX12_see_21 : decode cX12_see 21 = .ok (.iconst 3, 1) := by decide +kernel
theorem dX12_see_22 : decode cX12_see 22 = .ok (.idiv, 1) := by decide +kernel
theorem dX12_see_23 : decode cX12_see 23 = .ok (.bipush 16, 2) := by decide +kernel
theorem dX12_see_25 : decode cX12_see 25 = .ok (.if_icmp .gt 7, 3) := by decide +kernel
theorem dX12_see_28 : decode cX12_see 28 = .ok (.iconst 1, 1) := by decide +kernel
theorem dX12_see_29 : decode cX12_see 29 = .ok (.goto 4, 3) := by decide +kernel
theorem dX12_see_32 : decode cX12_see 32 = .ok (.iconst 0, 1) := by decide +kernel
theorem dX12_see_33 : decode cX12_see 33 = .ok (.istore_n 2, 1) := by decide +kernel
theorem dX12_see_34 : decode cX12_see 34 = .ok (.iconst 0, 1) := by decide +kernel
theorem dX12_see_35 : decode cX12_see 35 = .ok (.istore_n 3, 1) := by decide +kernel
theorem dX12_see_36 : decode cX12_see 36 = .ok (.iload_n 3, 1) := by decide +kernel
theorem dX12_see_37 : decode cX12_see 37 = .ok (.iload_n 1, 1) := by decide +kernel
theorem dX12_see_38 : decode cX12_see 38 = .ok (.if_icmp .ge 24, 3) := by decide +kernel
theorem dX12_see_41 : decode cX12_see 41 = .ok (.iload_n 2, 1) := by decide +kernel
theorem dX12_see_42 : decode cX12_see 42 = .ok (.ifCond .eq 20, 3) := by decide +kernel
theorem dX12_see_45 : decode cX12_see 45 = .ok (.aload_n 0, 1) := by decide +kernel
theorem dX12_see_46 : decode cX12_see 46 = .ok (.aload_n 0, 1) := by decide +kernel
theorem dX12_see_47 : decode cX12_see 47 = .ok (.getfield 7, 3) := by decide +kernel
theorem dX12_see_50 : decode cX12_see 50 = .ok (.iload_n 3, 1) := by decide +kernel
theorem dX12_see_51 : decode cX12_see 51 = .ok (.iaload, 1) := by decide +kernel
theorem dX12_see_52 : decode cX12_see 52 = .ok (.invokevirtual 501, 3) := by decide +kernel
theorem dX12_see_55 : decode cX12_see 55 = .ok (.istore_n 2, 1) := by decide +kernel
theorem dX12_see_56 : decode cX12_see 56 = .ok (.iinc 3 3, 3) := by decide +kernel
theorem dX12_see_59 : decode cX12_see 59 = .ok (.goto (-23), 3) := by decide +kernel
theorem dX12_see_62 : decode cX12_see 62 = .ok (.iload_n 2, 1) := by decide +kernel
theorem dX12_see_63 : decode cX12_see 63 = .ok (.ifCond .ne 9, 3) := by decide +kernel
theorem dX12_see_66 : decode cX12_see 66 = .ok (.aload_n 0, 1) := by decide +kernel
theorem dX12_see_67 : decode cX12_see 67 = .ok (.iconst 1, 1) := by decide +kernel
theorem dX12_see_68 : decode cX12_see 68 = .ok (.invokevirtual 560, 3) := by decide +kernel
theorem dX12_see_71 : decode cX12_see 71 = .ok (.ireturn, 1) := by decide +kernel
theorem dX12_see_72 : decode cX12_see 72 = .ok (.iconst 0, 1) := by decide +kernel
theorem dX12_see_73 : decode cX12_see 73 = .ok (.istore_n 3, 1) := by decide +kernel
theorem dX12_see_74 : decode cX12_see 74 = .ok (.iload_n 3, 1) := by decide +kernel
theorem dX12_see_75 : decode cX12_see 75 = .ok (.iload_n 1, 1) := by decide +kernel
theorem dX12_see_76 : decode cX12_see 76 = .ok (.if_icmp .ge 21, 3) := by decide +kernel
theorem dX12_see_79 : decode cX12_see 79 = .ok (.aload_n 0, 1) := by decide +kernel
theorem dX12_see_80 : decode cX12_see 80 = .ok (.getfield 169, 3) := by decide +kernel
theorem dX12_see_83 : decode cX12_see 83 = .ok (.iload_n 3, 1) := by decide +kernel
theorem dX12_see_84 : decode cX12_see 84 = .ok (.aload_n 0, 1) := by decide +kernel
theorem dX12_see_85 : decode cX12_see 85 = .ok (.getfield 7, 3) := by decide +kernel
theorem dX12_see_88 : decode cX12_see 88 = .ok (.iload_n 3, 1) := by decide +kernel
theorem dX12_see_89 : decode cX12_see 89 = .ok (.iaload, 1) := by decide +kernel
theorem dX12_see_90 : decode cX12_see 90 = .ok (.iastore, 1) := by decide +kernel
theorem dX12_see_91 : decode cX12_see 91 = .ok (.iinc 3 1, 3) := by decide +kernel
theorem dX12_see_94 : decode cX12_see 94 = .ok (.goto (-20), 3) := by decide +kernel
theorem dX12_see_97 : decode cX12_see 97 = .ok (.aload_n 0, 1) := by decide +kernel
theorem dX12_see_98 : decode cX12_see 98 = .ok (.iload_n 1, 1) := by decide +kernel
theorem dX12_see_99 : decode cX12_see 99 = .ok (.iconst 3, 1) := by decide +kernel
theorem dX12_see_100 : decode cX12_see 100 = .ok (.idiv, 1) := by decide +kernel
theorem dX12_see_101 : decode cX12_see 101 = .ok (.putfield 416, 3) := by decide +kernel
theorem dX12_see_104 : decode cX12_see 104 = .ok (.aload_n 0, 1) := by decide +kernel
theorem dX12_see_105 : decode cX12_see 105 = .ok (.getfield 416, 3) := by decide +kernel
theorem dX12_see_108 : decode cX12_see 108 = .ok (.ireturn, 1) := by decide +kernel
theorem dX12_later_0 : decode cX12_later 0 = .ok (.aload_n 0, 1) := by decide +kernel
theorem dX12_later_1 : decode cX12_later 1 = .ok (.iload_n 1, 1) := by decide +kernel
theorem dX12_later_2 : decode cX12_later 2 = .ok (.iconst 0, 1) := by decide +kernel
theorem dX12_later_3 : decode cX12_later 3 = .ok (.bipush 30, 2) := by decide +kernel
theorem dX12_later_5 : decode cX12_later 5 = .ok (.invokevirtual 524, 3) := by decide +kernel
theorem dX12_later_8 : decode cX12_later 8 = .ok (.ifCond .ne 5, 3) := by decide +kernel
theorem dX12_later_11 : decode cX12_later 11 = .ok (.iconst (-1), 1) := by decide +kernel
theorem dX12_later_12 : decode cX12_later 12 = .ok (.ireturn, 1) := by decide +kernel
theorem dX12_later_13 : decode cX12_later 13 = .ok (.aload_n 0, 1) := by decide +kernel
theorem dX12_later_14 : decode cX12_later 14 = .ok (.invokevirtual 527, 3) := by decide +kernel
theorem dX12_later_17 : decode cX12_later 17 = .ok (.iconst 0, 1) := by decide +kernel
theorem dX12_later_18 : decode cX12_later 18 = .ok (.istore_n 2, 1) := by decide +kernel
theorem dX12_later_19 : decode cX12_later 19 = .ok (.iload_n 2, 1) := by decide +kernel
theorem dX12_later_20 : decode cX12_later 20 = .ok (.iload_n 1, 1) := by decide +kernel
theorem dX12_later_21 : decode cX12_later 21 = .ok (.if_icmp .ge 14, 3) := by decide +kernel
theorem dX12_later_24 : decode cX12_later 24 = .ok (.aload_n 0, 1) := by decide +kernel
theorem dX12_later_25 : decode cX12_later 25 = .ok (.invokevirtual 530, 3) := by decide +kernel
theorem dX12_later_28 : decode cX12_later 28 = .ok (.pop, 1) := by decide +kernel
theorem dX12_later_29 : decode cX12_later 29 = .ok (.iinc 2 1, 3) := by decide +kernel
theorem dX12_later_32 : decode cX12_later 32 = .ok (.goto (-13), 3) := by decide +kernel
theorem dX12_later_35 : decode cX12_later 35 = .ok (.aload_n 0, 1) := by decide +kernel
theorem dX12_later_36 : decode cX12_later 36 = .ok (.invokevirtual 533, 3) := by decide +kernel
theorem dX12_later_39 : decode cX12_later 39 = .ok (.istore_n 2, 1) := by decide +kernel
theorem dX12_later_40 : decode cX12_later 40 = .ok (.aload_n 0, 1) := by decide +kernel
theorem dX12_later_41 : decode cX12_later 41 = .ok (.invokevirtual 536, 3) := by decide +kernel
theorem dX12_later_44 : decode cX12_later 44 = .ok (.iload_n 2, 1) := by decide +kernel
theorem dX12_later_45 : decode cX12_later 45 = .ok (.ireturn, 1) := by decide +kernel
theorem dX12_stands_0 : decode cX12_stands 0 = .ok (.iconst 0, 1) := by decide +kernel
theorem dX12_stands_1 : decode cX12_stands 1 = .ok (.istore_n 1, 1) := by decide +kernel
theorem dX12_stands_2 : decode cX12_stands 2 = .ok (.iload_n 1, 1) := by decide +kernel
theorem dX12_stands_3 : decode cX12_stands 3 = .ok (.iconst 5, 1) := by decide +kernel
theorem dX12_stands_4 : decode cX12_stands 4 = .ok (.if_icmp .ge 23, 3) := by decide +kernel
theorem dX12_stands_7 : decode cX12_stands 7 = .ok (.aload_n 0, 1) := by decide +kernel
theorem dX12_stands_8 : decode cX12_stands 8 = .ok (.getfield 105, 3) := by decide +kernel
theorem dX12_stands_11 : decode cX12_stands 11 = .ok (.iconst 5, 1) := by decide +kernel
theorem dX12_stands_12 : decode cX12_stands 12 = .ok (.iload_n 1, 1) := by decide +kernel
theorem dX12_stands_13 : decode cX12_stands 13 = .ok (.iadd, 1) := by decide +kernel
theorem dX12_stands_14 : decode cX12_stands 14 = .ok (.aload_n 0, 1) := by decide +kernel
theorem dX12_stands_15 : decode cX12_stands 15 = .ok (.getfield 105, 3) := by decide +kernel
theorem dX12_stands_18 : decode cX12_stands 18 = .ok (.iload_n 1, 1) := by decide +kernel
theorem dX12_stands_19 : decode cX12_stands 19 = .ok (.iaload, 1) := by decide +kernel
theorem dX12_stands_20 : decode cX12_stands 20 = .ok (.iastore, 1) := by decide +kernel
theorem dX12_stands_21 : decode cX12_stands 21 = .ok (.iinc 1 1, 3) := by decide +kernel
theorem dX12_stands_24 : decode cX12_stands 24 = .ok (.goto (-22), 3) := by decide +kernel
theorem dX12_stands_27 : decode cX12_stands 27 = .ok (.iconst 0, 1) := by decide +kernel
theorem dX12_stands_28 : decode cX12_stands 28 = .ok (.istore_n 1, 1) := by decide +kernel
theorem dX12_stands_29 : decode cX12_stands 29 = .ok (.iload_n 1, 1) := by decide +kernel
theorem dX12_stands_30 : decode cX12_stands 30 = .ok (.bipush 24, 2) := by decide +kernel
theorem dX12_stands_32 : decode cX12_stands 32 = .ok (.if_icmp .ge 39, 3) := by decide +kernel
theorem dX12_stands_35 : decode cX12_stands 35 = .ok (.aload_n 0, 1) := by decide +kernel
theorem dX12_stands_36 : decode cX12_stands 36 = .ok (.getfield 108, 3) := by decide +kernel
theorem dX12_stands_39 : decode cX12_stands 39 = .ok (.bipush 24, 2) := by decide +kernel
theorem dX12_stands_41 : decode cX12_stands 41 = .ok (.iload_n 1, 1) := by decide +kernel
theorem dX12_stands_42 : decode cX12_stands 42 = .ok (.iadd, 1) := by decide +kernel
theorem dX12_stands_43 : decode cX12_stands 43 = .ok (.aload_n 0, 1) := by decide +kernel
theorem dX12_stands_44 : decode cX12_stands 44 = .ok (.getfield 108, 3) := by decide +kernel
theorem dX12_stands_47 : decode cX12_stands 47 = .ok (.iload_n 1, 1) := by decide +kernel
theorem dX12_stands_48 : decode cX12_stands 48 = .ok (.laload, 1) := by decide +kernel
theorem dX12_stands_49 : decode cX12_stands 49 = .ok (.lastore, 1) := by decide +kernel
theorem dX12_stands_50 : decode cX12_stands 50 = .ok (.aload_n 0, 1) := by decide +kernel
theorem dX12_stands_51 : decode cX12_stands 51 = .ok (.getfield 112, 3) := by decide +kernel
theorem dX12_stands_54 : decode cX12_stands 54 = .ok (.bipush 24, 2) := by decide +kernel
theorem dX12_stands_56 : decode cX12_stands 56 = .ok (.iload_n 1, 1) := by decide +kernel
theorem dX12_stands_57 : decode cX12_stands 57 = .ok (.iadd, 1) := by decide +kernel
theorem dX12_stands_58 : decode cX12_stands 58 = .ok (.aload_n 0, 1) := by decide +kernel
theorem dX12_stands_59 : decode cX12_stands 59 = .ok (.getfield 112, 3) := by decide +kernel
theorem dX12_stands_62 : decode cX12_stands 62 = .ok (.iload_n 1, 1) := by decide +kernel
theorem dX12_stands_63 : decode cX12_stands 63 = .ok (.iaload, 1) := by decide +kernel
theorem dX12_stands_64 : decode cX12_stands 64 = .ok (.iastore, 1) := by decide +kernel
theorem dX12_stands_65 : decode cX12_stands 65 = .ok (.iinc 1 1, 3) := by decide +kernel
theorem dX12_stands_68 : decode cX12_stands 68 = .ok (.goto (-39), 3) := by decide +kernel
theorem dX12_stands_71 : decode cX12_stands 71 = .ok (.iconst 0, 1) := by decide +kernel
theorem dX12_stands_72 : decode cX12_stands 72 = .ok (.istore_n 1, 1) := by decide +kernel
theorem dX12_stands_73 : decode cX12_stands 73 = .ok (.iload_n 1, 1) := by decide +kernel
theorem dX12_stands_74 : decode cX12_stands 74 = .ok (.iconst 4, 1) := by decide +kernel
theorem dX12_stands_75 : decode cX12_stands 75 = .ok (.if_icmp .ge 23, 3) := by decide +kernel
theorem dX12_stands_78 : decode cX12_stands 78 = .ok (.aload_n 0, 1) := by decide +kernel
theorem dX12_stands_79 : decode cX12_stands 79 = .ok (.getfield 115, 3) := by decide +kernel
theorem dX12_stands_82 : decode cX12_stands 82 = .ok (.iconst 4, 1) := by decide +kernel
theorem dX12_stands_83 : decode cX12_stands 83 = .ok (.iload_n 1, 1) := by decide +kernel
theorem dX12_stands_84 : decode cX12_stands 84 = .ok (.iadd, 1) := by decide +kernel
theorem dX12_stands_85 : decode cX12_stands 85 = .ok (.aload_n 0, 1) := by decide +kernel
theorem dX12_stands_86 : decode cX12_stands 86 = .ok (.getfield 115, 3) := by decide +kernel
theorem dX12_stands_89 : decode cX12_stands 89 = .ok (.iload_n 1, 1) := by decide +kernel
theorem dX12_stands_90 : decode cX12_stands 90 = .ok (.iaload, 1) := by decide +kernel
theorem dX12_stands_91 : decode cX12_stands 91 = .ok (.iastore, 1) := by decide +kernel
theorem dX12_stands_92 : decode cX12_stands 92 = .ok (.iinc 1 1, 3) := by decide +kernel
theorem dX12_stands_95 : decode cX12_stands 95 = .ok (.goto (-22), 3) := by decide +kernel
theorem dX12_stands_98 : decode cX12_stands 98 = .ok (.iconst 0, 1) := by decide +kernel
theorem dX12_stands_99 : decode cX12_stands 99 = .ok (.istore_n 1, 1) := by decide +kernel
theorem dX12_stands_100 : decode cX12_stands 100 = .ok (.iload_n 1, 1) := by decide +kernel
theorem dX12_stands_101 : decode cX12_stands 101 = .ok (.bipush 32, 2) := by decide +kernel
theorem dX12_stands_103 : decode cX12_stands 103 = .ok (.if_icmp .ge 24, 3) := by decide +kernel
theorem dX12_stands_106 : decode cX12_stands 106 = .ok (.aload_n 0, 1) := by decide +kernel
theorem dX12_stands_107 : decode cX12_stands 107 = .ok (.getfield 118, 3) := by decide +kernel
theorem dX12_stands_110 : decode cX12_stands 110 = .ok (.bipush 32, 2) := by decide +kernel
theorem dX12_stands_112 : decode cX12_stands 112 = .ok (.iload_n 1, 1) := by decide +kernel
theorem dX12_stands_113 : decode cX12_stands 113 = .ok (.iadd, 1) := by decide +kernel
theorem dX12_stands_114 : decode cX12_stands 114 = .ok (.aload_n 0, 1) := by decide +kernel
theorem dX12_stands_115 : decode cX12_stands 115 = .ok (.getfield 118, 3) := by decide +kernel
theorem dX12_stands_118 : decode cX12_stands 118 = .ok (.iload_n 1, 1) := by decide +kernel
theorem dX12_stands_119 : decode cX12_stands 119 = .ok (.iaload, 1) := by decide +kernel
theorem dX12_stands_120 : decode cX12_stands 120 = .ok (.iastore, 1) := by decide +kernel
theorem dX12_stands_121 : decode cX12_stands 121 = .ok (.iinc 1 1, 3) := by decide +kernel
theorem dX12_stands_124 : decode cX12_stands 124 = .ok (.goto (-24), 3) := by decide +kernel
theorem dX12_stands_127 : decode cX12_stands 127 = .ok (.iconst 0, 1) := by decide +kernel
theorem dX12_stands_128 : decode cX12_stands 128 = .ok (.istore_n 1, 1) := by decide +kernel
theorem dX12_stands_129 : decode cX12_stands 129 = .ok (.iload_n 1, 1) := by decide +kernel
theorem dX12_stands_130 : decode cX12_stands 130 = .ok (.bipush 8, 2) := by decide +kernel
theorem dX12_stands_132 : decode cX12_stands 132 = .ok (.if_icmp .ge 24, 3) := by decide +kernel
theorem dX12_stands_135 : decode cX12_stands 135 = .ok (.aload_n 0, 1) := by decide +kernel
theorem dX12_stands_136 : decode cX12_stands 136 = .ok (.getfield 121, 3) := by decide +kernel
theorem dX12_stands_139 : decode cX12_stands 139 = .ok (.bipush 8, 2) := by decide +kernel
theorem dX12_stands_141 : decode cX12_stands 141 = .ok (.iload_n 1, 1) := by decide +kernel
theorem dX12_stands_142 : decode cX12_stands 142 = .ok (.iadd, 1) := by decide +kernel
theorem dX12_stands_143 : decode cX12_stands 143 = .ok (.aload_n 0, 1) := by decide +kernel
theorem dX12_stands_144 : decode cX12_stands 144 = .ok (.getfield 121, 3) := by decide +kernel
theorem dX12_stands_147 : decode cX12_stands 147 = .ok (.iload_n 1, 1) := by decide +kernel
theorem dX12_stands_148 : decode cX12_stands 148 = .ok (.iaload, 1) := by decide +kernel
theorem dX12_stands_149 : decode cX12_stands 149 = .ok (.iastore, 1) := by decide +kernel
theorem dX12_stands_150 : decode cX12_stands 150 = .ok (.iinc 1 1, 3) := by decide +kernel
theorem dX12_stands_153 : decode cX12_stands 153 = .ok (.goto (-24), 3) := by decide +kernel
theorem dX12_stands_156 : decode cX12_stands 156 = .ok (.iconst 0, 1) := by decide +kernel
theorem dX12_stands_157 : decode cX12_stands 157 = .ok (.istore_n 1, 1) := by decide +kernel
theorem dX12_stands_158 : decode cX12_stands 158 = .ok (.iload_n 1, 1) := by decide +kernel
theorem dX12_stands_159 : decode cX12_stands 159 = .ok (.bipush 64, 2) := by decide +kernel
theorem dX12_stands_161 : decode cX12_stands 161 = .ok (.if_icmp .ge 24, 3) := by decide +kernel
theorem dX12_stands_164 : decode cX12_stands 164 = .ok (.aload_n 0, 1) := by decide +kernel
theorem dX12_stands_165 : decode cX12_stands 165 = .ok (.getfield 124, 3) := by decide +kernel
theorem dX12_stands_168 : decode cX12_stands 168 = .ok (.bipush 64, 2) := by decide +kernel
theorem dX12_stands_170 : decode cX12_stands 170 = .ok (.iload_n 1, 1) := by decide +kernel
theorem dX12_stands_171 : decode cX12_stands 171 = .ok (.iadd, 1) := by decide +kernel
theorem dX12_stands_172 : decode cX12_stands 172 = .ok (.aload_n 0, 1) := by decide +kernel
theorem dX12_stands_173 : decode cX12_stands 173 = .ok (.getfield 124, 3) := by decide +kernel
theorem dX12_stands_176 : decode cX12_stands 176 = .ok (.iload_n 1, 1) := by decide +kernel
theorem dX12_stands_177 : decode cX12_stands 177 = .ok (.iaload, 1) := by decide +kernel
theorem dX12_stands_178 : decode cX12_stands 178 = .ok (.iastore, 1) := by decide +kernel
theorem dX12_stands_179 : decode cX12_stands 179 = .ok (.iinc 1 1, 3) := by decide +kernel
theorem dX12_stands_182 : decode cX12_stands 182 = .ok (.goto (-24), 3) := by decide +kernel
theorem dX12_stands_185 : decode cX12_stands 185 = .ok (.iconst 0, 1) := by decide +kernel
theorem dX12_stands_186 : decode cX12_stands 186 = .ok (.istore_n 1, 1) := by decide +kernel
theorem dX12_stands_187 : decode cX12_stands 187 = .ok (.iload_n 1, 1) := by decide +kernel
theorem dX12_stands_188 : decode cX12_stands 188 = .ok (.bipush 9, 2) := by decide +kernel
theorem dX12_stands_190 : decode cX12_stands 190 = .ok (.if_icmp .ge 24, 3) := by decide +kernel
theorem dX12_stands_193 : decode cX12_stands 193 = .ok (.aload_n 0, 1) := by decide +kernel
theorem dX12_stands_194 : decode cX12_stands 194 = .ok (.getfield 127, 3) := by decide +kernel
theorem dX12_stands_197 : decode cX12_stands 197 = .ok (.bipush 9, 2) := by decide +kernel
theorem dX12_stands_199 : decode cX12_stands 199 = .ok (.iload_n 1, 1) := by decide +kernel
theorem dX12_stands_200 : decode cX12_stands 200 = .ok (.iadd, 1) := by decide +kernel
theorem dX12_stands_201 : decode cX12_stands 201 = .ok (.aload_n 0, 1) := by decide +kernel
theorem dX12_stands_202 : decode cX12_stands 202 = .ok (.getfield 127, 3) := by decide +kernel
theorem dX12_stands_205 : decode cX12_stands 205 = .ok (.iload_n 1, 1) := by decide +kernel
theorem dX12_stands_206 : decode cX12_stands 206 = .ok (.iaload, 1) := by decide +kernel
theorem dX12_stands_207 : decode cX12_stands 207 = .ok (.iastore, 1) := by decide +kernel
theorem dX12_stands_208 : decode cX12_stands 208 = .ok (.iinc 1 1, 3) := by decide +kernel
theorem dX12_stands_211 : decode cX12_stands 211 = .ok (.goto (-24), 3) := by decide +kernel
theorem dX12_stands_214 : decode cX12_stands 214 = .ok (.iconst 0, 1) := by decide +kernel
theorem dX12_stands_215 : decode cX12_stands 215 = .ok (.istore_n 1, 1) := by decide +kernel
theorem dX12_stands_216 : decode cX12_stands 216 = .ok (.iload_n 1, 1) := by decide +kernel
theorem dX12_stands_217 : decode cX12_stands 217 = .ok (.iconst 2, 1) := by decide +kernel
theorem dX12_stands_218 : decode cX12_stands 218 = .ok (.if_icmp .ge 51, 3) := by decide +kernel
theorem dX12_stands_221 : decode cX12_stands 221 = .ok (.aload_n 0, 1) := by decide +kernel
theorem dX12_stands_222 : decode cX12_stands 222 = .ok (.getfield 130, 3) := by decide +kernel
theorem dX12_stands_225 : decode cX12_stands 225 = .ok (.iconst 2, 1) := by decide +kernel
theorem dX12_stands_226 : decode cX12_stands 226 = .ok (.iload_n 1, 1) := by decide +kernel
theorem dX12_stands_227 : decode cX12_stands 227 = .ok (.iadd, 1) := by decide +kernel
theorem dX12_stands_228 : decode cX12_stands 228 = .ok (.aload_n 0, 1) := by decide +kernel
theorem dX12_stands_229 : decode cX12_stands 229 = .ok (.getfield 130, 3) := by decide +kernel
theorem dX12_stands_232 : decode cX12_stands 232 = .ok (.iload_n 1, 1) := by decide +kernel
theorem dX12_stands_233 : decode cX12_stands 233 = .ok (.iaload, 1) := by decide +kernel
theorem dX12_stands_234 : decode cX12_stands 234 = .ok (.iastore, 1) := by decide +kernel
theorem dX12_stands_235 : decode cX12_stands 235 = .ok (.aload_n 0, 1) := by decide +kernel
theorem dX12_stands_236 : decode cX12_stands 236 = .ok (.getfield 133, 3) := by decide +kernel
theorem dX12_stands_239 : decode cX12_stands 239 = .ok (.iconst 2, 1) := by decide +kernel
theorem dX12_stands_240 : decode cX12_stands 240 = .ok (.iload_n 1, 1) := by decide +kernel
theorem dX12_stands_241 : decode cX12_stands 241 = .ok (.iadd, 1) := by decide +kernel
theorem dX12_stands_242 : decode cX12_stands 242 = .ok (.aload_n 0, 1) := by decide +kernel
theorem dX12_stands_243 : decode cX12_stands 243 = .ok (.getfield 133, 3) := by decide +kernel
theorem dX12_stands_246 : decode cX12_stands 246 = .ok (.iload_n 1, 1) := by decide +kernel
theorem dX12_stands_247 : decode cX12_stands 247 = .ok (.iaload, 1) := by decide +kernel
theorem dX12_stands_248 : decode cX12_stands 248 = .ok (.iastore, 1) := by decide +kernel
theorem dX12_stands_249 : decode cX12_stands 249 = .ok (.aload_n 0, 1) := by decide +kernel
theorem dX12_stands_250 : decode cX12_stands 250 = .ok (.getfield 136, 3) := by decide +kernel
theorem dX12_stands_253 : decode cX12_stands 253 = .ok (.iconst 2, 1) := by decide +kernel
theorem dX12_stands_254 : decode cX12_stands 254 = .ok (.iload_n 1, 1) := by decide +kernel
theorem dX12_stands_255 : decode cX12_stands 255 = .ok (.iadd, 1) := by decide +kernel
theorem dX12_stands_256 : decode cX12_stands 256 = .ok (.aload_n 0, 1) := by decide +kernel
theorem dX12_stands_257 : decode cX12_stands 257 = .ok (.getfield 136, 3) := by decide +kernel
theorem dX12_stands_260 : decode cX12_stands 260 = .ok (.iload_n 1, 1) := by decide +kernel
theorem dX12_stands_261 : decode cX12_stands 261 = .ok (.iaload, 1) := by decide +kernel
theorem dX12_stands_262 : decode cX12_stands 262 = .ok (.iastore, 1) := by decide +kernel
theorem dX12_stands_263 : decode cX12_stands 263 = .ok (.iinc 1 1, 3) := by decide +kernel
theorem dX12_stands_266 : decode cX12_stands 266 = .ok (.goto (-50), 3) := by decide +kernel
theorem dX12_stands_269 : decode cX12_stands 269 = .ok (.iconst 0, 1) := by decide +kernel
theorem dX12_stands_270 : decode cX12_stands 270 = .ok (.istore_n 1, 1) := by decide +kernel
theorem dX12_stands_271 : decode cX12_stands 271 = .ok (.iload_n 1, 1) := by decide +kernel
theorem dX12_stands_272 : decode cX12_stands 272 = .ok (.aload_n 0, 1) := by decide +kernel
theorem dX12_stands_273 : decode cX12_stands 273 = .ok (.getfield 367, 3) := by decide +kernel
theorem dX12_stands_276 : decode cX12_stands 276 = .ok (.if_icmp .ge 25, 3) := by decide +kernel
theorem dX12_stands_279 : decode cX12_stands 279 = .ok (.aload_n 0, 1) := by decide +kernel
theorem dX12_stands_280 : decode cX12_stands 280 = .ok (.getfield 139, 3) := by decide +kernel
theorem dX12_stands_283 : decode cX12_stands 283 = .ok (.sipush 1600, 3) := by decide +kernel
theorem dX12_stands_286 : decode cX12_stands 286 = .ok (.iload_n 1, 1) := by decide +kernel
theorem dX12_stands_287 : decode cX12_stands 287 = .ok (.iadd, 1) := by decide +kernel
theorem dX12_stands_288 : decode cX12_stands 288 = .ok (.aload_n 0, 1) := by decide +kernel
theorem dX12_stands_289 : decode cX12_stands 289 = .ok (.getfield 139, 3) := by decide +kernel
theorem dX12_stands_292 : decode cX12_stands 292 = .ok (.iload_n 1, 1) := by decide +kernel
theorem dX12_stands_293 : decode cX12_stands 293 = .ok (.iaload, 1) := by decide +kernel
theorem dX12_stands_294 : decode cX12_stands 294 = .ok (.iastore, 1) := by decide +kernel
theorem dX12_stands_295 : decode cX12_stands 295 = .ok (.iinc 1 1, 3) := by decide +kernel
theorem dX12_stands_298 : decode cX12_stands 298 = .ok (.goto (-27), 3) := by decide +kernel
theorem dX12_stands_301 : decode cX12_stands 301 = .ok (.iconst 0, 1) := by decide +kernel
theorem dX12_stands_302 : decode cX12_stands 302 = .ok (.istore_n 1, 1) := by decide +kernel
theorem dX12_stands_303 : decode cX12_stands 303 = .ok (.iload_n 1, 1) := by decide +kernel
theorem dX12_stands_304 : decode cX12_stands 304 = .ok (.bipush 32, 2) := by decide +kernel
theorem dX12_stands_306 : decode cX12_stands 306 = .ok (.if_icmp .ge 16, 3) := by decide +kernel
theorem dX12_stands_309 : decode cX12_stands 309 = .ok (.aload_n 0, 1) := by decide +kernel
theorem dX12_stands_310 : decode cX12_stands 310 = .ok (.getfield 142, 3) := by decide +kernel
theorem dX12_stands_313 : decode cX12_stands 313 = .ok (.iload_n 1, 1) := by decide +kernel
theorem dX12_stands_314 : decode cX12_stands 314 = .ok (.iconst 0, 1) := by decide +kernel
theorem dX12_stands_315 : decode cX12_stands 315 = .ok (.iastore, 1) := by decide +kernel
theorem dX12_stands_316 : decode cX12_stands 316 = .ok (.iinc 1 1, 3) := by decide +kernel
theorem dX12_stands_319 : decode cX12_stands 319 = .ok (.goto (-16), 3) := by decide +kernel
theorem dX12_stands_322 : decode cX12_stands 322 = .ok (.aload_n 0, 1) := by decide +kernel
theorem dX12_stands_323 : decode cX12_stands 323 = .ok (.invokevirtual 407, 3) := by decide +kernel
theorem dX12_stands_326 : decode cX12_stands 326 = .ok (.iconst 0, 1) := by decide +kernel
theorem dX12_stands_327 : decode cX12_stands 327 = .ok (.istore_n 1, 1) := by decide +kernel
theorem dX12_stands_328 : decode cX12_stands 328 = .ok (.iload_n 1, 1) := by decide +kernel
theorem dX12_stands_329 : decode cX12_stands 329 = .ok (.aload_n 0, 1) := by decide +kernel
theorem dX12_stands_330 : decode cX12_stands 330 = .ok (.invokevirtual 410, 3) := by decide +kernel
theorem dX12_stands_333 : decode cX12_stands 333 = .ok (.if_icmp .ge 25, 3) := by decide +kernel
theorem dX12_stands_336 : decode cX12_stands 336 = .ok (.aload_n 0, 1) := by decide +kernel
theorem dX12_stands_337 : decode cX12_stands 337 = .ok (.getfield 142, 3) := by decide +kernel
theorem dX12_stands_340 : decode cX12_stands 340 = .ok (.iconst 4, 1) := by decide +kernel
theorem dX12_stands_341 : decode cX12_stands 341 = .ok (.iload_n 1, 1) := by decide +kernel
theorem dX12_stands_342 : decode cX12_stands 342 = .ok (.iadd, 1) := by decide +kernel
theorem dX12_stands_343 : decode cX12_stands 343 = .ok (.aload_n 0, 1) := by decide +kernel
theorem dX12_stands_344 : decode cX12_stands 344 = .ok (.getfield 115, 3) := by decide +kernel
theorem dX12_stands_347 : decode cX12_stands 347 = .ok (.iconst 4, 1) := by decide +kernel
theorem dX12_stands_348 : decode cX12_stands 348 = .ok (.iload_n 1, 1) := by decide +kernel
theorem dX12_stands_349 : decode cX12_stands 349 = .ok (.iadd, 1) := by decide +kernel
theorem dX12_stands_350 : decode cX12_stands 350 = .ok (.iaload, 1) := by decide +kernel
theorem dX12_stands_351 : decode cX12_stands 351 = .ok (.iastore, 1) := by decide +kernel
theorem dX12_stands_352 : decode cX12_stands 352 = .ok (.iinc 1 1, 3) := by decide +kernel
theorem dX12_stands_355 : decode cX12_stands 355 = .ok (.goto (-27), 3) := by decide +kernel
theorem dX12_stands_358 : decode cX12_stands 358 = .ok (.aload_n 0, 1) := by decide +kernel
theorem dX12_stands_359 : decode cX12_stands 359 = .ok (.iconst 0, 1) := by decide +kernel
theorem dX12_stands_360 : decode cX12_stands 360 = .ok (.putfield 413, 3) := by decide +kernel
theorem dX12_stands_363 : decode cX12_stands 363 = .ok (.aload_n 0, 1) := by decide +kernel
theorem dX12_stands_364 : decode cX12_stands 364 = .ok (.iconst 0, 1) := by decide +kernel
theorem dX12_stands_365 : decode cX12_stands 365 = .ok (.putfield 416, 3) := by decide +kernel
theorem dX12_stands_368 : decode cX12_stands 368 = .ok (.return_, 1) := by decide +kernel
theorem dX12_status_0 : decode cX12_status 0 = .ok (.iload_n 1, 1) := by decide +kernel
theorem dX12_status_1 : decode cX12_status 1 = .ok (.i2l, 1) := by decide +kernel
theorem dX12_status_2 : decode cX12_status 2 = .ok (.lconst 0, 1) := by decide +kernel
theorem dX12_status_3 : decode cX12_status 3 = .ok (.ldc2_w 499, 3) := by decide +kernel
theorem dX12_status_6 : decode cX12_status 6 = .ok (.invokestatic 303, 3) := by decide +kernel
theorem dX12_status_9 : decode cX12_status 9 = .ok (.ifCond .eq 12, 3) := by decide +kernel
theorem dX12_status_12 : decode cX12_status 12 = .ok (.aload_n 0, 1) := by decide +kernel
theorem dX12_status_13 : decode cX12_status 13 = .ok (.getfield 17, 3) := by decide +kernel
theorem dX12_status_16 : decode cX12_status 16 = .ok (.iload_n 1, 1) := by decide +kernel
theorem dX12_status_17 : decode cX12_status 17 = .ok (.iaload, 1) := by decide +kernel
theorem dX12_status_18 : decode cX12_status 18 = .ok (.goto 4, 3) := by decide +kernel
theorem dX12_status_21 : decode cX12_status 21 = .ok (.iconst (-1), 1) := by decide +kernel
theorem dX12_status_22 : decode cX12_status 22 = .ok (.ireturn, 1) := by decide +kernel
theorem dX12_isApart_0 : decode cX12_isApart 0 = .ok (.iconst 0, 1) := by decide +kernel
theorem dX12_isApart_1 : decode cX12_isApart 1 = .ok (.istore_n 2, 1) := by decide +kernel
theorem dX12_isApart_2 : decode cX12_isApart 2 = .ok (.iload_n 2, 1) := by decide +kernel
theorem dX12_isApart_3 : decode cX12_isApart 3 = .ok (.iload_n 1, 1) := by decide +kernel
theorem dX12_isApart_4 : decode cX12_isApart 4 = .ok (.if_icmp .ge 43, 3) := by decide +kernel
theorem dX12_isApart_7 : decode cX12_isApart 7 = .ok (.aload_n 0, 1) := by decide +kernel
theorem dX12_isApart_8 : decode cX12_isApart 8 = .ok (.getfield 121, 3) := by decide +kernel
theorem dX12_isApart_11 : decode cX12_isApart 11 = .ok (.bipush 8, 2) := by decide +kernel
theorem dX12_isApart_13 : decode cX12_isApart 13 = .ok (.iload_n 1, 1) := by decide +kernel
theorem dX12_isApart_14 : decode cX12_isApart 14 = .ok (.iadd, 1) := by decide +kernel
theorem dX12_isApart_15 : decode cX12_isApart 15 = .ok (.iaload, 1) := by decide +kernel
theorem dX12_isApart_16 : decode cX12_isApart 16 = .ok (.iload_n 2, 1) := by decide +kernel
theorem dX12_isApart_17 : decode cX12_isApart 17 = .ok (.ishr, 1) := by decide +kernel
theorem dX12_isApart_18 : decode cX12_isApart 18 = .ok (.iconst 1, 1) := by decide +kernel
theorem dX12_isApart_19 : decode cX12_isApart 19 = .ok (.iand, 1) := by decide +kernel
theorem dX12_isApart_20 : decode cX12_isApart 20 = .ok (.iconst 1, 1) := by decide +kernel
theorem dX12_isApart_21 : decode cX12_isApart 21 = .ok (.if_icmp .ne 20, 3) := by decide +kernel
theorem dX12_isApart_24 : decode cX12_isApart 24 = .ok (.aload_n 0, 1) := by decide +kernel
theorem dX12_isApart_25 : decode cX12_isApart 25 = .ok (.getfield 148, 3) := by decide +kernel
theorem dX12_isApart_28 : decode cX12_isApart 28 = .ok (.iload_n 2, 1) := by decide +kernel
theorem dX12_isApart_29 : decode cX12_isApart 29 = .ok (.iaload, 1) := by decide +kernel
theorem dX12_isApart_30 : decode cX12_isApart 30 = .ok (.aload_n 0, 1) := by decide +kernel
theorem dX12_isApart_31 : decode cX12_isApart 31 = .ok (.getfield 148, 3) := by decide +kernel
theorem dX12_isApart_34 : decode cX12_isApart 34 = .ok (.iload_n 1, 1) := by decide +kernel
theorem dX12_isApart_35 : decode cX12_isApart 35 = .ok (.iaload, 1) := by decide +kernel
theorem dX12_isApart_36 : decode cX12_isApart 36 = .ok (.if_icmp .ne 5, 3) := by decide +kernel
theorem dX12_isApart_39 : decode cX12_isApart 39 = .ok (.iconst 0, 1) := by decide +kernel
theorem dX12_isApart_40 : decode cX12_isApart 40 = .ok (.ireturn, 1) := by decide +kernel
theorem dX12_isApart_41 : decode cX12_isApart 41 = .ok (.iinc 2 1, 3) := by decide +kernel
theorem dX12_isApart_44 : decode cX12_isApart 44 = .ok (.goto (-42), 3) := by decide +kernel
theorem dX12_isApart_47 : decode cX12_isApart 47 = .ok (.iconst 1, 1) := by decide +kernel
theorem dX12_isApart_48 : decode cX12_isApart 48 = .ok (.ireturn, 1) := by decide +kernel
theorem dX12_sheet_0 : decode cX12_sheet 0 = .ok (.aload_n 0, 1) := by decide +kernel
theorem dX12_sheet_1 : decode cX12_sheet 1 = .ok (.iload_n 1, 1) := by decide +kernel
theorem dX12_sheet_2 : decode cX12_sheet 2 = .ok (.invokevirtual 501, 3) := by decide +kernel
theorem dX12_sheet_5 : decode cX12_sheet 5 = .ok (.ifCond .eq 33, 3) := by decide +kernel
theorem dX12_sheet_8 : decode cX12_sheet 8 = .ok (.iload_n 2, 1) := by decide +kernel
theorem dX12_sheet_9 : decode cX12_sheet 9 = .ok (.i2l, 1) := by decide +kernel
theorem dX12_sheet_10 : decode cX12_sheet 10 = .ok (.lconst 1, 1) := by decide +kernel
theorem dX12_sheet_11 : decode cX12_sheet 11 = .ok (.ldc2_w 578, 3) := by decide +kernel
theorem dX12_sheet_14 : decode cX12_sheet 14 = .ok (.invokestatic 303, 3) := by decide +kernel
theorem dX12_sheet_17 : decode cX12_sheet 17 = .ok (.ifCond .eq 21, 3) := by decide +kernel
theorem dX12_sheet_20 : decode cX12_sheet 20 = .ok (.aload_n 0, 1) := by decide +kernel
theorem dX12_sheet_21 : decode cX12_sheet 21 = .ok (.iload_n 1, 1) := by decide +kernel
theorem dX12_sheet_22 : decode cX12_sheet 22 = .ok (.invokevirtual 504, 3) := by decide +kernel
theorem dX12_sheet_25 : decode cX12_sheet 25 = .ok (.iload_n 2, 1) := by decide +kernel
theorem dX12_sheet_26 : decode cX12_sheet 26 = .ok (.if_icmp .eq 12, 3) := by decide +kernel
theorem dX12_sheet_29 : decode cX12_sheet 29 = .ok (.aload_n 0, 1) := by decide +kernel
theorem dX12_sheet_30 : decode cX12_sheet 30 = .ok (.iload_n 1, 1) := by decide +kernel
theorem dX12_sheet_31 : decode cX12_sheet 31 = .ok (.iload_n 2, 1) := by decide +kernel
theorem dX12_sheet_32 : decode cX12_sheet 32 = .ok (.invokevirtual 580, 3) := by decide +kernel
theorem dX12_sheet_35 : decode cX12_sheet 35 = .ok (.ifCond .eq 15, 3) := by decide +kernel
theorem dX12_sheet_38 : decode cX12_sheet 38 = .ok (.aload_n 0, 1) := by decide +kernel
theorem dX12_sheet_39 : decode cX12_sheet 39 = .ok (.getfield 17, 3) := by decide +kernel
theorem dX12_sheet_42 : decode cX12_sheet 42 = .ok (.iconst 2, 1) := by decide +kernel
theorem dX12_sheet_43 : decode cX12_sheet 43 = .ok (.dup2, 1) := by decide +kernel
theorem dX12_sheet_44 : decode cX12_sheet 44 = .ok (.iaload, 1) := by decide +kernel
theorem dX12_sheet_45 : decode cX12_sheet 45 = .ok (.iconst 1, 1) := by decide +kernel
theorem dX12_sheet_46 : decode cX12_sheet 46 = .ok (.iadd, 1) := by decide +kernel
theorem dX12_sheet_47 : decode cX12_sheet 47 = .ok (.iastore, 1) := by decide +kernel
theorem dX12_sheet_48 : decode cX12_sheet 48 = .ok (.iconst 0, 1) := by decide +kernel
theorem dX12_sheet_49 : decode cX12_sheet 49 = .ok (.ireturn, 1) := by decide +kernel
theorem dX12_sheet_50 : decode cX12_sheet 50 = .ok (.aload_n 0, 1) := by decide +kernel
theorem dX12_sheet_51 : decode cX12_sheet 51 = .ok (.invokevirtual 575, 3) := by decide +kernel
theorem dX12_sheet_54 : decode cX12_sheet 54 = .ok (.aload_n 0, 1) := by decide +kernel
theorem dX12_sheet_55 : decode cX12_sheet 55 = .ok (.getfield 142, 3) := by decide +kernel
theorem dX12_sheet_58 : decode cX12_sheet 58 = .ok (.bipush 8, 2) := by decide +kernel
theorem dX12_sheet_60 : decode cX12_sheet 60 = .ok (.iconst 3, 1) := by decide +kernel
theorem dX12_sheet_61 : decode cX12_sheet 61 = .ok (.iload_n 1, 1) := by decide +kernel
theorem dX12_sheet_62 : decode cX12_sheet 62 = .ok (.imul, 1) := by decide +kernel
theorem dX12_sheet_63 : decode cX12_sheet 63 = .ok (.iadd, 1) := by decide +kernel
theorem dX12_sheet_64 : decode cX12_sheet 64 = .ok (.iconst 1, 1) := by decide +kernel
theorem dX12_sheet_65 : decode cX12_sheet 65 = .ok (.iadd, 1) := by decide +kernel
theorem dX12_sheet_66 : decode cX12_sheet 66 = .ok (.iload_n 2, 1) := by decide +kernel
theorem dX12_sheet_67 : decode cX12_sheet 67 = .ok (.iastore, 1) := by decide +kernel
theorem dX12_sheet_68 : decode cX12_sheet 68 = .ok (.iconst 1, 1) := by decide +kernel
theorem dX12_sheet_69 : decode cX12_sheet 69 = .ok (.ireturn, 1) := by decide +kernel
theorem dX12_feed_0 : decode cX12_feed 0 = .ok (.aload_n 0, 1) := by decide +kernel
theorem dX12_feed_1 : decode cX12_feed 1 = .ok (.getfield 260, 3) := by decide +kernel
theorem dX12_feed_4 : decode cX12_feed 4 = .ok (.bipush 20, 2) := by decide +kernel
theorem dX12_feed_6 : decode cX12_feed 6 = .ok (.iadd, 1) := by decide +kernel
theorem dX12_feed_7 : decode cX12_feed 7 = .ok (.sipush 1600, 3) := by decide +kernel
theorem dX12_feed_10 : decode cX12_feed 10 = .ok (.if_icmp .le 15, 3) := by decide +kernel
theorem dX12_feed_13 : decode cX12_feed 13 = .ok (.aload_n 0, 1) := by decide +kernel
theorem dX12_feed_14 : decode cX12_feed 14 = .ok (.getfield 17, 3) := by decide +kernel
theorem dX12_feed_17 : decode cX12_feed 17 = .ok (.iconst 0, 1) := by decide +kernel
theorem dX12_feed_18 : decode cX12_feed 18 = .ok (.dup2, 1) := by decide +kernel
theorem dX12_feed_19 : decode cX12_feed 19 = .ok (.iaload, 1) := by decide +kernel
theorem dX12_feed_20 : decode cX12_feed 20 = .ok (.iconst 1, 1) := by decide +kernel
