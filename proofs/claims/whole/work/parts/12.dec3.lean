theorem dX11_warmth_37 : decode cX11_warmth 37 = .ok (.i2l, 1) := by decide +kernel
theorem dX11_warmth_38 : decode cX11_warmth 38 = .ok (.lreturn, 1) := by decide +kernel
theorem dX11_fitsSeen_0 : decode cX11_fitsSeen 0 = .ok (.iconst 0, 1) := by decide +kernel
theorem dX11_fitsSeen_1 : decode cX11_fitsSeen 1 = .ok (.istore_n 2, 1) := by decide +kernel
theorem dX11_fitsSeen_2 : decode cX11_fitsSeen 2 = .ok (.iload_n 2, 1) := by decide +kernel
theorem dX11_fitsSeen_3 : decode cX11_fitsSeen 3 = .ok (.aload_n 0, 1) := by decide +kernel
theorem dX11_fitsSeen_4 : decode cX11_fitsSeen 4 = .ok (.getfield 134, 3) := by decide +kernel
theorem dX11_fitsSeen_7 : decode cX11_fitsSeen 7 = .ok (.if_icmp .ge 42, 3) := by decide +kernel
theorem dX11_fitsSeen_10 : decode cX11_fitsSeen 10 = .ok (.aload_n 0, 1) := by decide +kernel
theorem dX11_fitsSeen_11 : decode cX11_fitsSeen 11 = .ok (.getfield 19, 3) := by decide +kernel
theorem dX11_fitsSeen_14 : decode cX11_fitsSeen 14 = .ok (.aload_n 0, 1) := by decide +kernel
theorem dX11_fitsSeen_15 : decode cX11_fitsSeen 15 = .ok (.getfield 76, 3) := by decide +kernel
theorem dX11_fitsSeen_18 : decode cX11_fitsSeen 18 = .ok (.aload_n 0, 1) := by decide +kernel
theorem dX11_fitsSeen_19 : decode cX11_fitsSeen 19 = .ok (.getfield 49, 3) := by decide +kernel
theorem dX11_fitsSeen_22 : decode cX11_fitsSeen 22 = .ok (.aload_n 0, 1) := by decide +kernel
theorem dX11_fitsSeen_23 : decode cX11_fitsSeen 23 = .ok (.getfield 60, 3) := by decide +kernel
theorem dX11_fitsSeen_26 : decode cX11_fitsSeen 26 = .ok (.iload_n 2, 1) := by decide +kernel
theorem dX11_fitsSeen_27 : decode cX11_fitsSeen 27 = .ok (.iaload, 1) := by decide +kernel
theorem dX11_fitsSeen_28 : decode cX11_fitsSeen 28 = .ok (.iload_n 1, 1) := by decide +kernel
theorem dX11_fitsSeen_29 : decode cX11_fitsSeen 29 = .ok (.invokevirtual 223, 3) := by decide +kernel
theorem dX11_fitsSeen_32 : decode cX11_fitsSeen 32 = .ok (.aload_n 0, 1) := by decide +kernel
theorem dX11_fitsSeen_33 : decode cX11_fitsSeen 33 = .ok (.getfield 64, 3) := by decide +kernel
theorem dX11_fitsSeen_36 : decode cX11_fitsSeen 36 = .ok (.iload_n 2, 1) := by decide +kernel
theorem dX11_fitsSeen_37 : decode cX11_fitsSeen 37 = .ok (.iaload, 1) := by decide +kernel
theorem dX11_fitsSeen_38 : decode cX11_fitsSeen 38 = .ok (.if_icmp .eq 5, 3) := by decide +kernel
theorem dX11_fitsSeen_41 : decode cX11_fitsSeen 41 = .ok (.iconst 0, 1) := by decide +kernel
theorem dX11_fitsSeen_42 : decode cX11_fitsSeen 42 = .ok (.ireturn, 1) := by decide +kernel
theorem dX11_fitsSeen_43 : decode cX11_fitsSeen 43 = .ok (.iinc 2 1, 3) := by decide +kernel
theorem dX11_fitsSeen_46 : decode cX11_fitsSeen 46 = .ok (.goto (-44), 3) := by decide +kernel
theorem dX11_fitsSeen_49 : decode cX11_fitsSeen 49 = .ok (.iconst 1, 1) := by decide +kernel
theorem dX11_fitsSeen_50 : decode cX11_fitsSeen 50 = .ok (.ireturn, 1) := by decide +kernel
theorem dX11_isGift_0 : decode cX11_isGift 0 = .ok (.iload_n 1, 1) := by decide +kernel
theorem dX11_isGift_1 : decode cX11_isGift 1 = .ok (.ifCond .lt 20, 3) := by decide +kernel
theorem dX11_isGift_4 : decode cX11_isGift 4 = .ok (.iload_n 1, 1) := by decide +kernel
theorem dX11_isGift_5 : decode cX11_isGift 5 = .ok (.aload_n 0, 1) := by decide +kernel
theorem dX11_isGift_6 : decode cX11_isGift 6 = .ok (.getfield 76, 3) := by decide +kernel
theorem dX11_isGift_9 : decode cX11_isGift 9 = .ok (.getfield 146, 3) := by decide +kernel
theorem dX11_isGift_12 : decode cX11_isGift 12 = .ok (.iconst 1, 1) := by decide +kernel
theorem dX11_isGift_13 : decode cX11_isGift 13 = .ok (.iaload, 1) := by decide +kernel
theorem dX11_isGift_14 : decode cX11_isGift 14 = .ok (.if_icmp .ge 7, 3) := by decide +kernel
theorem dX11_isGift_17 : decode cX11_isGift 17 = .ok (.iconst 1, 1) := by decide +kernel
theorem dX11_isGift_18 : decode cX11_isGift 18 = .ok (.goto 4, 3) := by decide +kernel
theorem dX11_isGift_21 : decode cX11_isGift 21 = .ok (.iconst 0, 1) := by decide +kernel
theorem dX11_isGift_22 : decode cX11_isGift 22 = .ok (.ireturn, 1) := by decide +kernel
theorem dX11_can_0 : decode cX11_can 0 = .ok (.aload_n 0, 1) := by decide +kernel
theorem dX11_can_1 : decode cX11_can 1 = .ok (.iload_n 1, 1) := by decide +kernel
theorem dX11_can_2 : decode cX11_can 2 = .ok (.invokevirtual 169, 3) := by decide +kernel
theorem dX11_can_5 : decode cX11_can 5 = .ok (.ifCond .eq 11, 3) := by decide +kernel
theorem dX11_can_8 : decode cX11_can 8 = .ok (.aload_n 0, 1) := by decide +kernel
theorem dX11_can_9 : decode cX11_can 9 = .ok (.iload_n 2, 1) := by decide +kernel
theorem dX11_can_10 : decode cX11_can 10 = .ok (.invokevirtual 205, 3) := by decide +kernel
theorem dX11_can_13 : decode cX11_can 13 = .ok (.ifCond .ne 5, 3) := by decide +kernel
theorem dX11_can_16 : decode cX11_can 16 = .ok (.iconst (-1), 1) := by decide +kernel
theorem dX11_can_17 : decode cX11_can 17 = .ok (.ireturn, 1) := by decide +kernel
theorem dX11_can_18 : decode cX11_can 18 = .ok (.aload_n 0, 1) := by decide +kernel
theorem dX11_can_19 : decode cX11_can 19 = .ok (.getfield 19, 3) := by decide +kernel
theorem dX11_can_22 : decode cX11_can 22 = .ok (.aload_n 0, 1) := by decide +kernel
theorem dX11_can_23 : decode cX11_can 23 = .ok (.getfield 76, 3) := by decide +kernel
theorem dX11_can_26 : decode cX11_can 26 = .ok (.aload_n 0, 1) := by decide +kernel
theorem dX11_can_27 : decode cX11_can 27 = .ok (.getfield 49, 3) := by decide +kernel
theorem dX11_can_30 : decode cX11_can 30 = .ok (.iload_n 1, 1) := by decide +kernel
theorem dX11_can_31 : decode cX11_can 31 = .ok (.iload_n 2, 1) := by decide +kernel
theorem dX11_can_32 : decode cX11_can 32 = .ok (.invokevirtual 232, 3) := by decide +kernel
theorem dX11_can_35 : decode cX11_can 35 = .ok (.iconst (-1), 1) := by decide +kernel
theorem dX11_can_36 : decode cX11_can 36 = .ok (.if_icmp .ne 7, 3) := by decide +kernel
theorem dX11_can_39 : decode cX11_can 39 = .ok (.iconst 0, 1) := by decide +kernel
theorem dX11_can_40 : decode cX11_can 40 = .ok (.goto 4, 3) := by decide +kernel
theorem dX11_can_43 : decode cX11_can 43 = .ok (.iconst 1, 1) := by decide +kernel
theorem dX11_can_44 : decode cX11_can 44 = .ok (.ireturn, 1) := by decide +kernel
theorem dX11_undo_0 : decode cX11_undo 0 = .ok (.aload_n 0, 1) := by decide +kernel
theorem dX11_undo_1 : decode cX11_undo 1 = .ok (.getfield 131, 3) := by decide +kernel
theorem dX11_undo_4 : decode cX11_undo 4 = .ok (.ifCond .ne 9, 3) := by decide +kernel
theorem dX11_undo_7 : decode cX11_undo 7 = .ok (.aload_n 0, 1) := by decide +kernel
theorem dX11_undo_8 : decode cX11_undo 8 = .ok (.iconst 4, 1) := by decide +kernel
theorem dX11_undo_9 : decode cX11_undo 9 = .ok (.invokevirtual 116, 3) := by decide +kernel
theorem dX11_undo_12 : decode cX11_undo 12 = .ok (.ireturn, 1) := by decide +kernel
theorem dX11_undo_13 : decode cX11_undo 13 = .ok (.aload_n 0, 1) := by decide +kernel
theorem dX11_undo_14 : decode cX11_undo 14 = .ok (.dup, 1) := by decide +kernel
theorem dX11_undo_15 : decode cX11_undo 15 = .ok (.getfield 131, 3) := by decide +kernel
theorem dX11_undo_18 : decode cX11_undo 18 = .ok (.iconst 1, 1) := by decide +kernel
theorem dX11_undo_19 : decode cX11_undo 19 = .ok (.isub, 1) := by decide +kernel
theorem dX11_undo_20 : decode cX11_undo 20 = .ok (.putfield 131, 3) := by decide +kernel
theorem dX11_undo_23 : decode cX11_undo 23 = .ok (.aload_n 0, 1) := by decide +kernel
theorem dX11_undo_24 : decode cX11_undo 24 = .ok (.getfield 49, 3) := by decide +kernel
theorem dX11_undo_27 : decode cX11_undo 27 = .ok (.aload_n 0, 1) := by decide +kernel
theorem dX11_undo_28 : decode cX11_undo 28 = .ok (.getfield 56, 3) := by decide +kernel
theorem dX11_undo_31 : decode cX11_undo 31 = .ok (.aload_n 0, 1) := by decide +kernel
theorem dX11_undo_32 : decode cX11_undo 32 = .ok (.getfield 320, 3) := by decide +kernel
theorem dX11_undo_35 : decode cX11_undo 35 = .ok (.aload_n 0, 1) := by decide +kernel
theorem dX11_undo_36 : decode cX11_undo 36 = .ok (.getfield 131, 3) := by decide +kernel
theorem dX11_undo_39 : decode cX11_undo 39 = .ok (.iadd, 1) := by decide +kernel
theorem dX11_undo_40 : decode cX11_undo 40 = .ok (.bipush 20, 2) := by decide +kernel
theorem dX11_undo_42 : decode cX11_undo 42 = .ok (.irem, 1) := by decide +kernel
theorem dX11_undo_43 : decode cX11_undo 43 = .ok (.aaload, 1) := by decide +kernel
theorem dX11_undo_44 : decode cX11_undo 44 = .ok (.invokevirtual 249, 3) := by decide +kernel
theorem dX11_undo_47 : decode cX11_undo 47 = .ok (.iconst 1, 1) := by decide +kernel
theorem dX11_undo_48 : decode cX11_undo 48 = .ok (.ireturn, 1) := by decide +kernel
theorem dX11_warms_0 : decode cX11_warms 0 = .ok (.aload_n 0, 1) := by decide +kernel
theorem dX11_warms_1 : decode cX11_warms 1 = .ok (.getfield 28, 3) := by decide +kernel
theorem dX11_warms_4 : decode cX11_warms 4 = .ok (.aload_n 0, 1) := by decide +kernel
theorem dX11_warms_5 : decode cX11_warms 5 = .ok (.getfield 76, 3) := by decide +kernel
theorem dX11_warms_8 : decode cX11_warms 8 = .ok (.aload_n 0, 1) := by decide +kernel
theorem dX11_warms_9 : decode cX11_warms 9 = .ok (.getfield 49, 3) := by decide +kernel
theorem dX11_warms_12 : decode cX11_warms 12 = .ok (.invokevirtual 235, 3) := by decide +kernel
theorem dX11_warms_15 : decode cX11_warms 15 = .ok (.aload_n 0, 1) := by decide +kernel
theorem dX11_warms_16 : decode cX11_warms 16 = .ok (.getfield 28, 3) := by decide +kernel
theorem dX11_warms_19 : decode cX11_warms 19 = .ok (.getfield 245, 3) := by decide +kernel
theorem dX11_warms_22 : decode cX11_warms 22 = .ok (.lreturn, 1) := by decide +kernel
theorem dX11_alike_0 : decode cX11_alike 0 = .ok (.aload_n 0, 1) := by decide +kernel
theorem dX11_alike_1 : decode cX11_alike 1 = .ok (.getfield 19, 3) := by decide +kernel
theorem dX11_alike_4 : decode cX11_alike 4 = .ok (.aload_n 0, 1) := by decide +kernel
theorem dX11_alike_5 : decode cX11_alike 5 = .ok (.getfield 76, 3) := by decide +kernel
theorem dX11_alike_8 : decode cX11_alike 8 = .ok (.aload_n 0, 1) := by decide +kernel
theorem dX11_alike_9 : decode cX11_alike 9 = .ok (.getfield 49, 3) := by decide +kernel
theorem dX11_alike_12 : decode cX11_alike 12 = .ok (.iload_n 1, 1) := by decide +kernel
theorem dX11_alike_13 : decode cX11_alike 13 = .ok (.iload_n 2, 1) := by decide +kernel
theorem dX11_alike_14 : decode cX11_alike 14 = .ok (.invokevirtual 223, 3) := by decide +kernel
theorem dX11_alike_17 : decode cX11_alike 17 = .ok (.istore 4, 2) := by decide +kernel
theorem dX11_alike_19 : decode cX11_alike 19 = .ok (.iconst 0, 1) := by decide +kernel
theorem dX11_alike_20 : decode cX11_alike 20 = .ok (.istore 5, 2) := by decide +kernel
theorem dX11_alike_22 : decode cX11_alike 22 = .ok (.iconst 0, 1) := by decide +kernel
theorem dX11_alike_23 : decode cX11_alike 23 = .ok (.istore 6, 2) := by decide +kernel
theorem dX11_alike_25 : decode cX11_alike 25 = .ok (.iload 6, 2) := by decide +kernel
theorem dX11_alike_27 : decode cX11_alike 27 = .ok (.aload_n 0, 1) := by decide +kernel
theorem dX11_alike_28 : decode cX11_alike 28 = .ok (.getfield 76, 3) := by decide +kernel
theorem dX11_alike_31 : decode cX11_alike 31 = .ok (.getfield 146, 3) := by decide +kernel
theorem dX11_alike_34 : decode cX11_alike 34 = .ok (.iconst 2, 1) := by decide +kernel
theorem dX11_alike_35 : decode cX11_alike 35 = .ok (.iaload, 1) := by decide +kernel
theorem dX11_alike_36 : decode cX11_alike 36 = .ok (.if_icmp .ge 45, 3) := by decide +kernel
theorem dX11_alike_39 : decode cX11_alike 39 = .ok (.iload_n 3, 1) := by decide +kernel
theorem dX11_alike_40 : decode cX11_alike 40 = .ok (.iload 6, 2) := by decide +kernel
theorem dX11_alike_42 : decode cX11_alike 42 = .ok (.ishr, 1) := by decide +kernel
theorem dX11_alike_43 : decode cX11_alike 43 = .ok (.iconst 1, 1) := by decide +kernel
theorem dX11_alike_44 : decode cX11_alike 44 = .ok (.iand, 1) := by decide +kernel
theorem dX11_alike_45 : decode cX11_alike 45 = .ok (.iconst 1, 1) := by decide +kernel
theorem dX11_alike_46 : decode cX11_alike 46 = .ok (.if_icmp .ne 29, 3) := by decide +kernel
theorem dX11_alike_49 : decode cX11_alike 49 = .ok (.aload_n 0, 1) := by decide +kernel
theorem dX11_alike_50 : decode cX11_alike 50 = .ok (.getfield 19, 3) := by decide +kernel
theorem dX11_alike_53 : decode cX11_alike 53 = .ok (.aload_n 0, 1) := by decide +kernel
theorem dX11_alike_54 : decode cX11_alike 54 = .ok (.getfield 76, 3) := by decide +kernel
theorem dX11_alike_57 : decode cX11_alike 57 = .ok (.aload_n 0, 1) := by decide +kernel
theorem dX11_alike_58 : decode cX11_alike 58 = .ok (.getfield 49, 3) := by decide +kernel
theorem dX11_alike_61 : decode cX11_alike 61 = .ok (.iload_n 1, 1) := by decide +kernel
theorem dX11_alike_62 : decode cX11_alike 62 = .ok (.iload 6, 2) := by decide +kernel
theorem dX11_alike_64 : decode cX11_alike 64 = .ok (.invokevirtual 223, 3) := by decide +kernel
theorem dX11_alike_67 : decode cX11_alike 67 = .ok (.iload 4, 2) := by decide +kernel
theorem dX11_alike_69 : decode cX11_alike 69 = .ok (.if_icmp .ne 6, 3) := by decide +kernel
theorem dX11_alike_72 : decode cX11_alike 72 = .ok (.iinc 5 1, 3) := by decide +kernel
theorem dX11_alike_75 : decode cX11_alike 75 = .ok (.iinc 6 1, 3) := by decide +kernel
theorem dX11_alike_78 : decode cX11_alike 78 = .ok (.goto (-53), 3) := by decide +kernel
theorem dX11_alike_81 : decode cX11_alike 81 = .ok (.iload 5, 2) := by decide +kernel
theorem dX11_alike_83 : decode cX11_alike 83 = .ok (.ireturn, 1) := by decide +kernel
theorem dX11_octet_0 : decode cX11_octet 0 = .ok (.iload_n 1, 1) := by decide +kernel
theorem dX11_octet_1 : decode cX11_octet 1 = .ok (.ifCond .lt 11, 3) := by decide +kernel
theorem dX11_octet_4 : decode cX11_octet 4 = .ok (.iload_n 1, 1) := by decide +kernel
theorem dX11_octet_5 : decode cX11_octet 5 = .ok (.aload_n 0, 1) := by decide +kernel
theorem dX11_octet_6 : decode cX11_octet 6 = .ok (.getfield 332, 3) := by decide +kernel
theorem dX11_octet_9 : decode cX11_octet 9 = .ok (.if_icmp .lt 7, 3) := by decide +kernel
theorem dX11_octet_12 : decode cX11_octet 12 = .ok (.iconst (-1), 1) := by decide +kernel
theorem dX11_octet_13 : decode cX11_octet 13 = .ok (.goto 9, 3) := by decide +kernel
theorem dX11_octet_16 : decode cX11_octet 16 = .ok (.aload_n 0, 1) := by decide +kernel
theorem dX11_octet_17 : decode cX11_octet 17 = .ok (.getfield 67, 3) := by decide +kernel
theorem dX11_octet_20 : decode cX11_octet 20 = .ok (.iload_n 1, 1) := by decide +kernel
theorem dX11_octet_21 : decode cX11_octet 21 = .ok (.iaload, 1) := by decide +kernel
theorem dX11_octet_22 : decode cX11_octet 22 = .ok (.ireturn, 1) := by decide +kernel
theorem dX11_shared_0 : decode cX11_shared 0 = .ok (.iload_n 1, 1) := by decide +kernel
theorem dX11_shared_1 : decode cX11_shared 1 = .ok (.iconst (-1), 1) := by decide +kernel
theorem dX11_shared_2 : decode cX11_shared 2 = .ok (.if_icmp .eq 13, 3) := by decide +kernel
theorem dX11_shared_5 : decode cX11_shared 5 = .ok (.aload_n 0, 1) := by decide +kernel
theorem dX11_shared_6 : decode cX11_shared 6 = .ok (.iload_n 1, 1) := by decide +kernel
theorem dX11_shared_7 : decode cX11_shared 7 = .ok (.invokevirtual 169, 3) := by decide +kernel
theorem dX11_shared_10 : decode cX11_shared 10 = .ok (.ifCond .ne 5, 3) := by decide +kernel
theorem dX11_shared_13 : decode cX11_shared 13 = .ok (.iconst (-1), 1) := by decide +kernel
theorem dX11_shared_14 : decode cX11_shared 14 = .ok (.ireturn, 1) := by decide +kernel
theorem dX11_shared_15 : decode cX11_shared 15 = .ok (.aload_n 0, 1) := by decide +kernel
theorem dX11_shared_16 : decode cX11_shared 16 = .ok (.getfield 35, 3) := by decide +kernel
theorem dX11_shared_19 : decode cX11_shared 19 = .ok (.aload_n 0, 1) := by decide +kernel
theorem dX11_shared_20 : decode cX11_shared 20 = .ok (.getfield 76, 3) := by decide +kernel
theorem dX11_shared_23 : decode cX11_shared 23 = .ok (.aload_n 0, 1) := by decide +kernel
theorem dX11_shared_24 : decode cX11_shared 24 = .ok (.getfield 49, 3) := by decide +kernel
theorem dX11_shared_27 : decode cX11_shared 27 = .ok (.invokevirtual 271, 3) := by decide +kernel
theorem dX11_shared_30 : decode cX11_shared 30 = .ok (.iload_n 1, 1) := by decide +kernel
theorem dX11_shared_31 : decode cX11_shared 31 = .ok (.iconst (-1), 1) := by decide +kernel
theorem dX11_shared_32 : decode cX11_shared 32 = .ok (.if_icmp .ne 13, 3) := by decide +kernel
theorem dX11_shared_35 : decode cX11_shared 35 = .ok (.aload_n 0, 1) := by decide +kernel
theorem dX11_shared_36 : decode cX11_shared 36 = .ok (.getfield 35, 3) := by decide +kernel
theorem dX11_shared_39 : decode cX11_shared 39 = .ok (.getfield 272, 3) := by decide +kernel
theorem dX11_shared_42 : decode cX11_shared 42 = .ok (.goto 12, 3) := by decide +kernel
theorem dX11_shared_45 : decode cX11_shared 45 = .ok (.aload_n 0, 1) := by decide +kernel
theorem dX11_shared_46 : decode cX11_shared 46 = .ok (.getfield 35, 3) := by decide +kernel
theorem dX11_shared_49 : decode cX11_shared 49 = .ok (.getfield 274, 3) := by decide +kernel
theorem dX11_shared_52 : decode cX11_shared 52 = .ok (.iload_n 1, 1) := by decide +kernel
theorem dX11_shared_53 : decode cX11_shared 53 = .ok (.iaload, 1) := by decide +kernel
theorem dX11_shared_54 : decode cX11_shared 54 = .ok (.ireturn, 1) := by decide +kernel
theorem dX11_seed_0 : decode cX11_seed 0 = .ok (.iload_n 1, 1) := by decide +kernel
theorem dX11_seed_1 : decode cX11_seed 1 = .ok (.ifCond .ge 9, 3) := by decide +kernel
theorem dX11_seed_4 : decode cX11_seed 4 = .ok (.aload_n 0, 1) := by decide +kernel
theorem dX11_seed_5 : decode cX11_seed 5 = .ok (.iconst 5, 1) := by decide +kernel
theorem dX11_seed_6 : decode cX11_seed 6 = .ok (.invokevirtual 116, 3) := by decide +kernel
theorem dX11_seed_9 : decode cX11_seed 9 = .ok (.ireturn, 1) := by decide +kernel
theorem dX11_seed_10 : decode cX11_seed 10 = .ok (.aload_n 0, 1) := by decide +kernel
theorem dX11_seed_11 : decode cX11_seed 11 = .ok (.iload_n 1, 1) := by decide +kernel
theorem dX11_seed_12 : decode cX11_seed 12 = .ok (.putfield 80, 3) := by decide +kernel
theorem dX11_seed_15 : decode cX11_seed 15 = .ok (.iconst 1, 1) := by decide +kernel
theorem dX11_seed_16 : decode cX11_seed 16 = .ok (.ireturn, 1) := by decide +kernel
theorem dX11_has_0 : decode cX11_has 0 = .ok (.iload_n 1, 1) := by decide +kernel
theorem dX11_has_1 : decode cX11_has 1 = .ok (.tableswitch 123 0 11 #[63, 63, 63, 63, 63, 73, 81, 89, 97, 105, 113, 118], 63) := by decide +kernel
theorem dX11_has_64 : decode cX11_has 64 = .ok (.aload_n 0, 1) := by decide +kernel
theorem dX11_has_65 : decode cX11_has 65 = .ok (.getfield 76, 3) := by decide +kernel
theorem dX11_has_68 : decode cX11_has 68 = .ok (.getfield 146, 3) := by decide +kernel
theorem dX11_has_71 : decode cX11_has 71 = .ok (.iload_n 1, 1) := by decide +kernel
theorem dX11_has_72 : decode cX11_has 72 = .ok (.iaload, 1) := by decide +kernel
theorem dX11_has_73 : decode cX11_has 73 = .ok (.ireturn, 1) := by decide +kernel
theorem dX11_has_74 : decode cX11_has 74 = .ok (.aload_n 0, 1) := by decide +kernel
theorem dX11_has_75 : decode cX11_has 75 = .ok (.getfield 49, 3) := by decide +kernel
theorem dX11_has_78 : decode cX11_has 78 = .ok (.getfield 149, 3) := by decide +kernel
theorem dX11_has_81 : decode cX11_has 81 = .ok (.ireturn, 1) := by decide +kernel
theorem dX11_has_82 : decode cX11_has 82 = .ok (.aload_n 0, 1) := by decide +kernel
theorem dX11_has_83 : decode cX11_has 83 = .ok (.getfield 49, 3) := by decide +kernel
theorem dX11_has_86 : decode cX11_has 86 = .ok (.invokevirtual 152, 3) := by decide +kernel
theorem dX11_has_89 : decode cX11_has 89 = .ok (.ireturn, 1) := by decide +kernel
theorem dX11_has_90 : decode cX11_has 90 = .ok (.aload_n 0, 1) := by decide +kernel
theorem dX11_has_91 : decode cX11_has 91 = .ok (.getfield 49, 3) := by decide +kernel
theorem dX11_has_94 : decode cX11_has 94 = .ok (.invokevirtual 156, 3) := by decide +kernel
theorem dX11_has_97 : decode cX11_has 97 = .ok (.ireturn, 1) := by decide +kernel
theorem dX11_has_98 : decode cX11_has 98 = .ok (.aload_n 0, 1) := by decide +kernel
theorem dX11_has_99 : decode cX11_has 99 = .ok (.getfield 49, 3) := by decide +kernel
theorem dX11_has_102 : decode cX11_has 102 = .ok (.invokevirtual 159, 3) := by decide +kernel
theorem dX11_has_105 : decode cX11_has 105 = .ok (.ireturn, 1) := by decide +kernel
theorem dX11_has_106 : decode cX11_has 106 = .ok (.aload_n 0, 1) := by decide +kernel
theorem dX11_has_107 : decode cX11_has 107 = .ok (.getfield 49, 3) := by decide +kernel
theorem dX11_has_110 : decode cX11_has 110 = .ok (.invokevirtual 162, 3) := by decide +kernel
theorem dX11_has_113 : decode cX11_has 113 = .ok (.ireturn, 1) := by decide +kernel
theorem dX11_has_114 : decode cX11_has 114 = .ok (.aload_n 0, 1) := by decide +kernel
theorem dX11_has_115 : decode cX11_has 115 = .ok (.getfield 134, 3) := by decide +kernel
theorem dX11_has_118 : decode cX11_has 118 = .ok (.ireturn, 1) := by decide +kernel
theorem dX11_has_119 : decode cX11_has 119 = .ok (.aload_n 0, 1) := by decide +kernel
theorem dX11_has_120 : decode cX11_has 120 = .ok (.getfield 131, 3) := by decide +kernel
theorem dX11_has_123 : decode cX11_has 123 = .ok (.ireturn, 1) := by decide +kernel
theorem dX11_has_124 : decode cX11_has 124 = .ok (.iconst (-1), 1) := by decide +kernel
theorem dX11_has_125 : decode cX11_has 125 = .ok (.ireturn, 1) := by decide +kernel
theorem dX11_whose_0 : decode cX11_whose 0 = .ok (.iconst 0, 1) := by decide +kernel
theorem dX11_whose_1 : decode cX11_whose 1 = .ok (.istore_n 1, 1) := by decide +kernel
theorem dX11_whose_2 : decode cX11_whose 2 = .ok (.iconst 0, 1) := by decide +kernel
theorem dX11_whose_3 : decode cX11_whose 3 = .ok (.istore_n 2, 1) := by decide +kernel
theorem dX11_whose_4 : decode cX11_whose 4 = .ok (.iload_n 2, 1) := by decide +kernel
theorem dX11_whose_5 : decode cX11_whose 5 = .ok (.aload_n 0, 1) := by decide +kernel
theorem dX11_whose_6 : decode cX11_whose 6 = .ok (.getfield 76, 3) := by decide +kernel
theorem dX11_whose_9 : decode cX11_whose 9 = .ok (.getfield 146, 3) := by decide +kernel
theorem dX11_whose_12 : decode cX11_whose 12 = .ok (.iconst 2, 1) := by decide +kernel
theorem dX11_whose_13 : decode cX11_whose 13 = .ok (.iaload, 1) := by decide +kernel
theorem dX11_whose_14 : decode cX11_whose 14 = .ok (.if_icmp .ge 23, 3) := by decide +kernel
theorem dX11_whose_17 : decode cX11_whose 17 = .ok (.aload_n 0, 1) := by decide +kernel
theorem dX11_whose_18 : decode cX11_whose 18 = .ok (.iload_n 2, 1) := by decide +kernel
theorem dX11_whose_19 : decode cX11_whose 19 = .ok (.invokevirtual 298, 3) := by decide +kernel
theorem dX11_whose_22 : decode cX11_whose 22 = .ok (.ifCond .eq 9, 3) := by decide +kernel
theorem dX11_whose_25 : decode cX11_whose 25 = .ok (.iload_n 1, 1) := by decide +kernel
theorem dX11_whose_26 : decode cX11_whose 26 = .ok (.iconst 1, 1) := by decide +kernel
theorem dX11_whose_27 : decode cX11_whose 27 = .ok (.iload_n 2, 1) := by decide +kernel
theorem dX11_whose_28 : decode cX11_whose 28 = .ok (.ishl, 1) := by decide +kernel
theorem dX11_whose_29 : decode cX11_whose 29 = .ok (.ior, 1) := by decide +kernel
theorem dX11_whose_30 : decode cX11_whose 30 = .ok (.istore_n 1, 1) := by decide +kernel
theorem dX11_whose_31 : decode cX11_whose 31 = .ok (.iinc 2 1, 3) := by decide +kernel
theorem dX11_whose_34 : decode cX11_whose 34 = .ok (.goto (-30), 3) := by decide +kernel
theorem dX11_whose_37 : decode cX11_whose 37 = .ok (.iload_n 1, 1) := by decide +kernel
theorem dX11_whose_38 : decode cX11_whose 38 = .ok (.ireturn, 1) := by decide +kernel
theorem dX11_drawOfHundred_0 : decode cX11_drawOfHundred 0 = .ok (.aload_n 0, 1) := by decide +kernel
theorem dX11_drawOfHundred_1 : decode cX11_drawOfHundred 1 = .ok (.ldc2_w 355, 3) := by decide +kernel
theorem dX11_drawOfHundred_4 : decode cX11_drawOfHundred 4 = .ok (.aload_n 0, 1) := by decide +kernel
theorem dX11_drawOfHundred_5 : decode cX11_drawOfHundred 5 = .ok (.getfield 80, 3) := by decide +kernel
theorem dX11_drawOfHundred_8 : decode cX11_drawOfHundred 8 = .ok (.i2l, 1) := by decide +kernel
theorem dX11_drawOfHundred_9 : decode cX11_drawOfHundred 9 = .ok (.lmul, 1) := by decide +kernel
theorem dX11_drawOfHundred_10 : decode cX11_drawOfHundred 10 = .ok (.ldc2_w 357, 3) := by decide +kernel
theorem dX11_drawOfHundred_13 : decode cX11_drawOfHundred 13 = .ok (.ladd, 1) := by decide +kernel
theorem dX11_drawOfHundred_14 : decode cX11_drawOfHundred 14 = .ok (.ldc2_w 359, 3) := by decide +kernel
theorem dX11_drawOfHundred_17 : decode cX11_drawOfHundred 17 = .ok (.land, 1) := by decide +kernel
theorem dX11_drawOfHundred_18 : decode cX11_drawOfHundred 18 = .ok (.l2i, 1) := by decide +kernel
theorem dX11_drawOfHundred_19 : decode cX11_drawOfHundred 19 = .ok (.putfield 80, 3) := by decide +kernel
theorem dX11_drawOfHundred_22 : decode cX11_drawOfHundred 22 = .ok (.aload_n 0, 1) := by decide +kernel
theorem dX11_drawOfHundred_23 : decode cX11_drawOfHundred 23 = .ok (.getfield 80, 3) := by decide +kernel
theorem dX11_drawOfHundred_26 : decode cX11_drawOfHundred 26 = .ok (.bipush 64, 2) := by decide +kernel
theorem dX11_drawOfHundred_28 : decode cX11_drawOfHundred 28 = .ok (.idiv, 1) := by decide +kernel
theorem dX11_drawOfHundred_29 : decode cX11_drawOfHundred 29 = .ok (.bipush 100, 2) := by decide +kernel
theorem dX11_drawOfHundred_31 : decode cX11_drawOfHundred 31 = .ok (.irem, 1) := by decide +kernel
theorem dX11_drawOfHundred_32 : decode cX11_drawOfHundred 32 = .ok (.ireturn, 1) := by decide +kernel
theorem dX11_canGoBy_0 : decode cX11_canGoBy 0 = .ok (.iload_n 1, 1) := by decide +kernel
theorem dX11_canGoBy_1 : decode cX11_canGoBy 1 = .ok (.iconst 1, 1) := by decide +kernel
theorem dX11_canGoBy_2 : decode cX11_canGoBy 2 = .ok (.if_icmp .lt 28, 3) := by decide +kernel
theorem dX11_canGoBy_5 : decode cX11_canGoBy 5 = .ok (.iload_n 1, 1) := by decide +kernel
theorem dX11_canGoBy_6 : decode cX11_canGoBy 6 = .ok (.bipush 50, 2) := by decide +kernel
theorem dX11_canGoBy_8 : decode cX11_canGoBy 8 = .ok (.if_icmp .gt 22, 3) := by decide +kernel
theorem dX11_canGoBy_11 : decode cX11_canGoBy 11 = .ok (.aload_n 0, 1) := by decide +kernel
theorem dX11_canGoBy_12 : decode cX11_canGoBy 12 = .ok (.getfield 49, 3) := by decide +kernel
theorem dX11_canGoBy_15 : decode cX11_canGoBy 15 = .ok (.getfield 149, 3) := by decide +kernel
theorem dX11_canGoBy_18 : decode cX11_canGoBy 18 = .ok (.iload_n 1, 1) := by decide +kernel
theorem dX11_canGoBy_19 : decode cX11_canGoBy 19 = .ok (.iadd, 1) := by decide +kernel
theorem dX11_canGoBy_20 : decode cX11_canGoBy 20 = .ok (.sipush 999, 3) := by decide +kernel
theorem dX11_canGoBy_23 : decode cX11_canGoBy 23 = .ok (.if_icmp .gt 7, 3) := by decide +kernel
theorem dX11_canGoBy_26 : decode cX11_canGoBy 26 = .ok (.iconst 1, 1) := by decide +kernel
theorem dX11_canGoBy_27 : decode cX11_canGoBy 27 = .ok (.goto 4, 3) := by decide +kernel
theorem dX11_canGoBy_30 : decode cX11_canGoBy 30 = .ok (.iconst 0, 1) := by decide +kernel
theorem dX11_canGoBy_31 : decode cX11_canGoBy 31 = .ok (.ireturn, 1) := by decide +kernel
theorem dX11_watched_0 : decode cX11_watched 0 = .ok (.aload_n 0, 1) := by decide +kernel
theorem dX11_watched_1 : decode cX11_watched 1 = .ok (.invokevirtual 301, 3) := by decide +kernel
theorem dX11_watched_4 : decode cX11_watched 4 = .ok (.istore_n 2, 1) := by decide +kernel
theorem dX11_watched_5 : decode cX11_watched 5 = .ok (.aload_n 0, 1) := by decide +kernel
theorem dX11_watched_6 : decode cX11_watched 6 = .ok (.getfield 76, 3) := by decide +kernel
theorem dX11_watched_9 : decode cX11_watched 9 = .ok (.getfield 146, 3) := by decide +kernel
theorem dX11_watched_12 : decode cX11_watched 12 = .ok (.iconst 0, 1) := by decide +kernel
theorem dX11_watched_13 : decode cX11_watched 13 = .ok (.iaload, 1) := by decide +kernel
theorem dX11_watched_14 : decode cX11_watched 14 = .ok (.istore_n 3, 1) := by decide +kernel
theorem dX11_watched_15 : decode cX11_watched 15 = .ok (.iload_n 1, 1) := by decide +kernel
theorem dX11_watched_16 : decode cX11_watched 16 = .ok (.ifCond .lt 16, 3) := by decide +kernel
theorem dX11_watched_19 : decode cX11_watched 19 = .ok (.iload_n 1, 1) := by decide +kernel
theorem dX11_watched_20 : decode cX11_watched 20 = .ok (.iconst 1, 1) := by decide +kernel
theorem dX11_watched_21 : decode cX11_watched 21 = .ok (.if_icmp .gt 11, 3) := by decide +kernel
theorem dX11_watched_24 : decode cX11_watched 24 = .ok (.iload_n 2, 1) := by decide +kernel
theorem dX11_watched_25 : decode cX11_watched 25 = .ok (.ifCond .eq 7, 3) := by decide +kernel
theorem dX11_watched_28 : decode cX11_watched 28 = .ok (.iload_n 3, 1) := by decide +kernel
theorem dX11_watched_29 : decode cX11_watched 29 = .ok (.ifCond .ne 5, 3) := by decide +kernel
theorem dX11_watched_32 : decode cX11_watched 32 = .ok (.iconst (-1), 1) := by decide +kernel
theorem dX11_watched_33 : decode cX11_watched 33 = .ok (.ireturn, 1) := by decide +kernel
theorem dX11_watched_34 : decode cX11_watched 34 = .ok (.iconst 0, 1) := by decide +kernel
theorem dX11_watched_35 : decode cX11_watched 35 = .ok (.istore 4, 2) := by decide +kernel
theorem dX11_watched_37 : decode cX11_watched 37 = .ok (.aload_n 0, 1) := by decide +kernel
theorem dX11_watched_38 : decode cX11_watched 38 = .ok (.iconst 0, 1) := by decide +kernel
theorem dX11_watched_39 : decode cX11_watched 39 = .ok (.iload_n 2, 1) := by decide +kernel
theorem dX11_watched_40 : decode cX11_watched 40 = .ok (.invokevirtual 304, 3) := by decide +kernel
theorem dX11_watched_43 : decode cX11_watched 43 = .ok (.istore 5, 2) := by decide +kernel
theorem dX11_watched_45 : decode cX11_watched 45 = .ok (.iconst 1, 1) := by decide +kernel
theorem dX11_watched_46 : decode cX11_watched 46 = .ok (.istore 6, 2) := by decide +kernel
theorem dX11_watched_48 : decode cX11_watched 48 = .ok (.iload 6, 2) := by decide +kernel
theorem dX11_watched_50 : decode cX11_watched 50 = .ok (.iload_n 3, 1) := by decide +kernel
theorem dX11_watched_51 : decode cX11_watched 51 = .ok (.if_icmp .ge 33, 3) := by decide +kernel
theorem dX11_watched_54 : decode cX11_watched 54 = .ok (.aload_n 0, 1) := by decide +kernel
theorem dX11_watched_55 : decode cX11_watched 55 = .ok (.iload 6, 2) := by decide +kernel
theorem dX11_watched_57 : decode cX11_watched 57 = .ok (.iload_n 2, 1) := by decide +kernel
theorem dX11_watched_58 : decode cX11_watched 58 = .ok (.invokevirtual 304, 3) := by decide +kernel
theorem dX11_watched_61 : decode cX11_watched 61 = .ok (.istore 7, 2) := by decide +kernel
theorem dX11_watched_63 : decode cX11_watched 63 = .ok (.iload 7, 2) := by decide +kernel
theorem dX11_watched_65 : decode cX11_watched 65 = .ok (.iload 5, 2) := by decide +kernel
theorem dX11_watched_67 : decode cX11_watched 67 = .ok (.if_icmp .ge 11, 3) := by decide +kernel
theorem dX11_watched_70 : decode cX11_watched 70 = .ok (.iload 7, 2) := by decide +kernel
theorem dX11_watched_72 : decode cX11_watched 72 = .ok (.istore 5, 2) := by decide +kernel
theorem dX11_watched_74 : decode cX11_watched 74 = .ok (.iload 6, 2) := by decide +kernel
theorem dX11_watched_76 : decode cX11_watched 76 = .ok (.istore 4, 2) := by decide +kernel
theorem dX11_watched_78 : decode cX11_watched 78 = .ok (.iinc 6 1, 3) := by decide +kernel
theorem dX11_watched_81 : decode cX11_watched 81 = .ok (.goto (-33), 3) := by decide +kernel
theorem dX11_watched_84 : decode cX11_watched 84 = .ok (.iload_n 1, 1) := by decide +kernel
theorem dX11_watched_85 : decode cX11_watched 85 = .ok (.ifCond .ne 8, 3) := by decide +kernel
theorem dX11_watched_88 : decode cX11_watched 88 = .ok (.iload 4, 2) := by decide +kernel
theorem dX11_watched_90 : decode cX11_watched 90 = .ok (.goto 5, 3) := by decide +kernel
theorem dX11_watched_93 : decode cX11_watched 93 = .ok (.iload 5, 2) := by decide +kernel
theorem dX11_watched_95 : decode cX11_watched 95 = .ok (.ireturn, 1) := by decide +kernel
theorem dX11_sheet_0 : decode cX11_sheet 0 = .ok (.aload_n 0, 1) := by decide +kernel
theorem dX11_sheet_1 : decode cX11_sheet 1 = .ok (.iload_n 1, 1) := by decide +kernel
theorem dX11_sheet_2 : decode cX11_sheet 2 = .ok (.invokevirtual 169, 3) := by decide +kernel
theorem dX11_sheet_5 : decode cX11_sheet 5 = .ok (.ifCond .eq 13, 3) := by decide +kernel
theorem dX11_sheet_8 : decode cX11_sheet 8 = .ok (.iload_n 2, 1) := by decide +kernel
theorem dX11_sheet_9 : decode cX11_sheet 9 = .ok (.iconst 1, 1) := by decide +kernel
theorem dX11_sheet_10 : decode cX11_sheet 10 = .ok (.if_icmp .lt 8, 3) := by decide +kernel
theorem dX11_sheet_13 : decode cX11_sheet 13 = .ok (.iload_n 2, 1) := by decide +kernel
theorem dX11_sheet_14 : decode cX11_sheet 14 = .ok (.iconst 4, 1) := by decide +kernel
theorem dX11_sheet_15 : decode cX11_sheet 15 = .ok (.if_icmp .le 9, 3) := by decide +kernel
theorem dX11_sheet_18 : decode cX11_sheet 18 = .ok (.aload_n 0, 1) := by decide +kernel
theorem dX11_sheet_19 : decode cX11_sheet 19 = .ok (.iconst 2, 1) := by decide +kernel
theorem dX11_sheet_20 : decode cX11_sheet 20 = .ok (.invokevirtual 116, 3) := by decide +kernel
theorem dX11_sheet_23 : decode cX11_sheet 23 = .ok (.ireturn, 1) := by decide +kernel
theorem dX11_sheet_24 : decode cX11_sheet 24 = .ok (.aload_n 0, 1) := by decide +kernel
theorem dX11_sheet_25 : decode cX11_sheet 25 = .ok (.getfield 49, 3) := by decide +kernel
theorem dX11_sheet_28 : decode cX11_sheet 28 = .ok (.getfield 184, 3) := by decide +kernel
theorem dX11_sheet_31 : decode cX11_sheet 31 = .ok (.iload_n 1, 1) := by decide +kernel
theorem dX11_sheet_32 : decode cX11_sheet 32 = .ok (.iaload, 1) := by decide +kernel
theorem dX11_sheet_33 : decode cX11_sheet 33 = .ok (.iload_n 2, 1) := by decide +kernel
theorem dX11_sheet_34 : decode cX11_sheet 34 = .ok (.if_icmp .eq 19, 3) := by decide +kernel
theorem dX11_sheet_37 : decode cX11_sheet 37 = .ok (.aload_n 0, 1) := by decide +kernel
theorem dX11_sheet_38 : decode cX11_sheet 38 = .ok (.getfield 49, 3) := by decide +kernel
theorem dX11_sheet_41 : decode cX11_sheet 41 = .ok (.aload_n 0, 1) := by decide +kernel
theorem dX11_sheet_42 : decode cX11_sheet 42 = .ok (.getfield 76, 3) := by decide +kernel
theorem dX11_sheet_45 : decode cX11_sheet 45 = .ok (.iload_n 1, 1) := by decide +kernel
theorem dX11_sheet_46 : decode cX11_sheet 46 = .ok (.iload_n 2, 1) := by decide +kernel
theorem dX11_sheet_47 : decode cX11_sheet 47 = .ok (.invokevirtual 310, 3) := by decide +kernel
theorem dX11_sheet_50 : decode cX11_sheet 50 = .ok (.ifCond .eq 9, 3) := by decide +kernel
theorem dX11_sheet_53 : decode cX11_sheet 53 = .ok (.aload_n 0, 1) := by decide +kernel
theorem dX11_sheet_54 : decode cX11_sheet 54 = .ok (.iconst 2, 1) := by decide +kernel
theorem dX11_sheet_55 : decode cX11_sheet 55 = .ok (.invokevirtual 116, 3) := by decide +kernel
theorem dX11_sheet_58 : decode cX11_sheet 58 = .ok (.ireturn, 1) := by decide +kernel
theorem dX11_sheet_59 : decode cX11_sheet 59 = .ok (.aload_n 0, 1) := by decide +kernel
theorem dX11_sheet_60 : decode cX11_sheet 60 = .ok (.invokevirtual 307, 3) := by decide +kernel
theorem dX11_sheet_63 : decode cX11_sheet 63 = .ok (.aload_n 0, 1) := by decide +kernel
theorem dX11_sheet_64 : decode cX11_sheet 64 = .ok (.getfield 49, 3) := by decide +kernel
theorem dX11_sheet_67 : decode cX11_sheet 67 = .ok (.getfield 184, 3) := by decide +kernel
theorem dX11_sheet_70 : decode cX11_sheet 70 = .ok (.iload_n 1, 1) := by decide +kernel
theorem dX11_sheet_71 : decode cX11_sheet 71 = .ok (.iload_n 2, 1) := by decide +kernel
theorem dX11_sheet_72 : decode cX11_sheet 72 = .ok (.iastore, 1) := by decide +kernel
theorem dX11_sheet_73 : decode cX11_sheet 73 = .ok (.iconst 1, 1) := by decide +kernel
theorem dX11_sheet_74 : decode cX11_sheet 74 = .ok (.ireturn, 1) := by decide +kernel
theorem dX11_takes_0 : decode cX11_takes 0 = .ok (.aload_n 0, 1) := by decide +kernel
theorem dX11_takes_1 : decode cX11_takes 1 = .ok (.iload_n 1, 1) := by decide +kernel
theorem dX11_takes_2 : decode cX11_takes 2 = .ok (.invokevirtual 169, 3) := by decide +kernel
theorem dX11_takes_5 : decode cX11_takes 5 = .ok (.ifCond .eq 11, 3) := by decide +kernel
theorem dX11_takes_8 : decode cX11_takes 8 = .ok (.aload_n 0, 1) := by decide +kernel
theorem dX11_takes_9 : decode cX11_takes 9 = .ok (.iload_n 2, 1) := by decide +kernel
theorem dX11_takes_10 : decode cX11_takes 10 = .ok (.invokevirtual 205, 3) := by decide +kernel
theorem dX11_takes_13 : decode cX11_takes 13 = .ok (.ifCond .ne 5, 3) := by decide +kernel
theorem dX11_takes_16 : decode cX11_takes 16 = .ok (.iconst (-1), 1) := by decide +kernel
theorem dX11_takes_17 : decode cX11_takes 17 = .ok (.ireturn, 1) := by decide +kernel
theorem dX11_takes_18 : decode cX11_takes 18 = .ok (.aload_n 0, 1) := by decide +kernel
theorem dX11_takes_19 : decode cX11_takes 19 = .ok (.getfield 19, 3) := by decide +kernel
theorem dX11_takes_22 : decode cX11_takes 22 = .ok (.aload_n 0, 1) := by decide +kernel
theorem dX11_takes_23 : decode cX11_takes 23 = .ok (.getfield 76, 3) := by decide +kernel
theorem dX11_takes_26 : decode cX11_takes 26 = .ok (.aload_n 0, 1) := by decide +kernel
theorem dX11_takes_27 : decode cX11_takes 27 = .ok (.getfield 49, 3) := by decide +kernel
theorem dX11_takes_30 : decode cX11_takes 30 = .ok (.iload_n 1, 1) := by decide +kernel
theorem dX11_takes_31 : decode cX11_takes 31 = .ok (.iload_n 2, 1) := by decide +kernel
theorem dX11_takes_32 : decode cX11_takes 32 = .ok (.invokevirtual 223, 3) := by decide +kernel
theorem dX11_takes_35 : decode cX11_takes 35 = .ok (.ireturn, 1) := by decide +kernel
theorem dX11_chance_0 : decode cX11_chance 0 = .ok (.aload_n 0, 1) := by decide +kernel
theorem dX11_chance_1 : decode cX11_chance 1 = .ok (.iload_n 1, 1) := by decide +kernel
theorem dX11_chance_2 : decode cX11_chance 2 = .ok (.invokevirtual 314, 3) := by decide +kernel
theorem dX11_chance_5 : decode cX11_chance 5 = .ok (.ifCond .ne 9, 3) := by decide +kernel
theorem dX11_chance_8 : decode cX11_chance 8 = .ok (.aload_n 0, 1) := by decide +kernel
theorem dX11_chance_9 : decode cX11_chance 9 = .ok (.iconst 3, 1) := by decide +kernel
theorem dX11_chance_10 : decode cX11_chance 10 = .ok (.invokevirtual 108, 3) := by decide +kernel
theorem dX11_chance_13 : decode cX11_chance 13 = .ok (.ireturn, 1) := by decide +kernel
theorem dX11_chance_14 : decode cX11_chance 14 = .ok (.aload_n 0, 1) := by decide +kernel
theorem dX11_chance_15 : decode cX11_chance 15 = .ok (.invokevirtual 307, 3) := by decide +kernel
theorem dX11_chance_18 : decode cX11_chance 18 = .ok (.iconst 0, 1) := by decide +kernel
theorem dX11_chance_19 : decode cX11_chance 19 = .ok (.istore_n 2, 1) := by decide +kernel
theorem dX11_chance_20 : decode cX11_chance 20 = .ok (.iconst 0, 1) := by decide +kernel
theorem dX11_chance_21 : decode cX11_chance 21 = .ok (.istore_n 3, 1) := by decide +kernel
theorem dX11_chance_22 : decode cX11_chance 22 = .ok (.iload_n 3, 1) := by decide +kernel
theorem dX11_chance_23 : decode cX11_chance 23 = .ok (.iload_n 1, 1) := by decide +kernel
theorem dX11_chance_24 : decode cX11_chance 24 = .ok (.if_icmp .ge 46, 3) := by decide +kernel
theorem dX11_chance_27 : decode cX11_chance 27 = .ok (.iload_n 2, 1) := by decide +kernel
theorem dX11_chance_28 : decode cX11_chance 28 = .ok (.aload_n 0, 1) := by decide +kernel
theorem dX11_chance_29 : decode cX11_chance 29 = .ok (.invokevirtual 317, 3) := by decide +kernel
theorem dX11_chance_32 : decode cX11_chance 32 = .ok (.iadd, 1) := by decide +kernel
theorem dX11_chance_33 : decode cX11_chance 33 = .ok (.istore_n 2, 1) := by decide +kernel
theorem dX11_chance_34 : decode cX11_chance 34 = .ok (.aload_n 0, 1) := by decide +kernel
theorem dX11_chance_35 : decode cX11_chance 35 = .ok (.getfield 28, 3) := by decide +kernel
theorem dX11_chance_38 : decode cX11_chance 38 = .ok (.aload_n 0, 1) := by decide +kernel
theorem dX11_chance_39 : decode cX11_chance 39 = .ok (.getfield 76, 3) := by decide +kernel
theorem dX11_chance_42 : decode cX11_chance 42 = .ok (.aload_n 0, 1) := by decide +kernel
theorem dX11_chance_43 : decode cX11_chance 43 = .ok (.getfield 49, 3) := by decide +kernel
theorem dX11_chance_46 : decode cX11_chance 46 = .ok (.invokevirtual 235, 3) := by decide +kernel
theorem dX11_chance_49 : decode cX11_chance 49 = .ok (.aload_n 0, 1) := by decide +kernel
theorem dX11_chance_50 : decode cX11_chance 50 = .ok (.getfield 28, 3) := by decide +kernel
theorem dX11_chance_53 : decode cX11_chance 53 = .ok (.aload_n 0, 1) := by decide +kernel
theorem dX11_chance_54 : decode cX11_chance 54 = .ok (.getfield 76, 3) := by decide +kernel
theorem dX11_chance_57 : decode cX11_chance 57 = .ok (.aload_n 0, 1) := by decide +kernel
theorem dX11_chance_58 : decode cX11_chance 58 = .ok (.getfield 49, 3) := by decide +kernel
theorem dX11_chance_61 : decode cX11_chance 61 = .ok (.invokevirtual 253, 3) := by decide +kernel
theorem dX11_chance_64 : decode cX11_chance 64 = .ok (.iinc 3 1, 3) := by decide +kernel
theorem dX11_chance_67 : decode cX11_chance 67 = .ok (.goto (-45), 3) := by decide +kernel
theorem dX11_chance_70 : decode cX11_chance 70 = .ok (.iload_n 2, 1) := by decide +kernel
theorem dX11_chance_71 : decode cX11_chance 71 = .ok (.ireturn, 1) := by decide +kernel
theorem dX11_isLetter_0 : decode cX11_isLetter 0 = .ok (.iload_n 1, 1) := by decide +kernel
theorem dX11_isLetter_1 : decode cX11_isLetter 1 = .ok (.ifCond .lt 20, 3) := by decide +kernel
theorem dX11_isLetter_4 : decode cX11_isLetter 4 = .ok (.iload_n 1, 1) := by decide +kernel
theorem dX11_isLetter_5 : decode cX11_isLetter 5 = .ok (.aload_n 0, 1) := by decide +kernel
theorem dX11_isLetter_6 : decode cX11_isLetter 6 = .ok (.getfield 76, 3) := by decide +kernel
theorem dX11_isLetter_9 : decode cX11_isLetter 9 = .ok (.getfield 146, 3) := by decide +kernel
theorem dX11_isLetter_12 : decode cX11_isLetter 12 = .ok (.iconst 0, 1) := by decide +kernel
theorem dX11_isLetter_13 : decode cX11_isLetter 13 = .ok (.iaload, 1) := by decide +kernel
theorem dX11_isLetter_14 : decode cX11_isLetter 14 = .ok (.if_icmp .ge 7, 3) := by decide +kernel
theorem dX11_isLetter_17 : decode cX11_isLetter 17 = .ok (.iconst 1, 1) := by decide +kernel
theorem dX11_isLetter_18 : decode cX11_isLetter 18 = .ok (.goto 4, 3) := by decide +kernel
theorem dX11_isLetter_21 : decode cX11_isLetter 21 = .ok (.iconst 0, 1) := by decide +kernel
theorem dX11_isLetter_22 : decode cX11_isLetter 22 = .ok (.ireturn, 1) := by decide +kernel
theorem dX11_sheets_0 : decode cX11_sheets 0 = .ok (.iload_n 1, 1) := by decide +kernel
theorem dX11_sheets_1 : decode cX11_sheets 1 = .ok (.iconst (-1), 1) := by decide +kernel
theorem dX11_sheets_2 : decode cX11_sheets 2 = .ok (.if_icmp .eq 13, 3) := by decide +kernel
theorem dX11_sheets_5 : decode cX11_sheets 5 = .ok (.aload_n 0, 1) := by decide +kernel
theorem dX11_sheets_6 : decode cX11_sheets 6 = .ok (.iload_n 1, 1) := by decide +kernel
theorem dX11_sheets_7 : decode cX11_sheets 7 = .ok (.invokevirtual 169, 3) := by decide +kernel
theorem dX11_sheets_10 : decode cX11_sheets 10 = .ok (.ifCond .ne 5, 3) := by decide +kernel
theorem dX11_sheets_13 : decode cX11_sheets 13 = .ok (.iconst (-1), 1) := by decide +kernel
theorem dX11_sheets_14 : decode cX11_sheets 14 = .ok (.ireturn, 1) := by decide +kernel
theorem dX11_sheets_15 : decode cX11_sheets 15 = .ok (.aload_n 0, 1) := by decide +kernel
theorem dX11_sheets_16 : decode cX11_sheets 16 = .ok (.getfield 42, 3) := by decide +kernel
theorem dX11_sheets_19 : decode cX11_sheets 19 = .ok (.aload_n 0, 1) := by decide +kernel
theorem dX11_sheets_20 : decode cX11_sheets 20 = .ok (.getfield 76, 3) := by decide +kernel
theorem dX11_sheets_23 : decode cX11_sheets 23 = .ok (.invokevirtual 262, 3) := by decide +kernel
theorem dX11_sheets_26 : decode cX11_sheets 26 = .ok (.iload_n 1, 1) := by decide +kernel
theorem dX11_sheets_27 : decode cX11_sheets 27 = .ok (.iconst (-1), 1) := by decide +kernel
theorem dX11_sheets_28 : decode cX11_sheets 28 = .ok (.if_icmp .ne 13, 3) := by decide +kernel
theorem dX11_sheets_31 : decode cX11_sheets 31 = .ok (.aload_n 0, 1) := by decide +kernel
theorem dX11_sheets_32 : decode cX11_sheets 32 = .ok (.getfield 42, 3) := by decide +kernel
theorem dX11_sheets_35 : decode cX11_sheets 35 = .ok (.getfield 265, 3) := by decide +kernel
theorem dX11_sheets_38 : decode cX11_sheets 38 = .ok (.goto 12, 3) := by decide +kernel
theorem dX11_sheets_41 : decode cX11_sheets 41 = .ok (.aload_n 0, 1) := by decide +kernel
theorem dX11_sheets_42 : decode cX11_sheets 42 = .ok (.getfield 42, 3) := by decide +kernel
theorem dX11_sheets_45 : decode cX11_sheets 45 = .ok (.getfield 268, 3) := by decide +kernel
theorem dX11_sheets_48 : decode cX11_sheets 48 = .ok (.iload_n 1, 1) := by decide +kernel
theorem dX11_sheets_49 : decode cX11_sheets 49 = .ok (.iaload, 1) := by decide +kernel
theorem dX11_sheets_50 : decode cX11_sheets 50 = .ok (.ireturn, 1) := by decide +kernel
theorem dX11_refuse_0 : decode cX11_refuse 0 = .ok (.aload_n 0, 1) := by decide +kernel
theorem dX11_refuse_1 : decode cX11_refuse 1 = .ok (.getfield 70, 3) := by decide +kernel
theorem dX11_refuse_4 : decode cX11_refuse 4 = .ok (.iload_n 1, 1) := by decide +kernel
theorem dX11_refuse_5 : decode cX11_refuse 5 = .ok (.dup2, 1) := by decide +kernel
theorem dX11_refuse_6 : decode cX11_refuse 6 = .ok (.iaload, 1) := by decide +kernel
theorem dX11_refuse_7 : decode cX11_refuse 7 = .ok (.iconst 1, 1) := by decide +kernel
theorem dX11_refuse_8 : decode cX11_refuse 8 = .ok (.iadd, 1) := by decide +kernel
theorem dX11_refuse_9 : decode cX11_refuse 9 = .ok (.iastore, 1) := by decide +kernel
theorem dX11_refuse_10 : decode cX11_refuse 10 = .ok (.iconst 0, 1) := by decide +kernel
theorem dX11_refuse_11 : decode cX11_refuse 11 = .ok (.ireturn, 1) := by decide +kernel
theorem dX11_feed_0 : decode cX11_feed 0 = .ok (.aload_n 0, 1) := by decide +kernel
theorem dX11_feed_1 : decode cX11_feed 1 = .ok (.getfield 12, 3) := by decide +kernel
theorem dX11_feed_4 : decode cX11_feed 4 = .ok (.getfield 105, 3) := by decide +kernel
theorem dX11_feed_7 : decode cX11_feed 7 = .ok (.bipush 20, 2) := by decide +kernel
theorem dX11_feed_9 : decode cX11_feed 9 = .ok (.iadd, 1) := by decide +kernel
theorem dX11_feed_10 : decode cX11_feed 10 = .ok (.sipush 1600, 3) := by decide +kernel
theorem dX11_feed_13 : decode cX11_feed 13 = .ok (.if_icmp .le 9, 3) := by decide +kernel
theorem dX11_feed_16 : decode cX11_feed 16 = .ok (.aload_n 0, 1) := by decide +kernel
theorem dX11_feed_17 : decode cX11_feed 17 = .ok (.iconst 0, 1) := by decide +kernel
theorem dX11_feed_18 : decode cX11_feed 18 = .ok (.invokevirtual 108, 3) := by decide +kernel
theorem dX11_feed_21 : decode cX11_feed 21 = .ok (.ireturn, 1) := by decide +kernel
theorem dX11_feed_22 : decode cX11_feed 22 = .ok (.aload_n 0, 1) := by decide +kernel
theorem dX11_feed_23 : decode cX11_feed 23 = .ok (.getfield 12, 3) := by decide +kernel
theorem dX11_feed_26 : decode cX11_feed 26 = .ok (.iload_n 1, 1) := by decide +kernel
theorem dX11_feed_27 : decode cX11_feed 27 = .ok (.invokevirtual 112, 3) := by decide +kernel
theorem dX11_feed_30 : decode cX11_feed 30 = .ok (.aload_n 0, 1) := by decide +kernel
theorem dX11_feed_31 : decode cX11_feed 31 = .ok (.getfield 12, 3) := by decide +kernel
theorem dX11_feed_34 : decode cX11_feed 34 = .ok (.iload_n 2, 1) := by decide +kernel
theorem dX11_feed_35 : decode cX11_feed 35 = .ok (.invokevirtual 112, 3) := by decide +kernel
theorem dX11_feed_38 : decode cX11_feed 38 = .ok (.aload_n 0, 1) := by decide +kernel
theorem dX11_feed_39 : decode cX11_feed 39 = .ok (.getfield 12, 3) := by decide +kernel
theorem dX11_feed_42 : decode cX11_feed 42 = .ok (.iload_n 3, 1) := by decide +kernel
theorem dX11_feed_43 : decode cX11_feed 43 = .ok (.invokevirtual 112, 3) := by decide +kernel
theorem dX11_feed_46 : decode cX11_feed 46 = .ok (.aload_n 0, 1) := by decide +kernel
theorem dX11_feed_47 : decode cX11_feed 47 = .ok (.getfield 12, 3) := by decide +kernel
theorem dX11_feed_50 : decode cX11_feed 50 = .ok (.iload 4, 2) := by decide +kernel
theorem dX11_feed_52 : decode cX11_feed 52 = .ok (.invokevirtual 112, 3) := by decide +kernel
theorem dX11_feed_55 : decode cX11_feed 55 = .ok (.aload_n 0, 1) := by decide +kernel
theorem dX11_feed_56 : decode cX11_feed 56 = .ok (.getfield 12, 3) := by decide +kernel
theorem dX11_feed_59 : decode cX11_feed 59 = .ok (.iload 5, 2) := by decide +kernel
theorem dX11_feed_61 : decode cX11_feed 61 = .ok (.invokevirtual 112, 3) := by decide +kernel
theorem dX11_feed_64 : decode cX11_feed 64 = .ok (.aload_n 0, 1) := by decide +kernel
theorem dX11_feed_65 : decode cX11_feed 65 = .ok (.getfield 12, 3) := by decide +kernel
theorem dX11_feed_68 : decode cX11_feed 68 = .ok (.getfield 105, 3) := by decide +kernel
theorem dX11_feed_71 : decode cX11_feed 71 = .ok (.ireturn, 1) := by decide +kernel
theorem dX11_remember_0 : decode cX11_remember 0 = .ok (.aload_n 0, 1) := by decide +kernel
theorem dX11_remember_1 : decode cX11_remember 1 = .ok (.getfield 131, 3) := by decide +kernel
theorem dX11_remember_4 : decode cX11_remember 4 = .ok (.bipush 20, 2) := by decide +kernel
theorem dX11_remember_6 : decode cX11_remember 6 = .ok (.if_icmp .ne 26, 3) := by decide +kernel
theorem dX11_remember_9 : decode cX11_remember 9 = .ok (.aload_n 0, 1) := by decide +kernel
theorem dX11_remember_10 : decode cX11_remember 10 = .ok (.aload_n 0, 1) := by decide +kernel
theorem dX11_remember_11 : decode cX11_remember 11 = .ok (.getfield 320, 3) := by decide +kernel
theorem dX11_remember_14 : decode cX11_remember 14 = .ok (.iconst 1, 1) := by decide +kernel
theorem dX11_remember_15 : decode cX11_remember 15 = .ok (.iadd, 1) := by decide +kernel
theorem dX11_remember_16 : decode cX11_remember 16 = .ok (.bipush 20, 2) := by decide +kernel
theorem dX11_remember_18 : decode cX11_remember 18 = .ok (.irem, 1) := by decide +kernel
theorem dX11_remember_19 : decode cX11_remember 19 = .ok (.putfield 320, 3) := by decide +kernel
theorem dX11_remember_22 : decode cX11_remember 22 = .ok (.aload_n 0, 1) := by decide +kernel
theorem dX11_remember_23 : decode cX11_remember 23 = .ok (.dup, 1) := by decide +kernel
theorem dX11_remember_24 : decode cX11_remember 24 = .ok (.getfield 131, 3) := by decide +kernel
theorem dX11_remember_27 : decode cX11_remember 27 = .ok (.iconst 1, 1) := by decide +kernel
theorem dX11_remember_28 : decode cX11_remember 28 = .ok (.isub, 1) := by decide +kernel
theorem dX11_remember_29 : decode cX11_remember 29 = .ok (.putfield 131, 3) := by decide +kernel
theorem dX11_remember_32 : decode cX11_remember 32 = .ok (.aload_n 0, 1) := by decide +kernel
theorem dX11_remember_33 : decode cX11_remember 33 = .ok (.getfield 56, 3) := by decide +kernel
theorem dX11_remember_36 : decode cX11_remember 36 = .ok (.aload_n 0, 1) := by decide +kernel
theorem dX11_remember_37 : decode cX11_remember 37 = .ok (.getfield 320, 3) := by decide +kernel
theorem dX11_remember_40 : decode cX11_remember 40 = .ok (.aload_n 0, 1) := by decide +kernel
theorem dX11_remember_41 : decode cX11_remember 41 = .ok (.getfield 131, 3) := by decide +kernel
theorem dX11_remember_44 : decode cX11_remember 44 = .ok (.iadd, 1) := by decide +kernel
theorem dX11_remember_45 : decode cX11_remember 45 = .ok (.bipush 20, 2) := by decide +kernel
theorem dX11_remember_47 : decode cX11_remember 47 = .ok (.irem, 1) := by decide +kernel
theorem dX11_remember_48 : decode cX11_remember 48 = .ok (.aaload, 1) := by decide +kernel
theorem dX11_remember_49 : decode cX11_remember 49 = .ok (.aload_n 0, 1) := by decide +kernel
theorem dX11_remember_50 : decode cX11_remember 50 = .ok (.getfield 49, 3) := by decide +kernel
theorem dX11_remember_53 : decode cX11_remember 53 = .ok (.invokevirtual 249, 3) := by decide +kernel
theorem dX11_remember_56 : decode cX11_remember 56 = .ok (.aload_n 0, 1) := by decide +kernel
theorem dX11_remember_57 : decode cX11_remember 57 = .ok (.dup, 1) := by decide +kernel
theorem dX11_remember_58 : decode cX11_remember 58 = .ok (.getfield 131, 3) := by decide +kernel
theorem dX11_remember_61 : decode cX11_remember 61 = .ok (.iconst 1, 1) := by decide +kernel
theorem dX11_remember_62 : decode cX11_remember 62 = .ok (.iadd, 1) := by decide +kernel
theorem dX11_remember_63 : decode cX11_remember 63 = .ok (.putfield 131, 3) := by decide +kernel
theorem dX11_remember_66 : decode cX11_remember 66 = .ok (.return_, 1) := by decide +kernel
theorem dX11_heap_0 : decode cX11_heap 0 = .ok (.aload_n 0, 1) := by decide +kernel
theorem dX11_heap_1 : decode cX11_heap 1 = .ok (.getfield 94, 3) := by decide +kernel
theorem dX11_heap_4 : decode cX11_heap 4 = .ok (.invokevirtual 120, 3) := by decide +kernel
theorem dX11_heap_7 : decode cX11_heap 7 = .ok (.istore_n 1, 1) := by decide +kernel
theorem dX11_heap_8 : decode cX11_heap 8 = .ok (.aload_n 0, 1) := by decide +kernel
theorem dX11_heap_9 : decode cX11_heap 9 = .ok (.getfield 12, 3) := by decide +kernel
theorem dX11_heap_12 : decode cX11_heap 12 = .ok (.iconst 0, 1) := by decide +kernel
theorem dX11_heap_13 : decode cX11_heap 13 = .ok (.putfield 105, 3) := by decide +kernel
theorem dX11_heap_16 : decode cX11_heap 16 = .ok (.iload_n 1, 1) := by decide +kernel
theorem dX11_heap_17 : decode cX11_heap 17 = .ok (.ifCond .ne 9, 3) := by decide +kernel
theorem dX11_heap_20 : decode cX11_heap 20 = .ok (.aload_n 0, 1) := by decide +kernel
theorem dX11_heap_21 : decode cX11_heap 21 = .ok (.iconst 1, 1) := by decide +kernel
theorem dX11_heap_22 : decode cX11_heap 22 = .ok (.invokevirtual 108, 3) := by decide +kernel
theorem dX11_heap_25 : decode cX11_heap 25 = .ok (.ireturn, 1) := by decide +kernel
theorem dX11_heap_26 : decode cX11_heap 26 = .ok (.aload_n 0, 1) := by decide +kernel
theorem dX11_heap_27 : decode cX11_heap 27 = .ok (.getfield 76, 3) := by decide +kernel
theorem dX11_heap_30 : decode cX11_heap 30 = .ok (.astore_n 2, 1) := by decide +kernel
theorem dX11_heap_31 : decode cX11_heap 31 = .ok (.aload_n 0, 1) := by decide +kernel
theorem dX11_heap_32 : decode cX11_heap 32 = .ok (.aload_n 0, 1) := by decide +kernel
theorem dX11_heap_33 : decode cX11_heap 33 = .ok (.getfield 94, 3) := by decide +kernel
theorem dX11_heap_36 : decode cX11_heap 36 = .ok (.getfield 124, 3) := by decide +kernel
theorem dX11_heap_39 : decode cX11_heap 39 = .ok (.putfield 76, 3) := by decide +kernel
theorem dX11_heap_42 : decode cX11_heap 42 = .ok (.aload_n 0, 1) := by decide +kernel
theorem dX11_heap_43 : decode cX11_heap 43 = .ok (.getfield 94, 3) := by decide +kernel
theorem dX11_heap_46 : decode cX11_heap 46 = .ok (.aload_n 2, 1) := by decide +kernel
theorem dX11_heap_47 : decode cX11_heap 47 = .ok (.putfield 124, 3) := by decide +kernel
theorem dX11_heap_50 : decode cX11_heap 50 = .ok (.aload_n 0, 1) := by decide +kernel
theorem dX11_heap_51 : decode cX11_heap 51 = .ok (.getfield 49, 3) := by decide +kernel
theorem dX11_heap_54 : decode cX11_heap 54 = .ok (.aload_n 0, 1) := by decide +kernel
theorem dX11_heap_55 : decode cX11_heap 55 = .ok (.getfield 76, 3) := by decide +kernel
theorem dX11_heap_58 : decode cX11_heap 58 = .ok (.invokevirtual 127, 3) := by decide +kernel
theorem dX11_heap_61 : decode cX11_heap 61 = .ok (.aload_n 0, 1) := by decide +kernel
theorem dX11_heap_62 : decode cX11_heap 62 = .ok (.iconst 0, 1) := by decide +kernel
theorem dX11_heap_63 : decode cX11_heap 63 = .ok (.putfield 131, 3) := by decide +kernel
theorem dX11_heap_66 : decode cX11_heap 66 = .ok (.aload_n 0, 1) := by decide +kernel
theorem dX11_heap_67 : decode cX11_heap 67 = .ok (.iconst 0, 1) := by decide +kernel
theorem dX11_heap_68 : decode cX11_heap 68 = .ok (.putfield 134, 3) := by decide +kernel
theorem dX11_heap_71 : decode cX11_heap 71 = .ok (.aload_n 0, 1) := by decide +kernel
theorem dX11_heap_72 : decode cX11_heap 72 = .ok (.getfield 94, 3) := by decide +kernel
theorem dX11_heap_75 : decode cX11_heap 75 = .ok (.getfield 137, 3) := by decide +kernel
theorem dX11_heap_78 : decode cX11_heap 78 = .ok (.ireturn, 1) := by decide +kernel
theorem dX11_end_0 : decode cX11_end 0 = .ok (.iload_n 1, 1) := by decide +kernel
theorem dX11_end_1 : decode cX11_end 1 = .ok (.ifCond .lt 14, 3) := by decide +kernel
theorem dX11_end_4 : decode cX11_end 4 = .ok (.iload_n 1, 1) := by decide +kernel
theorem dX11_end_5 : decode cX11_end 5 = .ok (.aload_n 0, 1) := by decide +kernel
theorem dX11_end_6 : decode cX11_end 6 = .ok (.getfield 12, 3) := by decide +kernel
theorem dX11_end_9 : decode cX11_end 9 = .ok (.getfield 105, 3) := by decide +kernel
theorem dX11_end_12 : decode cX11_end 12 = .ok (.if_icmp .le 9, 3) := by decide +kernel
theorem dX11_end_15 : decode cX11_end 15 = .ok (.aload_n 0, 1) := by decide +kernel
theorem dX11_end_16 : decode cX11_end 16 = .ok (.iconst 0, 1) := by decide +kernel
theorem dX11_end_17 : decode cX11_end 17 = .ok (.invokevirtual 116, 3) := by decide +kernel
theorem dX11_end_20 : decode cX11_end 20 = .ok (.ireturn, 1) := by decide +kernel
theorem dX11_end_21 : decode cX11_end 21 = .ok (.aload_n 0, 1) := by decide +kernel
theorem dX11_end_22 : decode cX11_end 22 = .ok (.getfield 12, 3) := by decide +kernel
theorem dX11_end_25 : decode cX11_end 25 = .ok (.iload_n 1, 1) := by decide +kernel
theorem dX11_end_26 : decode cX11_end 26 = .ok (.putfield 105, 3) := by decide +kernel
theorem dX11_end_29 : decode cX11_end 29 = .ok (.iconst 1, 1) := by decide +kernel
theorem dX11_end_30 : decode cX11_end 30 = .ok (.ireturn, 1) := by decide +kernel
theorem dX12_laysSheets_0 : decode cX12_laysSheets 0 = .ok (.iconst 0, 1) := by decide +kernel
theorem dX12_laysSheets_1 : decode cX12_laysSheets 1 = .ok (.istore_n 2, 1) := by decide +kernel
theorem dX12_laysSheets_2 : decode cX12_laysSheets 2 = .ok (.iload_n 2, 1) := by decide +kernel
theorem dX12_laysSheets_3 : decode cX12_laysSheets 3 = .ok (.bipush 8, 2) := by decide +kernel
theorem dX12_laysSheets_5 : decode cX12_laysSheets 5 = .ok (.if_icmp .ge 16, 3) := by decide +kernel
theorem dX12_laysSheets_8 : decode cX12_laysSheets 8 = .ok (.aload_n 0, 1) := by decide +kernel
theorem dX12_laysSheets_9 : decode cX12_laysSheets 9 = .ok (.getfield 148, 3) := by decide +kernel
theorem dX12_laysSheets_12 : decode cX12_laysSheets 12 = .ok (.iload_n 2, 1) := by decide +kernel
theorem dX12_laysSheets_13 : decode cX12_laysSheets 13 = .ok (.iconst 0, 1) := by decide +kernel
theorem dX12_laysSheets_14 : decode cX12_laysSheets 14 = .ok (.iastore, 1) := by decide +kernel
theorem dX12_laysSheets_15 : decode cX12_laysSheets 15 = .ok (.iinc 2 1, 3) := by decide +kernel
theorem dX12_laysSheets_18 : decode cX12_laysSheets 18 = .ok (.goto (-16), 3) := by decide +kernel
theorem dX12_laysSheets_21 : decode cX12_laysSheets 21 = .ok (.iconst 0, 1) := by decide +kernel
theorem dX12_laysSheets_22 : decode cX12_laysSheets 22 = .ok (.istore_n 2, 1) := by decide +kernel
theorem dX12_laysSheets_23 : decode cX12_laysSheets 23 = .ok (.iload_n 2, 1) := by decide +kernel
theorem dX12_laysSheets_24 : decode cX12_laysSheets 24 = .ok (.ifCond .lt 58, 3) := by decide +kernel
theorem dX12_laysSheets_27 : decode cX12_laysSheets 27 = .ok (.iload_n 2, 1) := by decide +kernel
theorem dX12_laysSheets_28 : decode cX12_laysSheets 28 = .ok (.aload_n 0, 1) := by decide +kernel
theorem dX12_laysSheets_29 : decode cX12_laysSheets 29 = .ok (.invokevirtual 419, 3) := by decide +kernel
theorem dX12_laysSheets_32 : decode cX12_laysSheets 32 = .ok (.if_icmp .ge 50, 3) := by decide +kernel
theorem dX12_laysSheets_35 : decode cX12_laysSheets 35 = .ok (.aload_n 0, 1) := by decide +kernel
theorem dX12_laysSheets_36 : decode cX12_laysSheets 36 = .ok (.getfield 148, 3) := by decide +kernel
theorem dX12_laysSheets_39 : decode cX12_laysSheets 39 = .ok (.iload_n 2, 1) := by decide +kernel
theorem dX12_laysSheets_40 : decode cX12_laysSheets 40 = .ok (.dup2, 1) := by decide +kernel
theorem dX12_laysSheets_41 : decode cX12_laysSheets 41 = .ok (.iaload, 1) := by decide +kernel
theorem dX12_laysSheets_42 : decode cX12_laysSheets 42 = .ok (.iconst 1, 1) := by decide +kernel
theorem dX12_laysSheets_43 : decode cX12_laysSheets 43 = .ok (.iadd, 1) := by decide +kernel
theorem dX12_laysSheets_44 : decode cX12_laysSheets 44 = .ok (.iastore, 1) := by decide +kernel
theorem dX12_laysSheets_45 : decode cX12_laysSheets 45 = .ok (.aload_n 0, 1) := by decide +kernel
theorem dX12_laysSheets_46 : decode cX12_laysSheets 46 = .ok (.getfield 148, 3) := by decide +kernel
theorem dX12_laysSheets_49 : decode cX12_laysSheets 49 = .ok (.iload_n 2, 1) := by decide +kernel
theorem dX12_laysSheets_50 : decode cX12_laysSheets 50 = .ok (.iaload, 1) := by decide +kernel
theorem dX12_laysSheets_51 : decode cX12_laysSheets 51 = .ok (.iload_n 1, 1) := by decide +kernel
theorem dX12_laysSheets_52 : decode cX12_laysSheets 52 = .ok (.if_icmp .le 16, 3) := by decide +kernel
theorem dX12_laysSheets_55 : decode cX12_laysSheets 55 = .ok (.aload_n 0, 1) := by decide +kernel
theorem dX12_laysSheets_56 : decode cX12_laysSheets 56 = .ok (.getfield 148, 3) := by decide +kernel
theorem dX12_laysSheets_59 : decode cX12_laysSheets 59 = .ok (.iload_n 2, 1) := by decide +kernel
theorem dX12_laysSheets_60 : decode cX12_laysSheets 60 = .ok (.iconst 0, 1) := by decide +kernel
theorem dX12_laysSheets_61 : decode cX12_laysSheets 61 = .ok (.iastore, 1) := by decide +kernel
theorem dX12_laysSheets_62 : decode cX12_laysSheets 62 = .ok (.iinc 2 (-1), 3) := by decide +kernel
theorem dX12_laysSheets_65 : decode cX12_laysSheets 65 = .ok (.goto (-42), 3) := by decide +kernel
theorem dX12_laysSheets_68 : decode cX12_laysSheets 68 = .ok (.aload_n 0, 1) := by decide +kernel
theorem dX12_laysSheets_69 : decode cX12_laysSheets 69 = .ok (.iload_n 2, 1) := by decide +kernel
theorem dX12_laysSheets_70 : decode cX12_laysSheets 70 = .ok (.invokevirtual 539, 3) := by decide +kernel
theorem dX12_laysSheets_73 : decode cX12_laysSheets 73 = .ok (.ifCond .eq (-50), 3) := by decide +kernel
theorem dX12_laysSheets_76 : decode cX12_laysSheets 76 = .ok (.iinc 2 1, 3) := by decide +kernel
theorem dX12_laysSheets_79 : decode cX12_laysSheets 79 = .ok (.goto (-56), 3) := by decide +kernel
theorem dX12_laysSheets_82 : decode cX12_laysSheets 82 = .ok (.iload_n 2, 1) := by decide +kernel
theorem dX12_laysSheets_83 : decode cX12_laysSheets 83 = .ok (.ifCond .lt 7, 3) := by decide +kernel
theorem dX12_laysSheets_86 : decode cX12_laysSheets 86 = .ok (.iconst 1, 1) := by decide +kernel
theorem dX12_laysSheets_87 : decode cX12_laysSheets 87 = .ok (.goto 4, 3) := by decide +kernel
theorem dX12_laysSheets_90 : decode cX12_laysSheets 90 = .ok (.iconst 0, 1) := by decide +kernel
theorem dX12_laysSheets_91 : decode cX12_laysSheets 91 = .ok (.ireturn, 1) := by decide +kernel
theorem dX12_qPartTold_0 : decode cX12_qPartTold 0 = .ok (.iconst 1, 1) := by decide +kernel
theorem dX12_qPartTold_1 : decode cX12_qPartTold 1 = .ok (.istore_n 1, 1) := by decide +kernel
theorem dX12_qPartTold_2 : decode cX12_qPartTold 2 = .ok (.iload_n 1, 1) := by decide +kernel
theorem dX12_qPartTold_3 : decode cX12_qPartTold 3 = .ok (.ifCond .eq 183, 3) := by decide +kernel
theorem dX12_qPartTold_6 : decode cX12_qPartTold 6 = .ok (.aload_n 0, 1) := by decide +kernel
theorem dX12_qPartTold_7 : decode cX12_qPartTold 7 = .ok (.getfield 263, 3) := by decide +kernel
theorem dX12_qPartTold_10 : decode cX12_qPartTold 10 = .ok (.ifCond .ne 176, 3) := by decide +kernel
theorem dX12_qPartTold_13 : decode cX12_qPartTold 13 = .ok (.aload_n 0, 1) := by decide +kernel
theorem dX12_qPartTold_14 : decode cX12_qPartTold 14 = .ok (.invokevirtual 275, 3) := by decide +kernel
theorem dX12_qPartTold_17 : decode cX12_qPartTold 17 = .ok (.istore_n 2, 1) := by decide +kernel
theorem dX12_qPartTold_18 : decode cX12_qPartTold 18 = .ok (.aload_n 0, 1) := by decide +kernel
theorem dX12_qPartTold_19 : decode cX12_qPartTold 19 = .ok (.bipush 10, 2) := by decide +kernel
theorem dX12_qPartTold_21 : decode cX12_qPartTold 21 = .ok (.bipush 11, 2) := by decide +kernel
theorem dX12_qPartTold_23 : decode cX12_qPartTold 23 = .ok (.invokevirtual 609, 3) := by decide +kernel
theorem dX12_qPartTold_26 : decode cX12_qPartTold 26 = .ok (.istore_n 3, 1) := by decide +kernel
theorem dX12_qPartTold_27 : decode cX12_qPartTold 27 = .ok (.iload_n 2, 1) := by decide +kernel
theorem dX12_qPartTold_28 : decode cX12_qPartTold 28 = .ok (.bipush 40, 2) := by decide +kernel
theorem dX12_qPartTold_30 : decode cX12_qPartTold 30 = .ok (.if_icmp .ne 26, 3) := by decide +kernel
theorem dX12_qPartTold_33 : decode cX12_qPartTold 33 = .ok (.aload_n 0, 1) := by decide +kernel
theorem dX12_qPartTold_34 : decode cX12_qPartTold 34 = .ok (.bipush 20, 2) := by decide +kernel
theorem dX12_qPartTold_36 : decode cX12_qPartTold 36 = .ok (.aload_n 0, 1) := by decide +kernel
theorem dX12_qPartTold_37 : decode cX12_qPartTold 37 = .ok (.getfield 269, 3) := by decide +kernel
theorem dX12_qPartTold_40 : decode cX12_qPartTold 40 = .ok (.invokevirtual 612, 3) := by decide +kernel
theorem dX12_qPartTold_43 : decode cX12_qPartTold 43 = .ok (.aload_n 0, 1) := by decide +kernel
theorem dX12_qPartTold_44 : decode cX12_qPartTold 44 = .ok (.dup, 1) := by decide +kernel
theorem dX12_qPartTold_45 : decode cX12_qPartTold 45 = .ok (.getfield 269, 3) := by decide +kernel
theorem dX12_qPartTold_48 : decode cX12_qPartTold 48 = .ok (.iconst 1, 1) := by decide +kernel
theorem dX12_qPartTold_49 : decode cX12_qPartTold 49 = .ok (.iadd, 1) := by decide +kernel
theorem dX12_qPartTold_50 : decode cX12_qPartTold 50 = .ok (.putfield 269, 3) := by decide +kernel
theorem dX12_qPartTold_53 : decode cX12_qPartTold 53 = .ok (.goto 130, 3) := by decide +kernel
theorem dX12_qPartTold_56 : decode cX12_qPartTold 56 = .ok (.aload_n 0, 1) := by decide +kernel
theorem dX12_qPartTold_57 : decode cX12_qPartTold 57 = .ok (.aload_n 0, 1) := by decide +kernel
theorem dX12_qPartTold_58 : decode cX12_qPartTold 58 = .ok (.getfield 209, 3) := by decide +kernel
theorem dX12_qPartTold_61 : decode cX12_qPartTold 61 = .ok (.invokevirtual 286, 3) := by decide +kernel
theorem dX12_qPartTold_64 : decode cX12_qPartTold 64 = .ok (.ifCond .ne 14, 3) := by decide +kernel
theorem dX12_qPartTold_67 : decode cX12_qPartTold 67 = .ok (.aload_n 0, 1) := by decide +kernel
theorem dX12_qPartTold_68 : decode cX12_qPartTold 68 = .ok (.aload_n 0, 1) := by decide +kernel
theorem dX12_qPartTold_69 : decode cX12_qPartTold 69 = .ok (.getfield 212, 3) := by decide +kernel
theorem dX12_qPartTold_72 : decode cX12_qPartTold 72 = .ok (.invokevirtual 286, 3) := by decide +kernel
theorem dX12_qPartTold_75 : decode cX12_qPartTold 75 = .ok (.ifCond .eq 78, 3) := by decide +kernel
theorem dX12_qPartTold_78 : decode cX12_qPartTold 78 = .ok (.aload_n 0, 1) := by decide +kernel
theorem dX12_qPartTold_79 : decode cX12_qPartTold 79 = .ok (.aload_n 0, 1) := by decide +kernel
theorem dX12_qPartTold_80 : decode cX12_qPartTold 80 = .ok (.getfield 209, 3) := by decide +kernel
theorem dX12_qPartTold_83 : decode cX12_qPartTold 83 = .ok (.invokevirtual 290, 3) := by decide +kernel
theorem dX12_qPartTold_86 : decode cX12_qPartTold 86 = .ok (.istore 4, 2) := by decide +kernel
theorem dX12_qPartTold_88 : decode cX12_qPartTold 88 = .ok (.iload 4, 2) := by decide +kernel
theorem dX12_qPartTold_90 : decode cX12_qPartTold 90 = .ok (.ifCond .ne 11, 3) := by decide +kernel
theorem dX12_qPartTold_93 : decode cX12_qPartTold 93 = .ok (.aload_n 0, 1) := by decide +kernel
theorem dX12_qPartTold_94 : decode cX12_qPartTold 94 = .ok (.aload_n 0, 1) := by decide +kernel
theorem dX12_qPartTold_95 : decode cX12_qPartTold 95 = .ok (.getfield 212, 3) := by decide +kernel
theorem dX12_qPartTold_98 : decode cX12_qPartTold 98 = .ok (.invokevirtual 337, 3) := by decide +kernel
theorem dX12_qPartTold_101 : decode cX12_qPartTold 101 = .ok (.aload_n 0, 1) := by decide +kernel
theorem dX12_qPartTold_102 : decode cX12_qPartTold 102 = .ok (.invokevirtual 275, 3) := by decide +kernel
theorem dX12_qPartTold_105 : decode cX12_qPartTold 105 = .ok (.bipush 40, 2) := by decide +kernel
theorem dX12_qPartTold_107 : decode cX12_qPartTold 107 = .ok (.if_icmp .ne 10, 3) := by decide +kernel
theorem dX12_qPartTold_110 : decode cX12_qPartTold 110 = .ok (.aload_n 0, 1) := by decide +kernel
theorem dX12_qPartTold_111 : decode cX12_qPartTold 111 = .ok (.getfield 269, 3) := by decide +kernel
theorem dX12_qPartTold_114 : decode cX12_qPartTold 114 = .ok (.goto 4, 3) := by decide +kernel
theorem dX12_qPartTold_117 : decode cX12_qPartTold 117 = .ok (.iconst (-1), 1) := by decide +kernel
theorem dX12_qPartTold_118 : decode cX12_qPartTold 118 = .ok (.istore 5, 2) := by decide +kernel
theorem dX12_qPartTold_120 : decode cX12_qPartTold 120 = .ok (.iload 5, 2) := by decide +kernel
theorem dX12_qPartTold_122 : decode cX12_qPartTold 122 = .ok (.iconst (-1), 1) := by decide +kernel
theorem dX12_qPartTold_123 : decode cX12_qPartTold 123 = .ok (.if_icmp .eq 21, 3) := by decide +kernel
theorem dX12_qPartTold_126 : decode cX12_qPartTold 126 = .ok (.aload_n 0, 1) := by decide +kernel
theorem dX12_qPartTold_127 : decode cX12_qPartTold 127 = .ok (.iload 4, 2) := by decide +kernel
theorem dX12_qPartTold_129 : decode cX12_qPartTold 129 = .ok (.ifCond .eq 8, 3) := by decide +kernel
theorem dX12_qPartTold_132 : decode cX12_qPartTold 132 = .ok (.bipush 21, 2) := by decide +kernel
theorem dX12_qPartTold_134 : decode cX12_qPartTold 134 = .ok (.goto 5, 3) := by decide +kernel
theorem dX12_qPartTold_137 : decode cX12_qPartTold 137 = .ok (.bipush 22, 2) := by decide +kernel
theorem dX12_qPartTold_139 : decode cX12_qPartTold 139 = .ok (.iload 5, 2) := by decide +kernel
theorem dX12_qPartTold_141 : decode cX12_qPartTold 141 = .ok (.invokevirtual 612, 3) := by decide +kernel
theorem dX12_qPartTold_144 : decode cX12_qPartTold 144 = .ok (.aload_n 0, 1) := by decide +kernel
theorem dX12_qPartTold_145 : decode cX12_qPartTold 145 = .ok (.bipush 40, 2) := by decide +kernel
theorem dX12_qPartTold_147 : decode cX12_qPartTold 147 = .ok (.invokevirtual 395, 3) := by decide +kernel
theorem dX12_qPartTold_150 : decode cX12_qPartTold 150 = .ok (.goto 33, 3) := by decide +kernel
theorem dX12_qPartTold_153 : decode cX12_qPartTold 153 = .ok (.iload_n 3, 1) := by decide +kernel
theorem dX12_qPartTold_154 : decode cX12_qPartTold 154 = .ok (.iconst (-1), 1) := by decide +kernel
theorem dX12_qPartTold_155 : decode cX12_qPartTold 155 = .ok (.if_icmp .eq 26, 3) := by decide +kernel
theorem dX12_qPartTold_158 : decode cX12_qPartTold 158 = .ok (.aload_n 0, 1) := by decide +kernel
theorem dX12_qPartTold_159 : decode cX12_qPartTold 159 = .ok (.bipush 60, 2) := by decide +kernel
theorem dX12_qPartTold_161 : decode cX12_qPartTold 161 = .ok (.iload_n 3, 1) := by decide +kernel
theorem dX12_qPartTold_162 : decode cX12_qPartTold 162 = .ok (.iadd, 1) := by decide +kernel
theorem dX12_qPartTold_163 : decode cX12_qPartTold 163 = .ok (.bipush 10, 2) := by decide +kernel
theorem dX12_qPartTold_165 : decode cX12_qPartTold 165 = .ok (.isub, 1) := by decide +kernel
theorem dX12_qPartTold_166 : decode cX12_qPartTold 166 = .ok (.aload_n 0, 1) := by decide +kernel
theorem dX12_qPartTold_167 : decode cX12_qPartTold 167 = .ok (.getfield 269, 3) := by decide +kernel
theorem dX12_qPartTold_170 : decode cX12_qPartTold 170 = .ok (.invokevirtual 612, 3) := by decide +kernel
theorem dX12_qPartTold_173 : decode cX12_qPartTold 173 = .ok (.aload_n 0, 1) := by decide +kernel
theorem dX12_qPartTold_174 : decode cX12_qPartTold 174 = .ok (.iload_n 3, 1) := by decide +kernel
theorem dX12_qPartTold_175 : decode cX12_qPartTold 175 = .ok (.invokevirtual 615, 3) := by decide +kernel
theorem dX12_qPartTold_178 : decode cX12_qPartTold 178 = .ok (.goto 5, 3) := by decide +kernel
theorem dX12_qPartTold_181 : decode cX12_qPartTold 181 = .ok (.iconst 0, 1) := by decide +kernel
theorem dX12_qPartTold_182 : decode cX12_qPartTold 182 = .ok (.istore_n 1, 1) := by decide +kernel
theorem dX12_qPartTold_183 : decode cX12_qPartTold 183 = .ok (.goto (-181), 3) := by decide +kernel
theorem dX12_qPartTold_186 : decode cX12_qPartTold 186 = .ok (.aload_n 0, 1) := by decide +kernel
theorem dX12_qPartTold_187 : decode cX12_qPartTold 187 = .ok (.getfield 263, 3) := by decide +kernel
theorem dX12_qPartTold_190 : decode cX12_qPartTold 190 = .ok (.ifCond .eq 4, 3) := by decide +kernel
theorem dX12_qPartTold_193 : decode cX12_qPartTold 193 = .ok (.return_, 1) := by decide +kernel
theorem dX12_qPartTold_194 : decode cX12_qPartTold 194 = .ok (.aload_n 0, 1) := by decide +kernel
theorem dX12_qPartTold_195 : decode cX12_qPartTold 195 = .ok (.iconst 0, 1) := by decide +kernel
theorem dX12_qPartTold_196 : decode cX12_qPartTold 196 = .ok (.bipush 10, 2) := by decide +kernel
theorem dX12_qPartTold_198 : decode cX12_qPartTold 198 = .ok (.invokevirtual 609, 3) := by decide +kernel
theorem dX12_qPartTold_201 : decode cX12_qPartTold 201 = .ok (.istore_n 2, 1) := by decide +kernel
theorem dX12_qPartTold_202 : decode cX12_qPartTold 202 = .ok (.iload_n 2, 1) := by decide +kernel
theorem dX12_qPartTold_203 : decode cX12_qPartTold 203 = .ok (.iconst (-1), 1) := by decide +kernel
theorem dX12_qPartTold_204 : decode cX12_qPartTold 204 = .ok (.if_icmp .eq 8, 3) := by decide +kernel
theorem dX12_qPartTold_207 : decode cX12_qPartTold 207 = .ok (.aload_n 0, 1) := by decide +kernel
theorem dX12_qPartTold_208 : decode cX12_qPartTold 208 = .ok (.iload_n 2, 1) := by decide +kernel
theorem dX12_qPartTold_209 : decode cX12_qPartTold 209 = .ok (.invokevirtual 615, 3) := by decide +kernel
theorem dX12_qPartTold_212 : decode cX12_qPartTold 212 = .ok (.aload_n 0, 1) := by decide +kernel
theorem dX12_qPartTold_213 : decode cX12_qPartTold 213 = .ok (.iload_n 2, 1) := by decide +kernel
theorem dX12_qPartTold_214 : decode cX12_qPartTold 214 = .ok (.iconst (-1), 1) := by decide +kernel
theorem dX12_qPartTold_215 : decode cX12_qPartTold 215 = .ok (.if_icmp .eq 10, 3) := by decide +kernel
theorem dX12_qPartTold_218 : decode cX12_qPartTold 218 = .ok (.bipush 40, 2) := by decide +kernel
theorem dX12_qPartTold_220 : decode cX12_qPartTold 220 = .ok (.iload_n 2, 1) := by decide +kernel
theorem dX12_qPartTold_221 : decode cX12_qPartTold 221 = .ok (.iadd, 1) := by decide +kernel
theorem dX12_qPartTold_222 : decode cX12_qPartTold 222 = .ok (.goto 15, 3) := by decide +kernel
theorem dX12_qPartTold_225 : decode cX12_qPartTold 225 = .ok (.sipush 1000, 3) := by decide +kernel
theorem dX12_qPartTold_228 : decode cX12_qPartTold 228 = .ok (.aload_n 0, 1) := by decide +kernel
theorem dX12_qPartTold_229 : decode cX12_qPartTold 229 = .ok (.iconst 0, 1) := by decide +kernel
theorem dX12_qPartTold_230 : decode cX12_qPartTold 230 = .ok (.sipush 9999, 3) := by decide +kernel
theorem dX12_qPartTold_233 : decode cX12_qPartTold 233 = .ok (.invokevirtual 341, 3) := by decide +kernel
theorem dX12_qPartTold_236 : decode cX12_qPartTold 236 = .ok (.iadd, 1) := by decide +kernel
theorem dX12_qPartTold_237 : decode cX12_qPartTold 237 = .ok (.invokevirtual 594, 3) := by decide +kernel
theorem dX12_qPartTold_240 : decode cX12_qPartTold 240 = .ok (.aload_n 0, 1) := by decide +kernel
theorem dX12_qPartTold_241 : decode cX12_qPartTold 241 = .ok (.invokevirtual 618, 3) := by decide +kernel
theorem dX12_qPartTold_244 : decode cX12_qPartTold 244 = .ok (.return_, 1) := by decide +kernel
theorem dX12_end_0 : decode cX12_end 0 = .ok (.iload_n 1, 1) := by decide +kernel
theorem dX12_end_1 : decode cX12_end 1 = .ok (.ifCond .lt 11, 3) := by decide +kernel
theorem dX12_end_4 : decode cX12_end 4 = .ok (.iload_n 1, 1) := by decide +kernel
theorem dX12_end_5 : decode cX12_end 5 = .ok (.aload_n 0, 1) := by decide +kernel
theorem dX12_end_6 : decode cX12_end 6 = .ok (.getfield 260, 3) := by decide +kernel
theorem dX12_end_9 : decode cX12_end 9 = .ok (.if_icmp .le 15, 3) := by decide +kernel
theorem dX12_end_12 : decode cX12_end 12 = .ok (.aload_n 0, 1) := by decide +kernel
theorem dX12_end_13 : decode cX12_end 13 = .ok (.getfield 17, 3) := by decide +kernel
theorem dX12_end_16 : decode cX12_end 16 = .ok (.iconst 0, 1) := by decide +kernel
theorem dX12_end_17 : decode cX12_end 17 = .ok (.dup2, 1) := by decide +kernel
theorem dX12_end_18 : decode cX12_end 18 = .ok (.iaload, 1) := by decide +kernel
theorem dX12_end_19 : decode cX12_end 19 = .ok (.iconst 1, 1) := by decide +kernel
theorem dX12_end_20 : decode cX12_end 20 = .ok (.iadd, 1) := by decide +kernel
theorem dX12_end_21 : decode cX12_end 21 = .ok (.iastore, 1) := by decide +kernel
theorem dX12_end_22 : decode cX12_end 22 = .ok (.iconst 0, 1) := by decide +kernel
theorem dX12_end_23 : decode cX12_end 23 = .ok (.ireturn, 1) := by decide +kernel
theorem dX12_end_24 : decode cX12_end 24 = .ok (.aload_n 0, 1) := by decide +kernel
theorem dX12_end_25 : decode cX12_end 25 = .ok (.iload_n 1, 1) := by decide +kernel
theorem dX12_end_26 : decode cX12_end 26 = .ok (.putfield 260, 3) := by decide +kernel
theorem dX12_end_29 : decode cX12_end 29 = .ok (.iconst 1, 1) := by decide +kernel
theorem dX12_end_30 : decode cX12_end 30 = .ok (.ireturn, 1) := by decide +kernel
theorem dX12_qOpens_0 : decode cX12_qOpens 0 = .ok (.aload_n 0, 1) := by decide +kernel
theorem dX12_qOpens_1 : decode cX12_qOpens 1 = .ok (.getfield 263, 3) := by decide +kernel
theorem dX12_qOpens_4 : decode cX12_qOpens 4 = .ok (.ifCond .eq 4, 3) := by decide +kernel
theorem dX12_qOpens_7 : decode cX12_qOpens 7 = .ok (.return_, 1) := by decide +kernel
theorem dX12_qOpens_8 : decode cX12_qOpens 8 = .ok (.aload_n 0, 1) := by decide +kernel
theorem dX12_qOpens_9 : decode cX12_qOpens 9 = .ok (.getfield 358, 3) := by decide +kernel
theorem dX12_qOpens_12 : decode cX12_qOpens 12 = .ok (.bipush 6, 2) := by decide +kernel
theorem dX12_qOpens_14 : decode cX12_qOpens 14 = .ok (.if_icmp .ne 10, 3) := by decide +kernel
theorem dX12_qOpens_17 : decode cX12_qOpens 17 = .ok (.aload_n 0, 1) := by decide +kernel
theorem dX12_qOpens_18 : decode cX12_qOpens 18 = .ok (.iconst 4, 1) := by decide +kernel
theorem dX12_qOpens_19 : decode cX12_qOpens 19 = .ok (.iload_n 2, 1) := by decide +kernel
theorem dX12_qOpens_20 : decode cX12_qOpens 20 = .ok (.invokevirtual 293, 3) := by decide +kernel
theorem dX12_qOpens_23 : decode cX12_qOpens 23 = .ok (.return_, 1) := by decide +kernel
theorem dX12_qOpens_24 : decode cX12_qOpens 24 = .ok (.aload_n 0, 1) := by decide +kernel
theorem dX12_qOpens_25 : decode cX12_qOpens 25 = .ok (.dup, 1) := by decide +kernel
theorem dX12_qOpens_26 : decode cX12_qOpens 26 = .ok (.getfield 358, 3) := by decide +kernel
theorem dX12_qOpens_29 : decode cX12_qOpens 29 = .ok (.iconst 1, 1) := by decide +kernel
theorem dX12_qOpens_30 : decode cX12_qOpens 30 = .ok (.iadd, 1) := by decide +kernel
theorem dX12_qOpens_31 : decode cX12_qOpens 31 = .ok (.putfield 358, 3) := by decide +kernel
theorem dX12_qOpens_34 : decode cX12_qOpens 34 = .ok (.aload_n 0, 1) := by decide +kernel
theorem dX12_qOpens_35 : decode cX12_qOpens 35 = .ok (.getfield 251, 3) := by decide +kernel
theorem dX12_qOpens_38 : decode cX12_qOpens 38 = .ok (.aload_n 0, 1) := by decide +kernel
theorem dX12_qOpens_39 : decode cX12_qOpens 39 = .ok (.getfield 355, 3) := by decide +kernel
theorem dX12_qOpens_42 : decode cX12_qOpens 42 = .ok (.iload_n 1, 1) := by decide +kernel
theorem dX12_qOpens_43 : decode cX12_qOpens 43 = .ok (.iastore, 1) := by decide +kernel
theorem dX12_qOpens_44 : decode cX12_qOpens 44 = .ok (.aload_n 0, 1) := by decide +kernel
theorem dX12_qOpens_45 : decode cX12_qOpens 45 = .ok (.dup, 1) := by decide +kernel
theorem dX12_qOpens_46 : decode cX12_qOpens 46 = .ok (.getfield 355, 3) := by decide +kernel
theorem dX12_qOpens_49 : decode cX12_qOpens 49 = .ok (.iconst 1, 1) := by decide +kernel
theorem dX12_qOpens_50 : decode cX12_qOpens 50 = .ok (.iadd, 1) := by decide +kernel
theorem dX12_qOpens_51 : decode cX12_qOpens 51 = .ok (.putfield 355, 3) := by decide +kernel
theorem dX12_qOpens_54 : decode cX12_qOpens 54 = .ok (.return_, 1) := by decide +kernel
theorem dX12_qHasSquare_0 : decode cX12_qHasSquare 0 = .ok (.iconst 0, 1) := by decide +kernel
theorem dX12_qHasSquare_1 : decode cX12_qHasSquare 1 = .ok (.istore_n 1, 1) := by decide +kernel
theorem dX12_qHasSquare_2 : decode cX12_qHasSquare 2 = .ok (.iload_n 1, 1) := by decide +kernel
theorem dX12_qHasSquare_3 : decode cX12_qHasSquare 3 = .ok (.aload_n 0, 1) := by decide +kernel
theorem dX12_qHasSquare_4 : decode cX12_qHasSquare 4 = .ok (.getfield 355, 3) := by decide +kernel
theorem dX12_qHasSquare_7 : decode cX12_qHasSquare 7 = .ok (.if_icmp .ge 22, 3) := by decide +kernel
theorem dX12_qHasSquare_10 : decode cX12_qHasSquare 10 = .ok (.aload_n 0, 1) := by decide +kernel
theorem dX12_qHasSquare_11 : decode cX12_qHasSquare 11 = .ok (.getfield 251, 3) := by decide +kernel
theorem dX12_qHasSquare_14 : decode cX12_qHasSquare 14 = .ok (.iload_n 1, 1) := by decide +kernel
theorem dX12_qHasSquare_15 : decode cX12_qHasSquare 15 = .ok (.iaload, 1) := by decide +kernel
theorem dX12_qHasSquare_16 : decode cX12_qHasSquare 16 = .ok (.bipush 25, 2) := by decide +kernel
theorem dX12_qHasSquare_18 : decode cX12_qHasSquare 18 = .ok (.if_icmp .ne 5, 3) := by decide +kernel
theorem dX12_qHasSquare_21 : decode cX12_qHasSquare 21 = .ok (.iconst 1, 1) := by decide +kernel
theorem dX12_qHasSquare_22 : decode cX12_qHasSquare 22 = .ok (.ireturn, 1) := by decide +kernel
theorem dX12_qHasSquare_23 : decode cX12_qHasSquare 23 = .ok (.iinc 1 1, 3) := by decide +kernel
theorem dX12_qHasSquare_26 : decode cX12_qHasSquare 26 = .ok (.goto (-24), 3) := by decide +kernel
theorem dX12_qHasSquare_29 : decode cX12_qHasSquare 29 = .ok (.iconst 0, 1) := by decide +kernel
theorem dX12_qHasSquare_30 : decode cX12_qHasSquare 30 = .ok (.ireturn, 1) := by decide +kernel
theorem dX12_watched_0 : decode cX12_watched 0 = .ok (.iload_n 1, 1) := by decide +kernel
theorem dX12_watched_1 : decode cX12_watched 1 = .ok (.i2l, 1) := by decide +kernel
theorem dX12_watched_2 : decode cX12_watched 2 = .ok (.lconst 0, 1) := by decide +kernel
theorem dX12_watched_3 : decode cX12_watched 3 = .ok (.lconst 1, 1) := by decide +kernel
theorem dX12_watched_4 : decode cX12_watched 4 = .ok (.invokestatic 303, 3) := by decide +kernel
theorem dX12_watched_7 : decode cX12_watched 7 = .ok (.ifCond .ne 5, 3) := by decide +kernel
theorem dX12_watched_10 : decode cX12_watched 10 = .ok (.iconst (-1), 1) := by decide +kernel
theorem dX12_watched_11 : decode cX12_watched 11 = .ok (.ireturn, 1) := by decide +kernel
theorem dX12_watched_12 : decode cX12_watched 12 = .ok (.aload_n 0, 1) := by decide +kernel
theorem dX12_watched_13 : decode cX12_watched 13 = .ok (.invokevirtual 566, 3) := by decide +kernel
theorem dX12_watched_16 : decode cX12_watched 16 = .ok (.istore_n 2, 1) := by decide +kernel
theorem dX12_watched_17 : decode cX12_watched 17 = .ok (.iconst (-1), 1) := by decide +kernel
theorem dX12_watched_18 : decode cX12_watched 18 = .ok (.istore_n 3, 1) := by decide +kernel
theorem dX12_watched_19 : decode cX12_watched 19 = .ok (.iconst 0, 1) := by decide +kernel
theorem dX12_watched_20 : decode cX12_watched 20 = .ok (.istore 4, 2) := by decide +kernel
theorem dX12_watched_22 : decode cX12_watched 22 = .ok (.iconst 0, 1) := by decide +kernel
theorem dX12_watched_23 : decode cX12_watched 23 = .ok (.istore 5, 2) := by decide +kernel
theorem dX12_watched_25 : decode cX12_watched 25 = .ok (.iload 5, 2) := by decide +kernel
theorem dX12_watched_27 : decode cX12_watched 27 = .ok (.aload_n 0, 1) := by decide +kernel
theorem dX12_watched_28 : decode cX12_watched 28 = .ok (.invokevirtual 419, 3) := by decide +kernel
theorem dX12_watched_31 : decode cX12_watched 31 = .ok (.if_icmp .ge 44, 3) := by decide +kernel
theorem dX12_watched_34 : decode cX12_watched 34 = .ok (.iload_n 2, 1) := by decide +kernel
theorem dX12_watched_35 : decode cX12_watched 35 = .ok (.ifCond .eq 40, 3) := by decide +kernel
theorem dX12_watched_38 : decode cX12_watched 38 = .ok (.aload_n 0, 1) := by decide +kernel
theorem dX12_watched_39 : decode cX12_watched 39 = .ok (.iload 5, 2) := by decide +kernel
theorem dX12_watched_41 : decode cX12_watched 41 = .ok (.iload_n 2, 1) := by decide +kernel
theorem dX12_watched_42 : decode cX12_watched 42 = .ok (.invokevirtual 569, 3) := by decide +kernel
theorem dX12_watched_45 : decode cX12_watched 45 = .ok (.istore 6, 2) := by decide +kernel
theorem dX12_watched_47 : decode cX12_watched 47 = .ok (.iload_n 3, 1) := by decide +kernel
theorem dX12_watched_48 : decode cX12_watched 48 = .ok (.iconst (-1), 1) := by decide +kernel
theorem dX12_watched_49 : decode cX12_watched 49 = .ok (.if_icmp .eq 13, 3) := by decide +kernel
theorem dX12_watched_52 : decode cX12_watched 52 = .ok (.iload 6, 2) := by decide +kernel
theorem dX12_watched_54 : decode cX12_watched 54 = .ok (.iload 4, 2) := by decide +kernel
theorem dX12_watched_56 : decode cX12_watched 56 = .ok (.if_icmp .lt 6, 3) := by decide +kernel
theorem dX12_watched_59 : decode cX12_watched 59 = .ok (.goto 10, 3) := by decide +kernel
theorem dX12_watched_62 : decode cX12_watched 62 = .ok (.iload 5, 2) := by decide +kernel
theorem dX12_watched_64 : decode cX12_watched 64 = .ok (.istore_n 3, 1) := by decide +kernel
theorem dX12_watched_65 : decode cX12_watched 65 = .ok (.iload 6, 2) := by decide +kernel
theorem dX12_watched_67 : decode cX12_watched 67 = .ok (.istore 4, 2) := by decide +kernel
theorem dX12_watched_69 : decode cX12_watched 69 = .ok (.iinc 5 1, 3) := by decide +kernel
theorem dX12_watched_72 : decode cX12_watched 72 = .ok (.goto (-47), 3) := by decide +kernel
theorem dX12_watched_75 : decode cX12_watched 75 = .ok (.iload_n 3, 1) := by decide +kernel
theorem dX12_watched_76 : decode cX12_watched 76 = .ok (.iconst (-1), 1) := by decide +kernel
theorem dX12_watched_77 : decode cX12_watched 77 = .ok (.if_icmp .ne 7, 3) := by decide +kernel
theorem dX12_watched_80 : decode cX12_watched 80 = .ok (.iconst (-1), 1) := by decide +kernel
theorem dX12_watched_81 : decode cX12_watched 81 = .ok (.goto 13, 3) := by decide +kernel
theorem dX12_watched_84 : decode cX12_watched 84 = .ok (.iload_n 1, 1) := by decide +kernel
theorem dX12_watched_85 : decode cX12_watched 85 = .ok (.ifCond .ne 7, 3) := by decide +kernel
theorem dX12_watched_88 : decode cX12_watched 88 = .ok (.iload_n 3, 1) := by decide +kernel
theorem dX12_watched_89 : decode cX12_watched 89 = .ok (.goto 5, 3) := by decide +kernel
theorem dX12_watched_92 : decode cX12_watched 92 = .ok (.iload 4, 2) := by decide +kernel
theorem dX12_watched_94 : decode cX12_watched 94 = .ok (.ireturn, 1) := by decide +kernel
theorem dX12_statementTold_0 : decode cX12_statementTold 0 = .ok (.aload_n 0, 1) := by decide +kernel
theorem dX12_statementTold_1 : decode cX12_statementTold 1 = .ok (.getfield 269, 3) := by decide +kernel
theorem dX12_statementTold_4 : decode cX12_statementTold 4 = .ok (.istore_n 1, 1) := by decide +kernel
theorem dX12_statementTold_5 : decode cX12_statementTold 5 = .ok (.aload_n 0, 1) := by decide +kernel
theorem dX12_statementTold_6 : decode cX12_statementTold 6 = .ok (.getfield 370, 3) := by decide +kernel
theorem dX12_statementTold_9 : decode cX12_statementTold 9 = .ok (.bipush 80, 2) := by decide +kernel
theorem dX12_statementTold_11 : decode cX12_statementTold 11 = .ok (.if_icmp .ne 10, 3) := by decide +kernel
theorem dX12_statementTold_14 : decode cX12_statementTold 14 = .ok (.aload_n 0, 1) := by decide +kernel
theorem dX12_statementTold_15 : decode cX12_statementTold 15 = .ok (.iconst 5, 1) := by decide +kernel
theorem dX12_statementTold_16 : decode cX12_statementTold 16 = .ok (.iload_n 1, 1) := by decide +kernel
theorem dX12_statementTold_17 : decode cX12_statementTold 17 = .ok (.invokevirtual 293, 3) := by decide +kernel
theorem dX12_statementTold_20 : decode cX12_statementTold 20 = .ok (.return_, 1) := by decide +kernel
theorem dX12_statementTold_21 : decode cX12_statementTold 21 = .ok (.aload_n 0, 1) := by decide +kernel
theorem dX12_statementTold_22 : decode cX12_statementTold 22 = .ok (.aload_n 0, 1) := by decide +kernel
theorem dX12_statementTold_23 : decode cX12_statementTold 23 = .ok (.getfield 20, 3) := by decide +kernel
theorem dX12_statementTold_26 : decode cX12_statementTold 26 = .ok (.invokevirtual 290, 3) := by decide +kernel
theorem dX12_statementTold_29 : decode cX12_statementTold 29 = .ok (.ifCond .eq 11, 3) := by decide +kernel
theorem dX12_statementTold_32 : decode cX12_statementTold 32 = .ok (.aload_n 0, 1) := by decide +kernel
theorem dX12_statementTold_33 : decode cX12_statementTold 33 = .ok (.iload_n 1, 1) := by decide +kernel
theorem dX12_statementTold_34 : decode cX12_statementTold 34 = .ok (.invokevirtual 373, 3) := by decide +kernel
theorem dX12_statementTold_37 : decode cX12_statementTold 37 = .ok (.goto 185, 3) := by decide +kernel
theorem dX12_statementTold_40 : decode cX12_statementTold 40 = .ok (.aload_n 0, 1) := by decide +kernel
theorem dX12_statementTold_41 : decode cX12_statementTold 41 = .ok (.aload_n 0, 1) := by decide +kernel
theorem dX12_statementTold_42 : decode cX12_statementTold 42 = .ok (.getfield 33, 3) := by decide +kernel
theorem dX12_statementTold_45 : decode cX12_statementTold 45 = .ok (.invokevirtual 290, 3) := by decide +kernel
theorem dX12_statementTold_48 : decode cX12_statementTold 48 = .ok (.ifCond .eq 11, 3) := by decide +kernel
theorem dX12_statementTold_51 : decode cX12_statementTold 51 = .ok (.aload_n 0, 1) := by decide +kernel
theorem dX12_statementTold_52 : decode cX12_statementTold 52 = .ok (.iload_n 1, 1) := by decide +kernel
theorem dX12_statementTold_53 : decode cX12_statementTold 53 = .ok (.invokevirtual 377, 3) := by decide +kernel
theorem dX12_statementTold_56 : decode cX12_statementTold 56 = .ok (.goto 166, 3) := by decide +kernel
theorem dX12_statementTold_59 : decode cX12_statementTold 59 = .ok (.aload_n 0, 1) := by decide +kernel
theorem dX12_statementTold_60 : decode cX12_statementTold 60 = .ok (.aload_n 0, 1) := by decide +kernel
theorem dX12_statementTold_61 : decode cX12_statementTold 61 = .ok (.getfield 39, 3) := by decide +kernel
theorem dX12_statementTold_64 : decode cX12_statementTold 64 = .ok (.invokevirtual 290, 3) := by decide +kernel
theorem dX12_statementTold_67 : decode cX12_statementTold 67 = .ok (.ifCond .eq 10, 3) := by decide +kernel
theorem dX12_statementTold_70 : decode cX12_statementTold 70 = .ok (.aload_n 0, 1) := by decide +kernel
theorem dX12_statementTold_71 : decode cX12_statementTold 71 = .ok (.invokevirtual 380, 3) := by decide +kernel
theorem dX12_statementTold_74 : decode cX12_statementTold 74 = .ok (.goto 148, 3) := by decide +kernel
theorem dX12_statementTold_77 : decode cX12_statementTold 77 = .ok (.aload_n 0, 1) := by decide +kernel
theorem dX12_statementTold_78 : decode cX12_statementTold 78 = .ok (.aload_n 0, 1) := by decide +kernel
theorem dX12_statementTold_79 : decode cX12_statementTold 79 = .ok (.getfield 42, 3) := by decide +kernel
theorem dX12_statementTold_82 : decode cX12_statementTold 82 = .ok (.invokevirtual 290, 3) := by decide +kernel
theorem dX12_statementTold_85 : decode cX12_statementTold 85 = .ok (.ifCond .eq 11, 3) := by decide +kernel
theorem dX12_statementTold_88 : decode cX12_statementTold 88 = .ok (.aload_n 0, 1) := by decide +kernel
theorem dX12_statementTold_89 : decode cX12_statementTold 89 = .ok (.iload_n 1, 1) := by decide +kernel
theorem dX12_statementTold_90 : decode cX12_statementTold 90 = .ok (.invokevirtual 383, 3) := by decide +kernel
theorem dX12_statementTold_93 : decode cX12_statementTold 93 = .ok (.goto 129, 3) := by decide +kernel
theorem dX12_statementTold_96 : decode cX12_statementTold 96 = .ok (.aload_n 0, 1) := by decide +kernel
theorem dX12_statementTold_97 : decode cX12_statementTold 97 = .ok (.aload_n 0, 1) := by decide +kernel
theorem dX12_statementTold_98 : decode cX12_statementTold 98 = .ok (.getfield 45, 3) := by decide +kernel
theorem dX12_statementTold_101 : decode cX12_statementTold 101 = .ok (.invokevirtual 290, 3) := by decide +kernel
theorem dX12_statementTold_104 : decode cX12_statementTold 104 = .ok (.ifCond .eq 11, 3) := by decide +kernel
theorem dX12_statementTold_107 : decode cX12_statementTold 107 = .ok (.aload_n 0, 1) := by decide +kernel
theorem dX12_statementTold_108 : decode cX12_statementTold 108 = .ok (.iload_n 1, 1) := by decide +kernel
theorem dX12_statementTold_109 : decode cX12_statementTold 109 = .ok (.invokevirtual 386, 3) := by decide +kernel
theorem dX12_statementTold_112 : decode cX12_statementTold 112 = .ok (.goto 110, 3) := by decide +kernel
theorem dX12_statementTold_115 : decode cX12_statementTold 115 = .ok (.aload_n 0, 1) := by decide +kernel
theorem dX12_statementTold_116 : decode cX12_statementTold 116 = .ok (.aload_n 0, 1) := by decide +kernel
theorem dX12_statementTold_117 : decode cX12_statementTold 117 = .ok (.getfield 48, 3) := by decide +kernel
theorem dX12_statementTold_120 : decode cX12_statementTold 120 = .ok (.invokevirtual 290, 3) := by decide +kernel
theorem dX12_statementTold_123 : decode cX12_statementTold 123 = .ok (.ifCond .eq 11, 3) := by decide +kernel
theorem dX12_statementTold_126 : decode cX12_statementTold 126 = .ok (.aload_n 0, 1) := by decide +kernel
theorem dX12_statementTold_127 : decode cX12_statementTold 127 = .ok (.iload_n 1, 1) := by decide +kernel
theorem dX12_statementTold_128 : decode cX12_statementTold 128 = .ok (.invokevirtual 389, 3) := by decide +kernel
theorem dX12_statementTold_131 : decode cX12_statementTold 131 = .ok (.goto 91, 3) := by decide +kernel
theorem dX12_statementTold_134 : decode cX12_statementTold 134 = .ok (.aload_n 0, 1) := by decide +kernel
theorem dX12_statementTold_135 : decode cX12_statementTold 135 = .ok (.aload_n 0, 1) := by decide +kernel
theorem dX12_statementTold_136 : decode cX12_statementTold 136 = .ok (.getfield 60, 3) := by decide +kernel
theorem dX12_statementTold_139 : decode cX12_statementTold 139 = .ok (.invokevirtual 290, 3) := by decide +kernel
theorem dX12_statementTold_142 : decode cX12_statementTold 142 = .ok (.ifCond .eq 12, 3) := by decide +kernel
theorem dX12_statementTold_145 : decode cX12_statementTold 145 = .ok (.aload_n 0, 1) := by decide +kernel
theorem dX12_statementTold_146 : decode cX12_statementTold 146 = .ok (.iconst 0, 1) := by decide +kernel
theorem dX12_statementTold_147 : decode cX12_statementTold 147 = .ok (.iload_n 1, 1) := by decide +kernel
theorem dX12_statementTold_148 : decode cX12_statementTold 148 = .ok (.invokevirtual 392, 3) := by decide +kernel
theorem dX12_statementTold_151 : decode cX12_statementTold 151 = .ok (.goto 71, 3) := by decide +kernel
theorem dX12_statementTold_154 : decode cX12_statementTold 154 = .ok (.aload_n 0, 1) := by decide +kernel
theorem dX12_statementTold_155 : decode cX12_statementTold 155 = .ok (.aload_n 0, 1) := by decide +kernel
theorem dX12_statementTold_156 : decode cX12_statementTold 156 = .ok (.getfield 63, 3) := by decide +kernel
theorem dX12_statementTold_159 : decode cX12_statementTold 159 = .ok (.invokevirtual 290, 3) := by decide +kernel
theorem dX12_statementTold_162 : decode cX12_statementTold 162 = .ok (.ifCond .eq 12, 3) := by decide +kernel
theorem dX12_statementTold_165 : decode cX12_statementTold 165 = .ok (.aload_n 0, 1) := by decide +kernel
theorem dX12_statementTold_166 : decode cX12_statementTold 166 = .ok (.iconst 1, 1) := by decide +kernel
theorem dX12_statementTold_167 : decode cX12_statementTold 167 = .ok (.iload_n 1, 1) := by decide +kernel
theorem dX12_statementTold_168 : decode cX12_statementTold 168 = .ok (.invokevirtual 392, 3) := by decide +kernel
theorem dX12_statementTold_171 : decode cX12_statementTold 171 = .ok (.goto 51, 3) := by decide +kernel
theorem dX12_statementTold_174 : decode cX12_statementTold 174 = .ok (.aload_n 0, 1) := by decide +kernel
theorem dX12_statementTold_175 : decode cX12_statementTold 175 = .ok (.aload_n 0, 1) := by decide +kernel
theorem dX12_statementTold_176 : decode cX12_statementTold 176 = .ok (.getfield 66, 3) := by decide +kernel
theorem dX12_statementTold_179 : decode cX12_statementTold 179 = .ok (.invokevirtual 290, 3) := by decide +kernel
theorem dX12_statementTold_182 : decode cX12_statementTold 182 = .ok (.ifCond .eq 19, 3) := by decide +kernel
theorem dX12_statementTold_185 : decode cX12_statementTold 185 = .ok (.aload_n 0, 1) := by decide +kernel
theorem dX12_statementTold_186 : decode cX12_statementTold 186 = .ok (.getfield 130, 3) := by decide +kernel
theorem dX12_statementTold_189 : decode cX12_statementTold 189 = .ok (.iconst 0, 1) := by decide +kernel
theorem dX12_statementTold_190 : decode cX12_statementTold 190 = .ok (.aload_n 0, 1) := by decide +kernel
theorem dX12_statementTold_191 : decode cX12_statementTold 191 = .ok (.iconst 0, 1) := by decide +kernel
theorem dX12_statementTold_192 : decode cX12_statementTold 192 = .ok (.bipush 99, 2) := by decide +kernel
theorem dX12_statementTold_194 : decode cX12_statementTold 194 = .ok (.invokevirtual 341, 3) := by decide +kernel
theorem dX12_statementTold_197 : decode cX12_statementTold 197 = .ok (.iastore, 1) := by decide +kernel
theorem dX12_statementTold_198 : decode cX12_statementTold 198 = .ok (.goto 24, 3) := by decide +kernel
theorem dX12_statementTold_201 : decode cX12_statementTold 201 = .ok (.aload_n 0, 1) := by decide +kernel
theorem dX12_statementTold_202 : decode cX12_statementTold 202 = .ok (.aload_n 0, 1) := by decide +kernel
theorem dX12_statementTold_203 : decode cX12_statementTold 203 = .ok (.getfield 69, 3) := by decide +kernel
theorem dX12_statementTold_206 : decode cX12_statementTold 206 = .ok (.invokevirtual 337, 3) := by decide +kernel
theorem dX12_statementTold_209 : decode cX12_statementTold 209 = .ok (.aload_n 0, 1) := by decide +kernel
theorem dX12_statementTold_210 : decode cX12_statementTold 210 = .ok (.getfield 130, 3) := by decide +kernel
theorem dX12_statementTold_213 : decode cX12_statementTold 213 = .ok (.iconst 1, 1) := by decide +kernel
theorem dX12_statementTold_214 : decode cX12_statementTold 214 = .ok (.aload_n 0, 1) := by decide +kernel
theorem dX12_statementTold_215 : decode cX12_statementTold 215 = .ok (.iconst 0, 1) := by decide +kernel
theorem dX12_statementTold_216 : decode cX12_statementTold 216 = .ok (.bipush 100, 2) := by decide +kernel
theorem dX12_statementTold_218 : decode cX12_statementTold 218 = .ok (.invokevirtual 341, 3) := by decide +kernel
theorem dX12_statementTold_221 : decode cX12_statementTold 221 = .ok (.iastore, 1) := by decide +kernel
theorem dX12_statementTold_222 : decode cX12_statementTold 222 = .ok (.aload_n 0, 1) := by decide +kernel
theorem dX12_statementTold_223 : decode cX12_statementTold 223 = .ok (.bipush 59, 2) := by decide +kernel
theorem dX12_statementTold_225 : decode cX12_statementTold 225 = .ok (.invokevirtual 395, 3) := by decide +kernel
theorem dX12_statementTold_228 : decode cX12_statementTold 228 = .ok (.aload_n 0, 1) := by decide +kernel
theorem dX12_statementTold_229 : decode cX12_statementTold 229 = .ok (.dup, 1) := by decide +kernel
theorem dX12_statementTold_230 : decode cX12_statementTold 230 = .ok (.getfield 370, 3) := by decide +kernel
theorem dX12_statementTold_233 : decode cX12_statementTold 233 = .ok (.iconst 1, 1) := by decide +kernel
theorem dX12_statementTold_234 : decode cX12_statementTold 234 = .ok (.iadd, 1) := by decide +kernel
theorem dX12_statementTold_235 : decode cX12_statementTold 235 = .ok (.putfield 370, 3) := by decide +kernel
theorem dX12_statementTold_238 : decode cX12_statementTold 238 = .ok (.return_, 1) := by decide +kernel
theorem dX12_sheetOf_0 : decode cX12_sheetOf 0 = .ok (.aload_n 0, 1) := by decide +kernel
theorem dX12_sheetOf_1 : decode cX12_sheetOf 1 = .ok (.getfield 142, 3) := by decide +kernel
theorem dX12_sheetOf_4 : decode cX12_sheetOf 4 = .ok (.bipush 8, 2) := by decide +kernel
theorem dX12_sheetOf_6 : decode cX12_sheetOf 6 = .ok (.iconst 3, 1) := by decide +kernel
theorem dX12_sheetOf_7 : decode cX12_sheetOf 7 = .ok (.iload_n 1, 1) := by decide +kernel
theorem dX12_sheetOf_8 : decode cX12_sheetOf 8 = .ok (.imul, 1) := by decide +kernel
theorem dX12_sheetOf_9 : decode cX12_sheetOf 9 = .ok (.iadd, 1) := by decide +kernel
theorem dX12_sheetOf_10 : decode cX12_sheetOf 10 = .ok (.iconst 1, 1) := by decide +kernel
theorem dX12_sheetOf_11 : decode cX12_sheetOf 11 = .ok (.iadd, 1) := by decide +kernel
theorem dX12_sheetOf_12 : decode cX12_sheetOf 12 = .ok (.iaload, 1) := by decide +kernel
theorem dX12_sheetOf_13 : decode cX12_sheetOf 13 = .ok (.ireturn, 1) := by decide +kernel
theorem dX12_qFact_0 : decode cX12_qFact 0 = .ok (.aload_n 0, 1) := by decide +kernel
theorem dX12_qFact_1 : decode cX12_qFact 1 = .ok (.aload_n 0, 1) := by decide +kernel
theorem dX12_qFact_2 : decode cX12_qFact 2 = .ok (.getfield 206, 3) := by decide +kernel
theorem dX12_qFact_5 : decode cX12_qFact 5 = .ok (.invokevirtual 290, 3) := by decide +kernel
theorem dX12_qFact_8 : decode cX12_qFact 8 = .ok (.ifCond .eq 10, 3) := by decide +kernel
theorem dX12_qFact_11 : decode cX12_qFact 11 = .ok (.aload_n 0, 1) := by decide +kernel
theorem dX12_qFact_12 : decode cX12_qFact 12 = .ok (.bipush 13, 2) := by decide +kernel
theorem dX12_qFact_14 : decode cX12_qFact 14 = .ok (.invokevirtual 594, 3) := by decide +kernel
theorem dX12_qFact_17 : decode cX12_qFact 17 = .ok (.return_, 1) := by decide +kernel
theorem dX12_qFact_18 : decode cX12_qFact 18 = .ok (.aload_n 0, 1) := by decide +kernel
theorem dX12_qFact_19 : decode cX12_qFact 19 = .ok (.invokevirtual 364, 3) := by decide +kernel
theorem dX12_qFact_22 : decode cX12_qFact 22 = .ok (.aload_n 0, 1) := by decide +kernel
theorem dX12_qFact_23 : decode cX12_qFact 23 = .ok (.getfield 263, 3) := by decide +kernel
theorem dX12_qFact_26 : decode cX12_qFact 26 = .ok (.ifCond .eq 4, 3) := by decide +kernel
theorem dX12_qFact_29 : decode cX12_qFact 29 = .ok (.return_, 1) := by decide +kernel
theorem dX12_qFact_30 : decode cX12_qFact 30 = .ok (.aload_n 0, 1) := by decide +kernel
theorem dX12_qFact_31 : decode cX12_qFact 31 = .ok (.invokevirtual 275, 3) := by decide +kernel
theorem dX12_qFact_34 : decode cX12_qFact 34 = .ok (.istore_n 1, 1) := by decide +kernel
theorem dX12_qFact_35 : decode cX12_qFact 35 = .ok (.iload_n 1, 1) := by decide +kernel
theorem dX12_qFact_36 : decode cX12_qFact 36 = .ok (.bipush 60, 2) := by decide +kernel
theorem dX12_qFact_38 : decode cX12_qFact 38 = .ok (.if_icmp .eq 25, 3) := by decide +kernel
theorem dX12_qFact_41 : decode cX12_qFact 41 = .ok (.iload_n 1, 1) := by decide +kernel
theorem dX12_qFact_42 : decode cX12_qFact 42 = .ok (.bipush 62, 2) := by decide +kernel
theorem dX12_qFact_44 : decode cX12_qFact 44 = .ok (.if_icmp .eq 19, 3) := by decide +kernel
theorem dX12_qFact_47 : decode cX12_qFact 47 = .ok (.iload_n 1, 1) := by decide +kernel
theorem dX12_qFact_48 : decode cX12_qFact 48 = .ok (.bipush 61, 2) := by decide +kernel
theorem dX12_qFact_50 : decode cX12_qFact 50 = .ok (.if_icmp .eq 13, 3) := by decide +kernel
theorem dX12_qFact_53 : decode cX12_qFact 53 = .ok (.aload_n 0, 1) := by decide +kernel
theorem dX12_qFact_54 : decode cX12_qFact 54 = .ok (.iconst 1, 1) := by decide +kernel
theorem dX12_qFact_55 : decode cX12_qFact 55 = .ok (.aload_n 0, 1) := by decide +kernel
theorem dX12_qFact_56 : decode cX12_qFact 56 = .ok (.getfield 269, 3) := by decide +kernel
theorem dX12_qFact_59 : decode cX12_qFact 59 = .ok (.invokevirtual 293, 3) := by decide +kernel
theorem dX12_qFact_62 : decode cX12_qFact 62 = .ok (.return_, 1) := by decide +kernel
theorem dX12_qFact_63 : decode cX12_qFact 63 = .ok (.aload_n 0, 1) := by decide +kernel
theorem dX12_qFact_64 : decode cX12_qFact 64 = .ok (.dup, 1) := by decide +kernel
theorem dX12_qFact_65 : decode cX12_qFact 65 = .ok (.getfield 269, 3) := by decide +kernel
theorem dX12_qFact_68 : decode cX12_qFact 68 = .ok (.iconst 1, 1) := by decide +kernel
theorem dX12_qFact_69 : decode cX12_qFact 69 = .ok (.iadd, 1) := by decide +kernel
theorem dX12_qFact_70 : decode cX12_qFact 70 = .ok (.putfield 269, 3) := by decide +kernel
theorem dX12_qFact_73 : decode cX12_qFact 73 = .ok (.aload_n 0, 1) := by decide +kernel
theorem dX12_qFact_74 : decode cX12_qFact 74 = .ok (.invokevirtual 364, 3) := by decide +kernel
theorem dX12_qFact_77 : decode cX12_qFact 77 = .ok (.aload_n 0, 1) := by decide +kernel
theorem dX12_qFact_78 : decode cX12_qFact 78 = .ok (.iload_n 1, 1) := by decide +kernel
theorem dX12_qFact_79 : decode cX12_qFact 79 = .ok (.bipush 60, 2) := by decide +kernel
theorem dX12_qFact_81 : decode cX12_qFact 81 = .ok (.if_icmp .ne 8, 3) := by decide +kernel
theorem dX12_qFact_84 : decode cX12_qFact 84 = .ok (.bipush 7, 2) := by decide +kernel
theorem dX12_qFact_86 : decode cX12_qFact 86 = .ok (.goto 16, 3) := by decide +kernel
theorem dX12_qFact_89 : decode cX12_qFact 89 = .ok (.iload_n 1, 1) := by decide +kernel
theorem dX12_qFact_90 : decode cX12_qFact 90 = .ok (.bipush 62, 2) := by decide +kernel
theorem dX12_qFact_92 : decode cX12_qFact 92 = .ok (.if_icmp .ne 8, 3) := by decide +kernel
theorem dX12_qFact_95 : decode cX12_qFact 95 = .ok (.bipush 8, 2) := by decide +kernel
theorem dX12_qFact_97 : decode cX12_qFact 97 = .ok (.goto 5, 3) := by decide +kernel
theorem dX12_qFact_100 : decode cX12_qFact 100 = .ok (.bipush 9, 2) := by decide +kernel
theorem dX12_qFact_102 : decode cX12_qFact 102 = .ok (.invokevirtual 594, 3) := by decide +kernel
theorem dX12_qFact_105 : decode cX12_qFact 105 = .ok (.return_, 1) := by decide +kernel
theorem dX12_children_0 : decode cX12_children 0 = .ok (.iload_n 1, 1) := by decide +kernel
theorem dX12_children_1 : decode cX12_children 1 = .ok (.iconst (-1), 1) := by decide +kernel
theorem dX12_children_2 : decode cX12_children 2 = .ok (.if_icmp .eq 13, 3) := by decide +kernel
theorem dX12_children_5 : decode cX12_children 5 = .ok (.aload_n 0, 1) := by decide +kernel
theorem dX12_children_6 : decode cX12_children 6 = .ok (.iload_n 1, 1) := by decide +kernel
theorem dX12_children_7 : decode cX12_children 7 = .ok (.invokevirtual 501, 3) := by decide +kernel
theorem dX12_children_10 : decode cX12_children 10 = .ok (.ifCond .ne 5, 3) := by decide +kernel
theorem dX12_children_13 : decode cX12_children 13 = .ok (.iconst (-1), 1) := by decide +kernel
theorem dX12_children_14 : decode cX12_children 14 = .ok (.ireturn, 1) := by decide +kernel
theorem dX12_children_15 : decode cX12_children 15 = .ok (.iconst 0, 1) := by decide +kernel
theorem dX12_children_16 : decode cX12_children 16 = .ok (.istore_n 2, 1) := by decide +kernel
theorem dX12_children_17 : decode cX12_children 17 = .ok (.iload_n 2, 1) := by decide +kernel
theorem dX12_children_18 : decode cX12_children 18 = .ok (.bipush 8, 2) := by decide +kernel
theorem dX12_children_20 : decode cX12_children 20 = .ok (.if_icmp .ge 23, 3) := by decide +kernel
theorem dX12_children_23 : decode cX12_children 23 = .ok (.aload_n 0, 1) := by decide +kernel
theorem dX12_children_24 : decode cX12_children 24 = .ok (.getfield 148, 3) := by decide +kernel
theorem dX12_children_27 : decode cX12_children 27 = .ok (.iload_n 2, 1) := by decide +kernel
theorem dX12_children_28 : decode cX12_children 28 = .ok (.iconst 0, 1) := by decide +kernel
theorem dX12_children_29 : decode cX12_children 29 = .ok (.iastore, 1) := by decide +kernel
theorem dX12_children_30 : decode cX12_children 30 = .ok (.aload_n 0, 1) := by decide +kernel
theorem dX12_children_31 : decode cX12_children 31 = .ok (.getfield 154, 3) := by decide +kernel
theorem dX12_children_34 : decode cX12_children 34 = .ok (.iload_n 2, 1) := by decide +kernel
theorem dX12_children_35 : decode cX12_children 35 = .ok (.iconst 0, 1) := by decide +kernel
theorem dX12_children_36 : decode cX12_children 36 = .ok (.iastore, 1) := by decide +kernel
theorem dX12_children_37 : decode cX12_children 37 = .ok (.iinc 2 1, 3) := by decide +kernel
theorem dX12_children_40 : decode cX12_children 40 = .ok (.goto (-23), 3) := by decide +kernel
theorem dX12_children_43 : decode cX12_children 43 = .ok (.aload_n 0, 1) := by decide +kernel
theorem dX12_children_44 : decode cX12_children 44 = .ok (.invokevirtual 554, 3) := by decide +kernel
theorem dX12_children_47 : decode cX12_children 47 = .ok (.lstore_n 2, 1) := by decide +kernel
theorem dX12_children_48 : decode cX12_children 48 = .ok (.aload_n 0, 1) := by decide +kernel
theorem dX12_children_49 : decode cX12_children 49 = .ok (.invokevirtual 557, 3) := by decide +kernel
theorem dX12_children_52 : decode cX12_children 52 = .ok (.ifCond .eq 55, 3) := by decide +kernel
theorem dX12_children_55 : decode cX12_children 55 = .ok (.aload_n 0, 1) := by decide +kernel
theorem dX12_children_56 : decode cX12_children 56 = .ok (.invokevirtual 554, 3) := by decide +kernel
theorem dX12_children_59 : decode cX12_children 59 = .ok (.lstore 4, 2) := by decide +kernel
theorem dX12_children_61 : decode cX12_children 61 = .ok (.lload 4, 2) := by decide +kernel
theorem dX12_children_63 : decode cX12_children 63 = .ok (.lload_n 2, 1) := by decide +kernel
theorem dX12_children_64 : decode cX12_children 64 = .ok (.lcmp, 1) := by decide +kernel
theorem dX12_children_65 : decode cX12_children 65 = .ok (.ifCond .gt 6, 3) := by decide +kernel
theorem dX12_children_68 : decode cX12_children 68 = .ok (.goto (-20), 3) := by decide +kernel
theorem dX12_children_71 : decode cX12_children 71 = .ok (.lload 4, 2) := by decide +kernel
theorem dX12_children_73 : decode cX12_children 73 = .ok (.lstore_n 2, 1) := by decide +kernel
theorem dX12_children_74 : decode cX12_children 74 = .ok (.iconst 0, 1) := by decide +kernel
theorem dX12_children_75 : decode cX12_children 75 = .ok (.istore 6, 2) := by decide +kernel
theorem dX12_children_77 : decode cX12_children 77 = .ok (.iload 6, 2) := by decide +kernel
theorem dX12_children_79 : decode cX12_children 79 = .ok (.bipush 8, 2) := by decide +kernel
theorem dX12_children_81 : decode cX12_children 81 = .ok (.if_icmp .ge 23, 3) := by decide +kernel
theorem dX12_children_84 : decode cX12_children 84 = .ok (.aload_n 0, 1) := by decide +kernel
theorem dX12_children_85 : decode cX12_children 85 = .ok (.getfield 154, 3) := by decide +kernel
theorem dX12_children_88 : decode cX12_children 88 = .ok (.iload 6, 2) := by decide +kernel
theorem dX12_children_90 : decode cX12_children 90 = .ok (.aload_n 0, 1) := by decide +kernel
theorem dX12_children_91 : decode cX12_children 91 = .ok (.getfield 148, 3) := by decide +kernel
theorem dX12_children_94 : decode cX12_children 94 = .ok (.iload 6, 2) := by decide +kernel
theorem dX12_children_96 : decode cX12_children 96 = .ok (.iaload, 1) := by decide +kernel
theorem dX12_children_97 : decode cX12_children 97 = .ok (.iastore, 1) := by decide +kernel
theorem dX12_children_98 : decode cX12_children 98 = .ok (.iinc 6 1, 3) := by decide +kernel
theorem dX12_children_101 : decode cX12_children 101 = .ok (.goto (-24), 3) := by decide +kernel
theorem dX12_children_104 : decode cX12_children 104 = .ok (.goto (-56), 3) := by decide +kernel
theorem dX12_children_107 : decode cX12_children 107 = .ok (.iconst 0, 1) := by decide +kernel
theorem dX12_children_108 : decode cX12_children 108 = .ok (.istore 4, 2) := by decide +kernel
theorem dX12_children_110 : decode cX12_children 110 = .ok (.iconst 0, 1) := by decide +kernel
theorem dX12_children_111 : decode cX12_children 111 = .ok (.istore 5, 2) := by decide +kernel
theorem dX12_children_113 : decode cX12_children 113 = .ok (.iload 5, 2) := by decide +kernel
theorem dX12_children_115 : decode cX12_children 115 = .ok (.aload_n 0, 1) := by decide +kernel
theorem dX12_children_116 : decode cX12_children 116 = .ok (.invokevirtual 419, 3) := by decide +kernel
theorem dX12_children_119 : decode cX12_children 119 = .ok (.if_icmp .ge 32, 3) := by decide +kernel
theorem dX12_children_122 : decode cX12_children 122 = .ok (.aload_n 0, 1) := by decide +kernel
theorem dX12_children_123 : decode cX12_children 123 = .ok (.getfield 154, 3) := by decide +kernel
theorem dX12_children_126 : decode cX12_children 126 = .ok (.iload 5, 2) := by decide +kernel
theorem dX12_children_128 : decode cX12_children 128 = .ok (.iaload, 1) := by decide +kernel
theorem dX12_children_129 : decode cX12_children 129 = .ok (.iload 4, 2) := by decide +kernel
theorem dX12_children_131 : decode cX12_children 131 = .ok (.if_icmp .lt 14, 3) := by decide +kernel
theorem dX12_children_134 : decode cX12_children 134 = .ok (.aload_n 0, 1) := by decide +kernel
theorem dX12_children_135 : decode cX12_children 135 = .ok (.getfield 154, 3) := by decide +kernel
theorem dX12_children_138 : decode cX12_children 138 = .ok (.iload 5, 2) := by decide +kernel
theorem dX12_children_140 : decode cX12_children 140 = .ok (.iaload, 1) := by decide +kernel
theorem dX12_children_141 : decode cX12_children 141 = .ok (.iconst 1, 1) := by decide +kernel
theorem dX12_children_142 : decode cX12_children 142 = .ok (.iadd, 1) := by decide +kernel
theorem dX12_children_143 : decode cX12_children 143 = .ok (.istore 4, 2) := by decide +kernel
theorem dX12_children_145 : decode cX12_children 145 = .ok (.iinc 5 1, 3) := by decide +kernel
theorem dX12_children_148 : decode cX12_children 148 = .ok (.goto (-35), 3) := by decide +kernel
theorem dX12_children_151 : decode cX12_children 151 = .ok (.iload_n 1, 1) := by decide +kernel
theorem dX12_children_152 : decode cX12_children 152 = .ok (.iconst (-1), 1) := by decide +kernel
theorem dX12_children_153 : decode cX12_children 153 = .ok (.if_icmp .ne 8, 3) := by decide +kernel
theorem dX12_children_156 : decode cX12_children 156 = .ok (.iload 4, 2) := by decide +kernel
theorem dX12_children_158 : decode cX12_children 158 = .ok (.goto 9, 3) := by decide +kernel
theorem dX12_children_161 : decode cX12_children 161 = .ok (.aload_n 0, 1) := by decide +kernel
theorem dX12_children_162 : decode cX12_children 162 = .ok (.getfield 154, 3) := by decide +kernel
theorem dX12_children_165 : decode cX12_children 165 = .ok (.iload_n 1, 1) := by decide +kernel
theorem dX12_children_166 : decode cX12_children 166 = .ok (.iaload, 1) := by decide +kernel
theorem dX12_children_167 : decode cX12_children 167 = .ok (.ireturn, 1) := by decide +kernel
theorem dX12_laysWarmest_0 : decode cX12_laysWarmest 0 = .ok (.aload_n 0, 1) := by decide +kernel
theorem dX12_laysWarmest_1 : decode cX12_laysWarmest 1 = .ok (.invokevirtual 467, 3) := by decide +kernel
theorem dX12_laysWarmest_4 : decode cX12_laysWarmest 4 = .ok (.iconst 0, 1) := by decide +kernel
theorem dX12_laysWarmest_5 : decode cX12_laysWarmest 5 = .ok (.istore_n 1, 1) := by decide +kernel
theorem dX12_laysWarmest_6 : decode cX12_laysWarmest 6 = .ok (.iload_n 1, 1) := by decide +kernel
theorem dX12_laysWarmest_7 : decode cX12_laysWarmest 7 = .ok (.bipush 8, 2) := by decide +kernel
theorem dX12_laysWarmest_9 : decode cX12_laysWarmest 9 = .ok (.if_icmp .ge 23, 3) := by decide +kernel
theorem dX12_laysWarmest_12 : decode cX12_laysWarmest 12 = .ok (.aload_n 0, 1) := by decide +kernel
theorem dX12_laysWarmest_13 : decode cX12_laysWarmest 13 = .ok (.getfield 148, 3) := by decide +kernel
theorem dX12_laysWarmest_16 : decode cX12_laysWarmest 16 = .ok (.iload_n 1, 1) := by decide +kernel
theorem dX12_laysWarmest_17 : decode cX12_laysWarmest 17 = .ok (.iconst 0, 1) := by decide +kernel
theorem dX12_laysWarmest_18 : decode cX12_laysWarmest 18 = .ok (.iastore, 1) := by decide +kernel
theorem dX12_laysWarmest_19 : decode cX12_laysWarmest 19 = .ok (.aload_n 0, 1) := by decide +kernel
theorem dX12_laysWarmest_20 : decode cX12_laysWarmest 20 = .ok (.getfield 154, 3) := by decide +kernel
theorem dX12_laysWarmest_23 : decode cX12_laysWarmest 23 = .ok (.iload_n 1, 1) := by decide +kernel
theorem dX12_laysWarmest_24 : decode cX12_laysWarmest 24 = .ok (.iconst 0, 1) := by decide +kernel
theorem dX12_laysWarmest_25 : decode cX12_laysWarmest 25 = .ok (.iastore, 1) := by decide +kernel
theorem dX12_laysWarmest_26 : decode cX12_laysWarmest 26 = .ok (.iinc 1 1, 3) := by decide +kernel
theorem dX12_laysWarmest_29 : decode cX12_laysWarmest 29 = .ok (.goto (-23), 3) := by decide +kernel
theorem dX12_laysWarmest_32 : decode cX12_laysWarmest 32 = .ok (.iconst 0, 1) := by decide +kernel
theorem dX12_laysWarmest_33 : decode cX12_laysWarmest 33 = .ok (.istore_n 1, 1) := by decide +kernel
theorem dX12_laysWarmest_34 : decode cX12_laysWarmest 34 = .ok (.iload_n 1, 1) := by decide +kernel
theorem dX12_laysWarmest_35 : decode cX12_laysWarmest 35 = .ok (.aload_n 0, 1) := by decide +kernel
theorem dX12_laysWarmest_36 : decode cX12_laysWarmest 36 = .ok (.invokevirtual 419, 3) := by decide +kernel
theorem dX12_laysWarmest_39 : decode cX12_laysWarmest 39 = .ok (.if_icmp .ge 31, 3) := by decide +kernel
theorem dX12_laysWarmest_42 : decode cX12_laysWarmest 42 = .ok (.aload_n 0, 1) := by decide +kernel
theorem dX12_laysWarmest_43 : decode cX12_laysWarmest 43 = .ok (.getfield 151, 3) := by decide +kernel
theorem dX12_laysWarmest_46 : decode cX12_laysWarmest 46 = .ok (.iload_n 1, 1) := by decide +kernel
theorem dX12_laysWarmest_47 : decode cX12_laysWarmest 47 = .ok (.aload_n 0, 1) := by decide +kernel
theorem dX12_laysWarmest_48 : decode cX12_laysWarmest 48 = .ok (.iload_n 1, 1) := by decide +kernel
theorem dX12_laysWarmest_49 : decode cX12_laysWarmest 49 = .ok (.invokevirtual 451, 3) := by decide +kernel
theorem dX12_laysWarmest_52 : decode cX12_laysWarmest 52 = .ok (.ifCond .ne 10, 3) := by decide +kernel
theorem dX12_laysWarmest_55 : decode cX12_laysWarmest 55 = .ok (.aload_n 0, 1) := by decide +kernel
theorem dX12_laysWarmest_56 : decode cX12_laysWarmest 56 = .ok (.invokevirtual 422, 3) := by decide +kernel
theorem dX12_laysWarmest_59 : decode cX12_laysWarmest 59 = .ok (.goto 4, 3) := by decide +kernel
theorem dX12_laysWarmest_62 : decode cX12_laysWarmest 62 = .ok (.iconst 0, 1) := by decide +kernel
theorem dX12_laysWarmest_63 : decode cX12_laysWarmest 63 = .ok (.iastore, 1) := by decide +kernel
theorem dX12_laysWarmest_64 : decode cX12_laysWarmest 64 = .ok (.iinc 1 1, 3) := by decide +kernel
theorem dX12_laysWarmest_67 : decode cX12_laysWarmest 67 = .ok (.goto (-33), 3) := by decide +kernel
theorem dX12_laysWarmest_70 : decode cX12_laysWarmest 70 = .ok (.iconst 0, 1) := by decide +kernel
theorem dX12_laysWarmest_71 : decode cX12_laysWarmest 71 = .ok (.istore_n 1, 1) := by decide +kernel
theorem dX12_laysWarmest_72 : decode cX12_laysWarmest 72 = .ok (.aload_n 0, 1) := by decide +kernel
theorem dX12_laysWarmest_73 : decode cX12_laysWarmest 73 = .ok (.lconst 0, 1) := by decide +kernel
theorem dX12_laysWarmest_74 : decode cX12_laysWarmest 74 = .ok (.putfield 470, 3) := by decide +kernel
theorem dX12_laysWarmest_77 : decode cX12_laysWarmest 77 = .ok (.aload_n 0, 1) := by decide +kernel
theorem dX12_laysWarmest_78 : decode cX12_laysWarmest 78 = .ok (.invokevirtual 473, 3) := by decide +kernel
theorem dX12_laysWarmest_81 : decode cX12_laysWarmest 81 = .ok (.ifCond .eq 85, 3) := by decide +kernel
theorem dX12_laysWarmest_84 : decode cX12_laysWarmest 84 = .ok (.aload_n 0, 1) := by decide +kernel
theorem dX12_laysWarmest_85 : decode cX12_laysWarmest 85 = .ok (.invokevirtual 476, 3) := by decide +kernel
theorem dX12_laysWarmest_88 : decode cX12_laysWarmest 88 = .ok (.istore_n 2, 1) := by decide +kernel
theorem dX12_laysWarmest_89 : decode cX12_laysWarmest 89 = .ok (.iload_n 2, 1) := by decide +kernel
theorem dX12_laysWarmest_90 : decode cX12_laysWarmest 90 = .ok (.iload_n 1, 1) := by decide +kernel
theorem dX12_laysWarmest_91 : decode cX12_laysWarmest 91 = .ok (.if_icmp .lt (-14), 3) := by decide +kernel
theorem dX12_laysWarmest_94 : decode cX12_laysWarmest 94 = .ok (.aload_n 0, 1) := by decide +kernel
theorem dX12_laysWarmest_95 : decode cX12_laysWarmest 95 = .ok (.invokevirtual 479, 3) := by decide +kernel
theorem dX12_laysWarmest_98 : decode cX12_laysWarmest 98 = .ok (.ifCond .ne 6, 3) := by decide +kernel
theorem dX12_laysWarmest_101 : decode cX12_laysWarmest 101 = .ok (.goto (-24), 3) := by decide +kernel
theorem dX12_laysWarmest_104 : decode cX12_laysWarmest 104 = .ok (.aload_n 0, 1) := by decide +kernel
theorem dX12_laysWarmest_105 : decode cX12_laysWarmest 105 = .ok (.invokevirtual 482, 3) := by decide +kernel
theorem dX12_laysWarmest_108 : decode cX12_laysWarmest 108 = .ok (.lstore_n 3, 1) := by decide +kernel
theorem dX12_laysWarmest_109 : decode cX12_laysWarmest 109 = .ok (.iload_n 2, 1) := by decide +kernel
theorem dX12_laysWarmest_110 : decode cX12_laysWarmest 110 = .ok (.iload_n 1, 1) := by decide +kernel
theorem dX12_laysWarmest_111 : decode cX12_laysWarmest 111 = .ok (.if_icmp .ne 15, 3) := by decide +kernel
theorem dX12_laysWarmest_114 : decode cX12_laysWarmest 114 = .ok (.lload_n 3, 1) := by decide +kernel
theorem dX12_laysWarmest_115 : decode cX12_laysWarmest 115 = .ok (.aload_n 0, 1) := by decide +kernel
theorem dX12_laysWarmest_116 : decode cX12_laysWarmest 116 = .ok (.getfield 470, 3) := by decide +kernel
theorem dX12_laysWarmest_119 : decode cX12_laysWarmest 119 = .ok (.lcmp, 1) := by decide +kernel
theorem dX12_laysWarmest_120 : decode cX12_laysWarmest 120 = .ok (.ifCond .gt 6, 3) := by decide +kernel
theorem dX12_laysWarmest_123 : decode cX12_laysWarmest 123 = .ok (.goto (-46), 3) := by decide +kernel
theorem dX12_laysWarmest_126 : decode cX12_laysWarmest 126 = .ok (.iload_n 2, 1) := by decide +kernel
theorem dX12_laysWarmest_127 : decode cX12_laysWarmest 127 = .ok (.istore_n 1, 1) := by decide +kernel
theorem dX12_laysWarmest_128 : decode cX12_laysWarmest 128 = .ok (.aload_n 0, 1) := by decide +kernel
theorem dX12_laysWarmest_129 : decode cX12_laysWarmest 129 = .ok (.lload_n 3, 1) := by decide +kernel
theorem dX12_laysWarmest_130 : decode cX12_laysWarmest 130 = .ok (.putfield 470, 3) := by decide +kernel
theorem dX12_laysWarmest_133 : decode cX12_laysWarmest 133 = .ok (.iconst 0, 1) := by decide +kernel
theorem dX12_laysWarmest_134 : decode cX12_laysWarmest 134 = .ok (.istore 5, 2) := by decide +kernel
theorem dX12_laysWarmest_136 : decode cX12_laysWarmest 136 = .ok (.iload 5, 2) := by decide +kernel
theorem dX12_laysWarmest_138 : decode cX12_laysWarmest 138 = .ok (.bipush 8, 2) := by decide +kernel
theorem dX12_laysWarmest_140 : decode cX12_laysWarmest 140 = .ok (.if_icmp .ge 23, 3) := by decide +kernel
theorem dX12_laysWarmest_143 : decode cX12_laysWarmest 143 = .ok (.aload_n 0, 1) := by decide +kernel
theorem dX12_laysWarmest_144 : decode cX12_laysWarmest 144 = .ok (.getfield 154, 3) := by decide +kernel
theorem dX12_laysWarmest_147 : decode cX12_laysWarmest 147 = .ok (.iload 5, 2) := by decide +kernel
theorem dX12_laysWarmest_149 : decode cX12_laysWarmest 149 = .ok (.aload_n 0, 1) := by decide +kernel
theorem dX12_laysWarmest_150 : decode cX12_laysWarmest 150 = .ok (.getfield 148, 3) := by decide +kernel
theorem dX12_laysWarmest_153 : decode cX12_laysWarmest 153 = .ok (.iload 5, 2) := by decide +kernel
theorem dX12_laysWarmest_155 : decode cX12_laysWarmest 155 = .ok (.iaload, 1) := by decide +kernel
theorem dX12_laysWarmest_156 : decode cX12_laysWarmest 156 = .ok (.iastore, 1) := by decide +kernel
theorem dX12_laysWarmest_157 : decode cX12_laysWarmest 157 = .ok (.iinc 5 1, 3) := by decide +kernel
theorem dX12_laysWarmest_160 : decode cX12_laysWarmest 160 = .ok (.goto (-24), 3) := by decide +kernel
theorem dX12_laysWarmest_163 : decode cX12_laysWarmest 163 = .ok (.goto (-86), 3) := by decide +kernel
theorem dX12_laysWarmest_166 : decode cX12_laysWarmest 166 = .ok (.iload_n 1, 1) := by decide +kernel
theorem dX12_laysWarmest_167 : decode cX12_laysWarmest 167 = .ok (.ireturn, 1) := by decide +kernel
theorem dX12_doneOf_0 : decode cX12_doneOf 0 = .ok (.aload_n 0, 1) := by decide +kernel
theorem dX12_doneOf_1 : decode cX12_doneOf 1 = .ok (.getfield 142, 3) := by decide +kernel
theorem dX12_doneOf_4 : decode cX12_doneOf 4 = .ok (.bipush 8, 2) := by decide +kernel
theorem dX12_doneOf_6 : decode cX12_doneOf 6 = .ok (.iconst 3, 1) := by decide +kernel
theorem dX12_doneOf_7 : decode cX12_doneOf 7 = .ok (.iload_n 1, 1) := by decide +kernel
theorem dX12_doneOf_8 : decode cX12_doneOf 8 = .ok (.imul, 1) := by decide +kernel
theorem dX12_doneOf_9 : decode cX12_doneOf 9 = .ok (.iadd, 1) := by decide +kernel
theorem dX12_doneOf_10 : decode cX12_doneOf 10 = .ok (.iaload, 1) := by decide +kernel
theorem dX12_doneOf_11 : decode cX12_doneOf 11 = .ok (.ireturn, 1) := by decide +kernel
theorem dX12_qSums_0 : decode cX12_qSums 0 = .ok (.aload_n 0, 1) := by decide +kernel
theorem dX12_qSums_1 : decode cX12_qSums 1 = .ok (.getfield 361, 3) := by decide +kernel
theorem dX12_qSums_4 : decode cX12_qSums 4 = .ok (.istore_n 1, 1) := by decide +kernel
theorem dX12_qSums_5 : decode cX12_qSums 5 = .ok (.aload_n 0, 1) := by decide +kernel
theorem dX12_qSums_6 : decode cX12_qSums 6 = .ok (.aload_n 0, 1) := by decide +kernel
theorem dX12_qSums_7 : decode cX12_qSums 7 = .ok (.getfield 355, 3) := by decide +kernel
theorem dX12_qSums_10 : decode cX12_qSums 10 = .ok (.putfield 361, 3) := by decide +kernel
theorem dX12_qSums_13 : decode cX12_qSums 13 = .ok (.iconst 1, 1) := by decide +kernel
theorem dX12_qSums_14 : decode cX12_qSums 14 = .ok (.istore_n 2, 1) := by decide +kernel
theorem dX12_qSums_15 : decode cX12_qSums 15 = .ok (.iload_n 2, 1) := by decide +kernel
theorem dX12_qSums_16 : decode cX12_qSums 16 = .ok (.ifCond .eq 37, 3) := by decide +kernel
theorem dX12_qSums_19 : decode cX12_qSums 19 = .ok (.aload_n 0, 1) := by decide +kernel
theorem dX12_qSums_20 : decode cX12_qSums 20 = .ok (.getfield 263, 3) := by decide +kernel
theorem dX12_qSums_23 : decode cX12_qSums 23 = .ok (.ifCond .ne 30, 3) := by decide +kernel
theorem dX12_qSums_26 : decode cX12_qSums 26 = .ok (.aload_n 0, 1) := by decide +kernel
theorem dX12_qSums_27 : decode cX12_qSums 27 = .ok (.invokevirtual 630, 3) := by decide +kernel
theorem dX12_qSums_30 : decode cX12_qSums 30 = .ok (.aload_n 0, 1) := by decide +kernel
theorem dX12_qSums_31 : decode cX12_qSums 31 = .ok (.getfield 263, 3) := by decide +kernel
theorem dX12_qSums_34 : decode cX12_qSums 34 = .ok (.ifCond .ne 14, 3) := by decide +kernel
theorem dX12_qSums_37 : decode cX12_qSums 37 = .ok (.aload_n 0, 1) := by decide +kernel
theorem dX12_qSums_38 : decode cX12_qSums 38 = .ok (.invokevirtual 633, 3) := by decide +kernel
theorem dX12_qSums_41 : decode cX12_qSums 41 = .ok (.ifCond .eq 7, 3) := by decide +kernel
theorem dX12_qSums_44 : decode cX12_qSums 44 = .ok (.iconst 1, 1) := by decide +kernel
theorem dX12_qSums_45 : decode cX12_qSums 45 = .ok (.goto 4, 3) := by decide +kernel
theorem dX12_qSums_48 : decode cX12_qSums 48 = .ok (.iconst 0, 1) := by decide +kernel
theorem dX12_qSums_49 : decode cX12_qSums 49 = .ok (.istore_n 2, 1) := by decide +kernel
theorem dX12_qSums_50 : decode cX12_qSums 50 = .ok (.goto (-35), 3) := by decide +kernel
theorem dX12_qSums_53 : decode cX12_qSums 53 = .ok (.aload_n 0, 1) := by decide +kernel
theorem dX12_qSums_54 : decode cX12_qSums 54 = .ok (.getfield 263, 3) := by decide +kernel
theorem dX12_qSums_57 : decode cX12_qSums 57 = .ok (.ifCond .ne 21, 3) := by decide +kernel
theorem dX12_qSums_60 : decode cX12_qSums 60 = .ok (.aload_n 0, 1) := by decide +kernel
theorem dX12_qSums_61 : decode cX12_qSums 61 = .ok (.getfield 355, 3) := by decide +kernel
theorem dX12_qSums_64 : decode cX12_qSums 64 = .ok (.aload_n 0, 1) := by decide +kernel
theorem dX12_qSums_65 : decode cX12_qSums 65 = .ok (.getfield 361, 3) := by decide +kernel
theorem dX12_qSums_68 : decode cX12_qSums 68 = .ok (.if_icmp .le 10, 3) := by decide +kernel
theorem dX12_qSums_71 : decode cX12_qSums 71 = .ok (.aload_n 0, 1) := by decide +kernel
theorem dX12_qSums_72 : decode cX12_qSums 72 = .ok (.invokevirtual 600, 3) := by decide +kernel
theorem dX12_qSums_75 : decode cX12_qSums 75 = .ok (.goto (-22), 3) := by decide +kernel
theorem dX12_qSums_78 : decode cX12_qSums 78 = .ok (.aload_n 0, 1) := by decide +kernel
theorem dX12_qSums_79 : decode cX12_qSums 79 = .ok (.iload_n 1, 1) := by decide +kernel
theorem dX12_qSums_80 : decode cX12_qSums 80 = .ok (.putfield 361, 3) := by decide +kernel
theorem dX12_qSums_83 : decode cX12_qSums 83 = .ok (.return_, 1) := by decide +kernel
theorem dX12_isNextRow_0 : decode cX12_isNextRow 0 = .ok (.aload_n 0, 1) := by decide +kernel
theorem dX12_isNextRow_1 : decode cX12_isNextRow 1 = .ok (.invokevirtual 419, 3) := by decide +kernel
theorem dX12_isNextRow_4 : decode cX12_isNextRow 4 = .ok (.iconst 1, 1) := by decide +kernel
theorem dX12_isNextRow_5 : decode cX12_isNextRow 5 = .ok (.isub, 1) := by decide +kernel
theorem dX12_isNextRow_6 : decode cX12_isNextRow 6 = .ok (.istore_n 1, 1) := by decide +kernel
theorem dX12_isNextRow_7 : decode cX12_isNextRow 7 = .ok (.iload_n 1, 1) := by decide +kernel
theorem dX12_isNextRow_8 : decode cX12_isNextRow 8 = .ok (.ifCond .lt 31, 3) := by decide +kernel
theorem dX12_isNextRow_11 : decode cX12_isNextRow 11 = .ok (.aload_n 0, 1) := by decide +kernel
theorem dX12_isNextRow_12 : decode cX12_isNextRow 12 = .ok (.getfield 148, 3) := by decide +kernel
theorem dX12_isNextRow_15 : decode cX12_isNextRow 15 = .ok (.iload_n 1, 1) := by decide +kernel
theorem dX12_isNextRow_16 : decode cX12_isNextRow 16 = .ok (.iaload, 1) := by decide +kernel
theorem dX12_isNextRow_17 : decode cX12_isNextRow 17 = .ok (.aload_n 0, 1) := by decide +kernel
theorem dX12_isNextRow_18 : decode cX12_isNextRow 18 = .ok (.getfield 151, 3) := by decide +kernel
theorem dX12_isNextRow_21 : decode cX12_isNextRow 21 = .ok (.iload_n 1, 1) := by decide +kernel
theorem dX12_isNextRow_22 : decode cX12_isNextRow 22 = .ok (.iaload, 1) := by decide +kernel
theorem dX12_isNextRow_23 : decode cX12_isNextRow 23 = .ok (.if_icmp .ne 16, 3) := by decide +kernel
theorem dX12_isNextRow_26 : decode cX12_isNextRow 26 = .ok (.aload_n 0, 1) := by decide +kernel
theorem dX12_isNextRow_27 : decode cX12_isNextRow 27 = .ok (.getfield 148, 3) := by decide +kernel
theorem dX12_isNextRow_30 : decode cX12_isNextRow 30 = .ok (.iload_n 1, 1) := by decide +kernel
theorem dX12_isNextRow_31 : decode cX12_isNextRow 31 = .ok (.iconst 0, 1) := by decide +kernel
theorem dX12_isNextRow_32 : decode cX12_isNextRow 32 = .ok (.iastore, 1) := by decide +kernel
theorem dX12_isNextRow_33 : decode cX12_isNextRow 33 = .ok (.iinc 1 (-1), 3) := by decide +kernel
theorem dX12_isNextRow_36 : decode cX12_isNextRow 36 = .ok (.goto (-29), 3) := by decide +kernel
theorem dX12_isNextRow_39 : decode cX12_isNextRow 39 = .ok (.iload_n 1, 1) := by decide +kernel
theorem dX12_isNextRow_40 : decode cX12_isNextRow 40 = .ok (.ifCond .ge 5, 3) := by decide +kernel
theorem dX12_isNextRow_43 : decode cX12_isNextRow 43 = .ok (.iconst 0, 1) := by decide +kernel
theorem dX12_isNextRow_44 : decode cX12_isNextRow 44 = .ok (.ireturn, 1) := by decide +kernel
theorem dX12_isNextRow_45 : decode cX12_isNextRow 45 = .ok (.aload_n 0, 1) := by decide +kernel
theorem dX12_isNextRow_46 : decode cX12_isNextRow 46 = .ok (.getfield 148, 3) := by decide +kernel
theorem dX12_isNextRow_49 : decode cX12_isNextRow 49 = .ok (.iload_n 1, 1) := by decide +kernel
theorem dX12_isNextRow_50 : decode cX12_isNextRow 50 = .ok (.dup2, 1) := by decide +kernel
theorem dX12_isNextRow_51 : decode cX12_isNextRow 51 = .ok (.iaload, 1) := by decide +kernel
theorem dX12_isNextRow_52 : decode cX12_isNextRow 52 = .ok (.iconst 1, 1) := by decide +kernel
theorem dX12_isNextRow_53 : decode cX12_isNextRow 53 = .ok (.iadd, 1) := by decide +kernel
theorem dX12_isNextRow_54 : decode cX12_isNextRow 54 = .ok (.iastore, 1) := by decide +kernel
theorem dX12_isNextRow_55 : decode cX12_isNextRow 55 = .ok (.iconst 1, 1) := by decide +kernel
theorem dX12_isNextRow_56 : decode cX12_isNextRow 56 = .ok (.ireturn, 1) := by decide +kernel
theorem dX12_stands_0 : decode cX12_stands 0 = .ok (.iconst 0, 1) := by decide +kernel
theorem dX12_stands_1 : decode cX12_stands 1 = .ok (.istore_n 1, 1) := by decide +kernel
theorem dX12_stands_2 : decode cX12_stands 2 = .ok (.iload_n 1, 1) := by decide +kernel
theorem dX12_stands_3 : decode cX12_stands 3 = .ok (.iconst 5, 1) := by decide +kernel
theorem dX12_stands_4 : decode cX12_stands 4 = .ok (.if_icmp .ge 23, 3) := by decide +kernel
theorem dX12_stands_7 : decode cX12_stands 7 = .ok (.aload_n 0, 1) := by decide +kernel
theorem dX12_stands_8 : decode cX12_stands 8 = .ok (.getfield 105, 3) := by decide +kernel
theorem dX12_stands_11 : decode cX12_stands 11 = .ok (.iconst 5, 1) := by decide +kernel
theorem dX12_stands_12 : decode cX12_stands 12 = .ok (.iload_n 1, 1) := by decide +kernel
theorem dX12_stands_13 : decode cX12_stands 13 = .ok (.iadd, 1) := by decide +kernel
theorem dX12_stands_14 : decode cX12_stands 14 = .ok (.aload_n 0, 1) := by decide +kernel
theorem dX12_stands_15 : decode cX12_stands 15 = .ok (.getfield 105, 3) := by decide +kernel
theorem dX12_stands_18 : decode cX12_stands 18 = .ok (.iload_n 1, 1) := by decide +kernel
theorem dX12_stands_19 : decode cX12_stands 19 = .ok (.iaload, 1) := by decide +kernel
theorem dX12_stands_20 : decode cX12_stands 20 = .ok (.iastore, 1) := by decide +kernel
theorem dX12_stands_21 : decode cX12_stands 21 = .ok (.iinc 1 1, 3) := by decide +kernel
theorem dX12_stands_24 : decode cX12_stands 24 = .ok (.goto (-22), 3) := by decide +kernel
theorem dX12_stands_27 : decode cX12_stands 27 = .ok (.iconst 0, 1) := by decide +kernel
theorem dX12_stands_28 : decode cX12_stands 28 = .ok (.istore_n 1, 1) := by decide +kernel
theorem dX12_stands_29 : decode cX12_stands 29 = .ok (.iload_n 1, 1) := by decide +kernel
theorem dX12_stands_30 : decode cX12_stands 30 = .ok (.bipush 24, 2) := by decide +kernel
theorem dX12_stands_32 : decode cX12_stands 32 = .ok (.if_icmp .ge 39, 3) := by decide +kernel
theorem dX12_stands_35 : decode cX12_stands 35 = .ok (.aload_n 0, 1) := by decide +kernel
theorem dX12_stands_36 : decode cX12_stands 36 = .ok (.getfield 108, 3) := by decide +kernel
theorem dX12_stands_39 : decode cX12_stands 39 = .ok (.bipush 24, 2) := by decide +kernel
theorem dX12_stands_41 : decode cX12_stands 41 = .ok (.iload_n 1, 1) := by decide +kernel
theorem dX12_stands_42 : decode cX12_stands 42 = .ok (.iadd, 1) := by decide +kernel
theorem dX12_stands_43 : decode cX12_stands 43 = .ok (.aload_n 0, 1) := by decide +kernel
theorem dX12_stands_44 : decode cX12_stands 44 = .ok (.getfield 108, 3) := by decide +kernel
theorem dX12_stands_47 : decode cX12_stands 47 = .ok (.iload_n 1, 1) := by decide +kernel
theorem dX12_stands_48 : decode cX12_stands 48 = .ok (.laload, 1) := by decide +kernel
theorem dX12_stands_49 : decode cX12_stands 49 = .ok (.lastore, 1) := by decide +kernel
theorem dX12_stands_50 : decode cX12_stands 50 = .ok (.aload_n 0, 1) := by decide +kernel
theorem dX12_stands_51 : decode cX12_stands 51 = .ok (.getfield 112, 3) := by decide +kernel
theorem dX12_stands_54 : decode cX12_stands 54 = .ok (.bipush 24, 2) := by decide +kernel
theorem dX12_stands_56 : decode cX12_stands 56 = .ok (.iload_n 1, 1) := by decide +kernel
theorem dX12_stands_57 : decode cX12_stands 57 = .ok (.iadd, 1) := by decide +kernel
theorem dX12_stands_58 : decode cX12_stands 58 = .ok (.aload_n 0, 1) := by decide +kernel
theorem dX12_stands_59 : decode cX12_stands 59 = .ok (.getfield 112, 3) := by decide +kernel
theorem dX12_stands_62 : decode cX12_stands 62 = .ok (.iload_n 1, 1) := by decide +kernel
theorem dX12_stands_63 : decode cX12_stands 63 = .ok (.iaload, 1) := by decide +kernel
theorem dX12_stands_64 : decode cX12_stands 64 = .ok (.iastore, 1) := by decide +kernel
theorem dX12_stands_65 : decode cX12_stands 65 = .ok (.iinc 1 1, 3) := by decide +kernel
theorem dX12_stands_68 : decode cX12_stands 68 = .ok (.goto (-39), 3) := by decide +kernel
theorem dX12_stands_71 : decode cX12_stands 71 = .ok (.iconst 0, 1) := by decide +kernel
theorem dX12_stands_72 : decode cX12_stands 72 = .ok (.istore_n 1, 1) := by decide +kernel
theorem dX12_stands_73 : decode cX12_stands 73 = .ok (.iload_n 1, 1) := by decide +kernel
theorem dX12_stands_74 : decode cX12_stands 74 = .ok (.iconst 4, 1) := by decide +kernel
theorem dX12_stands_75 : decode cX12_stands 75 = .ok (.if_icmp .ge 23, 3) := by decide +kernel
theorem dX12_stands_78 : decode cX12_stands 78 = .ok (.aload_n 0, 1) := by decide +kernel
theorem dX12_stands_79 : decode cX12_stands 79 = .ok (.getfield 115, 3) := by decide +kernel
theorem dX12_stands_82 : decode cX12_stands 82 = .ok (.iconst 4, 1) := by decide +kernel
theorem dX12_stands_83 : decode cX12_stands 83 = .ok (.iload_n 1, 1) := by decide +kernel
theorem dX12_stands_84 : decode cX12_stands 84 = .ok (.iadd, 1) := by decide +kernel
theorem dX12_stands_85 : decode cX12_stands 85 = .ok (.aload_n 0, 1) := by decide +kernel
theorem dX12_stands_86 : decode cX12_stands 86 = .ok (.getfield 115, 3) := by decide +kernel
theorem dX12_stands_89 : decode cX12_stands 89 = .ok (.iload_n 1, 1) := by decide +kernel
theorem dX12_stands_90 : decode cX12_stands 90 = .ok (.iaload, 1) := by decide +kernel
theorem dX12_stands_91 : decode cX12_stands 91 = .ok (.iastore, 1) := by decide +kernel
theorem dX12_stands_92 : decode cX12_stands 92 = .ok (.iinc 1 1, 3) := by decide +kernel
theorem dX12_stands_95 : decode cX12_stands 95 = .ok (.goto (-22), 3) := by decide +kernel
theorem dX12_stands_98 : decode cX12_stands 98 = .ok (.iconst 0, 1) := by decide +kernel
theorem dX12_stands_99 : decode cX12_stands 99 = .ok (.istore_n 1, 1) := by decide +kernel
theorem dX12_stands_100 : decode cX12_stands 100 = .ok (.iload_n 1, 1) := by decide +kernel
theorem dX12_stands_101 : decode cX12_stands 101 = .ok (.bipush 32, 2) := by decide +kernel
theorem dX12_stands_103 : decode cX12_stands 103 = .ok (.if_icmp .ge 24, 3) := by decide +kernel
theorem dX12_stands_106 : decode cX12_stands 106 = .ok (.aload_n 0, 1) := by decide +kernel
theorem dX12_stands_107 : decode cX12_stands 107 = .ok (.getfield 118, 3) := by decide +kernel
theorem dX12_stands_110 : decode cX12_stands 110 = .ok (.bipush 32, 2) := by decide +kernel
theorem dX12_stands_112 : decode cX12_stands 112 = .ok (.iload_n 1, 1) := by decide +kernel
theorem dX12_stands_113 : decode cX12_stands 113 = .ok (.iadd, 1) := by decide +kernel
theorem dX12_stands_114 : decode cX12_stands 114 = .ok (.aload_n 0, 1) := by decide +kernel
theorem dX12_stands_115 : decode cX12_stands 115 = .ok (.getfield 118, 3) := by decide +kernel
theorem dX12_stands_118 : decode cX12_stands 118 = .ok (.iload_n 1, 1) := by decide +kernel
theorem dX12_stands_119 : decode cX12_stands 119 = .ok (.iaload, 1) := by decide +kernel
theorem dX12_stands_120 : decode cX12_stands 120 = .ok (.iastore, 1) := by decide +kernel
theorem dX12_stands_121 : decode cX12_stands 121 = .ok (.iinc 1 1, 3) := by decide +kernel
theorem dX12_stands_124 : decode cX12_stands 124 = .ok (.goto (-24), 3) := by decide +kernel
theorem dX12_stands_127 : decode cX12_stands 127 = .ok (.iconst 0, 1) := by decide +kernel
theorem dX12_stands_128 : decode cX12_stands 128 = .ok (.istore_n 1, 1) := by decide +kernel
theorem dX12_stands_129 : decode cX12_stands 129 = .ok (.iload_n 1, 1) := by decide +kernel
theorem dX12_stands_130 : decode cX12_stands 130 = .ok (.bipush 8, 2) := by decide +kernel
theorem dX12_stands_132 : decode cX12_stands 132 = .ok (.if_icmp .ge 24, 3) := by decide +kernel
theorem dX12_stands_135 : decode cX12_stands 135 = .ok (.aload_n 0, 1) := by decide +kernel
theorem dX12_stands_136 : decode cX12_stands 136 = .ok (.getfield 121, 3) := by decide +kernel
theorem dX12_stands_139 : decode cX12_stands 139 = .ok (.bipush 8, 2) := by decide +kernel
theorem dX12_stands_141 : decode cX12_stands 141 = .ok (.iload_n 1, 1) := by decide +kernel
theorem dX12_stands_142 : decode cX12_stands 142 = .ok (.iadd, 1) := by decide +kernel
theorem dX12_stands_143 : decode cX12_stands 143 = .ok (.aload_n 0, 1) := by decide +kernel
theorem dX12_stands_144 : decode cX12_stands 144 = .ok (.getfield 121, 3) := by decide +kernel
theorem dX12_stands_147 : decode cX12_stands 147 = .ok (.iload_n 1, 1) := by decide +kernel
theorem dX12_stands_148 : decode cX12_stands 148 = .ok (.iaload, 1) := by decide +kernel
theorem dX12_stands_149 : decode cX12_stands 149 = .ok (.iastore, 1) := by decide +kernel
theorem dX12_stands_150 : decode cX12_stands 150 = .ok (.iinc 1 1, 3) := by decide +kernel
theorem dX12_stands_153 : decode cX12_stands 153 = .ok (.goto (-24), 3) := by decide +kernel
theorem dX12_stands_156 : decode cX12_stands 156 = .ok (.iconst 0, 1) := by decide +kernel
theorem dX12_stands_157 : decode cX12_stands 157 = .ok (.istore_n 1, 1) := by decide +kernel
theorem dX12_stands_158 : decode cX12_stands 158 = .ok (.iload_n 1, 1) := by decide +kernel
theorem dX12_stands_159 : decode cX12_stands 159 = .ok (.bipush 64, 2) := by decide +kernel
theorem dX12_stands_161 : decode cX12_stands 161 = .ok (.if_icmp .ge 24, 3) := by decide +kernel
theorem dX12_stands_164 : decode cX12_stands 164 = .ok (.aload_n 0, 1) := by decide +kernel
theorem dX12_stands_165 : decode cX12_stands 165 = .ok (.getfield 124, 3) := by decide +kernel
theorem dX12_stands_168 : decode cX12_stands 168 = .ok (.bipush 64, 2) := by decide +kernel
theorem dX12_stands_170 : decode cX12_stands 170 = .ok (.iload_n 1, 1) := by decide +kernel
theorem dX12_stands_171 : decode cX12_stands 171 = .ok (.iadd, 1) := by decide +kernel
theorem dX12_stands_172 : decode cX12_stands 172 = .ok (.aload_n 0, 1) := by decide +kernel
theorem dX12_stands_173 : decode cX12_stands 173 = .ok (.getfield 124, 3) := by decide +kernel
theorem dX12_stands_176 : decode cX12_stands 176 = .ok (.iload_n 1, 1) := by decide +kernel
theorem dX12_stands_177 : decode cX12_stands 177 = .ok (.iaload, 1) := by decide +kernel
theorem dX12_stands_178 : decode cX12_stands 178 = .ok (.iastore, 1) := by decide +kernel
theorem dX12_stands_179 : decode cX12_stands 179 = .ok (.iinc 1 1, 3) := by decide +kernel
theorem dX12_stands_182 : decode cX12_stands 182 = .ok (.goto (-24), 3) := by decide +kernel
theorem dX12_stands_185 : decode cX12_stands 185 = .ok (.iconst 0, 1) := by decide +kernel
theorem dX12_stands_186 : decode cX12_stands 186 = .ok (.istore_n 1, 1) := by decide +kernel
theorem dX12_stands_187 : decode cX12_stands 187 = .ok (.iload_n 1, 1) := by decide +kernel
theorem dX12_stands_188 : decode cX12_stands 188 = .ok (.bipush 9, 2) := by decide +kernel
theorem dX12_stands_190 : decode cX12_stands 190 = .ok (.if_icmp .ge 24, 3) := by decide +kernel
theorem dX12_stands_193 : decode cX12_stands 193 = .ok (.aload_n 0, 1) := by decide +kernel
theorem dX12_stands_194 : decode cX12_stands 194 = .ok (.getfield 127, 3) := by decide +kernel
theorem dX12_stands_197 : decode cX12_stands 197 = .ok (.bipush 9, 2) := by decide +kernel
theorem dX12_stands_199 : decode cX12_stands 199 = .ok (.iload_n 1, 1) := by decide +kernel
theorem dX12_stands_200 : decode cX12_stands 200 = .ok (.iadd, 1) := by decide +kernel
theorem dX12_stands_201 : decode cX12_stands 201 = .ok (.aload_n 0, 1) := by decide +kernel
theorem dX12_stands_202 : decode cX12_stands 202 = .ok (.getfield 127, 3) := by decide +kernel
theorem dX12_stands_205 : decode cX12_stands 205 = .ok (.iload_n 1, 1) := by decide +kernel
theorem dX12_stands_206 : decode cX12_stands 206 = .ok (.iaload, 1) := by decide +kernel
theorem dX12_stands_207 : decode cX12_stands 207 = .ok (.iastore, 1) := by decide +kernel
theorem dX12_stands_208 : decode cX12_stands 208 = .ok (.iinc 1 1, 3) := by decide +kernel
theorem dX12_stands_211 : decode cX12_stands 211 = .ok (.goto (-24), 3) := by decide +kernel
theorem dX12_stands_214 : decode cX12_stands 214 = .ok (.iconst 0, 1) := by decide +kernel
theorem dX12_stands_215 : decode cX12_stands 215 = .ok (.istore_n 1, 1) := by decide +kernel
theorem dX12_stands_216 : decode cX12_stands 216 = .ok (.iload_n 1, 1) := by decide +kernel
theorem dX12_stands_217 : decode cX12_stands 217 = .ok (.iconst 2, 1) := by decide +kernel
theorem dX12_stands_218 : decode cX12_stands 218 = .ok (.if_icmp .ge 51, 3) := by decide +kernel
theorem dX12_stands_221 : decode cX12_stands 221 = .ok (.aload_n 0, 1) := by decide +kernel
theorem dX12_stands_222 : decode cX12_stands 222 = .ok (.getfield 130, 3) := by decide +kernel
theorem dX12_stands_225 : decode cX12_stands 225 = .ok (.iconst 2, 1) := by decide +kernel
theorem dX12_stands_226 : decode cX12_stands 226 = .ok (.iload_n 1, 1) := by decide +kernel
theorem dX12_stands_227 : decode cX12_stands 227 = .ok (.iadd, 1) := by decide +kernel
theorem dX12_stands_228 : decode cX12_stands 228 = .ok (.aload_n 0, 1) := by decide +kernel
theorem dX12_stands_229 : decode cX12_stands 229 = .ok (.getfield 130, 3) := by decide +kernel
theorem dX12_stands_232 : decode cX12_stands 232 = .ok (.iload_n 1, 1) := by decide +kernel
theorem dX12_stands_233 : decode cX12_stands 233 = .ok (.iaload, 1) := by decide +kernel
theorem dX12_stands_234 : decode cX12_stands 234 = .ok (.iastore, 1) := by decide +kernel
theorem dX12_stands_235 : decode cX12_stands 235 = .ok (.aload_n 0, 1) := by decide +kernel
theorem dX12_stands_236 : decode cX12_stands 236 = .ok (.getfield 133, 3) := by decide +kernel
theorem dX12_stands_239 : decode cX12_stands 239 = .ok (.iconst 2, 1) := by decide +kernel
theorem dX12_stands_240 : decode cX12_stands 240 = .ok (.iload_n 1, 1) := by decide +kernel
theorem dX12_stands_241 : decode cX12_stands 241 = .ok (.iadd, 1) := by decide +kernel
theorem dX12_stands_242 : decode cX12_stands 242 = .ok (.aload_n 0, 1) := by decide +kernel
theorem dX12_stands_243 : decode cX12_stands 243 = .ok (.getfield 133, 3) := by decide +kernel
theorem dX12_stands_246 : decode cX12_stands 246 = .ok (.iload_n 1, 1) := by decide +kernel
theorem dX12_stands_247 : decode cX12_stands 247 = .ok (.iaload, 1) := by decide +kernel
theorem dX12_stands_248 : decode cX12_stands 248 = .ok (.iastore, 1) := by decide +kernel
theorem dX12_stands_249 : decode cX12_stands 249 = .ok (.aload_n 0, 1) := by decide +kernel
theorem dX12_stands_250 : decode cX12_stands 250 = .ok (.getfield 136, 3) := by decide +kernel
theorem dX12_stands_253 : decode cX12_stands 253 = .ok (.iconst 2, 1) := by decide +kernel
theorem dX12_stands_254 : decode cX12_stands 254 = .ok (.iload_n 1, 1) := by decide +kernel
theorem dX12_stands_255 : decode cX12_stands 255 = .ok (.iadd, 1) := by decide +kernel
theorem dX12_stands_256 : decode cX12_stands 256 = .ok (.aload_n 0, 1) := by decide +kernel
theorem dX12_stands_257 : decode cX12_stands 257 = .ok (.getfield 136, 3) := by decide +kernel
theorem dX12_stands_260 : decode cX12_stands 260 = .ok (.iload_n 1, 1) := by decide +kernel
theorem dX12_stands_261 : decode cX12_stands 261 = .ok (.iaload, 1) := by decide +kernel
theorem dX12_stands_262 : decode cX12_stands 262 = .ok (.iastore, 1) := by decide +kernel
theorem dX12_stands_263 : decode cX12_stands 263 = .ok (.iinc 1 1, 3) := by decide +kernel
theorem dX12_stands_266 : decode cX12_stands 266 = .ok (.goto (-50), 3) := by decide +kernel
theorem dX12_stands_269 : decode cX12_stands 269 = .ok (.iconst 0, 1) := by decide +kernel
theorem dX12_stands_270 : decode cX12_stands 270 = .ok (.istore_n 1, 1) := by decide +kernel
theorem dX12_stands_271 : decode cX12_stands 271 = .ok (.iload_n 1, 1) := by decide +kernel
theorem dX12_stands_272 : decode cX12_stands 272 = .ok (.aload_n 0, 1) := by decide +kernel
theorem dX12_stands_273 : decode cX12_stands 273 = .ok (.getfield 367, 3) := by decide +kernel
theorem dX12_stands_276 : decode cX12_stands 276 = .ok (.if_icmp .ge 25, 3) := by decide +kernel
theorem dX12_stands_279 : decode cX12_stands 279 = .ok (.aload_n 0, 1) := by decide +kernel
theorem dX12_stands_280 : decode cX12_stands 280 = .ok (.getfield 139, 3) := by decide +kernel
theorem dX12_stands_283 : decode cX12_stands 283 = .ok (.sipush 1600, 3) := by decide +kernel
theorem dX12_stands_286 : decode cX12_stands 286 = .ok (.iload_n 1, 1) := by decide +kernel
theorem dX12_stands_287 : decode cX12_stands 287 = .ok (.iadd, 1) := by decide +kernel
theorem dX12_stands_288 : decode cX12_stands 288 = .ok (.aload_n 0, 1) := by decide +kernel
theorem dX12_stands_289 : decode cX12_stands 289 = .ok (.getfield 139, 3) := by decide +kernel
theorem dX12_stands_292 : decode cX12_stands 292 = .ok (.iload_n 1, 1) := by decide +kernel
theorem dX12_stands_293 : decode cX12_stands 293 = .ok (.iaload, 1) := by decide +kernel
theorem dX12_stands_294 : decode cX12_stands 294 = .ok (.iastore, 1) := by decide +kernel
theorem dX12_stands_295 : decode cX12_stands 295 = .ok (.iinc 1 1, 3) := by decide +kernel
theorem dX12_stands_298 : decode cX12_stands 298 = .ok (.goto (-27), 3) := by decide +kernel
theorem dX12_stands_301 : decode cX12_stands 301 = .ok (.iconst 0, 1) := by decide +kernel
theorem dX12_stands_302 : decode cX12_stands 302 = .ok (.istore_n 1, 1) := by decide +kernel
theorem dX12_stands_303 : decode cX12_stands 303 = .ok (.iload_n 1, 1) := by decide +kernel
theorem dX12_stands_304 : decode cX12_stands 304 = .ok (.bipush 32, 2) := by decide +kernel
theorem dX12_stands_306 : decode cX12_stands 306 = .ok (.if_icmp .ge 16, 3) := by decide +kernel
theorem dX12_stands_309 : decode cX12_stands 309 = .ok (.aload_n 0, 1) := by decide +kernel
theorem dX12_stands_310 : decode cX12_stands 310 = .ok (.getfield 142, 3) := by decide +kernel
theorem dX12_stands_313 : decode cX12_stands 313 = .ok (.iload_n 1, 1) := by decide +kernel
theorem dX12_stands_314 : decode cX12_stands 314 = .ok (.iconst 0, 1) := by decide +kernel
theorem dX12_stands_315 : decode cX12_stands 315 = .ok (.iastore, 1) := by decide +kernel
theorem dX12_stands_316 : decode cX12_stands 316 = .ok (.iinc 1 1, 3) := by decide +kernel
theorem dX12_stands_319 : decode cX12_stands 319 = .ok (.goto (-16), 3) := by decide +kernel
theorem dX12_stands_322 : decode cX12_stands 322 = .ok (.aload_n 0, 1) := by decide +kernel
theorem dX12_stands_323 : decode cX12_stands 323 = .ok (.invokevirtual 407, 3) := by decide +kernel
theorem dX12_stands_326 : decode cX12_stands 326 = .ok (.iconst 0, 1) := by decide +kernel
theorem dX12_stands_327 : decode cX12_stands 327 = .ok (.istore_n 1, 1) := by decide +kernel
theorem dX12_stands_328 : decode cX12_stands 328 = .ok (.iload_n 1, 1) := by decide +kernel
