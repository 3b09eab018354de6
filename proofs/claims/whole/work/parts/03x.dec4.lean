theorem dX12_feed_21 : decode cX12_feed 21 = .ok (.iadd, 1) := by decide +kernel
theorem dX12_feed_22 : decode cX12_feed 22 = .ok (.iastore, 1) := by decide +kernel
theorem dX12_feed_23 : decode cX12_feed 23 = .ok (.iconst (-1), 1) := by decide +kernel
theorem dX12_feed_24 : decode cX12_feed 24 = .ok (.ireturn, 1) := by decide +kernel
theorem dX12_feed_25 : decode cX12_feed 25 = .ok (.iconst 0, 1) := by decide +kernel
theorem dX12_feed_26 : decode cX12_feed 26 = .ok (.istore 6, 2) := by decide +kernel
theorem dX12_feed_28 : decode cX12_feed 28 = .ok (.iload 6, 2) := by decide +kernel
theorem dX12_feed_30 : decode cX12_feed 30 = .ok (.bipush 20, 2) := by decide +kernel
theorem dX12_feed_32 : decode cX12_feed 32 = .ok (.if_icmp .ge 92, 3) := by decide +kernel
theorem dX12_feed_35 : decode cX12_feed 35 = .ok (.iload 6, 2) := by decide +kernel
theorem dX12_feed_37 : decode cX12_feed 37 = .ok (.iconst 4, 1) := by decide +kernel
theorem dX12_feed_38 : decode cX12_feed 38 = .ok (.if_icmp .ge 7, 3) := by decide +kernel
theorem dX12_feed_41 : decode cX12_feed 41 = .ok (.iload_n 1, 1) := by decide +kernel
theorem dX12_feed_42 : decode cX12_feed 42 = .ok (.goto 39, 3) := by decide +kernel
theorem dX12_feed_45 : decode cX12_feed 45 = .ok (.iload 6, 2) := by decide +kernel
theorem dX12_feed_47 : decode cX12_feed 47 = .ok (.bipush 8, 2) := by decide +kernel
theorem dX12_feed_49 : decode cX12_feed 49 = .ok (.if_icmp .ge 7, 3) := by decide +kernel
theorem dX12_feed_52 : decode cX12_feed 52 = .ok (.iload_n 2, 1) := by decide +kernel
theorem dX12_feed_53 : decode cX12_feed 53 = .ok (.goto 28, 3) := by decide +kernel
theorem dX12_feed_56 : decode cX12_feed 56 = .ok (.iload 6, 2) := by decide +kernel
theorem dX12_feed_58 : decode cX12_feed 58 = .ok (.bipush 12, 2) := by decide +kernel
theorem dX12_feed_60 : decode cX12_feed 60 = .ok (.if_icmp .ge 7, 3) := by decide +kernel
theorem dX12_feed_63 : decode cX12_feed 63 = .ok (.iload_n 3, 1) := by decide +kernel
theorem dX12_feed_64 : decode cX12_feed 64 = .ok (.goto 17, 3) := by decide +kernel
theorem dX12_feed_67 : decode cX12_feed 67 = .ok (.iload 6, 2) := by decide +kernel
theorem dX12_feed_69 : decode cX12_feed 69 = .ok (.bipush 16, 2) := by decide +kernel
theorem dX12_feed_71 : decode cX12_feed 71 = .ok (.if_icmp .ge 8, 3) := by decide +kernel
theorem dX12_feed_74 : decode cX12_feed 74 = .ok (.iload 4, 2) := by decide +kernel
theorem dX12_feed_76 : decode cX12_feed 76 = .ok (.goto 5, 3) := by decide +kernel
theorem dX12_feed_79 : decode cX12_feed 79 = .ok (.iload 5, 2) := by decide +kernel
theorem dX12_feed_81 : decode cX12_feed 81 = .ok (.istore 7, 2) := by decide +kernel
theorem dX12_feed_83 : decode cX12_feed 83 = .ok (.aload_n 0, 1) := by decide +kernel
theorem dX12_feed_84 : decode cX12_feed 84 = .ok (.getfield 7, 3) := by decide +kernel
theorem dX12_feed_87 : decode cX12_feed 87 = .ok (.aload_n 0, 1) := by decide +kernel
theorem dX12_feed_88 : decode cX12_feed 88 = .ok (.getfield 260, 3) := by decide +kernel
theorem dX12_feed_91 : decode cX12_feed 91 = .ok (.iload 7, 2) := by decide +kernel
theorem dX12_feed_93 : decode cX12_feed 93 = .ok (.bipush 8, 2) := by decide +kernel
theorem dX12_feed_95 : decode cX12_feed 95 = .ok (.iconst 3, 1) := by decide +kernel
theorem dX12_feed_96 : decode cX12_feed 96 = .ok (.iload 6, 2) := by decide +kernel
theorem dX12_feed_98 : decode cX12_feed 98 = .ok (.iconst 4, 1) := by decide +kernel
theorem dX12_feed_99 : decode cX12_feed 99 = .ok (.irem, 1) := by decide +kernel
theorem dX12_feed_100 : decode cX12_feed 100 = .ok (.isub, 1) := by decide +kernel
theorem dX12_feed_101 : decode cX12_feed 101 = .ok (.imul, 1) := by decide +kernel
theorem dX12_feed_102 : decode cX12_feed 102 = .ok (.ishr, 1) := by decide +kernel
theorem dX12_feed_103 : decode cX12_feed 103 = .ok (.sipush 255, 3) := by decide +kernel
theorem dX12_feed_106 : decode cX12_feed 106 = .ok (.iand, 1) := by decide +kernel
theorem dX12_feed_107 : decode cX12_feed 107 = .ok (.iastore, 1) := by decide +kernel
theorem dX12_feed_108 : decode cX12_feed 108 = .ok (.aload_n 0, 1) := by decide +kernel
theorem dX12_feed_109 : decode cX12_feed 109 = .ok (.dup, 1) := by decide +kernel
theorem dX12_feed_110 : decode cX12_feed 110 = .ok (.getfield 260, 3) := by decide +kernel
theorem dX12_feed_113 : decode cX12_feed 113 = .ok (.iconst 1, 1) := by decide +kernel
theorem dX12_feed_114 : decode cX12_feed 114 = .ok (.iadd, 1) := by decide +kernel
theorem dX12_feed_115 : decode cX12_feed 115 = .ok (.putfield 260, 3) := by decide +kernel
theorem dX12_feed_118 : decode cX12_feed 118 = .ok (.iinc 6 1, 3) := by decide +kernel
theorem dX12_feed_121 : decode cX12_feed 121 = .ok (.goto (-93), 3) := by decide +kernel
theorem dX12_feed_124 : decode cX12_feed 124 = .ok (.aload_n 0, 1) := by decide +kernel
theorem dX12_feed_125 : decode cX12_feed 125 = .ok (.getfield 260, 3) := by decide +kernel
theorem dX12_feed_128 : decode cX12_feed 128 = .ok (.ireturn, 1) := by decide +kernel
theorem dX12_gift_0 : decode cX12_gift 0 = .ok (.aload_n 0, 1) := by decide +kernel
theorem dX12_gift_1 : decode cX12_gift 1 = .ok (.iload_n 1, 1) := by decide +kernel
theorem dX12_gift_2 : decode cX12_gift 2 = .ok (.invokevirtual 513, 3) := by decide +kernel
theorem dX12_gift_5 : decode cX12_gift 5 = .ok (.ifCond .ne 5, 3) := by decide +kernel
theorem dX12_gift_8 : decode cX12_gift 8 = .ok (.iconst (-1), 1) := by decide +kernel
theorem dX12_gift_9 : decode cX12_gift 9 = .ok (.ireturn, 1) := by decide +kernel
theorem dX12_gift_10 : decode cX12_gift 10 = .ok (.iload_n 2, 1) := by decide +kernel
theorem dX12_gift_11 : decode cX12_gift 11 = .ok (.bipush 10, 2) := by decide +kernel
theorem dX12_gift_13 : decode cX12_gift 13 = .ok (.if_icmp .lt 24, 3) := by decide +kernel
theorem dX12_gift_16 : decode cX12_gift 16 = .ok (.aload_n 0, 1) := by decide +kernel
theorem dX12_gift_17 : decode cX12_gift 17 = .ok (.iload_n 2, 1) := by decide +kernel
theorem dX12_gift_18 : decode cX12_gift 18 = .ok (.bipush 10, 2) := by decide +kernel
theorem dX12_gift_20 : decode cX12_gift 20 = .ok (.isub, 1) := by decide +kernel
theorem dX12_gift_21 : decode cX12_gift 21 = .ok (.invokevirtual 501, 3) := by decide +kernel
theorem dX12_gift_24 : decode cX12_gift 24 = .ok (.ifCond .eq 13, 3) := by decide +kernel
theorem dX12_gift_27 : decode cX12_gift 27 = .ok (.aload_n 0, 1) := by decide +kernel
theorem dX12_gift_28 : decode cX12_gift 28 = .ok (.iload_n 2, 1) := by decide +kernel
theorem dX12_gift_29 : decode cX12_gift 29 = .ok (.bipush 10, 2) := by decide +kernel
theorem dX12_gift_31 : decode cX12_gift 31 = .ok (.isub, 1) := by decide +kernel
theorem dX12_gift_32 : decode cX12_gift 32 = .ok (.iload_n 1, 1) := by decide +kernel
theorem dX12_gift_33 : decode cX12_gift 33 = .ok (.invokevirtual 425, 3) := by decide +kernel
theorem dX12_gift_36 : decode cX12_gift 36 = .ok (.ireturn, 1) := by decide +kernel
theorem dX12_gift_37 : decode cX12_gift 37 = .ok (.iload_n 2, 1) := by decide +kernel
theorem dX12_gift_38 : decode cX12_gift 38 = .ok (.ifCond .ne 14, 3) := by decide +kernel
theorem dX12_gift_41 : decode cX12_gift 41 = .ok (.aload_n 0, 1) := by decide +kernel
theorem dX12_gift_42 : decode cX12_gift 42 = .ok (.getfield 142, 3) := by decide +kernel
theorem dX12_gift_45 : decode cX12_gift 45 = .ok (.iconst 4, 1) := by decide +kernel
theorem dX12_gift_46 : decode cX12_gift 46 = .ok (.iload_n 1, 1) := by decide +kernel
theorem dX12_gift_47 : decode cX12_gift 47 = .ok (.iadd, 1) := by decide +kernel
theorem dX12_gift_48 : decode cX12_gift 48 = .ok (.iaload, 1) := by decide +kernel
theorem dX12_gift_49 : decode cX12_gift 49 = .ok (.goto 4, 3) := by decide +kernel
theorem dX12_gift_52 : decode cX12_gift 52 = .ok (.iconst (-1), 1) := by decide +kernel
theorem dX12_gift_53 : decode cX12_gift 53 = .ok (.ireturn, 1) := by decide +kernel
theorem dX12_fail_0 : decode cX12_fail 0 = .ok (.aload_n 0, 1) := by decide +kernel
theorem dX12_fail_1 : decode cX12_fail 1 = .ok (.getfield 263, 3) := by decide +kernel
theorem dX12_fail_4 : decode cX12_fail 4 = .ok (.ifCond .eq 4, 3) := by decide +kernel
theorem dX12_fail_7 : decode cX12_fail 7 = .ok (.return_, 1) := by decide +kernel
theorem dX12_fail_8 : decode cX12_fail 8 = .ok (.aload_n 0, 1) := by decide +kernel
theorem dX12_fail_9 : decode cX12_fail 9 = .ok (.iload_n 1, 1) := by decide +kernel
theorem dX12_fail_10 : decode cX12_fail 10 = .ok (.putfield 263, 3) := by decide +kernel
theorem dX12_fail_13 : decode cX12_fail 13 = .ok (.aload_n 0, 1) := by decide +kernel
theorem dX12_fail_14 : decode cX12_fail 14 = .ok (.iload_n 2, 1) := by decide +kernel
theorem dX12_fail_15 : decode cX12_fail 15 = .ok (.putfield 266, 3) := by decide +kernel
theorem dX12_fail_18 : decode cX12_fail 18 = .ok (.return_, 1) := by decide +kernel
theorem dX12_giftMany_0 : decode cX12_giftMany 0 = .ok (.aload_n 0, 1) := by decide +kernel
theorem dX12_giftMany_1 : decode cX12_giftMany 1 = .ok (.getfield 105, 3) := by decide +kernel
theorem dX12_giftMany_4 : decode cX12_giftMany 4 = .ok (.bipush 6, 2) := by decide +kernel
theorem dX12_giftMany_6 : decode cX12_giftMany 6 = .ok (.iaload, 1) := by decide +kernel
theorem dX12_giftMany_7 : decode cX12_giftMany 7 = .ok (.ireturn, 1) := by decide +kernel
theorem dX12_qWordOf_0 : decode cX12_qWordOf 0 = .ok (.aload_n 0, 1) := by decide +kernel
theorem dX12_qWordOf_1 : decode cX12_qWordOf 1 = .ok (.invokevirtual 603, 3) := by decide +kernel
theorem dX12_qWordOf_4 : decode cX12_qWordOf 4 = .ok (.istore_n 3, 1) := by decide +kernel
theorem dX12_qWordOf_5 : decode cX12_qWordOf 5 = .ok (.iload_n 3, 1) := by decide +kernel
theorem dX12_qWordOf_6 : decode cX12_qWordOf 6 = .ok (.iload_n 1, 1) := by decide +kernel
theorem dX12_qWordOf_7 : decode cX12_qWordOf 7 = .ok (.if_icmp .lt 20, 3) := by decide +kernel
theorem dX12_qWordOf_10 : decode cX12_qWordOf 10 = .ok (.iload_n 3, 1) := by decide +kernel
theorem dX12_qWordOf_11 : decode cX12_qWordOf 11 = .ok (.iload_n 2, 1) := by decide +kernel
theorem dX12_qWordOf_12 : decode cX12_qWordOf 12 = .ok (.if_icmp .ge 15, 3) := by decide +kernel
theorem dX12_qWordOf_15 : decode cX12_qWordOf 15 = .ok (.aload_n 0, 1) := by decide +kernel
theorem dX12_qWordOf_16 : decode cX12_qWordOf 16 = .ok (.iload_n 3, 1) := by decide +kernel
theorem dX12_qWordOf_17 : decode cX12_qWordOf 17 = .ok (.invokevirtual 606, 3) := by decide +kernel
theorem dX12_qWordOf_20 : decode cX12_qWordOf 20 = .ok (.ifCond .eq 7, 3) := by decide +kernel
theorem dX12_qWordOf_23 : decode cX12_qWordOf 23 = .ok (.iload_n 3, 1) := by decide +kernel
theorem dX12_qWordOf_24 : decode cX12_qWordOf 24 = .ok (.goto 4, 3) := by decide +kernel
theorem dX12_qWordOf_27 : decode cX12_qWordOf 27 = .ok (.iconst (-1), 1) := by decide +kernel
theorem dX12_qWordOf_28 : decode cX12_qWordOf 28 = .ok (.ireturn, 1) := by decide +kernel
theorem dX12_giftOf_0 : decode cX12_giftOf 0 = .ok (.aload_n 0, 1) := by decide +kernel
theorem dX12_giftOf_1 : decode cX12_giftOf 1 = .ok (.getfield 142, 3) := by decide +kernel
theorem dX12_giftOf_4 : decode cX12_giftOf 4 = .ok (.bipush 8, 2) := by decide +kernel
theorem dX12_giftOf_6 : decode cX12_giftOf 6 = .ok (.iconst 3, 1) := by decide +kernel
theorem dX12_giftOf_7 : decode cX12_giftOf 7 = .ok (.iload_n 1, 1) := by decide +kernel
theorem dX12_giftOf_8 : decode cX12_giftOf 8 = .ok (.imul, 1) := by decide +kernel
theorem dX12_giftOf_9 : decode cX12_giftOf 9 = .ok (.iadd, 1) := by decide +kernel
theorem dX12_giftOf_10 : decode cX12_giftOf 10 = .ok (.iconst 2, 1) := by decide +kernel
theorem dX12_giftOf_11 : decode cX12_giftOf 11 = .ok (.iadd, 1) := by decide +kernel
theorem dX12_giftOf_12 : decode cX12_giftOf 12 = .ok (.iaload, 1) := by decide +kernel
theorem dX12_giftOf_13 : decode cX12_giftOf 13 = .ok (.ireturn, 1) := by decide +kernel
theorem dX12_finished_0 : decode cX12_finished 0 = .ok (.iconst 0, 1) := by decide +kernel
theorem dX12_finished_1 : decode cX12_finished 1 = .ok (.istore_n 1, 1) := by decide +kernel
theorem dX12_finished_2 : decode cX12_finished 2 = .ok (.aload_n 0, 1) := by decide +kernel
theorem dX12_finished_3 : decode cX12_finished 3 = .ok (.invokevirtual 527, 3) := by decide +kernel
theorem dX12_finished_6 : decode cX12_finished 6 = .ok (.aload_n 0, 1) := by decide +kernel
theorem dX12_finished_7 : decode cX12_finished 7 = .ok (.invokevirtual 533, 3) := by decide +kernel
theorem dX12_finished_10 : decode cX12_finished 10 = .ok (.aload_n 0, 1) := by decide +kernel
theorem dX12_finished_11 : decode cX12_finished 11 = .ok (.invokevirtual 419, 3) := by decide +kernel
theorem dX12_finished_14 : decode cX12_finished 14 = .ok (.if_icmp .ge 32, 3) := by decide +kernel
theorem dX12_finished_17 : decode cX12_finished 17 = .ok (.iload_n 1, 1) := by decide +kernel
theorem dX12_finished_18 : decode cX12_finished 18 = .ok (.bipush 30, 2) := by decide +kernel
theorem dX12_finished_20 : decode cX12_finished 20 = .ok (.if_icmp .ge 26, 3) := by decide +kernel
theorem dX12_finished_23 : decode cX12_finished 23 = .ok (.aload_n 0, 1) := by decide +kernel
theorem dX12_finished_24 : decode cX12_finished 24 = .ok (.getfield 142, 3) := by decide +kernel
theorem dX12_finished_27 : decode cX12_finished 27 = .ok (.iconst 0, 1) := by decide +kernel
theorem dX12_finished_28 : decode cX12_finished 28 = .ok (.iaload, 1) := by decide +kernel
theorem dX12_finished_29 : decode cX12_finished 29 = .ok (.sipush 999, 3) := by decide +kernel
theorem dX12_finished_32 : decode cX12_finished 32 = .ok (.if_icmp .ge 14, 3) := by decide +kernel
theorem dX12_finished_35 : decode cX12_finished 35 = .ok (.aload_n 0, 1) := by decide +kernel
theorem dX12_finished_36 : decode cX12_finished 36 = .ok (.invokevirtual 530, 3) := by decide +kernel
theorem dX12_finished_39 : decode cX12_finished 39 = .ok (.pop, 1) := by decide +kernel
theorem dX12_finished_40 : decode cX12_finished 40 = .ok (.iinc 1 1, 3) := by decide +kernel
theorem dX12_finished_43 : decode cX12_finished 43 = .ok (.goto (-37), 3) := by decide +kernel
theorem dX12_finished_46 : decode cX12_finished 46 = .ok (.aload_n 0, 1) := by decide +kernel
theorem dX12_finished_47 : decode cX12_finished 47 = .ok (.invokevirtual 533, 3) := by decide +kernel
theorem dX12_finished_50 : decode cX12_finished 50 = .ok (.aload_n 0, 1) := by decide +kernel
theorem dX12_finished_51 : decode cX12_finished 51 = .ok (.invokevirtual 419, 3) := by decide +kernel
theorem dX12_finished_54 : decode cX12_finished 54 = .ok (.if_icmp .ne 7, 3) := by decide +kernel
theorem dX12_finished_57 : decode cX12_finished 57 = .ok (.iconst 1, 1) := by decide +kernel
theorem dX12_finished_58 : decode cX12_finished 58 = .ok (.goto 4, 3) := by decide +kernel
theorem dX12_finished_61 : decode cX12_finished 61 = .ok (.iconst 0, 1) := by decide +kernel
theorem dX12_finished_62 : decode cX12_finished 62 = .ok (.istore_n 2, 1) := by decide +kernel
theorem dX12_finished_63 : decode cX12_finished 63 = .ok (.aload_n 0, 1) := by decide +kernel
theorem dX12_finished_64 : decode cX12_finished 64 = .ok (.invokevirtual 536, 3) := by decide +kernel
theorem dX12_finished_67 : decode cX12_finished 67 = .ok (.iload_n 2, 1) := by decide +kernel
theorem dX12_finished_68 : decode cX12_finished 68 = .ok (.ifCond .eq 7, 3) := by decide +kernel
theorem dX12_finished_71 : decode cX12_finished 71 = .ok (.iload_n 1, 1) := by decide +kernel
theorem dX12_finished_72 : decode cX12_finished 72 = .ok (.goto 4, 3) := by decide +kernel
theorem dX12_finished_75 : decode cX12_finished 75 = .ok (.iconst (-1), 1) := by decide +kernel
theorem dX12_finished_76 : decode cX12_finished 76 = .ok (.ireturn, 1) := by decide +kernel
theorem dX12_qGoesOn_0 : decode cX12_qGoesOn 0 = .ok (.aload_n 0, 1) := by decide +kernel
theorem dX12_qGoesOn_1 : decode cX12_qGoesOn 1 = .ok (.getfield 263, 3) := by decide +kernel
theorem dX12_qGoesOn_4 : decode cX12_qGoesOn 4 = .ok (.ifCond .ne 118, 3) := by decide +kernel
theorem dX12_qGoesOn_7 : decode cX12_qGoesOn 7 = .ok (.aload_n 0, 1) := by decide +kernel
theorem dX12_qGoesOn_8 : decode cX12_qGoesOn 8 = .ok (.invokevirtual 275, 3) := by decide +kernel
theorem dX12_qGoesOn_11 : decode cX12_qGoesOn 11 = .ok (.bipush 41, 2) := by decide +kernel
theorem dX12_qGoesOn_13 : decode cX12_qGoesOn 13 = .ok (.if_icmp .ne 109, 3) := by decide +kernel
theorem dX12_qGoesOn_16 : decode cX12_qGoesOn 16 = .ok (.aload_n 0, 1) := by decide +kernel
theorem dX12_qGoesOn_17 : decode cX12_qGoesOn 17 = .ok (.invokevirtual 621, 3) := by decide +kernel
theorem dX12_qGoesOn_20 : decode cX12_qGoesOn 20 = .ok (.bipush 20, 2) := by decide +kernel
theorem dX12_qGoesOn_22 : decode cX12_qGoesOn 22 = .ok (.if_icmp .eq 21, 3) := by decide +kernel
theorem dX12_qGoesOn_25 : decode cX12_qGoesOn 25 = .ok (.aload_n 0, 1) := by decide +kernel
theorem dX12_qGoesOn_26 : decode cX12_qGoesOn 26 = .ok (.invokevirtual 621, 3) := by decide +kernel
theorem dX12_qGoesOn_29 : decode cX12_qGoesOn 29 = .ok (.bipush 23, 2) := by decide +kernel
theorem dX12_qGoesOn_31 : decode cX12_qGoesOn 31 = .ok (.if_icmp .eq 12, 3) := by decide +kernel
theorem dX12_qGoesOn_34 : decode cX12_qGoesOn 34 = .ok (.aload_n 0, 1) := by decide +kernel
theorem dX12_qGoesOn_35 : decode cX12_qGoesOn 35 = .ok (.invokevirtual 621, 3) := by decide +kernel
theorem dX12_qGoesOn_38 : decode cX12_qGoesOn 38 = .ok (.bipush 24, 2) := by decide +kernel
theorem dX12_qGoesOn_40 : decode cX12_qGoesOn 40 = .ok (.if_icmp .ne 82, 3) := by decide +kernel
theorem dX12_qGoesOn_43 : decode cX12_qGoesOn 43 = .ok (.aload_n 0, 1) := by decide +kernel
theorem dX12_qGoesOn_44 : decode cX12_qGoesOn 44 = .ok (.dup, 1) := by decide +kernel
theorem dX12_qGoesOn_45 : decode cX12_qGoesOn 45 = .ok (.getfield 269, 3) := by decide +kernel
theorem dX12_qGoesOn_48 : decode cX12_qGoesOn 48 = .ok (.iconst 1, 1) := by decide +kernel
theorem dX12_qGoesOn_49 : decode cX12_qGoesOn 49 = .ok (.iadd, 1) := by decide +kernel
theorem dX12_qGoesOn_50 : decode cX12_qGoesOn 50 = .ok (.putfield 269, 3) := by decide +kernel
theorem dX12_qGoesOn_53 : decode cX12_qGoesOn 53 = .ok (.aload_n 0, 1) := by decide +kernel
theorem dX12_qGoesOn_54 : decode cX12_qGoesOn 54 = .ok (.invokevirtual 624, 3) := by decide +kernel
theorem dX12_qGoesOn_57 : decode cX12_qGoesOn 57 = .ok (.aload_n 0, 1) := by decide +kernel
theorem dX12_qGoesOn_58 : decode cX12_qGoesOn 58 = .ok (.dup, 1) := by decide +kernel
theorem dX12_qGoesOn_59 : decode cX12_qGoesOn 59 = .ok (.getfield 355, 3) := by decide +kernel
theorem dX12_qGoesOn_62 : decode cX12_qGoesOn 62 = .ok (.iconst 1, 1) := by decide +kernel
theorem dX12_qGoesOn_63 : decode cX12_qGoesOn 63 = .ok (.isub, 1) := by decide +kernel
theorem dX12_qGoesOn_64 : decode cX12_qGoesOn 64 = .ok (.putfield 355, 3) := by decide +kernel
theorem dX12_qGoesOn_67 : decode cX12_qGoesOn 67 = .ok (.aload_n 0, 1) := by decide +kernel
theorem dX12_qGoesOn_68 : decode cX12_qGoesOn 68 = .ok (.dup, 1) := by decide +kernel
theorem dX12_qGoesOn_69 : decode cX12_qGoesOn 69 = .ok (.getfield 358, 3) := by decide +kernel
theorem dX12_qGoesOn_72 : decode cX12_qGoesOn 72 = .ok (.iconst 1, 1) := by decide +kernel
theorem dX12_qGoesOn_73 : decode cX12_qGoesOn 73 = .ok (.isub, 1) := by decide +kernel
theorem dX12_qGoesOn_74 : decode cX12_qGoesOn 74 = .ok (.putfield 358, 3) := by decide +kernel
theorem dX12_qGoesOn_77 : decode cX12_qGoesOn 77 = .ok (.aload_n 0, 1) := by decide +kernel
theorem dX12_qGoesOn_78 : decode cX12_qGoesOn 78 = .ok (.getfield 251, 3) := by decide +kernel
theorem dX12_qGoesOn_81 : decode cX12_qGoesOn 81 = .ok (.aload_n 0, 1) := by decide +kernel
theorem dX12_qGoesOn_82 : decode cX12_qGoesOn 82 = .ok (.getfield 355, 3) := by decide +kernel
theorem dX12_qGoesOn_85 : decode cX12_qGoesOn 85 = .ok (.iaload, 1) := by decide +kernel
theorem dX12_qGoesOn_86 : decode cX12_qGoesOn 86 = .ok (.bipush 20, 2) := by decide +kernel
theorem dX12_qGoesOn_88 : decode cX12_qGoesOn 88 = .ok (.if_icmp .eq 27, 3) := by decide +kernel
theorem dX12_qGoesOn_91 : decode cX12_qGoesOn 91 = .ok (.aload_n 0, 1) := by decide +kernel
theorem dX12_qGoesOn_92 : decode cX12_qGoesOn 92 = .ok (.aload_n 0, 1) := by decide +kernel
theorem dX12_qGoesOn_93 : decode cX12_qGoesOn 93 = .ok (.getfield 251, 3) := by decide +kernel
theorem dX12_qGoesOn_96 : decode cX12_qGoesOn 96 = .ok (.aload_n 0, 1) := by decide +kernel
theorem dX12_qGoesOn_97 : decode cX12_qGoesOn 97 = .ok (.getfield 355, 3) := by decide +kernel
theorem dX12_qGoesOn_100 : decode cX12_qGoesOn 100 = .ok (.iaload, 1) := by decide +kernel
theorem dX12_qGoesOn_101 : decode cX12_qGoesOn 101 = .ok (.bipush 23, 2) := by decide +kernel
theorem dX12_qGoesOn_103 : decode cX12_qGoesOn 103 = .ok (.if_icmp .ne 7, 3) := by decide +kernel
theorem dX12_qGoesOn_106 : decode cX12_qGoesOn 106 = .ok (.iconst 5, 1) := by decide +kernel
theorem dX12_qGoesOn_107 : decode cX12_qGoesOn 107 = .ok (.goto 5, 3) := by decide +kernel
theorem dX12_qGoesOn_110 : decode cX12_qGoesOn 110 = .ok (.bipush 6, 2) := by decide +kernel
theorem dX12_qGoesOn_112 : decode cX12_qGoesOn 112 = .ok (.invokevirtual 594, 3) := by decide +kernel
theorem dX12_qGoesOn_115 : decode cX12_qGoesOn 115 = .ok (.aload_n 0, 1) := by decide +kernel
theorem dX12_qGoesOn_116 : decode cX12_qGoesOn 116 = .ok (.invokevirtual 618, 3) := by decide +kernel
theorem dX12_qGoesOn_119 : decode cX12_qGoesOn 119 = .ok (.goto (-119), 3) := by decide +kernel
theorem dX12_qGoesOn_122 : decode cX12_qGoesOn 122 = .ok (.aload_n 0, 1) := by decide +kernel
theorem dX12_qGoesOn_123 : decode cX12_qGoesOn 123 = .ok (.bipush 42, 2) := by decide +kernel
theorem dX12_qGoesOn_125 : decode cX12_qGoesOn 125 = .ok (.invokevirtual 297, 3) := by decide +kernel
theorem dX12_qGoesOn_128 : decode cX12_qGoesOn 128 = .ok (.ifCond .ne 12, 3) := by decide +kernel
theorem dX12_qGoesOn_131 : decode cX12_qGoesOn 131 = .ok (.aload_n 0, 1) := by decide +kernel
theorem dX12_qGoesOn_132 : decode cX12_qGoesOn 132 = .ok (.bipush 47, 2) := by decide +kernel
theorem dX12_qGoesOn_134 : decode cX12_qGoesOn 134 = .ok (.invokevirtual 297, 3) := by decide +kernel
theorem dX12_qGoesOn_137 : decode cX12_qGoesOn 137 = .ok (.ifCond .eq 70, 3) := by decide +kernel
theorem dX12_qGoesOn_140 : decode cX12_qGoesOn 140 = .ok (.aload_n 0, 1) := by decide +kernel
theorem dX12_qGoesOn_141 : decode cX12_qGoesOn 141 = .ok (.getfield 7, 3) := by decide +kernel
theorem dX12_qGoesOn_144 : decode cX12_qGoesOn 144 = .ok (.aload_n 0, 1) := by decide +kernel
theorem dX12_qGoesOn_145 : decode cX12_qGoesOn 145 = .ok (.getfield 269, 3) := by decide +kernel
theorem dX12_qGoesOn_148 : decode cX12_qGoesOn 148 = .ok (.iconst 1, 1) := by decide +kernel
theorem dX12_qGoesOn_149 : decode cX12_qGoesOn 149 = .ok (.isub, 1) := by decide +kernel
theorem dX12_qGoesOn_150 : decode cX12_qGoesOn 150 = .ok (.iaload, 1) := by decide +kernel
theorem dX12_qGoesOn_151 : decode cX12_qGoesOn 151 = .ok (.bipush 42, 2) := by decide +kernel
theorem dX12_qGoesOn_153 : decode cX12_qGoesOn 153 = .ok (.if_icmp .ne 7, 3) := by decide +kernel
theorem dX12_qGoesOn_156 : decode cX12_qGoesOn 156 = .ok (.iconst 3, 1) := by decide +kernel
theorem dX12_qGoesOn_157 : decode cX12_qGoesOn 157 = .ok (.goto 4, 3) := by decide +kernel
theorem dX12_qGoesOn_160 : decode cX12_qGoesOn 160 = .ok (.iconst 4, 1) := by decide +kernel
theorem dX12_qGoesOn_161 : decode cX12_qGoesOn 161 = .ok (.istore_n 1, 1) := by decide +kernel
theorem dX12_qGoesOn_162 : decode cX12_qGoesOn 162 = .ok (.aload_n 0, 1) := by decide +kernel
theorem dX12_qGoesOn_163 : decode cX12_qGoesOn 163 = .ok (.iconst 3, 1) := by decide +kernel
theorem dX12_qGoesOn_164 : decode cX12_qGoesOn 164 = .ok (.invokevirtual 627, 3) := by decide +kernel
theorem dX12_qGoesOn_167 : decode cX12_qGoesOn 167 = .ok (.ifCond .ne 11, 3) := by decide +kernel
theorem dX12_qGoesOn_170 : decode cX12_qGoesOn 170 = .ok (.aload_n 0, 1) := by decide +kernel
theorem dX12_qGoesOn_171 : decode cX12_qGoesOn 171 = .ok (.iconst 4, 1) := by decide +kernel
theorem dX12_qGoesOn_172 : decode cX12_qGoesOn 172 = .ok (.invokevirtual 627, 3) := by decide +kernel
theorem dX12_qGoesOn_175 : decode cX12_qGoesOn 175 = .ok (.ifCond .eq 10, 3) := by decide +kernel
theorem dX12_qGoesOn_178 : decode cX12_qGoesOn 178 = .ok (.aload_n 0, 1) := by decide +kernel
theorem dX12_qGoesOn_179 : decode cX12_qGoesOn 179 = .ok (.invokevirtual 600, 3) := by decide +kernel
theorem dX12_qGoesOn_182 : decode cX12_qGoesOn 182 = .ok (.goto (-20), 3) := by decide +kernel
theorem dX12_qGoesOn_185 : decode cX12_qGoesOn 185 = .ok (.aload_n 0, 1) := by decide +kernel
theorem dX12_qGoesOn_186 : decode cX12_qGoesOn 186 = .ok (.getfield 251, 3) := by decide +kernel
theorem dX12_qGoesOn_189 : decode cX12_qGoesOn 189 = .ok (.aload_n 0, 1) := by decide +kernel
theorem dX12_qGoesOn_190 : decode cX12_qGoesOn 190 = .ok (.getfield 355, 3) := by decide +kernel
theorem dX12_qGoesOn_193 : decode cX12_qGoesOn 193 = .ok (.iload_n 1, 1) := by decide +kernel
theorem dX12_qGoesOn_194 : decode cX12_qGoesOn 194 = .ok (.iastore, 1) := by decide +kernel
theorem dX12_qGoesOn_195 : decode cX12_qGoesOn 195 = .ok (.aload_n 0, 1) := by decide +kernel
theorem dX12_qGoesOn_196 : decode cX12_qGoesOn 196 = .ok (.dup, 1) := by decide +kernel
theorem dX12_qGoesOn_197 : decode cX12_qGoesOn 197 = .ok (.getfield 355, 3) := by decide +kernel
theorem dX12_qGoesOn_200 : decode cX12_qGoesOn 200 = .ok (.iconst 1, 1) := by decide +kernel
theorem dX12_qGoesOn_201 : decode cX12_qGoesOn 201 = .ok (.iadd, 1) := by decide +kernel
theorem dX12_qGoesOn_202 : decode cX12_qGoesOn 202 = .ok (.putfield 355, 3) := by decide +kernel
theorem dX12_qGoesOn_205 : decode cX12_qGoesOn 205 = .ok (.iconst 1, 1) := by decide +kernel
theorem dX12_qGoesOn_206 : decode cX12_qGoesOn 206 = .ok (.ireturn, 1) := by decide +kernel
theorem dX12_qGoesOn_207 : decode cX12_qGoesOn 207 = .ok (.aload_n 0, 1) := by decide +kernel
theorem dX12_qGoesOn_208 : decode cX12_qGoesOn 208 = .ok (.bipush 43, 2) := by decide +kernel
theorem dX12_qGoesOn_210 : decode cX12_qGoesOn 210 = .ok (.invokevirtual 297, 3) := by decide +kernel
theorem dX12_qGoesOn_213 : decode cX12_qGoesOn 213 = .ok (.ifCond .ne 12, 3) := by decide +kernel
theorem dX12_qGoesOn_216 : decode cX12_qGoesOn 216 = .ok (.aload_n 0, 1) := by decide +kernel
theorem dX12_qGoesOn_217 : decode cX12_qGoesOn 217 = .ok (.bipush 45, 2) := by decide +kernel
theorem dX12_qGoesOn_219 : decode cX12_qGoesOn 219 = .ok (.invokevirtual 297, 3) := by decide +kernel
theorem dX12_qGoesOn_222 : decode cX12_qGoesOn 222 = .ok (.ifCond .eq 86, 3) := by decide +kernel
theorem dX12_qGoesOn_225 : decode cX12_qGoesOn 225 = .ok (.aload_n 0, 1) := by decide +kernel
theorem dX12_qGoesOn_226 : decode cX12_qGoesOn 226 = .ok (.getfield 7, 3) := by decide +kernel
theorem dX12_qGoesOn_229 : decode cX12_qGoesOn 229 = .ok (.aload_n 0, 1) := by decide +kernel
theorem dX12_qGoesOn_230 : decode cX12_qGoesOn 230 = .ok (.getfield 269, 3) := by decide +kernel
theorem dX12_qGoesOn_233 : decode cX12_qGoesOn 233 = .ok (.iconst 1, 1) := by decide +kernel
theorem dX12_qGoesOn_234 : decode cX12_qGoesOn 234 = .ok (.isub, 1) := by decide +kernel
theorem dX12_qGoesOn_235 : decode cX12_qGoesOn 235 = .ok (.iaload, 1) := by decide +kernel
theorem dX12_qGoesOn_236 : decode cX12_qGoesOn 236 = .ok (.bipush 43, 2) := by decide +kernel
theorem dX12_qGoesOn_238 : decode cX12_qGoesOn 238 = .ok (.if_icmp .ne 7, 3) := by decide +kernel
theorem dX12_qGoesOn_241 : decode cX12_qGoesOn 241 = .ok (.iconst 1, 1) := by decide +kernel
theorem dX12_qGoesOn_242 : decode cX12_qGoesOn 242 = .ok (.goto 4, 3) := by decide +kernel
theorem dX12_qGoesOn_245 : decode cX12_qGoesOn 245 = .ok (.iconst 2, 1) := by decide +kernel
theorem dX12_qGoesOn_246 : decode cX12_qGoesOn 246 = .ok (.istore_n 1, 1) := by decide +kernel
theorem dX12_qGoesOn_247 : decode cX12_qGoesOn 247 = .ok (.aload_n 0, 1) := by decide +kernel
theorem dX12_qGoesOn_248 : decode cX12_qGoesOn 248 = .ok (.iconst 3, 1) := by decide +kernel
theorem dX12_qGoesOn_249 : decode cX12_qGoesOn 249 = .ok (.invokevirtual 627, 3) := by decide +kernel
theorem dX12_qGoesOn_252 : decode cX12_qGoesOn 252 = .ok (.ifCond .ne 27, 3) := by decide +kernel
theorem dX12_qGoesOn_255 : decode cX12_qGoesOn 255 = .ok (.aload_n 0, 1) := by decide +kernel
theorem dX12_qGoesOn_256 : decode cX12_qGoesOn 256 = .ok (.iconst 4, 1) := by decide +kernel
theorem dX12_qGoesOn_257 : decode cX12_qGoesOn 257 = .ok (.invokevirtual 627, 3) := by decide +kernel
theorem dX12_qGoesOn_260 : decode cX12_qGoesOn 260 = .ok (.ifCond .ne 19, 3) := by decide +kernel
theorem dX12_qGoesOn_263 : decode cX12_qGoesOn 263 = .ok (.aload_n 0, 1) := by decide +kernel
theorem dX12_qGoesOn_264 : decode cX12_qGoesOn 264 = .ok (.iconst 1, 1) := by decide +kernel
theorem dX12_qGoesOn_265 : decode cX12_qGoesOn 265 = .ok (.invokevirtual 627, 3) := by decide +kernel
theorem dX12_qGoesOn_268 : decode cX12_qGoesOn 268 = .ok (.ifCond .ne 11, 3) := by decide +kernel
theorem dX12_qGoesOn_271 : decode cX12_qGoesOn 271 = .ok (.aload_n 0, 1) := by decide +kernel
theorem dX12_qGoesOn_272 : decode cX12_qGoesOn 272 = .ok (.iconst 2, 1) := by decide +kernel
theorem dX12_qGoesOn_273 : decode cX12_qGoesOn 273 = .ok (.invokevirtual 627, 3) := by decide +kernel
theorem dX12_qGoesOn_276 : decode cX12_qGoesOn 276 = .ok (.ifCond .eq 10, 3) := by decide +kernel
theorem dX12_qGoesOn_279 : decode cX12_qGoesOn 279 = .ok (.aload_n 0, 1) := by decide +kernel
theorem dX12_qGoesOn_280 : decode cX12_qGoesOn 280 = .ok (.invokevirtual 600, 3) := by decide +kernel
theorem dX12_qGoesOn_283 : decode cX12_qGoesOn 283 = .ok (.goto (-36), 3) := by decide +kernel
theorem dX12_qGoesOn_286 : decode cX12_qGoesOn 286 = .ok (.aload_n 0, 1) := by decide +kernel
theorem dX12_qGoesOn_287 : decode cX12_qGoesOn 287 = .ok (.getfield 251, 3) := by decide +kernel
theorem dX12_qGoesOn_290 : decode cX12_qGoesOn 290 = .ok (.aload_n 0, 1) := by decide +kernel
theorem dX12_qGoesOn_291 : decode cX12_qGoesOn 291 = .ok (.getfield 355, 3) := by decide +kernel
theorem dX12_qGoesOn_294 : decode cX12_qGoesOn 294 = .ok (.iload_n 1, 1) := by decide +kernel
theorem dX12_qGoesOn_295 : decode cX12_qGoesOn 295 = .ok (.iastore, 1) := by decide +kernel
theorem dX12_qGoesOn_296 : decode cX12_qGoesOn 296 = .ok (.aload_n 0, 1) := by decide +kernel
theorem dX12_qGoesOn_297 : decode cX12_qGoesOn 297 = .ok (.dup, 1) := by decide +kernel
theorem dX12_qGoesOn_298 : decode cX12_qGoesOn 298 = .ok (.getfield 355, 3) := by decide +kernel
theorem dX12_qGoesOn_301 : decode cX12_qGoesOn 301 = .ok (.iconst 1, 1) := by decide +kernel
theorem dX12_qGoesOn_302 : decode cX12_qGoesOn 302 = .ok (.iadd, 1) := by decide +kernel
theorem dX12_qGoesOn_303 : decode cX12_qGoesOn 303 = .ok (.putfield 355, 3) := by decide +kernel
theorem dX12_qGoesOn_306 : decode cX12_qGoesOn 306 = .ok (.iconst 1, 1) := by decide +kernel
theorem dX12_qGoesOn_307 : decode cX12_qGoesOn 307 = .ok (.ireturn, 1) := by decide +kernel
theorem dX12_qGoesOn_308 : decode cX12_qGoesOn 308 = .ok (.aload_n 0, 1) := by decide +kernel
theorem dX12_qGoesOn_309 : decode cX12_qGoesOn 309 = .ok (.invokevirtual 621, 3) := by decide +kernel
theorem dX12_qGoesOn_312 : decode cX12_qGoesOn 312 = .ok (.bipush 21, 2) := by decide +kernel
theorem dX12_qGoesOn_314 : decode cX12_qGoesOn 314 = .ok (.if_icmp .eq 12, 3) := by decide +kernel
theorem dX12_qGoesOn_317 : decode cX12_qGoesOn 317 = .ok (.aload_n 0, 1) := by decide +kernel
theorem dX12_qGoesOn_318 : decode cX12_qGoesOn 318 = .ok (.invokevirtual 621, 3) := by decide +kernel
theorem dX12_qGoesOn_321 : decode cX12_qGoesOn 321 = .ok (.bipush 22, 2) := by decide +kernel
theorem dX12_qGoesOn_323 : decode cX12_qGoesOn 323 = .ok (.if_icmp .ne 39, 3) := by decide +kernel
theorem dX12_qGoesOn_326 : decode cX12_qGoesOn 326 = .ok (.aload_n 0, 1) := by decide +kernel
theorem dX12_qGoesOn_327 : decode cX12_qGoesOn 327 = .ok (.bipush 44, 2) := by decide +kernel
theorem dX12_qGoesOn_329 : decode cX12_qGoesOn 329 = .ok (.invokevirtual 395, 3) := by decide +kernel
theorem dX12_qGoesOn_332 : decode cX12_qGoesOn 332 = .ok (.aload_n 0, 1) := by decide +kernel
theorem dX12_qGoesOn_333 : decode cX12_qGoesOn 333 = .ok (.getfield 263, 3) := by decide +kernel
theorem dX12_qGoesOn_336 : decode cX12_qGoesOn 336 = .ok (.ifCond .eq 5, 3) := by decide +kernel
theorem dX12_qGoesOn_339 : decode cX12_qGoesOn 339 = .ok (.iconst 0, 1) := by decide +kernel
theorem dX12_qGoesOn_340 : decode cX12_qGoesOn 340 = .ok (.ireturn, 1) := by decide +kernel
theorem dX12_qGoesOn_341 : decode cX12_qGoesOn 341 = .ok (.aload_n 0, 1) := by decide +kernel
theorem dX12_qGoesOn_342 : decode cX12_qGoesOn 342 = .ok (.invokevirtual 624, 3) := by decide +kernel
theorem dX12_qGoesOn_345 : decode cX12_qGoesOn 345 = .ok (.aload_n 0, 1) := by decide +kernel
theorem dX12_qGoesOn_346 : decode cX12_qGoesOn 346 = .ok (.getfield 251, 3) := by decide +kernel
theorem dX12_qGoesOn_349 : decode cX12_qGoesOn 349 = .ok (.aload_n 0, 1) := by decide +kernel
theorem dX12_qGoesOn_350 : decode cX12_qGoesOn 350 = .ok (.getfield 355, 3) := by decide +kernel
theorem dX12_qGoesOn_353 : decode cX12_qGoesOn 353 = .ok (.iconst 1, 1) := by decide +kernel
theorem dX12_qGoesOn_354 : decode cX12_qGoesOn 354 = .ok (.isub, 1) := by decide +kernel
theorem dX12_qGoesOn_355 : decode cX12_qGoesOn 355 = .ok (.dup2, 1) := by decide +kernel
theorem dX12_qGoesOn_356 : decode cX12_qGoesOn 356 = .ok (.iaload, 1) := by decide +kernel
theorem dX12_qGoesOn_357 : decode cX12_qGoesOn 357 = .ok (.iconst 2, 1) := by decide +kernel
theorem dX12_qGoesOn_358 : decode cX12_qGoesOn 358 = .ok (.iadd, 1) := by decide +kernel
theorem dX12_qGoesOn_359 : decode cX12_qGoesOn 359 = .ok (.iastore, 1) := by decide +kernel
theorem dX12_qGoesOn_360 : decode cX12_qGoesOn 360 = .ok (.iconst 1, 1) := by decide +kernel
theorem dX12_qGoesOn_361 : decode cX12_qGoesOn 361 = .ok (.ireturn, 1) := by decide +kernel
theorem dX12_qGoesOn_362 : decode cX12_qGoesOn 362 = .ok (.aload_n 0, 1) := by decide +kernel
theorem dX12_qGoesOn_363 : decode cX12_qGoesOn 363 = .ok (.invokevirtual 621, 3) := by decide +kernel
theorem dX12_qGoesOn_366 : decode cX12_qGoesOn 366 = .ok (.iconst (-1), 1) := by decide +kernel
theorem dX12_qGoesOn_367 : decode cX12_qGoesOn 367 = .ok (.if_icmp .eq 19, 3) := by decide +kernel
theorem dX12_qGoesOn_370 : decode cX12_qGoesOn 370 = .ok (.aload_n 0, 1) := by decide +kernel
theorem dX12_qGoesOn_371 : decode cX12_qGoesOn 371 = .ok (.getfield 263, 3) := by decide +kernel
theorem dX12_qGoesOn_374 : decode cX12_qGoesOn 374 = .ok (.ifCond .ne 12, 3) := by decide +kernel
theorem dX12_qGoesOn_377 : decode cX12_qGoesOn 377 = .ok (.aload_n 0, 1) := by decide +kernel
theorem dX12_qGoesOn_378 : decode cX12_qGoesOn 378 = .ok (.iconst 1, 1) := by decide +kernel
theorem dX12_qGoesOn_379 : decode cX12_qGoesOn 379 = .ok (.aload_n 0, 1) := by decide +kernel
theorem dX12_qGoesOn_380 : decode cX12_qGoesOn 380 = .ok (.getfield 269, 3) := by decide +kernel
theorem dX12_qGoesOn_383 : decode cX12_qGoesOn 383 = .ok (.invokevirtual 293, 3) := by decide +kernel
theorem dX12_qGoesOn_386 : decode cX12_qGoesOn 386 = .ok (.iconst 0, 1) := by decide +kernel
theorem dX12_qGoesOn_387 : decode cX12_qGoesOn 387 = .ok (.ireturn, 1) := by decide +kernel
theorem dX12_qClip_0 : decode cX12_qClip 0 = .ok (.lload_n 0, 1) := by decide +kernel
theorem dX12_qClip_1 : decode cX12_qClip 1 = .ok (.ldc2_w 648, 3) := by decide +kernel
theorem dX12_qClip_4 : decode cX12_qClip 4 = .ok (.lcmp, 1) := by decide +kernel
theorem dX12_qClip_5 : decode cX12_qClip 5 = .ok (.ifCond .le 9, 3) := by decide +kernel
theorem dX12_qClip_8 : decode cX12_qClip 8 = .ok (.ldc2_w 648, 3) := by decide +kernel
theorem dX12_qClip_11 : decode cX12_qClip 11 = .ok (.goto 18, 3) := by decide +kernel
theorem dX12_qClip_14 : decode cX12_qClip 14 = .ok (.lload_n 0, 1) := by decide +kernel
theorem dX12_qClip_15 : decode cX12_qClip 15 = .ok (.ldc2_w 650, 3) := by decide +kernel
theorem dX12_qClip_18 : decode cX12_qClip 18 = .ok (.lcmp, 1) := by decide +kernel
theorem dX12_qClip_19 : decode cX12_qClip 19 = .ok (.ifCond .ge 9, 3) := by decide +kernel
theorem dX12_qClip_22 : decode cX12_qClip 22 = .ok (.ldc2_w 650, 3) := by decide +kernel
theorem dX12_qClip_25 : decode cX12_qClip 25 = .ok (.goto 4, 3) := by decide +kernel
theorem dX12_qClip_28 : decode cX12_qClip 28 = .ok (.lload_n 0, 1) := by decide +kernel
theorem dX12_qClip_29 : decode cX12_qClip 29 = .ok (.lreturn, 1) := by decide +kernel
theorem dX12_isOwnHere_0 : decode cX12_isOwnHere 0 = .ok (.aload_n 0, 1) := by decide +kernel
theorem dX12_isOwnHere_1 : decode cX12_isOwnHere 1 = .ok (.aload_n 0, 1) := by decide +kernel
theorem dX12_isOwnHere_2 : decode cX12_isOwnHere 2 = .ok (.getfield 20, 3) := by decide +kernel
theorem dX12_isOwnHere_5 : decode cX12_isOwnHere 5 = .ok (.invokevirtual 286, 3) := by decide +kernel
theorem dX12_isOwnHere_8 : decode cX12_isOwnHere 8 = .ok (.ifCond .ne 58, 3) := by decide +kernel
theorem dX12_isOwnHere_11 : decode cX12_isOwnHere 11 = .ok (.aload_n 0, 1) := by decide +kernel
theorem dX12_isOwnHere_12 : decode cX12_isOwnHere 12 = .ok (.aload_n 0, 1) := by decide +kernel
theorem dX12_isOwnHere_13 : decode cX12_isOwnHere 13 = .ok (.getfield 24, 3) := by decide +kernel
theorem dX12_isOwnHere_16 : decode cX12_isOwnHere 16 = .ok (.invokevirtual 286, 3) := by decide +kernel
theorem dX12_isOwnHere_19 : decode cX12_isOwnHere 19 = .ok (.ifCond .ne 47, 3) := by decide +kernel
theorem dX12_isOwnHere_22 : decode cX12_isOwnHere 22 = .ok (.aload_n 0, 1) := by decide +kernel
theorem dX12_isOwnHere_23 : decode cX12_isOwnHere 23 = .ok (.aload_n 0, 1) := by decide +kernel
theorem dX12_isOwnHere_24 : decode cX12_isOwnHere 24 = .ok (.getfield 27, 3) := by decide +kernel
theorem dX12_isOwnHere_27 : decode cX12_isOwnHere 27 = .ok (.invokevirtual 286, 3) := by decide +kernel
theorem dX12_isOwnHere_30 : decode cX12_isOwnHere 30 = .ok (.ifCond .ne 36, 3) := by decide +kernel
theorem dX12_isOwnHere_33 : decode cX12_isOwnHere 33 = .ok (.aload_n 0, 1) := by decide +kernel
theorem dX12_isOwnHere_34 : decode cX12_isOwnHere 34 = .ok (.aload_n 0, 1) := by decide +kernel
theorem dX12_isOwnHere_35 : decode cX12_isOwnHere 35 = .ok (.getfield 30, 3) := by decide +kernel
theorem dX12_isOwnHere_38 : decode cX12_isOwnHere 38 = .ok (.invokevirtual 286, 3) := by decide +kernel
theorem dX12_isOwnHere_41 : decode cX12_isOwnHere 41 = .ok (.ifCond .ne 25, 3) := by decide +kernel
theorem dX12_isOwnHere_44 : decode cX12_isOwnHere 44 = .ok (.aload_n 0, 1) := by decide +kernel
theorem dX12_isOwnHere_45 : decode cX12_isOwnHere 45 = .ok (.aload_n 0, 1) := by decide +kernel
theorem dX12_isOwnHere_46 : decode cX12_isOwnHere 46 = .ok (.getfield 33, 3) := by decide +kernel
theorem dX12_isOwnHere_49 : decode cX12_isOwnHere 49 = .ok (.invokevirtual 286, 3) := by decide +kernel
theorem dX12_isOwnHere_52 : decode cX12_isOwnHere 52 = .ok (.ifCond .ne 14, 3) := by decide +kernel
theorem dX12_isOwnHere_55 : decode cX12_isOwnHere 55 = .ok (.aload_n 0, 1) := by decide +kernel
theorem dX12_isOwnHere_56 : decode cX12_isOwnHere 56 = .ok (.aload_n 0, 1) := by decide +kernel
theorem dX12_isOwnHere_57 : decode cX12_isOwnHere 57 = .ok (.getfield 36, 3) := by decide +kernel
theorem dX12_isOwnHere_60 : decode cX12_isOwnHere 60 = .ok (.invokevirtual 286, 3) := by decide +kernel
theorem dX12_isOwnHere_63 : decode cX12_isOwnHere 63 = .ok (.ifCond .eq 7, 3) := by decide +kernel
theorem dX12_isOwnHere_66 : decode cX12_isOwnHere 66 = .ok (.iconst 1, 1) := by decide +kernel
theorem dX12_isOwnHere_67 : decode cX12_isOwnHere 67 = .ok (.goto 4, 3) := by decide +kernel
theorem dX12_isOwnHere_70 : decode cX12_isOwnHere 70 = .ok (.iconst 0, 1) := by decide +kernel
theorem dX12_isOwnHere_71 : decode cX12_isOwnHere 71 = .ok (.istore_n 1, 1) := by decide +kernel
theorem dX12_isOwnHere_72 : decode cX12_isOwnHere 72 = .ok (.iload_n 1, 1) := by decide +kernel
theorem dX12_isOwnHere_73 : decode cX12_isOwnHere 73 = .ok (.ifCond .ne 69, 3) := by decide +kernel
theorem dX12_isOwnHere_76 : decode cX12_isOwnHere 76 = .ok (.aload_n 0, 1) := by decide +kernel
theorem dX12_isOwnHere_77 : decode cX12_isOwnHere 77 = .ok (.aload_n 0, 1) := by decide +kernel
theorem dX12_isOwnHere_78 : decode cX12_isOwnHere 78 = .ok (.getfield 39, 3) := by decide +kernel
theorem dX12_isOwnHere_81 : decode cX12_isOwnHere 81 = .ok (.invokevirtual 286, 3) := by decide +kernel
theorem dX12_isOwnHere_84 : decode cX12_isOwnHere 84 = .ok (.ifCond .ne 58, 3) := by decide +kernel
theorem dX12_isOwnHere_87 : decode cX12_isOwnHere 87 = .ok (.aload_n 0, 1) := by decide +kernel
theorem dX12_isOwnHere_88 : decode cX12_isOwnHere 88 = .ok (.aload_n 0, 1) := by decide +kernel
theorem dX12_isOwnHere_89 : decode cX12_isOwnHere 89 = .ok (.getfield 42, 3) := by decide +kernel
theorem dX12_isOwnHere_92 : decode cX12_isOwnHere 92 = .ok (.invokevirtual 286, 3) := by decide +kernel
theorem dX12_isOwnHere_95 : decode cX12_isOwnHere 95 = .ok (.ifCond .ne 47, 3) := by decide +kernel
theorem dX12_isOwnHere_98 : decode cX12_isOwnHere 98 = .ok (.aload_n 0, 1) := by decide +kernel
theorem dX12_isOwnHere_99 : decode cX12_isOwnHere 99 = .ok (.aload_n 0, 1) := by decide +kernel
theorem dX12_isOwnHere_100 : decode cX12_isOwnHere 100 = .ok (.getfield 45, 3) := by decide +kernel
theorem dX12_isOwnHere_103 : decode cX12_isOwnHere 103 = .ok (.invokevirtual 286, 3) := by decide +kernel
theorem dX12_isOwnHere_106 : decode cX12_isOwnHere 106 = .ok (.ifCond .ne 36, 3) := by decide +kernel
theorem dX12_isOwnHere_109 : decode cX12_isOwnHere 109 = .ok (.aload_n 0, 1) := by decide +kernel
theorem dX12_isOwnHere_110 : decode cX12_isOwnHere 110 = .ok (.aload_n 0, 1) := by decide +kernel
theorem dX12_isOwnHere_111 : decode cX12_isOwnHere 111 = .ok (.getfield 48, 3) := by decide +kernel
theorem dX12_isOwnHere_114 : decode cX12_isOwnHere 114 = .ok (.invokevirtual 286, 3) := by decide +kernel
theorem dX12_isOwnHere_117 : decode cX12_isOwnHere 117 = .ok (.ifCond .ne 25, 3) := by decide +kernel
theorem dX12_isOwnHere_120 : decode cX12_isOwnHere 120 = .ok (.aload_n 0, 1) := by decide +kernel
theorem dX12_isOwnHere_121 : decode cX12_isOwnHere 121 = .ok (.aload_n 0, 1) := by decide +kernel
theorem dX12_isOwnHere_122 : decode cX12_isOwnHere 122 = .ok (.getfield 51, 3) := by decide +kernel
theorem dX12_isOwnHere_125 : decode cX12_isOwnHere 125 = .ok (.invokevirtual 286, 3) := by decide +kernel
theorem dX12_isOwnHere_128 : decode cX12_isOwnHere 128 = .ok (.ifCond .ne 14, 3) := by decide +kernel
theorem dX12_isOwnHere_131 : decode cX12_isOwnHere 131 = .ok (.aload_n 0, 1) := by decide +kernel
theorem dX12_isOwnHere_132 : decode cX12_isOwnHere 132 = .ok (.aload_n 0, 1) := by decide +kernel
theorem dX12_isOwnHere_133 : decode cX12_isOwnHere 133 = .ok (.getfield 54, 3) := by decide +kernel
theorem dX12_isOwnHere_136 : decode cX12_isOwnHere 136 = .ok (.invokevirtual 286, 3) := by decide +kernel
theorem dX12_isOwnHere_139 : decode cX12_isOwnHere 139 = .ok (.ifCond .eq 7, 3) := by decide +kernel
theorem dX12_isOwnHere_142 : decode cX12_isOwnHere 142 = .ok (.iconst 1, 1) := by decide +kernel
theorem dX12_isOwnHere_143 : decode cX12_isOwnHere 143 = .ok (.goto 4, 3) := by decide +kernel
theorem dX12_isOwnHere_146 : decode cX12_isOwnHere 146 = .ok (.iconst 0, 1) := by decide +kernel
theorem dX12_isOwnHere_147 : decode cX12_isOwnHere 147 = .ok (.istore_n 1, 1) := by decide +kernel
theorem dX12_isOwnHere_148 : decode cX12_isOwnHere 148 = .ok (.iload_n 1, 1) := by decide +kernel
theorem dX12_isOwnHere_149 : decode cX12_isOwnHere 149 = .ok (.ifCond .ne 69, 3) := by decide +kernel
theorem dX12_isOwnHere_152 : decode cX12_isOwnHere 152 = .ok (.aload_n 0, 1) := by decide +kernel
theorem dX12_isOwnHere_153 : decode cX12_isOwnHere 153 = .ok (.aload_n 0, 1) := by decide +kernel
theorem dX12_isOwnHere_154 : decode cX12_isOwnHere 154 = .ok (.getfield 57, 3) := by decide +kernel
theorem dX12_isOwnHere_157 : decode cX12_isOwnHere 157 = .ok (.invokevirtual 286, 3) := by decide +kernel
theorem dX12_isOwnHere_160 : decode cX12_isOwnHere 160 = .ok (.ifCond .ne 58, 3) := by decide +kernel
theorem dX12_isOwnHere_163 : decode cX12_isOwnHere 163 = .ok (.aload_n 0, 1) := by decide +kernel
theorem dX12_isOwnHere_164 : decode cX12_isOwnHere 164 = .ok (.aload_n 0, 1) := by decide +kernel
theorem dX12_isOwnHere_165 : decode cX12_isOwnHere 165 = .ok (.getfield 60, 3) := by decide +kernel
theorem dX12_isOwnHere_168 : decode cX12_isOwnHere 168 = .ok (.invokevirtual 286, 3) := by decide +kernel
theorem dX12_isOwnHere_171 : decode cX12_isOwnHere 171 = .ok (.ifCond .ne 47, 3) := by decide +kernel
theorem dX12_isOwnHere_174 : decode cX12_isOwnHere 174 = .ok (.aload_n 0, 1) := by decide +kernel
theorem dX12_isOwnHere_175 : decode cX12_isOwnHere 175 = .ok (.aload_n 0, 1) := by decide +kernel
theorem dX12_isOwnHere_176 : decode cX12_isOwnHere 176 = .ok (.getfield 63, 3) := by decide +kernel
theorem dX12_isOwnHere_179 : decode cX12_isOwnHere 179 = .ok (.invokevirtual 286, 3) := by decide +kernel
theorem dX12_isOwnHere_182 : decode cX12_isOwnHere 182 = .ok (.ifCond .ne 36, 3) := by decide +kernel
theorem dX12_isOwnHere_185 : decode cX12_isOwnHere 185 = .ok (.aload_n 0, 1) := by decide +kernel
theorem dX12_isOwnHere_186 : decode cX12_isOwnHere 186 = .ok (.aload_n 0, 1) := by decide +kernel
theorem dX12_isOwnHere_187 : decode cX12_isOwnHere 187 = .ok (.getfield 66, 3) := by decide +kernel
theorem dX12_isOwnHere_190 : decode cX12_isOwnHere 190 = .ok (.invokevirtual 286, 3) := by decide +kernel
theorem dX12_isOwnHere_193 : decode cX12_isOwnHere 193 = .ok (.ifCond .ne 25, 3) := by decide +kernel
theorem dX12_isOwnHere_196 : decode cX12_isOwnHere 196 = .ok (.aload_n 0, 1) := by decide +kernel
theorem dX12_isOwnHere_197 : decode cX12_isOwnHere 197 = .ok (.aload_n 0, 1) := by decide +kernel
theorem dX12_isOwnHere_198 : decode cX12_isOwnHere 198 = .ok (.getfield 69, 3) := by decide +kernel
theorem dX12_isOwnHere_201 : decode cX12_isOwnHere 201 = .ok (.invokevirtual 286, 3) := by decide +kernel
theorem dX12_isOwnHere_204 : decode cX12_isOwnHere 204 = .ok (.ifCond .ne 14, 3) := by decide +kernel
theorem dX12_isOwnHere_207 : decode cX12_isOwnHere 207 = .ok (.aload_n 0, 1) := by decide +kernel
theorem dX12_isOwnHere_208 : decode cX12_isOwnHere 208 = .ok (.aload_n 0, 1) := by decide +kernel
theorem dX12_isOwnHere_209 : decode cX12_isOwnHere 209 = .ok (.getfield 72, 3) := by decide +kernel
theorem dX12_isOwnHere_212 : decode cX12_isOwnHere 212 = .ok (.invokevirtual 286, 3) := by decide +kernel
theorem dX12_isOwnHere_215 : decode cX12_isOwnHere 215 = .ok (.ifCond .eq 7, 3) := by decide +kernel
theorem dX12_isOwnHere_218 : decode cX12_isOwnHere 218 = .ok (.iconst 1, 1) := by decide +kernel
theorem dX12_isOwnHere_219 : decode cX12_isOwnHere 219 = .ok (.goto 4, 3) := by decide +kernel
theorem dX12_isOwnHere_222 : decode cX12_isOwnHere 222 = .ok (.iconst 0, 1) := by decide +kernel
theorem dX12_isOwnHere_223 : decode cX12_isOwnHere 223 = .ok (.istore_n 1, 1) := by decide +kernel
theorem dX12_isOwnHere_224 : decode cX12_isOwnHere 224 = .ok (.iload_n 1, 1) := by decide +kernel
theorem dX12_isOwnHere_225 : decode cX12_isOwnHere 225 = .ok (.ifCond .ne 69, 3) := by decide +kernel
theorem dX12_isOwnHere_228 : decode cX12_isOwnHere 228 = .ok (.aload_n 0, 1) := by decide +kernel
theorem dX12_isOwnHere_229 : decode cX12_isOwnHere 229 = .ok (.aload_n 0, 1) := by decide +kernel
theorem dX12_isOwnHere_230 : decode cX12_isOwnHere 230 = .ok (.getfield 75, 3) := by decide +kernel
theorem dX12_isOwnHere_233 : decode cX12_isOwnHere 233 = .ok (.invokevirtual 286, 3) := by decide +kernel
theorem dX12_isOwnHere_236 : decode cX12_isOwnHere 236 = .ok (.ifCond .ne 58, 3) := by decide +kernel
theorem dX12_isOwnHere_239 : decode cX12_isOwnHere 239 = .ok (.aload_n 0, 1) := by decide +kernel
theorem dX12_isOwnHere_240 : decode cX12_isOwnHere 240 = .ok (.aload_n 0, 1) := by decide +kernel
theorem dX12_isOwnHere_241 : decode cX12_isOwnHere 241 = .ok (.getfield 78, 3) := by decide +kernel
theorem dX12_isOwnHere_244 : decode cX12_isOwnHere 244 = .ok (.invokevirtual 286, 3) := by decide +kernel
theorem dX12_isOwnHere_247 : decode cX12_isOwnHere 247 = .ok (.ifCond .ne 47, 3) := by decide +kernel
theorem dX12_isOwnHere_250 : decode cX12_isOwnHere 250 = .ok (.aload_n 0, 1) := by decide +kernel
theorem dX12_isOwnHere_251 : decode cX12_isOwnHere 251 = .ok (.aload_n 0, 1) := by decide +kernel
theorem dX12_isOwnHere_252 : decode cX12_isOwnHere 252 = .ok (.getfield 81, 3) := by decide +kernel
theorem dX12_isOwnHere_255 : decode cX12_isOwnHere 255 = .ok (.invokevirtual 286, 3) := by decide +kernel
theorem dX12_isOwnHere_258 : decode cX12_isOwnHere 258 = .ok (.ifCond .ne 36, 3) := by decide +kernel
theorem dX12_isOwnHere_261 : decode cX12_isOwnHere 261 = .ok (.aload_n 0, 1) := by decide +kernel
theorem dX12_isOwnHere_262 : decode cX12_isOwnHere 262 = .ok (.aload_n 0, 1) := by decide +kernel
theorem dX12_isOwnHere_263 : decode cX12_isOwnHere 263 = .ok (.getfield 84, 3) := by decide +kernel
theorem dX12_isOwnHere_266 : decode cX12_isOwnHere 266 = .ok (.invokevirtual 286, 3) := by decide +kernel
theorem dX12_isOwnHere_269 : decode cX12_isOwnHere 269 = .ok (.ifCond .ne 25, 3) := by decide +kernel
theorem dX12_isOwnHere_272 : decode cX12_isOwnHere 272 = .ok (.aload_n 0, 1) := by decide +kernel
theorem dX12_isOwnHere_273 : decode cX12_isOwnHere 273 = .ok (.aload_n 0, 1) := by decide +kernel
theorem dX12_isOwnHere_274 : decode cX12_isOwnHere 274 = .ok (.getfield 87, 3) := by decide +kernel
theorem dX12_isOwnHere_277 : decode cX12_isOwnHere 277 = .ok (.invokevirtual 286, 3) := by decide +kernel
theorem dX12_isOwnHere_280 : decode cX12_isOwnHere 280 = .ok (.ifCond .ne 14, 3) := by decide +kernel
theorem dX12_isOwnHere_283 : decode cX12_isOwnHere 283 = .ok (.aload_n 0, 1) := by decide +kernel
theorem dX12_isOwnHere_284 : decode cX12_isOwnHere 284 = .ok (.aload_n 0, 1) := by decide +kernel
theorem dX12_isOwnHere_285 : decode cX12_isOwnHere 285 = .ok (.getfield 90, 3) := by decide +kernel
theorem dX12_isOwnHere_288 : decode cX12_isOwnHere 288 = .ok (.invokevirtual 286, 3) := by decide +kernel
theorem dX12_isOwnHere_291 : decode cX12_isOwnHere 291 = .ok (.ifCond .eq 7, 3) := by decide +kernel
theorem dX12_isOwnHere_294 : decode cX12_isOwnHere 294 = .ok (.iconst 1, 1) := by decide +kernel
theorem dX12_isOwnHere_295 : decode cX12_isOwnHere 295 = .ok (.goto 4, 3) := by decide +kernel
theorem dX12_isOwnHere_298 : decode cX12_isOwnHere 298 = .ok (.iconst 0, 1) := by decide +kernel
theorem dX12_isOwnHere_299 : decode cX12_isOwnHere 299 = .ok (.istore_n 1, 1) := by decide +kernel
theorem dX12_isOwnHere_300 : decode cX12_isOwnHere 300 = .ok (.iload_n 1, 1) := by decide +kernel
theorem dX12_isOwnHere_301 : decode cX12_isOwnHere 301 = .ok (.ifCond .ne 47, 3) := by decide +kernel
theorem dX12_isOwnHere_304 : decode cX12_isOwnHere 304 = .ok (.aload_n 0, 1) := by decide +kernel
theorem dX12_isOwnHere_305 : decode cX12_isOwnHere 305 = .ok (.aload_n 0, 1) := by decide +kernel
theorem dX12_isOwnHere_306 : decode cX12_isOwnHere 306 = .ok (.getfield 93, 3) := by decide +kernel
theorem dX12_isOwnHere_309 : decode cX12_isOwnHere 309 = .ok (.invokevirtual 286, 3) := by decide +kernel
theorem dX12_isOwnHere_312 : decode cX12_isOwnHere 312 = .ok (.ifCond .ne 36, 3) := by decide +kernel
theorem dX12_isOwnHere_315 : decode cX12_isOwnHere 315 = .ok (.aload_n 0, 1) := by decide +kernel
theorem dX12_isOwnHere_316 : decode cX12_isOwnHere 316 = .ok (.aload_n 0, 1) := by decide +kernel
theorem dX12_isOwnHere_317 : decode cX12_isOwnHere 317 = .ok (.getfield 96, 3) := by decide +kernel
theorem dX12_isOwnHere_320 : decode cX12_isOwnHere 320 = .ok (.invokevirtual 286, 3) := by decide +kernel
theorem dX12_isOwnHere_323 : decode cX12_isOwnHere 323 = .ok (.ifCond .ne 25, 3) := by decide +kernel
theorem dX12_isOwnHere_326 : decode cX12_isOwnHere 326 = .ok (.aload_n 0, 1) := by decide +kernel
theorem dX12_isOwnHere_327 : decode cX12_isOwnHere 327 = .ok (.aload_n 0, 1) := by decide +kernel
theorem dX12_isOwnHere_328 : decode cX12_isOwnHere 328 = .ok (.getfield 99, 3) := by decide +kernel
theorem dX12_isOwnHere_331 : decode cX12_isOwnHere 331 = .ok (.invokevirtual 286, 3) := by decide +kernel
theorem dX12_isOwnHere_334 : decode cX12_isOwnHere 334 = .ok (.ifCond .ne 14, 3) := by decide +kernel
theorem dX12_isOwnHere_337 : decode cX12_isOwnHere 337 = .ok (.aload_n 0, 1) := by decide +kernel
theorem dX12_isOwnHere_338 : decode cX12_isOwnHere 338 = .ok (.aload_n 0, 1) := by decide +kernel
theorem dX12_isOwnHere_339 : decode cX12_isOwnHere 339 = .ok (.getfield 102, 3) := by decide +kernel
theorem dX12_isOwnHere_342 : decode cX12_isOwnHere 342 = .ok (.invokevirtual 286, 3) := by decide +kernel
theorem dX12_isOwnHere_345 : decode cX12_isOwnHere 345 = .ok (.ifCond .eq 7, 3) := by decide +kernel
theorem dX12_isOwnHere_348 : decode cX12_isOwnHere 348 = .ok (.iconst 1, 1) := by decide +kernel
theorem dX12_isOwnHere_349 : decode cX12_isOwnHere 349 = .ok (.goto 4, 3) := by decide +kernel
theorem dX12_isOwnHere_352 : decode cX12_isOwnHere 352 = .ok (.iconst 0, 1) := by decide +kernel
theorem dX12_isOwnHere_353 : decode cX12_isOwnHere 353 = .ok (.istore_n 1, 1) := by decide +kernel
theorem dX12_isOwnHere_354 : decode cX12_isOwnHere 354 = .ok (.iload_n 1, 1) := by decide +kernel
theorem dX12_isOwnHere_355 : decode cX12_isOwnHere 355 = .ok (.ireturn, 1) := by decide +kernel
theorem dX12_qBracket_0 : decode cX12_qBracket 0 = .ok (.aload_n 0, 1) := by decide +kernel
theorem dX12_qBracket_1 : decode cX12_qBracket 1 = .ok (.getfield 355, 3) := by decide +kernel
theorem dX12_qBracket_4 : decode cX12_qBracket 4 = .ok (.iconst 1, 1) := by decide +kernel
theorem dX12_qBracket_5 : decode cX12_qBracket 5 = .ok (.isub, 1) := by decide +kernel
theorem dX12_qBracket_6 : decode cX12_qBracket 6 = .ok (.istore_n 1, 1) := by decide +kernel
theorem dX12_qBracket_7 : decode cX12_qBracket 7 = .ok (.iload_n 1, 1) := by decide +kernel
theorem dX12_qBracket_8 : decode cX12_qBracket 8 = .ok (.aload_n 0, 1) := by decide +kernel
theorem dX12_qBracket_9 : decode cX12_qBracket 9 = .ok (.getfield 361, 3) := by decide +kernel
theorem dX12_qBracket_12 : decode cX12_qBracket 12 = .ok (.if_icmp .lt 21, 3) := by decide +kernel
theorem dX12_qBracket_15 : decode cX12_qBracket 15 = .ok (.aload_n 0, 1) := by decide +kernel
theorem dX12_qBracket_16 : decode cX12_qBracket 16 = .ok (.getfield 251, 3) := by decide +kernel
theorem dX12_qBracket_19 : decode cX12_qBracket 19 = .ok (.iload_n 1, 1) := by decide +kernel
theorem dX12_qBracket_20 : decode cX12_qBracket 20 = .ok (.iaload, 1) := by decide +kernel
theorem dX12_qBracket_21 : decode cX12_qBracket 21 = .ok (.invokestatic 597, 3) := by decide +kernel
theorem dX12_qBracket_24 : decode cX12_qBracket 24 = .ok (.ifCond .ne 9, 3) := by decide +kernel
theorem dX12_qBracket_27 : decode cX12_qBracket 27 = .ok (.iinc 1 (-1), 3) := by decide +kernel
theorem dX12_qBracket_30 : decode cX12_qBracket 30 = .ok (.goto (-23), 3) := by decide +kernel
theorem dX12_qBracket_33 : decode cX12_qBracket 33 = .ok (.iload_n 1, 1) := by decide +kernel
theorem dX12_qBracket_34 : decode cX12_qBracket 34 = .ok (.aload_n 0, 1) := by decide +kernel
theorem dX12_qBracket_35 : decode cX12_qBracket 35 = .ok (.getfield 361, 3) := by decide +kernel
theorem dX12_qBracket_38 : decode cX12_qBracket 38 = .ok (.if_icmp .lt 12, 3) := by decide +kernel
theorem dX12_qBracket_41 : decode cX12_qBracket 41 = .ok (.aload_n 0, 1) := by decide +kernel
theorem dX12_qBracket_42 : decode cX12_qBracket 42 = .ok (.getfield 251, 3) := by decide +kernel
theorem dX12_qBracket_45 : decode cX12_qBracket 45 = .ok (.iload_n 1, 1) := by decide +kernel
theorem dX12_qBracket_46 : decode cX12_qBracket 46 = .ok (.iaload, 1) := by decide +kernel
theorem dX12_qBracket_47 : decode cX12_qBracket 47 = .ok (.goto 4, 3) := by decide +kernel
theorem dX12_qBracket_50 : decode cX12_qBracket 50 = .ok (.iconst (-1), 1) := by decide +kernel
theorem dX12_qBracket_51 : decode cX12_qBracket 51 = .ok (.ireturn, 1) := by decide +kernel
theorem dX12_letter_0 : decode cX12_letter 0 = .ok (.iload_n 1, 1) := by decide +kernel
theorem dX12_letter_1 : decode cX12_letter 1 = .ok (.i2l, 1) := by decide +kernel
theorem dX12_letter_2 : decode cX12_letter 2 = .ok (.lconst 0, 1) := by decide +kernel
theorem dX12_letter_3 : decode cX12_letter 3 = .ok (.ldc2_w 497, 3) := by decide +kernel
theorem dX12_letter_6 : decode cX12_letter 6 = .ok (.invokestatic 303, 3) := by decide +kernel
theorem dX12_letter_9 : decode cX12_letter 9 = .ok (.ifCond .eq 35, 3) := by decide +kernel
theorem dX12_letter_12 : decode cX12_letter 12 = .ok (.iload_n 2, 1) := by decide +kernel
theorem dX12_letter_13 : decode cX12_letter 13 = .ok (.i2l, 1) := by decide +kernel
theorem dX12_letter_14 : decode cX12_letter 14 = .ok (.lconst 0, 1) := by decide +kernel
theorem dX12_letter_15 : decode cX12_letter 15 = .ok (.aload_n 0, 1) := by decide +kernel
theorem dX12_letter_16 : decode cX12_letter 16 = .ok (.getfield 105, 3) := by decide +kernel
theorem dX12_letter_19 : decode cX12_letter 19 = .ok (.iconst 5, 1) := by decide +kernel
theorem dX12_letter_20 : decode cX12_letter 20 = .ok (.iload_n 1, 1) := by decide +kernel
theorem dX12_letter_21 : decode cX12_letter 21 = .ok (.iadd, 1) := by decide +kernel
theorem dX12_letter_22 : decode cX12_letter 22 = .ok (.iaload, 1) := by decide +kernel
theorem dX12_letter_23 : decode cX12_letter 23 = .ok (.iconst 1, 1) := by decide +kernel
theorem dX12_letter_24 : decode cX12_letter 24 = .ok (.isub, 1) := by decide +kernel
theorem dX12_letter_25 : decode cX12_letter 25 = .ok (.i2l, 1) := by decide +kernel
theorem dX12_letter_26 : decode cX12_letter 26 = .ok (.invokestatic 303, 3) := by decide +kernel
theorem dX12_letter_29 : decode cX12_letter 29 = .ok (.ifCond .eq 15, 3) := by decide +kernel
theorem dX12_letter_32 : decode cX12_letter 32 = .ok (.iload_n 3, 1) := by decide +kernel
theorem dX12_letter_33 : decode cX12_letter 33 = .ok (.i2l, 1) := by decide +kernel
theorem dX12_letter_34 : decode cX12_letter 34 = .ok (.lconst 0, 1) := by decide +kernel
theorem dX12_letter_35 : decode cX12_letter 35 = .ok (.ldc2_w 499, 3) := by decide +kernel
theorem dX12_letter_38 : decode cX12_letter 38 = .ok (.invokestatic 303, 3) := by decide +kernel
theorem dX12_letter_41 : decode cX12_letter 41 = .ok (.ifCond .ne 5, 3) := by decide +kernel
theorem dX12_letter_44 : decode cX12_letter 44 = .ok (.iconst (-1), 1) := by decide +kernel
theorem dX12_letter_45 : decode cX12_letter 45 = .ok (.ireturn, 1) := by decide +kernel
theorem dX12_letter_46 : decode cX12_letter 46 = .ok (.aload_n 0, 1) := by decide +kernel
theorem dX12_letter_47 : decode cX12_letter 47 = .ok (.getfield 108, 3) := by decide +kernel
theorem dX12_letter_50 : decode cX12_letter 50 = .ok (.bipush 24, 2) := by decide +kernel
theorem dX12_letter_52 : decode cX12_letter 52 = .ok (.bipush 8, 2) := by decide +kernel
theorem dX12_letter_54 : decode cX12_letter 54 = .ok (.iload_n 1, 1) := by decide +kernel
theorem dX12_letter_55 : decode cX12_letter 55 = .ok (.imul, 1) := by decide +kernel
theorem dX12_letter_56 : decode cX12_letter 56 = .ok (.iadd, 1) := by decide +kernel
theorem dX12_letter_57 : decode cX12_letter 57 = .ok (.iload_n 2, 1) := by decide +kernel
theorem dX12_letter_58 : decode cX12_letter 58 = .ok (.iadd, 1) := by decide +kernel
theorem dX12_letter_59 : decode cX12_letter 59 = .ok (.laload, 1) := by decide +kernel
theorem dX12_letter_60 : decode cX12_letter 60 = .ok (.lstore 4, 2) := by decide +kernel
theorem dX12_letter_62 : decode cX12_letter 62 = .ok (.iconst 0, 1) := by decide +kernel
theorem dX12_letter_63 : decode cX12_letter 63 = .ok (.istore 6, 2) := by decide +kernel
theorem dX12_letter_65 : decode cX12_letter 65 = .ok (.lload 4, 2) := by decide +kernel
theorem dX12_letter_67 : decode cX12_letter 67 = .ok (.lstore 7, 2) := by decide +kernel
theorem dX12_letter_69 : decode cX12_letter 69 = .ok (.lload 7, 2) := by decide +kernel
theorem dX12_letter_71 : decode cX12_letter 71 = .ok (.lconst 0, 1) := by decide +kernel
theorem dX12_letter_72 : decode cX12_letter 72 = .ok (.lcmp, 1) := by decide +kernel
theorem dX12_letter_73 : decode cX12_letter 73 = .ok (.ifCond .le 17, 3) := by decide +kernel
theorem dX12_letter_76 : decode cX12_letter 76 = .ok (.iinc 6 1, 3) := by decide +kernel
theorem dX12_letter_79 : decode cX12_letter 79 = .ok (.lload 7, 2) := by decide +kernel
theorem dX12_letter_81 : decode cX12_letter 81 = .ok (.ldc2_w 314, 3) := by decide +kernel
theorem dX12_letter_84 : decode cX12_letter 84 = .ok (.ldiv, 1) := by decide +kernel
theorem dX12_letter_85 : decode cX12_letter 85 = .ok (.lstore 7, 2) := by decide +kernel
theorem dX12_letter_87 : decode cX12_letter 87 = .ok (.goto (-18), 3) := by decide +kernel
theorem dX12_letter_90 : decode cX12_letter 90 = .ok (.iload_n 3, 1) := by decide +kernel
theorem dX12_letter_91 : decode cX12_letter 91 = .ok (.iload 6, 2) := by decide +kernel
theorem dX12_letter_93 : decode cX12_letter 93 = .ok (.if_icmp .lt 5, 3) := by decide +kernel
theorem dX12_letter_96 : decode cX12_letter 96 = .ok (.iconst 0, 1) := by decide +kernel
theorem dX12_letter_97 : decode cX12_letter 97 = .ok (.ireturn, 1) := by decide +kernel
theorem dX12_letter_98 : decode cX12_letter 98 = .ok (.iload 6, 2) := by decide +kernel
theorem dX12_letter_100 : decode cX12_letter 100 = .ok (.iconst 1, 1) := by decide +kernel
theorem dX12_letter_101 : decode cX12_letter 101 = .ok (.isub, 1) := by decide +kernel
theorem dX12_letter_102 : decode cX12_letter 102 = .ok (.istore 7, 2) := by decide +kernel
theorem dX12_letter_104 : decode cX12_letter 104 = .ok (.iload 7, 2) := by decide +kernel
theorem dX12_letter_106 : decode cX12_letter 106 = .ok (.iload_n 3, 1) := by decide +kernel
theorem dX12_letter_107 : decode cX12_letter 107 = .ok (.if_icmp .le 17, 3) := by decide +kernel
theorem dX12_letter_110 : decode cX12_letter 110 = .ok (.lload 4, 2) := by decide +kernel
theorem dX12_letter_112 : decode cX12_letter 112 = .ok (.ldc2_w 314, 3) := by decide +kernel
theorem dX12_letter_115 : decode cX12_letter 115 = .ok (.ldiv, 1) := by decide +kernel
theorem dX12_letter_116 : decode cX12_letter 116 = .ok (.lstore 4, 2) := by decide +kernel
theorem dX12_letter_118 : decode cX12_letter 118 = .ok (.iinc 7 (-1), 3) := by decide +kernel
theorem dX12_letter_121 : decode cX12_letter 121 = .ok (.goto (-17), 3) := by decide +kernel
theorem dX12_letter_124 : decode cX12_letter 124 = .ok (.lload 4, 2) := by decide +kernel
theorem dX12_letter_126 : decode cX12_letter 126 = .ok (.ldc2_w 314, 3) := by decide +kernel
theorem dX12_letter_129 : decode cX12_letter 129 = .ok (.lrem, 1) := by decide +kernel
theorem dX12_letter_130 : decode cX12_letter 130 = .ok (.l2i, 1) := by decide +kernel
theorem dX12_letter_131 : decode cX12_letter 131 = .ok (.ireturn, 1) := by decide +kernel
theorem dX12_putsAside_0 : decode cX12_putsAside 0 = .ok (.iconst 0, 1) := by decide +kernel
theorem dX12_putsAside_1 : decode cX12_putsAside 1 = .ok (.istore_n 1, 1) := by decide +kernel
theorem dX12_putsAside_2 : decode cX12_putsAside 2 = .ok (.iload_n 1, 1) := by decide +kernel
theorem dX12_putsAside_3 : decode cX12_putsAside 3 = .ok (.bipush 32, 2) := by decide +kernel
theorem dX12_putsAside_5 : decode cX12_putsAside 5 = .ok (.if_icmp .ge 21, 3) := by decide +kernel
theorem dX12_putsAside_8 : decode cX12_putsAside 8 = .ok (.aload_n 0, 1) := by decide +kernel
theorem dX12_putsAside_9 : decode cX12_putsAside 9 = .ok (.getfield 145, 3) := by decide +kernel
theorem dX12_putsAside_12 : decode cX12_putsAside 12 = .ok (.iload_n 1, 1) := by decide +kernel
theorem dX12_putsAside_13 : decode cX12_putsAside 13 = .ok (.aload_n 0, 1) := by decide +kernel
theorem dX12_putsAside_14 : decode cX12_putsAside 14 = .ok (.getfield 142, 3) := by decide +kernel
theorem dX12_putsAside_17 : decode cX12_putsAside 17 = .ok (.iload_n 1, 1) := by decide +kernel
theorem dX12_putsAside_18 : decode cX12_putsAside 18 = .ok (.iaload, 1) := by decide +kernel
theorem dX12_putsAside_19 : decode cX12_putsAside 19 = .ok (.iastore, 1) := by decide +kernel
theorem dX12_putsAside_20 : decode cX12_putsAside 20 = .ok (.iinc 1 1, 3) := by decide +kernel
theorem dX12_putsAside_23 : decode cX12_putsAside 23 = .ok (.goto (-21), 3) := by decide +kernel
theorem dX12_putsAside_26 : decode cX12_putsAside 26 = .ok (.return_, 1) := by decide +kernel
theorem dX12_isHelper_0 : decode cX12_isHelper 0 = .ok (.iload_n 1, 1) := by decide +kernel
theorem dX12_isHelper_1 : decode cX12_isHelper 1 = .ok (.i2l, 1) := by decide +kernel
theorem dX12_isHelper_2 : decode cX12_isHelper 2 = .ok (.lconst 0, 1) := by decide +kernel
theorem dX12_isHelper_3 : decode cX12_isHelper 3 = .ok (.aload_n 0, 1) := by decide +kernel
theorem dX12_isHelper_4 : decode cX12_isHelper 4 = .ok (.invokevirtual 422, 3) := by decide +kernel
theorem dX12_isHelper_7 : decode cX12_isHelper 7 = .ok (.iconst 1, 1) := by decide +kernel
theorem dX12_isHelper_8 : decode cX12_isHelper 8 = .ok (.isub, 1) := by decide +kernel
theorem dX12_isHelper_9 : decode cX12_isHelper 9 = .ok (.i2l, 1) := by decide +kernel
theorem dX12_isHelper_10 : decode cX12_isHelper 10 = .ok (.invokestatic 303, 3) := by decide +kernel
theorem dX12_isHelper_13 : decode cX12_isHelper 13 = .ok (.ireturn, 1) := by decide +kernel
theorem dX12_laysWarmest_0 : decode cX12_laysWarmest 0 = .ok (.aload_n 0, 1) := by decide +kernel
theorem dX12_laysWarmest_1 : decode cX12_laysWarmest 1 = .ok (.invokevirtual 467, 3) := by decide +kernel
theorem dX12_laysWarmest_4 : decode cX12_laysWarmest 4 = .ok (.iconst 0, 1) := by decide +kernel
theorem dX12_laysWarmest_5 : decode cX12_laysWarmest 5 = .ok (.istore_n 1, 1) := by decide +kernel
theorem dX12_laysWarmest_6 : decode cX12_laysWarmest 6 = .ok (.iload_n 1, 1) := by decide +kernel
theorem dX12_laysWarmest_7 : decode cX12_laysWarmest 7 = .ok (.bipush 8, 2) := by decide +kernel
theorem dX12_laysWarmest_9 : decode cX12_laysWarmest 9 = .ok (.if_icmp .ge 23, 3) := by decide +kernel
theorem dX12_laysWarmest_12 : decode cX12_laysWarmest 12 = .ok (.aload_n 0, 1) := by decide +kernel
theorem dX12_laysWarmest_13 : decode cX12_laysWarmest 13 = .ok (.getfield 148, 3) := by decide +kernel
theorem dX12_laysWarmest_16 : decode cX12_laysWarmest 16 = .ok (.iload_n 1, 1) := by decide +kernel
theorem dX12_laysWarmest_17 : decode cX12_laysWarmest 17 = .ok (.iconst 0, 1) := by decide +kernel
theorem dX12_laysWarmest_18 : decode cX12_laysWarmest 18 = .ok (.iastore, 1) := by decide +kernel
theorem dX12_laysWarmest_19 : decode cX12_laysWarmest 19 = .ok (.aload_n 0, 1) := by decide +kernel
theorem dX12_laysWarmest_20 : decode cX12_laysWarmest 20 = .ok (.getfield 154, 3) := by decide +kernel
theorem dX12_laysWarmest_23 : decode cX12_laysWarmest 23 = .ok (.iload_n 1, 1) := by decide +kernel
theorem dX12_laysWarmest_24 : decode cX12_laysWarmest 24 = .ok (.iconst 0, 1) := by decide +kernel
theorem dX12_laysWarmest_25 : decode cX12_laysWarmest 25 = .ok (.iastore, 1) := by decide +kernel
theorem dX12_laysWarmest_26 : decode cX12_laysWarmest 26 = .ok (.iinc 1 1, 3) := by decide +kernel
theorem dX12_laysWarmest_29 : decode cX12_laysWarmest 29 = .ok (.goto (-23), 3) := by decide +kernel
theorem dX12_laysWarmest_32 : decode cX12_laysWarmest 32 = .ok (.iconst 0, 1) := by decide +kernel
theorem dX12_laysWarmest_33 : decode cX12_laysWarmest 33 = .ok (.istore_n 1, 1) := by decide +kernel
theorem dX12_laysWarmest_34 : decode cX12_laysWarmest 34 = .ok (.iload_n 1, 1) := by decide +kernel
theorem dX12_laysWarmest_35 : decode cX12_laysWarmest 35 = .ok (.aload_n 0, 1) := by decide +kernel
theorem dX12_laysWarmest_36 : decode cX12_laysWarmest 36 = .ok (.invokevirtual 419, 3) := by decide +kernel
theorem dX12_laysWarmest_39 : decode cX12_laysWarmest 39 = .ok (.if_icmp .ge 31, 3) := by decide +kernel
theorem dX12_laysWarmest_42 : decode cX12_laysWarmest 42 = .ok (.aload_n 0, 1) := by decide +kernel
theorem dX12_laysWarmest_43 : decode cX12_laysWarmest 43 = .ok (.getfield 151, 3) := by decide +kernel
theorem dX12_laysWarmest_46 : decode cX12_laysWarmest 46 = .ok (.iload_n 1, 1) := by decide +kernel
theorem dX12_laysWarmest_47 : decode cX12_laysWarmest 47 = .ok (.aload_n 0, 1) := by decide +kernel
theorem dX12_laysWarmest_48 : decode cX12_laysWarmest 48 = .ok (.iload_n 1, 1) := by decide +kernel
theorem dX12_laysWarmest_49 : decode cX12_laysWarmest 49 = .ok (.invokevirtual 451, 3) := by decide +kernel
theorem dX12_laysWarmest_52 : decode cX12_laysWarmest 52 = .ok (.ifCond .ne 10, 3) := by decide +kernel
theorem dX12_laysWarmest_55 : decode cX12_laysWarmest 55 = .ok (.aload_n 0, 1) := by decide +kernel
theorem dX12_laysWarmest_56 : decode cX12_laysWarmest 56 = .ok (.invokevirtual 422, 3) := by decide +kernel
theorem dX12_laysWarmest_59 : decode cX12_laysWarmest 59 = .ok (.goto 4, 3) := by decide +kernel
theorem dX12_laysWarmest_62 : decode cX12_laysWarmest 62 = .ok (.iconst 0, 1) := by decide +kernel
theorem dX12_laysWarmest_63 : decode cX12_laysWarmest 63 = .ok (.iastore, 1) := by decide +kernel
theorem dX12_laysWarmest_64 : decode cX12_laysWarmest 64 = .ok (.iinc 1 1, 3) := by decide +kernel
theorem dX12_laysWarmest_67 : decode cX12_laysWarmest 67 = .ok (.goto (-33), 3) := by decide +kernel
theorem dX12_laysWarmest_70 : decode cX12_laysWarmest 70 = .ok (.iconst 0, 1) := by decide +kernel
theorem dX12_laysWarmest_71 : decode cX12_laysWarmest 71 = .ok (.istore_n 1, 1) := by decide +kernel
theorem dX12_laysWarmest_72 : decode cX12_laysWarmest 72 = .ok (.aload_n 0, 1) := by decide +kernel
theorem dX12_laysWarmest_73 : decode cX12_laysWarmest 73 = .ok (.lconst 0, 1) := by decide +kernel
theorem dX12_laysWarmest_74 : decode cX12_laysWarmest 74 = .ok (.putfield 470, 3) := by decide +kernel
theorem dX12_laysWarmest_77 : decode cX12_laysWarmest 77 = .ok (.aload_n 0, 1) := by decide +kernel
theorem dX12_laysWarmest_78 : decode cX12_laysWarmest 78 = .ok (.invokevirtual 473, 3) := by decide +kernel
theorem dX12_laysWarmest_81 : decode cX12_laysWarmest 81 = .ok (.ifCond .eq 85, 3) := by decide +kernel
theorem dX12_laysWarmest_84 : decode cX12_laysWarmest 84 = .ok (.aload_n 0, 1) := by decide +kernel
theorem dX12_laysWarmest_85 : decode cX12_laysWarmest 85 = .ok (.invokevirtual 476, 3) := by decide +kernel
theorem dX12_laysWarmest_88 : decode cX12_laysWarmest 88 = .ok (.istore_n 2, 1) := by decide +kernel
theorem dX12_laysWarmest_89 : decode cX12_laysWarmest 89 = .ok (.iload_n 2, 1) := by decide +kernel
theorem dX12_laysWarmest_90 : decode cX12_laysWarmest 90 = .ok (.iload_n 1, 1) := by decide +kernel
theorem dX12_laysWarmest_91 : decode cX12_laysWarmest 91 = .ok (.if_icmp .lt (-14), 3) := by decide +kernel
theorem dX12_laysWarmest_94 : decode cX12_laysWarmest 94 = .ok (.aload_n 0, 1) := by decide +kernel
theorem dX12_laysWarmest_95 : decode cX12_laysWarmest 95 = .ok (.invokevirtual 479, 3) := by decide +kernel
theorem dX12_laysWarmest_98 : decode cX12_laysWarmest 98 = .ok (.ifCond .ne 6, 3) := by decide +kernel
theorem dX12_laysWarmest_101 : decode cX12_laysWarmest 101 = .ok (.goto (-24), 3) := by decide +kernel
theorem dX12_laysWarmest_104 : decode cX12_laysWarmest 104 = .ok (.aload_n 0, 1) := by decide +kernel
theorem dX12_laysWarmest_105 : decode cX12_laysWarmest 105 = .ok (.invokevirtual 482, 3) := by decide +kernel
theorem dX12_laysWarmest_108 : decode cX12_laysWarmest 108 = .ok (.lstore_n 3, 1) := by decide +kernel
theorem dX12_laysWarmest_109 : decode cX12_laysWarmest 109 = .ok (.iload_n 2, 1) := by decide +kernel
theorem dX12_laysWarmest_110 : decode cX12_laysWarmest 110 = .ok (.iload_n 1, 1) := by decide +kernel
theorem dX12_laysWarmest_111 : decode cX12_laysWarmest 111 = .ok (.if_icmp .ne 15, 3) := by decide +kernel
theorem dX12_laysWarmest_114 : decode cX12_laysWarmest 114 = .ok (.lload_n 3, 1) := by decide +kernel
theorem dX12_laysWarmest_115 : decode cX12_laysWarmest 115 = .ok (.aload_n 0, 1) := by decide +kernel
theorem dX12_laysWarmest_116 : decode cX12_laysWarmest 116 = .ok (.getfield 470, 3) := by decide +kernel
theorem dX12_laysWarmest_119 : decode cX12_laysWarmest 119 = .ok (.lcmp, 1) := by decide +kernel
theorem dX12_laysWarmest_120 : decode cX12_laysWarmest 120 = .ok (.ifCond .gt 6, 3) := by decide +kernel
theorem dX12_laysWarmest_123 : decode cX12_laysWarmest 123 = .ok (.goto (-46), 3) := by decide +kernel
theorem dX12_laysWarmest_126 : decode cX12_laysWarmest 126 = .ok (.iload_n 2, 1) := by decide +kernel
theorem dX12_laysWarmest_127 : decode cX12_laysWarmest 127 = .ok (.istore_n 1, 1) := by decide +kernel
theorem dX12_laysWarmest_128 : decode cX12_laysWarmest 128 = .ok (.aload_n 0, 1) := by decide +kernel
theorem dX12_laysWarmest_129 : decode cX12_laysWarmest 129 = .ok (.lload_n 3, 1) := by decide +kernel
theorem dX12_laysWarmest_130 : decode cX12_laysWarmest 130 = .ok (.putfield 470, 3) := by decide +kernel
theorem dX12_laysWarmest_133 : decode cX12_laysWarmest 133 = .ok (.iconst 0, 1) := by decide +kernel
theorem dX12_laysWarmest_134 : decode cX12_laysWarmest 134 = .ok (.istore 5, 2) := by decide +kernel
theorem dX12_laysWarmest_136 : decode cX12_laysWarmest 136 = .ok (.iload 5, 2) := by decide +kernel
theorem dX12_laysWarmest_138 : decode cX12_laysWarmest 138 = .ok (.bipush 8, 2) := by decide +kernel
theorem dX12_laysWarmest_140 : decode cX12_laysWarmest 140 = .ok (.if_icmp .ge 23, 3) := by decide +kernel
theorem dX12_laysWarmest_143 : decode cX12_laysWarmest 143 = .ok (.aload_n 0, 1) := by decide +kernel
theorem dX12_laysWarmest_144 : decode cX12_laysWarmest 144 = .ok (.getfield 154, 3) := by decide +kernel
theorem dX12_laysWarmest_147 : decode cX12_laysWarmest 147 = .ok (.iload 5, 2) := by decide +kernel
theorem dX12_laysWarmest_149 : decode cX12_laysWarmest 149 = .ok (.aload_n 0, 1) := by decide +kernel
theorem dX12_laysWarmest_150 : decode cX12_laysWarmest 150 = .ok (.getfield 148, 3) := by decide +kernel
theorem dX12_laysWarmest_153 : decode cX12_laysWarmest 153 = .ok (.iload 5, 2) := by decide +kernel
theorem dX12_laysWarmest_155 : decode cX12_laysWarmest 155 = .ok (.iaload, 1) := by decide +kernel
theorem dX12_laysWarmest_156 : decode cX12_laysWarmest 156 = .ok (.iastore, 1) := by decide +kernel
theorem dX12_laysWarmest_157 : decode cX12_laysWarmest 157 = .ok (.iinc 5 1, 3) := by decide +kernel
theorem dX12_laysWarmest_160 : decode cX12_laysWarmest 160 = .ok (.goto (-24), 3) := by decide +kernel
theorem dX12_laysWarmest_163 : decode cX12_laysWarmest 163 = .ok (.goto (-86), 3) := by decide +kernel
theorem dX12_laysWarmest_166 : decode cX12_laysWarmest 166 = .ok (.iload_n 1, 1) := by decide +kernel
theorem dX12_laysWarmest_167 : decode cX12_laysWarmest 167 = .ok (.ireturn, 1) := by decide +kernel
theorem dX12_can_0 : decode cX12_can 0 = .ok (.aload_n 0, 1) := by decide +kernel
theorem dX12_can_1 : decode cX12_can 1 = .ok (.iload_n 1, 1) := by decide +kernel
theorem dX12_can_2 : decode cX12_can 2 = .ok (.invokevirtual 501, 3) := by decide +kernel
theorem dX12_can_5 : decode cX12_can 5 = .ok (.ifCond .eq 28, 3) := by decide +kernel
theorem dX12_can_8 : decode cX12_can 8 = .ok (.aload_n 0, 1) := by decide +kernel
theorem dX12_can_9 : decode cX12_can 9 = .ok (.iload_n 2, 1) := by decide +kernel
theorem dX12_can_10 : decode cX12_can 10 = .ok (.invokevirtual 516, 3) := by decide +kernel
theorem dX12_can_13 : decode cX12_can 13 = .ok (.ifCond .eq 20, 3) := by decide +kernel
theorem dX12_can_16 : decode cX12_can 16 = .ok (.aload_n 0, 1) := by decide +kernel
theorem dX12_can_17 : decode cX12_can 17 = .ok (.iload_n 1, 1) := by decide +kernel
theorem dX12_can_18 : decode cX12_can 18 = .ok (.iload_n 2, 1) := by decide +kernel
theorem dX12_can_19 : decode cX12_can 19 = .ok (.invokevirtual 521, 3) := by decide +kernel
theorem dX12_can_22 : decode cX12_can 22 = .ok (.ifCond .eq 7, 3) := by decide +kernel
theorem dX12_can_25 : decode cX12_can 25 = .ok (.iconst 1, 1) := by decide +kernel
theorem dX12_can_26 : decode cX12_can 26 = .ok (.goto 8, 3) := by decide +kernel
theorem dX12_can_29 : decode cX12_can 29 = .ok (.iconst 0, 1) := by decide +kernel
theorem dX12_can_30 : decode cX12_can 30 = .ok (.goto 4, 3) := by decide +kernel
theorem dX12_can_33 : decode cX12_can 33 = .ok (.iconst (-1), 1) := by decide +kernel
theorem dX12_can_34 : decode cX12_can 34 = .ok (.ireturn, 1) := by decide +kernel
theorem dX12_qJoins_0 : decode cX12_qJoins 0 = .ok (.aload_n 0, 1) := by decide +kernel
theorem dX12_qJoins_1 : decode cX12_qJoins 1 = .ok (.getfield 254, 3) := by decide +kernel
theorem dX12_qJoins_4 : decode cX12_qJoins 4 = .ok (.aload_n 0, 1) := by decide +kernel
theorem dX12_qJoins_5 : decode cX12_qJoins 5 = .ok (.getfield 431, 3) := by decide +kernel
theorem dX12_qJoins_8 : decode cX12_qJoins 8 = .ok (.iconst 1, 1) := by decide +kernel
theorem dX12_qJoins_9 : decode cX12_qJoins 9 = .ok (.isub, 1) := by decide +kernel
theorem dX12_qJoins_10 : decode cX12_qJoins 10 = .ok (.laload, 1) := by decide +kernel
theorem dX12_qJoins_11 : decode cX12_qJoins 11 = .ok (.lstore_n 2, 1) := by decide +kernel
theorem dX12_qJoins_12 : decode cX12_qJoins 12 = .ok (.aload_n 0, 1) := by decide +kernel
theorem dX12_qJoins_13 : decode cX12_qJoins 13 = .ok (.getfield 254, 3) := by decide +kernel
theorem dX12_qJoins_16 : decode cX12_qJoins 16 = .ok (.aload_n 0, 1) := by decide +kernel
theorem dX12_qJoins_17 : decode cX12_qJoins 17 = .ok (.getfield 431, 3) := by decide +kernel
theorem dX12_qJoins_20 : decode cX12_qJoins 20 = .ok (.iconst 2, 1) := by decide +kernel
theorem dX12_qJoins_21 : decode cX12_qJoins 21 = .ok (.isub, 1) := by decide +kernel
theorem dX12_qJoins_22 : decode cX12_qJoins 22 = .ok (.laload, 1) := by decide +kernel
theorem dX12_qJoins_23 : decode cX12_qJoins 23 = .ok (.lstore 4, 2) := by decide +kernel
theorem dX12_qJoins_25 : decode cX12_qJoins 25 = .ok (.aload_n 0, 1) := by decide +kernel
theorem dX12_qJoins_26 : decode cX12_qJoins 26 = .ok (.dup, 1) := by decide +kernel
theorem dX12_qJoins_27 : decode cX12_qJoins 27 = .ok (.getfield 431, 3) := by decide +kernel
theorem dX12_qJoins_30 : decode cX12_qJoins 30 = .ok (.iconst 2, 1) := by decide +kernel
theorem dX12_qJoins_31 : decode cX12_qJoins 31 = .ok (.isub, 1) := by decide +kernel
theorem dX12_qJoins_32 : decode cX12_qJoins 32 = .ok (.putfield 431, 3) := by decide +kernel
theorem dX12_qJoins_35 : decode cX12_qJoins 35 = .ok (.iload_n 1, 1) := by decide +kernel
theorem dX12_qJoins_36 : decode cX12_qJoins 36 = .ok (.tableswitch 219 1 10 #[56, 70, 84, 98, 111, 131, 151, 170, 189, 208], 56) := by decide +kernel
theorem dX12_qJoins_92 : decode cX12_qJoins 92 = .ok (.aload_n 0, 1) := by decide +kernel
theorem dX12_qJoins_93 : decode cX12_qJoins 93 = .ok (.lload 4, 2) := by decide +kernel
theorem dX12_qJoins_95 : decode cX12_qJoins 95 = .ok (.lload_n 2, 1) := by decide +kernel
theorem dX12_qJoins_96 : decode cX12_qJoins 96 = .ok (.ladd, 1) := by decide +kernel
theorem dX12_qJoins_97 : decode cX12_qJoins 97 = .ok (.invokestatic 652, 3) := by decide +kernel
theorem dX12_qJoins_100 : decode cX12_qJoins 100 = .ok (.invokevirtual 434, 3) := by decide +kernel
theorem dX12_qJoins_103 : decode cX12_qJoins 103 = .ok (.goto 170, 3) := by decide +kernel
theorem dX12_qJoins_106 : decode cX12_qJoins 106 = .ok (.aload_n 0, 1) := by decide +kernel
theorem dX12_qJoins_107 : decode cX12_qJoins 107 = .ok (.lload 4, 2) := by decide +kernel
theorem dX12_qJoins_109 : decode cX12_qJoins 109 = .ok (.lload_n 2, 1) := by decide +kernel
theorem dX12_qJoins_110 : decode cX12_qJoins 110 = .ok (.lsub, 1) := by decide +kernel
theorem dX12_qJoins_111 : decode cX12_qJoins 111 = .ok (.invokestatic 652, 3) := by decide +kernel
theorem dX12_qJoins_114 : decode cX12_qJoins 114 = .ok (.invokevirtual 434, 3) := by decide +kernel
theorem dX12_qJoins_117 : decode cX12_qJoins 117 = .ok (.goto 156, 3) := by decide +kernel
theorem dX12_qJoins_120 : decode cX12_qJoins 120 = .ok (.aload_n 0, 1) := by decide +kernel
theorem dX12_qJoins_121 : decode cX12_qJoins 121 = .ok (.lload 4, 2) := by decide +kernel
theorem dX12_qJoins_123 : decode cX12_qJoins 123 = .ok (.lload_n 2, 1) := by decide +kernel
theorem dX12_qJoins_124 : decode cX12_qJoins 124 = .ok (.lmul, 1) := by decide +kernel
theorem dX12_qJoins_125 : decode cX12_qJoins 125 = .ok (.invokestatic 652, 3) := by decide +kernel
theorem dX12_qJoins_128 : decode cX12_qJoins 128 = .ok (.invokevirtual 434, 3) := by decide +kernel
theorem dX12_qJoins_131 : decode cX12_qJoins 131 = .ok (.goto 142, 3) := by decide +kernel
theorem dX12_qJoins_134 : decode cX12_qJoins 134 = .ok (.aload_n 0, 1) := by decide +kernel
theorem dX12_qJoins_135 : decode cX12_qJoins 135 = .ok (.lload 4, 2) := by decide +kernel
theorem dX12_qJoins_137 : decode cX12_qJoins 137 = .ok (.lload_n 2, 1) := by decide +kernel
theorem dX12_qJoins_138 : decode cX12_qJoins 138 = .ok (.invokestatic 656, 3) := by decide +kernel
theorem dX12_qJoins_141 : decode cX12_qJoins 141 = .ok (.invokevirtual 434, 3) := by decide +kernel
theorem dX12_qJoins_144 : decode cX12_qJoins 144 = .ok (.goto 129, 3) := by decide +kernel
theorem dX12_qJoins_147 : decode cX12_qJoins 147 = .ok (.aload_n 0, 1) := by decide +kernel
theorem dX12_qJoins_148 : decode cX12_qJoins 148 = .ok (.lload 4, 2) := by decide +kernel
theorem dX12_qJoins_150 : decode cX12_qJoins 150 = .ok (.lload_n 2, 1) := by decide +kernel
theorem dX12_qJoins_151 : decode cX12_qJoins 151 = .ok (.lcmp, 1) := by decide +kernel
theorem dX12_qJoins_152 : decode cX12_qJoins 152 = .ok (.ifCond .ge 8, 3) := by decide +kernel
theorem dX12_qJoins_155 : decode cX12_qJoins 155 = .ok (.lload 4, 2) := by decide +kernel
theorem dX12_qJoins_157 : decode cX12_qJoins 157 = .ok (.goto 4, 3) := by decide +kernel
theorem dX12_qJoins_160 : decode cX12_qJoins 160 = .ok (.lload_n 2, 1) := by decide +kernel
theorem dX12_qJoins_161 : decode cX12_qJoins 161 = .ok (.invokevirtual 434, 3) := by decide +kernel
theorem dX12_qJoins_164 : decode cX12_qJoins 164 = .ok (.goto 109, 3) := by decide +kernel
theorem dX12_qJoins_167 : decode cX12_qJoins 167 = .ok (.aload_n 0, 1) := by decide +kernel
theorem dX12_qJoins_168 : decode cX12_qJoins 168 = .ok (.lload 4, 2) := by decide +kernel
theorem dX12_qJoins_170 : decode cX12_qJoins 170 = .ok (.lload_n 2, 1) := by decide +kernel
theorem dX12_qJoins_171 : decode cX12_qJoins 171 = .ok (.lcmp, 1) := by decide +kernel
theorem dX12_qJoins_172 : decode cX12_qJoins 172 = .ok (.ifCond .le 8, 3) := by decide +kernel
theorem dX12_qJoins_175 : decode cX12_qJoins 175 = .ok (.lload 4, 2) := by decide +kernel
theorem dX12_qJoins_177 : decode cX12_qJoins 177 = .ok (.goto 4, 3) := by decide +kernel
theorem dX12_qJoins_180 : decode cX12_qJoins 180 = .ok (.lload_n 2, 1) := by decide +kernel
theorem dX12_qJoins_181 : decode cX12_qJoins 181 = .ok (.invokevirtual 434, 3) := by decide +kernel
theorem dX12_qJoins_184 : decode cX12_qJoins 184 = .ok (.goto 89, 3) := by decide +kernel
theorem dX12_qJoins_187 : decode cX12_qJoins 187 = .ok (.aload_n 0, 1) := by decide +kernel
theorem dX12_qJoins_188 : decode cX12_qJoins 188 = .ok (.lload 4, 2) := by decide +kernel
theorem dX12_qJoins_190 : decode cX12_qJoins 190 = .ok (.lload_n 2, 1) := by decide +kernel
theorem dX12_qJoins_191 : decode cX12_qJoins 191 = .ok (.lcmp, 1) := by decide +kernel
theorem dX12_qJoins_192 : decode cX12_qJoins 192 = .ok (.ifCond .ge 7, 3) := by decide +kernel
theorem dX12_qJoins_195 : decode cX12_qJoins 195 = .ok (.lconst 1, 1) := by decide +kernel
theorem dX12_qJoins_196 : decode cX12_qJoins 196 = .ok (.goto 4, 3) := by decide +kernel
theorem dX12_qJoins_199 : decode cX12_qJoins 199 = .ok (.lconst 0, 1) := by decide +kernel
theorem dX12_qJoins_200 : decode cX12_qJoins 200 = .ok (.invokevirtual 434, 3) := by decide +kernel
theorem dX12_qJoins_203 : decode cX12_qJoins 203 = .ok (.goto 70, 3) := by decide +kernel
theorem dX12_qJoins_206 : decode cX12_qJoins 206 = .ok (.aload_n 0, 1) := by decide +kernel
theorem dX12_qJoins_207 : decode cX12_qJoins 207 = .ok (.lload 4, 2) := by decide +kernel
theorem dX12_qJoins_209 : decode cX12_qJoins 209 = .ok (.lload_n 2, 1) := by decide +kernel
theorem dX12_qJoins_210 : decode cX12_qJoins 210 = .ok (.lcmp, 1) := by decide +kernel
theorem dX12_qJoins_211 : decode cX12_qJoins 211 = .ok (.ifCond .le 7, 3) := by decide +kernel
theorem dX12_qJoins_214 : decode cX12_qJoins 214 = .ok (.lconst 1, 1) := by decide +kernel
theorem dX12_qJoins_215 : decode cX12_qJoins 215 = .ok (.goto 4, 3) := by decide +kernel
theorem dX12_qJoins_218 : decode cX12_qJoins 218 = .ok (.lconst 0, 1) := by decide +kernel
theorem dX12_qJoins_219 : decode cX12_qJoins 219 = .ok (.invokevirtual 434, 3) := by decide +kernel
theorem dX12_qJoins_222 : decode cX12_qJoins 222 = .ok (.goto 51, 3) := by decide +kernel
theorem dX12_qJoins_225 : decode cX12_qJoins 225 = .ok (.aload_n 0, 1) := by decide +kernel
theorem dX12_qJoins_226 : decode cX12_qJoins 226 = .ok (.lload 4, 2) := by decide +kernel
theorem dX12_qJoins_228 : decode cX12_qJoins 228 = .ok (.lload_n 2, 1) := by decide +kernel
theorem dX12_qJoins_229 : decode cX12_qJoins 229 = .ok (.lcmp, 1) := by decide +kernel
theorem dX12_qJoins_230 : decode cX12_qJoins 230 = .ok (.ifCond .ne 7, 3) := by decide +kernel
theorem dX12_qJoins_233 : decode cX12_qJoins 233 = .ok (.lconst 1, 1) := by decide +kernel
theorem dX12_qJoins_234 : decode cX12_qJoins 234 = .ok (.goto 4, 3) := by decide +kernel
theorem dX12_qJoins_237 : decode cX12_qJoins 237 = .ok (.lconst 0, 1) := by decide +kernel
theorem dX12_qJoins_238 : decode cX12_qJoins 238 = .ok (.invokevirtual 434, 3) := by decide +kernel
theorem dX12_qJoins_241 : decode cX12_qJoins 241 = .ok (.goto 32, 3) := by decide +kernel
theorem dX12_qJoins_244 : decode cX12_qJoins 244 = .ok (.aload_n 0, 1) := by decide +kernel
theorem dX12_qJoins_245 : decode cX12_qJoins 245 = .ok (.lload 4, 2) := by decide +kernel
theorem dX12_qJoins_247 : decode cX12_qJoins 247 = .ok (.lload_n 2, 1) := by decide +kernel
theorem dX12_qJoins_248 : decode cX12_qJoins 248 = .ok (.lmul, 1) := by decide +kernel
theorem dX12_qJoins_249 : decode cX12_qJoins 249 = .ok (.invokevirtual 434, 3) := by decide +kernel
theorem dX12_qJoins_252 : decode cX12_qJoins 252 = .ok (.goto 21, 3) := by decide +kernel
theorem dX12_qJoins_255 : decode cX12_qJoins 255 = .ok (.aload_n 0, 1) := by decide +kernel
theorem dX12_qJoins_256 : decode cX12_qJoins 256 = .ok (.lload 4, 2) := by decide +kernel
theorem dX12_qJoins_258 : decode cX12_qJoins 258 = .ok (.lload_n 2, 1) := by decide +kernel
theorem dX12_qJoins_259 : decode cX12_qJoins 259 = .ok (.ladd, 1) := by decide +kernel
theorem dX12_qJoins_260 : decode cX12_qJoins 260 = .ok (.lconst 0, 1) := by decide +kernel
theorem dX12_qJoins_261 : decode cX12_qJoins 261 = .ok (.lcmp, 1) := by decide +kernel
theorem dX12_qJoins_262 : decode cX12_qJoins 262 = .ok (.ifCond .le 7, 3) := by decide +kernel
theorem dX12_qJoins_265 : decode cX12_qJoins 265 = .ok (.lconst 1, 1) := by decide +kernel
theorem dX12_qJoins_266 : decode cX12_qJoins 266 = .ok (.goto 4, 3) := by decide +kernel
theorem dX12_qJoins_269 : decode cX12_qJoins 269 = .ok (.lconst 0, 1) := by decide +kernel
theorem dX12_qJoins_270 : decode cX12_qJoins 270 = .ok (.invokevirtual 434, 3) := by decide +kernel
theorem dX12_qJoins_273 : decode cX12_qJoins 273 = .ok (.return_, 1) := by decide +kernel
theorem dX12_isNextGroups_0 : decode cX12_isNextGroups 0 = .ok (.aload_n 0, 1) := by decide +kernel
theorem dX12_isNextGroups_1 : decode cX12_isNextGroups 1 = .ok (.invokevirtual 419, 3) := by decide +kernel
theorem dX12_isNextGroups_4 : decode cX12_isNextGroups 4 = .ok (.iconst 1, 1) := by decide +kernel
theorem dX12_isNextGroups_5 : decode cX12_isNextGroups 5 = .ok (.isub, 1) := by decide +kernel
theorem dX12_isNextGroups_6 : decode cX12_isNextGroups 6 = .ok (.istore_n 1, 1) := by decide +kernel
theorem dX12_isNextGroups_7 : decode cX12_isNextGroups 7 = .ok (.iload_n 1, 1) := by decide +kernel
theorem dX12_isNextGroups_8 : decode cX12_isNextGroups 8 = .ok (.ifCond .le 88, 3) := by decide +kernel
theorem dX12_isNextGroups_11 : decode cX12_isNextGroups 11 = .ok (.iconst 0, 1) := by decide +kernel
theorem dX12_isNextGroups_12 : decode cX12_isNextGroups 12 = .ok (.istore_n 2, 1) := by decide +kernel
theorem dX12_isNextGroups_13 : decode cX12_isNextGroups 13 = .ok (.iconst 0, 1) := by decide +kernel
theorem dX12_isNextGroups_14 : decode cX12_isNextGroups 14 = .ok (.istore_n 3, 1) := by decide +kernel
theorem dX12_isNextGroups_15 : decode cX12_isNextGroups 15 = .ok (.iload_n 3, 1) := by decide +kernel
theorem dX12_isNextGroups_16 : decode cX12_isNextGroups 16 = .ok (.iload_n 1, 1) := by decide +kernel
theorem dX12_isNextGroups_17 : decode cX12_isNextGroups 17 = .ok (.if_icmp .ge 26, 3) := by decide +kernel
theorem dX12_isNextGroups_20 : decode cX12_isNextGroups 20 = .ok (.aload_n 0, 1) := by decide +kernel
theorem dX12_isNextGroups_21 : decode cX12_isNextGroups 21 = .ok (.getfield 148, 3) := by decide +kernel
theorem dX12_isNextGroups_24 : decode cX12_isNextGroups 24 = .ok (.iload_n 3, 1) := by decide +kernel
theorem dX12_isNextGroups_25 : decode cX12_isNextGroups 25 = .ok (.iaload, 1) := by decide +kernel
theorem dX12_isNextGroups_26 : decode cX12_isNextGroups 26 = .ok (.iload_n 2, 1) := by decide +kernel
theorem dX12_isNextGroups_27 : decode cX12_isNextGroups 27 = .ok (.if_icmp .le 10, 3) := by decide +kernel
theorem dX12_isNextGroups_30 : decode cX12_isNextGroups 30 = .ok (.aload_n 0, 1) := by decide +kernel
theorem dX12_isNextGroups_31 : decode cX12_isNextGroups 31 = .ok (.getfield 148, 3) := by decide +kernel
theorem dX12_isNextGroups_34 : decode cX12_isNextGroups 34 = .ok (.iload_n 3, 1) := by decide +kernel
theorem dX12_isNextGroups_35 : decode cX12_isNextGroups 35 = .ok (.iaload, 1) := by decide +kernel
theorem dX12_isNextGroups_36 : decode cX12_isNextGroups 36 = .ok (.istore_n 2, 1) := by decide +kernel
theorem dX12_isNextGroups_37 : decode cX12_isNextGroups 37 = .ok (.iinc 3 1, 3) := by decide +kernel
theorem dX12_isNextGroups_40 : decode cX12_isNextGroups 40 = .ok (.goto (-25), 3) := by decide +kernel
theorem dX12_isNextGroups_43 : decode cX12_isNextGroups 43 = .ok (.aload_n 0, 1) := by decide +kernel
theorem dX12_isNextGroups_44 : decode cX12_isNextGroups 44 = .ok (.getfield 148, 3) := by decide +kernel
theorem dX12_isNextGroups_47 : decode cX12_isNextGroups 47 = .ok (.iload_n 1, 1) := by decide +kernel
theorem dX12_isNextGroups_48 : decode cX12_isNextGroups 48 = .ok (.iaload, 1) := by decide +kernel
theorem dX12_isNextGroups_49 : decode cX12_isNextGroups 49 = .ok (.iload_n 2, 1) := by decide +kernel
theorem dX12_isNextGroups_50 : decode cX12_isNextGroups 50 = .ok (.if_icmp .gt 40, 3) := by decide +kernel
theorem dX12_isNextGroups_53 : decode cX12_isNextGroups 53 = .ok (.aload_n 0, 1) := by decide +kernel
theorem dX12_isNextGroups_54 : decode cX12_isNextGroups 54 = .ok (.getfield 148, 3) := by decide +kernel
theorem dX12_isNextGroups_57 : decode cX12_isNextGroups 57 = .ok (.iload_n 1, 1) := by decide +kernel
theorem dX12_isNextGroups_58 : decode cX12_isNextGroups 58 = .ok (.dup2, 1) := by decide +kernel
theorem dX12_isNextGroups_59 : decode cX12_isNextGroups 59 = .ok (.iaload, 1) := by decide +kernel
theorem dX12_isNextGroups_60 : decode cX12_isNextGroups 60 = .ok (.iconst 1, 1) := by decide +kernel
theorem dX12_isNextGroups_61 : decode cX12_isNextGroups 61 = .ok (.iadd, 1) := by decide +kernel
theorem dX12_isNextGroups_62 : decode cX12_isNextGroups 62 = .ok (.iastore, 1) := by decide +kernel
theorem dX12_isNextGroups_63 : decode cX12_isNextGroups 63 = .ok (.iload_n 1, 1) := by decide +kernel
theorem dX12_isNextGroups_64 : decode cX12_isNextGroups 64 = .ok (.iconst 1, 1) := by decide +kernel
theorem dX12_isNextGroups_65 : decode cX12_isNextGroups 65 = .ok (.iadd, 1) := by decide +kernel
theorem dX12_isNextGroups_66 : decode cX12_isNextGroups 66 = .ok (.istore_n 3, 1) := by decide +kernel
theorem dX12_isNextGroups_67 : decode cX12_isNextGroups 67 = .ok (.iload_n 3, 1) := by decide +kernel
theorem dX12_isNextGroups_68 : decode cX12_isNextGroups 68 = .ok (.aload_n 0, 1) := by decide +kernel
theorem dX12_isNextGroups_69 : decode cX12_isNextGroups 69 = .ok (.invokevirtual 419, 3) := by decide +kernel
theorem dX12_isNextGroups_72 : decode cX12_isNextGroups 72 = .ok (.if_icmp .ge 16, 3) := by decide +kernel
theorem dX12_isNextGroups_75 : decode cX12_isNextGroups 75 = .ok (.aload_n 0, 1) := by decide +kernel
theorem dX12_isNextGroups_76 : decode cX12_isNextGroups 76 = .ok (.getfield 148, 3) := by decide +kernel
theorem dX12_isNextGroups_79 : decode cX12_isNextGroups 79 = .ok (.iload_n 3, 1) := by decide +kernel
theorem dX12_isNextGroups_80 : decode cX12_isNextGroups 80 = .ok (.iconst 0, 1) := by decide +kernel
theorem dX12_isNextGroups_81 : decode cX12_isNextGroups 81 = .ok (.iastore, 1) := by decide +kernel
theorem dX12_isNextGroups_82 : decode cX12_isNextGroups 82 = .ok (.iinc 3 1, 3) := by decide +kernel
theorem dX12_isNextGroups_85 : decode cX12_isNextGroups 85 = .ok (.goto (-18), 3) := by decide +kernel
theorem dX12_isNextGroups_88 : decode cX12_isNextGroups 88 = .ok (.iconst 1, 1) := by decide +kernel
theorem dX12_isNextGroups_89 : decode cX12_isNextGroups 89 = .ok (.ireturn, 1) := by decide +kernel
theorem dX12_isNextGroups_90 : decode cX12_isNextGroups 90 = .ok (.iinc 1 (-1), 3) := by decide +kernel
theorem dX12_isNextGroups_93 : decode cX12_isNextGroups 93 = .ok (.goto (-86), 3) := by decide +kernel
theorem dX12_isNextGroups_96 : decode cX12_isNextGroups 96 = .ok (.iconst 0, 1) := by decide +kernel
theorem dX12_isNextGroups_97 : decode cX12_isNextGroups 97 = .ok (.ireturn, 1) := by decide +kernel
theorem dX12_isAllowed_0 : decode cX12_isAllowed 0 = .ok (.aload_n 0, 1) := by decide +kernel
theorem dX12_isAllowed_1 : decode cX12_isAllowed 1 = .ok (.getfield 318, 3) := by decide +kernel
theorem dX12_isAllowed_4 : decode cX12_isAllowed 4 = .ok (.ifCond .eq 17, 3) := by decide +kernel
theorem dX12_isAllowed_7 : decode cX12_isAllowed 7 = .ok (.iload_n 1, 1) := by decide +kernel
theorem dX12_isAllowed_8 : decode cX12_isAllowed 8 = .ok (.bipush 6, 2) := by decide +kernel
theorem dX12_isAllowed_10 : decode cX12_isAllowed 10 = .ok (.if_icmp .ge 7, 3) := by decide +kernel
theorem dX12_isAllowed_13 : decode cX12_isAllowed 13 = .ok (.iconst 1, 1) := by decide +kernel
theorem dX12_isAllowed_14 : decode cX12_isAllowed 14 = .ok (.goto 17, 3) := by decide +kernel
theorem dX12_isAllowed_17 : decode cX12_isAllowed 17 = .ok (.iconst 0, 1) := by decide +kernel
theorem dX12_isAllowed_18 : decode cX12_isAllowed 18 = .ok (.goto 13, 3) := by decide +kernel
theorem dX12_isAllowed_21 : decode cX12_isAllowed 21 = .ok (.iload_n 1, 1) := by decide +kernel
theorem dX12_isAllowed_22 : decode cX12_isAllowed 22 = .ok (.iconst 3, 1) := by decide +kernel
theorem dX12_isAllowed_23 : decode cX12_isAllowed 23 = .ok (.if_icmp .eq 7, 3) := by decide +kernel
theorem dX12_isAllowed_26 : decode cX12_isAllowed 26 = .ok (.iconst 1, 1) := by decide +kernel
theorem dX12_isAllowed_27 : decode cX12_isAllowed 27 = .ok (.goto 4, 3) := by decide +kernel
theorem dX12_isAllowed_30 : decode cX12_isAllowed 30 = .ok (.iconst 0, 1) := by decide +kernel
theorem dX12_isAllowed_31 : decode cX12_isAllowed 31 = .ok (.ireturn, 1) := by decide +kernel
theorem dX12_answeredIn_0 : decode cX12_answeredIn 0 = .ok (.iconst 0, 1) := by decide +kernel
theorem dX12_answeredIn_1 : decode cX12_answeredIn 1 = .ok (.istore_n 1, 1) := by decide +kernel
theorem dX12_answeredIn_2 : decode cX12_answeredIn 2 = .ok (.iconst 0, 1) := by decide +kernel
theorem dX12_answeredIn_3 : decode cX12_answeredIn 3 = .ok (.istore_n 2, 1) := by decide +kernel
theorem dX12_answeredIn_4 : decode cX12_answeredIn 4 = .ok (.iload_n 2, 1) := by decide +kernel
theorem dX12_answeredIn_5 : decode cX12_answeredIn 5 = .ok (.aload_n 0, 1) := by decide +kernel
theorem dX12_answeredIn_6 : decode cX12_answeredIn 6 = .ok (.invokevirtual 419, 3) := by decide +kernel
theorem dX12_answeredIn_9 : decode cX12_answeredIn 9 = .ok (.if_icmp .ge 21, 3) := by decide +kernel
theorem dX12_answeredIn_12 : decode cX12_answeredIn 12 = .ok (.aload_n 0, 1) := by decide +kernel
theorem dX12_answeredIn_13 : decode cX12_answeredIn 13 = .ok (.getfield 148, 3) := by decide +kernel
theorem dX12_answeredIn_16 : decode cX12_answeredIn 16 = .ok (.iload_n 2, 1) := by decide +kernel
theorem dX12_answeredIn_17 : decode cX12_answeredIn 17 = .ok (.iaload, 1) := by decide +kernel
theorem dX12_answeredIn_18 : decode cX12_answeredIn 18 = .ok (.ifCond .le 6, 3) := by decide +kernel
theorem dX12_answeredIn_21 : decode cX12_answeredIn 21 = .ok (.iinc 1 1, 3) := by decide +kernel
theorem dX12_answeredIn_24 : decode cX12_answeredIn 24 = .ok (.iinc 2 1, 3) := by decide +kernel
theorem dX12_answeredIn_27 : decode cX12_answeredIn 27 = .ok (.goto (-23), 3) := by decide +kernel
theorem dX12_answeredIn_30 : decode cX12_answeredIn 30 = .ok (.iload_n 1, 1) := by decide +kernel
theorem dX12_answeredIn_31 : decode cX12_answeredIn 31 = .ok (.ireturn, 1) := by decide +kernel
theorem dX12_codesTold_0 : decode cX12_codesTold 0 = .ok (.aload_n 0, 1) := by decide +kernel
theorem dX12_codesTold_1 : decode cX12_codesTold 1 = .ok (.getfield 263, 3) := by decide +kernel
theorem dX12_codesTold_4 : decode cX12_codesTold 4 = .ok (.ifCond .ne 19, 3) := by decide +kernel
theorem dX12_codesTold_7 : decode cX12_codesTold 7 = .ok (.aload_n 0, 1) := by decide +kernel
theorem dX12_codesTold_8 : decode cX12_codesTold 8 = .ok (.getfield 133, 3) := by decide +kernel
theorem dX12_codesTold_11 : decode cX12_codesTold 11 = .ok (.iload_n 1, 1) := by decide +kernel
theorem dX12_codesTold_12 : decode cX12_codesTold 12 = .ok (.iaload, 1) := by decide +kernel
theorem dX12_codesTold_13 : decode cX12_codesTold 13 = .ok (.iconst (-1), 1) := by decide +kernel
theorem dX12_codesTold_14 : decode cX12_codesTold 14 = .ok (.if_icmp .eq 9, 3) := by decide +kernel
theorem dX12_codesTold_17 : decode cX12_codesTold 17 = .ok (.aload_n 0, 1) := by decide +kernel
theorem dX12_codesTold_18 : decode cX12_codesTold 18 = .ok (.iconst 5, 1) := by decide +kernel
theorem dX12_codesTold_19 : decode cX12_codesTold 19 = .ok (.iload_n 2, 1) := by decide +kernel
theorem dX12_codesTold_20 : decode cX12_codesTold 20 = .ok (.invokevirtual 293, 3) := by decide +kernel
theorem dX12_codesTold_23 : decode cX12_codesTold 23 = .ok (.aload_n 0, 1) := by decide +kernel
theorem dX12_codesTold_24 : decode cX12_codesTold 24 = .ok (.getfield 263, 3) := by decide +kernel
theorem dX12_codesTold_27 : decode cX12_codesTold 27 = .ok (.ifCond .eq 4, 3) := by decide +kernel
theorem dX12_codesTold_30 : decode cX12_codesTold 30 = .ok (.return_, 1) := by decide +kernel
theorem dX12_codesTold_31 : decode cX12_codesTold 31 = .ok (.aload_n 0, 1) := by decide +kernel
theorem dX12_codesTold_32 : decode cX12_codesTold 32 = .ok (.iconst 1, 1) := by decide +kernel
theorem dX12_codesTold_33 : decode cX12_codesTold 33 = .ok (.putfield 318, 3) := by decide +kernel
theorem dX12_codesTold_36 : decode cX12_codesTold 36 = .ok (.aload_n 0, 1) := by decide +kernel
theorem dX12_codesTold_37 : decode cX12_codesTold 37 = .ok (.iconst 0, 1) := by decide +kernel
theorem dX12_codesTold_38 : decode cX12_codesTold 38 = .ok (.putfield 352, 3) := by decide +kernel
theorem dX12_codesTold_41 : decode cX12_codesTold 41 = .ok (.aload_n 0, 1) := by decide +kernel
theorem dX12_codesTold_42 : decode cX12_codesTold 42 = .ok (.iconst 0, 1) := by decide +kernel
theorem dX12_codesTold_43 : decode cX12_codesTold 43 = .ok (.putfield 355, 3) := by decide +kernel
theorem dX12_codesTold_46 : decode cX12_codesTold 46 = .ok (.aload_n 0, 1) := by decide +kernel
theorem dX12_codesTold_47 : decode cX12_codesTold 47 = .ok (.iconst 0, 1) := by decide +kernel
theorem dX12_codesTold_48 : decode cX12_codesTold 48 = .ok (.putfield 358, 3) := by decide +kernel
theorem dX12_codesTold_51 : decode cX12_codesTold 51 = .ok (.aload_n 0, 1) := by decide +kernel
theorem dX12_codesTold_52 : decode cX12_codesTold 52 = .ok (.iconst 0, 1) := by decide +kernel
theorem dX12_codesTold_53 : decode cX12_codesTold 53 = .ok (.putfield 361, 3) := by decide +kernel
theorem dX12_codesTold_56 : decode cX12_codesTold 56 = .ok (.aload_n 0, 1) := by decide +kernel
theorem dX12_codesTold_57 : decode cX12_codesTold 57 = .ok (.invokevirtual 364, 3) := by decide +kernel
theorem dX12_codesTold_60 : decode cX12_codesTold 60 = .ok (.aload_n 0, 1) := by decide +kernel
theorem dX12_codesTold_61 : decode cX12_codesTold 61 = .ok (.getfield 263, 3) := by decide +kernel
theorem dX12_codesTold_64 : decode cX12_codesTold 64 = .ok (.ifCond .eq 4, 3) := by decide +kernel
theorem dX12_codesTold_67 : decode cX12_codesTold 67 = .ok (.return_, 1) := by decide +kernel
theorem dX12_codesTold_68 : decode cX12_codesTold 68 = .ok (.aload_n 0, 1) := by decide +kernel
theorem dX12_codesTold_69 : decode cX12_codesTold 69 = .ok (.getfield 133, 3) := by decide +kernel
theorem dX12_codesTold_72 : decode cX12_codesTold 72 = .ok (.iload_n 1, 1) := by decide +kernel
theorem dX12_codesTold_73 : decode cX12_codesTold 73 = .ok (.aload_n 0, 1) := by decide +kernel
theorem dX12_codesTold_74 : decode cX12_codesTold 74 = .ok (.getfield 367, 3) := by decide +kernel
theorem dX12_codesTold_77 : decode cX12_codesTold 77 = .ok (.iastore, 1) := by decide +kernel
theorem dX12_codesTold_78 : decode cX12_codesTold 78 = .ok (.iconst 0, 1) := by decide +kernel
theorem dX12_codesTold_79 : decode cX12_codesTold 79 = .ok (.istore_n 3, 1) := by decide +kernel
theorem dX12_codesTold_80 : decode cX12_codesTold 80 = .ok (.iload_n 3, 1) := by decide +kernel
theorem dX12_codesTold_81 : decode cX12_codesTold 81 = .ok (.aload_n 0, 1) := by decide +kernel
theorem dX12_codesTold_82 : decode cX12_codesTold 82 = .ok (.getfield 352, 3) := by decide +kernel
theorem dX12_codesTold_85 : decode cX12_codesTold 85 = .ok (.if_icmp .ge 34, 3) := by decide +kernel
theorem dX12_codesTold_88 : decode cX12_codesTold 88 = .ok (.aload_n 0, 1) := by decide +kernel
theorem dX12_codesTold_89 : decode cX12_codesTold 89 = .ok (.getfield 139, 3) := by decide +kernel
theorem dX12_codesTold_92 : decode cX12_codesTold 92 = .ok (.aload_n 0, 1) := by decide +kernel
theorem dX12_codesTold_93 : decode cX12_codesTold 93 = .ok (.getfield 367, 3) := by decide +kernel
theorem dX12_codesTold_96 : decode cX12_codesTold 96 = .ok (.aload_n 0, 1) := by decide +kernel
theorem dX12_codesTold_97 : decode cX12_codesTold 97 = .ok (.getfield 248, 3) := by decide +kernel
theorem dX12_codesTold_100 : decode cX12_codesTold 100 = .ok (.iload_n 3, 1) := by decide +kernel
theorem dX12_codesTold_101 : decode cX12_codesTold 101 = .ok (.iaload, 1) := by decide +kernel
theorem dX12_codesTold_102 : decode cX12_codesTold 102 = .ok (.iastore, 1) := by decide +kernel
theorem dX12_codesTold_103 : decode cX12_codesTold 103 = .ok (.aload_n 0, 1) := by decide +kernel
theorem dX12_codesTold_104 : decode cX12_codesTold 104 = .ok (.dup, 1) := by decide +kernel
theorem dX12_codesTold_105 : decode cX12_codesTold 105 = .ok (.getfield 367, 3) := by decide +kernel
theorem dX12_codesTold_108 : decode cX12_codesTold 108 = .ok (.iconst 1, 1) := by decide +kernel
theorem dX12_codesTold_109 : decode cX12_codesTold 109 = .ok (.iadd, 1) := by decide +kernel
theorem dX12_codesTold_110 : decode cX12_codesTold 110 = .ok (.putfield 367, 3) := by decide +kernel
theorem dX12_codesTold_113 : decode cX12_codesTold 113 = .ok (.iinc 3 1, 3) := by decide +kernel
theorem dX12_codesTold_116 : decode cX12_codesTold 116 = .ok (.goto (-36), 3) := by decide +kernel
theorem dX12_codesTold_119 : decode cX12_codesTold 119 = .ok (.aload_n 0, 1) := by decide +kernel
theorem dX12_codesTold_120 : decode cX12_codesTold 120 = .ok (.getfield 136, 3) := by decide +kernel
theorem dX12_codesTold_123 : decode cX12_codesTold 123 = .ok (.iload_n 1, 1) := by decide +kernel
theorem dX12_codesTold_124 : decode cX12_codesTold 124 = .ok (.aload_n 0, 1) := by decide +kernel
theorem dX12_codesTold_125 : decode cX12_codesTold 125 = .ok (.getfield 367, 3) := by decide +kernel
theorem dX12_codesTold_128 : decode cX12_codesTold 128 = .ok (.iastore, 1) := by decide +kernel
theorem dX12_codesTold_129 : decode cX12_codesTold 129 = .ok (.return_, 1) := by decide +kernel
theorem dX12_qHasSquare_0 : decode cX12_qHasSquare 0 = .ok (.iconst 0, 1) := by decide +kernel
theorem dX12_qHasSquare_1 : decode cX12_qHasSquare 1 = .ok (.istore_n 1, 1) := by decide +kernel
theorem dX12_qHasSquare_2 : decode cX12_qHasSquare 2 = .ok (.iload_n 1, 1) := by decide +kernel
theorem dX12_qHasSquare_3 : decode cX12_qHasSquare 3 = .ok (.aload_n 0, 1) := by decide +kernel
theorem dX12_qHasSquare_4 : decode cX12_qHasSquare 4 = .ok (.getfield 355, 3) := by decide +kernel
theorem dX12_qHasSquare_7 : decode cX12_qHasSquare 7 = .ok (.if_icmp .ge 22, 3) := by decide +kernel
theorem dX12_qHasSquare_10 : decode cX12_qHasSquare 10 = .ok (.aload_n 0, 1) := by decide +kernel
theorem dX12_qHasSquare_11 : decode cX12_qHasSquare 11 = .ok (.getfield 251, 3) := by decide +kernel
theorem dX12_qHasSquare_14 : decode cX12_qHasSquare 14 = .ok (.iload_n 1, 1) := by decide +kernel
theorem dX12_qHasSquare_15 : decode cX12_qHasSquare 15 = .ok (.iaload, 1) := by decide +kernel
theorem dX12_qHasSquare_16 : decode cX12_qHasSquare 16 = .ok (.bipush 25, 2) := by decide +kernel
theorem dX12_qHasSquare_18 : decode cX12_qHasSquare 18 = .ok (.if_icmp .ne 5, 3) := by decide +kernel
theorem dX12_qHasSquare_21 : decode cX12_qHasSquare 21 = .ok (.iconst 1, 1) := by decide +kernel
theorem dX12_qHasSquare_22 : decode cX12_qHasSquare 22 = .ok (.ireturn, 1) := by decide +kernel
theorem dX12_qHasSquare_23 : decode cX12_qHasSquare 23 = .ok (.iinc 1 1, 3) := by decide +kernel
theorem dX12_qHasSquare_26 : decode cX12_qHasSquare 26 = .ok (.goto (-24), 3) := by decide +kernel
theorem dX12_qHasSquare_29 : decode cX12_qHasSquare 29 = .ok (.iconst 0, 1) := by decide +kernel
theorem dX12_qHasSquare_30 : decode cX12_qHasSquare 30 = .ok (.ireturn, 1) := by decide +kernel
theorem dX12_canAnswer_0 : decode cX12_canAnswer 0 = .ok (.aload_n 0, 1) := by decide +kernel
theorem dX12_canAnswer_1 : decode cX12_canAnswer 1 = .ok (.iload_n 1, 1) := by decide +kernel
theorem dX12_canAnswer_2 : decode cX12_canAnswer 2 = .ok (.invokevirtual 451, 3) := by decide +kernel
theorem dX12_canAnswer_5 : decode cX12_canAnswer 5 = .ok (.ifCond .ne 30, 3) := by decide +kernel
theorem dX12_canAnswer_8 : decode cX12_canAnswer 8 = .ok (.aload_n 0, 1) := by decide +kernel
theorem dX12_canAnswer_9 : decode cX12_canAnswer 9 = .ok (.iload_n 1, 1) := by decide +kernel
theorem dX12_canAnswer_10 : decode cX12_canAnswer 10 = .ok (.iload_n 2, 1) := by decide +kernel
theorem dX12_canAnswer_11 : decode cX12_canAnswer 11 = .ok (.invokevirtual 454, 3) := by decide +kernel
theorem dX12_canAnswer_14 : decode cX12_canAnswer 14 = .ok (.ifCond .eq 21, 3) := by decide +kernel
theorem dX12_canAnswer_17 : decode cX12_canAnswer 17 = .ok (.aload_n 0, 1) := by decide +kernel
theorem dX12_canAnswer_18 : decode cX12_canAnswer 18 = .ok (.iload_n 2, 1) := by decide +kernel
theorem dX12_canAnswer_19 : decode cX12_canAnswer 19 = .ok (.invokevirtual 458, 3) := by decide +kernel
theorem dX12_canAnswer_22 : decode cX12_canAnswer 22 = .ok (.aload_n 0, 1) := by decide +kernel
theorem dX12_canAnswer_23 : decode cX12_canAnswer 23 = .ok (.iload_n 1, 1) := by decide +kernel
theorem dX12_canAnswer_24 : decode cX12_canAnswer 24 = .ok (.iload_n 2, 1) := by decide +kernel
theorem dX12_canAnswer_25 : decode cX12_canAnswer 25 = .ok (.invokevirtual 461, 3) := by decide +kernel
theorem dX12_canAnswer_28 : decode cX12_canAnswer 28 = .ok (.if_icmp .lt 7, 3) := by decide +kernel
theorem dX12_canAnswer_31 : decode cX12_canAnswer 31 = .ok (.iconst 1, 1) := by decide +kernel
theorem dX12_canAnswer_32 : decode cX12_canAnswer 32 = .ok (.goto 4, 3) := by decide +kernel
theorem dX12_canAnswer_35 : decode cX12_canAnswer 35 = .ok (.iconst 0, 1) := by decide +kernel
theorem dX12_canAnswer_36 : decode cX12_canAnswer 36 = .ok (.ireturn, 1) := by decide +kernel
theorem dX12_wishOf_0 : decode cX12_wishOf 0 = .ok (.aload_n 0, 1) := by decide +kernel
theorem dX12_wishOf_1 : decode cX12_wishOf 1 = .ok (.getfield 118, 3) := by decide +kernel
theorem dX12_wishOf_4 : decode cX12_wishOf 4 = .ok (.bipush 32, 2) := by decide +kernel
theorem dX12_wishOf_6 : decode cX12_wishOf 6 = .ok (.iconst 4, 1) := by decide +kernel
theorem dX12_wishOf_7 : decode cX12_wishOf 7 = .ok (.iload_n 1, 1) := by decide +kernel
theorem dX12_wishOf_8 : decode cX12_wishOf 8 = .ok (.imul, 1) := by decide +kernel
theorem dX12_wishOf_9 : decode cX12_wishOf 9 = .ok (.iadd, 1) := by decide +kernel
theorem dX12_wishOf_10 : decode cX12_wishOf 10 = .ok (.iload_n 2, 1) := by decide +kernel
theorem dX12_wishOf_11 : decode cX12_wishOf 11 = .ok (.iadd, 1) := by decide +kernel
theorem dX12_wishOf_12 : decode cX12_wishOf 12 = .ok (.iaload, 1) := by decide +kernel
theorem dX12_wishOf_13 : decode cX12_wishOf 13 = .ok (.ireturn, 1) := by decide +kernel
theorem dX12_warmest_0 : decode cX12_warmest 0 = .ok (.iload_n 1, 1) := by decide +kernel
theorem dX12_warmest_1 : decode cX12_warmest 1 = .ok (.iconst (-1), 1) := by decide +kernel
theorem dX12_warmest_2 : decode cX12_warmest 2 = .ok (.if_icmp .eq 13, 3) := by decide +kernel
theorem dX12_warmest_5 : decode cX12_warmest 5 = .ok (.aload_n 0, 1) := by decide +kernel
theorem dX12_warmest_6 : decode cX12_warmest 6 = .ok (.iload_n 1, 1) := by decide +kernel
theorem dX12_warmest_7 : decode cX12_warmest 7 = .ok (.invokevirtual 501, 3) := by decide +kernel
theorem dX12_warmest_10 : decode cX12_warmest 10 = .ok (.ifCond .ne 5, 3) := by decide +kernel
theorem dX12_warmest_13 : decode cX12_warmest 13 = .ok (.iconst (-1), 1) := by decide +kernel
theorem dX12_warmest_14 : decode cX12_warmest 14 = .ok (.ireturn, 1) := by decide +kernel
theorem dX12_warmest_15 : decode cX12_warmest 15 = .ok (.aload_n 0, 1) := by decide +kernel
theorem dX12_warmest_16 : decode cX12_warmest 16 = .ok (.invokevirtual 485, 3) := by decide +kernel
theorem dX12_warmest_19 : decode cX12_warmest 19 = .ok (.istore_n 2, 1) := by decide +kernel
theorem dX12_warmest_20 : decode cX12_warmest 20 = .ok (.iload_n 1, 1) := by decide +kernel
theorem dX12_warmest_21 : decode cX12_warmest 21 = .ok (.iconst (-1), 1) := by decide +kernel
theorem dX12_warmest_22 : decode cX12_warmest 22 = .ok (.if_icmp .ne 7, 3) := by decide +kernel
theorem dX12_warmest_25 : decode cX12_warmest 25 = .ok (.iload_n 2, 1) := by decide +kernel
theorem dX12_warmest_26 : decode cX12_warmest 26 = .ok (.goto 11, 3) := by decide +kernel
theorem dX12_warmest_29 : decode cX12_warmest 29 = .ok (.aload_n 0, 1) := by decide +kernel
theorem dX12_warmest_30 : decode cX12_warmest 30 = .ok (.getfield 154, 3) := by decide +kernel
theorem dX12_warmest_33 : decode cX12_warmest 33 = .ok (.iload_n 1, 1) := by decide +kernel
theorem dX12_warmest_34 : decode cX12_warmest 34 = .ok (.iaload, 1) := by decide +kernel
theorem dX12_warmest_35 : decode cX12_warmest 35 = .ok (.iconst 1, 1) := by decide +kernel
theorem dX12_warmest_36 : decode cX12_warmest 36 = .ok (.isub, 1) := by decide +kernel
theorem dX12_warmest_37 : decode cX12_warmest 37 = .ok (.ireturn, 1) := by decide +kernel
theorem dX12_nameOf_0 : decode cX12_nameOf 0 = .ok (.iconst 0, 1) := by decide +kernel
theorem dX12_nameOf_1 : decode cX12_nameOf 1 = .ok (.istore 4, 2) := by decide +kernel
theorem dX12_nameOf_3 : decode cX12_nameOf 3 = .ok (.iload 4, 2) := by decide +kernel
theorem dX12_nameOf_5 : decode cX12_nameOf 5 = .ok (.aload_n 0, 1) := by decide +kernel
theorem dX12_nameOf_6 : decode cX12_nameOf 6 = .ok (.getfield 105, 3) := by decide +kernel
theorem dX12_nameOf_9 : decode cX12_nameOf 9 = .ok (.iload_n 1, 1) := by decide +kernel
theorem dX12_nameOf_10 : decode cX12_nameOf 10 = .ok (.iaload, 1) := by decide +kernel
theorem dX12_nameOf_11 : decode cX12_nameOf 11 = .ok (.if_icmp .ge 29, 3) := by decide +kernel
theorem dX12_nameOf_14 : decode cX12_nameOf 14 = .ok (.aload_n 0, 1) := by decide +kernel
theorem dX12_nameOf_15 : decode cX12_nameOf 15 = .ok (.getfield 108, 3) := by decide +kernel
theorem dX12_nameOf_18 : decode cX12_nameOf 18 = .ok (.bipush 8, 2) := by decide +kernel
theorem dX12_nameOf_20 : decode cX12_nameOf 20 = .ok (.iload_n 1, 1) := by decide +kernel
theorem dX12_nameOf_21 : decode cX12_nameOf 21 = .ok (.imul, 1) := by decide +kernel
theorem dX12_nameOf_22 : decode cX12_nameOf 22 = .ok (.iload 4, 2) := by decide +kernel
theorem dX12_nameOf_24 : decode cX12_nameOf 24 = .ok (.iadd, 1) := by decide +kernel
theorem dX12_nameOf_25 : decode cX12_nameOf 25 = .ok (.laload, 1) := by decide +kernel
theorem dX12_nameOf_26 : decode cX12_nameOf 26 = .ok (.lload_n 2, 1) := by decide +kernel
theorem dX12_nameOf_27 : decode cX12_nameOf 27 = .ok (.lcmp, 1) := by decide +kernel
theorem dX12_nameOf_28 : decode cX12_nameOf 28 = .ok (.ifCond .ne 6, 3) := by decide +kernel
theorem dX12_nameOf_31 : decode cX12_nameOf 31 = .ok (.iload 4, 2) := by decide +kernel
theorem dX12_nameOf_33 : decode cX12_nameOf 33 = .ok (.ireturn, 1) := by decide +kernel
theorem dX12_nameOf_34 : decode cX12_nameOf 34 = .ok (.iinc 4 1, 3) := by decide +kernel
theorem dX12_nameOf_37 : decode cX12_nameOf 37 = .ok (.goto (-34), 3) := by decide +kernel
theorem dX12_nameOf_40 : decode cX12_nameOf 40 = .ok (.iconst (-1), 1) := by decide +kernel
theorem dX12_nameOf_41 : decode cX12_nameOf 41 = .ok (.ireturn, 1) := by decide +kernel
theorem dX12_manyWith_0 : decode cX12_manyWith 0 = .ok (.iconst 0, 1) := by decide +kernel
theorem dX12_manyWith_1 : decode cX12_manyWith 1 = .ok (.istore_n 2, 1) := by decide +kernel
theorem dX12_manyWith_2 : decode cX12_manyWith 2 = .ok (.iconst 0, 1) := by decide +kernel
theorem dX12_manyWith_3 : decode cX12_manyWith 3 = .ok (.istore_n 3, 1) := by decide +kernel
theorem dX12_manyWith_4 : decode cX12_manyWith 4 = .ok (.iload_n 3, 1) := by decide +kernel
theorem dX12_manyWith_5 : decode cX12_manyWith 5 = .ok (.aload_n 0, 1) := by decide +kernel
theorem dX12_manyWith_6 : decode cX12_manyWith 6 = .ok (.invokevirtual 419, 3) := by decide +kernel
theorem dX12_manyWith_9 : decode cX12_manyWith 9 = .ok (.if_icmp .ge 28, 3) := by decide +kernel
theorem dX12_manyWith_12 : decode cX12_manyWith 12 = .ok (.aload_n 0, 1) := by decide +kernel
theorem dX12_manyWith_13 : decode cX12_manyWith 13 = .ok (.getfield 142, 3) := by decide +kernel
theorem dX12_manyWith_16 : decode cX12_manyWith 16 = .ok (.bipush 8, 2) := by decide +kernel
theorem dX12_manyWith_18 : decode cX12_manyWith 18 = .ok (.iconst 3, 1) := by decide +kernel
theorem dX12_manyWith_19 : decode cX12_manyWith 19 = .ok (.iload_n 3, 1) := by decide +kernel
theorem dX12_manyWith_20 : decode cX12_manyWith 20 = .ok (.imul, 1) := by decide +kernel
theorem dX12_manyWith_21 : decode cX12_manyWith 21 = .ok (.iadd, 1) := by decide +kernel
theorem dX12_manyWith_22 : decode cX12_manyWith 22 = .ok (.iload_n 1, 1) := by decide +kernel
theorem dX12_manyWith_23 : decode cX12_manyWith 23 = .ok (.iadd, 1) := by decide +kernel
theorem dX12_manyWith_24 : decode cX12_manyWith 24 = .ok (.iaload, 1) := by decide +kernel
theorem dX12_manyWith_25 : decode cX12_manyWith 25 = .ok (.ifCond .le 6, 3) := by decide +kernel
theorem dX12_manyWith_28 : decode cX12_manyWith 28 = .ok (.iinc 2 1, 3) := by decide +kernel
theorem dX12_manyWith_31 : decode cX12_manyWith 31 = .ok (.iinc 3 1, 3) := by decide +kernel
theorem dX12_manyWith_34 : decode cX12_manyWith 34 = .ok (.goto (-30), 3) := by decide +kernel
theorem dX12_manyWith_37 : decode cX12_manyWith 37 = .ok (.iload_n 2, 1) := by decide +kernel
theorem dX12_manyWith_38 : decode cX12_manyWith 38 = .ok (.ireturn, 1) := by decide +kernel
theorem dX12_qEndsPart_0 : decode cX12_qEndsPart 0 = .ok (.aload_n 0, 1) := by decide +kernel
theorem dX12_qEndsPart_1 : decode cX12_qEndsPart 1 = .ok (.getfield 263, 3) := by decide +kernel
theorem dX12_qEndsPart_4 : decode cX12_qEndsPart 4 = .ok (.ifCond .ne 47, 3) := by decide +kernel
theorem dX12_qEndsPart_7 : decode cX12_qEndsPart 7 = .ok (.aload_n 0, 1) := by decide +kernel
theorem dX12_qEndsPart_8 : decode cX12_qEndsPart 8 = .ok (.getfield 355, 3) := by decide +kernel
theorem dX12_qEndsPart_11 : decode cX12_qEndsPart 11 = .ok (.aload_n 0, 1) := by decide +kernel
theorem dX12_qEndsPart_12 : decode cX12_qEndsPart 12 = .ok (.getfield 361, 3) := by decide +kernel
theorem dX12_qEndsPart_15 : decode cX12_qEndsPart 15 = .ok (.if_icmp .le 36, 3) := by decide +kernel
theorem dX12_qEndsPart_18 : decode cX12_qEndsPart 18 = .ok (.aload_n 0, 1) := by decide +kernel
theorem dX12_qEndsPart_19 : decode cX12_qEndsPart 19 = .ok (.getfield 251, 3) := by decide +kernel
theorem dX12_qEndsPart_22 : decode cX12_qEndsPart 22 = .ok (.aload_n 0, 1) := by decide +kernel
theorem dX12_qEndsPart_23 : decode cX12_qEndsPart 23 = .ok (.getfield 355, 3) := by decide +kernel
theorem dX12_qEndsPart_26 : decode cX12_qEndsPart 26 = .ok (.iconst 1, 1) := by decide +kernel
theorem dX12_qEndsPart_27 : decode cX12_qEndsPart 27 = .ok (.isub, 1) := by decide +kernel
theorem dX12_qEndsPart_28 : decode cX12_qEndsPart 28 = .ok (.iaload, 1) := by decide +kernel
theorem dX12_qEndsPart_29 : decode cX12_qEndsPart 29 = .ok (.bipush 60, 2) := by decide +kernel
theorem dX12_qEndsPart_31 : decode cX12_qEndsPart 31 = .ok (.if_icmp .lt 20, 3) := by decide +kernel
theorem dX12_qEndsPart_34 : decode cX12_qEndsPart 34 = .ok (.aload_n 0, 1) := by decide +kernel
theorem dX12_qEndsPart_35 : decode cX12_qEndsPart 35 = .ok (.dup, 1) := by decide +kernel
theorem dX12_qEndsPart_36 : decode cX12_qEndsPart 36 = .ok (.getfield 358, 3) := by decide +kernel
theorem dX12_qEndsPart_39 : decode cX12_qEndsPart 39 = .ok (.iconst 1, 1) := by decide +kernel
theorem dX12_qEndsPart_40 : decode cX12_qEndsPart 40 = .ok (.isub, 1) := by decide +kernel
theorem dX12_qEndsPart_41 : decode cX12_qEndsPart 41 = .ok (.putfield 358, 3) := by decide +kernel
theorem dX12_qEndsPart_44 : decode cX12_qEndsPart 44 = .ok (.aload_n 0, 1) := by decide +kernel
theorem dX12_qEndsPart_45 : decode cX12_qEndsPart 45 = .ok (.invokevirtual 600, 3) := by decide +kernel
theorem dX12_qEndsPart_48 : decode cX12_qEndsPart 48 = .ok (.goto (-48), 3) := by decide +kernel
theorem dX12_qEndsPart_51 : decode cX12_qEndsPart 51 = .ok (.return_, 1) := by decide +kernel
theorem dX12_whose_0 : decode cX12_whose 0 = .ok (.iconst 0, 1) := by decide +kernel
theorem dX12_whose_1 : decode cX12_whose 1 = .ok (.istore_n 1, 1) := by decide +kernel
theorem dX12_whose_2 : decode cX12_whose 2 = .ok (.iconst 0, 1) := by decide +kernel
theorem dX12_whose_3 : decode cX12_whose 3 = .ok (.istore_n 2, 1) := by decide +kernel
theorem dX12_whose_4 : decode cX12_whose 4 = .ok (.iload_n 2, 1) := by decide +kernel
theorem dX12_whose_5 : decode cX12_whose 5 = .ok (.aload_n 0, 1) := by decide +kernel
theorem dX12_whose_6 : decode cX12_whose 6 = .ok (.invokevirtual 422, 3) := by decide +kernel
theorem dX12_whose_9 : decode cX12_whose 9 = .ok (.if_icmp .ge 23, 3) := by decide +kernel
theorem dX12_whose_12 : decode cX12_whose 12 = .ok (.aload_n 0, 1) := by decide +kernel
theorem dX12_whose_13 : decode cX12_whose 13 = .ok (.iload_n 2, 1) := by decide +kernel
theorem dX12_whose_14 : decode cX12_whose 14 = .ok (.invokevirtual 563, 3) := by decide +kernel
theorem dX12_whose_17 : decode cX12_whose 17 = .ok (.ifCond .eq 9, 3) := by decide +kernel
theorem dX12_whose_20 : decode cX12_whose 20 = .ok (.iload_n 1, 1) := by decide +kernel
theorem dX12_whose_21 : decode cX12_whose 21 = .ok (.iconst 1, 1) := by decide +kernel
theorem dX12_whose_22 : decode cX12_whose 22 = .ok (.iload_n 2, 1) := by decide +kernel
theorem dX12_whose_23 : decode cX12_whose 23 = .ok (.ishl, 1) := by decide +kernel
theorem dX12_whose_24 : decode cX12_whose 24 = .ok (.ior, 1) := by decide +kernel
theorem dX12_whose_25 : decode cX12_whose 25 = .ok (.istore_n 1, 1) := by decide +kernel
theorem dX12_whose_26 : decode cX12_whose 26 = .ok (.iinc 2 1, 3) := by decide +kernel
theorem dX12_whose_29 : decode cX12_whose 29 = .ok (.goto (-25), 3) := by decide +kernel
theorem dX12_whose_32 : decode cX12_whose 32 = .ok (.iload_n 1, 1) := by decide +kernel
theorem dX12_whose_33 : decode cX12_whose 33 = .ok (.ireturn, 1) := by decide +kernel
theorem dX12_answer_0 : decode cX12_answer 0 = .ok (.aload_n 0, 1) := by decide +kernel
theorem dX12_answer_1 : decode cX12_answer 1 = .ok (.iload_n 1, 1) := by decide +kernel
theorem dX12_answer_2 : decode cX12_answer 2 = .ok (.invokevirtual 501, 3) := by decide +kernel
theorem dX12_answer_5 : decode cX12_answer 5 = .ok (.ifCond .eq 20, 3) := by decide +kernel
theorem dX12_answer_8 : decode cX12_answer 8 = .ok (.aload_n 0, 1) := by decide +kernel
theorem dX12_answer_9 : decode cX12_answer 9 = .ok (.iload_n 2, 1) := by decide +kernel
theorem dX12_answer_10 : decode cX12_answer 10 = .ok (.invokevirtual 516, 3) := by decide +kernel
theorem dX12_answer_13 : decode cX12_answer 13 = .ok (.ifCond .eq 12, 3) := by decide +kernel
theorem dX12_answer_16 : decode cX12_answer 16 = .ok (.aload_n 0, 1) := by decide +kernel
theorem dX12_answer_17 : decode cX12_answer 17 = .ok (.iload_n 1, 1) := by decide +kernel
theorem dX12_answer_18 : decode cX12_answer 18 = .ok (.iload_n 2, 1) := by decide +kernel
theorem dX12_answer_19 : decode cX12_answer 19 = .ok (.invokevirtual 521, 3) := by decide +kernel
theorem dX12_answer_22 : decode cX12_answer 22 = .ok (.ifCond .ne 9, 3) := by decide +kernel
theorem dX12_answer_25 : decode cX12_answer 25 = .ok (.aload_n 0, 1) := by decide +kernel
theorem dX12_answer_26 : decode cX12_answer 26 = .ok (.iconst 2, 1) := by decide +kernel
theorem dX12_answer_27 : decode cX12_answer 27 = .ok (.invokevirtual 560, 3) := by decide +kernel
theorem dX12_answer_30 : decode cX12_answer 30 = .ok (.ireturn, 1) := by decide +kernel
theorem dX12_answer_31 : decode cX12_answer 31 = .ok (.aload_n 0, 1) := by decide +kernel
theorem dX12_answer_32 : decode cX12_answer 32 = .ok (.invokevirtual 575, 3) := by decide +kernel
theorem dX12_answer_35 : decode cX12_answer 35 = .ok (.aload_n 0, 1) := by decide +kernel
theorem dX12_answer_36 : decode cX12_answer 36 = .ok (.iload_n 1, 1) := by decide +kernel
theorem dX12_answer_37 : decode cX12_answer 37 = .ok (.iload_n 2, 1) := by decide +kernel
theorem dX12_answer_38 : decode cX12_answer 38 = .ok (.invokevirtual 461, 3) := by decide +kernel
theorem dX12_answer_41 : decode cX12_answer 41 = .ok (.istore_n 3, 1) := by decide +kernel
theorem dX12_answer_42 : decode cX12_answer 42 = .ok (.aload_n 0, 1) := by decide +kernel
theorem dX12_answer_43 : decode cX12_answer 43 = .ok (.iload_n 1, 1) := by decide +kernel
theorem dX12_answer_44 : decode cX12_answer 44 = .ok (.iload_n 2, 1) := by decide +kernel
theorem dX12_answer_45 : decode cX12_answer 45 = .ok (.invokevirtual 488, 3) := by decide +kernel
theorem dX12_answer_48 : decode cX12_answer 48 = .ok (.iload_n 3, 1) := by decide +kernel
theorem dX12_answer_49 : decode cX12_answer 49 = .ok (.ireturn, 1) := by decide +kernel
theorem dX12_evenings_0 : decode cX12_evenings 0 = .ok (.aload_n 0, 1) := by decide +kernel
theorem dX12_evenings_1 : decode cX12_evenings 1 = .ok (.iload_n 1, 1) := by decide +kernel
theorem dX12_evenings_2 : decode cX12_evenings 2 = .ok (.iconst 1, 1) := by decide +kernel
theorem dX12_evenings_3 : decode cX12_evenings 3 = .ok (.bipush 50, 2) := by decide +kernel
theorem dX12_evenings_5 : decode cX12_evenings 5 = .ok (.invokevirtual 524, 3) := by decide +kernel
theorem dX12_evenings_8 : decode cX12_evenings 8 = .ok (.ifCond .ne 9, 3) := by decide +kernel
theorem dX12_evenings_11 : decode cX12_evenings 11 = .ok (.aload_n 0, 1) := by decide +kernel
theorem dX12_evenings_12 : decode cX12_evenings 12 = .ok (.iconst 3, 1) := by decide +kernel
theorem dX12_evenings_13 : decode cX12_evenings 13 = .ok (.invokevirtual 560, 3) := by decide +kernel
theorem dX12_evenings_16 : decode cX12_evenings 16 = .ok (.ireturn, 1) := by decide +kernel
theorem dX12_evenings_17 : decode cX12_evenings 17 = .ok (.aload_n 0, 1) := by decide +kernel
theorem dX12_evenings_18 : decode cX12_evenings 18 = .ok (.invokevirtual 575, 3) := by decide +kernel
theorem dX12_evenings_21 : decode cX12_evenings 21 = .ok (.iconst 0, 1) := by decide +kernel
theorem dX12_evenings_22 : decode cX12_evenings 22 = .ok (.istore_n 2, 1) := by decide +kernel
theorem dX12_evenings_23 : decode cX12_evenings 23 = .ok (.iconst 0, 1) := by decide +kernel
theorem dX12_evenings_24 : decode cX12_evenings 24 = .ok (.istore_n 3, 1) := by decide +kernel
theorem dX12_evenings_25 : decode cX12_evenings 25 = .ok (.iload_n 3, 1) := by decide +kernel
theorem dX12_evenings_26 : decode cX12_evenings 26 = .ok (.iload_n 1, 1) := by decide +kernel
theorem dX12_evenings_27 : decode cX12_evenings 27 = .ok (.if_icmp .ge 16, 3) := by decide +kernel
theorem dX12_evenings_30 : decode cX12_evenings 30 = .ok (.iload_n 2, 1) := by decide +kernel
theorem dX12_evenings_31 : decode cX12_evenings 31 = .ok (.aload_n 0, 1) := by decide +kernel
theorem dX12_evenings_32 : decode cX12_evenings 32 = .ok (.invokevirtual 530, 3) := by decide +kernel
theorem dX12_evenings_35 : decode cX12_evenings 35 = .ok (.iadd, 1) := by decide +kernel
theorem dX12_evenings_36 : decode cX12_evenings 36 = .ok (.istore_n 2, 1) := by decide +kernel
theorem dX12_evenings_37 : decode cX12_evenings 37 = .ok (.iinc 3 1, 3) := by decide +kernel
theorem dX12_evenings_40 : decode cX12_evenings 40 = .ok (.goto (-15), 3) := by decide +kernel
theorem dX12_evenings_43 : decode cX12_evenings 43 = .ok (.iload_n 2, 1) := by decide +kernel
theorem dX12_evenings_44 : decode cX12_evenings 44 = .ok (.ireturn, 1) := by decide +kernel
theorem dX12_doesBear_0 : decode cX12_doesBear 0 = .ok (.aload_n 0, 1) := by decide +kernel
theorem dX12_doesBear_1 : decode cX12_doesBear 1 = .ok (.getfield 127, 3) := by decide +kernel
theorem dX12_doesBear_4 : decode cX12_doesBear 4 = .ok (.bipush 11, 2) := by decide +kernel
theorem dX12_doesBear_6 : decode cX12_doesBear 6 = .ok (.iconst 3, 1) := by decide +kernel
theorem dX12_doesBear_7 : decode cX12_doesBear 7 = .ok (.iload_n 2, 1) := by decide +kernel
theorem dX12_doesBear_8 : decode cX12_doesBear 8 = .ok (.imul, 1) := by decide +kernel
theorem dX12_doesBear_9 : decode cX12_doesBear 9 = .ok (.iadd, 1) := by decide +kernel
theorem dX12_doesBear_10 : decode cX12_doesBear 10 = .ok (.iaload, 1) := by decide +kernel
theorem dX12_doesBear_11 : decode cX12_doesBear 11 = .ok (.aload_n 0, 1) := by decide +kernel
theorem dX12_doesBear_12 : decode cX12_doesBear 12 = .ok (.getfield 112, 3) := by decide +kernel
theorem dX12_doesBear_15 : decode cX12_doesBear 15 = .ok (.bipush 26, 2) := by decide +kernel
theorem dX12_doesBear_17 : decode cX12_doesBear 17 = .ok (.iconst 3, 1) := by decide +kernel
theorem dX12_doesBear_18 : decode cX12_doesBear 18 = .ok (.iload_n 1, 1) := by decide +kernel
theorem dX12_doesBear_19 : decode cX12_doesBear 19 = .ok (.imul, 1) := by decide +kernel
theorem dX12_doesBear_20 : decode cX12_doesBear 20 = .ok (.iadd, 1) := by decide +kernel
theorem dX12_doesBear_21 : decode cX12_doesBear 21 = .ok (.iaload, 1) := by decide +kernel
theorem dX12_doesBear_22 : decode cX12_doesBear 22 = .ok (.if_icmp .lt 7, 3) := by decide +kernel
theorem dX12_doesBear_25 : decode cX12_doesBear 25 = .ok (.iconst 1, 1) := by decide +kernel
theorem dX12_doesBear_26 : decode cX12_doesBear 26 = .ok (.goto 4, 3) := by decide +kernel
theorem dX12_doesBear_29 : decode cX12_doesBear 29 = .ok (.iconst 0, 1) := by decide +kernel
theorem dX12_doesBear_30 : decode cX12_doesBear 30 = .ok (.ireturn, 1) := by decide +kernel
theorem dX12_qIsOn_0 : decode cX12_qIsOn 0 = .ok (.aload_n 0, 1) := by decide +kernel
theorem dX12_qIsOn_1 : decode cX12_qIsOn 1 = .ok (.getfield 355, 3) := by decide +kernel
theorem dX12_qIsOn_4 : decode cX12_qIsOn 4 = .ok (.ifCond .le 22, 3) := by decide +kernel
theorem dX12_qIsOn_7 : decode cX12_qIsOn 7 = .ok (.aload_n 0, 1) := by decide +kernel
theorem dX12_qIsOn_8 : decode cX12_qIsOn 8 = .ok (.getfield 251, 3) := by decide +kernel
theorem dX12_qIsOn_11 : decode cX12_qIsOn 11 = .ok (.aload_n 0, 1) := by decide +kernel
theorem dX12_qIsOn_12 : decode cX12_qIsOn 12 = .ok (.getfield 355, 3) := by decide +kernel
theorem dX12_qIsOn_15 : decode cX12_qIsOn 15 = .ok (.iconst 1, 1) := by decide +kernel
theorem dX12_qIsOn_16 : decode cX12_qIsOn 16 = .ok (.isub, 1) := by decide +kernel
theorem dX12_qIsOn_17 : decode cX12_qIsOn 17 = .ok (.iaload, 1) := by decide +kernel
theorem dX12_qIsOn_18 : decode cX12_qIsOn 18 = .ok (.iload_n 1, 1) := by decide +kernel
theorem dX12_qIsOn_19 : decode cX12_qIsOn 19 = .ok (.if_icmp .ne 7, 3) := by decide +kernel
theorem dX12_qIsOn_22 : decode cX12_qIsOn 22 = .ok (.iconst 1, 1) := by decide +kernel
theorem dX12_qIsOn_23 : decode cX12_qIsOn 23 = .ok (.goto 4, 3) := by decide +kernel
theorem dX12_qIsOn_26 : decode cX12_qIsOn 26 = .ok (.iconst 0, 1) := by decide +kernel
theorem dX12_qIsOn_27 : decode cX12_qIsOn 27 = .ok (.ireturn, 1) := by decide +kernel
theorem dX12_isGift_0 : decode cX12_isGift 0 = .ok (.iload_n 1, 1) := by decide +kernel
theorem dX12_isGift_1 : decode cX12_isGift 1 = .ok (.i2l, 1) := by decide +kernel
theorem dX12_isGift_2 : decode cX12_isGift 2 = .ok (.lconst 0, 1) := by decide +kernel
theorem dX12_isGift_3 : decode cX12_isGift 3 = .ok (.aload_n 0, 1) := by decide +kernel
theorem dX12_isGift_4 : decode cX12_isGift 4 = .ok (.invokevirtual 410, 3) := by decide +kernel
theorem dX12_isGift_7 : decode cX12_isGift 7 = .ok (.iconst 1, 1) := by decide +kernel
theorem dX12_isGift_8 : decode cX12_isGift 8 = .ok (.isub, 1) := by decide +kernel
theorem dX12_isGift_9 : decode cX12_isGift 9 = .ok (.i2l, 1) := by decide +kernel
theorem dX12_isGift_10 : decode cX12_isGift 10 = .ok (.invokestatic 303, 3) := by decide +kernel
theorem dX12_isGift_13 : decode cX12_isGift 13 = .ok (.ireturn, 1) := by decide +kernel
theorem dX12_on_0 : decode cX12_on 0 = .ok (.aload_n 0, 1) := by decide +kernel
theorem dX12_on_1 : decode cX12_on 1 = .ok (.getfield 260, 3) := by decide +kernel
theorem dX12_on_4 : decode cX12_on 4 = .ok (.istore_n 1, 1) := by decide +kernel
theorem dX12_on_5 : decode cX12_on 5 = .ok (.aload_n 0, 1) := by decide +kernel
theorem dX12_on_6 : decode cX12_on 6 = .ok (.iconst 0, 1) := by decide +kernel
theorem dX12_on_7 : decode cX12_on 7 = .ok (.putfield 260, 3) := by decide +kernel
theorem dX12_on_10 : decode cX12_on 10 = .ok (.aload_n 0, 1) := by decide +kernel
theorem dX12_on_11 : decode cX12_on 11 = .ok (.iload_n 1, 1) := by decide +kernel
theorem dX12_on_12 : decode cX12_on 12 = .ok (.invokevirtual 699, 3) := by decide +kernel
theorem dX12_on_15 : decode cX12_on 15 = .ok (.ifCond .ne 15, 3) := by decide +kernel
theorem dX12_on_18 : decode cX12_on 18 = .ok (.aload_n 0, 1) := by decide +kernel
theorem dX12_on_19 : decode cX12_on 19 = .ok (.getfield 17, 3) := by decide +kernel
theorem dX12_on_22 : decode cX12_on 22 = .ok (.iconst 5, 1) := by decide +kernel
theorem dX12_on_23 : decode cX12_on 23 = .ok (.dup2, 1) := by decide +kernel
theorem dX12_on_24 : decode cX12_on 24 = .ok (.iaload, 1) := by decide +kernel
theorem dX12_on_25 : decode cX12_on 25 = .ok (.iconst 1, 1) := by decide +kernel
theorem dX12_on_26 : decode cX12_on 26 = .ok (.iadd, 1) := by decide +kernel
theorem dX12_on_27 : decode cX12_on 27 = .ok (.iastore, 1) := by decide +kernel
theorem dX12_on_28 : decode cX12_on 28 = .ok (.iconst 0, 1) := by decide +kernel
theorem dX12_on_29 : decode cX12_on 29 = .ok (.ireturn, 1) := by decide +kernel
theorem dX12_on_30 : decode cX12_on 30 = .ok (.aload_n 0, 1) := by decide +kernel
theorem dX12_on_31 : decode cX12_on 31 = .ok (.getfield 142, 3) := by decide +kernel
theorem dX12_on_34 : decode cX12_on 34 = .ok (.iconst 0, 1) := by decide +kernel
theorem dX12_on_35 : decode cX12_on 35 = .ok (.sipush 256, 3) := by decide +kernel
theorem dX12_on_38 : decode cX12_on 38 = .ok (.aload_n 0, 1) := by decide +kernel
theorem dX12_on_39 : decode cX12_on 39 = .ok (.getfield 7, 3) := by decide +kernel
theorem dX12_on_42 : decode cX12_on 42 = .ok (.iconst 0, 1) := by decide +kernel
theorem dX12_on_43 : decode cX12_on 43 = .ok (.iaload, 1) := by decide +kernel
theorem dX12_on_44 : decode cX12_on 44 = .ok (.imul, 1) := by decide +kernel
theorem dX12_on_45 : decode cX12_on 45 = .ok (.aload_n 0, 1) := by decide +kernel
theorem dX12_on_46 : decode cX12_on 46 = .ok (.getfield 7, 3) := by decide +kernel
theorem dX12_on_49 : decode cX12_on 49 = .ok (.iconst 1, 1) := by decide +kernel
theorem dX12_on_50 : decode cX12_on 50 = .ok (.iaload, 1) := by decide +kernel
theorem dX12_on_51 : decode cX12_on 51 = .ok (.iadd, 1) := by decide +kernel
theorem dX12_on_52 : decode cX12_on 52 = .ok (.iastore, 1) := by decide +kernel
theorem dX12_on_53 : decode cX12_on 53 = .ok (.iconst 2, 1) := by decide +kernel
theorem dX12_on_54 : decode cX12_on 54 = .ok (.istore_n 2, 1) := by decide +kernel
theorem dX12_on_55 : decode cX12_on 55 = .ok (.iconst 0, 1) := by decide +kernel
theorem dX12_on_56 : decode cX12_on 56 = .ok (.istore_n 3, 1) := by decide +kernel
theorem dX12_on_57 : decode cX12_on 57 = .ok (.iload_n 3, 1) := by decide +kernel
theorem dX12_on_58 : decode cX12_on 58 = .ok (.aload_n 0, 1) := by decide +kernel
theorem dX12_on_59 : decode cX12_on 59 = .ok (.invokevirtual 422, 3) := by decide +kernel
theorem dX12_on_62 : decode cX12_on 62 = .ok (.if_icmp .ge 26, 3) := by decide +kernel
theorem dX12_on_65 : decode cX12_on 65 = .ok (.aload_n 0, 1) := by decide +kernel
theorem dX12_on_66 : decode cX12_on 66 = .ok (.getfield 142, 3) := by decide +kernel
theorem dX12_on_69 : decode cX12_on 69 = .ok (.iconst 1, 1) := by decide +kernel
theorem dX12_on_70 : decode cX12_on 70 = .ok (.iload_n 3, 1) := by decide +kernel
theorem dX12_on_71 : decode cX12_on 71 = .ok (.iadd, 1) := by decide +kernel
theorem dX12_on_72 : decode cX12_on 72 = .ok (.aload_n 0, 1) := by decide +kernel
theorem dX12_on_73 : decode cX12_on 73 = .ok (.getfield 7, 3) := by decide +kernel
theorem dX12_on_76 : decode cX12_on 76 = .ok (.iload_n 2, 1) := by decide +kernel
theorem dX12_on_77 : decode cX12_on 77 = .ok (.iaload, 1) := by decide +kernel
theorem dX12_on_78 : decode cX12_on 78 = .ok (.iastore, 1) := by decide +kernel
theorem dX12_on_79 : decode cX12_on 79 = .ok (.iinc 2 1, 3) := by decide +kernel
theorem dX12_on_82 : decode cX12_on 82 = .ok (.iinc 3 1, 3) := by decide +kernel
theorem dX12_on_85 : decode cX12_on 85 = .ok (.goto (-28), 3) := by decide +kernel
theorem dX12_on_88 : decode cX12_on 88 = .ok (.iconst 0, 1) := by decide +kernel
theorem dX12_on_89 : decode cX12_on 89 = .ok (.istore_n 3, 1) := by decide +kernel
theorem dX12_on_90 : decode cX12_on 90 = .ok (.iload_n 3, 1) := by decide +kernel
theorem dX12_on_91 : decode cX12_on 91 = .ok (.aload_n 0, 1) := by decide +kernel
theorem dX12_on_92 : decode cX12_on 92 = .ok (.invokevirtual 410, 3) := by decide +kernel
theorem dX12_on_95 : decode cX12_on 95 = .ok (.if_icmp .ge 26, 3) := by decide +kernel
theorem dX12_on_98 : decode cX12_on 98 = .ok (.aload_n 0, 1) := by decide +kernel
theorem dX12_on_99 : decode cX12_on 99 = .ok (.getfield 142, 3) := by decide +kernel
theorem dX12_on_102 : decode cX12_on 102 = .ok (.iconst 4, 1) := by decide +kernel
theorem dX12_on_103 : decode cX12_on 103 = .ok (.iload_n 3, 1) := by decide +kernel
theorem dX12_on_104 : decode cX12_on 104 = .ok (.iadd, 1) := by decide +kernel
theorem dX12_on_105 : decode cX12_on 105 = .ok (.aload_n 0, 1) := by decide +kernel
theorem dX12_on_106 : decode cX12_on 106 = .ok (.getfield 7, 3) := by decide +kernel
theorem dX12_on_109 : decode cX12_on 109 = .ok (.iload_n 2, 1) := by decide +kernel
theorem dX12_on_110 : decode cX12_on 110 = .ok (.iaload, 1) := by decide +kernel
theorem dX12_on_111 : decode cX12_on 111 = .ok (.iastore, 1) := by decide +kernel
theorem dX12_on_112 : decode cX12_on 112 = .ok (.iinc 2 1, 3) := by decide +kernel
theorem dX12_on_115 : decode cX12_on 115 = .ok (.iinc 3 1, 3) := by decide +kernel
theorem dX12_on_118 : decode cX12_on 118 = .ok (.goto (-28), 3) := by decide +kernel
theorem dX12_on_121 : decode cX12_on 121 = .ok (.iconst 0, 1) := by decide +kernel
theorem dX12_on_122 : decode cX12_on 122 = .ok (.istore_n 3, 1) := by decide +kernel
theorem dX12_on_123 : decode cX12_on 123 = .ok (.iload_n 3, 1) := by decide +kernel
theorem dX12_on_124 : decode cX12_on 124 = .ok (.iconst 3, 1) := by decide +kernel
theorem dX12_on_125 : decode cX12_on 125 = .ok (.aload_n 0, 1) := by decide +kernel
theorem dX12_on_126 : decode cX12_on 126 = .ok (.invokevirtual 419, 3) := by decide +kernel
theorem dX12_on_129 : decode cX12_on 129 = .ok (.imul, 1) := by decide +kernel
theorem dX12_on_130 : decode cX12_on 130 = .ok (.if_icmp .ge 26, 3) := by decide +kernel
theorem dX12_on_133 : decode cX12_on 133 = .ok (.aload_n 0, 1) := by decide +kernel
theorem dX12_on_134 : decode cX12_on 134 = .ok (.getfield 142, 3) := by decide +kernel
theorem dX12_on_137 : decode cX12_on 137 = .ok (.bipush 8, 2) := by decide +kernel
theorem dX12_on_139 : decode cX12_on 139 = .ok (.iload_n 3, 1) := by decide +kernel
theorem dX12_on_140 : decode cX12_on 140 = .ok (.iadd, 1) := by decide +kernel
theorem dX12_on_141 : decode cX12_on 141 = .ok (.aload_n 0, 1) := by decide +kernel
theorem dX12_on_142 : decode cX12_on 142 = .ok (.getfield 7, 3) := by decide +kernel
theorem dX12_on_145 : decode cX12_on 145 = .ok (.iload_n 2, 1) := by decide +kernel
theorem dX12_on_146 : decode cX12_on 146 = .ok (.iload_n 3, 1) := by decide +kernel
theorem dX12_on_147 : decode cX12_on 147 = .ok (.iadd, 1) := by decide +kernel
theorem dX12_on_148 : decode cX12_on 148 = .ok (.iaload, 1) := by decide +kernel
theorem dX12_on_149 : decode cX12_on 149 = .ok (.iastore, 1) := by decide +kernel
theorem dX12_on_150 : decode cX12_on 150 = .ok (.iinc 3 1, 3) := by decide +kernel
theorem dX12_on_153 : decode cX12_on 153 = .ok (.goto (-30), 3) := by decide +kernel
theorem dX12_on_156 : decode cX12_on 156 = .ok (.aload_n 0, 1) := by decide +kernel
theorem dX12_on_157 : decode cX12_on 157 = .ok (.iconst 0, 1) := by decide +kernel
theorem dX12_on_158 : decode cX12_on 158 = .ok (.putfield 413, 3) := by decide +kernel
theorem dX12_on_161 : decode cX12_on 161 = .ok (.iconst 1, 1) := by decide +kernel
theorem dX12_on_162 : decode cX12_on 162 = .ok (.ireturn, 1) := by decide +kernel
theorem dX12_has_0 : decode cX12_has 0 = .ok (.iload_n 1, 1) := by decide +kernel
theorem dX12_has_1 : decode cX12_has 1 = .ok (.tableswitch 103 0 11 #[63, 63, 63, 63, 63, 72, 79, 79, 79, 88, 93, 98], 63) := by decide +kernel
theorem dX12_has_64 : decode cX12_has 64 = .ok (.aload_n 0, 1) := by decide +kernel
theorem dX12_has_65 : decode cX12_has 65 = .ok (.getfield 105, 3) := by decide +kernel
theorem dX12_has_68 : decode cX12_has 68 = .ok (.iconst 5, 1) := by decide +kernel
theorem dX12_has_69 : decode cX12_has 69 = .ok (.iload_n 1, 1) := by decide +kernel
theorem dX12_has_70 : decode cX12_has 70 = .ok (.iadd, 1) := by decide +kernel
theorem dX12_has_71 : decode cX12_has 71 = .ok (.iaload, 1) := by decide +kernel
theorem dX12_has_72 : decode cX12_has 72 = .ok (.ireturn, 1) := by decide +kernel
theorem dX12_has_73 : decode cX12_has 73 = .ok (.aload_n 0, 1) := by decide +kernel
theorem dX12_has_74 : decode cX12_has 74 = .ok (.getfield 142, 3) := by decide +kernel
theorem dX12_has_77 : decode cX12_has 77 = .ok (.iconst 0, 1) := by decide +kernel
theorem dX12_has_78 : decode cX12_has 78 = .ok (.iaload, 1) := by decide +kernel
theorem dX12_has_79 : decode cX12_has 79 = .ok (.ireturn, 1) := by decide +kernel
theorem dX12_has_80 : decode cX12_has 80 = .ok (.aload_n 0, 1) := by decide +kernel
theorem dX12_has_81 : decode cX12_has 81 = .ok (.iload_n 1, 1) := by decide +kernel
theorem dX12_has_82 : decode cX12_has 82 = .ok (.bipush 6, 2) := by decide +kernel
theorem dX12_has_84 : decode cX12_has 84 = .ok (.isub, 1) := by decide +kernel
theorem dX12_has_85 : decode cX12_has 85 = .ok (.invokevirtual 491, 3) := by decide +kernel
theorem dX12_has_88 : decode cX12_has 88 = .ok (.ireturn, 1) := by decide +kernel
theorem dX12_has_89 : decode cX12_has 89 = .ok (.aload_n 0, 1) := by decide +kernel
theorem dX12_has_90 : decode cX12_has 90 = .ok (.invokevirtual 494, 3) := by decide +kernel
theorem dX12_has_93 : decode cX12_has 93 = .ok (.ireturn, 1) := by decide +kernel
theorem dX12_has_94 : decode cX12_has 94 = .ok (.aload_n 0, 1) := by decide +kernel
theorem dX12_has_95 : decode cX12_has 95 = .ok (.getfield 416, 3) := by decide +kernel
theorem dX12_has_98 : decode cX12_has 98 = .ok (.ireturn, 1) := by decide +kernel
theorem dX12_has_99 : decode cX12_has 99 = .ok (.aload_n 0, 1) := by decide +kernel
theorem dX12_has_100 : decode cX12_has 100 = .ok (.getfield 413, 3) := by decide +kernel
theorem dX12_has_103 : decode cX12_has 103 = .ok (.ireturn, 1) := by decide +kernel
theorem dX12_has_104 : decode cX12_has 104 = .ok (.iconst (-1), 1) := by decide +kernel
theorem dX12_has_105 : decode cX12_has 105 = .ok (.ireturn, 1) := by decide +kernel
theorem dX12_canGive_0 : decode cX12_canGive 0 = .ok (.iconst 0, 1) := by decide +kernel
theorem dX12_canGive_1 : decode cX12_canGive 1 = .ok (.istore_n 1, 1) := by decide +kernel
theorem dX12_canGive_2 : decode cX12_canGive 2 = .ok (.iload_n 1, 1) := by decide +kernel
theorem dX12_canGive_3 : decode cX12_canGive 3 = .ok (.aload_n 0, 1) := by decide +kernel
theorem dX12_canGive_4 : decode cX12_canGive 4 = .ok (.invokevirtual 410, 3) := by decide +kernel
theorem dX12_canGive_7 : decode cX12_canGive 7 = .ok (.if_icmp .ge 23, 3) := by decide +kernel
theorem dX12_canGive_10 : decode cX12_canGive 10 = .ok (.aload_n 0, 1) := by decide +kernel
theorem dX12_canGive_11 : decode cX12_canGive 11 = .ok (.getfield 166, 3) := by decide +kernel
theorem dX12_canGive_14 : decode cX12_canGive 14 = .ok (.iload_n 1, 1) := by decide +kernel
theorem dX12_canGive_15 : decode cX12_canGive 15 = .ok (.aload_n 0, 1) := by decide +kernel
theorem dX12_canGive_16 : decode cX12_canGive 16 = .ok (.getfield 142, 3) := by decide +kernel
theorem dX12_canGive_19 : decode cX12_canGive 19 = .ok (.iconst 4, 1) := by decide +kernel
theorem dX12_canGive_20 : decode cX12_canGive 20 = .ok (.iload_n 1, 1) := by decide +kernel
theorem dX12_canGive_21 : decode cX12_canGive 21 = .ok (.iadd, 1) := by decide +kernel
theorem dX12_canGive_22 : decode cX12_canGive 22 = .ok (.iaload, 1) := by decide +kernel
theorem dX12_canGive_23 : decode cX12_canGive 23 = .ok (.iastore, 1) := by decide +kernel
theorem dX12_canGive_24 : decode cX12_canGive 24 = .ok (.iinc 1 1, 3) := by decide +kernel
theorem dX12_canGive_27 : decode cX12_canGive 27 = .ok (.goto (-25), 3) := by decide +kernel
theorem dX12_canGive_30 : decode cX12_canGive 30 = .ok (.iconst 0, 1) := by decide +kernel
theorem dX12_canGive_31 : decode cX12_canGive 31 = .ok (.istore_n 1, 1) := by decide +kernel
theorem dX12_canGive_32 : decode cX12_canGive 32 = .ok (.iload_n 1, 1) := by decide +kernel
theorem dX12_canGive_33 : decode cX12_canGive 33 = .ok (.aload_n 0, 1) := by decide +kernel
theorem dX12_canGive_34 : decode cX12_canGive 34 = .ok (.invokevirtual 419, 3) := by decide +kernel
theorem dX12_canGive_37 : decode cX12_canGive 37 = .ok (.if_icmp .ge 56, 3) := by decide +kernel
theorem dX12_canGive_40 : decode cX12_canGive 40 = .ok (.aload_n 0, 1) := by decide +kernel
theorem dX12_canGive_41 : decode cX12_canGive 41 = .ok (.getfield 148, 3) := by decide +kernel
theorem dX12_canGive_44 : decode cX12_canGive 44 = .ok (.iload_n 1, 1) := by decide +kernel
theorem dX12_canGive_45 : decode cX12_canGive 45 = .ok (.iaload, 1) := by decide +kernel
theorem dX12_canGive_46 : decode cX12_canGive 46 = .ok (.ifCond .ne 6, 3) := by decide +kernel
theorem dX12_canGive_49 : decode cX12_canGive 49 = .ok (.goto 38, 3) := by decide +kernel
theorem dX12_canGive_52 : decode cX12_canGive 52 = .ok (.aload_n 0, 1) := by decide +kernel
theorem dX12_canGive_53 : decode cX12_canGive 53 = .ok (.getfield 166, 3) := by decide +kernel
theorem dX12_canGive_56 : decode cX12_canGive 56 = .ok (.aload_n 0, 1) := by decide +kernel
theorem dX12_canGive_57 : decode cX12_canGive 57 = .ok (.getfield 148, 3) := by decide +kernel
theorem dX12_canGive_60 : decode cX12_canGive 60 = .ok (.iload_n 1, 1) := by decide +kernel
theorem dX12_canGive_61 : decode cX12_canGive 61 = .ok (.iaload, 1) := by decide +kernel
theorem dX12_canGive_62 : decode cX12_canGive 62 = .ok (.iconst 1, 1) := by decide +kernel
theorem dX12_canGive_63 : decode cX12_canGive 63 = .ok (.isub, 1) := by decide +kernel
theorem dX12_canGive_64 : decode cX12_canGive 64 = .ok (.dup2, 1) := by decide +kernel
theorem dX12_canGive_65 : decode cX12_canGive 65 = .ok (.iaload, 1) := by decide +kernel
theorem dX12_canGive_66 : decode cX12_canGive 66 = .ok (.iconst 1, 1) := by decide +kernel
theorem dX12_canGive_67 : decode cX12_canGive 67 = .ok (.isub, 1) := by decide +kernel
theorem dX12_canGive_68 : decode cX12_canGive 68 = .ok (.iastore, 1) := by decide +kernel
theorem dX12_canGive_69 : decode cX12_canGive 69 = .ok (.aload_n 0, 1) := by decide +kernel
theorem dX12_canGive_70 : decode cX12_canGive 70 = .ok (.getfield 166, 3) := by decide +kernel
theorem dX12_canGive_73 : decode cX12_canGive 73 = .ok (.aload_n 0, 1) := by decide +kernel
theorem dX12_canGive_74 : decode cX12_canGive 74 = .ok (.getfield 148, 3) := by decide +kernel
theorem dX12_canGive_77 : decode cX12_canGive 77 = .ok (.iload_n 1, 1) := by decide +kernel
theorem dX12_canGive_78 : decode cX12_canGive 78 = .ok (.iaload, 1) := by decide +kernel
theorem dX12_canGive_79 : decode cX12_canGive 79 = .ok (.iconst 1, 1) := by decide +kernel
theorem dX12_canGive_80 : decode cX12_canGive 80 = .ok (.isub, 1) := by decide +kernel
theorem dX12_canGive_81 : decode cX12_canGive 81 = .ok (.iaload, 1) := by decide +kernel
theorem dX12_canGive_82 : decode cX12_canGive 82 = .ok (.ifCond .ge 5, 3) := by decide +kernel
theorem dX12_canGive_85 : decode cX12_canGive 85 = .ok (.iconst 0, 1) := by decide +kernel
theorem dX12_canGive_86 : decode cX12_canGive 86 = .ok (.ireturn, 1) := by decide +kernel
theorem dX12_canGive_87 : decode cX12_canGive 87 = .ok (.iinc 1 1, 3) := by decide +kernel
theorem dX12_canGive_90 : decode cX12_canGive 90 = .ok (.goto (-58), 3) := by decide +kernel
theorem dX12_canGive_93 : decode cX12_canGive 93 = .ok (.iconst 1, 1) := by decide +kernel
theorem dX12_canGive_94 : decode cX12_canGive 94 = .ok (.ireturn, 1) := by decide +kernel
theorem dX12_doneOf_0 : decode cX12_doneOf 0 = .ok (.aload_n 0, 1) := by decide +kernel
theorem dX12_doneOf_1 : decode cX12_doneOf 1 = .ok (.getfield 142, 3) := by decide +kernel
theorem dX12_doneOf_4 : decode cX12_doneOf 4 = .ok (.bipush 8, 2) := by decide +kernel
theorem dX12_doneOf_6 : decode cX12_doneOf 6 = .ok (.iconst 3, 1) := by decide +kernel
theorem dX12_doneOf_7 : decode cX12_doneOf 7 = .ok (.iload_n 1, 1) := by decide +kernel
theorem dX12_doneOf_8 : decode cX12_doneOf 8 = .ok (.imul, 1) := by decide +kernel
theorem dX12_doneOf_9 : decode cX12_doneOf 9 = .ok (.iadd, 1) := by decide +kernel
theorem dX12_doneOf_10 : decode cX12_doneOf 10 = .ok (.iaload, 1) := by decide +kernel
theorem dX12_doneOf_11 : decode cX12_doneOf 11 = .ok (.ireturn, 1) := by decide +kernel
theorem dX12_qTakes_0 : decode cX12_qTakes 0 = .ok (.iload_n 1, 1) := by decide +kernel
theorem dX12_qTakes_1 : decode cX12_qTakes 1 = .ok (.iconst 3, 1) := by decide +kernel
theorem dX12_qTakes_2 : decode cX12_qTakes 2 = .ok (.if_icmp .ge 13, 3) := by decide +kernel
theorem dX12_qTakes_5 : decode cX12_qTakes 5 = .ok (.lload_n 2, 1) := by decide +kernel
theorem dX12_qTakes_6 : decode cX12_qTakes 6 = .ok (.lconst 1, 1) := by decide +kernel
theorem dX12_qTakes_7 : decode cX12_qTakes 7 = .ok (.lcmp, 1) := by decide +kernel
theorem dX12_qTakes_8 : decode cX12_qTakes 8 = .ok (.ifCond .ne 7, 3) := by decide +kernel
theorem dX12_qTakes_11 : decode cX12_qTakes 11 = .ok (.iconst 1, 1) := by decide +kernel
theorem dX12_qTakes_12 : decode cX12_qTakes 12 = .ok (.goto 4, 3) := by decide +kernel
theorem dX12_qTakes_15 : decode cX12_qTakes 15 = .ok (.iconst 0, 1) := by decide +kernel
theorem dX12_qTakes_16 : decode cX12_qTakes 16 = .ok (.istore 5, 2) := by decide +kernel
theorem dX12_qTakes_18 : decode cX12_qTakes 18 = .ok (.iload_n 1, 1) := by decide +kernel
theorem dX12_qTakes_19 : decode cX12_qTakes 19 = .ok (.ifCond .ne 19, 3) := by decide +kernel
theorem dX12_qTakes_22 : decode cX12_qTakes 22 = .ok (.iload 5, 2) := by decide +kernel
theorem dX12_qTakes_24 : decode cX12_qTakes 24 = .ok (.ifCond .eq 14, 3) := by decide +kernel
theorem dX12_qTakes_27 : decode cX12_qTakes 27 = .ok (.aload_n 0, 1) := by decide +kernel
theorem dX12_qTakes_28 : decode cX12_qTakes 28 = .ok (.getfield 664, 3) := by decide +kernel
theorem dX12_qTakes_31 : decode cX12_qTakes 31 = .ok (.ldc2_w 667, 3) := by decide +kernel
theorem dX12_qTakes_34 : decode cX12_qTakes 34 = .ok (.lcmp, 1) := by decide +kernel
theorem dX12_qTakes_35 : decode cX12_qTakes 35 = .ok (.ifCond .eq 13, 3) := by decide +kernel
theorem dX12_qTakes_38 : decode cX12_qTakes 38 = .ok (.iload_n 1, 1) := by decide +kernel
theorem dX12_qTakes_39 : decode cX12_qTakes 39 = .ok (.iconst 1, 1) := by decide +kernel
theorem dX12_qTakes_40 : decode cX12_qTakes 40 = .ok (.if_icmp .ne 15, 3) := by decide +kernel
theorem dX12_qTakes_43 : decode cX12_qTakes 43 = .ok (.iload 5, 2) := by decide +kernel
theorem dX12_qTakes_45 : decode cX12_qTakes 45 = .ok (.ifCond .eq 10, 3) := by decide +kernel
theorem dX12_qTakes_48 : decode cX12_qTakes 48 = .ok (.aload_n 0, 1) := by decide +kernel
